/-! both programs enact -/
theorem WO_c2 {f g : Int → Int} (h : ∀ j, 0 ≤ j → j < 6 → g j = f j) (hk : ∀ k, 0 ≤ k → k < f 5 → g (6 + k) = f (6 + k)) (w : WO f) : WO g := by
  obtain ⟨a1, a2, a3, a4, a5, a6, a7, a8, a9, a10⟩ := w
  unfold WO
  rw [h 0 (by decide) (by decide), h 1 (by decide) (by decide), h 2 (by decide) (by decide), h 3 (by decide) (by decide), h 4 (by decide) (by decide), h 5 (by decide) (by decide)]
  refine ⟨a1, a2, a3, a4, a5, a6, a7, a8, a9, fun k k0 k1 => ?_⟩
  rw [hk k k0 k1]
  exact a10 k k0 k1
theorem DO_c2 {d f g : Int → Int} (h : ∀ j, 0 ≤ j → j < 6 → g j = f j) (hk : ∀ k, 0 ≤ k → k < f 5 → g (6 + k) = f (6 + k)) (w : DO d f) : DO d g := by
  obtain ⟨a1, a2, a3, a4, a5, a6, a7, a8⟩ := w
  unfold DO
  rw [h 0 (by decide) (by decide), h 1 (by decide) (by decide), h 2 (by decide) (by decide), h 3 (by decide) (by decide), h 4 (by decide) (by decide), h 5 (by decide) (by decide)]
  refine ⟨a1, a2, a3, a4, a5, a6, a7, fun k k0 k1 => ?_⟩
  rw [hk k k0 k1]
  exact a8 k k0 k1
theorem nv_o {T : Int → Int} {p : Int} (h : df 1 T p = -1) (p0 : 0 ≤ p) : 729 ≤ nv T p := by
  have a := df_o h p0
  have b := nv_r (T := T) (p := p)
  have c := dg_is T p
  exact b.2.2 (by omega)
theorem WO_op {T : Int → Int} {n s : Int} (x : TX T n) (s0 : 0 ≤ s) (s1 : s ≤ n) (h : opE T s = -1) : WO (opF T s) := by
  have ar := oA_r x s0 s1
  have br := oB_r x s0 s1
  have b3 := o3_r x s0 s1
  have kr := kd_r T s
  have wr := wc_r T (oB T s)
  have n1 := nv_r (T := T) (p := oA T s)
  have n3 := nv_r (T := T) (p := o3 T s)
  have d4 := dg_is T (o4 T s)
  have d5 := dg_is T (o5 T s)
  have hk : ¬ kd T s = -1 := fun k => by unfold opE at h; rw [if_pos k] at h; omega
  have e1 : df 1 T (oA T s) = -1 := by
    unfold opE at h
    rw [if_neg hk] at h
    by_cases k0 : kd T s = 0
    · rw [if_pos k0] at h; exact (th_e h).1
    rw [if_neg k0] at h
    by_cases k1 : kd T s = 1
    · rw [if_pos k1] at h; exact (th_e h).1
    rw [if_neg k1] at h
    by_cases k3 : kd T s = 3
    · rw [if_pos k3] at h; exact (th_e h).1
    rw [if_neg k3] at h
    by_cases k4 : kd T s = 4
    · rw [if_pos k4] at h; exact (th_e h).1
    rw [if_neg k4] at h
    exact (th_e h).1
  have e3 : kd T s = 3 → df 1 T (o3 T s) = -1 := fun k3 => by
    unfold opE at h
    rw [if_neg hk, if_neg (by omega), if_neg (by omega), if_pos k3] at h
    exact (th_e (th_e h).2).2
  unfold WO
  rw [opF_0, opF_1, opF_2, opF_3, opF_4, opF_5]
  refine ⟨by omega, ⟨nv_o e1 (by omega), n1.2.1⟩, ?_, fun k3 => ?_, fun k4 => ?_, ?_, ?_, ?_, fun k2 => ?_, fun k k0 k1 => ?_⟩
  · split
    · omega
    · split <;> omega
  · rw [if_pos k3]; exact nv_o (e3 k3) (by omega)
  · rw [if_neg (by omega), if_pos k4]; omega
  · split <;> omega
  · have sv : ∀ q, svV T q = 0 ∨ svV T q = 1 := fun q => by
      unfold svV
      split
      · exact Or.inr rfl
      · exact Or.inl rfl
    repeat' split
    all_goals first | exact sv _ | exact Or.inl rfl
  · split <;> omega
  · rw [if_neg (by omega)]
  · have k2 : kd T s < 2 := by
      by_cases k2 : kd T s < 2
      · exact k2
      · rw [if_neg k2] at k1; omega
    rw [if_pos k2] at k1
    rw [opF_6 T s k0]
    have hw := (wr.2.2 k k0 k1).2
    have qr := wq_r x (p := oB T s) (by omega) (by omega) k
    have sr := x.skr (p := wq T (oB T s) k) (by omega) (by omega)
    unfold wE at hw
    unfold wV
    by_cases z : T (sk T (wq T (oB T s) k)) = 64
    · rw [if_pos z] at hw ⊢
      have := nv_o hw (by omega)
      have := nv_r (T := T) (p := sk T (wq T (oB T s) k) + 1)
      omega
    · rw [if_neg z] at hw ⊢
      have := dg_is T (sk T (wq T (oB T s) k))
      omega
theorem sp_addDraft_no {M : am_M} {d : Int} (s : CSt M) (hN : 0 ≤ iv M 4 1 ∧ iv M 4 1 ≤ 40) (hI : 0 ≤ iv M 4 2 ∧ iv M 4 2 ≤ 40) (h : ¬ (iv M 11 0 < 20 ∧ iv M 11 1 + iv M 4 1 ≤ 120 ∧ iv M 11 2 + iv M 4 2 ≤ 40)) : am_call t_SB_addDraft [.ref 0, .int (zi d)] M (some (.int (zi (-4)))) M := by
  have w := s.1
  have cb := s.2.1
  have tt := w.tot
  have ii := w.ins
  have iz := ia_nn (iv M 59) (nops (iv M 59))
  have nn : 0 ≤ nops (iv M 59) := w.fo_nn (n := iv M 59 0) (Int.le_refl _)
  have c1 := cb.2.1
  have c2 := cb.2.2.1
  exact am_call_of ⟨Nat.le_of_ble_eq_true rfl, rfl⟩ (vc_addDraft d M _ ⟨⟨⟨by omega, by omega⟩, ⟨by omega, by omega⟩⟩, fun q => absurd q h, fun _ => ⟨rfl, rfl⟩⟩)
theorem rins_nin {M Mr : am_M} {N : Int} (eN : iv Mr 58 21 = N) (hd : ∀ i, 0 ≤ i → i < N → DO (fun w => iv M 6 (i * 13 + w)) (fun w => iv Mr 74 (12 * i + w))) : rins Mr = nin (iv M 6) N := by
  unfold rins nin
  rw [eN]
  refine sm_congr (fun i i0 i1 => ?_)
  have := (hd i i0 i1).1
  have e : iv M 6 (i * 13 + 0) = iv Mr 74 (12 * i + 0) := this
  rw [Int.add_zero, Int.add_zero] at e
  show (if iv Mr 74 (12 * i) = 0 then (1 : Int) else 0) = if iv M 6 (i * 13) = 0 then 1 else 0
  rw [e]
theorem both_yes {M : am_M} (rr : RR M) {N d : Int} (eN : iv M 4 1 = N) (N0 : 1 ≤ N) (N1 : N ≤ 40) (dd : 0 ≤ d ∧ d ≤ 9999) (eI : iv M 4 2 = nin (iv M 6) N) (h : iv M 11 0 < 20 ∧ iv M 11 1 + N ≤ 120 ∧ iv M 11 2 + iv M 4 2 ≤ 40) : ∃ Ma, am_call t_SB_addDraft [.ref 0, .int (zi d)] M (some (.int (zi (iv M 59 0)))) Ma ∧ (∀ a, ¬ a = 11 → ¬ a = 12 → ¬ a = 14 → Ma a = M a) ∧
    ∀ Mr, Mr 12 = Ma 12 → Mr 14 = Ma 14 → Mr 59 = M 59 → Mr 60 = M 60 → Mr 61 = M 61 → Mr 62 = M 62 → Mr 58 2 = M 58 2 → iv Mr 58 21 = N → (∀ i, 0 ≤ i → i < N → DO (fun w => iv M 6 (i * 13 + w)) (fun w => iv Mr 74 (12 * i + w))) → (∀ i, 0 ≤ i → i < N → WO (fun w => iv Mr 74 (12 * i + w))) →
      ∃ M3, am_call t_Mo_adds [.ref 58, .int (zi d)] Mr (some (.int (zi (iv M 59 0)))) M3 ∧ (∀ a, ¬ a = 58 → ¬ a = 59 → ¬ a = 60 → M3 a = Mr a) ∧ (∀ j, ¬ j = 2 → M3 58 j = Mr 58 j) ∧ ARC M3 ∧ BKr (iv Ma 11) (iv M3 59) := by
  have s := rr.1
  have w := s.1
  have cb := s.2.1
  have tt := w.tot
  have ii := w.ins
  have iz := ia_nn (iv M 59) (nops (iv M 59))
  have nn : 0 ≤ nops (iv M 59) := w.fo_nn (n := iv M 59 0) (Int.le_refl _)
  have w0 := w.n0
  have c0 := cb.1
  have c1 := cb.2.1
  have c2 := cb.2.2.1
  have nr := nin_r' (iv M 6) (i := N) (by omega)
  obtain ⟨M1, p1, p2, p3⟩ := st_change2 rr
  have e11 : iv M1 11 = iv M 11 := iv_row (p2 11 (by decide) (by decide))
  have e6 : iv M1 6 = iv M 6 := iv_row (p2 6 (by decide) (by decide))
  obtain ⟨Ma, a1, a2, a3⟩ := sp_add (M := M1) (N := N) (d := d) (by rw [iv_row (p2 4 (by decide) (by decide)), eN]) N0 N1 ⟨by omega, by omega⟩ (by rw [e11]; omega) (by rw [e11]; omega) (by rw [e11]; omega)
  rw [e11, e6] at a3
  refine ⟨Ma, am_call_of ⟨Nat.le_of_ble_eq_true rfl, rfl⟩ (vc_addDraft d M _ ⟨⟨⟨by omega, by omega⟩, ⟨by omega, by omega⟩⟩, fun _ => ⟨M1, p1, Ma, a1, ?_, rfl⟩, fun q => absurd (by rw [eN]; exact h) q⟩), fun a x1 x2 x3 => by rw [a2 a x1, p2 a x2 x3], fun Mr r12 r14 r59 r60 r61 r62 r2 r21 hd hw => ?_⟩
  · rw [a3.1, c0, show iv M 59 0 + 1 - 1 = iv M 59 0 by omega]
  · obtain ⟨M2, k1, k2, k3, k4⟩ := p3 Mr (by rw [r12, a2 12 (by decide)]) (by rw [r14, a2 14 (by decide)]) r59 r60 r61 r62 r2
    have ri := rins_nin r21 hd
    have e59 : iv Mr 59 = iv M 59 := iv_row r59
    obtain ⟨M3, m1, m2, m3⟩ := sp_adds k1 k2 k3 (N := N) (d := d) (by rw [e59]; exact w) r21 N0 N1 ⟨by omega, by omega⟩ (by rw [e59]; omega) (by rw [e59]; omega) (by rw [e59, ri]; omega) (by rw [ri]; omega)
    rw [e59] at m1 m3
    exact ⟨M3, m1, fun a x1 x2 x3 => by rw [m2 a x2, k2 a x1 x3], fun j hj => by rw [m2 58 (by decide), k3 j hj], k4 M3 m2, bk_add s a3 m3 (by omega) N0 N1 (by omega) (by omega) dd hd hw⟩
theorem txt_X {M : am_M} (t : TXT M) : XT (tb M) (iv M 2 1) M ∧ XM (tb M) (iv M 2 1) M := by
  obtain ⟨t1, t2, t3⟩ := t
  have x : TX (tb M) (iv M 2 1) := by
    refine ⟨t2, fun k k0 k1 => ?_, fun k k0 => ?_⟩
    · unfold tb
      rw [if_pos ⟨⟨k0, by omega⟩, k1⟩]
      exact (t3 k k0 k1).2
    · unfold tb
      rw [if_neg (by omega)]
  refine ⟨⟨rfl, rfl, x⟩, fun k k0 => ?_, t1, x⟩
  unfold mtb tb
  rw [t1]
  by_cases h : k < iv M 2 1
  · rw [if_pos h, if_pos ⟨⟨k0, by omega⟩, h⟩]
    exact (t3 k k0 h).1.symm
  · rw [if_neg h, if_neg (by omega)]
/-- all of the relation, row by row -/
theorem rr_rows {M M' : am_M} (rr : RR M) (h : ∀ a, (a = 2 ∨ a = 3 ∨ a = 7 ∨ a = 8 ∨ a = 11 ∨ a = 12 ∨ a = 14 ∨ (59 ≤ a ∧ a ≤ 62) ∨ a = 73 ∨ a = 75) → M' a = M a) (f : ∀ j, (j = 2 ∨ j = 17 ∨ j = 23 ∨ j = 24) → M' 58 j = M 58 j) : RR M' := by
  obtain ⟨s1, s2, s3, s4⟩ := rr
  exact ⟨cst_rows s1 (h 11 (by decide)) (h 59 (by decide)), txt_rows s2 (h 2 (by decide)) (h 3 (by decide)) (h 73 (by decide)) (f 17 (by decide)), out_rows s3 (h 7 (by decide)) (h 8 (by decide)) (h 75 (by decide)) (f 23 (by decide)) (f 24 (by decide)), arc_rows s4 (h 12 (by decide)) (h 14 (by decide)) (h 60 (by decide)) (h 61 (by decide)) (h 62 (by decide)) (f 2 (by decide))⟩
set_option maxRecDepth 100000 in
theorem vc_c_enact (d : Int) (M : am_M) (Q : Option Value → am_M → Prop) (hv : (zr d ∧ zr (9999 : Int)) ∧ ((0 ≤ d ∧ d ≤ 9999 → ∃ (r2 : Int) (M1 : am_M), am_call t_Rea_readAmendment [.ref 1] M (some (.int (zi r2))) M1 ∧ ((zr r2) ∧ ((r2 = (-1) → ∃ (r5 : Int) (M4 : am_M), am_call t_SB_addDraft [.ref 0, .int (zi d)] M1 (some (.int (zi r5))) M4 ∧ ((zr r5) ∧ ((r5 = (-4) → Q (some (.int (zi r5))) M4) ∧ (¬ r5 = (-4) → ∃ M7, am_call t_Pag_makeEmpty [.ref 2] M4 none M7 ∧ (Q (some (.int (zi r5))) M7))))) ∧ (¬ r2 = (-1) → Q (some (.int (zi ((-2000) - r2)))) M1)))) ∧ (¬ (0 ≤ d ∧ d ≤ 9999) → Q (some (.int (zi (-2)))) M))) : am_x t_SB_enact (0, am_ent (am_mL t_SB_enact) [.ref 0, .int (zi d)], [], M) Q := by
  refine am_xn 0 (c1 := (0, [.ref 0, .int (zi d), .null, .null], [], M)) rfl ?_
  refine am_xn 2 (c1 := (4, [.ref 0, .int (zi d), .null, .null], [.int (zi 9999), .int (zi d)], M)) rfl ?_
  obtain ⟨g, hv⟩ := hv
  by_cases c8 : 0 ≤ d ∧ d ≤ 9999
  · replace hv := hv.1 c8
    refine am_xc t_SB_within (.invokestatic 56) 56 (av := [.int (zi d), .int (zi 9999)]) (rest := []) (rv := some (.int (zi 1))) (M' := M) rfl rfl rfl rfl (Nat.le_of_ble_eq_true rfl) (fun h => nomatch h) (by have q := sp_within M d 9999 g; rwa [if_pos c8] at q) ?_
    refine am_xn 0 (c1 := (7, [.ref 0, .int (zi d), .null, .null], [.int (zi 1)], M)) rfl ?_
    refine am_xn 3 (c1 := (17, [.ref 0, .int (zi d), .null, .null], [.ref 1], M)) rfl ?_
    obtain ⟨r2, M1, hc, hv⟩ := hv
    refine am_xc t_Rea_readAmendment (.invokevirtual 73) 73 (av := [.ref 1]) (rest := []) (rv := some (.int (zi r2))) (M' := M1) rfl rfl rfl rfl (Nat.le_of_ble_eq_true rfl) (fun _ => rfl) (hc) ?_
    refine am_xn 0 (c1 := (20, [.ref 0, .int (zi d), .null, .null], [.int (zi r2)], M1)) rfl ?_
    obtain ⟨r3, hv⟩ := hv
    refine am_xn 4 (c1 := (if zi r2 = zi (-1) then 32 else 26, [.ref 0, .int (zi d), .int (zi r2), .null], [], M1)) rfl (am_xeq r3 (by decide) (fun h => ?_) (fun h => ?_))
    · replace hv := hv.1 h
      refine am_xn 2 (c1 := (34, [.ref 0, .int (zi d), .int (zi r2), .null], [.int (zi d), .ref 0], M1)) rfl ?_
      obtain ⟨r5, M4, hc, hv⟩ := hv
      refine am_xc t_SB_addDraft (.invokevirtual 76) 76 (av := [.ref 0, .int (zi d)]) (rest := []) (rv := some (.int (zi r5))) (M' := M4) rfl rfl rfl rfl (Nat.le_of_ble_eq_true rfl) (fun _ => rfl) (hc) ?_
      refine am_xn 0 (c1 := (37, [.ref 0, .int (zi d), .int (zi r2), .null], [.int (zi r5)], M4)) rfl ?_
      obtain ⟨r6, hv⟩ := hv
      refine am_xn 4 (c1 := (if zi r5 = zi (-4) then 54 else 44, [.ref 0, .int (zi d), .int (zi r2), .int (zi r5)], [], M4)) rfl (am_xeq r6 (by decide) (fun h => ?_) (fun h => ?_))
      · replace hv := hv.1 h
        refine am_xn 1 (c1 := (55, [.ref 0, .int (zi d), .int (zi r2), .int (zi r5)], [.int (zi r5)], M4)) rfl ?_
        exact am_xr (some (.int (zi r5))) ⟨rfl, rfl, .int, rfl, rfl⟩ hv
      · replace hv := hv.2 h
        refine am_xn 3 (c1 := (51, [.ref 0, .int (zi d), .int (zi r2), .int (zi r5)], [.ref 2], M4)) rfl ?_
        obtain ⟨M7, hc, hv⟩ := hv
        refine am_xc t_Pag_makeEmpty (.invokevirtual 70) 70 (av := [.ref 2]) (rest := []) (rv := none) (M' := M7) rfl rfl rfl rfl (Nat.le_of_ble_eq_true rfl) (fun _ => rfl) (hc) ?_
        refine am_xn 0 (c1 := (54, [.ref 0, .int (zi d), .int (zi r2), .int (zi r5)], [], M7)) rfl ?_
        refine am_xn 1 (c1 := (55, [.ref 0, .int (zi d), .int (zi r2), .int (zi r5)], [.int (zi r5)], M7)) rfl ?_
        exact am_xr (some (.int (zi r5))) ⟨rfl, rfl, .int, rfl, rfl⟩ hv
    · replace hv := hv.2 h
      refine am_xn 2 (c1 := (30, [.ref 0, .int (zi d), .int (zi r2), .null], [.int (zi r2), .int (zi (-2000))], M1)) rfl ?_
      refine am_xisub 1 (-2000) r2 (pc := 31) (ls := [.ref 0, .int (zi d), .int (zi r2), .null]) (st := []) rfl ?_
      exact am_xr (some (.int (zi ((-2000) - r2)))) ⟨rfl, rfl, .int, rfl, rfl⟩ hv
  · replace hv := hv.2 c8
    refine am_xc t_SB_within (.invokestatic 56) 56 (av := [.int (zi d), .int (zi 9999)]) (rest := []) (rv := some (.int (zi 0))) (M' := M) rfl rfl rfl rfl (Nat.le_of_ble_eq_true rfl) (fun h => nomatch h) (by have q := sp_within M d 9999 g; rwa [if_neg c8] at q) ?_
    refine am_xn 0 (c1 := (7, [.ref 0, .int (zi d), .null, .null], [.int (zi 0)], M)) rfl ?_
    refine am_xn 2 (c1 := (12, [.ref 0, .int (zi d), .null, .null], [.int (zi (-2))], M)) rfl ?_
    exact am_xr (some (.int (zi (-2)))) ⟨rfl, rfl, .int, rfl, rfl⟩ hv
set_option maxRecDepth 100000 in
theorem vc_m_enact (d : Int) (M : am_M) (Q : Option Value → am_M → Prop) (hv : (zr d) ∧ ((0 ≤ d ∧ d ≤ 9999 → ∃ M1, am_call t_Mo_readsAll [.ref 58] M none M1 ∧ (((iv M1 58 19) = (-1) → ∃ (r3 : Int) (M2 : am_M), am_call t_Mo_adds [.ref 58, .int (zi d)] M1 (some (.int (zi r3))) M2 ∧ ((zr r3) ∧ ((r3 < 0 → ∀ M5, M5 = zup M2 58 17 (iv M2 58 17) → Q (some (.int (zi r3))) M5) ∧ (0 ≤ r3 → ∀ M6, M6 = zup M2 58 17 0 → Q (some (.int (zi r3))) M6)))) ∧ (¬ (iv M1 58 19) = (-1) → Q (some (.int (zi ((-2000) - (iv M1 58 19))))) M1))) ∧ (¬ (0 ≤ d ∧ d ≤ 9999) → Q (some (.int (zi (-2)))) M))) : am_x t_Mo_enact (0, am_ent (am_mL t_Mo_enact) [.ref 58, .int (zi d)], [], M) Q := by
  refine am_xn 0 (c1 := (0, [.ref 58, .int (zi d), .null], [], M)) rfl ?_
  refine am_xn 1 (c1 := (1, [.ref 58, .int (zi d), .null], [.int (zi d)], M)) rfl ?_
  obtain ⟨g, hv⟩ := hv
  by_cases c7 : 0 ≤ d ∧ d ≤ 9999
  · replace hv := hv.1 c7
    refine am_xc t_Mo_isDay (.invokestatic 80) 80 (av := [.int (zi d)]) (rest := []) (rv := some (.int (zi 1))) (M' := M) rfl rfl rfl rfl (Nat.le_of_ble_eq_true rfl) (fun h => nomatch h) (by have q := sp_isDay M d g; rwa [if_pos c7] at q) ?_
    refine am_xn 0 (c1 := (4, [.ref 58, .int (zi d), .null], [.int (zi 1)], M)) rfl ?_
    refine am_xn 2 (c1 := (11, [.ref 58, .int (zi d), .null], [.ref 58], M)) rfl ?_
    obtain ⟨M1, hc, hv⟩ := hv
    refine am_xc t_Mo_readsAll (.invokevirtual 233) 233 (av := [.ref 58]) (rest := []) (rv := none) (M' := M1) rfl rfl rfl rfl (Nat.le_of_ble_eq_true rfl) (fun _ => rfl) (hc) ?_
    refine am_xn 0 (c1 := (14, [.ref 58, .int (zi d), .null], [], M1)) rfl ?_
    refine am_xrd 2 58 19 (pc := 18) (ls := [.ref 58, .int (zi d), .null]) (st := []) rfl ?_
    refine am_xn 2 (c1 := (if zi (iv M1 58 19) = zi (-1) then 31 else 22, [.ref 58, .int (zi d), .null], [], M1)) rfl (am_xeq (iv_r _ _ _) (by decide) (fun h => ?_) (fun h => ?_))
    · replace hv := hv.1 h
      refine am_xn 2 (c1 := (33, [.ref 58, .int (zi d), .null], [.int (zi d), .ref 58], M1)) rfl ?_
      obtain ⟨r3, M2, hc, hv⟩ := hv
      refine am_xc t_Mo_adds (.invokevirtual 236) 236 (av := [.ref 58, .int (zi d)]) (rest := []) (rv := some (.int (zi r3))) (M' := M2) rfl rfl rfl rfl (Nat.le_of_ble_eq_true rfl) (fun _ => rfl) (hc) ?_
      refine am_xn 0 (c1 := (36, [.ref 58, .int (zi d), .null], [.int (zi r3)], M2)) rfl ?_
      obtain ⟨r4, hv⟩ := hv
      refine am_xn 4 (c1 := (if zi r3 < zi 0 then 46 else 42, [.ref 58, .int (zi d), .int (zi r3)], [.ref 58], M2)) rfl (am_xlt r4 (by decide) (fun h => ?_) (fun h => ?_))
      · replace hv := hv.1 h
        refine am_xrd 2 58 17 (pc := 50) (ls := [.ref 58, .int (zi d), .int (zi r3)]) (st := [.ref 58]) rfl ?_
        refine am_xn 1 (c1 := (53, [.ref 58, .int (zi d), .int (zi r3)], [], zup M2 58 17 (iv M2 58 17))) rfl ?_
        obtain ⟨M5, eM5⟩ : ∃ m, m = zup M2 58 17 (iv M2 58 17) := ⟨_, rfl⟩
        replace hv := hv M5 eM5
        rw [← eM5]
        refine am_xn 1 (c1 := (54, [.ref 58, .int (zi d), .int (zi r3)], [.int (zi r3)], M5)) rfl ?_
        exact am_xr (some (.int (zi r3))) ⟨rfl, rfl, .int, rfl, rfl⟩ hv
      · replace hv := hv.2 h
        refine am_xn 3 (c1 := (53, [.ref 58, .int (zi d), .int (zi r3)], [], zup M2 58 17 0)) rfl ?_
        obtain ⟨M6, eM6⟩ : ∃ m, m = zup M2 58 17 0 := ⟨_, rfl⟩
        replace hv := hv M6 eM6
        rw [← eM6]
        refine am_xn 1 (c1 := (54, [.ref 58, .int (zi d), .int (zi r3)], [.int (zi r3)], M6)) rfl ?_
        exact am_xr (some (.int (zi r3))) ⟨rfl, rfl, .int, rfl, rfl⟩ hv
    · replace hv := hv.2 h
      refine am_xrd 3 58 19 (pc := 29) (ls := [.ref 58, .int (zi d), .null]) (st := [.int (zi (-2000))]) rfl ?_
      refine am_xisub 1 (-2000) (iv M1 58 19) (pc := 30) (ls := [.ref 58, .int (zi d), .null]) (st := []) rfl ?_
      exact am_xr (some (.int (zi ((-2000) - (iv M1 58 19))))) ⟨rfl, rfl, .int, rfl, rfl⟩ hv
  · replace hv := hv.2 c7
    refine am_xc t_Mo_isDay (.invokestatic 80) 80 (av := [.int (zi d)]) (rest := []) (rv := some (.int (zi 0))) (M' := M) rfl rfl rfl rfl (Nat.le_of_ble_eq_true rfl) (fun h => nomatch h) (by have q := sp_isDay M d g; rwa [if_neg c7] at q) ?_
    refine am_xn 0 (c1 := (4, [.ref 58, .int (zi d), .null], [.int (zi 0)], M)) rfl ?_
    refine am_xn 2 (c1 := (9, [.ref 58, .int (zi d), .null], [.int (zi (-2))], M)) rfl ?_
    exact am_xr (some (.int (zi (-2)))) ⟨rfl, rfl, .int, rfl, rfl⟩ hv
theorem st_enact {M : am_M} (rr : RR M) {d : Int} (dz : zr d) : STEP t_SB_enact t_Mo_enact [.ref 0, .int (zi d)] [.ref 58, .int (zi d)] M := by
  by_cases hd : 0 ≤ d ∧ d ≤ 9999
  · obtain ⟨xt, xm⟩ := txt_X rr.2.1
    generalize tb M = T at *
    obtain ⟨n, en⟩ : ∃ n, n = iv M 2 1 := ⟨_, rfl⟩
    rw [← en] at xt xm
    obtain ⟨M1, c1, f1, k1⟩ := sp_readAmendment xt
    have rr1 : RR M1 := rr_rows rr (fun a ha => f1 a (by omega) (by omega) (by omega)) (fun j _ => by rw [f1 58 (by decide) (by decide) (by decide)])
    have ao := amN_ok xt.2.2 40 0 (Int.le_refl _) (Int.le_refl _) xt.2.2.1.1
    have er : -1 ≤ amE T n ∧ amE T n ≤ n := ⟨ao.2.2.1, ao.2.2.2.1⟩
    have xn := xt.2.2.1
    by_cases he : amE T n = -1
    · obtain ⟨k41, k42, kd_⟩ := k1 he
      have aok : 0 < amC T n ∧ ∀ j, 0 ≤ j → j < amC T n → (0 ≤ oS T j ∧ oS T j ≤ n) ∧ opE T (sk T (oS T j)) = -1 := ao.2.2.2.2 he
      have ac : amC T n ≤ 40 := by have := ao.2.1; show (amN T n 40 0).2 ≤ 40; omega
      obtain ⟨N, eN⟩ : ∃ N, N = amC T n := ⟨_, rfl⟩
      rw [← eN] at k41 k42 kd_ aok ac
      have g0 : ∀ i, 0 ≤ i → i < N → iv M1 6 (i * 13) = opF T (sk T (oS T i)) 0 := fun i i0 i1 => by
        have := (kd_ i i0 i1).1
        have e : iv M1 6 (i * 13 + 0) = opF T (sk T (oS T i)) 0 := this
        rw [Int.add_zero] at e
        exact e
      have eI : iv M1 4 2 = nin (iv M1 6) N := by
        rw [k42]
        unfold insn nin
        exact sm_congr (fun i i0 i1 => by
          show (if opF T (sk T (oS T i)) 0 = 0 then (1 : Int) else 0) = if iv M1 6 (i * 13) = 0 then 1 else 0
          rw [g0 i i0 i1])
      have nr := nin_r' (iv M1 6) (i := N) (by omega)
      have rel : ∀ Mr, (∀ i, 0 ≤ i → i < N → (∀ w, 0 ≤ w → w < 6 → iv Mr 74 (12 * i + w) = opF T (sk T (oS T i)) w) ∧ ∀ k, 0 ≤ k → k < opF T (sk T (oS T i)) 5 → iv Mr 74 (12 * i + (6 + k)) = opF T (sk T (oS T i)) (6 + k)) → (∀ i, 0 ≤ i → i < N → DO (fun w => iv M1 6 (i * 13 + w)) (fun w => iv Mr 74 (12 * i + w))) ∧ ∀ i, 0 ≤ i → i < N → WO (fun w => iv Mr 74 (12 * i + w)) := fun Mr hr =>
        ⟨fun i i0 i1 => DO_c2 (hr i i0 i1).1 (hr i i0 i1).2 (kd_ i i0 i1), fun i i0 i1 => by
          have a := aok.2 i i0 i1
          have b := xt.2.2.skr a.1.1 a.1.2
          exact WO_c2 (hr i i0 i1).1 (hr i i0 i1).2 (WO_op xt.2.2 (by omega) (by omega) a.2)⟩
      by_cases hc : iv M1 11 0 < 20 ∧ iv M1 11 1 + N ≤ 120 ∧ iv M1 11 2 + iv M1 4 2 ≤ 40
      · obtain ⟨Ma, a1, a2, a3⟩ := both_yes rr1 k41 (by omega) ac hd eI hc
        obtain ⟨Mb, eb⟩ : ∃ Mb, Mb = zup Ma 2 1 0 := ⟨_, rfl⟩
        have ce : am_call t_Pag_makeEmpty [.ref 2] Ma none Mb := am_call_of ⟨Nat.le_of_ble_eq_true rfl, rfl⟩ (vc_p2_makeEmpty Ma _ (fun M1 e1 => ⟨rfl, by rw [e1, eb]⟩))
        have bf : ∀ a, ¬ a = 2 → Mb a = Ma a := fun a ha => by rw [eb, zupr _ ha]
        have b0 := rr1.1.1.n0
        have b1 := rr1.1.1.n1
        obtain ⟨Mr, r1, r2, r3, r4, r5⟩ := sp_readsAll (M := Mb) (xm.row (by rw [bf 73 (by decide), a2 73 (by decide) (by decide) (by decide), f1 73 (by decide) (by decide) (by decide)]) (by rw [bf 58 (by decide), a2 58 (by decide) (by decide) (by decide), f1 58 (by decide) (by decide) (by decide)]))
        obtain ⟨r6, r7⟩ := r5 he
        rw [← eN] at r6 r7
        obtain ⟨h1, h2⟩ := rel Mr r7
        have rM : ∀ a, ¬ a = 2 → ¬ a = 11 → ¬ a = 12 → ¬ a = 14 → ¬ a = 58 → ¬ a = 74 → Mr a = M1 a := fun a x1 x2 x3 x4 x5 x6 => by rw [r2 a x5 x6, bf a x1, a2 a x2 x3 x4]
        have rF : ∀ j, ¬ j = 18 → ¬ j = 19 → ¬ j = 21 → Mr 58 j = M1 58 j := fun j x1 x2 x3 => by rw [r3 j x1 x2 x3, bf 58 (by decide), a2 58 (by decide) (by decide) (by decide)]
        obtain ⟨M3, m1, m2, m3, m4, m5⟩ := a3 Mr (by rw [r2 12 (by decide) (by decide), bf 12 (by decide)]) (by rw [r2 14 (by decide) (by decide), bf 14 (by decide)]) (rM 59 (by decide) (by decide) (by decide) (by decide) (by decide) (by decide)) (rM 60 (by decide) (by decide) (by decide) (by decide) (by decide) (by decide)) (rM 61 (by decide) (by decide) (by decide) (by decide) (by decide) (by decide)) (rM 62 (by decide) (by decide) (by decide) (by decide) (by decide) (by decide)) (rF 2 (by decide) (by decide) (by decide)) r6 h1 h2
        obtain ⟨M4, e4⟩ : ∃ M4, M4 = zup M3 58 17 0 := ⟨_, rfl⟩
        have f4 : ∀ a, ¬ a = 58 → M4 a = M3 a := fun a ha => by rw [e4, zupr _ ha]
        have row : ∀ a, ¬ a = 2 → ¬ a = 11 → ¬ a = 12 → ¬ a = 14 → ¬ a = 58 → ¬ a = 59 → ¬ a = 60 → ¬ a = 74 → M4 a = M1 a := fun a x1 x2 x3 x4 x5 x6 x7 x8 => by rw [f4 a x5, m2 a x5 x6 x7, rM a x1 x2 x3 x4 x5 x8]
        have fl : ∀ j, ¬ j = 17 → ¬ j = 2 → ¬ j = 18 → ¬ j = 19 → ¬ j = 21 → M4 58 j = M1 58 j := fun j y1 y2 y3 y4 y5 => by rw [e4, zup58 _ (by decide) y1, m3 j y2, rF j y3 y4 y5]
        refine ⟨iv M1 59 0, Mb, M4, am_call_of ⟨Nat.le_of_ble_eq_true rfl, rfl⟩ (vc_c_enact d M _ ⟨⟨dz, by decide⟩, fun _ => ⟨_, M1, c1, ⟨by omega, by omega⟩, fun _ => ⟨_, Ma, a1, ⟨by omega, by omega⟩, fun q => by omega, fun _ => ⟨Mb, ce, rfl, rfl⟩⟩, fun q => absurd he q⟩, fun q => absurd hd q⟩), am_call_of ⟨Nat.le_of_ble_eq_true rfl, rfl⟩ (vc_m_enact d Mb _ ⟨dz, fun _ => ⟨Mr, r1, fun _ => ⟨_, M3, m1, ⟨by omega, by omega⟩, fun q => by omega, fun _ M6 e6 => ⟨rfl, by rw [e6, e4]⟩⟩, fun q => absurd (r4.trans he) q⟩, fun q => absurd hd q⟩), ⟨?_, ?_, ?_, ?_⟩, ?_, ?_⟩
        · unfold CSt
          have x11 : iv M4 11 = iv Ma 11 := iv_row (by rw [f4 11 (by decide), m2 11 (by decide) (by decide) (by decide), r2 11 (by decide) (by decide), bf 11 (by decide)])
          rw [iv_row (f4 59 (by decide)), x11]
          exact m5
        · have z2 : iv M4 2 1 = 0 := by
            rw [iv_row (f4 2 (by decide)), iv_row (m2 2 (by decide) (by decide) (by decide)), iv_row (r2 2 (by decide) (by decide)), eb]
            rw [ivs _ _ (by decide) (by decide) (by decide), if_pos rfl]
          refine ⟨?_, by omega, fun k k0 k1 => by omega⟩
          rw [z2, e4, ivs _ _ (by decide) (by decide) (by decide), if_pos rfl]
        · exact out_rows rr1.2.2.1 (row 7 (by decide) (by decide) (by decide) (by decide) (by decide) (by decide) (by decide) (by decide)) (row 8 (by decide) (by decide) (by decide) (by decide) (by decide) (by decide) (by decide) (by decide)) (row 75 (by decide) (by decide) (by decide) (by decide) (by decide) (by decide) (by decide) (by decide)) (fl 23 (by decide) (by decide) (by decide) (by decide) (by decide)) (fl 24 (by decide) (by decide) (by decide) (by decide) (by decide))
        · exact arc_rows m4 (f4 12 (by decide)) (f4 14 (by decide)) (f4 60 (by decide)) (f4 61 (by decide)) (f4 62 (by decide)) (by rw [e4, zup58 _ (by decide) (by decide)])
        · rw [row 5000 (by decide) (by decide) (by decide) (by decide) (by decide) (by decide) (by decide) (by decide), f1 5000 (by decide) (by decide) (by decide)]
        · rw [row 5001 (by decide) (by decide) (by decide) (by decide) (by decide) (by decide) (by decide) (by decide), f1 5001 (by decide) (by decide) (by decide)]
      · have an := sp_addDraft_no (d := d) rr1.1 (by omega) (by rw [eI]; omega) (by rw [k41]; exact hc)
        obtain ⟨Mr, r1, r2, r3, r4, r5⟩ := sp_readsAll (M := M1) (xm.row (f1 73 (by decide) (by decide) (by decide)) (by rw [f1 58 (by decide) (by decide) (by decide)]))
        obtain ⟨r6, r7⟩ := r5 he
        rw [← eN] at r6 r7
        obtain ⟨h1, h2⟩ := rel Mr r7
        have ri := rins_nin r6 h1
        have e59 : iv Mr 59 = iv M1 59 := iv_row (r2 59 (by decide) (by decide))
        have cb := rr1.1.2.1
        have mn := sp_adds_no (d := d) (by rw [e59]; exact rr1.1.1) r6 (by omega) ac (by rw [ri]; omega) (by rw [e59, ri, ← eI, ← cb.2.2.1, ← cb.2.1, ← cb.1]; exact hc)
        obtain ⟨M4, e4⟩ : ∃ M4, M4 = zup Mr 58 17 (iv Mr 58 17) := ⟨_, rfl⟩
        have f4 : M4 58 17 = Mr 58 17 := by
          rw [e4]
          unfold zup am_up
          rw [if_pos rfl]
          exact (if_pos rfl).trans (zi_iv _ _ _)
        have rr4 : RR M4 := rr_rows rr1 (fun a ha => by rw [e4, zupr _ (by omega), r2 a (by omega) (by omega)]) (fun j hj => by
          by_cases y : j = 17
          · rw [y, f4, r3 17 (by decide) (by decide) (by decide)]
          · rw [e4, zup58 _ (by decide) y, r3 j (by omega) (by omega) (by omega)])
        refine ⟨-4, M1, M4, am_call_of ⟨Nat.le_of_ble_eq_true rfl, rfl⟩ (vc_c_enact d M _ ⟨⟨dz, by decide⟩, fun _ => ⟨_, M1, c1, ⟨by omega, by omega⟩, fun _ => ⟨_, M1, an, by decide, fun q => ⟨rfl, rfl⟩, fun q => absurd rfl q⟩, fun q => absurd he q⟩, fun q => absurd hd q⟩), am_call_of ⟨Nat.le_of_ble_eq_true rfl, rfl⟩ (vc_m_enact d M1 _ ⟨dz, fun _ => ⟨Mr, r1, fun _ => ⟨_, Mr, mn, by decide, fun q M5 e5 => ⟨rfl, by rw [e5, e4]⟩, fun q => absurd q (by decide)⟩, fun q => absurd (r4.trans he) q⟩, fun q => absurd hd q⟩), rr4, ?_, ?_⟩
        · rw [e4, zupr _ (by decide), r2 5000 (by decide) (by decide), f1 5000 (by decide) (by decide) (by decide)]
        · rw [e4, zupr _ (by decide), r2 5001 (by decide) (by decide), f1 5001 (by decide) (by decide) (by decide)]
    · obtain ⟨Mr, r1, r2, r3, r4, _⟩ := sp_readsAll (M := M1) (xm.row (f1 73 (by decide) (by decide) (by decide)) (by rw [f1 58 (by decide) (by decide) (by decide)]))
      refine ⟨-2000 - amE T n, M1, Mr, am_call_of ⟨Nat.le_of_ble_eq_true rfl, rfl⟩ (vc_c_enact d M _ ⟨⟨dz, by decide⟩, fun _ => ⟨_, M1, c1, ⟨by omega, by omega⟩, fun q => absurd q he, fun _ => ⟨rfl, rfl⟩⟩, fun q => absurd hd q⟩), am_call_of ⟨Nat.le_of_ble_eq_true rfl, rfl⟩ (vc_m_enact d M1 _ ⟨dz, fun _ => ⟨Mr, r1, fun q => absurd (r4.symm.trans q) he, fun _ => ⟨by rw [r4], rfl⟩⟩, fun q => absurd hd q⟩), rr_rows rr1 (fun a ha => r2 a (by omega) (by omega)) (fun j hj => r3 j (by omega) (by omega) (by omega)), ?_, ?_⟩
      · rw [r2 5000 (by decide) (by decide), f1 5000 (by decide) (by decide) (by decide)]
      · rw [r2 5001 (by decide) (by decide), f1 5001 (by decide) (by decide) (by decide)]
  · exact step_same rr (-2) ⟨Nat.le_of_ble_eq_true rfl, rfl⟩ ⟨Nat.le_of_ble_eq_true rfl, rfl⟩ (vc_c_enact d M _ ⟨⟨dz, by decide⟩, fun q => absurd q hd, fun _ => ⟨rfl, rfl⟩⟩) (vc_m_enact d M _ ⟨dz, fun q => absurd q hd, fun _ => ⟨rfl, rfl⟩⟩)
