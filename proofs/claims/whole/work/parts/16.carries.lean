/-! the reference finds the law -/
/-- the rows of the law behind an operation with an effect, by those ahead -/
theorem mlr_eff {L : Lw} {M M' : am_M} (w : WB (iv M 59)) (v : VL L) (r : MLR L M) {o day c : Int} (g0 : 0 ≤ o) (g1 : o < nops (iv M 59)) (c0 : 0 ≤ c) (c1 : c < 40) (hc : ¬ pt (iv M 59) o 0 = 0 → L.code c = pt (iv M 59) o 1) (hs : L.sq.length < 120)
    (r64 : ∀ j, 0 ≤ j → j < 40 → iv M' 64 j = if j = c then (if pt (iv M 59) o 0 = 0 then 1 else if pt (iv M 59) o 0 = 2 then 0 else iv M 64 j) else iv M 64 j)
    (r65 : ∀ j, 0 ≤ j → j < 40 → iv M' 65 j = if j = c then (if pt (iv M 59) o 0 = 0 then pt (iv M 59) o 1 else if pt (iv M 59) o 0 = 3 then pt (iv M 59) o 2 else iv M 65 j) else iv M 65 j)
    (r66 : ∀ j, 0 ≤ j → j < 40 → iv M' 66 j = if j = c ∧ pt (iv M 59) o 0 < 2 then pt (iv M 59) o 5 else iv M 66 j)
    (r67 : ∀ j k, 0 ≤ j → j < 40 → 0 ≤ k → k < 6 → iv M' 67 (6 * j + k) = if j = c then (if pt (iv M 59) o 0 < 2 then (if k < pt (iv M 59) o 5 then mwd M o k else iv M 67 (6 * j + k)) else if pt (iv M 59) o 0 = 4 ∧ k < iv M 66 c ∧ iv M 67 (6 * j + k) = pt (iv M 59) o 2 then pt (iv M 59) o 3 else iv M 67 (6 * j + k)) else iv M 67 (6 * j + k))
    (r68 : ∀ j, 0 ≤ j → j < 40 → iv M' 68 j = if j = c then day else iv M 68 j)
    (r69 : ∀ j, 0 ≤ j → j < 120 → iv M' 69 j = if j = o then 0 else iv M 69 j)
    (r70 : ∀ j, 0 ≤ j → j < 120 → iv M' 70 j = if j = o then c else iv M 70 j)
    (r71 : ∀ j, 0 ≤ j → j < 120 → iv M' 71 j = if j = (L.sq.length : Int) then o else iv M 71 j)
    (r14 : iv M' 58 14 = L.sq.length + 1) : MLR (eff (iv M 59) L o day c) M' := by
  have wo := w.op o g0 g1
  have wk := wo.kd
  have wc := wo.cd
  refine ⟨fun j j0 j1 => ?_, fun j j0 j1 n => ?_, fun j j0 j1 => ?_, ?_, fun i hi => ?_⟩
  · rw [r64 j j0 j1, eff_code, r.1 j j0 j1]
    by_cases hj : j = c
    · subst hj
      rw [if_pos rfl, if_pos rfl]
      by_cases k0 : pt (iv M 59) o 0 = 0
      · rw [if_pos k0, if_pos k0, if_neg (by omega)]
      · rw [if_neg k0, if_neg k0]
        by_cases k2 : pt (iv M 59) o 0 = 2
        · rw [if_pos k2, if_pos k2, if_pos rfl]
        · rw [if_neg k2, if_neg k2]
          have := hc k0
          by_cases k3 : pt (iv M 59) o 0 = 3
          · have := wo.f3 k3
            rw [if_pos k3, if_neg (by omega), if_neg (by omega)]
          · rw [if_neg k3]
    · rw [if_neg hj, if_neg hj]
  · rw [eff_code] at n
    have key : ¬ pt (iv M 59) o 0 = 0 ∨ ¬ j = c → ¬ L.code j = 0 := by
      intro q
      by_cases hj : j = c
      · rw [hj, hc (q.resolve_right (fun z => z hj))]; omega
      · rw [if_neg hj] at n; exact n
    refine ⟨?_, ?_, ?_, fun k k0 k1 => ?_⟩
    · rw [r65 j j0 j1, eff_code]
      by_cases hj : j = c
      · rw [if_pos hj, if_pos hj]
        by_cases k0 : pt (iv M 59) o 0 = 0
        · rw [if_pos k0, if_pos k0]
        · rw [if_neg k0, if_neg k0]
          by_cases k2 : pt (iv M 59) o 0 = 2
          · rw [if_pos hj, if_neg k0, if_pos k2] at n; exact absurd rfl n
          · rw [if_neg k2]
            by_cases k3 : pt (iv M 59) o 0 = 3
            · rw [if_pos k3, if_pos k3]
            · rw [if_neg k3, if_neg k3, (r.2.1 j j0 j1 (key (Or.inl k0))).1, hj]
      · rw [if_neg hj, if_neg hj]
        exact (r.2.1 j j0 j1 (key (Or.inr hj))).1
    · rw [r66 j j0 j1, eff_len]
      by_cases hj : j = c ∧ pt (iv M 59) o 0 < 2
      · rw [if_pos hj, if_pos hj]
      · rw [if_neg hj, if_neg hj]
        exact (r.2.1 j j0 j1 (key (by omega))).2.1
    · rw [r68 j j0 j1, eff_lst]
      by_cases hj : j = c
      · rw [if_pos hj, if_pos hj]
      · rw [if_neg hj, if_neg hj]
        exact (r.2.1 j j0 j1 (key (Or.inr hj))).2.2.1
    · rw [eff_len] at k1
      rw [eff_tx]
      by_cases hj : j = c
      · by_cases kd : pt (iv M 59) o 0 < 2
        · rw [if_pos ⟨hj, kd⟩] at k1
          have := wo.ln
          rw [r67 j k j0 j1 k0 (by omega), if_pos hj, if_pos hj, if_pos kd, if_pos kd, if_pos k1]
          exact mwd_wd w v r g0 g1 k0 k1
        · have nz := key (Or.inl (by omega))
          rw [if_neg (fun z => kd z.2)] at k1
          have := v.ln j j0 j1 nz
          obtain ⟨_, f2, _, f4⟩ := r.2.1 j j0 j1 nz
          rw [r67 j k j0 j1 k0 (by omega), if_pos hj, if_pos hj, if_neg kd, if_neg kd, f4 k k0 k1]
          rw [← hj]
          by_cases z : pt (iv M 59) o 0 = 4 ∧ L.tx j k = pt (iv M 59) o 2
          · rw [if_pos z, if_pos ⟨z.1, by omega, z.2⟩]
          · rw [if_neg z, if_neg (fun y => z ⟨y.1, y.2.2⟩)]
      · have nz := key (Or.inr hj)
        rw [if_neg (fun z => hj z.1)] at k1
        have := v.ln j j0 j1 nz
        rw [r67 j k j0 j1 k0 (by omega), if_neg hj, if_neg hj]
        exact (r.2.1 j j0 j1 nz).2.2.2 k k0 k1
  · rw [r69 j j0 j1, r70 j j0 j1]
    have := r.2.2.1 j j0 j1
    show _ = (if j = o then 0 else L.rs j) ∧ _ = (if j = o then c else L.af j)
    rw [this.1, this.2]
    exact ⟨rfl, rfl⟩
  · rw [r14]
    show _ = (((L.sq ++ [o]).length : Nat) : Int)
    rw [List.length_append]
    rfl
  · have hi : i < (L.sq ++ [o]).length := hi
    rw [List.length_append] at hi
    have hi : i < L.sq.length + 1 := hi
    show _ = (L.sq ++ [o]).getD i 0
    rw [r71 i (by omega) (by omega)]
    by_cases q : i = L.sq.length
    · rw [if_pos (by omega), List.getD_eq_getElem?_getD, List.getElem?_append_right (by omega), q, Nat.sub_self]
      rfl
    · rw [if_neg (by omega), r.2.2.2.2 i (by omega), List.getD_eq_getElem?_getD, List.getD_eq_getElem?_getD, List.getElem?_append_left (by omega)]
theorem sp_carriesOut {L : Lw} {M : am_M} {o day : Int} (w : WB (iv M 59)) (v : VL L) (r : MLR L M) (g0 : 0 ≤ o) (g1 : o < nops (iv M 59)) (hd : 0 ≤ day ∧ day ≤ 9999) (hf : L.rs o = -1) (hs : L.sq.length < 120) :
    ∃ M', am_call t_Mo_carriesOut [.ref 58, .int (zi o), .int (zi day)] M none M' ∧ MFr M M' ∧ MLR (ops (iv M 59) L o day) M' := by
  suffices h : am_x t_Mo_carriesOut (0, am_ent (am_mL t_Mo_carriesOut) [.ref 58, .int (zi o), .int (zi day)], [], M) (fun r M' => r = none ∧ MFr M M' ∧ MLR (ops (iv M 59) L o day) M') by
    obtain ⟨r, M', h1, h2, h3⟩ := am_call_ex (by exact ⟨Nat.le_of_ble_eq_true rfl, rfl⟩) h
    subst h2
    exact ⟨M', h1, h3⟩
  have wo := w.op o g0 g1
  have wk := wo.kd
  have wc := wo.cd
  have wl := wo.ln
  have wt := w.tot
  have dz : zr day := ⟨by omega, by omega⟩
  have oz : zr o := ⟨by omega, by omega⟩
  have eh : mwc M (pt (iv M 59) o 1) = hold L (pt (iv M 59) o 1) := mwc_hold v r (by omega)
  have hrg := hold_rg L (pt (iv M 59) o 1)
  have er := mro_rsn w v r g0 g1
  have af0 : L.af o = -1 := by
    rcases v.af o with q | q
    · exact q.1
    · have := q.2.2; omega
  have n66 : 0 ≤ hold L (pt (iv M 59) o 1) → 0 ≤ iv M 66 (hold L (pt (iv M 59) o 1)) ∧ iv M 66 (hold L (pt (iv M 59) o 1)) ≤ 6 := by
    intro q
    have hc := hold_cd (L := L) (x := pt (iv M 59) o 1) (by omega)
    have n : ¬ L.code (hold L (pt (iv M 59) o 1)) = 0 := by rw [hc.2.2]; omega
    have := v.ln _ hc.1 hc.2.1 n
    have := (r.2.1 _ hc.1 hc.2.1 n).2.1
    omega
  obtain ⟨len, hlen⟩ : ∃ len : Int, len = (L.sq.length : Int) := ⟨_, rfl⟩
  refine vc_carriesOut o day M _ ?_
  rw [eh, er]
  refine ⟨⟨g0, by omega, by omega, by omega⟩, ⟨g0, by omega, by omega, by omega⟩, pt_zr _ _ _, ⟨g0, by omega, wk.1, wl.2, by omega, by omega, fun q => (n66 q).2⟩, ⟨g0, by omega⟩, fun M1 e1 => ?_⟩
  have rz : zr (rsn (iv M 59) L o) := by have := rsn_rg (iv M 59) L o; exact ⟨by omega, by omega⟩
  have c1 : iv M1 58 14 = len := by rw [e1, ivr _ (by decide), r.2.2.2.1, hlen]
  rw [c1]
  refine ⟨⟨by omega, by omega⟩, fun M3 e3 => ?_⟩
  have c3 : iv M3 58 14 = len := by rw [e3, ivr _ (by decide), c1]
  rw [c3]
  intro M5 e5
  have f5 : MFr M M5 := by
    rw [e5, e3, e1]
    exact MFr_trans (MFr_trans (MFr_zup (by decide)) (MFr_zup (by decide))) MFr_14
  have b59 : iv M5 59 = iv M 59 := iv_row (f5.1 59 (by decide) (by decide))
  have q5 : ∀ a, ¬ a = 58 → ¬ a = 69 → ¬ a = 71 → M5 a = M a := fun a a1 a2 a3 => by rw [e5, zupr _ a1, e3, zupr _ a3, e1, zupr _ a2]
  have q69 : ∀ j, 0 ≤ j → iv M5 69 j = if j = o then rsn (iv M 59) L o else iv M 69 j := fun j hj => by rw [e5, ivr _ (by decide), e3, ivr _ (by decide), e1, ivs _ _ g0 hj rz]
  have q71 : ∀ j, 0 ≤ j → iv M5 71 j = if j = len then o else iv M 71 j := fun j hj => by rw [e5, ivr _ (by decide), e3, ivs _ _ (by omega) hj oz, e1, ivr _ (by decide)]
  have q14 : iv M5 58 14 = len + 1 := by rw [e5, ivs _ _ (by decide) (by decide) ⟨by omega, by omega⟩, if_pos rfl]
  have k69 : iv M5 69 o = rsn (iv M 59) L o := by rw [q69 o g0, if_pos rfl]
  rw [k69, b59]
  refine ⟨⟨g0, by omega⟩, fun hr => ⟨rfl, f5, ?_⟩, fun hr => ?_⟩
  · have nr : ¬ rsn (iv M 59) L o = 0 := by omega
    unfold ops
    rw [if_neg nr]
    refine ⟨fun c c0 c1 => ?_, fun c c0 c1 n => ?_, fun j j0 j1 => ?_, ?_, fun i hi => ?_⟩
    · rw [iv_row (q5 64 (by decide) (by decide) (by decide))]; exact r.1 c c0 c1
    · rw [iv_row (q5 65 (by decide) (by decide) (by decide)), iv_row (q5 66 (by decide) (by decide) (by decide)), iv_row (q5 67 (by decide) (by decide) (by decide)), iv_row (q5 68 (by decide) (by decide) (by decide))]
      exact r.2.1 c c0 c1 n
    · rw [q69 j j0, iv_row (q5 70 (by decide) (by decide) (by decide)), (r.2.2.1 j j0 j1).1, (r.2.2.1 j j0 j1).2]
      refine ⟨rfl, ?_⟩
      show L.af j = if j = o then -1 else L.af j
      by_cases z : j = o
      · rw [if_pos z, z, af0]
      · rw [if_neg z]
    · rw [q14, hlen]
      show _ = (((L.sq ++ [o]).length : Nat) : Int)
      rw [List.length_append]
      rfl
    · have hi : i < (L.sq ++ [o]).length := hi
      rw [List.length_append] at hi
      have hi : i < L.sq.length + 1 := hi
      show _ = (L.sq ++ [o]).getD i 0
      rw [q71 i (by omega)]
      by_cases q : i = L.sq.length
      · rw [if_pos (by omega), List.getD_eq_getElem?_getD, List.getElem?_append_right (by omega), q, Nat.sub_self]
        rfl
      · rw [if_neg (by omega), r.2.2.2.2 i (by omega), List.getD_eq_getElem?_getD, List.getD_eq_getElem?_getD, List.getElem?_append_left (by omega)]
  · have r0 : rsn (iv M 59) L o = 0 := by have := rsn_rg (iv M 59) L o; omega
    obtain ⟨x1, x2, x3, x4, x5⟩ := rsn_0 r0
    unfold ops
    rw [if_pos r0]
    rw [r0] at q69
    refine ⟨fun k0 => ?_, fun k0 => ?_⟩
    · have hia := w.ia_lt g0 g1 k0
      obtain ⟨c, hc⟩ : ∃ c, c = ia (iv M 59) o := ⟨_, rfl⟩
      rw [if_pos k0]
      rw [← hc] at hia ⊢
      refine ⟨⟨g0, by omega⟩, ⟨g0, by omega⟩, fun M7 e7 => ⟨hia, fun M9 e9 => ?_⟩⟩
      have q9 : ∀ a, ¬ a = 68 → ¬ a = 70 → M9 a = M5 a := fun a a1 a2 => by rw [e9, zupr _ a1, e7, zupr _ a2]
      have p9 : ∀ a, ¬ a = 58 → ¬ a = 68 → ¬ a = 69 → ¬ a = 70 → ¬ a = 71 → M9 a = M a := fun a a1 a2 a3 a4 a5 => by rw [q9 a a2 a4, q5 a a1 a3 a5]
      have b9 : M9 59 = M 59 := p9 59 (by decide) (by decide) (by decide) (by decide) (by decide)
      have cz : zr c := ⟨by omega, by omega⟩
      obtain ⟨M11, h11, s1, s2, s3⟩ := sp_setsText M9 o c g0 (by omega) hia.1 hia.2 (by rw [iv_row b9]; exact wl.1) (by rw [iv_row b9]; exact wl.2)
      rw [iv_row b9] at s2 s3
      refine ⟨M11, h11, hia, fun M12 e12 => ⟨⟨g0, by omega, by omega, by omega⟩, hia, fun M14 e14 => ?_⟩⟩
      have b12 : M12 59 = M 59 := by rw [e12, zupr _ (by decide), s1 59 (by decide) (by decide) (by decide), b9]
      rw [iv_row b12] at e14
      have p14 : ∀ a, ¬ a = 64 → ¬ a = 65 → ¬ a = 66 → ¬ a = 67 → ¬ a = 72 → M14 a = M9 a := fun a a1 a2 a3 a4 a5 => by rw [e14, zupr _ a2, e12, zupr _ a1, s1 a a3 a4 a5]
      have q66 : ∀ j, 0 ≤ j → iv M14 66 j = if j = c then pt (iv M 59) o 5 else iv M 66 j := fun j hj => by rw [e14, ivr _ (by decide), e12, ivr _ (by decide), s2 j hj, iv_row (p9 66 (by decide) (by decide) (by decide) (by decide) (by decide))]
      have f14 : MFr M M14 := by
        refine MFr_trans f5 ⟨fun a a1 a2 => ?_, fun j hj => ?_⟩
        · rw [p14 a (by omega) (by omega) (by omega) (by omega) (by omega), q9 a (by omega) (by omega)]
        · rw [p14 58 (by decide) (by decide) (by decide) (by decide) (by decide), q9 58 (by decide) (by decide)]
      refine carriesOut_chg o c _ M14 _ g0 (by omega) hia.1 hia.2 (pt_zr _ _ _) (by rw [q66 c hia.1, if_pos rfl]; exact wl.1) (by rw [q66 c hia.1, if_pos rfl]; exact wl.2) (fun M' m1 m2 => ⟨rfl, ?_, ?_⟩)
      · refine MFr_trans f14 ⟨fun a a1 a2 => m1 a (by omega), fun j hj => by rw [m1 58 (by decide)]⟩
      · have M67 : ∀ j, 0 ≤ j → iv M' 67 j = if 6 * c ≤ j ∧ j < 6 * c + pt (iv M 59) o 5 then mwd M o (j - 6 * c) else iv M 67 j := fun j hj => by
          rw [m2 j hj, if_neg (by omega), e14, ivr _ (by decide), e12, ivr _ (by decide), s3 j hj, mwd_row b9 (p9 64 (by decide) (by decide) (by decide) (by decide) (by decide)) (p9 65 (by decide) (by decide) (by decide) (by decide) (by decide)), iv_row (p9 67 (by decide) (by decide) (by decide) (by decide) (by decide))]
        refine mlr_eff w v r g0 g1 hia.1 hia.2 (fun z => absurd k0 z) hs (fun j j0 j1 => ?_) (fun j j0 j1 => ?_) (fun j j0 j1 => ?_) (fun j k j0 j1 k0' k1 => ?_) (fun j j0 j1 => ?_) (fun j j0 j1 => ?_) (fun j j0 j1 => ?_) (fun j j0 j1 => ?_) ?_
        · rw [iv_row (m1 64 (by decide)), e14, ivr _ (by decide), e12, ivs _ _ hia.1 j0 (by decide), iv_row (s1 64 (by decide) (by decide) (by decide)), iv_row (p9 64 (by decide) (by decide) (by decide) (by decide) (by decide)), if_pos k0]
        · rw [iv_row (m1 65 (by decide)), e14, ivs _ _ hia.1 j0 (pt_zr _ _ _), e12, ivr _ (by decide), iv_row (s1 65 (by decide) (by decide) (by decide)), iv_row (p9 65 (by decide) (by decide) (by decide) (by decide) (by decide)), if_pos k0]
        · rw [iv_row (m1 66 (by decide)), q66 j j0]
          by_cases z : j = c
          · rw [if_pos z, if_pos ⟨z, by omega⟩]
          · rw [if_neg z, if_neg (fun y => z y.1)]
        · rw [M67 _ (by omega)]
          by_cases z : j = c
          · rw [if_pos z, if_pos (c := pt (iv M 59) o 0 < 2) (by omega)]
            by_cases y : k < pt (iv M 59) o 5
            · rw [if_pos (c := 6 * c ≤ 6 * j + k ∧ _) (by omega), if_pos y, show 6 * j + k - 6 * c = k by omega]
            · rw [if_neg (c := 6 * c ≤ 6 * j + k ∧ _) (by omega), if_neg y]
          · rw [if_neg z, if_neg (c := 6 * c ≤ 6 * j + k ∧ _) (by omega)]
        · rw [iv_row (m1 68 (by decide)), iv_row (p14 68 (by decide) (by decide) (by decide) (by decide) (by decide)), e9, ivs _ _ hia.1 j0 dz, e7, ivr _ (by decide), iv_row (q5 68 (by decide) (by decide) (by decide))]
        · rw [iv_row (m1 69 (by decide)), iv_row (p14 69 (by decide) (by decide) (by decide) (by decide) (by decide)), iv_row (q9 69 (by decide) (by decide)), q69 j j0]
        · rw [iv_row (m1 70 (by decide)), iv_row (p14 70 (by decide) (by decide) (by decide) (by decide) (by decide)), e9, ivr _ (by decide), e7, ivs _ _ g0 j0 cz, iv_row (q5 70 (by decide) (by decide) (by decide))]
        · rw [iv_row (m1 71 (by decide)), iv_row (p14 71 (by decide) (by decide) (by decide) (by decide) (by decide)), iv_row (q9 71 (by decide) (by decide)), q71 j j0, hlen]
        · rw [iv_row (m1 58 (by decide)), iv_row (p14 58 (by decide) (by decide) (by decide) (by decide) (by decide)), iv_row (q9 58 (by decide) (by decide)), q14, hlen]
    · have hcd := hold_cd (x1 k0)
      obtain ⟨c, hc⟩ : ∃ c, c = hold L (pt (iv M 59) o 1) := ⟨_, rfl⟩
      rw [if_neg k0]
      rw [← hc] at hcd n66 ⊢
      have n66 := n66 hcd.1
      refine ⟨⟨g0, by omega⟩, fun M16 e16 => ⟨⟨hcd.1, hcd.2.1⟩, fun M18 e18 => ?_⟩⟩
      have cz : zr c := ⟨by omega, by omega⟩
      have q18 : ∀ a, ¬ a = 68 → ¬ a = 70 → M18 a = M5 a := fun a a1 a2 => by rw [e18, zupr _ a1, e16, zupr _ a2]
      have p18 : ∀ a, ¬ a = 58 → ¬ a = 68 → ¬ a = 69 → ¬ a = 70 → ¬ a = 71 → M18 a = M a := fun a a1 a2 a3 a4 a5 => by rw [q18 a a2 a4, q5 a a1 a3 a5]
      have b18 : M18 59 = M 59 := p18 59 (by decide) (by decide) (by decide) (by decide) (by decide)
      have u64 : M18 64 = M 64 := p18 64 (by decide) (by decide) (by decide) (by decide) (by decide)
      have u65 : M18 65 = M 65 := p18 65 (by decide) (by decide) (by decide) (by decide) (by decide)
      have u66 : M18 66 = M 66 := p18 66 (by decide) (by decide) (by decide) (by decide) (by decide)
      have u67 : M18 67 = M 67 := p18 67 (by decide) (by decide) (by decide) (by decide) (by decide)
      /- what is left, once the rows 64 to 67 are done -/
      have fin : ∀ S : am_M, (∀ a, ¬ a = 64 → ¬ a = 65 → ¬ a = 66 → ¬ a = 67 → ¬ a = 72 → S a = M18 a) → 0 ≤ iv S 66 c → iv S 66 c ≤ 6 →
          (∀ j, 0 ≤ j → j < 40 → iv S 64 j = if j = c then (if pt (iv M 59) o 0 = 0 then 1 else if pt (iv M 59) o 0 = 2 then 0 else iv M 64 j) else iv M 64 j) →
          (∀ j, 0 ≤ j → j < 40 → iv S 65 j = if j = c then (if pt (iv M 59) o 0 = 0 then pt (iv M 59) o 1 else if pt (iv M 59) o 0 = 3 then pt (iv M 59) o 2 else iv M 65 j) else iv M 65 j) →
          (∀ j, 0 ≤ j → j < 40 → iv S 66 j = if j = c ∧ pt (iv M 59) o 0 < 2 then pt (iv M 59) o 5 else iv M 66 j) →
          (∀ j, 0 ≤ j → iv S 67 j = if pt (iv M 59) o 0 < 2 ∧ 6 * c ≤ j ∧ j < 6 * c + pt (iv M 59) o 5 then mwd M o (j - 6 * c) else iv M 67 j) →
          am_x t_Mo_carriesOut (165, [.ref 58, .int (zi o), .null, .int (zi (pt (iv M 59) o 0)), .int (zi c), .int (zi 0), .null], [], S) (fun r M' => r = none ∧ MFr M M' ∧ MLR (eff (iv M 59) L o day c) M') := by
        intro S z0 z1 z2 z64 z65 z66 z67
        have bS : iv S 59 = iv M 59 := iv_row ((z0 59 (by decide) (by decide) (by decide) (by decide) (by decide)).trans b18)
        refine carriesOut_chg o c _ S _ g0 (by omega) hcd.1 hcd.2.1 (pt_zr _ _ _) z1 z2 (fun M' m1 m2 => ⟨rfl, ?_, ?_⟩)
        · refine MFr_trans f5 ⟨fun a a1 a2 => ?_, fun j hj => ?_⟩
          · rw [m1 a (by omega), z0 a (by omega) (by omega) (by omega) (by omega) (by omega), q18 a (by omega) (by omega)]
          · rw [m1 58 (by decide), z0 58 (by decide) (by decide) (by decide) (by decide) (by decide), q18 58 (by decide) (by decide)]
        · rw [bS] at m2
          refine mlr_eff w v r g0 g1 hcd.1 hcd.2.1 (fun _ => hcd.2.2) hs (fun j j0 j1 => ?_) (fun j j0 j1 => ?_) (fun j j0 j1 => ?_) (fun j k j0 j1 k0' k1 => ?_) (fun j j0 j1 => ?_) (fun j j0 j1 => ?_) (fun j j0 j1 => ?_) (fun j j0 j1 => ?_) ?_
          · rw [iv_row (m1 64 (by decide)), z64 j j0 j1]
          · rw [iv_row (m1 65 (by decide)), z65 j j0 j1]
          · rw [iv_row (m1 66 (by decide)), z66 j j0 j1]
          · rw [m2 _ (by omega), z67 _ (by omega)]
            by_cases z : j = c
            · rw [if_pos z]
              by_cases kd : pt (iv M 59) o 0 < 2
              · rw [if_neg (c := pt (iv M 59) o 0 = 4 ∧ _) (fun u => by have := u.1; omega), if_pos kd]
                by_cases y : k < pt (iv M 59) o 5
                · rw [if_pos (c := pt (iv M 59) o 0 < 2 ∧ _) (by omega), if_pos y, show 6 * j + k - 6 * c = k by omega]
                · rw [if_neg (c := pt (iv M 59) o 0 < 2 ∧ _) (by omega), if_neg y]
              · have e66 : iv S 66 c = iv M 66 c := by rw [z66 c hcd.1 hcd.2.1, if_neg (fun y => kd y.2)]
                rw [if_neg (c := pt (iv M 59) o 0 < 2 ∧ _) (fun y => kd y.1), if_neg kd, e66]
                by_cases y : pt (iv M 59) o 0 = 4 ∧ k < iv M 66 c ∧ iv M 67 (6 * j + k) = pt (iv M 59) o 2
                · rw [if_pos y, if_pos ⟨y.1, by omega, by omega, y.2.2⟩]
                · rw [if_neg y, if_neg (fun u => y ⟨u.1, by omega, u.2.2.2⟩)]
            · have nr : ¬ (6 * c ≤ 6 * j + k ∧ 6 * j + k < 6 * c + 6) := by omega
              rw [if_neg z, if_neg (c := pt (iv M 59) o 0 = 4 ∧ _) (fun y => nr ⟨y.2.1, by have := y.2.2.1; omega⟩), if_neg (c := pt (iv M 59) o 0 < 2 ∧ _) (fun y => nr ⟨y.2.1, by have := y.2.2; omega⟩)]
          · rw [iv_row (m1 68 (by decide)), iv_row (z0 68 (by decide) (by decide) (by decide) (by decide) (by decide)), e18, ivs _ _ hcd.1 j0 dz, e16, ivr _ (by decide), iv_row (q5 68 (by decide) (by decide) (by decide))]
          · rw [iv_row (m1 69 (by decide)), iv_row (z0 69 (by decide) (by decide) (by decide) (by decide) (by decide)), iv_row (q18 69 (by decide) (by decide)), q69 j j0]
          · rw [iv_row (m1 70 (by decide)), iv_row (z0 70 (by decide) (by decide) (by decide) (by decide) (by decide)), e18, ivr _ (by decide), e16, ivs _ _ g0 j0 cz, iv_row (q5 70 (by decide) (by decide) (by decide))]
          · rw [iv_row (m1 71 (by decide)), iv_row (z0 71 (by decide) (by decide) (by decide) (by decide) (by decide)), iv_row (q18 71 (by decide) (by decide)), q71 j j0, hlen]
          · rw [iv_row (m1 58 (by decide)), iv_row (z0 58 (by decide) (by decide) (by decide) (by decide) (by decide)), iv_row (q18 58 (by decide) (by decide)), q14, hlen]
      refine ⟨fun k2 => ?_, fun k2 => ⟨fun k3 => ⟨⟨hcd.1, hcd.2.1⟩, fun M21 e21 => ?_⟩, fun k3 => ⟨fun k4 => ⟨⟨g0, by omega, by omega, by omega⟩, ⟨hcd.1, hcd.2.1⟩, fun M23 e23 => ?_⟩, fun k4 => ?_⟩⟩⟩
      · obtain ⟨M20, h20, s1, s2, s3⟩ := sp_setsText M18 o c g0 (by omega) hcd.1 hcd.2.1 (by rw [iv_row b18]; exact wl.1) (by rw [iv_row b18]; exact wl.2)
        rw [iv_row b18] at s2 s3
        refine ⟨M20, h20, fin M20 (fun a a1 a2 a3 a4 a5 => s1 a a3 a4 a5) ?_ ?_ (fun j j0 j1 => ?_) (fun j j0 j1 => ?_) (fun j j0 j1 => ?_) (fun j j0 => ?_)⟩
        · rw [s2 c hcd.1, if_pos rfl]; exact wl.1
        · rw [s2 c hcd.1, if_pos rfl]; exact wl.2
        · rw [iv_row (s1 64 (by decide) (by decide) (by decide)), iv_row u64, if_neg k0, if_neg (c := pt (iv M 59) o 0 = 2) (by omega)]
          split <;> rfl
        · rw [iv_row (s1 65 (by decide) (by decide) (by decide)), iv_row u65, if_neg k0, if_neg (c := pt (iv M 59) o 0 = 3) (by omega)]
          split <;> rfl
        · rw [s2 j j0, iv_row u66]
          by_cases z : j = c
          · rw [if_pos z, if_pos ⟨z, k2⟩]
          · rw [if_neg z, if_neg (fun y => z y.1)]
        · rw [s3 j j0, mwd_row b18 u64 u65, iv_row u67]
          by_cases z : 6 * c ≤ j ∧ j < 6 * c + pt (iv M 59) o 5
          · rw [if_pos z, if_pos ⟨k2, z⟩]
          · rw [if_neg z, if_neg (fun y => z y.2)]
      · refine fin M21 (fun a a1 a2 a3 a4 a5 => by rw [e21, zupr _ a1]) (by rw [e21, ivr _ (by decide), iv_row u66]; exact n66.1) (by rw [e21, ivr _ (by decide), iv_row u66]; exact n66.2) (fun j j0 j1 => ?_) (fun j j0 j1 => ?_) (fun j j0 j1 => ?_) (fun j j0 => ?_)
        · rw [e21, ivs _ _ hcd.1 j0 (by decide), iv_row u64, if_neg k0, if_pos k3]
        · rw [e21, ivr _ (by decide), iv_row u65, if_neg k0, if_neg (c := pt (iv M 59) o 0 = 3) (by omega)]
          split <;> rfl
        · rw [e21, ivr _ (by decide), iv_row u66, if_neg (by omega)]
        · rw [e21, ivr _ (by decide), iv_row u67, if_neg (by omega)]
      · rw [iv_row b18] at e23
        refine fin M23 (fun a a1 a2 a3 a4 a5 => by rw [e23, zupr _ a2]) (by rw [e23, ivr _ (by decide), iv_row u66]; exact n66.1) (by rw [e23, ivr _ (by decide), iv_row u66]; exact n66.2) (fun j j0 j1 => ?_) (fun j j0 j1 => ?_) (fun j j0 j1 => ?_) (fun j j0 => ?_)
        · rw [e23, ivr _ (by decide), iv_row u64, if_neg k0, if_neg k3]
          split <;> rfl
        · rw [e23, ivs _ _ hcd.1 j0 (pt_zr _ _ _), iv_row u65, if_neg k0, if_pos k4]
        · rw [e23, ivr _ (by decide), iv_row u66, if_neg (by omega)]
        · rw [e23, ivr _ (by decide), iv_row u67, if_neg (by omega)]
      · refine fin M18 (fun a a1 a2 a3 a4 a5 => rfl) (by rw [iv_row u66]; exact n66.1) (by rw [iv_row u66]; exact n66.2) (fun j j0 j1 => ?_) (fun j j0 j1 => ?_) (fun j j0 j1 => ?_) (fun j j0 => ?_)
        · rw [iv_row u64, if_neg k0, if_neg k3]
          split <;> rfl
        · rw [iv_row u65, if_neg k0, if_neg k4]
          split <;> rfl
        · rw [iv_row u66, if_neg (by omega)]
        · rw [iv_row u67, if_neg (by omega)]
