/-! the calls that change something -/
def TXT (M : am_M) : Prop := iv M 58 17 = iv M 2 1 ∧ (0 ≤ iv M 2 1 ∧ iv M 2 1 ≤ 120) ∧ ∀ k, 0 ≤ k → k < iv M 2 1 → iv M 3 k = iv M 73 k ∧ 0 ≤ iv M 3 k ∧ iv M 3 k ≤ 127
def RR (M : am_M) : Prop := CSt M ∧ TXT M ∧ OUTR M ∧ ARC M
def STEP (tc tm : am_T) (ca ma : List Value) (M : am_M) : Prop := ∃ (r : Int) (M1 M2 : am_M), am_call tc ca M (some (.int (zi r))) M1 ∧ am_call tm ma M1 (some (.int (zi r))) M2 ∧ RR M2 ∧ M2 5000 = M 5000 ∧ M2 5001 = M 5001
theorem iv1 {M M' : am_M} {a : Nat} {k : Int} (h : M' a k.toNat = M a k.toNat) : iv M' a k = iv M a k := by unfold iv; rw [h]
theorem cst_rows {M M' : am_M} (s : CSt M) (h11 : M' 11 = M 11) (h59 : M' 59 = M 59) : CSt M' := by
  unfold CSt at s ⊢
  rw [iv_row h11, iv_row h59]
  exact s
theorem txt_rows {M M' : am_M} (s : TXT M) (h2 : M' 2 = M 2) (h3 : M' 3 = M 3) (h73 : M' 73 = M 73) (h17 : M' 58 17 = M 58 17) : TXT M' := by
  unfold TXT at s ⊢
  rw [iv_row h2, iv_row h3, iv_row h73, iv1 (M' := M') (M := M) (a := 58) (k := 17) h17]
  exact s
theorem out_rows {M M' : am_M} (s : OUTR M) (h7 : M' 7 = M 7) (h8 : M' 8 = M 8) (h75 : M' 75 = M 75) (h23 : M' 58 23 = M 58 23) (h24 : M' 58 24 = M 58 24) : OUTR M' := by
  obtain ⟨l, p1, p2, p3⟩ := s
  refine ⟨l, PC_row p1 h7 h8, ?_, p3⟩
  unfold PM at p2 ⊢
  rw [iv_row h75, iv1 (M' := M') (M := M) (a := 58) (k := 23) h23, iv1 (M' := M') (M := M) (a := 58) (k := 24) h24]
  exact p2
theorem arc_rows {M M' : am_M} (s : ARC M) (h12 : M' 12 = M 12) (h14 : M' 14 = M 14) (h60 : M' 60 = M 60) (h61 : M' 61 = M 61) (h62 : M' 62 = M 62) (h2 : M' 58 2 = M 58 2) : ARC M' := by
  unfold ARC at s ⊢
  rw [iv_row h12, iv_row h14, iv_row h60, iv_row h61, iv_row h62, iv1 (M' := M') (M := M) (a := 58) (k := 2) h2]
  exact s
theorem st_of_qry {tc tm : am_T} {ca ma : List Value} {M : am_M} (rr : RR M) (q : QRY tc tm ca ma M) : STEP tc tm ca ma M := by
  obtain ⟨r, ⟨M1, c1, c2⟩, m⟩ := q
  obtain ⟨M2, m1, m2, m3⟩ := m M1 (fun a ha => c2 a (by omega))
  obtain ⟨s1, s2, s3, s4⟩ := rr
  have row : ∀ a, (a = 2 ∨ a = 3 ∨ a = 7 ∨ a = 8 ∨ a = 11 ∨ a = 12 ∨ a = 14 ∨ (59 ≤ a ∧ a ≤ 62) ∨ a = 73 ∨ a = 75 ∨ 81 ≤ a) → M2 a = M a := fun a ha => (m2 a (by omega)).trans (c2 a (by omega))
  have fl : ∀ j, (j = 2 ∨ j = 17 ∨ j = 23 ∨ j = 24) → M2 58 j = M 58 j := fun j hj => (m3 j hj).trans (by rw [c2 58 (by decide)])
  exact ⟨r, M1, M2, c1, m1, ⟨cst_rows s1 (row 11 (by decide)) (row 59 (by decide)), txt_rows s2 (row 2 (by decide)) (row 3 (by decide)) (row 73 (by decide)) (fl 17 (by decide)), out_rows s3 (row 7 (by decide)) (row 8 (by decide)) (row 75 (by decide)) (fl 23 (by decide)) (fl 24 (by decide)), arc_rows s4 (row 12 (by decide)) (row 14 (by decide)) (row 60 (by decide)) (row 61 (by decide)) (row 62 (by decide)) (fl 2 (by decide))⟩, row 5000 (by decide), row 5001 (by decide)⟩
theorem step_same {tc tm : am_T} {ca ma : List Value} {M : am_M} (rr : RR M) (r : Int) (h0 : (am_sl1 ca).length ≤ am_mL tc ∧ ca.length = am_ar tc) (h1 : (am_sl1 ma).length ≤ am_mL tm ∧ ma.length = am_ar tm)
    (hc : am_x tc (0, am_ent (am_mL tc) ca, [], M) (fun rv M1 => rv = some (.int (zi r)) ∧ M1 = M)) (hm : am_x tm (0, am_ent (am_mL tm) ma, [], M) (fun rv M2 => rv = some (.int (zi r)) ∧ M2 = M)) : STEP tc tm ca ma M := by
  exact ⟨r, M, M, am_call_of h0 hc, am_call_of h1 hm, rr, rfl, rfl⟩
theorem st_print' {M : am_M} (rr : RR M) {d e : Int} (dz : zr d) (ez : zr e) : STEP t_SB_print t_Mo_print [.ref 0, .int (zi d), .int (zi e)] [.ref 58, .int (zi d), .int (zi e)] M := by
  obtain ⟨s1, s2, s3, s4⟩ := rr
  obtain ⟨r, M1, M2, c1, c2, c3, c4, c5⟩ := st_print s1 dz ez s3
  exact ⟨r, M1, M2, c1, c2, ⟨cst_rows s1 (c3 11 (by decide)) (c3 59 (by decide)), txt_rows s2 (c3 2 (by decide)) (c3 3 (by decide)) (c3 73 (by decide)) (c4 17 (by decide)), c5, arc_rows s4 (c3 12 (by decide)) (c3 14 (by decide)) (c3 60 (by decide)) (c3 61 (by decide)) (c3 62 (by decide)) (c4 2 (by decide))⟩, c3 5000 (by decide), c3 5001 (by decide)⟩
set_option maxRecDepth 100000 in
theorem vc_p2_append (x : Int) (M : am_M) (Q : Option Value → am_M → Prop) (hv : ((iv M 2 1) < 0 → ∀ M1, M1 = zup M 2 1 ((iv M 2 1) + 1) → Q none M1) ∧ (0 ≤ (iv M 2 1) → ((iv M 2 1) < 120 → (0 ≤ (iv M 2 1) ∧ (iv M 2 1) < 120) ∧ (∀ M2, M2 = zup M 3 (iv M 2 1) x → ∀ M4, M4 = zup M2 2 1 ((iv M2 2 1) + 1) → Q none M4)) ∧ (120 ≤ (iv M 2 1) → ∀ M5, M5 = zup M 2 1 ((iv M 2 1) + 1) → Q none M5))) : am_x t_Pag_append (0, am_ent (am_mL t_Pag_append) [.ref 2, .int (zi x)], [], M) Q := by
  refine am_xn 0 (c1 := (0, [.ref 2, .int (zi x)], [], M)) rfl ?_
  refine am_xrd 2 2 1 (pc := 4) (ls := [.ref 2, .int (zi x)]) (st := []) rfl ?_
  refine am_xn 1 (c1 := (if zi (iv M 2 1) < zi 0 then 29 else 7, [.ref 2, .int (zi x)], [], M)) rfl (am_xlt (iv_r _ _ _) (by decide) (fun h => ?_) (fun h => ?_))
  · replace hv := hv.1 h
    refine am_xrd 3 2 1 (pc := 34) (ls := [.ref 2, .int (zi x)]) (st := [.ref 2]) rfl ?_
    refine am_xiadd 2 (iv M 2 1) 1 (pc := 36) (ls := [.ref 2, .int (zi x)]) (st := [.ref 2]) rfl ?_
    refine am_xn 1 (c1 := (39, [.ref 2, .int (zi x)], [], zup M 2 1 ((iv M 2 1) + 1))) rfl ?_
    obtain ⟨M1, eM1⟩ : ∃ m, m = zup M 2 1 ((iv M 2 1) + 1) := ⟨_, rfl⟩
    replace hv := hv M1 eM1
    rw [← eM1]
    exact am_xr none ⟨rfl, rfl, rfl⟩ hv
  · replace hv := hv.2 h
    refine am_xrd 2 2 1 (pc := 11) (ls := [.ref 2, .int (zi x)]) (st := []) rfl ?_
    refine am_xn 4 (c1 := (if zi (iv M 2 1) < zi 120 then 19 else 29, [.ref 2, .int (zi x)], [], M)) rfl (am_xlt (iv_r _ _ _) (by decide) (fun h => ?_) (fun h => ?_))
    · replace hv := hv.1 h
      refine am_xrd 4 2 1 (pc := 27) (ls := [.ref 2, .int (zi x)]) (st := [.ref 3]) rfl ?_
      obtain ⟨r3, hv⟩ := hv
      refine am_xn 1 (c1 := (28, [.ref 2, .int (zi x)], [.int (zi x), .int (zi (iv M 2 1)), .ref 3], M)) rfl ?_
      refine am_xast rfl rfl rfl r3 ?_
      refine am_xn 0 (c1 := (29, [.ref 2, .int (zi x)], [], zup M 3 (iv M 2 1) x)) rfl ?_
      obtain ⟨M2, eM2⟩ : ∃ m, m = zup M 3 (iv M 2 1) x := ⟨_, rfl⟩
      replace hv := hv M2 eM2
      rw [← eM2]
      refine am_xrd 3 2 1 (pc := 34) (ls := [.ref 2, .int (zi x)]) (st := [.ref 2]) rfl ?_
      refine am_xiadd 2 (iv M2 2 1) 1 (pc := 36) (ls := [.ref 2, .int (zi x)]) (st := [.ref 2]) rfl ?_
      refine am_xn 1 (c1 := (39, [.ref 2, .int (zi x)], [], zup M2 2 1 ((iv M2 2 1) + 1))) rfl ?_
      obtain ⟨M4, eM4⟩ : ∃ m, m = zup M2 2 1 ((iv M2 2 1) + 1) := ⟨_, rfl⟩
      replace hv := hv M4 eM4
      rw [← eM4]
      exact am_xr none ⟨rfl, rfl, rfl⟩ hv
    · replace hv := hv.2 h
      refine am_xrd 3 2 1 (pc := 34) (ls := [.ref 2, .int (zi x)]) (st := [.ref 2]) rfl ?_
      refine am_xiadd 2 (iv M 2 1) 1 (pc := 36) (ls := [.ref 2, .int (zi x)]) (st := [.ref 2]) rfl ?_
      refine am_xn 1 (c1 := (39, [.ref 2, .int (zi x)], [], zup M 2 1 ((iv M 2 1) + 1))) rfl ?_
      obtain ⟨M5, eM5⟩ : ∃ m, m = zup M 2 1 ((iv M 2 1) + 1) := ⟨_, rfl⟩
      replace hv := hv M5 eM5
      rw [← eM5]
      exact am_xr none ⟨rfl, rfl, rfl⟩ hv
set_option maxRecDepth 100000 in
theorem vc_p2_kept  (M : am_M) (Q : Option Value → am_M → Prop) (hv : Q (some (.int (zi (min (iv M 2 1) 120)))) M) : am_x t_Pag_kept (0, am_ent (am_mL t_Pag_kept) [.ref 2], [], M) Q := by
  refine am_xn 0 (c1 := (0, [.ref 2], [], M)) rfl ?_
  refine am_xrd 2 2 1 (pc := 4) (ls := [.ref 2]) (st := []) rfl ?_
  refine am_xn 3 (c1 := (9, [.ref 2], [.int (zi 120), .int (zi (iv M 2 1))], M)) rfl ?_
  refine am_xmin 25 rfl rfl (by decide) (iv_r _ _ _) (by decide) ?_
  refine am_xn 0 (c1 := (12, [.ref 2], [.int (zi (min (iv M 2 1) 120))], M)) rfl ?_
  exact am_xr (some (.int (zi (min (iv M 2 1) 120)))) ⟨rfl, rfl, .int, rfl, rfl⟩ hv
set_option maxRecDepth 100000 in
theorem vc_p2_makeEmpty  (M : am_M) (Q : Option Value → am_M → Prop) (hv : ∀ M1, M1 = zup M 2 1 0 → Q none M1) : am_x t_Pag_makeEmpty (0, am_ent (am_mL t_Pag_makeEmpty) [.ref 2], [], M) Q := by
  refine am_xn 0 (c1 := (0, [.ref 2], [], M)) rfl ?_
  refine am_xn 3 (c1 := (5, [.ref 2], [], zup M 2 1 0)) rfl ?_
  obtain ⟨M1, eM1⟩ : ∃ m, m = zup M 2 1 0 := ⟨_, rfl⟩
  replace hv := hv M1 eM1
  rw [← eM1]
  exact am_xr none ⟨rfl, rfl, rfl⟩ hv
set_option maxRecDepth 100000 in
theorem vc_c_type (x : Int) (M : am_M) (Q : Option Value → am_M → Prop) (hv : (zr x ∧ zr (127 : Int)) ∧ ((0 ≤ x ∧ x ≤ 127 → ∃ (r2 : Int) (M1 : am_M), am_call t_Pag_kept [.ref 2] M (some (.int (zi r2))) M1 ∧ ((zr r2) ∧ ((r2 < 120 → ∃ M4, am_call t_Pag_append [.ref 2, .int (zi x)] M1 none M4 ∧ (∃ (r6 : Int) (M5 : am_M), am_call t_Pag_kept [.ref 2] M4 (some (.int (zi r6))) M5 ∧ (Q (some (.int (zi r6))) M5))) ∧ (120 ≤ r2 → Q (some (.int (zi (-4)))) M1)))) ∧ (¬ (0 ≤ x ∧ x ≤ 127) → Q (some (.int (zi (-2)))) M))) : am_x t_SB_type (0, am_ent (am_mL t_SB_type) [.ref 0, .int (zi x)], [], M) Q := by
  refine am_xn 0 (c1 := (0, [.ref 0, .int (zi x)], [], M)) rfl ?_
  refine am_xn 2 (c1 := (3, [.ref 0, .int (zi x)], [.int (zi 127), .int (zi x)], M)) rfl ?_
  obtain ⟨g, hv⟩ := hv
  by_cases c7 : 0 ≤ x ∧ x ≤ 127
  · replace hv := hv.1 c7
    refine am_xc t_SB_within (.invokestatic 56) 56 (av := [.int (zi x), .int (zi 127)]) (rest := []) (rv := some (.int (zi 1))) (M' := M) rfl rfl rfl rfl (Nat.le_of_ble_eq_true rfl) (fun h => nomatch h) (by have q := sp_within M x 127 g; rwa [if_pos c7] at q) ?_
    refine am_xn 0 (c1 := (6, [.ref 0, .int (zi x)], [.int (zi 1)], M)) rfl ?_
    refine am_xn 4 (c1 := (19, [.ref 0, .int (zi x)], [.ref 2], M)) rfl ?_
    obtain ⟨r2, M1, hc, hv⟩ := hv
    refine am_xc t_Pag_kept (.invokevirtual 63) 63 (av := [.ref 2]) (rest := []) (rv := some (.int (zi r2))) (M' := M1) rfl rfl rfl rfl (Nat.le_of_ble_eq_true rfl) (fun _ => rfl) (hc) ?_
    refine am_xn 0 (c1 := (22, [.ref 0, .int (zi x)], [.int (zi r2)], M1)) rfl ?_
    obtain ⟨r3, hv⟩ := hv
    refine am_xn 2 (c1 := (if zi r2 < zi 120 then 30 else 27, [.ref 0, .int (zi x)], [], M1)) rfl (am_xlt r3 (by decide) (fun h => ?_) (fun h => ?_))
    · replace hv := hv.1 h
      refine am_xn 4 (c1 := (38, [.ref 0, .int (zi x)], [.int (zi x), .ref 2], M1)) rfl ?_
      obtain ⟨M4, hc, hv⟩ := hv
      refine am_xc t_Pag_append (.invokevirtual 67) 67 (av := [.ref 2, .int (zi x)]) (rest := []) (rv := none) (M' := M4) rfl rfl rfl rfl (Nat.le_of_ble_eq_true rfl) (fun _ => rfl) (hc) ?_
      refine am_xn 0 (c1 := (41, [.ref 0, .int (zi x)], [], M4)) rfl ?_
      refine am_xn 3 (c1 := (48, [.ref 0, .int (zi x)], [.ref 2], M4)) rfl ?_
      obtain ⟨r6, M5, hc, hv⟩ := hv
      refine am_xc t_Pag_kept (.invokevirtual 63) 63 (av := [.ref 2]) (rest := []) (rv := some (.int (zi r6))) (M' := M5) rfl rfl rfl rfl (Nat.le_of_ble_eq_true rfl) (fun _ => rfl) (hc) ?_
      refine am_xn 0 (c1 := (51, [.ref 0, .int (zi x)], [.int (zi r6)], M5)) rfl ?_
      exact am_xr (some (.int (zi r6))) ⟨rfl, rfl, .int, rfl, rfl⟩ hv
    · replace hv := hv.2 h
      refine am_xn 1 (c1 := (29, [.ref 0, .int (zi x)], [.int (zi (-4))], M1)) rfl ?_
      exact am_xr (some (.int (zi (-4)))) ⟨rfl, rfl, .int, rfl, rfl⟩ hv
  · replace hv := hv.2 c7
    refine am_xc t_SB_within (.invokestatic 56) 56 (av := [.int (zi x), .int (zi 127)]) (rest := []) (rv := some (.int (zi 0))) (M' := M) rfl rfl rfl rfl (Nat.le_of_ble_eq_true rfl) (fun h => nomatch h) (by have q := sp_within M x 127 g; rwa [if_neg c7] at q) ?_
    refine am_xn 0 (c1 := (6, [.ref 0, .int (zi x)], [.int (zi 0)], M)) rfl ?_
    refine am_xn 2 (c1 := (11, [.ref 0, .int (zi x)], [.int (zi (-2))], M)) rfl ?_
    exact am_xr (some (.int (zi (-2)))) ⟨rfl, rfl, .int, rfl, rfl⟩ hv
set_option maxRecDepth 100000 in
theorem vc_m_type (x : Int) (M : am_M) (Q : Option Value → am_M → Prop) (hv : (zr x ∧ zr (0 : Int) ∧ zr (127 : Int)) ∧ ((0 ≤ x ∧ x ≤ 127 → ((iv M 58 17) = 120 → Q (some (.int (zi (-4)))) M) ∧ (¬ (iv M 58 17) = 120 → (0 ≤ (iv M 58 17) ∧ (iv M 58 17) < 120) ∧ (∀ M1, M1 = zup M 73 (iv M 58 17) x → ∀ M3, M3 = zup M1 58 17 ((iv M1 58 17) + 1) → Q (some (.int (zi (iv M3 58 17)))) M3))) ∧ (¬ (0 ≤ x ∧ x ≤ 127) → Q (some (.int (zi (-2)))) M))) : am_x t_Mo_type (0, am_ent (am_mL t_Mo_type) [.ref 58, .int (zi x)], [], M) Q := by
  refine am_xn 0 (c1 := (0, [.ref 58, .int (zi x)], [], M)) rfl ?_
  refine am_xn 3 (c1 := (4, [.ref 58, .int (zi x)], [.int (zi 127), .int (zi 0), .int (zi x)], M)) rfl ?_
  obtain ⟨g, hv⟩ := hv
  by_cases c4 : 0 ≤ x ∧ x ≤ 127
  · replace hv := hv.1 c4
    refine am_xc t_Mo_in (.invokestatic 76) 76 (av := [.int (zi x), .int (zi 0), .int (zi 127)]) (rest := []) (rv := some (.int (zi 1))) (M' := M) rfl rfl rfl rfl (Nat.le_of_ble_eq_true rfl) (fun h => nomatch h) (by have q := sp_in M x 0 127 g; rwa [if_pos c4] at q) ?_
    refine am_xn 0 (c1 := (7, [.ref 58, .int (zi x)], [.int (zi 1)], M)) rfl ?_
    refine am_xrd 3 58 17 (pc := 17) (ls := [.ref 58, .int (zi x)]) (st := []) rfl ?_
    refine am_xn 2 (c1 := (if zi (iv M 58 17) = zi 120 then 22 else 25, [.ref 58, .int (zi x)], [], M)) rfl (am_xeq (iv_r _ _ _) (by decide) (fun h => ?_) (fun h => ?_))
    · replace hv := hv.1 h
      refine am_xn 1 (c1 := (24, [.ref 58, .int (zi x)], [.int (zi (-4))], M)) rfl ?_
      exact am_xr (some (.int (zi (-4)))) ⟨rfl, rfl, .int, rfl, rfl⟩ hv
    · replace hv := hv.2 h
      refine am_xrd 4 58 17 (pc := 33) (ls := [.ref 58, .int (zi x)]) (st := [.ref 73]) rfl ?_
      obtain ⟨r2, hv⟩ := hv
      refine am_xn 1 (c1 := (34, [.ref 58, .int (zi x)], [.int (zi x), .int (zi (iv M 58 17)), .ref 73], M)) rfl ?_
      refine am_xast rfl rfl rfl r2 ?_
      refine am_xn 0 (c1 := (35, [.ref 58, .int (zi x)], [], zup M 73 (iv M 58 17) x)) rfl ?_
      obtain ⟨M1, eM1⟩ : ∃ m, m = zup M 73 (iv M 58 17) x := ⟨_, rfl⟩
      replace hv := hv M1 eM1
      rw [← eM1]
      refine am_xrd 3 58 17 (pc := 40) (ls := [.ref 58, .int (zi x)]) (st := [.ref 58]) rfl ?_
      refine am_xiadd 2 (iv M1 58 17) 1 (pc := 42) (ls := [.ref 58, .int (zi x)]) (st := [.ref 58]) rfl ?_
      refine am_xn 1 (c1 := (45, [.ref 58, .int (zi x)], [], zup M1 58 17 ((iv M1 58 17) + 1))) rfl ?_
      obtain ⟨M3, eM3⟩ : ∃ m, m = zup M1 58 17 ((iv M1 58 17) + 1) := ⟨_, rfl⟩
      replace hv := hv M3 eM3
      rw [← eM3]
      refine am_xrd 2 58 17 (pc := 49) (ls := [.ref 58, .int (zi x)]) (st := []) rfl ?_
      exact am_xr (some (.int (zi (iv M3 58 17)))) ⟨rfl, rfl, .int, rfl, rfl⟩ hv
  · replace hv := hv.2 c4
    refine am_xc t_Mo_in (.invokestatic 76) 76 (av := [.int (zi x), .int (zi 0), .int (zi 127)]) (rest := []) (rv := some (.int (zi 0))) (M' := M) rfl rfl rfl rfl (Nat.le_of_ble_eq_true rfl) (fun h => nomatch h) (by have q := sp_in M x 0 127 g; rwa [if_neg c4] at q) ?_
    refine am_xn 0 (c1 := (7, [.ref 58, .int (zi x)], [.int (zi 0)], M)) rfl ?_
    refine am_xn 2 (c1 := (12, [.ref 58, .int (zi x)], [.int (zi (-2))], M)) rfl ?_
    exact am_xr (some (.int (zi (-2)))) ⟨rfl, rfl, .int, rfl, rfl⟩ hv
set_option maxRecDepth 100000 in
theorem vc_c_clear  (M : am_M) (Q : Option Value → am_M → Prop) (hv : ∃ (r2 : Int) (M1 : am_M), am_call t_Pag_kept [.ref 2] M (some (.int (zi r2))) M1 ∧ (∃ M3, am_call t_Pag_makeEmpty [.ref 2] M1 none M3 ∧ (Q (some (.int (zi r2))) M3))) : am_x t_SB_clear (0, am_ent (am_mL t_SB_clear) [.ref 0], [], M) Q := by
  refine am_xn 0 (c1 := (0, [.ref 0, .null], [], M)) rfl ?_
  refine am_xn 3 (c1 := (7, [.ref 0, .null], [.ref 2], M)) rfl ?_
  obtain ⟨r2, M1, hc, hv⟩ := hv
  refine am_xc t_Pag_kept (.invokevirtual 63) 63 (av := [.ref 2]) (rest := []) (rv := some (.int (zi r2))) (M' := M1) rfl rfl rfl rfl (Nat.le_of_ble_eq_true rfl) (fun _ => rfl) (hc) ?_
  refine am_xn 0 (c1 := (10, [.ref 0, .null], [.int (zi r2)], M1)) rfl ?_
  refine am_xn 4 (c1 := (18, [.ref 0, .int (zi r2)], [.ref 2], M1)) rfl ?_
  obtain ⟨M3, hc, hv⟩ := hv
  refine am_xc t_Pag_makeEmpty (.invokevirtual 70) 70 (av := [.ref 2]) (rest := []) (rv := none) (M' := M3) rfl rfl rfl rfl (Nat.le_of_ble_eq_true rfl) (fun _ => rfl) (hc) ?_
  refine am_xn 0 (c1 := (21, [.ref 0, .int (zi r2)], [], M3)) rfl ?_
  refine am_xn 1 (c1 := (22, [.ref 0, .int (zi r2)], [.int (zi r2)], M3)) rfl ?_
  exact am_xr (some (.int (zi r2))) ⟨rfl, rfl, .int, rfl, rfl⟩ hv
set_option maxRecDepth 100000 in
theorem vc_m_clear  (M : am_M) (Q : Option Value → am_M → Prop) (hv : ∀ M1, M1 = zup M 58 17 0 → Q (some (.int (zi (iv M 58 17)))) M1) : am_x t_Mo_clear (0, am_ent (am_mL t_Mo_clear) [.ref 58], [], M) Q := by
  refine am_xn 0 (c1 := (0, [.ref 58, .null], [], M)) rfl ?_
  refine am_xrd 2 58 17 (pc := 4) (ls := [.ref 58, .null]) (st := []) rfl ?_
  refine am_xn 4 (c1 := (10, [.ref 58, .int (zi (iv M 58 17))], [], zup M 58 17 0)) rfl ?_
  obtain ⟨M1, eM1⟩ : ∃ m, m = zup M 58 17 0 := ⟨_, rfl⟩
  replace hv := hv M1 eM1
  rw [← eM1]
  refine am_xn 1 (c1 := (11, [.ref 58, .int (zi (iv M 58 17))], [.int (zi (iv M 58 17))], M1)) rfl ?_
  exact am_xr (some (.int (zi (iv M 58 17)))) ⟨rfl, rfl, .int, rfl, rfl⟩ hv
set_option maxRecDepth 100000 in
theorem vc_c_revoke (a : Int) (on : Int) (M : am_M) (Q : Option Value → am_M → Prop) (hv : (zr a) ∧ ((0 ≤ a ∧ a < iv M 11 0 → (zand (zshr (iv M 11 3) a) 1 = 1 → (zr on) ∧ ((1 = on → Q (some (.int (zi (-3)))) M) ∧ (¬ 1 = on → ∃ M2, am_call t_Arc_push [.ref 12, .ref 9] M none M2 ∧ (∀ M3, M3 = zup M2 11 3 (zxor (iv M2 11 3) (zshl 1 a)) → Q (some (.int (zi 1))) M3)))) ∧ (¬ (zand (zshr (iv M 11 3) a) 1 = 1) → (zr on) ∧ ((0 = on → Q (some (.int (zi (-3)))) M) ∧ (¬ 0 = on → ∃ M5, am_call t_Arc_push [.ref 12, .ref 9] M none M5 ∧ (∀ M6, M6 = zup M5 11 3 (zxor (iv M5 11 3) (zshl 1 a)) → Q (some (.int (zi 1))) M6))))) ∧ (¬ (0 ≤ a ∧ a < iv M 11 0) → Q (some (.int (zi (-2)))) M))) : am_x t_SB_revoke (0, am_ent (am_mL t_SB_revoke) [.ref 0, .int (zi a), .int (zi on)], [], M) Q := by
  refine am_xn 0 (c1 := (0, [.ref 0, .int (zi a), .int (zi on)], [], M)) rfl ?_
  refine am_xn 3 (c1 := (5, [.ref 0, .int (zi a), .int (zi on)], [.int (zi a), .ref 9], M)) rfl ?_
  obtain ⟨g, hv⟩ := hv
  by_cases c8 : 0 ≤ a ∧ a < iv M 11 0
  · replace hv := hv.1 c8
    refine am_xc t_Amd_has (.invokevirtual 99) 99 (av := [.ref 9, .int (zi a)]) (rest := []) (rv := some (.int (zi 1))) (M' := M) rfl rfl rfl rfl (Nat.le_of_ble_eq_true rfl) (fun _ => rfl) (by have q := sp_c_has M a g; rwa [if_pos c8] at q) ?_
    refine am_xn 0 (c1 := (8, [.ref 0, .int (zi a), .int (zi on)], [.int (zi 1)], M)) rfl ?_
    refine am_xn 4 (c1 := (19, [.ref 0, .int (zi a), .int (zi on)], [.int (zi a), .ref 9], M)) rfl ?_
    by_cases c7 : zand (zshr (iv M 11 3) a) 1 = 1
    · replace hv := hv.1 c7
      refine am_xc t_Amd_isRevoked (.invokevirtual 103) 103 (av := [.ref 9, .int (zi a)]) (rest := []) (rv := some (.int (zi 1))) (M' := M) rfl rfl rfl rfl (Nat.le_of_ble_eq_true rfl) (fun _ => rfl) (by have q := sp_c_isRevoked M a; rwa [if_pos c7] at q) ?_
      refine am_xn 0 (c1 := (22, [.ref 0, .int (zi a), .int (zi on)], [.int (zi 1)], M)) rfl ?_
      obtain ⟨r1, hv⟩ := hv
      refine am_xn 2 (c1 := (if zi 1 = zi on then 26 else 29, [.ref 0, .int (zi a), .int (zi on)], [], M)) rfl (am_xeq (by decide) r1 (fun h => ?_) (fun h => ?_))
      · replace hv := hv.1 h
        refine am_xn 1 (c1 := (28, [.ref 0, .int (zi a), .int (zi on)], [.int (zi (-3))], M)) rfl ?_
        exact am_xr (some (.int (zi (-3)))) ⟨rfl, rfl, .int, rfl, rfl⟩ hv
      · replace hv := hv.2 h
        refine am_xn 4 (c1 := (37, [.ref 0, .int (zi a), .int (zi on)], [.ref 9, .ref 12], M)) rfl ?_
        obtain ⟨M2, hc, hv⟩ := hv
        refine am_xc t_Arc_push (.invokevirtual 88) 88 (av := [.ref 12, .ref 9]) (rest := []) (rv := none) (M' := M2) rfl rfl rfl rfl (Nat.le_of_ble_eq_true rfl) (fun _ => rfl) (hc) ?_
        refine am_xn 0 (c1 := (40, [.ref 0, .int (zi a), .int (zi on)], [], M2)) rfl ?_
        refine am_xn 4 (c1 := (48, [.ref 0, .int (zi a), .int (zi on)], [.ref 9, .ref 9], M2)) rfl ?_
        refine am_xc t_Amd_revoked (.invokevirtual 106) 106 (av := [.ref 9]) (rest := [.ref 9]) (rv := some (.int (zi (iv M2 11 3)))) (M' := M2) rfl rfl rfl rfl (Nat.le_of_ble_eq_true rfl) (fun _ => rfl) (sp_c_revoked M2) ?_
        refine am_xn 0 (c1 := (51, [.ref 0, .int (zi a), .int (zi on)], [.int (zi (iv M2 11 3)), .ref 9], M2)) rfl ?_
        refine am_xbit 3 (zi 1 <<< (zi a &&& 31)) (pc := 54) (ls := [.ref 0, .int (zi a), .int (zi on)]) (st := [.int (zi (iv M2 11 3)), .ref 9]) rfl ?_
        refine am_xn 0 (c1 := (54, [.ref 0, .int (zi a), .int (zi on)], [.int (zi (zshl 1 a)), .int (zi (iv M2 11 3)), .ref 9], M2)) rfl ?_
        refine am_xbit 1 (zi (iv M2 11 3) ^^^ zi (zshl 1 a)) (pc := 55) (ls := [.ref 0, .int (zi a), .int (zi on)]) (st := [.ref 9]) rfl ?_
        refine am_xn 0 (c1 := (55, [.ref 0, .int (zi a), .int (zi on)], [.int (zi (zxor (iv M2 11 3) (zshl 1 a))), .ref 9], M2)) rfl ?_
        obtain ⟨M3, eM3⟩ : ∃ m, m = zup M2 11 3 (zxor (iv M2 11 3) (zshl 1 a)) := ⟨_, rfl⟩
        replace hv := hv M3 eM3
        refine am_xc t_Amd_setRevoked (.invokevirtual 109) 109 (av := [.ref 9, .int (zi (zxor (iv M2 11 3) (zshl 1 a)))]) (rest := []) (rv := none) (M' := M3) rfl rfl rfl rfl (Nat.le_of_ble_eq_true rfl) (fun _ => rfl) (by rw [eM3]; exact sp_c_setRevoked M2 (zxor (iv M2 11 3) (zshl 1 a))) ?_
        refine am_xn 0 (c1 := (58, [.ref 0, .int (zi a), .int (zi on)], [], M3)) rfl ?_
        refine am_xn 1 (c1 := (59, [.ref 0, .int (zi a), .int (zi on)], [.int (zi 1)], M3)) rfl ?_
        exact am_xr (some (.int (zi 1))) ⟨rfl, rfl, .int, rfl, rfl⟩ hv
    · replace hv := hv.2 c7
      refine am_xc t_Amd_isRevoked (.invokevirtual 103) 103 (av := [.ref 9, .int (zi a)]) (rest := []) (rv := some (.int (zi 0))) (M' := M) rfl rfl rfl rfl (Nat.le_of_ble_eq_true rfl) (fun _ => rfl) (by have q := sp_c_isRevoked M a; rwa [if_neg c7] at q) ?_
      refine am_xn 0 (c1 := (22, [.ref 0, .int (zi a), .int (zi on)], [.int (zi 0)], M)) rfl ?_
      obtain ⟨r4, hv⟩ := hv
      refine am_xn 2 (c1 := (if zi 0 = zi on then 26 else 29, [.ref 0, .int (zi a), .int (zi on)], [], M)) rfl (am_xeq (by decide) r4 (fun h => ?_) (fun h => ?_))
      · replace hv := hv.1 h
        refine am_xn 1 (c1 := (28, [.ref 0, .int (zi a), .int (zi on)], [.int (zi (-3))], M)) rfl ?_
        exact am_xr (some (.int (zi (-3)))) ⟨rfl, rfl, .int, rfl, rfl⟩ hv
      · replace hv := hv.2 h
        refine am_xn 4 (c1 := (37, [.ref 0, .int (zi a), .int (zi on)], [.ref 9, .ref 12], M)) rfl ?_
        obtain ⟨M5, hc, hv⟩ := hv
        refine am_xc t_Arc_push (.invokevirtual 88) 88 (av := [.ref 12, .ref 9]) (rest := []) (rv := none) (M' := M5) rfl rfl rfl rfl (Nat.le_of_ble_eq_true rfl) (fun _ => rfl) (hc) ?_
        refine am_xn 0 (c1 := (40, [.ref 0, .int (zi a), .int (zi on)], [], M5)) rfl ?_
        refine am_xn 4 (c1 := (48, [.ref 0, .int (zi a), .int (zi on)], [.ref 9, .ref 9], M5)) rfl ?_
        refine am_xc t_Amd_revoked (.invokevirtual 106) 106 (av := [.ref 9]) (rest := [.ref 9]) (rv := some (.int (zi (iv M5 11 3)))) (M' := M5) rfl rfl rfl rfl (Nat.le_of_ble_eq_true rfl) (fun _ => rfl) (sp_c_revoked M5) ?_
        refine am_xn 0 (c1 := (51, [.ref 0, .int (zi a), .int (zi on)], [.int (zi (iv M5 11 3)), .ref 9], M5)) rfl ?_
        refine am_xbit 3 (zi 1 <<< (zi a &&& 31)) (pc := 54) (ls := [.ref 0, .int (zi a), .int (zi on)]) (st := [.int (zi (iv M5 11 3)), .ref 9]) rfl ?_
        refine am_xn 0 (c1 := (54, [.ref 0, .int (zi a), .int (zi on)], [.int (zi (zshl 1 a)), .int (zi (iv M5 11 3)), .ref 9], M5)) rfl ?_
        refine am_xbit 1 (zi (iv M5 11 3) ^^^ zi (zshl 1 a)) (pc := 55) (ls := [.ref 0, .int (zi a), .int (zi on)]) (st := [.ref 9]) rfl ?_
        refine am_xn 0 (c1 := (55, [.ref 0, .int (zi a), .int (zi on)], [.int (zi (zxor (iv M5 11 3) (zshl 1 a))), .ref 9], M5)) rfl ?_
        obtain ⟨M6, eM6⟩ : ∃ m, m = zup M5 11 3 (zxor (iv M5 11 3) (zshl 1 a)) := ⟨_, rfl⟩
        replace hv := hv M6 eM6
        refine am_xc t_Amd_setRevoked (.invokevirtual 109) 109 (av := [.ref 9, .int (zi (zxor (iv M5 11 3) (zshl 1 a)))]) (rest := []) (rv := none) (M' := M6) rfl rfl rfl rfl (Nat.le_of_ble_eq_true rfl) (fun _ => rfl) (by rw [eM6]; exact sp_c_setRevoked M5 (zxor (iv M5 11 3) (zshl 1 a))) ?_
        refine am_xn 0 (c1 := (58, [.ref 0, .int (zi a), .int (zi on)], [], M6)) rfl ?_
        refine am_xn 1 (c1 := (59, [.ref 0, .int (zi a), .int (zi on)], [.int (zi 1)], M6)) rfl ?_
        exact am_xr (some (.int (zi 1))) ⟨rfl, rfl, .int, rfl, rfl⟩ hv
  · replace hv := hv.2 c8
    refine am_xc t_Amd_has (.invokevirtual 99) 99 (av := [.ref 9, .int (zi a)]) (rest := []) (rv := some (.int (zi 0))) (M' := M) rfl rfl rfl rfl (Nat.le_of_ble_eq_true rfl) (fun _ => rfl) (by have q := sp_c_has M a g; rwa [if_neg c8] at q) ?_
    refine am_xn 0 (c1 := (8, [.ref 0, .int (zi a), .int (zi on)], [.int (zi 0)], M)) rfl ?_
    refine am_xn 2 (c1 := (13, [.ref 0, .int (zi a), .int (zi on)], [.int (zi (-2))], M)) rfl ?_
    exact am_xr (some (.int (zi (-2)))) ⟨rfl, rfl, .int, rfl, rfl⟩ hv
set_option maxRecDepth 100000 in
theorem vc_m_revoke (a : Int) (on : Int) (M : am_M) (Q : Option Value → am_M → Prop) (hv : (zr a ∧ 0 ≤ iv M 59 0) ∧ ((0 ≤ a ∧ a < iv M 59 0 → (0 ≤ (21 + a) ∧ (21 + a) < 1501) ∧ (((iv M 59 (21 + a)) = 1 → (zr on) ∧ ((1 = on → Q (some (.int (zi (-3)))) M) ∧ (¬ 1 = on → ∃ M3, am_call t_Mo_keeps [.ref 58] M none M3 ∧ ((on = 0 → (0 ≤ (21 + a) ∧ (21 + a) < 1501) ∧ (∀ M4, M4 = zup M3 59 (21 + a) 0 → Q (some (.int (zi 1))) M4)) ∧ (¬ on = 0 → (0 ≤ (21 + a) ∧ (21 + a) < 1501) ∧ (∀ M6, M6 = zup M3 59 (21 + a) 1 → Q (some (.int (zi 1))) M6)))))) ∧ (¬ (iv M 59 (21 + a)) = 1 → (zr on) ∧ ((0 = on → Q (some (.int (zi (-3)))) M) ∧ (¬ 0 = on → ∃ M9, am_call t_Mo_keeps [.ref 58] M none M9 ∧ ((0 ≤ (21 + a) ∧ (21 + a) < 1501) ∧ (∀ M10, M10 = zup M9 59 (21 + a) 1 → Q (some (.int (zi 1))) M10))))))) ∧ (¬ (0 ≤ a ∧ a < iv M 59 0) → Q (some (.int (zi (-2)))) M))) : am_x t_Mo_revoke (0, am_ent (am_mL t_Mo_revoke) [.ref 58, .int (zi a), .int (zi on)], [], M) Q := by
  refine am_xn 0 (c1 := (0, [.ref 58, .int (zi a), .int (zi on)], [], M)) rfl ?_
  refine am_xn 2 (c1 := (2, [.ref 58, .int (zi a), .int (zi on)], [.int (zi a), .ref 58], M)) rfl ?_
  obtain ⟨g, hv⟩ := hv
  by_cases c12 : 0 ≤ a ∧ a < iv M 59 0
  · replace hv := hv.1 c12
    refine am_xc t_Mo_isAmendment (.invokevirtual 239) 239 (av := [.ref 58, .int (zi a)]) (rest := []) (rv := some (.int (zi 1))) (M' := M) rfl rfl rfl rfl (Nat.le_of_ble_eq_true rfl) (fun _ => rfl) (by have q := sp_isAmendment M a g; rwa [if_pos c12] at q) ?_
    refine am_xn 0 (c1 := (5, [.ref 58, .int (zi a), .int (zi on)], [.int (zi 1)], M)) rfl ?_
    refine am_xiadd 6 21 a (pc := 19) (ls := [.ref 58, .int (zi a), .int (zi on)]) (st := [.ref 59]) rfl ?_
    obtain ⟨r1, hv⟩ := hv
    refine am_xald rfl rfl rfl r1 ?_
    refine am_xn 0 (c1 := (20, [.ref 58, .int (zi a), .int (zi on)], [.int (zi (iv M 59 (21 + a)))], M)) rfl ?_
    refine am_xn 2 (c1 := (if zi (iv M 59 (21 + a)) = zi 1 then 24 else 28, [.ref 58, .int (zi a), .int (zi on)], [], M)) rfl (am_xeq (iv_r _ _ _) (by decide) (fun h => ?_) (fun h => ?_))
    · replace hv := hv.1 h
      obtain ⟨r2, hv⟩ := hv
      refine am_xn 4 (c1 := (if zi 1 = zi on then 33 else 36, [.ref 58, .int (zi a), .int (zi on)], [], M)) rfl (am_xeq (by decide) r2 (fun h => ?_) (fun h => ?_))
      · replace hv := hv.1 h
        refine am_xn 1 (c1 := (35, [.ref 58, .int (zi a), .int (zi on)], [.int (zi (-3))], M)) rfl ?_
        exact am_xr (some (.int (zi (-3)))) ⟨rfl, rfl, .int, rfl, rfl⟩ hv
      · replace hv := hv.2 h
        refine am_xn 1 (c1 := (37, [.ref 58, .int (zi a), .int (zi on)], [.ref 58], M)) rfl ?_
        obtain ⟨M3, hc, hv⟩ := hv
        refine am_xc t_Mo_keeps (.invokevirtual 230) 230 (av := [.ref 58]) (rest := []) (rv := none) (M' := M3) rfl rfl rfl rfl (Nat.le_of_ble_eq_true rfl) (fun _ => rfl) (hc) ?_
        refine am_xn 0 (c1 := (40, [.ref 58, .int (zi a), .int (zi on)], [], M3)) rfl ?_
        refine am_xiadd 5 21 a (pc := 48) (ls := [.ref 58, .int (zi a), .int (zi on)]) (st := [.ref 59]) rfl ?_
        refine am_xn 2 (c1 := (if zi on = zi 0 then 56 else 52, [.ref 58, .int (zi a), .int (zi on)], [.int (zi (21 + a)), .ref 59], M3)) rfl (am_xeq r2 (by decide) (fun h => ?_) (fun h => ?_))
        · replace hv := hv.1 h
          obtain ⟨r5, hv⟩ := hv
          refine am_xn 1 (c1 := (57, [.ref 58, .int (zi a), .int (zi on)], [.int (zi 0), .int (zi (21 + a)), .ref 59], M3)) rfl ?_
          refine am_xast rfl rfl rfl r5 ?_
          refine am_xn 0 (c1 := (58, [.ref 58, .int (zi a), .int (zi on)], [], zup M3 59 (21 + a) 0)) rfl ?_
          obtain ⟨M4, eM4⟩ : ∃ m, m = zup M3 59 (21 + a) 0 := ⟨_, rfl⟩
          replace hv := hv M4 eM4
          rw [← eM4]
          refine am_xn 1 (c1 := (59, [.ref 58, .int (zi a), .int (zi on)], [.int (zi 1)], M4)) rfl ?_
          exact am_xr (some (.int (zi 1))) ⟨rfl, rfl, .int, rfl, rfl⟩ hv
        · replace hv := hv.2 h
          obtain ⟨r7, hv⟩ := hv
          refine am_xn 2 (c1 := (57, [.ref 58, .int (zi a), .int (zi on)], [.int (zi 1), .int (zi (21 + a)), .ref 59], M3)) rfl ?_
          refine am_xast rfl rfl rfl r7 ?_
          refine am_xn 0 (c1 := (58, [.ref 58, .int (zi a), .int (zi on)], [], zup M3 59 (21 + a) 1)) rfl ?_
          obtain ⟨M6, eM6⟩ : ∃ m, m = zup M3 59 (21 + a) 1 := ⟨_, rfl⟩
          replace hv := hv M6 eM6
          rw [← eM6]
          refine am_xn 1 (c1 := (59, [.ref 58, .int (zi a), .int (zi on)], [.int (zi 1)], M6)) rfl ?_
          exact am_xr (some (.int (zi 1))) ⟨rfl, rfl, .int, rfl, rfl⟩ hv
    · replace hv := hv.2 h
      obtain ⟨r8, hv⟩ := hv
      refine am_xn 3 (c1 := (if zi 0 = zi on then 33 else 36, [.ref 58, .int (zi a), .int (zi on)], [], M)) rfl (am_xeq (by decide) r8 (fun h => ?_) (fun h => ?_))
      · replace hv := hv.1 h
        refine am_xn 1 (c1 := (35, [.ref 58, .int (zi a), .int (zi on)], [.int (zi (-3))], M)) rfl ?_
        exact am_xr (some (.int (zi (-3)))) ⟨rfl, rfl, .int, rfl, rfl⟩ hv
      · replace hv := hv.2 h
        refine am_xn 1 (c1 := (37, [.ref 58, .int (zi a), .int (zi on)], [.ref 58], M)) rfl ?_
        obtain ⟨M9, hc, hv⟩ := hv
        refine am_xc t_Mo_keeps (.invokevirtual 230) 230 (av := [.ref 58]) (rest := []) (rv := none) (M' := M9) rfl rfl rfl rfl (Nat.le_of_ble_eq_true rfl) (fun _ => rfl) (hc) ?_
        refine am_xn 0 (c1 := (40, [.ref 58, .int (zi a), .int (zi on)], [], M9)) rfl ?_
        refine am_xiadd 5 21 a (pc := 48) (ls := [.ref 58, .int (zi a), .int (zi on)]) (st := [.ref 59]) rfl ?_
        refine am_xn 2 (c1 := (if zi on = zi 0 then 56 else 52, [.ref 58, .int (zi a), .int (zi on)], [.int (zi (21 + a)), .ref 59], M9)) rfl (am_xeq r8 (by decide) (fun h => by clear hv; exfalso; omega) (fun h => ?_))
        obtain ⟨r11, hv⟩ := hv
        refine am_xn 2 (c1 := (57, [.ref 58, .int (zi a), .int (zi on)], [.int (zi 1), .int (zi (21 + a)), .ref 59], M9)) rfl ?_
        refine am_xast rfl rfl rfl r11 ?_
        refine am_xn 0 (c1 := (58, [.ref 58, .int (zi a), .int (zi on)], [], zup M9 59 (21 + a) 1)) rfl ?_
        obtain ⟨M10, eM10⟩ : ∃ m, m = zup M9 59 (21 + a) 1 := ⟨_, rfl⟩
        replace hv := hv M10 eM10
        rw [← eM10]
        refine am_xn 1 (c1 := (59, [.ref 58, .int (zi a), .int (zi on)], [.int (zi 1)], M10)) rfl ?_
        exact am_xr (some (.int (zi 1))) ⟨rfl, rfl, .int, rfl, rfl⟩ hv
  · replace hv := hv.2 c12
    refine am_xc t_Mo_isAmendment (.invokevirtual 239) 239 (av := [.ref 58, .int (zi a)]) (rest := []) (rv := some (.int (zi 0))) (M' := M) rfl rfl rfl rfl (Nat.le_of_ble_eq_true rfl) (fun _ => rfl) (by have q := sp_isAmendment M a g; rwa [if_neg c12] at q) ?_
    refine am_xn 0 (c1 := (5, [.ref 58, .int (zi a), .int (zi on)], [.int (zi 0)], M)) rfl ?_
    refine am_xn 2 (c1 := (10, [.ref 58, .int (zi a), .int (zi on)], [.int (zi (-2))], M)) rfl ?_
    exact am_xr (some (.int (zi (-2)))) ⟨rfl, rfl, .int, rfl, rfl⟩ hv
set_option maxRecDepth 100000 in
theorem vc_c_commence (a : Int) (d : Int) (M : am_M) (Q : Option Value → am_M → Prop) (hv : (zr a) ∧ ((0 ≤ a ∧ a < iv M 11 0 → (zr d ∧ zr (9999 : Int)) ∧ ((0 ≤ d ∧ d ≤ 9999 → (0 ≤ a ∧ a ≤ 20) ∧ (∃ M1, am_call t_Arc_push [.ref 12, .ref 9] M none M1 ∧ ((0 ≤ a ∧ a ≤ 20) ∧ (∀ M2, M2 = zup M1 11 (4 + a) d → Q (some (.int (zi (iv M 11 (4 + a))))) M2)))) ∧ (¬ (0 ≤ d ∧ d ≤ 9999) → Q (some (.int (zi (-2)))) M))) ∧ (¬ (0 ≤ a ∧ a < iv M 11 0) → Q (some (.int (zi (-2)))) M))) : am_x t_SB_commence (0, am_ent (am_mL t_SB_commence) [.ref 0, .int (zi a), .int (zi d)], [], M) Q := by
  refine am_xn 0 (c1 := (0, [.ref 0, .int (zi a), .int (zi d), .null], [], M)) rfl ?_
  refine am_xn 3 (c1 := (5, [.ref 0, .int (zi a), .int (zi d), .null], [.int (zi a), .ref 9], M)) rfl ?_
  obtain ⟨g, hv⟩ := hv
  by_cases c4 : 0 ≤ a ∧ a < iv M 11 0
  · replace hv := hv.1 c4
    refine am_xc t_Amd_has (.invokevirtual 99) 99 (av := [.ref 9, .int (zi a)]) (rest := []) (rv := some (.int (zi 1))) (M' := M) rfl rfl rfl rfl (Nat.le_of_ble_eq_true rfl) (fun _ => rfl) (by have q := sp_c_has M a g; rwa [if_pos c4] at q) ?_
    refine am_xn 0 (c1 := (8, [.ref 0, .int (zi a), .int (zi d), .null], [.int (zi 1)], M)) rfl ?_
    refine am_xn 3 (c1 := (15, [.ref 0, .int (zi a), .int (zi d), .null], [.int (zi 9999), .int (zi d)], M)) rfl ?_
    obtain ⟨g, hv⟩ := hv
    by_cases c3 : 0 ≤ d ∧ d ≤ 9999
    · replace hv := hv.1 c3
      refine am_xc t_SB_within (.invokestatic 56) 56 (av := [.int (zi d), .int (zi 9999)]) (rest := []) (rv := some (.int (zi 1))) (M' := M) rfl rfl rfl rfl (Nat.le_of_ble_eq_true rfl) (fun h => nomatch h) (by have q := sp_within M d 9999 g; rwa [if_pos c3] at q) ?_
      refine am_xn 0 (c1 := (18, [.ref 0, .int (zi a), .int (zi d), .null], [.int (zi 1)], M)) rfl ?_
      refine am_xn 4 (c1 := (29, [.ref 0, .int (zi a), .int (zi d), .null], [.int (zi a), .ref 9], M)) rfl ?_
      obtain ⟨g, hv⟩ := hv
      refine am_xc t_Amd_day (.invokevirtual 112) 112 (av := [.ref 9, .int (zi a)]) (rest := []) (rv := some (.int (zi (iv M 11 (4 + a))))) (M' := M) rfl rfl rfl rfl (Nat.le_of_ble_eq_true rfl) (fun _ => rfl) (sp_c_day M a g) ?_
      refine am_xn 0 (c1 := (32, [.ref 0, .int (zi a), .int (zi d), .null], [.int (zi (iv M 11 (4 + a)))], M)) rfl ?_
      refine am_xn 5 (c1 := (41, [.ref 0, .int (zi a), .int (zi d), .int (zi (iv M 11 (4 + a)))], [.ref 9, .ref 12], M)) rfl ?_
      obtain ⟨M1, hc, hv⟩ := hv
      refine am_xc t_Arc_push (.invokevirtual 88) 88 (av := [.ref 12, .ref 9]) (rest := []) (rv := none) (M' := M1) rfl rfl rfl rfl (Nat.le_of_ble_eq_true rfl) (fun _ => rfl) (hc) ?_
      refine am_xn 0 (c1 := (44, [.ref 0, .int (zi a), .int (zi d), .int (zi (iv M 11 (4 + a)))], [], M1)) rfl ?_
      refine am_xn 4 (c1 := (50, [.ref 0, .int (zi a), .int (zi d), .int (zi (iv M 11 (4 + a)))], [.int (zi d), .int (zi a), .ref 9], M1)) rfl ?_
      obtain ⟨g, hv⟩ := hv
      obtain ⟨M2, eM2⟩ : ∃ m, m = zup M1 11 (4 + a) d := ⟨_, rfl⟩
      replace hv := hv M2 eM2
      refine am_xc t_Amd_setDay (.invokevirtual 115) 115 (av := [.ref 9, .int (zi a), .int (zi d)]) (rest := []) (rv := none) (M' := M2) rfl rfl rfl rfl (Nat.le_of_ble_eq_true rfl) (fun _ => rfl) (by rw [eM2]; exact sp_c_setDay M1 a d g) ?_
      refine am_xn 0 (c1 := (53, [.ref 0, .int (zi a), .int (zi d), .int (zi (iv M 11 (4 + a)))], [], M2)) rfl ?_
      refine am_xn 1 (c1 := (54, [.ref 0, .int (zi a), .int (zi d), .int (zi (iv M 11 (4 + a)))], [.int (zi (iv M 11 (4 + a)))], M2)) rfl ?_
      exact am_xr (some (.int (zi (iv M 11 (4 + a))))) ⟨rfl, rfl, .int, rfl, rfl⟩ hv
    · replace hv := hv.2 c3
      refine am_xc t_SB_within (.invokestatic 56) 56 (av := [.int (zi d), .int (zi 9999)]) (rest := []) (rv := some (.int (zi 0))) (M' := M) rfl rfl rfl rfl (Nat.le_of_ble_eq_true rfl) (fun h => nomatch h) (by have q := sp_within M d 9999 g; rwa [if_neg c3] at q) ?_
      refine am_xn 0 (c1 := (18, [.ref 0, .int (zi a), .int (zi d), .null], [.int (zi 0)], M)) rfl ?_
      refine am_xn 2 (c1 := (23, [.ref 0, .int (zi a), .int (zi d), .null], [.int (zi (-2))], M)) rfl ?_
      exact am_xr (some (.int (zi (-2)))) ⟨rfl, rfl, .int, rfl, rfl⟩ hv
  · replace hv := hv.2 c4
    refine am_xc t_Amd_has (.invokevirtual 99) 99 (av := [.ref 9, .int (zi a)]) (rest := []) (rv := some (.int (zi 0))) (M' := M) rfl rfl rfl rfl (Nat.le_of_ble_eq_true rfl) (fun _ => rfl) (by have q := sp_c_has M a g; rwa [if_neg c4] at q) ?_
    refine am_xn 0 (c1 := (8, [.ref 0, .int (zi a), .int (zi d), .null], [.int (zi 0)], M)) rfl ?_
    refine am_xn 2 (c1 := (23, [.ref 0, .int (zi a), .int (zi d), .null], [.int (zi (-2))], M)) rfl ?_
    exact am_xr (some (.int (zi (-2)))) ⟨rfl, rfl, .int, rfl, rfl⟩ hv
set_option maxRecDepth 100000 in
theorem vc_m_commence (a : Int) (d : Int) (M : am_M) (Q : Option Value → am_M → Prop) (hv : (zr a ∧ 0 ≤ iv M 59 0) ∧ ((0 ≤ a ∧ a < iv M 59 0 → (zr d) ∧ ((0 ≤ d ∧ d ≤ 9999 → ∃ M1, am_call t_Mo_keeps [.ref 58] M none M1 ∧ ((0 ≤ (1 + a) ∧ (1 + a) < 1501) ∧ ((0 ≤ (1 + a) ∧ (1 + a) < 1501) ∧ (∀ M3, M3 = zup M1 59 (1 + a) d → Q (some (.int (zi (iv M1 59 (1 + a))))) M3)))) ∧ (¬ (0 ≤ d ∧ d ≤ 9999) → Q (some (.int (zi (-2)))) M))) ∧ (¬ (0 ≤ a ∧ a < iv M 59 0) → Q (some (.int (zi (-2)))) M))) : am_x t_Mo_commence (0, am_ent (am_mL t_Mo_commence) [.ref 58, .int (zi a), .int (zi d)], [], M) Q := by
  refine am_xn 0 (c1 := (0, [.ref 58, .int (zi a), .int (zi d), .null], [], M)) rfl ?_
  refine am_xn 2 (c1 := (2, [.ref 58, .int (zi a), .int (zi d), .null], [.int (zi a), .ref 58], M)) rfl ?_
  obtain ⟨g, hv⟩ := hv
  by_cases c6 : 0 ≤ a ∧ a < iv M 59 0
  · replace hv := hv.1 c6
    refine am_xc t_Mo_isAmendment (.invokevirtual 239) 239 (av := [.ref 58, .int (zi a)]) (rest := []) (rv := some (.int (zi 1))) (M' := M) rfl rfl rfl rfl (Nat.le_of_ble_eq_true rfl) (fun _ => rfl) (by have q := sp_isAmendment M a g; rwa [if_pos c6] at q) ?_
    refine am_xn 0 (c1 := (5, [.ref 58, .int (zi a), .int (zi d), .null], [.int (zi 1)], M)) rfl ?_
    refine am_xn 2 (c1 := (9, [.ref 58, .int (zi a), .int (zi d), .null], [.int (zi d)], M)) rfl ?_
    obtain ⟨g, hv⟩ := hv
    by_cases c5 : 0 ≤ d ∧ d ≤ 9999
    · replace hv := hv.1 c5
      refine am_xc t_Mo_isDay (.invokestatic 80) 80 (av := [.int (zi d)]) (rest := []) (rv := some (.int (zi 1))) (M' := M) rfl rfl rfl rfl (Nat.le_of_ble_eq_true rfl) (fun h => nomatch h) (by have q := sp_isDay M d g; rwa [if_pos c5] at q) ?_
      refine am_xn 0 (c1 := (12, [.ref 58, .int (zi a), .int (zi d), .null], [.int (zi 1)], M)) rfl ?_
      refine am_xn 2 (c1 := (19, [.ref 58, .int (zi a), .int (zi d), .null], [.ref 58], M)) rfl ?_
      obtain ⟨M1, hc, hv⟩ := hv
      refine am_xc t_Mo_keeps (.invokevirtual 230) 230 (av := [.ref 58]) (rest := []) (rv := none) (M' := M1) rfl rfl rfl rfl (Nat.le_of_ble_eq_true rfl) (fun _ => rfl) (hc) ?_
      refine am_xn 0 (c1 := (22, [.ref 58, .int (zi a), .int (zi d), .null], [], M1)) rfl ?_
      refine am_xiadd 5 1 a (pc := 29) (ls := [.ref 58, .int (zi a), .int (zi d), .null]) (st := [.ref 59]) rfl ?_
      obtain ⟨r2, hv⟩ := hv
      refine am_xald rfl rfl rfl r2 ?_
      refine am_xn 0 (c1 := (30, [.ref 58, .int (zi a), .int (zi d), .null], [.int (zi (iv M1 59 (1 + a)))], M1)) rfl ?_
      refine am_xiadd 6 1 a (pc := 38) (ls := [.ref 58, .int (zi a), .int (zi d), .int (zi (iv M1 59 (1 + a)))]) (st := [.ref 59]) rfl ?_
      obtain ⟨r4, hv⟩ := hv
      refine am_xn 1 (c1 := (39, [.ref 58, .int (zi a), .int (zi d), .int (zi (iv M1 59 (1 + a)))], [.int (zi d), .int (zi (1 + a)), .ref 59], M1)) rfl ?_
      refine am_xast rfl rfl rfl r4 ?_
      refine am_xn 0 (c1 := (40, [.ref 58, .int (zi a), .int (zi d), .int (zi (iv M1 59 (1 + a)))], [], zup M1 59 (1 + a) d)) rfl ?_
      obtain ⟨M3, eM3⟩ : ∃ m, m = zup M1 59 (1 + a) d := ⟨_, rfl⟩
      replace hv := hv M3 eM3
      rw [← eM3]
      refine am_xn 1 (c1 := (41, [.ref 58, .int (zi a), .int (zi d), .int (zi (iv M1 59 (1 + a)))], [.int (zi (iv M1 59 (1 + a)))], M3)) rfl ?_
      exact am_xr (some (.int (zi (iv M1 59 (1 + a))))) ⟨rfl, rfl, .int, rfl, rfl⟩ hv
    · replace hv := hv.2 c5
      refine am_xc t_Mo_isDay (.invokestatic 80) 80 (av := [.int (zi d)]) (rest := []) (rv := some (.int (zi 0))) (M' := M) rfl rfl rfl rfl (Nat.le_of_ble_eq_true rfl) (fun h => nomatch h) (by have q := sp_isDay M d g; rwa [if_neg c5] at q) ?_
      refine am_xn 0 (c1 := (12, [.ref 58, .int (zi a), .int (zi d), .null], [.int (zi 0)], M)) rfl ?_
      refine am_xn 2 (c1 := (17, [.ref 58, .int (zi a), .int (zi d), .null], [.int (zi (-2))], M)) rfl ?_
      exact am_xr (some (.int (zi (-2)))) ⟨rfl, rfl, .int, rfl, rfl⟩ hv
  · replace hv := hv.2 c6
    refine am_xc t_Mo_isAmendment (.invokevirtual 239) 239 (av := [.ref 58, .int (zi a)]) (rest := []) (rv := some (.int (zi 0))) (M' := M) rfl rfl rfl rfl (Nat.le_of_ble_eq_true rfl) (fun _ => rfl) (by have q := sp_isAmendment M a g; rwa [if_neg c6] at q) ?_
    refine am_xn 0 (c1 := (5, [.ref 58, .int (zi a), .int (zi d), .null], [.int (zi 0)], M)) rfl ?_
    refine am_xn 2 (c1 := (17, [.ref 58, .int (zi a), .int (zi d), .null], [.int (zi (-2))], M)) rfl ?_
    exact am_xr (some (.int (zi (-2)))) ⟨rfl, rfl, .int, rfl, rfl⟩ hv
theorem sp_p2_kept {M : am_M} (h : 0 ≤ iv M 2 1 ∧ iv M 2 1 ≤ 120) : am_call t_Pag_kept [.ref 2] M (some (.int (zi (iv M 2 1)))) M :=
  am_call_of ⟨Nat.le_of_ble_eq_true rfl, rfl⟩ (vc_p2_kept M _ ⟨by rw [show min (iv M 2 1) 120 = iv M 2 1 by omega], rfl⟩)
theorem st_type {M : am_M} (rr : RR M) {x : Int} (xz : zr x) : STEP t_SB_type t_Mo_type [.ref 0, .int (zi x)] [.ref 58, .int (zi x)] M := by
  have rr' := rr
  obtain ⟨s1, ⟨t1, t2, t3⟩, s3, s4⟩ := rr'
  by_cases hx : 0 ≤ x ∧ x ≤ 127
  · by_cases hn : iv M 2 1 < 120
    · obtain ⟨n, en⟩ : ∃ n, n = iv M 2 1 := ⟨_, rfl⟩
      rw [← en] at t1 t2 hn
      have ca : am_call t_Pag_append [.ref 2, .int (zi x)] M none (zup (zup M 3 n x) 2 1 (n + 1)) := by
        refine am_call_of ⟨Nat.le_of_ble_eq_true rfl, rfl⟩ (vc_p2_append x M _ ?_)
        rw [← en]
        refine ⟨fun q => by omega, fun _ => ⟨fun _ => ⟨⟨by omega, by omega⟩, fun M2 e2 M4 e4 => ⟨rfl, ?_⟩⟩, fun q => by omega⟩⟩
        have : iv M2 2 1 = n := by rw [e2, ivr _ (by decide), en]
        rw [e4, this, e2]
      obtain ⟨M1, eM1⟩ : ∃ M1, M1 = zup (zup M 3 n x) 2 1 (n + 1) := ⟨_, rfl⟩
      rw [← eM1] at ca
      have k1 : iv M1 2 1 = n + 1 := by rw [eM1, ivs _ _ (by decide) (by decide) ⟨by omega, by omega⟩, if_pos rfl]
      obtain ⟨M2, eM2⟩ : ∃ M2, M2 = zup (zup M1 73 n x) 58 17 (n + 1) := ⟨_, rfl⟩
      have m17 : iv M1 58 17 = n := by rw [eM1, ivr _ (by decide), ivr _ (by decide), t1]
      have row : ∀ a, ¬ a = 2 → ¬ a = 3 → ¬ a = 58 → ¬ a = 73 → M2 a = M a := fun a a1 a2 a3 a4 => by rw [eM2, zupr _ a3, zupr _ a4, eM1, zupr _ a1, zupr _ a2]
      have fl : ∀ j, ¬ j = 17 → M2 58 j = M 58 j := fun j hj => by rw [eM2, zup58 _ (by decide) hj, zupr _ (by decide), eM1, zupr _ (by decide), zupr _ (by decide)]
      refine ⟨n + 1, M1, M2, am_call_of ⟨Nat.le_of_ble_eq_true rfl, rfl⟩ (vc_c_type x M _ ⟨⟨xz, by decide⟩, fun _ => ⟨_, M, sp_p2_kept (by omega), iv_r _ _ _, fun _ => ⟨M1, ca, _, M1, sp_p2_kept (by omega), by rw [k1], rfl⟩, fun q => by omega⟩, fun q => absurd hx q⟩), am_call_of ⟨Nat.le_of_ble_eq_true rfl, rfl⟩ (vc_m_type x M1 _ ⟨⟨xz, by decide, by decide⟩, fun _ => ⟨fun q => by omega, fun _ => ?_⟩, fun q => absurd hx q⟩), ⟨cst_rows s1 (row 11 (by decide) (by decide) (by decide) (by decide)) (row 59 (by decide) (by decide) (by decide) (by decide)), ⟨?_, ?_, fun k k0 k1' => ?_⟩, out_rows s3 (row 7 (by decide) (by decide) (by decide) (by decide)) (row 8 (by decide) (by decide) (by decide) (by decide)) (row 75 (by decide) (by decide) (by decide) (by decide)) (fl 23 (by decide)) (fl 24 (by decide)), arc_rows s4 (row 12 (by decide) (by decide) (by decide) (by decide)) (row 14 (by decide) (by decide) (by decide) (by decide)) (row 60 (by decide) (by decide) (by decide) (by decide)) (row 61 (by decide) (by decide) (by decide) (by decide)) (row 62 (by decide) (by decide) (by decide) (by decide)) (fl 2 (by decide))⟩, row 5000 (by decide) (by decide) (by decide) (by decide), row 5001 (by decide) (by decide) (by decide) (by decide)⟩
      · rw [m17]
        refine ⟨⟨by omega, by omega⟩, fun Ma ea Mb eb => ?_⟩
        have : iv Ma 58 17 = n := by rw [ea, ivr _ (by decide), m17]
        have e : Mb = M2 := by rw [eb, this, ea, eM2]
        refine ⟨?_, e⟩
        rw [e, eM2, ivs _ _ (by decide) (by decide) ⟨by omega, by omega⟩, if_pos rfl]
      · rw [eM2, ivs _ _ (by decide) (by decide) ⟨by omega, by omega⟩, if_pos rfl, ivr _ (by decide), ivr _ (by decide), k1]
      · rw [eM2, ivr _ (by decide), ivr _ (by decide), k1]; omega
      · have e2 : iv M2 2 1 = n + 1 := by rw [eM2, ivr _ (by decide), ivr _ (by decide), k1]
        have e3 : iv M2 3 k = if k = n then x else iv M 3 k := by rw [eM2, ivr _ (by decide), ivr _ (by decide), eM1, ivr _ (by decide), ivs _ _ (by omega) k0 xz]
        have e73 : iv M2 73 k = if k = n then x else iv M 73 k := by rw [eM2, ivr _ (by decide), ivs _ _ (by omega) k0 xz, eM1, ivr _ (by decide), ivr _ (by decide)]
        rw [e3, e73]
        by_cases z : k = n
        · rw [if_pos z, if_pos z]; exact ⟨rfl, hx⟩
        · rw [if_neg z, if_neg z]
          exact t3 k k0 (by omega)
    · exact step_same rr (-4) ⟨Nat.le_of_ble_eq_true rfl, rfl⟩ ⟨Nat.le_of_ble_eq_true rfl, rfl⟩ (vc_c_type x M _ ⟨⟨xz, by decide⟩, fun _ => ⟨_, M, sp_p2_kept t2, iv_r _ _ _, fun q => by omega, fun _ => ⟨rfl, rfl⟩⟩, fun q => absurd hx q⟩) (vc_m_type x M _ ⟨⟨xz, by decide, by decide⟩, fun _ => ⟨fun _ => ⟨rfl, rfl⟩, fun q => by omega⟩, fun q => absurd hx q⟩)
  · exact step_same rr (-2) ⟨Nat.le_of_ble_eq_true rfl, rfl⟩ ⟨Nat.le_of_ble_eq_true rfl, rfl⟩ (vc_c_type x M _ ⟨⟨xz, by decide⟩, fun q => absurd q hx, fun _ => ⟨rfl, rfl⟩⟩) (vc_m_type x M _ ⟨⟨xz, by decide, by decide⟩, fun q => absurd q hx, fun _ => ⟨rfl, rfl⟩⟩)
theorem st_clear {M : am_M} (rr : RR M) : STEP t_SB_clear t_Mo_clear [.ref 0] [.ref 58] M := by
  have rr' := rr
  obtain ⟨s1, ⟨t1, t2, t3⟩, s3, s4⟩ := rr'
  have ce : am_call t_Pag_makeEmpty [.ref 2] M none (zup M 2 1 0) := am_call_of ⟨Nat.le_of_ble_eq_true rfl, rfl⟩ (vc_p2_makeEmpty M _ (fun M1 e1 => ⟨rfl, e1⟩))
  obtain ⟨M2, eM2⟩ : ∃ M2, M2 = zup (zup M 2 1 0) 58 17 0 := ⟨_, rfl⟩
  have row : ∀ a, ¬ a = 2 → ¬ a = 58 → M2 a = M a := fun a a1 a3 => by rw [eM2, zupr _ a3, zupr _ a1]
  have fl : ∀ j, ¬ j = 17 → M2 58 j = M 58 j := fun j hj => by rw [eM2, zup58 _ (by decide) hj, zupr _ (by decide)]
  have z2 : iv M2 2 1 = 0 := by rw [eM2, ivr _ (by decide), ivs _ _ (by decide) (by decide) (by decide), if_pos rfl]
  refine ⟨iv M 2 1, zup M 2 1 0, M2, am_call_of ⟨Nat.le_of_ble_eq_true rfl, rfl⟩ (vc_c_clear M _ ⟨_, M, sp_p2_kept t2, _, ce, rfl, rfl⟩), am_call_of ⟨Nat.le_of_ble_eq_true rfl, rfl⟩ (vc_m_clear _ _ (fun M1 e1 => ⟨by rw [ivr _ (by decide), t1], by rw [e1, eM2]⟩)), ⟨cst_rows s1 (row 11 (by decide) (by decide)) (row 59 (by decide) (by decide)), ⟨?_, by omega, fun k k0 k1 => by omega⟩, out_rows s3 (row 7 (by decide) (by decide)) (row 8 (by decide) (by decide)) (row 75 (by decide) (by decide)) (fl 23 (by decide)) (fl 24 (by decide)), arc_rows s4 (row 12 (by decide) (by decide)) (row 14 (by decide) (by decide)) (row 60 (by decide) (by decide)) (row 61 (by decide) (by decide)) (row 62 (by decide) (by decide)) (fl 2 (by decide))⟩, row 5000 (by decide) (by decide), row 5001 (by decide) (by decide)⟩
  rw [z2, eM2, ivs _ _ (by decide) (by decide) (by decide), if_pos rfl]
/-! a book with one cell changed -/
theorem fu_fo (b : Int → Int) {i v : Int} (h : i < 41) (a : Int) : fo (fu b i v) a = fo b a := sm_congr (fun k k0 _ => fu_n b (by omega))
theorem fu_pt (b : Int → Int) {i v o w : Int} (h : i < 41) (o0 : 0 ≤ o) (w0 : 0 ≤ w) : pt (fu b i v) o w = pt b o w := fu_n b (by omega)
theorem fu_ia (b : Int → Int) {i v : Int} (h : i < 41) (o : Int) : ia (fu b i v) o = ia b o := sm_congr (fun k k0 _ => by
  show (if pt (fu b i v) k 0 = 0 then (1 : Int) else 0) = if pt b k 0 = 0 then 1 else 0
  rw [fu_pt b h k0 (by decide)])
theorem WO_fu {b : Int → Int} {i v o : Int} (h : i < 41) (o0 : 0 ≤ o) (w : WO (pt b o)) : WO (pt (fu b i v) o) := WO_congr (fun j j0 _ => (fu_pt b h o0 j0).symm) w
theorem CO_fu {c c' b : Int → Int} {i v o : Int} (h : i < 41) (o0 : 0 ≤ o) (hc : ∀ j, 45 ≤ j → c' j = c j) (w : CO c b o) (wo : WO (pt b o)) : CO c' (fu b i v) o := by
  have ln := wo.ln
  obtain ⟨p0, p1, p2, p3, p4, p5, p6, p7⟩ := w
  have e : ∀ k, 0 ≤ k → cpt c' o k = cpt c o k := fun k k0 => hc _ (by omega)
  have f : ∀ k, 0 ≤ k → pt (fu b i v) o k = pt b o k := fun k k0 => fu_pt b h o0 k0
  unfold CO
  rw [e 0 (by decide), e 1 (by decide), e 2 (by decide), e 3 (by decide), e 4 (by decide), e 5 (by decide), e 6 (by decide), f 0 (by decide), f 1 (by decide), f 2 (by decide), f 3 (by decide), f 4 (by decide), f 5 (by decide), fu_ia b h]
  exact ⟨p0, p1, p2, p3, p4, p5, p6, fun k k0 k1 => by rw [e _ (by omega), f _ (by omega)]; exact p7 k k0 k1⟩
theorem BK_rev {c c' b : Int → Int} (s : BKr c b) {a v : Int} (a0 : 0 ≤ a) (a1 : a < b 0) (hv : v = 0 ∨ v = 1) (hc : ∀ j, 0 ≤ j → ¬ j = 3 → c' j = c j) (hr : 0 ≤ c' 3 ∧ c' 3 < 1048576) (hb : ∀ x, 0 ≤ x → x < 20 → zbt (c' 3) x = if x = a then decide (v = 1) else zbt (c 3) x) : BKr c' (fu b (21 + a) v) := by
  obtain ⟨w, ⟨q0, q1, q2, q3, q4, q5⟩, q6, q7⟩ := s
  have n1 := w.n1
  have z0 : fu b (21 + a) v 0 = b 0 := fu_n b (by omega)
  have zn : nops (fu b (21 + a) v) = nops b := by unfold nops; rw [z0, fu_fo b (by omega)]
  refine ⟨?_, ⟨?_, ?_, ?_, fun x x0 x1 => ?_, fun x x0 x1 => ?_, fun o o0 o1 => ?_⟩, hr, fun x x0 x1 => ?_⟩
  · unfold WB
    rw [z0, zn]
    refine ⟨w.n0, w.n1, fun x x0 x1 => ?_, fun x x0 x1 => ?_, fun x x0 x1 => ?_, w.tot, ?_, fun o o0 o1 => WO_fu (by omega) o0 (w.op o o0 o1)⟩
    · rw [fu_n b (show ¬ 1 + x = 21 + a by omega)]; exact w.day x x0 x1
    · unfold fu
      split
      · exact hv
      · exact w.rev x x0 x1
    · rw [fu_n b (show ¬ 41 + x = 21 + a by omega)]; exact w.sz x x0 x1
    · rw [fu_ia b (by omega)]; exact w.ins
  · rw [hc 0 (by decide) (by decide), z0]; exact q0
  · rw [hc 1 (by decide) (by decide), zn]; exact q1
  · rw [hc 2 (by decide) (by decide), zn, fu_ia b (by omega)]; exact q2
  · rw [z0] at x1
    rw [hc _ (by omega) (by omega), fu_n b (show ¬ 1 + x = 21 + a by omega)]; exact q3 x x0 x1
  · rw [z0] at x1
    rw [hc _ (by omega) (by omega), fu_fo b (by omega)]; exact q4 x x0 x1
  · rw [zn] at o1
    exact CO_fu (by omega) o0 (fun j hj => hc j (by omega) (by omega)) (q5 o o0 o1) (w.op o o0 o1)
  · rw [zb_is _ x0 (by omega), hb x x0 x1, z0]
    have h7 := q7 x x0 x1
    rw [zb_is _ x0 (by omega)] at h7
    by_cases e : x = a
    · rw [if_pos e, e, if_pos a1, fu_s]
      rcases hv with e | e <;> (rw [e]; decide)
    · rw [if_neg e, h7, fu_n b (show ¬ 21 + x = 21 + a by omega)]
theorem BK_day {c c' b : Int → Int} (s : BKr c b) {a v : Int} (a0 : 0 ≤ a) (a1 : a < b 0) (hv : 0 ≤ v ∧ v ≤ 9999) (hc : ∀ j, 0 ≤ j → c' j = if j = 4 + a then v else c j) : BKr c' (fu b (1 + a) v) := by
  obtain ⟨w, ⟨q0, q1, q2, q3, q4, q5⟩, q6, q7⟩ := s
  have n1 := w.n1
  have z0 : fu b (1 + a) v 0 = b 0 := fu_n b (by omega)
  have zn : nops (fu b (1 + a) v) = nops b := by unfold nops; rw [z0, fu_fo b (by omega)]
  have hn : ∀ j, 0 ≤ j → ¬ j = 4 + a → c' j = c j := fun j j0 hj => by rw [hc j j0, if_neg hj]
  refine ⟨?_, ⟨?_, ?_, ?_, fun x x0 x1 => ?_, fun x x0 x1 => ?_, fun o o0 o1 => ?_⟩, ?_, fun x x0 x1 => ?_⟩
  · unfold WB
    rw [z0, zn]
    refine ⟨w.n0, w.n1, fun x x0 x1 => ?_, fun x x0 x1 => ?_, fun x x0 x1 => ?_, w.tot, ?_, fun o o0 o1 => WO_fu (by omega) o0 (w.op o o0 o1)⟩
    · unfold fu
      split
      · exact hv
      · exact w.day x x0 x1
    · rw [fu_n b (show ¬ 21 + x = 1 + a by omega)]; exact w.rev x x0 x1
    · rw [fu_n b (show ¬ 41 + x = 1 + a by omega)]; exact w.sz x x0 x1
    · rw [fu_ia b (by omega)]; exact w.ins
  · rw [hn 0 (by decide) (by omega), z0]; exact q0
  · rw [hn 1 (by decide) (by omega), zn]; exact q1
  · rw [hn 2 (by decide) (by omega), zn, fu_ia b (by omega)]; exact q2
  · rw [z0] at x1
    rw [hc _ (by omega)]
    unfold fu
    by_cases e : x = a
    · rw [if_pos (by omega), if_pos (by omega)]
    · rw [if_neg (by omega), if_neg (by omega)]; exact q3 x x0 x1
  · rw [z0] at x1
    rw [hn _ (by omega) (by omega), fu_fo b (by omega)]; exact q4 x x0 x1
  · rw [zn] at o1
    exact CO_fu (by omega) o0 (fun j hj => hn j (by omega) (by omega)) (q5 o o0 o1) (w.op o o0 o1)
  · rw [hn 3 (by decide) (by omega)]; exact q6
  · rw [hn 3 (by decide) (by omega), z0, fu_n b (show ¬ 21 + x = 1 + a by omega)]; exact q7 x x0 x1
/-- push and keep, then a change of the two books -/
theorem st_change {M : am_M} (rr : RR M) : ∃ M1, am_call t_Arc_push [.ref 12, .ref 9] M none M1 ∧ (∀ a, ¬ a = 12 → ¬ a = 14 → M1 a = M a) ∧ ∀ M1', (∀ a, ¬ a = 11 → M1' a = M1 a) → ∃ M2, am_call t_Mo_keeps [.ref 58] M1' none M2 ∧ (∀ a, ¬ a = 58 → ¬ a = 60 → M2 a = M1' a) ∧ (∀ j, ¬ j = 2 → M2 58 j = M1' 58 j) ∧
    ∀ M3, (∀ a, ¬ a = 59 → M3 a = M2 a) → BKr (iv M3 11) (iv M3 59) → RR M3 ∧ M3 5000 = M 5000 ∧ M3 5001 = M 5001 := by
  obtain ⟨s1, s2, s3, s4⟩ := rr
  have s4' := s4
  obtain ⟨h1, h2, h3, _⟩ := s4'
  obtain ⟨M1, p1, p2, p3, p4, p5, p6⟩ := sp_push (M := M) (by omega) h3
  refine ⟨M1, p1, p2, fun M1' hM => ?_⟩
  have e58 : M1' 58 = M 58 := (hM 58 (by decide)).trans (p2 58 (by decide) (by decide))
  obtain ⟨M2, k1, k2, k3, k4, k5⟩ := sp_keeps (M := M1') (by rw [iv_row e58]; exact h1)
  refine ⟨M2, k1, k2, k3, fun M3 h3' hb => ?_⟩
  have e59 : M1' 59 = M 59 := (hM 59 (by decide)).trans (p2 59 (by decide) (by decide))
  have e60 : M1' 60 = M 60 := (hM 60 (by decide)).trans (p2 60 (by decide) (by decide))
  rw [iv_row e58] at k4
  rw [iv_row e58, iv_row e59, iv_row e60] at k5
  have row : ∀ a, ¬ a = 11 → ¬ a = 12 → ¬ a = 14 → ¬ a = 58 → ¬ a = 59 → ¬ a = 60 → M3 a = M a := fun a x1 x2 x3 x4 x5 x6 => by rw [h3' a x5, k2 a x4 x6, hM a x1, p2 a x2 x3]
  have fl : ∀ j, ¬ j = 2 → M3 58 j = M 58 j := fun j hj => by rw [h3' 58 (by decide), k3 j hj, e58]
  have r12 : M3 12 = M1 12 := by rw [h3' 12 (by decide), k2 12 (by decide) (by decide), hM 12 (by decide)]
  have r14 : M3 14 = M1 14 := by rw [h3' 14 (by decide), k2 14 (by decide) (by decide), hM 14 (by decide)]
  refine ⟨⟨hb, txt_rows s2 (row 2 (by decide) (by decide) (by decide) (by decide) (by decide) (by decide)) (row 3 (by decide) (by decide) (by decide) (by decide) (by decide) (by decide)) (row 73 (by decide) (by decide) (by decide) (by decide) (by decide) (by decide)) (fl 17 (by decide)), out_rows s3 (row 7 (by decide) (by decide) (by decide) (by decide) (by decide) (by decide)) (row 8 (by decide) (by decide) (by decide) (by decide) (by decide) (by decide)) (row 75 (by decide) (by decide) (by decide) (by decide) (by decide) (by decide)) (fl 23 (by decide)) (fl 24 (by decide)), ?_⟩, row 5000 (by decide) (by decide) (by decide) (by decide) (by decide) (by decide), row 5001 (by decide) (by decide) (by decide) (by decide) (by decide) (by decide)⟩
  refine arc_push s4 s1 (by rw [iv_row r12]; exact p3) (by rw [iv_row r12]; exact p4) (by rw [iv_row r12]; exact p5) (by rw [iv_row r14]; exact p6) (by rw [iv_row (h3' 58 (by decide))]; exact k4) (by rw [iv_row (h3' 60 (by decide))]; exact k5) (row 61 (by decide) (by decide) (by decide) (by decide) (by decide) (by decide)) (row 62 (by decide) (by decide) (by decide) (by decide) (by decide) (by decide))
theorem st_commence {M : am_M} (rr : RR M) {a d : Int} (az : zr a) (dz : zr d) : STEP t_SB_commence t_Mo_commence [.ref 0, .int (zi a), .int (zi d)] [.ref 58, .int (zi a), .int (zi d)] M := by
  have s := rr.1
  have w := s.1
  have cb := s.2
  have w1 := w.n1
  have w0 := w.n0
  by_cases hl : (0 ≤ a ∧ a < iv M 59 0) ∧ (0 ≤ d ∧ d ≤ 9999)
  · obtain ⟨ha, hd⟩ := hl
    obtain ⟨M1, p1, p2, p3⟩ := st_change rr
    obtain ⟨M2, k1, k2, k3, k4⟩ := p3 (zup M1 11 (4 + a) d) (fun x hx => zupr _ hx)
    have r11 : M1 11 = M 11 := p2 11 (by decide) (by decide)
    have r59 : M2 59 = M 59 := by rw [k2 59 (by decide) (by decide), zupr _ (by decide), p2 59 (by decide) (by decide)]
    have bk : BKr (iv (zup M2 59 (1 + a) d) 11) (iv (zup M2 59 (1 + a) d) 59) := by
      refine BKr_congr (c := iv (zup M2 59 (1 + a) d) 11) (b := fu (iv M 59) (1 + a) d) (fun _ _ _ => rfl) (fun j j0 j1 => ?_) (BK_day s ha.1 ha.2 hd (fun j j0 => ?_))
      · rw [ivs _ _ (by omega) j0 dz, iv_row r59]; rfl
      · rw [ivr _ (by decide), iv_row (k2 11 (by decide) (by decide)), ivs _ _ (by omega) j0 dz, iv_row r11]
    obtain ⟨f1, f2, f3⟩ := k4 (zup M2 59 (1 + a) d) (fun x hx => zupr _ hx) bk
    have q1 : iv (zup M1 11 (4 + a) d) 59 = iv M 59 := by rw [ivr _ (by decide), iv_row (p2 59 (by decide) (by decide))]
    refine ⟨iv M 59 (1 + a), zup M1 11 (4 + a) d, zup M2 59 (1 + a) d, am_call_of ⟨Nat.le_of_ble_eq_true rfl, rfl⟩ (vc_c_commence a d M _ ⟨az, fun _ => ⟨⟨dz, by decide⟩, fun _ => ⟨⟨ha.1, by omega⟩, M1, p1, ⟨ha.1, by omega⟩, fun Mx ex => ⟨by rw [cb.1.2.2.2.1 a ha.1 ha.2], ex⟩⟩, fun q => absurd hd q⟩, fun q => absurd (by rw [cb.1.1]; exact ha) q⟩), am_call_of ⟨Nat.le_of_ble_eq_true rfl, rfl⟩ (vc_m_commence a d _ _ ⟨⟨az, by rw [q1]; exact w0⟩, fun _ => ⟨dz, fun _ => ⟨M2, k1, ⟨by omega, by omega⟩, ⟨by omega, by omega⟩, fun Mx ex => ⟨by rw [iv_row r59], ex⟩⟩, fun q => absurd hd q⟩, fun q => absurd (by rw [q1]; exact ha) q⟩), f1, f2, f3⟩
  · exact step_same rr (-2) ⟨Nat.le_of_ble_eq_true rfl, rfl⟩ ⟨Nat.le_of_ble_eq_true rfl, rfl⟩ (vc_c_commence a d M _ ⟨az, fun q => ⟨⟨dz, by decide⟩, fun q2 => absurd ⟨by rw [cb.1.1] at q; exact q, q2⟩ hl, fun _ => ⟨rfl, rfl⟩⟩, fun _ => ⟨rfl, rfl⟩⟩) (vc_m_commence a d M _ ⟨⟨az, w0⟩, fun q => ⟨dz, fun q2 => absurd ⟨q, q2⟩ hl, fun _ => ⟨rfl, rfl⟩⟩, fun _ => ⟨rfl, rfl⟩⟩)
