/-! the law on a day, laid by the law -/
set_option maxRecDepth 100000 in
theorem vc_w_lays (d : Int) (e : Int) (M : am_M) (Q : Option Value → am_M → Prop) (hv : am_x t_LAW_lays (3, [.ref 61, .ref 58, .ref 59, .ref 60, .int (zi d), .int (zi e), .ref 62, .ref 63, .ref 64, .int (zi 0), .null, .null], [], M) Q) : am_x t_LAW_lays (0, am_ent (am_mL t_LAW_lays) [.ref 61, .ref 58, .ref 59, .ref 60, .int (zi d), .int (zi e), .ref 62, .ref 63, .ref 64], [], M) Q := by
  refine am_xn 0 (c1 := (0, [.ref 61, .ref 58, .ref 59, .ref 60, .int (zi d), .int (zi e), .ref 62, .ref 63, .ref 64, .null, .null, .null], [], M)) rfl ?_
  refine am_xn 2 (c1 := (3, [.ref 61, .ref 58, .ref 59, .ref 60, .int (zi d), .int (zi e), .ref 62, .ref 63, .ref 64, .int (zi 0), .null, .null], [], M)) rfl ?_
  exact hv
set_option maxRecDepth 100000 in
theorem vc_w_lays_3 (x4 : Int) (x5 : Int) (x9 : Int) (M : am_M) (Q : Option Value → am_M → Prop) (hv : (zr x9) ∧ ((x9 < 60 → (0 ≤ x9 ∧ x9 < 64) ∧ (∀ M2, M2 = zup M 61 x9 0 → am_x t_LAW_lays (3, [.ref 61, .ref 58, .ref 59, .ref 60, .int (zi x4), .int (zi x5), .ref 62, .ref 63, .ref 64, .int (zi (x9 + 1)), .null, .null], [], M2) Q)) ∧ (60 ≤ x9 → am_x t_LAW_lays (24, [.ref 61, .ref 58, .ref 59, .ref 60, .int (zi x4), .int (zi x5), .ref 62, .ref 63, .ref 64, .int (zi 0), .null, .null], [], M) Q))) : am_x t_LAW_lays (3, [.ref 61, .ref 58, .ref 59, .ref 60, .int (zi x4), .int (zi x5), .ref 62, .ref 63, .ref 64, .int (zi x9), .null, .null], [], M) Q := by
  obtain ⟨r1, hv⟩ := hv
  refine am_xn 3 (c1 := (if zi x9 < zi 60 then 10 else 21, [.ref 61, .ref 58, .ref 59, .ref 60, .int (zi x4), .int (zi x5), .ref 62, .ref 63, .ref 64, .int (zi x9), .null, .null], [], M)) rfl (am_xlt r1 (by decide) (fun h => ?_) (fun h => ?_))
  · replace hv := hv.1 h
    obtain ⟨r3, hv⟩ := hv
    refine am_xn 3 (c1 := (14, [.ref 61, .ref 58, .ref 59, .ref 60, .int (zi x4), .int (zi x5), .ref 62, .ref 63, .ref 64, .int (zi x9), .null, .null], [.int (zi 0), .int (zi x9), .ref 61], M)) rfl ?_
    refine am_xast rfl rfl rfl r3 ?_
    refine am_xn 0 (c1 := (15, [.ref 61, .ref 58, .ref 59, .ref 60, .int (zi x4), .int (zi x5), .ref 62, .ref 63, .ref 64, .int (zi x9), .null, .null], [], zup M 61 x9 0)) rfl ?_
    obtain ⟨M2, eM2⟩ : ∃ m, m = zup M 61 x9 0 := ⟨_, rfl⟩
    replace hv := hv M2 eM2
    rw [← eM2]
    refine am_xn 1 (c1 := (18, [.ref 61, .ref 58, .ref 59, .ref 60, .int (zi x4), .int (zi x5), .ref 62, .ref 63, .ref 64, .int (zi x9 + zi 1), .null, .null], [], M2)) rfl ?_
    rw [zi_add]
    refine am_xn 1 (c1 := (3, [.ref 61, .ref 58, .ref 59, .ref 60, .int (zi x4), .int (zi x5), .ref 62, .ref 63, .ref 64, .int (zi (x9 + 1)), .null, .null], [], M2)) rfl ?_
    exact hv
  · replace hv := hv.2 h
    refine am_xn 2 (c1 := (24, [.ref 61, .ref 58, .ref 59, .ref 60, .int (zi x4), .int (zi x5), .ref 62, .ref 63, .ref 64, .int (zi 0), .null, .null], [], M)) rfl ?_
    exact hv
set_option maxRecDepth 100000 in
theorem vc_w_lays_24 (x4 : Int) (x5 : Int) (x9 : Int) (M : am_M) (Q : Option Value → am_M → Prop) (hv : (zr x9) ∧ ((x9 < 16 → (0 ≤ x9 ∧ x9 < 16) ∧ (∀ M2, M2 = zup M 62 x9 6 → (0 ≤ x9 ∧ x9 < 16) ∧ (∀ M4, M4 = zup M2 63 x9 (-1) → am_x t_LAW_lays (24, [.ref 61, .ref 58, .ref 59, .ref 60, .int (zi x4), .int (zi x5), .ref 62, .ref 63, .ref 64, .int (zi (x9 + 1)), .null, .null], [], M4) Q))) ∧ (16 ≤ x9 → ∃ (r7 : Int) (M6 : am_M), am_call t_LAW_next [.ref 60, .int (zi (-1)), .int (zi (-1)), .int (zi x4)] M (some (.int (zi r7))) M6 ∧ (am_x t_LAW_lays (60, [.ref 61, .ref 58, .ref 59, .ref 60, .int (zi x4), .int (zi x5), .ref 62, .ref 63, .ref 64, .int (zi r7), .null, .null], [], M6) Q)))) : am_x t_LAW_lays (24, [.ref 61, .ref 58, .ref 59, .ref 60, .int (zi x4), .int (zi x5), .ref 62, .ref 63, .ref 64, .int (zi x9), .null, .null], [], M) Q := by
  obtain ⟨r1, hv⟩ := hv
  refine am_xn 3 (c1 := (if zi x9 < zi 16 then 31 else 50, [.ref 61, .ref 58, .ref 59, .ref 60, .int (zi x4), .int (zi x5), .ref 62, .ref 63, .ref 64, .int (zi x9), .null, .null], [], M)) rfl (am_xlt r1 (by decide) (fun h => ?_) (fun h => ?_))
  · replace hv := hv.1 h
    obtain ⟨r3, hv⟩ := hv
    refine am_xn 3 (c1 := (37, [.ref 61, .ref 58, .ref 59, .ref 60, .int (zi x4), .int (zi x5), .ref 62, .ref 63, .ref 64, .int (zi x9), .null, .null], [.int (zi 6), .int (zi x9), .ref 62], M)) rfl ?_
    refine am_xast rfl rfl rfl r3 ?_
    refine am_xn 0 (c1 := (38, [.ref 61, .ref 58, .ref 59, .ref 60, .int (zi x4), .int (zi x5), .ref 62, .ref 63, .ref 64, .int (zi x9), .null, .null], [], zup M 62 x9 6)) rfl ?_
    obtain ⟨M2, eM2⟩ : ∃ m, m = zup M 62 x9 6 := ⟨_, rfl⟩
    replace hv := hv M2 eM2
    rw [← eM2]
    obtain ⟨r5, hv⟩ := hv
    refine am_xn 3 (c1 := (43, [.ref 61, .ref 58, .ref 59, .ref 60, .int (zi x4), .int (zi x5), .ref 62, .ref 63, .ref 64, .int (zi x9), .null, .null], [.int (zi (-1)), .int (zi x9), .ref 63], M2)) rfl ?_
    refine am_xast rfl rfl rfl r5 ?_
    refine am_xn 0 (c1 := (44, [.ref 61, .ref 58, .ref 59, .ref 60, .int (zi x4), .int (zi x5), .ref 62, .ref 63, .ref 64, .int (zi x9), .null, .null], [], zup M2 63 x9 (-1))) rfl ?_
    obtain ⟨M4, eM4⟩ : ∃ m, m = zup M2 63 x9 (-1) := ⟨_, rfl⟩
    replace hv := hv M4 eM4
    rw [← eM4]
    refine am_xn 1 (c1 := (47, [.ref 61, .ref 58, .ref 59, .ref 60, .int (zi x4), .int (zi x5), .ref 62, .ref 63, .ref 64, .int (zi x9 + zi 1), .null, .null], [], M4)) rfl ?_
    rw [zi_add]
    refine am_xn 1 (c1 := (24, [.ref 61, .ref 58, .ref 59, .ref 60, .int (zi x4), .int (zi x5), .ref 62, .ref 63, .ref 64, .int (zi (x9 + 1)), .null, .null], [], M4)) rfl ?_
    exact hv
  · replace hv := hv.2 h
    refine am_xn 4 (c1 := (55, [.ref 61, .ref 58, .ref 59, .ref 60, .int (zi x4), .int (zi x5), .ref 62, .ref 63, .ref 64, .int (zi x9), .null, .null], [.int (zi x4), .int (zi (-1)), .int (zi (-1)), .ref 60], M)) rfl ?_
    obtain ⟨r7, M6, hc, hv⟩ := hv
    refine am_xc t_LAW_next (.invokestatic 49) 49 (av := [.ref 60, .int (zi (-1)), .int (zi (-1)), .int (zi x4)]) (rest := []) (rv := some (.int (zi r7))) (M' := M6) rfl rfl rfl rfl (Nat.le_of_ble_eq_true rfl) (fun h => nomatch h) (hc) ?_
    refine am_xn 0 (c1 := (58, [.ref 61, .ref 58, .ref 59, .ref 60, .int (zi x4), .int (zi x5), .ref 62, .ref 63, .ref 64, .int (zi x9), .null, .null], [.int (zi r7)], M6)) rfl ?_
    refine am_xn 1 (c1 := (60, [.ref 61, .ref 58, .ref 59, .ref 60, .int (zi x4), .int (zi x5), .ref 62, .ref 63, .ref 64, .int (zi r7), .null, .null], [], M6)) rfl ?_
    exact hv
set_option maxRecDepth 100000 in
theorem vc_w_lays_60 (x4 : Int) (x5 : Int) (x9 : Int) (M : am_M) (Q : Option Value → am_M → Prop) (hv : (zr x9) ∧ ((x9 = (-1) → Q none M) ∧ (¬ x9 = (-1) → (zr (x9 + 1)) ∧ (((x9 + 1) < (iv M 60 0) → (0 ≤ (18 + x9) ∧ (18 + x9) < 32) ∧ ((0 ≤ (17 + x9) ∧ (17 + x9) < 32) ∧ (am_x t_LAW_lays (101, [.ref 61, .ref 58, .ref 59, .ref 60, .int (zi x4), .int (zi x5), .ref 62, .ref 63, .ref 64, .int (zi x9), .int (zi (iv M 60 (18 + x9))), .int (zi (iv M 60 (17 + x9)))], [], M) Q))) ∧ ((iv M 60 0) ≤ (x9 + 1) → (0 ≤ (17 + x9) ∧ (17 + x9) < 32) ∧ (am_x t_LAW_lays (101, [.ref 61, .ref 58, .ref 59, .ref 60, .int (zi x4), .int (zi x5), .ref 62, .ref 63, .ref 64, .int (zi x9), .int (zi (iv M 60 25)), .int (zi (iv M 60 (17 + x9)))], [], M) Q)))))) : am_x t_LAW_lays (60, [.ref 61, .ref 58, .ref 59, .ref 60, .int (zi x4), .int (zi x5), .ref 62, .ref 63, .ref 64, .int (zi x9), .null, .null], [], M) Q := by
  obtain ⟨r1, hv⟩ := hv
  refine am_xn 3 (c1 := (if zi x9 = zi (-1) then 182 else 66, [.ref 61, .ref 58, .ref 59, .ref 60, .int (zi x4), .int (zi x5), .ref 62, .ref 63, .ref 64, .int (zi x9), .null, .null], [], M)) rfl (am_xeq r1 (by decide) (fun h => ?_) (fun h => ?_))
  · replace hv := hv.1 h
    exact am_xr none ⟨rfl, rfl, rfl⟩ hv
  · replace hv := hv.2 h
    refine am_xiadd 3 x9 1 (pc := 70) (ls := [.ref 61, .ref 58, .ref 59, .ref 60, .int (zi x4), .int (zi x5), .ref 62, .ref 63, .ref 64, .int (zi x9), .null, .null]) (st := []) rfl ?_
    refine am_xrd 3 60 0 (pc := 73) (ls := [.ref 61, .ref 58, .ref 59, .ref 60, .int (zi x4), .int (zi x5), .ref 62, .ref 63, .ref 64, .int (zi x9), .null, .null]) (st := [.int (zi (x9 + 1))]) rfl ?_
    obtain ⟨r2, hv⟩ := hv
    refine am_xn 1 (c1 := (if zi (x9 + 1) < zi (iv M 60 0) then 76 else 86, [.ref 61, .ref 58, .ref 59, .ref 60, .int (zi x4), .int (zi x5), .ref 62, .ref 63, .ref 64, .int (zi x9), .null, .null], [], M)) rfl (am_xlt r2 (iv_r _ _ _) (fun h => ?_) (fun h => ?_))
    · replace hv := hv.1 h
      refine am_xiadd 4 18 x9 (pc := 82) (ls := [.ref 61, .ref 58, .ref 59, .ref 60, .int (zi x4), .int (zi x5), .ref 62, .ref 63, .ref 64, .int (zi x9), .null, .null]) (st := [.ref 60]) rfl ?_
      obtain ⟨r3, hv⟩ := hv
      refine am_xald rfl rfl rfl r3 ?_
      refine am_xn 0 (c1 := (83, [.ref 61, .ref 58, .ref 59, .ref 60, .int (zi x4), .int (zi x5), .ref 62, .ref 63, .ref 64, .int (zi x9), .null, .null], [.int (zi (iv M 60 (18 + x9)))], M)) rfl ?_
      refine am_xiadd 6 17 x9 (pc := 98) (ls := [.ref 61, .ref 58, .ref 59, .ref 60, .int (zi x4), .int (zi x5), .ref 62, .ref 63, .ref 64, .int (zi x9), .int (zi (iv M 60 (18 + x9))), .null]) (st := [.ref 60]) rfl ?_
      obtain ⟨r4, hv⟩ := hv
      refine am_xald rfl rfl rfl r4 ?_
      refine am_xn 0 (c1 := (99, [.ref 61, .ref 58, .ref 59, .ref 60, .int (zi x4), .int (zi x5), .ref 62, .ref 63, .ref 64, .int (zi x9), .int (zi (iv M 60 (18 + x9))), .null], [.int (zi (iv M 60 (17 + x9)))], M)) rfl ?_
      refine am_xn 1 (c1 := (101, [.ref 61, .ref 58, .ref 59, .ref 60, .int (zi x4), .int (zi x5), .ref 62, .ref 63, .ref 64, .int (zi x9), .int (zi (iv M 60 (18 + x9))), .int (zi (iv M 60 (17 + x9)))], [], M)) rfl ?_
      exact hv
    · replace hv := hv.2 h
      refine am_xrd 3 60 25 (pc := 90) (ls := [.ref 61, .ref 58, .ref 59, .ref 60, .int (zi x4), .int (zi x5), .ref 62, .ref 63, .ref 64, .int (zi x9), .null, .null]) (st := []) rfl ?_
      refine am_xiadd 5 17 x9 (pc := 98) (ls := [.ref 61, .ref 58, .ref 59, .ref 60, .int (zi x4), .int (zi x5), .ref 62, .ref 63, .ref 64, .int (zi x9), .int (zi (iv M 60 25)), .null]) (st := [.ref 60]) rfl ?_
      obtain ⟨r5, hv⟩ := hv
      refine am_xald rfl rfl rfl r5 ?_
      refine am_xn 0 (c1 := (99, [.ref 61, .ref 58, .ref 59, .ref 60, .int (zi x4), .int (zi x5), .ref 62, .ref 63, .ref 64, .int (zi x9), .int (zi (iv M 60 25)), .null], [.int (zi (iv M 60 (17 + x9)))], M)) rfl ?_
      refine am_xn 1 (c1 := (101, [.ref 61, .ref 58, .ref 59, .ref 60, .int (zi x4), .int (zi x5), .ref 62, .ref 63, .ref 64, .int (zi x9), .int (zi (iv M 60 25)), .int (zi (iv M 60 (17 + x9)))], [], M)) rfl ?_
      exact hv
set_option maxRecDepth 100000 in
theorem vc_w_lays_101 (x4 : Int) (x5 : Int) (x9 : Int) (x10 : Int) (x11 : Int) (M : am_M) (Q : Option Value → am_M → Prop) (hv : (zr x11) ∧ ((zr x10) ∧ ((x11 < x10 → (0 ≤ x11 ∧ x11 < 16) ∧ (((zand (iv M 59 x11) 1) = 0 → (0 ≤ (1 + x9) ∧ (1 + x9) < 32) ∧ (∃ (r6 : Int) (M5 : am_M), am_call t_LAW_carries [.ref 61, .ref 58, .ref 59, .int (zi x11), .ref 63, .ref 64, .int (zi (iv M 60 (1 + x9)))] M (some (.int (zi r6))) M5 ∧ ((0 ≤ x11 ∧ x11 < 16) ∧ (∀ M7, M7 = zup M5 62 x11 r6 → am_x t_LAW_lays (101, [.ref 61, .ref 58, .ref 59, .ref 60, .int (zi x4), .int (zi x5), .ref 62, .ref 63, .ref 64, .int (zi x9), .int (zi x10), .int (zi (x11 + 1))], [], M7) Q)))) ∧ (¬ (zand (iv M 59 x11) 1) = 0 → (zr x5) ∧ ((x5 = (-1) → (0 ≤ (1 + x9) ∧ (1 + x9) < 32) ∧ (∃ (r12 : Int) (M11 : am_M), am_call t_LAW_carries [.ref 61, .ref 58, .ref 59, .int (zi x11), .ref 63, .ref 64, .int (zi (iv M 60 (1 + x9)))] M (some (.int (zi r12))) M11 ∧ ((0 ≤ x11 ∧ x11 < 16) ∧ (∀ M13, M13 = zup M11 62 x11 r12 → am_x t_LAW_lays (101, [.ref 61, .ref 58, .ref 59, .ref 60, .int (zi x4), .int (zi x5), .ref 62, .ref 63, .ref 64, .int (zi x9), .int (zi x10), .int (zi (x11 + 1))], [], M13) Q)))) ∧ (¬ x5 = (-1) → (0 ≤ (1 + x9) ∧ (1 + x9) < 32) ∧ ((x5 < (iv M 60 (1 + x9)) → am_x t_LAW_lays (101, [.ref 61, .ref 58, .ref 59, .ref 60, .int (zi x4), .int (zi x5), .ref 62, .ref 63, .ref 64, .int (zi x9), .int (zi x10), .int (zi (x11 + 1))], [], M) Q) ∧ ((iv M 60 (1 + x9)) ≤ x5 → (0 ≤ (1 + x9) ∧ (1 + x9) < 32) ∧ (∃ (r18 : Int) (M17 : am_M), am_call t_LAW_carries [.ref 61, .ref 58, .ref 59, .int (zi x11), .ref 63, .ref 64, .int (zi (iv M 60 (1 + x9)))] M (some (.int (zi r18))) M17 ∧ ((0 ≤ x11 ∧ x11 < 16) ∧ (∀ M19, M19 = zup M17 62 x11 r18 → am_x t_LAW_lays (101, [.ref 61, .ref 58, .ref 59, .ref 60, .int (zi x4), .int (zi x5), .ref 62, .ref 63, .ref 64, .int (zi x9), .int (zi x10), .int (zi (x11 + 1))], [], M19) Q)))))))))) ∧ (x10 ≤ x11 → (0 ≤ (1 + x9) ∧ (1 + x9) < 32) ∧ (∃ (r23 : Int) (M22 : am_M), am_call t_LAW_next [.ref 60, .int (zi (iv M 60 (1 + x9))), .int (zi x9), .int (zi x4)] M (some (.int (zi r23))) M22 ∧ (am_x t_LAW_lays (60, [.ref 61, .ref 58, .ref 59, .ref 60, .int (zi x4), .int (zi x5), .ref 62, .ref 63, .ref 64, .int (zi r23), .null, .null], [], M22) Q)))))) : am_x t_LAW_lays (101, [.ref 61, .ref 58, .ref 59, .ref 60, .int (zi x4), .int (zi x5), .ref 62, .ref 63, .ref 64, .int (zi x9), .int (zi x10), .int (zi x11)], [], M) Q := by
  obtain ⟨r1, hv⟩ := hv
  obtain ⟨r2, hv⟩ := hv
  refine am_xn 3 (c1 := (if zi x11 < zi x10 then 108 else 163, [.ref 61, .ref 58, .ref 59, .ref 60, .int (zi x4), .int (zi x5), .ref 62, .ref 63, .ref 64, .int (zi x9), .int (zi x10), .int (zi x11)], [], M)) rfl (am_xlt r1 r2 (fun h => ?_) (fun h => ?_))
  · replace hv := hv.1 h
    obtain ⟨r3, hv⟩ := hv
    refine am_xn 2 (c1 := (111, [.ref 61, .ref 58, .ref 59, .ref 60, .int (zi x4), .int (zi x5), .ref 62, .ref 63, .ref 64, .int (zi x9), .int (zi x10), .int (zi x11)], [.int (zi x11), .ref 59], M)) rfl ?_
    refine am_xald rfl rfl rfl r3 ?_
    refine am_xn 0 (c1 := (112, [.ref 61, .ref 58, .ref 59, .ref 60, .int (zi x4), .int (zi x5), .ref 62, .ref 63, .ref 64, .int (zi x9), .int (zi x10), .int (zi x11)], [.int (zi (iv M 59 x11))], M)) rfl ?_
    refine am_xbit 2 (zi (iv M 59 x11) &&& zi 1) (pc := 114) (ls := [.ref 61, .ref 58, .ref 59, .ref 60, .int (zi x4), .int (zi x5), .ref 62, .ref 63, .ref 64, .int (zi x9), .int (zi x10), .int (zi x11)]) (st := []) rfl ?_
    refine am_xn 0 (c1 := (114, [.ref 61, .ref 58, .ref 59, .ref 60, .int (zi x4), .int (zi x5), .ref 62, .ref 63, .ref 64, .int (zi x9), .int (zi x10), .int (zi x11)], [.int (zi (zand (iv M 59 x11) 1))], M)) rfl ?_
    refine am_xn 1 (c1 := (if zi (zand (iv M 59 x11) 1) = zi 0 then 134 else 117, [.ref 61, .ref 58, .ref 59, .ref 60, .int (zi x4), .int (zi x5), .ref 62, .ref 63, .ref 64, .int (zi x9), .int (zi x10), .int (zi x11)], [], M)) rfl (am_xeq (zr_toInt _) (by decide) (fun h => ?_) (fun h => ?_))
    · replace hv := hv.1 h
      refine am_xiadd 12 1 x9 (pc := 152) (ls := [.ref 61, .ref 58, .ref 59, .ref 60, .int (zi x4), .int (zi x5), .ref 62, .ref 63, .ref 64, .int (zi x9), .int (zi x10), .int (zi x11)]) (st := [.ref 60, .ref 64, .ref 63, .int (zi x11), .ref 59, .ref 58, .ref 61, .int (zi x11), .ref 62]) rfl ?_
      obtain ⟨r4, hv⟩ := hv
      refine am_xald rfl rfl rfl r4 ?_
      refine am_xn 0 (c1 := (153, [.ref 61, .ref 58, .ref 59, .ref 60, .int (zi x4), .int (zi x5), .ref 62, .ref 63, .ref 64, .int (zi x9), .int (zi x10), .int (zi x11)], [.int (zi (iv M 60 (1 + x9))), .ref 64, .ref 63, .int (zi x11), .ref 59, .ref 58, .ref 61, .int (zi x11), .ref 62], M)) rfl ?_
      obtain ⟨r6, M5, hc, hv⟩ := hv
      refine am_xc t_LAW_carries (.invokestatic 53) 53 (av := [.ref 61, .ref 58, .ref 59, .int (zi x11), .ref 63, .ref 64, .int (zi (iv M 60 (1 + x9)))]) (rest := [.int (zi x11), .ref 62]) (rv := some (.int (zi r6))) (M' := M5) rfl rfl rfl rfl (Nat.le_of_ble_eq_true rfl) (fun h => nomatch h) (hc) ?_
      refine am_xn 0 (c1 := (156, [.ref 61, .ref 58, .ref 59, .ref 60, .int (zi x4), .int (zi x5), .ref 62, .ref 63, .ref 64, .int (zi x9), .int (zi x10), .int (zi x11)], [.int (zi r6), .int (zi x11), .ref 62], M5)) rfl ?_
      obtain ⟨r8, hv⟩ := hv
      refine am_xast rfl rfl rfl r8 ?_
      refine am_xn 0 (c1 := (157, [.ref 61, .ref 58, .ref 59, .ref 60, .int (zi x4), .int (zi x5), .ref 62, .ref 63, .ref 64, .int (zi x9), .int (zi x10), .int (zi x11)], [], zup M5 62 x11 r6)) rfl ?_
      obtain ⟨M7, eM7⟩ : ∃ m, m = zup M5 62 x11 r6 := ⟨_, rfl⟩
      replace hv := hv M7 eM7
      rw [← eM7]
      refine am_xn 1 (c1 := (160, [.ref 61, .ref 58, .ref 59, .ref 60, .int (zi x4), .int (zi x5), .ref 62, .ref 63, .ref 64, .int (zi x9), .int (zi x10), .int (zi x11 + zi 1)], [], M7)) rfl ?_
      rw [zi_add]
      refine am_xn 1 (c1 := (101, [.ref 61, .ref 58, .ref 59, .ref 60, .int (zi x4), .int (zi x5), .ref 62, .ref 63, .ref 64, .int (zi x9), .int (zi x10), .int (zi (x11 + 1))], [], M7)) rfl ?_
      exact hv
    · replace hv := hv.2 h
      obtain ⟨r9, hv⟩ := hv
      refine am_xn 3 (c1 := (if zi x5 = zi (-1) then 134 else 123, [.ref 61, .ref 58, .ref 59, .ref 60, .int (zi x4), .int (zi x5), .ref 62, .ref 63, .ref 64, .int (zi x9), .int (zi x10), .int (zi x11)], [], M)) rfl (am_xeq r9 (by decide) (fun h => ?_) (fun h => ?_))
      · replace hv := hv.1 h
        refine am_xiadd 12 1 x9 (pc := 152) (ls := [.ref 61, .ref 58, .ref 59, .ref 60, .int (zi x4), .int (zi x5), .ref 62, .ref 63, .ref 64, .int (zi x9), .int (zi x10), .int (zi x11)]) (st := [.ref 60, .ref 64, .ref 63, .int (zi x11), .ref 59, .ref 58, .ref 61, .int (zi x11), .ref 62]) rfl ?_
        obtain ⟨r10, hv⟩ := hv
        refine am_xald rfl rfl rfl r10 ?_
        refine am_xn 0 (c1 := (153, [.ref 61, .ref 58, .ref 59, .ref 60, .int (zi x4), .int (zi x5), .ref 62, .ref 63, .ref 64, .int (zi x9), .int (zi x10), .int (zi x11)], [.int (zi (iv M 60 (1 + x9))), .ref 64, .ref 63, .int (zi x11), .ref 59, .ref 58, .ref 61, .int (zi x11), .ref 62], M)) rfl ?_
        obtain ⟨r12, M11, hc, hv⟩ := hv
        refine am_xc t_LAW_carries (.invokestatic 53) 53 (av := [.ref 61, .ref 58, .ref 59, .int (zi x11), .ref 63, .ref 64, .int (zi (iv M 60 (1 + x9)))]) (rest := [.int (zi x11), .ref 62]) (rv := some (.int (zi r12))) (M' := M11) rfl rfl rfl rfl (Nat.le_of_ble_eq_true rfl) (fun h => nomatch h) (hc) ?_
        refine am_xn 0 (c1 := (156, [.ref 61, .ref 58, .ref 59, .ref 60, .int (zi x4), .int (zi x5), .ref 62, .ref 63, .ref 64, .int (zi x9), .int (zi x10), .int (zi x11)], [.int (zi r12), .int (zi x11), .ref 62], M11)) rfl ?_
        obtain ⟨r14, hv⟩ := hv
        refine am_xast rfl rfl rfl r14 ?_
        refine am_xn 0 (c1 := (157, [.ref 61, .ref 58, .ref 59, .ref 60, .int (zi x4), .int (zi x5), .ref 62, .ref 63, .ref 64, .int (zi x9), .int (zi x10), .int (zi x11)], [], zup M11 62 x11 r12)) rfl ?_
        obtain ⟨M13, eM13⟩ : ∃ m, m = zup M11 62 x11 r12 := ⟨_, rfl⟩
        replace hv := hv M13 eM13
        rw [← eM13]
        refine am_xn 1 (c1 := (160, [.ref 61, .ref 58, .ref 59, .ref 60, .int (zi x4), .int (zi x5), .ref 62, .ref 63, .ref 64, .int (zi x9), .int (zi x10), .int (zi x11 + zi 1)], [], M13)) rfl ?_
        rw [zi_add]
        refine am_xn 1 (c1 := (101, [.ref 61, .ref 58, .ref 59, .ref 60, .int (zi x4), .int (zi x5), .ref 62, .ref 63, .ref 64, .int (zi x9), .int (zi x10), .int (zi (x11 + 1))], [], M13)) rfl ?_
        exact hv
      · replace hv := hv.2 h
        refine am_xiadd 5 1 x9 (pc := 130) (ls := [.ref 61, .ref 58, .ref 59, .ref 60, .int (zi x4), .int (zi x5), .ref 62, .ref 63, .ref 64, .int (zi x9), .int (zi x10), .int (zi x11)]) (st := [.ref 60, .int (zi x5)]) rfl ?_
        obtain ⟨r15, hv⟩ := hv
        refine am_xald rfl rfl rfl r15 ?_
        refine am_xn 0 (c1 := (131, [.ref 61, .ref 58, .ref 59, .ref 60, .int (zi x4), .int (zi x5), .ref 62, .ref 63, .ref 64, .int (zi x9), .int (zi x10), .int (zi x11)], [.int (zi (iv M 60 (1 + x9))), .int (zi x5)], M)) rfl ?_
        refine am_xn 1 (c1 := (if zi x5 < zi (iv M 60 (1 + x9)) then 157 else 134, [.ref 61, .ref 58, .ref 59, .ref 60, .int (zi x4), .int (zi x5), .ref 62, .ref 63, .ref 64, .int (zi x9), .int (zi x10), .int (zi x11)], [], M)) rfl (am_xlt r9 (iv_r _ _ _) (fun h => ?_) (fun h => ?_))
        · replace hv := hv.1 h
          refine am_xn 1 (c1 := (160, [.ref 61, .ref 58, .ref 59, .ref 60, .int (zi x4), .int (zi x5), .ref 62, .ref 63, .ref 64, .int (zi x9), .int (zi x10), .int (zi x11 + zi 1)], [], M)) rfl ?_
          rw [zi_add]
          refine am_xn 1 (c1 := (101, [.ref 61, .ref 58, .ref 59, .ref 60, .int (zi x4), .int (zi x5), .ref 62, .ref 63, .ref 64, .int (zi x9), .int (zi x10), .int (zi (x11 + 1))], [], M)) rfl ?_
          exact hv
        · replace hv := hv.2 h
          refine am_xiadd 12 1 x9 (pc := 152) (ls := [.ref 61, .ref 58, .ref 59, .ref 60, .int (zi x4), .int (zi x5), .ref 62, .ref 63, .ref 64, .int (zi x9), .int (zi x10), .int (zi x11)]) (st := [.ref 60, .ref 64, .ref 63, .int (zi x11), .ref 59, .ref 58, .ref 61, .int (zi x11), .ref 62]) rfl ?_
          obtain ⟨r16, hv⟩ := hv
          refine am_xald rfl rfl rfl r16 ?_
          refine am_xn 0 (c1 := (153, [.ref 61, .ref 58, .ref 59, .ref 60, .int (zi x4), .int (zi x5), .ref 62, .ref 63, .ref 64, .int (zi x9), .int (zi x10), .int (zi x11)], [.int (zi (iv M 60 (1 + x9))), .ref 64, .ref 63, .int (zi x11), .ref 59, .ref 58, .ref 61, .int (zi x11), .ref 62], M)) rfl ?_
          obtain ⟨r18, M17, hc, hv⟩ := hv
          refine am_xc t_LAW_carries (.invokestatic 53) 53 (av := [.ref 61, .ref 58, .ref 59, .int (zi x11), .ref 63, .ref 64, .int (zi (iv M 60 (1 + x9)))]) (rest := [.int (zi x11), .ref 62]) (rv := some (.int (zi r18))) (M' := M17) rfl rfl rfl rfl (Nat.le_of_ble_eq_true rfl) (fun h => nomatch h) (hc) ?_
          refine am_xn 0 (c1 := (156, [.ref 61, .ref 58, .ref 59, .ref 60, .int (zi x4), .int (zi x5), .ref 62, .ref 63, .ref 64, .int (zi x9), .int (zi x10), .int (zi x11)], [.int (zi r18), .int (zi x11), .ref 62], M17)) rfl ?_
          obtain ⟨r20, hv⟩ := hv
          refine am_xast rfl rfl rfl r20 ?_
          refine am_xn 0 (c1 := (157, [.ref 61, .ref 58, .ref 59, .ref 60, .int (zi x4), .int (zi x5), .ref 62, .ref 63, .ref 64, .int (zi x9), .int (zi x10), .int (zi x11)], [], zup M17 62 x11 r18)) rfl ?_
          obtain ⟨M19, eM19⟩ : ∃ m, m = zup M17 62 x11 r18 := ⟨_, rfl⟩
          replace hv := hv M19 eM19
          rw [← eM19]
          refine am_xn 1 (c1 := (160, [.ref 61, .ref 58, .ref 59, .ref 60, .int (zi x4), .int (zi x5), .ref 62, .ref 63, .ref 64, .int (zi x9), .int (zi x10), .int (zi x11 + zi 1)], [], M19)) rfl ?_
          rw [zi_add]
          refine am_xn 1 (c1 := (101, [.ref 61, .ref 58, .ref 59, .ref 60, .int (zi x4), .int (zi x5), .ref 62, .ref 63, .ref 64, .int (zi x9), .int (zi x10), .int (zi (x11 + 1))], [], M19)) rfl ?_
          exact hv
  · replace hv := hv.2 h
    refine am_xiadd 5 1 x9 (pc := 169) (ls := [.ref 61, .ref 58, .ref 59, .ref 60, .int (zi x4), .int (zi x5), .ref 62, .ref 63, .ref 64, .int (zi x9), .int (zi x10), .int (zi x11)]) (st := [.ref 60, .ref 60]) rfl ?_
    obtain ⟨r21, hv⟩ := hv
    refine am_xald rfl rfl rfl r21 ?_
    refine am_xn 0 (c1 := (170, [.ref 61, .ref 58, .ref 59, .ref 60, .int (zi x4), .int (zi x5), .ref 62, .ref 63, .ref 64, .int (zi x9), .int (zi x10), .int (zi x11)], [.int (zi (iv M 60 (1 + x9))), .ref 60], M)) rfl ?_
    refine am_xn 2 (c1 := (174, [.ref 61, .ref 58, .ref 59, .ref 60, .int (zi x4), .int (zi x5), .ref 62, .ref 63, .ref 64, .int (zi x9), .int (zi x10), .int (zi x11)], [.int (zi x4), .int (zi x9), .int (zi (iv M 60 (1 + x9))), .ref 60], M)) rfl ?_
    obtain ⟨r23, M22, hc, hv⟩ := hv
    refine am_xc t_LAW_next (.invokestatic 49) 49 (av := [.ref 60, .int (zi (iv M 60 (1 + x9))), .int (zi x9), .int (zi x4)]) (rest := []) (rv := some (.int (zi r23))) (M' := M22) rfl rfl rfl rfl (Nat.le_of_ble_eq_true rfl) (fun h => nomatch h) (hc) ?_
    refine am_xn 0 (c1 := (177, [.ref 61, .ref 58, .ref 59, .ref 60, .int (zi x4), .int (zi x5), .ref 62, .ref 63, .ref 64, .int (zi x9), .int (zi x10), .int (zi x11)], [.int (zi r23)], M22)) rfl ?_
    refine am_xn 2 (c1 := (60, [.ref 61, .ref 58, .ref 59, .ref 60, .int (zi x4), .int (zi x5), .ref 62, .ref 63, .ref 64, .int (zi r23), .int (zi x10), .int (zi x11)], [], M22)) rfl ?_
    refine am_xf 10 ?_
    refine am_xf 11 ?_
    exact hv
def KeyAt (b : Int → Int) (last D A : Int) : Prop := (last = -1 ∧ D = -1 ∧ A = -1) ∨ (0 ≤ A ∧ A < b 0 ∧ D = b (1 + A) ∧ last = ky b A)
theorem nx_iff {b : Int → Int} {M : am_M} {last D A d k : Int} (w : WB b) (ab : AB M b) (h : KeyAt b last D A) (k0 : 0 ≤ k) (k1 : k < b 0) : nxC M D A d k ↔ du b (rvk b) d k ∧ last < ky b k := by
  obtain ⟨e1, e2, e3⟩ := ab.2.2.2.2.2 k k0 k1
  have n1 := w.n1
  have d1 := w.day k k0 k1
  unfold nxC du rvk
  rw [e1, e2]
  have hk := w.ky_nn k0 k1
  unfold ky at hk ⊢
  rcases h with ⟨h1, h2, h3⟩ | ⟨h1, h2, h3, h4⟩
  · constructor
    · rintro ⟨a, _, c⟩; exact ⟨⟨a, c⟩, by omega⟩
    · rintro ⟨⟨a, c⟩, _⟩; exact ⟨a, Or.inl (by omega), c⟩
  · unfold ky at h4
    constructor
    · rintro ⟨a, q, c⟩; exact ⟨⟨a, c⟩, by omega⟩
    · rintro ⟨⟨a, c⟩, q⟩; exact ⟨a, by omega, c⟩
theorem nx_nk {b : Int → Int} {M : am_M} {last D A d r : Int} (w : WB b) (ab : AB M b) (h : KeyAt b last D A) (hl : -1 ≤ last) (hx : nxI M D A d (b 0) (-1) r) : (r = -1 ∧ nk b (rvk b) d last = -1) ∨ ((0 ≤ r ∧ r < b 0) ∧ nk b (rvk b) d last = ky b r ∧ du b (rvk b) d r ∧ last < ky b r) := by
  have hi := fun k (k0 : 0 ≤ k) (k1 : k < b 0) => nx_iff (d := d) w ab h k0 k1
  rcases nk_is (b := b) (off := rvk b) (day := d) hl with ⟨e1, e2⟩ | ⟨a, a0, a1, a2, a3, a4, a5⟩
  · rcases hx with ⟨h1, h2⟩ | ⟨⟨h1, h2, h3⟩, h4⟩
    · exact Or.inl ⟨h1, e1⟩
    · exact absurd ((hi r (by omega) h2).mp h3) (e2 r (by omega) h2)
  · rcases hx with ⟨h1, h2⟩ | ⟨⟨h1, h2, h3⟩, h4⟩
    · exact absurd ((hi a a0 a1).mpr ⟨a3, a4⟩) (h2 a (by omega) a1)
    · obtain ⟨g1, g2⟩ := (hi r (by omega) h2).mp h3
      have h5 := a5 r (by omega) h2 g1 g2
      have h6 := h4 a (by omega) a1 ((hi a a0 a1).mpr ⟨a3, a4⟩)
      rw [(ab.2.2.2.2.2 r (by omega) h2).1, (ab.2.2.2.2.2 a a0 a1).1] at h6
      have n1 := w.n1
      refine Or.inr ⟨⟨by omega, h2⟩, ?_, g1, g2⟩
      rw [a2]
      unfold ky at h5 ⊢
      omega
theorem cyf_at {b : Int → Int} {e a i : Int} {L : Lw} (h : fo b a ≤ i) : cyf b e a L (i + 1 - fo b a).toNat = if pt b i 4 = 1 ∧ ¬ e = -1 ∧ e < b (1 + a) then cyf b e a L (i - fo b a).toNat else ops b (cyf b e a L (i - fo b a).toNat) i (b (1 + a)) := by
  rw [show (i + 1 - fo b a).toNat = (i - fo b a).toNat + 1 by omega]
  show (if pt b (fo b a + ((i - fo b a).toNat : Int)) 4 = 1 ∧ _ ∧ _ then _ else _) = _
  rw [show fo b a + ((i - fo b a).toNat : Int) = i by omega]
abbrev Q64 (L : Lw) (M0 : am_M) : Option Value → am_M → Prop := fun rv m => rv = none ∧ LR L m ∧ ∀ x, (x < 61 ∨ 64 < x) → m x = M0 x
section LY
variable {b : Int → Int} {d e : Int} {M0 : am_M}
theorem ly_60 (w : WB b) (ob : OB M0 b) (ab : AB M0 b) (dz : 0 ≤ d ∧ d ≤ 9999) (ez : zr e) : ∀ (f : Nat) (last D A : Int) (L : Lw) (a : Int) (M : am_M), VL L → LR L M → (∀ x, (x < 61 ∨ 64 < x) → M x = M0 x) → KeyAt b last D A → -1 ≤ last → nxI M0 D A d (b 0) (-1) a → rem b (rvk b) d last ≤ f →
    am_x t_LAW_lays (60, [.ref 61, .ref 58, .ref 59, .ref 60, .int (zi d), .int (zi e), .ref 62, .ref 63, .ref 64, .int (zi a), .null, .null], [], M) (Q64 (crf b (rvk b) d e f last L) M0) := by
  have n0 := w.n0
  have n5 := ab.2.1
  have ab' := ab
  obtain ⟨a1, a2, a3, a4, a5, a6⟩ := ab
  intro f
  induction f with
  | zero =>
    intro last D A L a M v lr fr ka hl hx hr
    rcases nx_nk w ab' ka hl hx with ⟨h1, h2⟩ | ⟨⟨h1, h2⟩, h3, h4, h5⟩
    · exact vc_w_lays_60 d e a M _ ⟨⟨by omega, by omega⟩, fun _ => ⟨rfl, lr, fr⟩, fun q => absurd h1 q⟩
    · have h6 := rem_dec w h1 h2 h4 h5
      have h7 := rem_nn b (rvk b) d (ky b a)
      omega
  | succ f ih =>
    intro last D A L a M v lr fr ka hl hx hr
    have e60 : iv M 60 = iv M0 60 := iv_row (fr 60 (by decide))
    rcases nx_nk w ab' ka hl hx with ⟨h1, h2⟩ | ⟨⟨h1, h2⟩, h3, h4, h5⟩
    · refine vc_w_lays_60 d e a M _ ⟨⟨by omega, by omega⟩, fun _ => ⟨rfl, ?_, fr⟩, fun q => absurd h1 q⟩
      unfold crf
      rw [if_pos h2]
      exact lr
    · have hk := w.ky_nn h1 h2
      have hr' := rem_dec w h1 h2 h4 h5
      obtain ⟨g1, g2, g3⟩ := a6 a h1 h2
      have hd := w.day a h1 h2
      have f1 := w.fo_nn (n := a) (by omega)
      have f2 := fo_s b h1
      have f3 := w.fo_le (n := a + 1) (by omega) (by omega)
      have f4 := (w.sz a h1 h2).1
      unfold crf
      rw [if_neg (by omega), h3, hk.2.2.1]
      -- the operations of the amendment
      have inner : am_x t_LAW_lays (101, [.ref 61, .ref 58, .ref 59, .ref 60, .int (zi d), .int (zi e), .ref 62, .ref 63, .ref 64, .int (zi a), .int (zi (fo b (a + 1))), .int (zi (fo b a))], [], M) (Q64 (crf b (rvk b) d e f (ky b a) (cy b e a L)) M0) := by
        refine loop_up (fun i (M : am_M) => (101, [.ref 61, .ref 58, .ref 59, .ref 60, .int (zi d), .int (zi e), .ref 62, .ref 63, .ref 64, .int (zi a), .int (zi (fo b (a + 1))), .int (zi i)], [], M)) (fo b (a + 1)) (fun i M => fo b a ≤ i ∧ VL (cyf b e a L (i - fo b a).toNat) ∧ LR (cyf b e a L (i - fo b a).toNat) M ∧ ∀ x, (x < 61 ∨ 64 < x) → M x = M0 x) ?_ ?_ (fo b a) M f1 (by omega) ⟨Int.le_refl _, by rw [Int.sub_self]; exact v, by rw [Int.sub_self]; exact lr, fr⟩
        · rintro M ⟨i0, i1, i2, i3⟩
          have e60 : iv M 60 = iv M0 60 := iv_row (i3 60 (by decide))
          have ecy : cyf b e a L (fo b (a + 1) - fo b a).toNat = cy b e a L := by unfold cy; rw [f2, show fo b a + b (41 + a) - fo b a = b (41 + a) by omega]
          rw [ecy] at i1 i2
          obtain ⟨r, c1, c2⟩ := sp_w_next M (n := b 0) (d := b (1 + a)) (a := a) (l := d) (by rw [e60, a1]) n0 (by omega) ⟨by omega, by omega⟩ ⟨by omega, by omega⟩ ⟨by omega, by omega⟩
          have c2' : nxI M0 (b (1 + a)) a d (b 0) (-1) r := by
            unfold nxI nxC at c2 ⊢
            rw [e60] at c2
            exact c2
          refine vc_w_lays_101 d e a (fo b (a + 1)) (fo b (a + 1)) M _ ⟨⟨by omega, by omega⟩, ⟨by omega, by omega⟩, fun q => by omega, fun _ => ⟨⟨by omega, by omega⟩, r, M, by rw [e60, g1]; exact c1, ih (ky b a) (b (1 + a)) a (cy b e a L) r M i1 i2 i3 (Or.inr ⟨h1, h2, rfl, rfl⟩) (by omega) c2' (by omega)⟩⟩
        · rintro i M i0 i1 ⟨j0, j1, j2, j3⟩ kk
          have e60 : iv M 60 = iv M0 60 := iv_row (j3 60 (by decide))
          have e59 : iv M 59 = iv M0 59 := iv_row (j3 59 (by decide))
          have i15 : i < nops b := by omega
          have obi := (ob i i0 i15).2.2.2.1
          have sv := (w.op i i0 i15).sv
          have ca := cyf_at (e := e) (L := L) j0
          have skip : (pt b i 4 = 1 ∧ ¬ e = -1 ∧ e < b (1 + a)) → am_x t_LAW_lays (101, [.ref 61, .ref 58, .ref 59, .ref 60, .int (zi d), .int (zi e), .ref 62, .ref 63, .ref 64, .int (zi a), .int (zi (fo b (a + 1))), .int (zi (i + 1))], [], M) (Q64 (crf b (rvk b) d e f (ky b a) (cy b e a L)) M0) := fun q => by
            rw [if_pos q] at ca
            exact kk M ⟨by omega, by rw [ca]; exact j1, by rw [ca]; exact j2, j3⟩
          have call : ¬ (pt b i 4 = 1 ∧ ¬ e = -1 ∧ e < b (1 + a)) → ∃ (r : Int) (M5 : am_M), am_call t_LAW_carries [.ref 61, .ref 58, .ref 59, .int (zi i), .ref 63, .ref 64, .int (zi (b (1 + a)))] M (some (.int (zi r))) M5 ∧ ∀ M7, M7 = zup M5 62 i r → am_x t_LAW_lays (101, [.ref 61, .ref 58, .ref 59, .ref 60, .int (zi d), .int (zi e), .ref 62, .ref 63, .ref 64, .int (zi a), .int (zi (fo b (a + 1))), .int (zi (i + 1))], [], M7) (Q64 (crf b (rvk b) d e f (ky b a) (cy b e a L)) M0) := fun q => by
            rw [if_neg q] at ca
            obtain ⟨r, M5, k1, k2, k3⟩ := sp_w_carries (day := b (1 + a)) w (OB_rows ob (j3 58 (by decide)) (j3 59 (by decide))) j1 j2 i0 i15 (by omega) a5 ⟨by omega, by omega⟩
            refine ⟨r, M5, k1, fun M7 e7 => kk M7 ⟨by omega, by rw [ca]; exact ops_VL w j1 i0 i15 hd, ?_, fun x hx => ?_⟩⟩
            · rw [ca]
              exact LR_rows k2 (by rw [e7, zupr _ (by decide)]) (by rw [e7, zupr _ (by decide)])
            · rw [e7, zupr _ (by omega), k3 x (by omega) (by omega) (by omega), j3 x hx]
          refine vc_w_lays_101 d e a (fo b (a + 1)) i M _ ⟨⟨by omega, by omega⟩, ⟨by omega, by omega⟩, fun _ => ⟨⟨i0, by omega⟩, ?_⟩, fun q => by omega⟩
          rw [e59, obi, e60, g1]
          refine ⟨fun q => ⟨⟨by omega, by omega⟩, ?_⟩, fun q => ⟨ez, fun q2 => ⟨⟨by omega, by omega⟩, ?_⟩, fun q2 => ⟨⟨by omega, by omega⟩, fun q3 => skip ⟨by omega, q2, q3⟩, fun q3 => ⟨⟨by omega, by omega⟩, ?_⟩⟩⟩⟩
          · obtain ⟨r, M5, k1, k2⟩ := call (fun z => by omega)
            exact ⟨r, M5, k1, ⟨i0, by omega⟩, k2⟩
          · obtain ⟨r, M5, k1, k2⟩ := call (fun z => z.2.1 q2)
            exact ⟨r, M5, k1, ⟨i0, by omega⟩, k2⟩
          · obtain ⟨r, M5, k1, k2⟩ := call (fun z => by omega)
            exact ⟨r, M5, k1, ⟨i0, by omega⟩, k2⟩
      refine vc_w_lays_60 d e a M _ ⟨⟨by omega, by omega⟩, fun q => by omega, fun _ => ⟨⟨by omega, by omega⟩, ?_⟩⟩
      rw [e60, a1, g3]
      refine ⟨fun q => ⟨⟨by omega, by omega⟩, ⟨by omega, by omega⟩, ?_⟩, fun q => ⟨⟨by omega, by omega⟩, ?_⟩⟩
      · rw [show (18 : Int) + a = 17 + (a + 1) by omega, (a6 (a + 1) (by omega) q).2.2]
        exact inner
      · have : a + 1 = b 0 := by omega
        rw [a3]
        unfold nops
        rw [← this]
        exact inner
theorem sp_w_lays {M : am_M} (w : WB b) (ob : OB M b) (ab : AB M b) (dz : 0 ≤ d ∧ d ≤ 9999) (ez : zr e) : ∃ M', am_call t_LAW_lays [.ref 61, .ref 58, .ref 59, .ref 60, .int (zi d), .int (zi e), .ref 62, .ref 63, .ref 64] M none M' ∧ LR (lw b d e) M' ∧ ∀ x, (x < 61 ∨ 64 < x) → M' x = M x := by
  have key : am_x t_LAW_lays (0, am_ent (am_mL t_LAW_lays) [.ref 61, .ref 58, .ref 59, .ref 60, .int (zi d), .int (zi e), .ref 62, .ref 63, .ref 64], [], M) (Q64 (lw b d e) M) := by
    refine vc_w_lays d e M _ ?_
    refine loop_up (fun i (N : am_M) => (3, [.ref 61, .ref 58, .ref 59, .ref 60, .int (zi d), .int (zi e), .ref 62, .ref 63, .ref 64, .int (zi i), .null, .null], [], N)) 60 (fun i N => (∀ j, 0 ≤ j → j < i → iv N 61 j = 0) ∧ ∀ x, (x < 61 ∨ 64 < x) → N x = M x) ?_ ?_ 0 M (by omega) (by omega) ⟨fun j j0 j1 => by omega, fun _ _ => rfl⟩
    · rintro N ⟨z, fr⟩
      refine vc_w_lays_3 d e 60 N _ ⟨by decide, fun q => by omega, fun _ => ?_⟩
      refine loop_up (fun i (N : am_M) => (24, [.ref 61, .ref 58, .ref 59, .ref 60, .int (zi d), .int (zi e), .ref 62, .ref 63, .ref 64, .int (zi i), .null, .null], [], N)) 16 (fun i N => (∀ j, 0 ≤ j → j < 60 → iv N 61 j = 0) ∧ ∀ x, (x < 61 ∨ 64 < x) → N x = M x) ?_ ?_ 0 N (by omega) (by omega) ⟨z, fr⟩
      · rintro N ⟨z, fr⟩
        have e60 : iv N 60 = iv M 60 := iv_row (fr 60 (by decide))
        have n0 := w.n0
        have n5 := ab.2.1
        obtain ⟨r, c1, c2⟩ := sp_w_next N (n := b 0) (d := -1) (a := -1) (l := d) (by rw [e60, ab.1]) n0 (by omega) (by decide) (by decide) ⟨by omega, by omega⟩
        have c2' : nxI M (-1) (-1) d (b 0) (-1) r := by
          unfold nxI nxC at c2 ⊢
          rw [e60] at c2
          exact c2
        refine vc_w_lays_24 d e 16 N _ ⟨by decide, fun q => by omega, fun _ => ⟨r, N, c1, ?_⟩⟩
        unfold lw con
        exact ly_60 w ob ab dz ez 20 (-1) (-1) (-1) L0 r N (KL_0 (off := rvk b) (day := d) (cas := e) w).1.1 ⟨fun c c0 c1 => by rw [z _ (by omega) (by omega)]; rfl, fun c c0 c1 n => absurd rfl n, fun _ _ _ => rfl⟩ fr (Or.inl ⟨rfl, rfl, rfl⟩) (by omega) c2' (rem_le w)
      · rintro i N i0 i1 ⟨z, fr⟩ kk
        refine vc_w_lays_24 d e i N _ ⟨⟨by omega, by omega⟩, fun _ => ⟨⟨i0, i1⟩, fun M2 e2 => ⟨⟨i0, i1⟩, fun M4 e4 => kk M4 ⟨fun j j0 j1 => ?_, fun x hx => ?_⟩⟩⟩, fun q => by omega⟩
        · rw [e4, e2, iv_zup_ne _ _ (by decide), iv_zup_ne _ _ (by decide), z j j0 j1]
        · rw [e4, e2, zupr _ (by omega), zupr _ (by omega), fr x hx]
    · rintro i N i0 i1 ⟨z, fr⟩ kk
      refine vc_w_lays_3 d e i N _ ⟨⟨by omega, by omega⟩, fun _ => ⟨⟨i0, by omega⟩, fun M2 e2 => kk M2 ⟨fun j j0 j1 => ?_, fun x hx => ?_⟩⟩, fun q => by omega⟩
      · rw [e2, ivs _ _ i0 j0 (by decide)]
        by_cases q : j = i
        · rw [if_pos q]
        · rw [if_neg q, z j j0 (by omega)]
      · rw [e2, zupr _ (by omega), fr x hx]
  obtain ⟨rv, M', h1, h2, h3, h4⟩ := am_call_ex ⟨Nat.le_of_ble_eq_true rfl, rfl⟩ key
  subst h2
  exact ⟨M', h1, h3, h4⟩
end LY
