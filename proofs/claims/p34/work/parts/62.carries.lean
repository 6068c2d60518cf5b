/-! the law carries out an operation -/
set_option maxRecDepth 100000 in
theorem vc_w_carries (k : Int) (d : Int) (M : am_M) (Q : Option Value → am_M → Prop) (hv : (0 ≤ k ∧ k < 16) ∧ (∃ (r2 : Int) (M1 : am_M), am_call t_LAW_at [.ref 61, .int (zi (oC M k))] M (some (.int (zi r2))) M1 ∧ ((0 ≤ k ∧ k < 16) ∧ ((0 ≤ k ∧ k < 16) ∧ ((0 < (zand (zshr (iv M1 59 k) 1) 7) → (0 ≤ k ∧ k < 16) ∧ ((1 < (zand (zshr (iv M1 59 k) 1) 7) → (0 ≤ k ∧ k < 16) ∧ (am_x t_LAW_carries (61, [.ref 61, .ref 58, .null, .int (zi k), .ref 63, .ref 64, .int (zi d), .int (zi r2), .int (zi (oK M1 k)), .int (zi (zand (zshr (iv M1 59 k) 1) 7)), .int (zi (oO M1 k)), .int (zi (oT M1 k)), .null, .null], [], M1) Q)) ∧ ((zand (zshr (iv M1 59 k) 1) 7) ≤ 1 → am_x t_LAW_carries (61, [.ref 61, .ref 58, .null, .int (zi k), .ref 63, .ref 64, .int (zi d), .int (zi r2), .int (zi (oK M1 k)), .int (zi (zand (zshr (iv M1 59 k) 1) 7)), .int (zi (oO M1 k)), .int (zi 0), .null, .null], [], M1) Q))) ∧ ((zand (zshr (iv M1 59 k) 1) 7) ≤ 0 → am_x t_LAW_carries (61, [.ref 61, .ref 58, .null, .int (zi k), .ref 63, .ref 64, .int (zi d), .int (zi r2), .int (zi (oK M1 k)), .int (zi (zand (zshr (iv M1 59 k) 1) 7)), .int (zi 0), .int (zi 0), .null, .null], [], M1) Q)))))) : am_x t_LAW_carries (0, am_ent (am_mL t_LAW_carries) [.ref 61, .ref 58, .ref 59, .int (zi k), .ref 63, .ref 64, .int (zi d)], [], M) Q := by
  refine am_xn 0 (c1 := (0, [.ref 61, .ref 58, .ref 59, .int (zi k), .ref 63, .ref 64, .int (zi d), .null, .null, .null, .null, .null, .null, .null], [], M)) rfl ?_
  refine am_xn 3 (c1 := (3, [.ref 61, .ref 58, .ref 59, .int (zi k), .ref 63, .ref 64, .int (zi d), .null, .null, .null, .null, .null, .null, .null], [.int (zi k), .ref 58, .ref 61], M)) rfl ?_
  obtain ⟨g, hv⟩ := hv
  refine am_xc t_LAW_code (.invokestatic 32) 32 (av := [.ref 58, .int (zi k)]) (rest := [.ref 61]) (rv := some (.int (zi (oC M k)))) (M' := M) rfl rfl rfl rfl (Nat.le_of_ble_eq_true rfl) (fun h => nomatch h) (sp_w_code M k g) ?_
  refine am_xn 0 (c1 := (6, [.ref 61, .ref 58, .ref 59, .int (zi k), .ref 63, .ref 64, .int (zi d), .null, .null, .null, .null, .null, .null, .null], [.int (zi (oC M k)), .ref 61], M)) rfl ?_
  obtain ⟨r2, M1, hc, hv⟩ := hv
  refine am_xc t_LAW_at (.invokestatic 35) 35 (av := [.ref 61, .int (zi (oC M k))]) (rest := []) (rv := some (.int (zi r2))) (M' := M1) rfl rfl rfl rfl (Nat.le_of_ble_eq_true rfl) (fun h => nomatch h) (hc) ?_
  refine am_xn 0 (c1 := (9, [.ref 61, .ref 58, .ref 59, .int (zi k), .ref 63, .ref 64, .int (zi d), .null, .null, .null, .null, .null, .null, .null], [.int (zi r2)], M1)) rfl ?_
  refine am_xn 3 (c1 := (13, [.ref 61, .ref 58, .ref 59, .int (zi k), .ref 63, .ref 64, .int (zi d), .int (zi r2), .null, .null, .null, .null, .null, .null], [.int (zi k), .ref 58], M1)) rfl ?_
  obtain ⟨g, hv⟩ := hv
  refine am_xc t_LAW_kind (.invokestatic 28) 28 (av := [.ref 58, .int (zi k)]) (rest := []) (rv := some (.int (zi (oK M1 k)))) (M' := M1) rfl rfl rfl rfl (Nat.le_of_ble_eq_true rfl) (fun h => nomatch h) (sp_w_kind M1 k g) ?_
  refine am_xn 0 (c1 := (16, [.ref 61, .ref 58, .ref 59, .int (zi k), .ref 63, .ref 64, .int (zi d), .int (zi r2), .null, .null, .null, .null, .null, .null], [.int (zi (oK M1 k))], M1)) rfl ?_
  obtain ⟨r3, hv⟩ := hv
  refine am_xn 3 (c1 := (20, [.ref 61, .ref 58, .ref 59, .int (zi k), .ref 63, .ref 64, .int (zi d), .int (zi r2), .int (zi (oK M1 k)), .null, .null, .null, .null, .null], [.int (zi k), .ref 59], M1)) rfl ?_
  refine am_xald rfl rfl rfl r3 ?_
  refine am_xn 0 (c1 := (21, [.ref 61, .ref 58, .ref 59, .int (zi k), .ref 63, .ref 64, .int (zi d), .int (zi r2), .int (zi (oK M1 k)), .null, .null, .null, .null, .null], [.int (zi (iv M1 59 k))], M1)) rfl ?_
  refine am_xbit 2 (zi (iv M1 59 k) >>> (zi 1 &&& 31)) (pc := 23) (ls := [.ref 61, .ref 58, .ref 59, .int (zi k), .ref 63, .ref 64, .int (zi d), .int (zi r2), .int (zi (oK M1 k)), .null, .null, .null, .null, .null]) (st := []) rfl ?_
  refine am_xn 0 (c1 := (23, [.ref 61, .ref 58, .ref 59, .int (zi k), .ref 63, .ref 64, .int (zi d), .int (zi r2), .int (zi (oK M1 k)), .null, .null, .null, .null, .null], [.int (zi (zshr (iv M1 59 k) 1))], M1)) rfl ?_
  refine am_xbit 2 (zi (zshr (iv M1 59 k) 1) &&& zi 7) (pc := 26) (ls := [.ref 61, .ref 58, .ref 59, .int (zi k), .ref 63, .ref 64, .int (zi d), .int (zi r2), .int (zi (oK M1 k)), .null, .null, .null, .null, .null]) (st := []) rfl ?_
  refine am_xn 0 (c1 := (26, [.ref 61, .ref 58, .ref 59, .int (zi k), .ref 63, .ref 64, .int (zi d), .int (zi r2), .int (zi (oK M1 k)), .null, .null, .null, .null, .null], [.int (zi (zand (zshr (iv M1 59 k) 1) 7))], M1)) rfl ?_
  refine am_xn 3 (c1 := (if zi 0 < zi (zand (zshr (iv M1 59 k) 1) 7) then 33 else 41, [.ref 61, .ref 58, .ref 59, .int (zi k), .ref 63, .ref 64, .int (zi d), .int (zi r2), .int (zi (oK M1 k)), .int (zi (zand (zshr (iv M1 59 k) 1) 7)), .null, .null, .null, .null], [], M1)) rfl (am_xlt (by decide) (zr_toInt _) (fun h => ?_) (fun h => ?_))
  · replace hv := hv.1 h
    refine am_xn 2 (c1 := (35, [.ref 61, .ref 58, .ref 59, .int (zi k), .ref 63, .ref 64, .int (zi d), .int (zi r2), .int (zi (oK M1 k)), .int (zi (zand (zshr (iv M1 59 k) 1) 7)), .null, .null, .null, .null], [.int (zi k), .ref 58], M1)) rfl ?_
    obtain ⟨g, hv⟩ := hv
    refine am_xc t_LAW_one (.invokestatic 39) 39 (av := [.ref 58, .int (zi k)]) (rest := []) (rv := some (.int (zi (oO M1 k)))) (M' := M1) rfl rfl rfl rfl (Nat.le_of_ble_eq_true rfl) (fun h => nomatch h) (sp_w_one M1 k g) ?_
    refine am_xn 0 (c1 := (38, [.ref 61, .ref 58, .ref 59, .int (zi k), .ref 63, .ref 64, .int (zi d), .int (zi r2), .int (zi (oK M1 k)), .int (zi (zand (zshr (iv M1 59 k) 1) 7)), .null, .null, .null, .null], [.int (zi (oO M1 k))], M1)) rfl ?_
    refine am_xn 5 (c1 := (if zi 1 < zi (zand (zshr (iv M1 59 k) 1) 7) then 50 else 58, [.ref 61, .ref 58, .ref 59, .int (zi k), .ref 63, .ref 64, .int (zi d), .int (zi r2), .int (zi (oK M1 k)), .int (zi (zand (zshr (iv M1 59 k) 1) 7)), .int (zi (oO M1 k)), .null, .null, .null], [], M1)) rfl (am_xlt (by decide) (zr_toInt _) (fun h => ?_) (fun h => ?_))
    · replace hv := hv.1 h
      refine am_xn 2 (c1 := (52, [.ref 61, .ref 58, .ref 59, .int (zi k), .ref 63, .ref 64, .int (zi d), .int (zi r2), .int (zi (oK M1 k)), .int (zi (zand (zshr (iv M1 59 k) 1) 7)), .int (zi (oO M1 k)), .null, .null, .null], [.int (zi k), .ref 58], M1)) rfl ?_
      obtain ⟨g, hv⟩ := hv
      refine am_xc t_LAW_two (.invokestatic 42) 42 (av := [.ref 58, .int (zi k)]) (rest := []) (rv := some (.int (zi (oT M1 k)))) (M' := M1) rfl rfl rfl rfl (Nat.le_of_ble_eq_true rfl) (fun h => nomatch h) (sp_w_two M1 k g) ?_
      refine am_xn 0 (c1 := (55, [.ref 61, .ref 58, .ref 59, .int (zi k), .ref 63, .ref 64, .int (zi d), .int (zi r2), .int (zi (oK M1 k)), .int (zi (zand (zshr (iv M1 59 k) 1) 7)), .int (zi (oO M1 k)), .null, .null, .null], [.int (zi (oT M1 k))], M1)) rfl ?_
      refine am_xn 2 (c1 := (61, [.ref 61, .ref 58, .ref 59, .int (zi k), .ref 63, .ref 64, .int (zi d), .int (zi r2), .int (zi (oK M1 k)), .int (zi (zand (zshr (iv M1 59 k) 1) 7)), .int (zi (oO M1 k)), .int (zi (oT M1 k)), .null, .null], [], M1)) rfl ?_
      refine am_xf 2 ?_
      exact hv
    · replace hv := hv.2 h
      refine am_xn 2 (c1 := (61, [.ref 61, .ref 58, .ref 59, .int (zi k), .ref 63, .ref 64, .int (zi d), .int (zi r2), .int (zi (oK M1 k)), .int (zi (zand (zshr (iv M1 59 k) 1) 7)), .int (zi (oO M1 k)), .int (zi 0), .null, .null], [], M1)) rfl ?_
      refine am_xf 2 ?_
      exact hv
  · replace hv := hv.2 h
    refine am_xn 5 (c1 := (if zi 1 < zi (zand (zshr (iv M1 59 k) 1) 7) then 50 else 58, [.ref 61, .ref 58, .ref 59, .int (zi k), .ref 63, .ref 64, .int (zi d), .int (zi r2), .int (zi (oK M1 k)), .int (zi (zand (zshr (iv M1 59 k) 1) 7)), .int (zi 0), .null, .null, .null], [], M1)) rfl (am_xlt (by decide) (zr_toInt _) (fun h => by clear hv; exfalso; omega) (fun h => ?_))
    refine am_xn 2 (c1 := (61, [.ref 61, .ref 58, .ref 59, .int (zi k), .ref 63, .ref 64, .int (zi d), .int (zi r2), .int (zi (oK M1 k)), .int (zi (zand (zshr (iv M1 59 k) 1) 7)), .int (zi 0), .int (zi 0), .null, .null], [], M1)) rfl ?_
    refine am_xf 2 ?_
    exact hv
set_option maxRecDepth 100000 in
theorem vc_w_carries_61 (x3 : Int) (x6 : Int) (x7 : Int) (x8 : Int) (x9 : Int) (x10 : Int) (x11 : Int) (M : am_M) (Q : Option Value → am_M → Prop) (hv : (zr x8) ∧ ((0 < x8 → (zr x7) ∧ ((x7 = (-1) → Q (some (.int (zi 1))) M) ∧ (¬ x7 = (-1) → (x8 = 3 → (0 ≤ x3 ∧ x3 < 16) ∧ (∃ (r4 : Int) (M3 : am_M), am_call t_LAW_at [.ref 61, .int (zi (oO M x3))] M (some (.int (zi r4))) M3 ∧ ((zr r4) ∧ ((r4 = (-1) → am_x t_LAW_carries (106, [.ref 61, .ref 58, .null, .int (zi x3), .ref 63, .ref 64, .int (zi x6), .int (zi x7), .int (zi x8), .int (zi x9), .int (zi x10), .int (zi x11), .null, .null], [], M3) Q) ∧ (¬ r4 = (-1) → Q (some (.int (zi 2))) M3))))) ∧ (¬ x8 = 3 → am_x t_LAW_carries (106, [.ref 61, .ref 58, .null, .int (zi x3), .ref 63, .ref 64, .int (zi x6), .int (zi x7), .int (zi x8), .int (zi x9), .int (zi x10), .int (zi x11), .null, .null], [], M) Q)))) ∧ (x8 ≤ 0 → (x8 = 0 → (zr x7) ∧ ((x7 = (-1) → am_x t_LAW_carries (106, [.ref 61, .ref 58, .null, .int (zi x3), .ref 63, .ref 64, .int (zi x6), .int (zi x7), .int (zi x8), .int (zi x9), .int (zi x10), .int (zi x11), .null, .null], [], M) Q) ∧ (¬ x7 = (-1) → Q (some (.int (zi 2))) M))) ∧ (¬ x8 = 0 → am_x t_LAW_carries (106, [.ref 61, .ref 58, .null, .int (zi x3), .ref 63, .ref 64, .int (zi x6), .int (zi x7), .int (zi x8), .int (zi x9), .int (zi x10), .int (zi x11), .null, .null], [], M) Q)))) : am_x t_LAW_carries (61, [.ref 61, .ref 58, .null, .int (zi x3), .ref 63, .ref 64, .int (zi x6), .int (zi x7), .int (zi x8), .int (zi x9), .int (zi x10), .int (zi x11), .null, .null], [], M) Q := by
  obtain ⟨r1, hv⟩ := hv
  refine am_xn 2 (c1 := (if zi 0 < zi x8 then 66 else 74, [.ref 61, .ref 58, .null, .int (zi x3), .ref 63, .ref 64, .int (zi x6), .int (zi x7), .int (zi x8), .int (zi x9), .int (zi x10), .int (zi x11), .null, .null], [], M)) rfl (am_xlt (by decide) r1 (fun h => ?_) (fun h => ?_))
  · replace hv := hv.1 h
    obtain ⟨r2, hv⟩ := hv
    refine am_xn 3 (c1 := (if zi x7 = zi (-1) then 72 else 74, [.ref 61, .ref 58, .null, .int (zi x3), .ref 63, .ref 64, .int (zi x6), .int (zi x7), .int (zi x8), .int (zi x9), .int (zi x10), .int (zi x11), .null, .null], [], M)) rfl (am_xeq r2 (by decide) (fun h => ?_) (fun h => ?_))
    · replace hv := hv.1 h
      refine am_xn 1 (c1 := (73, [.ref 61, .ref 58, .null, .int (zi x3), .ref 63, .ref 64, .int (zi x6), .int (zi x7), .int (zi x8), .int (zi x9), .int (zi x10), .int (zi x11), .null, .null], [.int (zi 1)], M)) rfl ?_
      exact am_xr (some (.int (zi 1))) ⟨rfl, rfl, .int, rfl, rfl⟩ hv
    · replace hv := hv.2 h
      refine am_xn 2 (c1 := (if zi x8 = zi 0 then 79 else 85, [.ref 61, .ref 58, .null, .int (zi x3), .ref 63, .ref 64, .int (zi x6), .int (zi x7), .int (zi x8), .int (zi x9), .int (zi x10), .int (zi x11), .null, .null], [], M)) rfl (am_xeq r1 (by decide) (fun h => by clear hv; exfalso; omega) (fun h => ?_))
      refine am_xn 3 (c1 := (if zi x8 = zi 3 then 91 else 106, [.ref 61, .ref 58, .null, .int (zi x3), .ref 63, .ref 64, .int (zi x6), .int (zi x7), .int (zi x8), .int (zi x9), .int (zi x10), .int (zi x11), .null, .null], [], M)) rfl (am_xeq r1 (by decide) (fun h => ?_) (fun h => ?_))
      · replace hv := hv.1 h
        refine am_xn 3 (c1 := (94, [.ref 61, .ref 58, .null, .int (zi x3), .ref 63, .ref 64, .int (zi x6), .int (zi x7), .int (zi x8), .int (zi x9), .int (zi x10), .int (zi x11), .null, .null], [.int (zi x3), .ref 58, .ref 61], M)) rfl ?_
        obtain ⟨g, hv⟩ := hv
        refine am_xc t_LAW_one (.invokestatic 39) 39 (av := [.ref 58, .int (zi x3)]) (rest := [.ref 61]) (rv := some (.int (zi (oO M x3)))) (M' := M) rfl rfl rfl rfl (Nat.le_of_ble_eq_true rfl) (fun h => nomatch h) (sp_w_one M x3 g) ?_
        refine am_xn 0 (c1 := (97, [.ref 61, .ref 58, .null, .int (zi x3), .ref 63, .ref 64, .int (zi x6), .int (zi x7), .int (zi x8), .int (zi x9), .int (zi x10), .int (zi x11), .null, .null], [.int (zi (oO M x3)), .ref 61], M)) rfl ?_
        obtain ⟨r4, M3, hc, hv⟩ := hv
        refine am_xc t_LAW_at (.invokestatic 35) 35 (av := [.ref 61, .int (zi (oO M x3))]) (rest := []) (rv := some (.int (zi r4))) (M' := M3) rfl rfl rfl rfl (Nat.le_of_ble_eq_true rfl) (fun h => nomatch h) (hc) ?_
        refine am_xn 0 (c1 := (100, [.ref 61, .ref 58, .null, .int (zi x3), .ref 63, .ref 64, .int (zi x6), .int (zi x7), .int (zi x8), .int (zi x9), .int (zi x10), .int (zi x11), .null, .null], [.int (zi r4)], M3)) rfl ?_
        obtain ⟨r5, hv⟩ := hv
        refine am_xn 2 (c1 := (if zi r4 = zi (-1) then 106 else 104, [.ref 61, .ref 58, .null, .int (zi x3), .ref 63, .ref 64, .int (zi x6), .int (zi x7), .int (zi x8), .int (zi x9), .int (zi x10), .int (zi x11), .null, .null], [], M3)) rfl (am_xeq r5 (by decide) (fun h => ?_) (fun h => ?_))
        · replace hv := hv.1 h
          exact hv
        · replace hv := hv.2 h
          refine am_xn 1 (c1 := (105, [.ref 61, .ref 58, .null, .int (zi x3), .ref 63, .ref 64, .int (zi x6), .int (zi x7), .int (zi x8), .int (zi x9), .int (zi x10), .int (zi x11), .null, .null], [.int (zi 2)], M3)) rfl ?_
          exact am_xr (some (.int (zi 2))) ⟨rfl, rfl, .int, rfl, rfl⟩ hv
      · replace hv := hv.2 h
        exact hv
  · replace hv := hv.2 h
    refine am_xn 2 (c1 := (if zi x8 = zi 0 then 79 else 85, [.ref 61, .ref 58, .null, .int (zi x3), .ref 63, .ref 64, .int (zi x6), .int (zi x7), .int (zi x8), .int (zi x9), .int (zi x10), .int (zi x11), .null, .null], [], M)) rfl (am_xeq r1 (by decide) (fun h => ?_) (fun h => ?_))
    · replace hv := hv.1 h
      obtain ⟨r6, hv⟩ := hv
      refine am_xn 3 (c1 := (if zi x7 = zi (-1) then 85 else 104, [.ref 61, .ref 58, .null, .int (zi x3), .ref 63, .ref 64, .int (zi x6), .int (zi x7), .int (zi x8), .int (zi x9), .int (zi x10), .int (zi x11), .null, .null], [], M)) rfl (am_xeq r6 (by decide) (fun h => ?_) (fun h => ?_))
      · replace hv := hv.1 h
        refine am_xn 3 (c1 := (if zi x8 = zi 3 then 91 else 106, [.ref 61, .ref 58, .null, .int (zi x3), .ref 63, .ref 64, .int (zi x6), .int (zi x7), .int (zi x8), .int (zi x9), .int (zi x10), .int (zi x11), .null, .null], [], M)) rfl (am_xeq r1 (by decide) (fun h => by clear hv; exfalso; omega) (fun h => ?_))
        exact hv
      · replace hv := hv.2 h
        refine am_xn 1 (c1 := (105, [.ref 61, .ref 58, .null, .int (zi x3), .ref 63, .ref 64, .int (zi x6), .int (zi x7), .int (zi x8), .int (zi x9), .int (zi x10), .int (zi x11), .null, .null], [.int (zi 2)], M)) rfl ?_
        exact am_xr (some (.int (zi 2))) ⟨rfl, rfl, .int, rfl, rfl⟩ hv
    · replace hv := hv.2 h
      refine am_xn 3 (c1 := (if zi x8 = zi 3 then 91 else 106, [.ref 61, .ref 58, .null, .int (zi x3), .ref 63, .ref 64, .int (zi x6), .int (zi x7), .int (zi x8), .int (zi x9), .int (zi x10), .int (zi x11), .null, .null], [], M)) rfl (am_xeq r1 (by decide) (fun h => by clear hv; exfalso; omega) (fun h => ?_))
      exact hv
set_option maxRecDepth 100000 in
theorem vc_w_carries_106 (x3 : Int) (x6 : Int) (x7 : Int) (x8 : Int) (x9 : Int) (x10 : Int) (x11 : Int) (M : am_M) (Q : Option Value → am_M → Prop) (hv : (zr x8) ∧ ((x8 = 4 → am_x t_LAW_carries (118, [.ref 61, .ref 58, .null, .int (zi x3), .ref 63, .ref 64, .int (zi x6), .int (zi x7), .int (zi x8), .int (zi x9), .int (zi x10), .int (zi x11), .int (zi 0), .int (zi 0)], [], M) Q) ∧ (¬ x8 = 4 → am_x t_LAW_carries (182, [.ref 61, .ref 58, .null, .int (zi x3), .ref 63, .ref 64, .int (zi x6), .int (zi x7), .int (zi x8), .int (zi x9), .int (zi x10), .int (zi x11), .null, .null], [], M) Q))) : am_x t_LAW_carries (106, [.ref 61, .ref 58, .null, .int (zi x3), .ref 63, .ref 64, .int (zi x6), .int (zi x7), .int (zi x8), .int (zi x9), .int (zi x10), .int (zi x11), .null, .null], [], M) Q := by
  obtain ⟨r1, hv⟩ := hv
  refine am_xn 3 (c1 := (if zi x8 = zi 4 then 112 else 182, [.ref 61, .ref 58, .null, .int (zi x3), .ref 63, .ref 64, .int (zi x6), .int (zi x7), .int (zi x8), .int (zi x9), .int (zi x10), .int (zi x11), .null, .null], [], M)) rfl (am_xeq r1 (by decide) (fun h => ?_) (fun h => ?_))
  · replace hv := hv.1 h
    refine am_xn 4 (c1 := (118, [.ref 61, .ref 58, .null, .int (zi x3), .ref 63, .ref 64, .int (zi x6), .int (zi x7), .int (zi x8), .int (zi x9), .int (zi x10), .int (zi x11), .int (zi 0), .int (zi 0)], [], M)) rfl ?_
    exact hv
  · replace hv := hv.2 h
    exact hv
set_option maxRecDepth 100000 in
theorem vc_w_carries_118 (x3 : Int) (x6 : Int) (x7 : Int) (x8 : Int) (x9 : Int) (x10 : Int) (x11 : Int) (x12 : Int) (x13 : Int) (M : am_M) (Q : Option Value → am_M → Prop) (hv : (0 ≤ ((5 * x7) + 2) ∧ ((5 * x7) + 2) < 64) ∧ ((zr x13) ∧ ((x13 < (iv M 61 ((5 * x7) + 2)) → (0 ≤ (((5 * x7) + 3) + x13) ∧ (((5 * x7) + 3) + x13) < 64) ∧ ((0 ≤ x3 ∧ x3 < 16) ∧ (((iv M 61 (((5 * x7) + 3) + x13)) = (oO M x3) → (0 ≤ x3 ∧ x3 < 16) ∧ ((0 ≤ (((5 * x7) + 3) + x13) ∧ (((5 * x7) + 3) + x13) < 64) ∧ (∀ M4, M4 = zup M 61 (((5 * x7) + 3) + x13) (oT M x3) → am_x t_LAW_carries (118, [.ref 61, .ref 58, .null, .int (zi x3), .ref 63, .ref 64, .int (zi x6), .int (zi x7), .int (zi x8), .int (zi x9), .int (zi x10), .int (zi x11), .int (zi (x12 + 1)), .int (zi (x13 + 1))], [], M4) Q))) ∧ (¬ (iv M 61 (((5 * x7) + 3) + x13)) = (oO M x3) → am_x t_LAW_carries (118, [.ref 61, .ref 58, .null, .int (zi x3), .ref 63, .ref 64, .int (zi x6), .int (zi x7), .int (zi x8), .int (zi x9), .int (zi x10), .int (zi x11), .int (zi x12), .int (zi (x13 + 1))], [], M) Q)))) ∧ ((iv M 61 ((5 * x7) + 2)) ≤ x13 → (zr x12) ∧ ((x12 = 0 → Q (some (.int (zi 3))) M) ∧ (¬ x12 = 0 → am_x t_LAW_carries (182, [.ref 61, .ref 58, .null, .int (zi x3), .ref 63, .ref 64, .int (zi x6), .int (zi x7), .int (zi x8), .int (zi x9), .int (zi x10), .int (zi x11), .null, .null], [], M) Q)))))) : am_x t_LAW_carries (118, [.ref 61, .ref 58, .null, .int (zi x3), .ref 63, .ref 64, .int (zi x6), .int (zi x7), .int (zi x8), .int (zi x9), .int (zi x10), .int (zi x11), .int (zi x12), .int (zi x13)], [], M) Q := by
  refine am_ximul 5 5 x7 (pc := 125) (ls := [.ref 61, .ref 58, .null, .int (zi x3), .ref 63, .ref 64, .int (zi x6), .int (zi x7), .int (zi x8), .int (zi x9), .int (zi x10), .int (zi x11), .int (zi x12), .int (zi x13)]) (st := [.ref 61, .int (zi x13)]) rfl ?_
  refine am_xiadd 2 (5 * x7) 2 (pc := 127) (ls := [.ref 61, .ref 58, .null, .int (zi x3), .ref 63, .ref 64, .int (zi x6), .int (zi x7), .int (zi x8), .int (zi x9), .int (zi x10), .int (zi x11), .int (zi x12), .int (zi x13)]) (st := [.ref 61, .int (zi x13)]) rfl ?_
  obtain ⟨r1, hv⟩ := hv
  refine am_xald rfl rfl rfl r1 ?_
  refine am_xn 0 (c1 := (128, [.ref 61, .ref 58, .null, .int (zi x3), .ref 63, .ref 64, .int (zi x6), .int (zi x7), .int (zi x8), .int (zi x9), .int (zi x10), .int (zi x11), .int (zi x12), .int (zi x13)], [.int (zi (iv M 61 ((5 * x7) + 2))), .int (zi x13)], M)) rfl ?_
  obtain ⟨r2, hv⟩ := hv
  refine am_xn 1 (c1 := (if zi x13 < zi (iv M 61 ((5 * x7) + 2)) then 131 else 175, [.ref 61, .ref 58, .null, .int (zi x3), .ref 63, .ref 64, .int (zi x6), .int (zi x7), .int (zi x8), .int (zi x9), .int (zi x10), .int (zi x11), .int (zi x12), .int (zi x13)], [], M)) rfl (am_xlt r2 (iv_r _ _ _) (fun h => ?_) (fun h => ?_))
  · replace hv := hv.1 h
    refine am_ximul 4 5 x7 (pc := 136) (ls := [.ref 61, .ref 58, .null, .int (zi x3), .ref 63, .ref 64, .int (zi x6), .int (zi x7), .int (zi x8), .int (zi x9), .int (zi x10), .int (zi x11), .int (zi x12), .int (zi x13)]) (st := [.ref 61]) rfl ?_
    refine am_xiadd 2 (5 * x7) 3 (pc := 138) (ls := [.ref 61, .ref 58, .null, .int (zi x3), .ref 63, .ref 64, .int (zi x6), .int (zi x7), .int (zi x8), .int (zi x9), .int (zi x10), .int (zi x11), .int (zi x12), .int (zi x13)]) (st := [.ref 61]) rfl ?_
    refine am_xiadd 2 ((5 * x7) + 3) x13 (pc := 141) (ls := [.ref 61, .ref 58, .null, .int (zi x3), .ref 63, .ref 64, .int (zi x6), .int (zi x7), .int (zi x8), .int (zi x9), .int (zi x10), .int (zi x11), .int (zi x12), .int (zi x13)]) (st := [.ref 61]) rfl ?_
    obtain ⟨r3, hv⟩ := hv
    refine am_xald rfl rfl rfl r3 ?_
    refine am_xn 0 (c1 := (142, [.ref 61, .ref 58, .null, .int (zi x3), .ref 63, .ref 64, .int (zi x6), .int (zi x7), .int (zi x8), .int (zi x9), .int (zi x10), .int (zi x11), .int (zi x12), .int (zi x13)], [.int (zi (iv M 61 (((5 * x7) + 3) + x13)))], M)) rfl ?_
    refine am_xn 2 (c1 := (144, [.ref 61, .ref 58, .null, .int (zi x3), .ref 63, .ref 64, .int (zi x6), .int (zi x7), .int (zi x8), .int (zi x9), .int (zi x10), .int (zi x11), .int (zi x12), .int (zi x13)], [.int (zi x3), .ref 58, .int (zi (iv M 61 (((5 * x7) + 3) + x13)))], M)) rfl ?_
    obtain ⟨g, hv⟩ := hv
    refine am_xc t_LAW_one (.invokestatic 39) 39 (av := [.ref 58, .int (zi x3)]) (rest := [.int (zi (iv M 61 (((5 * x7) + 3) + x13)))]) (rv := some (.int (zi (oO M x3)))) (M' := M) rfl rfl rfl rfl (Nat.le_of_ble_eq_true rfl) (fun h => nomatch h) (sp_w_one M x3 g) ?_
    refine am_xn 0 (c1 := (147, [.ref 61, .ref 58, .null, .int (zi x3), .ref 63, .ref 64, .int (zi x6), .int (zi x7), .int (zi x8), .int (zi x9), .int (zi x10), .int (zi x11), .int (zi x12), .int (zi x13)], [.int (zi (oO M x3)), .int (zi (iv M 61 (((5 * x7) + 3) + x13)))], M)) rfl ?_
    refine am_xn 1 (c1 := (if zi (iv M 61 (((5 * x7) + 3) + x13)) = zi (oO M x3) then 150 else 169, [.ref 61, .ref 58, .null, .int (zi x3), .ref 63, .ref 64, .int (zi x6), .int (zi x7), .int (zi x8), .int (zi x9), .int (zi x10), .int (zi x11), .int (zi x12), .int (zi x13)], [], M)) rfl (am_xeq (iv_r _ _ _) (zr_zl2i _) (fun h => ?_) (fun h => ?_))
    · replace hv := hv.1 h
      refine am_ximul 4 5 x7 (pc := 155) (ls := [.ref 61, .ref 58, .null, .int (zi x3), .ref 63, .ref 64, .int (zi x6), .int (zi x7), .int (zi x8), .int (zi x9), .int (zi x10), .int (zi x11), .int (zi x12), .int (zi x13)]) (st := [.ref 61]) rfl ?_
      refine am_xiadd 2 (5 * x7) 3 (pc := 157) (ls := [.ref 61, .ref 58, .null, .int (zi x3), .ref 63, .ref 64, .int (zi x6), .int (zi x7), .int (zi x8), .int (zi x9), .int (zi x10), .int (zi x11), .int (zi x12), .int (zi x13)]) (st := [.ref 61]) rfl ?_
      refine am_xiadd 2 ((5 * x7) + 3) x13 (pc := 160) (ls := [.ref 61, .ref 58, .null, .int (zi x3), .ref 63, .ref 64, .int (zi x6), .int (zi x7), .int (zi x8), .int (zi x9), .int (zi x10), .int (zi x11), .int (zi x12), .int (zi x13)]) (st := [.ref 61]) rfl ?_
      refine am_xn 2 (c1 := (162, [.ref 61, .ref 58, .null, .int (zi x3), .ref 63, .ref 64, .int (zi x6), .int (zi x7), .int (zi x8), .int (zi x9), .int (zi x10), .int (zi x11), .int (zi x12), .int (zi x13)], [.int (zi x3), .ref 58, .int (zi (((5 * x7) + 3) + x13)), .ref 61], M)) rfl ?_
      obtain ⟨g, hv⟩ := hv
      refine am_xc t_LAW_two (.invokestatic 42) 42 (av := [.ref 58, .int (zi x3)]) (rest := [.int (zi (((5 * x7) + 3) + x13)), .ref 61]) (rv := some (.int (zi (oT M x3)))) (M' := M) rfl rfl rfl rfl (Nat.le_of_ble_eq_true rfl) (fun h => nomatch h) (sp_w_two M x3 g) ?_
      refine am_xn 0 (c1 := (165, [.ref 61, .ref 58, .null, .int (zi x3), .ref 63, .ref 64, .int (zi x6), .int (zi x7), .int (zi x8), .int (zi x9), .int (zi x10), .int (zi x11), .int (zi x12), .int (zi x13)], [.int (zi (oT M x3)), .int (zi (((5 * x7) + 3) + x13)), .ref 61], M)) rfl ?_
      obtain ⟨r5, hv⟩ := hv
      refine am_xast rfl rfl rfl r5 ?_
      refine am_xn 0 (c1 := (166, [.ref 61, .ref 58, .null, .int (zi x3), .ref 63, .ref 64, .int (zi x6), .int (zi x7), .int (zi x8), .int (zi x9), .int (zi x10), .int (zi x11), .int (zi x12), .int (zi x13)], [], zup M 61 (((5 * x7) + 3) + x13) (oT M x3))) rfl ?_
      obtain ⟨M4, eM4⟩ : ∃ m, m = zup M 61 (((5 * x7) + 3) + x13) (oT M x3) := ⟨_, rfl⟩
      replace hv := hv M4 eM4
      rw [← eM4]
      refine am_xn 1 (c1 := (169, [.ref 61, .ref 58, .null, .int (zi x3), .ref 63, .ref 64, .int (zi x6), .int (zi x7), .int (zi x8), .int (zi x9), .int (zi x10), .int (zi x11), .int (zi x12 + zi 1), .int (zi x13)], [], M4)) rfl ?_
      rw [zi_add]
      refine am_xn 1 (c1 := (172, [.ref 61, .ref 58, .null, .int (zi x3), .ref 63, .ref 64, .int (zi x6), .int (zi x7), .int (zi x8), .int (zi x9), .int (zi x10), .int (zi x11), .int (zi (x12 + 1)), .int (zi x13 + zi 1)], [], M4)) rfl ?_
      rw [zi_add]
      refine am_xn 1 (c1 := (118, [.ref 61, .ref 58, .null, .int (zi x3), .ref 63, .ref 64, .int (zi x6), .int (zi x7), .int (zi x8), .int (zi x9), .int (zi x10), .int (zi x11), .int (zi (x12 + 1)), .int (zi (x13 + 1))], [], M4)) rfl ?_
      exact hv
    · replace hv := hv.2 h
      refine am_xn 1 (c1 := (172, [.ref 61, .ref 58, .null, .int (zi x3), .ref 63, .ref 64, .int (zi x6), .int (zi x7), .int (zi x8), .int (zi x9), .int (zi x10), .int (zi x11), .int (zi x12), .int (zi x13 + zi 1)], [], M)) rfl ?_
      rw [zi_add]
      refine am_xn 1 (c1 := (118, [.ref 61, .ref 58, .null, .int (zi x3), .ref 63, .ref 64, .int (zi x6), .int (zi x7), .int (zi x8), .int (zi x9), .int (zi x10), .int (zi x11), .int (zi x12), .int (zi (x13 + 1))], [], M)) rfl ?_
      exact hv
  · replace hv := hv.2 h
    obtain ⟨r6, hv⟩ := hv
    refine am_xn 2 (c1 := (if zi x12 = zi 0 then 180 else 182, [.ref 61, .ref 58, .null, .int (zi x3), .ref 63, .ref 64, .int (zi x6), .int (zi x7), .int (zi x8), .int (zi x9), .int (zi x10), .int (zi x11), .int (zi x12), .int (zi x13)], [], M)) rfl (am_xeq r6 (by decide) (fun h => ?_) (fun h => ?_))
    · replace hv := hv.1 h
      refine am_xn 1 (c1 := (181, [.ref 61, .ref 58, .null, .int (zi x3), .ref 63, .ref 64, .int (zi x6), .int (zi x7), .int (zi x8), .int (zi x9), .int (zi x10), .int (zi x11), .int (zi x12), .int (zi x13)], [.int (zi 3)], M)) rfl ?_
      exact am_xr (some (.int (zi 3))) ⟨rfl, rfl, .int, rfl, rfl⟩ hv
    · replace hv := hv.2 h
      refine am_xf 12 ?_
      refine am_xf 13 ?_
      exact hv
set_option maxRecDepth 100000 in
theorem vc_w_carries_182 (x3 : Int) (x6 : Int) (x7 : Int) (x8 : Int) (x9 : Int) (x10 : Int) (x11 : Int) (M : am_M) (Q : Option Value → am_M → Prop) (hv : (zr x8) ∧ ((x8 < 2 → (zr x10) ∧ ((x10 < 1000 → (zr x11) ∧ ((x11 < 1000 → am_x t_LAW_carries (234, [.ref 61, .ref 58, .null, .int (zi x3), .ref 63, .ref 64, .int (zi x6), .int (zi x7), .int (zi x8), .int (zi x9), .int (zi x10), .int (zi x11), .null, .null], [], M) Q) ∧ (1000 ≤ x11 → ∃ (r5 : Int) (M4 : am_M), am_call t_LAW_at [.ref 61, .int (zi (x11 - 1000))] M (some (.int (zi r5))) M4 ∧ ((zr r5) ∧ ((r5 = (-1) → Q (some (.int (zi 4))) M4) ∧ (¬ r5 = (-1) → am_x t_LAW_carries (234, [.ref 61, .ref 58, .null, .int (zi x3), .ref 63, .ref 64, .int (zi x6), .int (zi x7), .int (zi x8), .int (zi x9), .int (zi x10), .int (zi x11), .null, .null], [], M4) Q)))))) ∧ (1000 ≤ x10 → ∃ (r8 : Int) (M7 : am_M), am_call t_LAW_at [.ref 61, .int (zi (x10 - 1000))] M (some (.int (zi r8))) M7 ∧ ((zr r8) ∧ ((r8 = (-1) → Q (some (.int (zi 4))) M7) ∧ (¬ r8 = (-1) → (zr x11) ∧ ((x11 < 1000 → am_x t_LAW_carries (234, [.ref 61, .ref 58, .null, .int (zi x3), .ref 63, .ref 64, .int (zi x6), .int (zi x7), .int (zi x8), .int (zi x9), .int (zi x10), .int (zi x11), .null, .null], [], M7) Q) ∧ (1000 ≤ x11 → ∃ (r12 : Int) (M11 : am_M), am_call t_LAW_at [.ref 61, .int (zi (x11 - 1000))] M7 (some (.int (zi r12))) M11 ∧ ((zr r12) ∧ ((r12 = (-1) → Q (some (.int (zi 4))) M11) ∧ (¬ r12 = (-1) → am_x t_LAW_carries (234, [.ref 61, .ref 58, .null, .int (zi x3), .ref 63, .ref 64, .int (zi x6), .int (zi x7), .int (zi x8), .int (zi x9), .int (zi x10), .int (zi x11), .null, .null], [], M11) Q))))))))))) ∧ (2 ≤ x8 → am_x t_LAW_carries (337, [.ref 61, .ref 58, .null, .int (zi x3), .ref 63, .ref 64, .int (zi x6), .int (zi x7), .int (zi x8), .null, .null, .null, .null, .null], [], M) Q))) : am_x t_LAW_carries (182, [.ref 61, .ref 58, .null, .int (zi x3), .ref 63, .ref 64, .int (zi x6), .int (zi x7), .int (zi x8), .int (zi x9), .int (zi x10), .int (zi x11), .null, .null], [], M) Q := by
  obtain ⟨r1, hv⟩ := hv
  refine am_xn 3 (c1 := (if zi x8 < zi 2 then 188 else 337, [.ref 61, .ref 58, .null, .int (zi x3), .ref 63, .ref 64, .int (zi x6), .int (zi x7), .int (zi x8), .int (zi x9), .int (zi x10), .int (zi x11), .null, .null], [], M)) rfl (am_xlt r1 (by decide) (fun h => ?_) (fun h => ?_))
  · replace hv := hv.1 h
    obtain ⟨r2, hv⟩ := hv
    refine am_xn 3 (c1 := (if zi x10 < zi 1000 then 210 else 196, [.ref 61, .ref 58, .null, .int (zi x3), .ref 63, .ref 64, .int (zi x6), .int (zi x7), .int (zi x8), .int (zi x9), .int (zi x10), .int (zi x11), .null, .null], [], M)) rfl (am_xlt r2 (by decide) (fun h => ?_) (fun h => ?_))
    · replace hv := hv.1 h
      obtain ⟨r3, hv⟩ := hv
      refine am_xn 3 (c1 := (if zi x11 < zi 1000 then 234 else 218, [.ref 61, .ref 58, .null, .int (zi x3), .ref 63, .ref 64, .int (zi x6), .int (zi x7), .int (zi x8), .int (zi x9), .int (zi x10), .int (zi x11), .null, .null], [], M)) rfl (am_xlt r3 (by decide) (fun h => ?_) (fun h => ?_))
      · replace hv := hv.1 h
        exact hv
      · replace hv := hv.2 h
        refine am_xisub 4 x11 1000 (pc := 225) (ls := [.ref 61, .ref 58, .null, .int (zi x3), .ref 63, .ref 64, .int (zi x6), .int (zi x7), .int (zi x8), .int (zi x9), .int (zi x10), .int (zi x11), .null, .null]) (st := [.ref 61]) rfl ?_
        obtain ⟨r5, M4, hc, hv⟩ := hv
        refine am_xc t_LAW_at (.invokestatic 35) 35 (av := [.ref 61, .int (zi (x11 - 1000))]) (rest := []) (rv := some (.int (zi r5))) (M' := M4) rfl rfl rfl rfl (Nat.le_of_ble_eq_true rfl) (fun h => nomatch h) (hc) ?_
        refine am_xn 0 (c1 := (228, [.ref 61, .ref 58, .null, .int (zi x3), .ref 63, .ref 64, .int (zi x6), .int (zi x7), .int (zi x8), .int (zi x9), .int (zi x10), .int (zi x11), .null, .null], [.int (zi r5)], M4)) rfl ?_
        obtain ⟨r6, hv⟩ := hv
        refine am_xn 2 (c1 := (if zi r5 = zi (-1) then 232 else 234, [.ref 61, .ref 58, .null, .int (zi x3), .ref 63, .ref 64, .int (zi x6), .int (zi x7), .int (zi x8), .int (zi x9), .int (zi x10), .int (zi x11), .null, .null], [], M4)) rfl (am_xeq r6 (by decide) (fun h => ?_) (fun h => ?_))
        · replace hv := hv.1 h
          refine am_xn 1 (c1 := (233, [.ref 61, .ref 58, .null, .int (zi x3), .ref 63, .ref 64, .int (zi x6), .int (zi x7), .int (zi x8), .int (zi x9), .int (zi x10), .int (zi x11), .null, .null], [.int (zi 4)], M4)) rfl ?_
          exact am_xr (some (.int (zi 4))) ⟨rfl, rfl, .int, rfl, rfl⟩ hv
        · replace hv := hv.2 h
          exact hv
    · replace hv := hv.2 h
      refine am_xisub 4 x10 1000 (pc := 203) (ls := [.ref 61, .ref 58, .null, .int (zi x3), .ref 63, .ref 64, .int (zi x6), .int (zi x7), .int (zi x8), .int (zi x9), .int (zi x10), .int (zi x11), .null, .null]) (st := [.ref 61]) rfl ?_
      obtain ⟨r8, M7, hc, hv⟩ := hv
      refine am_xc t_LAW_at (.invokestatic 35) 35 (av := [.ref 61, .int (zi (x10 - 1000))]) (rest := []) (rv := some (.int (zi r8))) (M' := M7) rfl rfl rfl rfl (Nat.le_of_ble_eq_true rfl) (fun h => nomatch h) (hc) ?_
      refine am_xn 0 (c1 := (206, [.ref 61, .ref 58, .null, .int (zi x3), .ref 63, .ref 64, .int (zi x6), .int (zi x7), .int (zi x8), .int (zi x9), .int (zi x10), .int (zi x11), .null, .null], [.int (zi r8)], M7)) rfl ?_
      obtain ⟨r9, hv⟩ := hv
      refine am_xn 2 (c1 := (if zi r8 = zi (-1) then 232 else 210, [.ref 61, .ref 58, .null, .int (zi x3), .ref 63, .ref 64, .int (zi x6), .int (zi x7), .int (zi x8), .int (zi x9), .int (zi x10), .int (zi x11), .null, .null], [], M7)) rfl (am_xeq r9 (by decide) (fun h => ?_) (fun h => ?_))
      · replace hv := hv.1 h
        refine am_xn 1 (c1 := (233, [.ref 61, .ref 58, .null, .int (zi x3), .ref 63, .ref 64, .int (zi x6), .int (zi x7), .int (zi x8), .int (zi x9), .int (zi x10), .int (zi x11), .null, .null], [.int (zi 4)], M7)) rfl ?_
        exact am_xr (some (.int (zi 4))) ⟨rfl, rfl, .int, rfl, rfl⟩ hv
      · replace hv := hv.2 h
        obtain ⟨r10, hv⟩ := hv
        refine am_xn 3 (c1 := (if zi x11 < zi 1000 then 234 else 218, [.ref 61, .ref 58, .null, .int (zi x3), .ref 63, .ref 64, .int (zi x6), .int (zi x7), .int (zi x8), .int (zi x9), .int (zi x10), .int (zi x11), .null, .null], [], M7)) rfl (am_xlt r10 (by decide) (fun h => ?_) (fun h => ?_))
        · replace hv := hv.1 h
          exact hv
        · replace hv := hv.2 h
          refine am_xisub 4 x11 1000 (pc := 225) (ls := [.ref 61, .ref 58, .null, .int (zi x3), .ref 63, .ref 64, .int (zi x6), .int (zi x7), .int (zi x8), .int (zi x9), .int (zi x10), .int (zi x11), .null, .null]) (st := [.ref 61]) rfl ?_
          obtain ⟨r12, M11, hc, hv⟩ := hv
          refine am_xc t_LAW_at (.invokestatic 35) 35 (av := [.ref 61, .int (zi (x11 - 1000))]) (rest := []) (rv := some (.int (zi r12))) (M' := M11) rfl rfl rfl rfl (Nat.le_of_ble_eq_true rfl) (fun h => nomatch h) (hc) ?_
          refine am_xn 0 (c1 := (228, [.ref 61, .ref 58, .null, .int (zi x3), .ref 63, .ref 64, .int (zi x6), .int (zi x7), .int (zi x8), .int (zi x9), .int (zi x10), .int (zi x11), .null, .null], [.int (zi r12)], M11)) rfl ?_
          obtain ⟨r13, hv⟩ := hv
          refine am_xn 2 (c1 := (if zi r12 = zi (-1) then 232 else 234, [.ref 61, .ref 58, .null, .int (zi x3), .ref 63, .ref 64, .int (zi x6), .int (zi x7), .int (zi x8), .int (zi x9), .int (zi x10), .int (zi x11), .null, .null], [], M11)) rfl (am_xeq r13 (by decide) (fun h => ?_) (fun h => ?_))
          · replace hv := hv.1 h
            refine am_xn 1 (c1 := (233, [.ref 61, .ref 58, .null, .int (zi x3), .ref 63, .ref 64, .int (zi x6), .int (zi x7), .int (zi x8), .int (zi x9), .int (zi x10), .int (zi x11), .null, .null], [.int (zi 4)], M11)) rfl ?_
            exact am_xr (some (.int (zi 4))) ⟨rfl, rfl, .int, rfl, rfl⟩ hv
          · replace hv := hv.2 h
            exact hv
  · replace hv := hv.2 h
    refine am_xf 9 ?_
    refine am_xf 10 ?_
    refine am_xf 11 ?_
    exact hv
set_option maxRecDepth 100000 in
theorem vc_w_carries_234 (x3 : Int) (x6 : Int) (x7 : Int) (x8 : Int) (x9 : Int) (x10 : Int) (x11 : Int) (M : am_M) (Q : Option Value → am_M → Prop) (hv : (zr x10) ∧ ((x10 < 1000 → (zr x11) ∧ ((x11 < 1000 → am_x t_LAW_carries (290, [.ref 61, .ref 58, .null, .int (zi x3), .ref 63, .ref 64, .int (zi x6), .int (zi x7), .int (zi x8), .int (zi x9), .int (zi x10), .int (zi x11), .null, .null], [], M) Q) ∧ (1000 ≤ x11 → ∃ (r4 : Int) (M3 : am_M), am_call t_LAW_at [.ref 61, .int (zi (x11 - 1000))] M (some (.int (zi r4))) M3 ∧ (am_x t_LAW_carries (290, [.ref 61, .ref 58, .null, .int (zi x3), .ref 63, .ref 64, .int (zi x6), .int (zi x7), .int (zi x8), .int (zi x9), .int (zi x10), .int (zi (2000000 + r4)), .null, .null], [], M3) Q)))) ∧ (1000 ≤ x10 → ∃ (r6 : Int) (M5 : am_M), am_call t_LAW_at [.ref 61, .int (zi (x10 - 1000))] M (some (.int (zi r6))) M5 ∧ ((zr x11) ∧ ((x11 < 1000 → am_x t_LAW_carries (290, [.ref 61, .ref 58, .null, .int (zi x3), .ref 63, .ref 64, .int (zi x6), .int (zi x7), .int (zi x8), .int (zi x9), .int (zi (2000000 + r6)), .int (zi x11), .null, .null], [], M5) Q) ∧ (1000 ≤ x11 → ∃ (r9 : Int) (M8 : am_M), am_call t_LAW_at [.ref 61, .int (zi (x11 - 1000))] M5 (some (.int (zi r9))) M8 ∧ (am_x t_LAW_carries (290, [.ref 61, .ref 58, .null, .int (zi x3), .ref 63, .ref 64, .int (zi x6), .int (zi x7), .int (zi x8), .int (zi x9), .int (zi (2000000 + r6)), .int (zi (2000000 + r9)), .null, .null], [], M8) Q))))))) : am_x t_LAW_carries (234, [.ref 61, .ref 58, .null, .int (zi x3), .ref 63, .ref 64, .int (zi x6), .int (zi x7), .int (zi x8), .int (zi x9), .int (zi x10), .int (zi x11), .null, .null], [], M) Q := by
  obtain ⟨r1, hv⟩ := hv
  refine am_xn 3 (c1 := (if zi x10 < zi 1000 then 258 else 242, [.ref 61, .ref 58, .null, .int (zi x3), .ref 63, .ref 64, .int (zi x6), .int (zi x7), .int (zi x8), .int (zi x9), .int (zi x10), .int (zi x11), .null, .null], [], M)) rfl (am_xlt r1 (by decide) (fun h => ?_) (fun h => ?_))
  · replace hv := hv.1 h
    obtain ⟨r2, hv⟩ := hv
    refine am_xn 5 (c1 := (if zi x11 < zi 1000 then 286 else 270, [.ref 61, .ref 58, .null, .int (zi x3), .ref 63, .ref 64, .int (zi x6), .int (zi x7), .int (zi x8), .int (zi x9), .int (zi x10), .int (zi x11), .null, .null], [], M)) rfl (am_xlt r2 (by decide) (fun h => ?_) (fun h => ?_))
    · replace hv := hv.1 h
      refine am_xn 2 (c1 := (290, [.ref 61, .ref 58, .null, .int (zi x3), .ref 63, .ref 64, .int (zi x6), .int (zi x7), .int (zi x8), .int (zi x9), .int (zi x10), .int (zi x11), .null, .null], [], M)) rfl ?_
      exact hv
    · replace hv := hv.2 h
      refine am_xisub 5 x11 1000 (pc := 279) (ls := [.ref 61, .ref 58, .null, .int (zi x3), .ref 63, .ref 64, .int (zi x6), .int (zi x7), .int (zi x8), .int (zi x9), .int (zi x10), .int (zi x11), .null, .null]) (st := [.ref 61, .int (zi 2000000)]) rfl ?_
      obtain ⟨r4, M3, hc, hv⟩ := hv
      refine am_xc t_LAW_at (.invokestatic 35) 35 (av := [.ref 61, .int (zi (x11 - 1000))]) (rest := [.int (zi 2000000)]) (rv := some (.int (zi r4))) (M' := M3) rfl rfl rfl rfl (Nat.le_of_ble_eq_true rfl) (fun h => nomatch h) (hc) ?_
      refine am_xn 0 (c1 := (282, [.ref 61, .ref 58, .null, .int (zi x3), .ref 63, .ref 64, .int (zi x6), .int (zi x7), .int (zi x8), .int (zi x9), .int (zi x10), .int (zi x11), .null, .null], [.int (zi r4), .int (zi 2000000)], M3)) rfl ?_
      refine am_xiadd 1 2000000 r4 (pc := 283) (ls := [.ref 61, .ref 58, .null, .int (zi x3), .ref 63, .ref 64, .int (zi x6), .int (zi x7), .int (zi x8), .int (zi x9), .int (zi x10), .int (zi x11), .null, .null]) (st := []) rfl ?_
      refine am_xn 2 (c1 := (290, [.ref 61, .ref 58, .null, .int (zi x3), .ref 63, .ref 64, .int (zi x6), .int (zi x7), .int (zi x8), .int (zi x9), .int (zi x10), .int (zi (2000000 + r4)), .null, .null], [], M3)) rfl ?_
      exact hv
  · replace hv := hv.2 h
    refine am_xisub 5 x10 1000 (pc := 251) (ls := [.ref 61, .ref 58, .null, .int (zi x3), .ref 63, .ref 64, .int (zi x6), .int (zi x7), .int (zi x8), .int (zi x9), .int (zi x10), .int (zi x11), .null, .null]) (st := [.ref 61, .int (zi 2000000)]) rfl ?_
    obtain ⟨r6, M5, hc, hv⟩ := hv
    refine am_xc t_LAW_at (.invokestatic 35) 35 (av := [.ref 61, .int (zi (x10 - 1000))]) (rest := [.int (zi 2000000)]) (rv := some (.int (zi r6))) (M' := M5) rfl rfl rfl rfl (Nat.le_of_ble_eq_true rfl) (fun h => nomatch h) (hc) ?_
    refine am_xn 0 (c1 := (254, [.ref 61, .ref 58, .null, .int (zi x3), .ref 63, .ref 64, .int (zi x6), .int (zi x7), .int (zi x8), .int (zi x9), .int (zi x10), .int (zi x11), .null, .null], [.int (zi r6), .int (zi 2000000)], M5)) rfl ?_
    refine am_xiadd 1 2000000 r6 (pc := 255) (ls := [.ref 61, .ref 58, .null, .int (zi x3), .ref 63, .ref 64, .int (zi x6), .int (zi x7), .int (zi x8), .int (zi x9), .int (zi x10), .int (zi x11), .null, .null]) (st := []) rfl ?_
    obtain ⟨r7, hv⟩ := hv
    refine am_xn 5 (c1 := (if zi x11 < zi 1000 then 286 else 270, [.ref 61, .ref 58, .null, .int (zi x3), .ref 63, .ref 64, .int (zi x6), .int (zi x7), .int (zi x8), .int (zi x9), .int (zi (2000000 + r6)), .int (zi x11), .null, .null], [], M5)) rfl (am_xlt r7 (by decide) (fun h => ?_) (fun h => ?_))
    · replace hv := hv.1 h
      refine am_xn 2 (c1 := (290, [.ref 61, .ref 58, .null, .int (zi x3), .ref 63, .ref 64, .int (zi x6), .int (zi x7), .int (zi x8), .int (zi x9), .int (zi (2000000 + r6)), .int (zi x11), .null, .null], [], M5)) rfl ?_
      exact hv
    · replace hv := hv.2 h
      refine am_xisub 5 x11 1000 (pc := 279) (ls := [.ref 61, .ref 58, .null, .int (zi x3), .ref 63, .ref 64, .int (zi x6), .int (zi x7), .int (zi x8), .int (zi x9), .int (zi (2000000 + r6)), .int (zi x11), .null, .null]) (st := [.ref 61, .int (zi 2000000)]) rfl ?_
      obtain ⟨r9, M8, hc, hv⟩ := hv
      refine am_xc t_LAW_at (.invokestatic 35) 35 (av := [.ref 61, .int (zi (x11 - 1000))]) (rest := [.int (zi 2000000)]) (rv := some (.int (zi r9))) (M' := M8) rfl rfl rfl rfl (Nat.le_of_ble_eq_true rfl) (fun h => nomatch h) (hc) ?_
      refine am_xn 0 (c1 := (282, [.ref 61, .ref 58, .null, .int (zi x3), .ref 63, .ref 64, .int (zi x6), .int (zi x7), .int (zi x8), .int (zi x9), .int (zi (2000000 + r6)), .int (zi x11), .null, .null], [.int (zi r9), .int (zi 2000000)], M8)) rfl ?_
      refine am_xiadd 1 2000000 r9 (pc := 283) (ls := [.ref 61, .ref 58, .null, .int (zi x3), .ref 63, .ref 64, .int (zi x6), .int (zi x7), .int (zi x8), .int (zi x9), .int (zi (2000000 + r6)), .int (zi x11), .null, .null]) (st := []) rfl ?_
      refine am_xn 2 (c1 := (290, [.ref 61, .ref 58, .null, .int (zi x3), .ref 63, .ref 64, .int (zi x6), .int (zi x7), .int (zi x8), .int (zi x9), .int (zi (2000000 + r6)), .int (zi (2000000 + r9)), .null, .null], [], M8)) rfl ?_
      exact hv
set_option maxRecDepth 100000 in
theorem vc_w_carries_337 (x3 : Int) (x6 : Int) (x7 : Int) (x8 : Int) (M : am_M) (Q : Option Value → am_M → Prop) (hv : (zr x8) ∧ ((x8 = 2 → (0 ≤ (5 * x7) ∧ (5 * x7) < 64) ∧ (∀ M2, M2 = zup M 61 (5 * x7) 0 → (0 ≤ ((5 * x7) + 1) ∧ ((5 * x7) + 1) < 64) ∧ ((0 ≤ ((5 * x7) + 1) ∧ ((5 * x7) + 1) < 64) ∧ (∀ M5, M5 = zup M2 61 ((5 * x7) + 1) (iv M2 61 ((5 * x7) + 1)) → (0 ≤ x3 ∧ x3 < 16) ∧ (∀ M7, M7 = zup M5 63 x3 x7 → (0 ≤ x7 ∧ x7 < 16) ∧ (∀ M9, M9 = zup M7 64 x7 x6 → Q (some (.int (zi 0))) M9)))))) ∧ (¬ x8 = 2 → (0 ≤ (5 * x7) ∧ (5 * x7) < 64) ∧ (∀ M11, M11 = zup M 61 (5 * x7) 1 → (x8 = 0 → (0 ≤ x3 ∧ x3 < 16) ∧ ((0 ≤ ((5 * x7) + 1) ∧ ((5 * x7) + 1) < 64) ∧ (∀ M13, M13 = zup M11 61 ((5 * x7) + 1) (oC M11 x3) → (0 ≤ x3 ∧ x3 < 16) ∧ (∀ M15, M15 = zup M13 63 x3 x7 → (0 ≤ x7 ∧ x7 < 16) ∧ (∀ M17, M17 = zup M15 64 x7 x6 → Q (some (.int (zi 0))) M17))))) ∧ (¬ x8 = 0 → (x8 = 3 → (0 ≤ x3 ∧ x3 < 16) ∧ ((0 ≤ ((5 * x7) + 1) ∧ ((5 * x7) + 1) < 64) ∧ (∀ M19, M19 = zup M11 61 ((5 * x7) + 1) (oO M11 x3) → (0 ≤ x3 ∧ x3 < 16) ∧ (∀ M21, M21 = zup M19 63 x3 x7 → (0 ≤ x7 ∧ x7 < 16) ∧ (∀ M23, M23 = zup M21 64 x7 x6 → Q (some (.int (zi 0))) M23))))) ∧ (¬ x8 = 3 → (0 ≤ ((5 * x7) + 1) ∧ ((5 * x7) + 1) < 64) ∧ ((0 ≤ ((5 * x7) + 1) ∧ ((5 * x7) + 1) < 64) ∧ (∀ M26, M26 = zup M11 61 ((5 * x7) + 1) (iv M11 61 ((5 * x7) + 1)) → (0 ≤ x3 ∧ x3 < 16) ∧ (∀ M28, M28 = zup M26 63 x3 x7 → (0 ≤ x7 ∧ x7 < 16) ∧ (∀ M30, M30 = zup M28 64 x7 x6 → Q (some (.int (zi 0))) M30)))))))))) : am_x t_LAW_carries (337, [.ref 61, .ref 58, .null, .int (zi x3), .ref 63, .ref 64, .int (zi x6), .int (zi x7), .int (zi x8), .null, .null, .null, .null, .null], [], M) Q := by
  refine am_ximul 4 5 x7 (pc := 342) (ls := [.ref 61, .ref 58, .null, .int (zi x3), .ref 63, .ref 64, .int (zi x6), .int (zi x7), .int (zi x8), .null, .null, .null, .null, .null]) (st := [.ref 61]) rfl ?_
  obtain ⟨r1, hv⟩ := hv
  refine am_xn 3 (c1 := (if zi x8 = zi 2 then 348 else 352, [.ref 61, .ref 58, .null, .int (zi x3), .ref 63, .ref 64, .int (zi x6), .int (zi x7), .int (zi x8), .null, .null, .null, .null, .null], [.int (zi (5 * x7)), .ref 61], M)) rfl (am_xeq r1 (by decide) (fun h => ?_) (fun h => ?_))
  · replace hv := hv.1 h
    obtain ⟨r3, hv⟩ := hv
    refine am_xn 2 (c1 := (353, [.ref 61, .ref 58, .null, .int (zi x3), .ref 63, .ref 64, .int (zi x6), .int (zi x7), .int (zi x8), .null, .null, .null, .null, .null], [.int (zi 0), .int (zi (5 * x7)), .ref 61], M)) rfl ?_
    refine am_xast rfl rfl rfl r3 ?_
    refine am_xn 0 (c1 := (354, [.ref 61, .ref 58, .null, .int (zi x3), .ref 63, .ref 64, .int (zi x6), .int (zi x7), .int (zi x8), .null, .null, .null, .null, .null], [], zup M 61 (5 * x7) 0)) rfl ?_
    obtain ⟨M2, eM2⟩ : ∃ m, m = zup M 61 (5 * x7) 0 := ⟨_, rfl⟩
    replace hv := hv M2 eM2
    rw [← eM2]
    refine am_ximul 4 5 x7 (pc := 359) (ls := [.ref 61, .ref 58, .null, .int (zi x3), .ref 63, .ref 64, .int (zi x6), .int (zi x7), .int (zi x8), .null, .null, .null, .null, .null]) (st := [.ref 61]) rfl ?_
    refine am_xiadd 2 (5 * x7) 1 (pc := 361) (ls := [.ref 61, .ref 58, .null, .int (zi x3), .ref 63, .ref 64, .int (zi x6), .int (zi x7), .int (zi x8), .null, .null, .null, .null, .null]) (st := [.ref 61]) rfl ?_
    refine am_xn 2 (c1 := (if zi x8 = zi 0 then 366 else 374, [.ref 61, .ref 58, .null, .int (zi x3), .ref 63, .ref 64, .int (zi x6), .int (zi x7), .int (zi x8), .null, .null, .null, .null, .null], [.int (zi ((5 * x7) + 1)), .ref 61], M2)) rfl (am_xeq r1 (by decide) (fun h => by clear hv; exfalso; omega) (fun h => ?_))
    refine am_xn 3 (c1 := (if zi x8 = zi 3 then 380 else 388, [.ref 61, .ref 58, .null, .int (zi x3), .ref 63, .ref 64, .int (zi x6), .int (zi x7), .int (zi x8), .null, .null, .null, .null, .null], [.int (zi ((5 * x7) + 1)), .ref 61], M2)) rfl (am_xeq r1 (by decide) (fun h => by clear hv; exfalso; omega) (fun h => ?_))
    refine am_ximul 4 5 x7 (pc := 393) (ls := [.ref 61, .ref 58, .null, .int (zi x3), .ref 63, .ref 64, .int (zi x6), .int (zi x7), .int (zi x8), .null, .null, .null, .null, .null]) (st := [.ref 61, .int (zi ((5 * x7) + 1)), .ref 61]) rfl ?_
    refine am_xiadd 2 (5 * x7) 1 (pc := 395) (ls := [.ref 61, .ref 58, .null, .int (zi x3), .ref 63, .ref 64, .int (zi x6), .int (zi x7), .int (zi x8), .null, .null, .null, .null, .null]) (st := [.ref 61, .int (zi ((5 * x7) + 1)), .ref 61]) rfl ?_
    obtain ⟨r4, hv⟩ := hv
    refine am_xald rfl rfl rfl r4 ?_
    refine am_xn 0 (c1 := (396, [.ref 61, .ref 58, .null, .int (zi x3), .ref 63, .ref 64, .int (zi x6), .int (zi x7), .int (zi x8), .null, .null, .null, .null, .null], [.int (zi (iv M2 61 ((5 * x7) + 1))), .int (zi ((5 * x7) + 1)), .ref 61], M2)) rfl ?_
    obtain ⟨r6, hv⟩ := hv
    refine am_xast rfl rfl rfl r6 ?_
    refine am_xn 0 (c1 := (397, [.ref 61, .ref 58, .null, .int (zi x3), .ref 63, .ref 64, .int (zi x6), .int (zi x7), .int (zi x8), .null, .null, .null, .null, .null], [], zup M2 61 ((5 * x7) + 1) (iv M2 61 ((5 * x7) + 1)))) rfl ?_
    obtain ⟨M5, eM5⟩ : ∃ m, m = zup M2 61 ((5 * x7) + 1) (iv M2 61 ((5 * x7) + 1)) := ⟨_, rfl⟩
    replace hv := hv M5 eM5
    rw [← eM5]
    obtain ⟨r8, hv⟩ := hv
    refine am_xn 3 (c1 := (402, [.ref 61, .ref 58, .null, .int (zi x3), .ref 63, .ref 64, .int (zi x6), .int (zi x7), .int (zi x8), .null, .null, .null, .null, .null], [.int (zi x7), .int (zi x3), .ref 63], M5)) rfl ?_
    refine am_xast rfl rfl rfl r8 ?_
    refine am_xn 0 (c1 := (403, [.ref 61, .ref 58, .null, .int (zi x3), .ref 63, .ref 64, .int (zi x6), .int (zi x7), .int (zi x8), .null, .null, .null, .null, .null], [], zup M5 63 x3 x7)) rfl ?_
    obtain ⟨M7, eM7⟩ : ∃ m, m = zup M5 63 x3 x7 := ⟨_, rfl⟩
    replace hv := hv M7 eM7
    rw [← eM7]
    obtain ⟨r10, hv⟩ := hv
    refine am_xn 3 (c1 := (409, [.ref 61, .ref 58, .null, .int (zi x3), .ref 63, .ref 64, .int (zi x6), .int (zi x7), .int (zi x8), .null, .null, .null, .null, .null], [.int (zi x6), .int (zi x7), .ref 64], M7)) rfl ?_
    refine am_xast rfl rfl rfl r10 ?_
    refine am_xn 0 (c1 := (410, [.ref 61, .ref 58, .null, .int (zi x3), .ref 63, .ref 64, .int (zi x6), .int (zi x7), .int (zi x8), .null, .null, .null, .null, .null], [], zup M7 64 x7 x6)) rfl ?_
    obtain ⟨M9, eM9⟩ : ∃ m, m = zup M7 64 x7 x6 := ⟨_, rfl⟩
    replace hv := hv M9 eM9
    rw [← eM9]
    refine am_xn 1 (c1 := (411, [.ref 61, .ref 58, .null, .int (zi x3), .ref 63, .ref 64, .int (zi x6), .int (zi x7), .int (zi x8), .null, .null, .null, .null, .null], [.int (zi 0)], M9)) rfl ?_
    exact am_xr (some (.int (zi 0))) ⟨rfl, rfl, .int, rfl, rfl⟩ hv
  · replace hv := hv.2 h
    obtain ⟨r12, hv⟩ := hv
    refine am_xn 1 (c1 := (353, [.ref 61, .ref 58, .null, .int (zi x3), .ref 63, .ref 64, .int (zi x6), .int (zi x7), .int (zi x8), .null, .null, .null, .null, .null], [.int (zi 1), .int (zi (5 * x7)), .ref 61], M)) rfl ?_
    refine am_xast rfl rfl rfl r12 ?_
    refine am_xn 0 (c1 := (354, [.ref 61, .ref 58, .null, .int (zi x3), .ref 63, .ref 64, .int (zi x6), .int (zi x7), .int (zi x8), .null, .null, .null, .null, .null], [], zup M 61 (5 * x7) 1)) rfl ?_
    obtain ⟨M11, eM11⟩ : ∃ m, m = zup M 61 (5 * x7) 1 := ⟨_, rfl⟩
    replace hv := hv M11 eM11
    rw [← eM11]
    refine am_ximul 4 5 x7 (pc := 359) (ls := [.ref 61, .ref 58, .null, .int (zi x3), .ref 63, .ref 64, .int (zi x6), .int (zi x7), .int (zi x8), .null, .null, .null, .null, .null]) (st := [.ref 61]) rfl ?_
    refine am_xiadd 2 (5 * x7) 1 (pc := 361) (ls := [.ref 61, .ref 58, .null, .int (zi x3), .ref 63, .ref 64, .int (zi x6), .int (zi x7), .int (zi x8), .null, .null, .null, .null, .null]) (st := [.ref 61]) rfl ?_
    refine am_xn 2 (c1 := (if zi x8 = zi 0 then 366 else 374, [.ref 61, .ref 58, .null, .int (zi x3), .ref 63, .ref 64, .int (zi x6), .int (zi x7), .int (zi x8), .null, .null, .null, .null, .null], [.int (zi ((5 * x7) + 1)), .ref 61], M11)) rfl (am_xeq r1 (by decide) (fun h => ?_) (fun h => ?_))
    · replace hv := hv.1 h
      refine am_xn 2 (c1 := (368, [.ref 61, .ref 58, .null, .int (zi x3), .ref 63, .ref 64, .int (zi x6), .int (zi x7), .int (zi x8), .null, .null, .null, .null, .null], [.int (zi x3), .ref 58, .int (zi ((5 * x7) + 1)), .ref 61], M11)) rfl ?_
      obtain ⟨g, hv⟩ := hv
      refine am_xc t_LAW_code (.invokestatic 32) 32 (av := [.ref 58, .int (zi x3)]) (rest := [.int (zi ((5 * x7) + 1)), .ref 61]) (rv := some (.int (zi (oC M11 x3)))) (M' := M11) rfl rfl rfl rfl (Nat.le_of_ble_eq_true rfl) (fun h => nomatch h) (sp_w_code M11 x3 g) ?_
      refine am_xn 0 (c1 := (371, [.ref 61, .ref 58, .null, .int (zi x3), .ref 63, .ref 64, .int (zi x6), .int (zi x7), .int (zi x8), .null, .null, .null, .null, .null], [.int (zi (oC M11 x3)), .int (zi ((5 * x7) + 1)), .ref 61], M11)) rfl ?_
      obtain ⟨r14, hv⟩ := hv
      refine am_xn 1 (c1 := (396, [.ref 61, .ref 58, .null, .int (zi x3), .ref 63, .ref 64, .int (zi x6), .int (zi x7), .int (zi x8), .null, .null, .null, .null, .null], [.int (zi (oC M11 x3)), .int (zi ((5 * x7) + 1)), .ref 61], M11)) rfl ?_
      refine am_xast rfl rfl rfl r14 ?_
      refine am_xn 0 (c1 := (397, [.ref 61, .ref 58, .null, .int (zi x3), .ref 63, .ref 64, .int (zi x6), .int (zi x7), .int (zi x8), .null, .null, .null, .null, .null], [], zup M11 61 ((5 * x7) + 1) (oC M11 x3))) rfl ?_
      obtain ⟨M13, eM13⟩ : ∃ m, m = zup M11 61 ((5 * x7) + 1) (oC M11 x3) := ⟨_, rfl⟩
      replace hv := hv M13 eM13
      rw [← eM13]
      obtain ⟨r16, hv⟩ := hv
      refine am_xn 3 (c1 := (402, [.ref 61, .ref 58, .null, .int (zi x3), .ref 63, .ref 64, .int (zi x6), .int (zi x7), .int (zi x8), .null, .null, .null, .null, .null], [.int (zi x7), .int (zi x3), .ref 63], M13)) rfl ?_
      refine am_xast rfl rfl rfl r16 ?_
      refine am_xn 0 (c1 := (403, [.ref 61, .ref 58, .null, .int (zi x3), .ref 63, .ref 64, .int (zi x6), .int (zi x7), .int (zi x8), .null, .null, .null, .null, .null], [], zup M13 63 x3 x7)) rfl ?_
      obtain ⟨M15, eM15⟩ : ∃ m, m = zup M13 63 x3 x7 := ⟨_, rfl⟩
      replace hv := hv M15 eM15
      rw [← eM15]
      obtain ⟨r18, hv⟩ := hv
      refine am_xn 3 (c1 := (409, [.ref 61, .ref 58, .null, .int (zi x3), .ref 63, .ref 64, .int (zi x6), .int (zi x7), .int (zi x8), .null, .null, .null, .null, .null], [.int (zi x6), .int (zi x7), .ref 64], M15)) rfl ?_
      refine am_xast rfl rfl rfl r18 ?_
      refine am_xn 0 (c1 := (410, [.ref 61, .ref 58, .null, .int (zi x3), .ref 63, .ref 64, .int (zi x6), .int (zi x7), .int (zi x8), .null, .null, .null, .null, .null], [], zup M15 64 x7 x6)) rfl ?_
      obtain ⟨M17, eM17⟩ : ∃ m, m = zup M15 64 x7 x6 := ⟨_, rfl⟩
      replace hv := hv M17 eM17
      rw [← eM17]
      refine am_xn 1 (c1 := (411, [.ref 61, .ref 58, .null, .int (zi x3), .ref 63, .ref 64, .int (zi x6), .int (zi x7), .int (zi x8), .null, .null, .null, .null, .null], [.int (zi 0)], M17)) rfl ?_
      exact am_xr (some (.int (zi 0))) ⟨rfl, rfl, .int, rfl, rfl⟩ hv
    · replace hv := hv.2 h
      refine am_xn 3 (c1 := (if zi x8 = zi 3 then 380 else 388, [.ref 61, .ref 58, .null, .int (zi x3), .ref 63, .ref 64, .int (zi x6), .int (zi x7), .int (zi x8), .null, .null, .null, .null, .null], [.int (zi ((5 * x7) + 1)), .ref 61], M11)) rfl (am_xeq r1 (by decide) (fun h => ?_) (fun h => ?_))
      · replace hv := hv.1 h
        refine am_xn 2 (c1 := (382, [.ref 61, .ref 58, .null, .int (zi x3), .ref 63, .ref 64, .int (zi x6), .int (zi x7), .int (zi x8), .null, .null, .null, .null, .null], [.int (zi x3), .ref 58, .int (zi ((5 * x7) + 1)), .ref 61], M11)) rfl ?_
        obtain ⟨g, hv⟩ := hv
        refine am_xc t_LAW_one (.invokestatic 39) 39 (av := [.ref 58, .int (zi x3)]) (rest := [.int (zi ((5 * x7) + 1)), .ref 61]) (rv := some (.int (zi (oO M11 x3)))) (M' := M11) rfl rfl rfl rfl (Nat.le_of_ble_eq_true rfl) (fun h => nomatch h) (sp_w_one M11 x3 g) ?_
        refine am_xn 0 (c1 := (385, [.ref 61, .ref 58, .null, .int (zi x3), .ref 63, .ref 64, .int (zi x6), .int (zi x7), .int (zi x8), .null, .null, .null, .null, .null], [.int (zi (oO M11 x3)), .int (zi ((5 * x7) + 1)), .ref 61], M11)) rfl ?_
        obtain ⟨r20, hv⟩ := hv
        refine am_xn 1 (c1 := (396, [.ref 61, .ref 58, .null, .int (zi x3), .ref 63, .ref 64, .int (zi x6), .int (zi x7), .int (zi x8), .null, .null, .null, .null, .null], [.int (zi (oO M11 x3)), .int (zi ((5 * x7) + 1)), .ref 61], M11)) rfl ?_
        refine am_xast rfl rfl rfl r20 ?_
        refine am_xn 0 (c1 := (397, [.ref 61, .ref 58, .null, .int (zi x3), .ref 63, .ref 64, .int (zi x6), .int (zi x7), .int (zi x8), .null, .null, .null, .null, .null], [], zup M11 61 ((5 * x7) + 1) (oO M11 x3))) rfl ?_
        obtain ⟨M19, eM19⟩ : ∃ m, m = zup M11 61 ((5 * x7) + 1) (oO M11 x3) := ⟨_, rfl⟩
        replace hv := hv M19 eM19
        rw [← eM19]
        obtain ⟨r22, hv⟩ := hv
        refine am_xn 3 (c1 := (402, [.ref 61, .ref 58, .null, .int (zi x3), .ref 63, .ref 64, .int (zi x6), .int (zi x7), .int (zi x8), .null, .null, .null, .null, .null], [.int (zi x7), .int (zi x3), .ref 63], M19)) rfl ?_
        refine am_xast rfl rfl rfl r22 ?_
        refine am_xn 0 (c1 := (403, [.ref 61, .ref 58, .null, .int (zi x3), .ref 63, .ref 64, .int (zi x6), .int (zi x7), .int (zi x8), .null, .null, .null, .null, .null], [], zup M19 63 x3 x7)) rfl ?_
        obtain ⟨M21, eM21⟩ : ∃ m, m = zup M19 63 x3 x7 := ⟨_, rfl⟩
        replace hv := hv M21 eM21
        rw [← eM21]
        obtain ⟨r24, hv⟩ := hv
        refine am_xn 3 (c1 := (409, [.ref 61, .ref 58, .null, .int (zi x3), .ref 63, .ref 64, .int (zi x6), .int (zi x7), .int (zi x8), .null, .null, .null, .null, .null], [.int (zi x6), .int (zi x7), .ref 64], M21)) rfl ?_
        refine am_xast rfl rfl rfl r24 ?_
        refine am_xn 0 (c1 := (410, [.ref 61, .ref 58, .null, .int (zi x3), .ref 63, .ref 64, .int (zi x6), .int (zi x7), .int (zi x8), .null, .null, .null, .null, .null], [], zup M21 64 x7 x6)) rfl ?_
        obtain ⟨M23, eM23⟩ : ∃ m, m = zup M21 64 x7 x6 := ⟨_, rfl⟩
        replace hv := hv M23 eM23
        rw [← eM23]
        refine am_xn 1 (c1 := (411, [.ref 61, .ref 58, .null, .int (zi x3), .ref 63, .ref 64, .int (zi x6), .int (zi x7), .int (zi x8), .null, .null, .null, .null, .null], [.int (zi 0)], M23)) rfl ?_
        exact am_xr (some (.int (zi 0))) ⟨rfl, rfl, .int, rfl, rfl⟩ hv
      · replace hv := hv.2 h
        refine am_ximul 4 5 x7 (pc := 393) (ls := [.ref 61, .ref 58, .null, .int (zi x3), .ref 63, .ref 64, .int (zi x6), .int (zi x7), .int (zi x8), .null, .null, .null, .null, .null]) (st := [.ref 61, .int (zi ((5 * x7) + 1)), .ref 61]) rfl ?_
        refine am_xiadd 2 (5 * x7) 1 (pc := 395) (ls := [.ref 61, .ref 58, .null, .int (zi x3), .ref 63, .ref 64, .int (zi x6), .int (zi x7), .int (zi x8), .null, .null, .null, .null, .null]) (st := [.ref 61, .int (zi ((5 * x7) + 1)), .ref 61]) rfl ?_
        obtain ⟨r25, hv⟩ := hv
        refine am_xald rfl rfl rfl r25 ?_
        refine am_xn 0 (c1 := (396, [.ref 61, .ref 58, .null, .int (zi x3), .ref 63, .ref 64, .int (zi x6), .int (zi x7), .int (zi x8), .null, .null, .null, .null, .null], [.int (zi (iv M11 61 ((5 * x7) + 1))), .int (zi ((5 * x7) + 1)), .ref 61], M11)) rfl ?_
        obtain ⟨r27, hv⟩ := hv
        refine am_xast rfl rfl rfl r27 ?_
        refine am_xn 0 (c1 := (397, [.ref 61, .ref 58, .null, .int (zi x3), .ref 63, .ref 64, .int (zi x6), .int (zi x7), .int (zi x8), .null, .null, .null, .null, .null], [], zup M11 61 ((5 * x7) + 1) (iv M11 61 ((5 * x7) + 1)))) rfl ?_
        obtain ⟨M26, eM26⟩ : ∃ m, m = zup M11 61 ((5 * x7) + 1) (iv M11 61 ((5 * x7) + 1)) := ⟨_, rfl⟩
        replace hv := hv M26 eM26
        rw [← eM26]
        obtain ⟨r29, hv⟩ := hv
        refine am_xn 3 (c1 := (402, [.ref 61, .ref 58, .null, .int (zi x3), .ref 63, .ref 64, .int (zi x6), .int (zi x7), .int (zi x8), .null, .null, .null, .null, .null], [.int (zi x7), .int (zi x3), .ref 63], M26)) rfl ?_
        refine am_xast rfl rfl rfl r29 ?_
        refine am_xn 0 (c1 := (403, [.ref 61, .ref 58, .null, .int (zi x3), .ref 63, .ref 64, .int (zi x6), .int (zi x7), .int (zi x8), .null, .null, .null, .null, .null], [], zup M26 63 x3 x7)) rfl ?_
        obtain ⟨M28, eM28⟩ : ∃ m, m = zup M26 63 x3 x7 := ⟨_, rfl⟩
        replace hv := hv M28 eM28
        rw [← eM28]
        obtain ⟨r31, hv⟩ := hv
        refine am_xn 3 (c1 := (409, [.ref 61, .ref 58, .null, .int (zi x3), .ref 63, .ref 64, .int (zi x6), .int (zi x7), .int (zi x8), .null, .null, .null, .null, .null], [.int (zi x6), .int (zi x7), .ref 64], M28)) rfl ?_
        refine am_xast rfl rfl rfl r31 ?_
        refine am_xn 0 (c1 := (410, [.ref 61, .ref 58, .null, .int (zi x3), .ref 63, .ref 64, .int (zi x6), .int (zi x7), .int (zi x8), .null, .null, .null, .null, .null], [], zup M28 64 x7 x6)) rfl ?_
        obtain ⟨M30, eM30⟩ : ∃ m, m = zup M28 64 x7 x6 := ⟨_, rfl⟩
        replace hv := hv M30 eM30
        rw [← eM30]
        refine am_xn 1 (c1 := (411, [.ref 61, .ref 58, .null, .int (zi x3), .ref 63, .ref 64, .int (zi x6), .int (zi x7), .int (zi x8), .null, .null, .null, .null, .null], [.int (zi 0)], M30)) rfl ?_
        exact am_xr (some (.int (zi 0))) ⟨rfl, rfl, .int, rfl, rfl⟩ hv
set_option maxRecDepth 100000 in
theorem vc_w_carries_290 (x3 : Int) (x6 : Int) (x7 : Int) (x8 : Int) (x9 : Int) (x10 : Int) (x11 : Int) (M : am_M) (Q : Option Value → am_M → Prop) (hv : (zr x8) ∧ ((x8 = 0 → ∃ (r3 : Int) (M2 : am_M), am_call t_LAW_identity [.ref 58, .int (zi x3)] M (some (.int (zi r3))) M2 ∧ ((0 ≤ ((5 * r3) + 2) ∧ ((5 * r3) + 2) < 64) ∧ (∀ M4, M4 = zup M2 61 ((5 * r3) + 2) x9 → (0 ≤ ((5 * r3) + 3) ∧ ((5 * r3) + 3) < 64) ∧ (∀ M6, M6 = zup M4 61 ((5 * r3) + 3) x10 → (0 ≤ ((5 * r3) + 4) ∧ ((5 * r3) + 4) < 64) ∧ (∀ M8, M8 = zup M6 61 ((5 * r3) + 4) x11 → am_x t_LAW_carries (337, [.ref 61, .ref 58, .null, .int (zi x3), .ref 63, .ref 64, .int (zi x6), .int (zi r3), .int (zi x8), .null, .null, .null, .null, .null], [], M8) Q))))) ∧ (¬ x8 = 0 → (0 ≤ ((5 * x7) + 2) ∧ ((5 * x7) + 2) < 64) ∧ (∀ M10, M10 = zup M 61 ((5 * x7) + 2) x9 → (0 ≤ ((5 * x7) + 3) ∧ ((5 * x7) + 3) < 64) ∧ (∀ M12, M12 = zup M10 61 ((5 * x7) + 3) x10 → (0 ≤ ((5 * x7) + 4) ∧ ((5 * x7) + 4) < 64) ∧ (∀ M14, M14 = zup M12 61 ((5 * x7) + 4) x11 → am_x t_LAW_carries (337, [.ref 61, .ref 58, .null, .int (zi x3), .ref 63, .ref 64, .int (zi x6), .int (zi x7), .int (zi x8), .null, .null, .null, .null, .null], [], M14) Q)))))) : am_x t_LAW_carries (290, [.ref 61, .ref 58, .null, .int (zi x3), .ref 63, .ref 64, .int (zi x6), .int (zi x7), .int (zi x8), .int (zi x9), .int (zi x10), .int (zi x11), .null, .null], [], M) Q := by
  obtain ⟨r1, hv⟩ := hv
  refine am_xn 2 (c1 := (if zi x8 = zi 0 then 295 else 303, [.ref 61, .ref 58, .null, .int (zi x3), .ref 63, .ref 64, .int (zi x6), .int (zi x7), .int (zi x8), .int (zi x9), .int (zi x10), .int (zi x11), .null, .null], [], M)) rfl (am_xeq r1 (by decide) (fun h => ?_) (fun h => ?_))
  · replace hv := hv.1 h
    refine am_xn 2 (c1 := (297, [.ref 61, .ref 58, .null, .int (zi x3), .ref 63, .ref 64, .int (zi x6), .int (zi x7), .int (zi x8), .int (zi x9), .int (zi x10), .int (zi x11), .null, .null], [.int (zi x3), .ref 58], M)) rfl ?_
    obtain ⟨r3, M2, hc, hv⟩ := hv
    refine am_xc t_LAW_identity (.invokestatic 46) 46 (av := [.ref 58, .int (zi x3)]) (rest := []) (rv := some (.int (zi r3))) (M' := M2) rfl rfl rfl rfl (Nat.le_of_ble_eq_true rfl) (fun h => nomatch h) (hc) ?_
    refine am_xn 0 (c1 := (300, [.ref 61, .ref 58, .null, .int (zi x3), .ref 63, .ref 64, .int (zi x6), .int (zi x7), .int (zi x8), .int (zi x9), .int (zi x10), .int (zi x11), .null, .null], [.int (zi r3)], M2)) rfl ?_
    refine am_ximul 6 5 r3 (pc := 312) (ls := [.ref 61, .ref 58, .null, .int (zi x3), .ref 63, .ref 64, .int (zi x6), .int (zi r3), .int (zi x8), .int (zi x9), .int (zi x10), .int (zi x11), .null, .null]) (st := [.ref 61]) rfl ?_
    refine am_xiadd 2 (5 * r3) 2 (pc := 314) (ls := [.ref 61, .ref 58, .null, .int (zi x3), .ref 63, .ref 64, .int (zi x6), .int (zi r3), .int (zi x8), .int (zi x9), .int (zi x10), .int (zi x11), .null, .null]) (st := [.ref 61]) rfl ?_
    obtain ⟨r5, hv⟩ := hv
    refine am_xn 1 (c1 := (316, [.ref 61, .ref 58, .null, .int (zi x3), .ref 63, .ref 64, .int (zi x6), .int (zi r3), .int (zi x8), .int (zi x9), .int (zi x10), .int (zi x11), .null, .null], [.int (zi x9), .int (zi ((5 * r3) + 2)), .ref 61], M2)) rfl ?_
    refine am_xast rfl rfl rfl r5 ?_
    refine am_xn 0 (c1 := (317, [.ref 61, .ref 58, .null, .int (zi x3), .ref 63, .ref 64, .int (zi x6), .int (zi r3), .int (zi x8), .int (zi x9), .int (zi x10), .int (zi x11), .null, .null], [], zup M2 61 ((5 * r3) + 2) x9)) rfl ?_
    obtain ⟨M4, eM4⟩ : ∃ m, m = zup M2 61 ((5 * r3) + 2) x9 := ⟨_, rfl⟩
    replace hv := hv M4 eM4
    rw [← eM4]
    refine am_ximul 4 5 r3 (pc := 322) (ls := [.ref 61, .ref 58, .null, .int (zi x3), .ref 63, .ref 64, .int (zi x6), .int (zi r3), .int (zi x8), .int (zi x9), .int (zi x10), .int (zi x11), .null, .null]) (st := [.ref 61]) rfl ?_
    refine am_xiadd 2 (5 * r3) 3 (pc := 324) (ls := [.ref 61, .ref 58, .null, .int (zi x3), .ref 63, .ref 64, .int (zi x6), .int (zi r3), .int (zi x8), .int (zi x9), .int (zi x10), .int (zi x11), .null, .null]) (st := [.ref 61]) rfl ?_
    obtain ⟨r7, hv⟩ := hv
    refine am_xn 1 (c1 := (326, [.ref 61, .ref 58, .null, .int (zi x3), .ref 63, .ref 64, .int (zi x6), .int (zi r3), .int (zi x8), .int (zi x9), .int (zi x10), .int (zi x11), .null, .null], [.int (zi x10), .int (zi ((5 * r3) + 3)), .ref 61], M4)) rfl ?_
    refine am_xast rfl rfl rfl r7 ?_
    refine am_xn 0 (c1 := (327, [.ref 61, .ref 58, .null, .int (zi x3), .ref 63, .ref 64, .int (zi x6), .int (zi r3), .int (zi x8), .int (zi x9), .int (zi x10), .int (zi x11), .null, .null], [], zup M4 61 ((5 * r3) + 3) x10)) rfl ?_
    obtain ⟨M6, eM6⟩ : ∃ m, m = zup M4 61 ((5 * r3) + 3) x10 := ⟨_, rfl⟩
    replace hv := hv M6 eM6
    rw [← eM6]
    refine am_ximul 4 5 r3 (pc := 332) (ls := [.ref 61, .ref 58, .null, .int (zi x3), .ref 63, .ref 64, .int (zi x6), .int (zi r3), .int (zi x8), .int (zi x9), .int (zi x10), .int (zi x11), .null, .null]) (st := [.ref 61]) rfl ?_
    refine am_xiadd 2 (5 * r3) 4 (pc := 334) (ls := [.ref 61, .ref 58, .null, .int (zi x3), .ref 63, .ref 64, .int (zi x6), .int (zi r3), .int (zi x8), .int (zi x9), .int (zi x10), .int (zi x11), .null, .null]) (st := [.ref 61]) rfl ?_
    obtain ⟨r9, hv⟩ := hv
    refine am_xn 1 (c1 := (336, [.ref 61, .ref 58, .null, .int (zi x3), .ref 63, .ref 64, .int (zi x6), .int (zi r3), .int (zi x8), .int (zi x9), .int (zi x10), .int (zi x11), .null, .null], [.int (zi x11), .int (zi ((5 * r3) + 4)), .ref 61], M6)) rfl ?_
    refine am_xast rfl rfl rfl r9 ?_
    refine am_xn 0 (c1 := (337, [.ref 61, .ref 58, .null, .int (zi x3), .ref 63, .ref 64, .int (zi x6), .int (zi r3), .int (zi x8), .int (zi x9), .int (zi x10), .int (zi x11), .null, .null], [], zup M6 61 ((5 * r3) + 4) x11)) rfl ?_
    obtain ⟨M8, eM8⟩ : ∃ m, m = zup M6 61 ((5 * r3) + 4) x11 := ⟨_, rfl⟩
    replace hv := hv M8 eM8
    rw [← eM8]
    refine am_xf 9 ?_
    refine am_xf 10 ?_
    refine am_xf 11 ?_
    exact hv
  · replace hv := hv.2 h
    refine am_ximul 6 5 x7 (pc := 312) (ls := [.ref 61, .ref 58, .null, .int (zi x3), .ref 63, .ref 64, .int (zi x6), .int (zi x7), .int (zi x8), .int (zi x9), .int (zi x10), .int (zi x11), .null, .null]) (st := [.ref 61]) rfl ?_
    refine am_xiadd 2 (5 * x7) 2 (pc := 314) (ls := [.ref 61, .ref 58, .null, .int (zi x3), .ref 63, .ref 64, .int (zi x6), .int (zi x7), .int (zi x8), .int (zi x9), .int (zi x10), .int (zi x11), .null, .null]) (st := [.ref 61]) rfl ?_
    obtain ⟨r11, hv⟩ := hv
    refine am_xn 1 (c1 := (316, [.ref 61, .ref 58, .null, .int (zi x3), .ref 63, .ref 64, .int (zi x6), .int (zi x7), .int (zi x8), .int (zi x9), .int (zi x10), .int (zi x11), .null, .null], [.int (zi x9), .int (zi ((5 * x7) + 2)), .ref 61], M)) rfl ?_
    refine am_xast rfl rfl rfl r11 ?_
    refine am_xn 0 (c1 := (317, [.ref 61, .ref 58, .null, .int (zi x3), .ref 63, .ref 64, .int (zi x6), .int (zi x7), .int (zi x8), .int (zi x9), .int (zi x10), .int (zi x11), .null, .null], [], zup M 61 ((5 * x7) + 2) x9)) rfl ?_
    obtain ⟨M10, eM10⟩ : ∃ m, m = zup M 61 ((5 * x7) + 2) x9 := ⟨_, rfl⟩
    replace hv := hv M10 eM10
    rw [← eM10]
    refine am_ximul 4 5 x7 (pc := 322) (ls := [.ref 61, .ref 58, .null, .int (zi x3), .ref 63, .ref 64, .int (zi x6), .int (zi x7), .int (zi x8), .int (zi x9), .int (zi x10), .int (zi x11), .null, .null]) (st := [.ref 61]) rfl ?_
    refine am_xiadd 2 (5 * x7) 3 (pc := 324) (ls := [.ref 61, .ref 58, .null, .int (zi x3), .ref 63, .ref 64, .int (zi x6), .int (zi x7), .int (zi x8), .int (zi x9), .int (zi x10), .int (zi x11), .null, .null]) (st := [.ref 61]) rfl ?_
    obtain ⟨r13, hv⟩ := hv
    refine am_xn 1 (c1 := (326, [.ref 61, .ref 58, .null, .int (zi x3), .ref 63, .ref 64, .int (zi x6), .int (zi x7), .int (zi x8), .int (zi x9), .int (zi x10), .int (zi x11), .null, .null], [.int (zi x10), .int (zi ((5 * x7) + 3)), .ref 61], M10)) rfl ?_
    refine am_xast rfl rfl rfl r13 ?_
    refine am_xn 0 (c1 := (327, [.ref 61, .ref 58, .null, .int (zi x3), .ref 63, .ref 64, .int (zi x6), .int (zi x7), .int (zi x8), .int (zi x9), .int (zi x10), .int (zi x11), .null, .null], [], zup M10 61 ((5 * x7) + 3) x10)) rfl ?_
    obtain ⟨M12, eM12⟩ : ∃ m, m = zup M10 61 ((5 * x7) + 3) x10 := ⟨_, rfl⟩
    replace hv := hv M12 eM12
    rw [← eM12]
    refine am_ximul 4 5 x7 (pc := 332) (ls := [.ref 61, .ref 58, .null, .int (zi x3), .ref 63, .ref 64, .int (zi x6), .int (zi x7), .int (zi x8), .int (zi x9), .int (zi x10), .int (zi x11), .null, .null]) (st := [.ref 61]) rfl ?_
    refine am_xiadd 2 (5 * x7) 4 (pc := 334) (ls := [.ref 61, .ref 58, .null, .int (zi x3), .ref 63, .ref 64, .int (zi x6), .int (zi x7), .int (zi x8), .int (zi x9), .int (zi x10), .int (zi x11), .null, .null]) (st := [.ref 61]) rfl ?_
    obtain ⟨r15, hv⟩ := hv
    refine am_xn 1 (c1 := (336, [.ref 61, .ref 58, .null, .int (zi x3), .ref 63, .ref 64, .int (zi x6), .int (zi x7), .int (zi x8), .int (zi x9), .int (zi x10), .int (zi x11), .null, .null], [.int (zi x11), .int (zi ((5 * x7) + 4)), .ref 61], M12)) rfl ?_
    refine am_xast rfl rfl rfl r15 ?_
    refine am_xn 0 (c1 := (337, [.ref 61, .ref 58, .null, .int (zi x3), .ref 63, .ref 64, .int (zi x6), .int (zi x7), .int (zi x8), .int (zi x9), .int (zi x10), .int (zi x11), .null, .null], [], zup M12 61 ((5 * x7) + 4) x11)) rfl ?_
    obtain ⟨M14, eM14⟩ : ∃ m, m = zup M12 61 ((5 * x7) + 4) x11 := ⟨_, rfl⟩
    replace hv := hv M14 eM14
    rw [← eM14]
    refine am_xf 9 ?_
    refine am_xf 10 ?_
    refine am_xf 11 ?_
    exact hv
theorem en_inj {x y : Int} (h0 : x < 1000) (h : en y = x) : y = x := by
  unfold en at h
  split at h <;> omega
theorem en_pl {x : Int} (h : x < 1000) : en x = x := if_pos h
theorem LR_cells {L : Lw} {M M' : am_M} (lr : LR L M) (h : ∀ j, 0 ≤ j → j < 64 → iv M' 61 j = iv M 61 j) (h2 : M' 64 = M 64) : LR L M' := by
  obtain ⟨l1, l2, l3⟩ := lr
  refine ⟨fun c c0 c1 => by rw [h _ (by omega) (by omega), l1 c c0 c1], fun c c0 c1 n => ?_, l3⟩
  obtain ⟨f1, f2, f3, f4, f5⟩ := l2 c c0 c1 n
  exact ⟨by rw [h _ (by omega) (by omega), f1], by rw [h _ (by omega) (by omega), f2], f3, by rw [iv_row h2, f4], fun k k0 k1 => ⟨by rw [h _ (by omega) (by omega), (f5 k k0 k1).1], (f5 k k0 k1).2⟩⟩
abbrev Q62 (b : Int → Int) (L : Lw) (o day : Int) (M0 : am_M) : Option Value → am_M → Prop := fun rv m => (∃ r : Int, rv = some (.int (zi r))) ∧ LR (ops b L o day) m ∧ ∀ a, ¬ a = 61 → ¬ a = 63 → ¬ a = 64 → m a = M0 a
/-- without an effect -/
theorem cr_no {b : Int → Int} {L : Lw} {o day r : Int} {M0 M : am_M} (lr : LR L M) (h : ∀ a, ¬ a = 61 → ¬ a = 63 → ¬ a = 64 → M a = M0 a) (hr : rsn b L o = r) (n : ¬ r = 0) : Q62 b L o day M0 (some (.int (zi r))) M := by
  refine ⟨⟨r, rfl⟩, ?_, h⟩
  unfold ops
  rw [if_neg (by rw [hr]; exact n)]
  exact lr
/-- all is laid but the number and whether it is in force -/
def P62 (b : Int → Int) (L : Lw) (o day c : Int) (M0 M : am_M) : Prop :=
  (∀ a, ¬ a = 61 → M a = M0 a) ∧ (∀ j, 0 ≤ j → j < 64 → ¬ (5 * c ≤ j ∧ j < 5 * c + 5) → iv M 61 j = iv M0 61 j) ∧ (¬ pt b o 0 = 0 → iv M 61 (5 * c + 1) = L.code c) ∧
  (¬ pt b o 0 = 2 → iv M 61 (5 * c + 2) = (eff b L o day c).len c ∧ (eff b L o day c).len c ≤ 2 ∧ ∀ k, 0 ≤ k → k < (eff b L o day c).len c → iv M 61 (5 * c + 3 + k) = en ((eff b L o day c).tx c k) ∧ (eff b L o day c).tx c k < 1012)
theorem cr_fin {b : Int → Int} {L : Lw} {o day c x y : Int} {M0 M : am_M} (w : WB b) (v : VL L) (lr : LR L M0) (o0 : 0 ≤ o) (o1 : o < nops b) (o2 : o < 16) (dz : zr day) (c0 : 0 ≤ c) (c1 : c < 12) (ce : c = if pt b o 0 = 0 then ia b o else hold L (pt b o 1)) (hr : rsn b L o = 0) (p : P62 b L o day c M0 M)
    (hx : x = if pt b o 0 = 2 then 0 else 1) (hy : y = if pt b o 0 = 0 then pt b o 1 else if pt b o 0 = 3 then pt b o 2 else L.code c) : Q62 b L o day M0 (some (.int (zi 0))) (zup (zup (zup (zup M 61 (5 * c) x) 61 (5 * c + 1) y) 63 o c) 64 c day) := by
  obtain ⟨p1, p2, p3, p4⟩ := p
  have wo := w.op o o0 o1
  have wc := wo.cd
  have ws := wo.fs
  have w3 := wo.f3
  have vr := v.rg c c0 (by omega)
  have xz : zr x := by rw [hx]; split <;> decide
  have yz : zr y := by
    rw [hy]
    have : zr (pt b o 1) := ⟨by omega, by omega⟩
    have : zr (pt b o 2) := ⟨by omega, by omega⟩
    have : zr (L.code c) := ⟨by omega, by omega⟩
    repeat' split
    all_goals assumption
  refine ⟨⟨0, rfl⟩, ?_, fun a a1 a3 a4 => by
    funext j
    rw [zup_ne _ _ a4, zup_ne _ _ a3, zup_ne _ _ a1, zup_ne _ _ a1, p1 a a1]⟩
  unfold ops
  rw [if_pos hr, ← ce]
  have r61 : ∀ j, 0 ≤ j → iv (zup (zup (zup (zup M 61 (5 * c) x) 61 (5 * c + 1) y) 63 o c) 64 c day) 61 j = if j = 5 * c + 1 then y else if j = 5 * c then x else iv M 61 j := fun j j0 => by
    rw [iv_zup_ne _ _ (by decide), iv_zup_ne _ _ (by decide), ivs _ _ (by omega) j0 yz, ivs _ _ (by omega) j0 xz]
  have r64 : ∀ j, 0 ≤ j → iv (zup (zup (zup (zup M 61 (5 * c) x) 61 (5 * c + 1) y) 63 o c) 64 c day) 64 j = if j = c then day else iv M0 64 j := fun j j0 => by
    rw [ivs _ _ c0 j0 dz, iv_zup_ne _ _ (by decide), iv_zup_ne _ _ (by decide), iv_zup_ne _ _ (by decide), iv_row (p1 64 (by decide))]
  generalize zup (zup (zup (zup M 61 (5 * c) x) 61 (5 * c + 1) y) 63 o c) 64 c day = N at r61 r64 ⊢
  have hn0 : ¬ pt b o 0 = 0 → ¬ L.code c = 0 := fun q => by
    rw [if_neg q] at ce
    have := (hold_cd (L := L) (x := pt b o 1) ((rsn_0 hr).1 q)).2.2
    rw [← ce] at this
    omega
  have h0 : (if pt b o 0 = 0 then pt b o 1 else if pt b o 0 = 2 then 0 else if pt b o 0 = 3 then pt b o 2 else L.code c) = 0 ↔ pt b o 0 = 2 := by
    by_cases k0 : pt b o 0 = 0
    · rw [if_pos k0]; omega
    · have := hn0 k0
      rw [if_neg k0]
      by_cases k2 : pt b o 0 = 2
      · rw [if_pos k2]; omega
      · rw [if_neg k2]
        by_cases k3 : pt b o 0 = 3
        · rw [if_pos k3]; omega
        · rw [if_neg k3]; omega
  obtain ⟨l1, l2, l3⟩ := lr
  refine ⟨fun d d0 d1 => ?_, fun d d0 d1 nd => ?_, fun d d0 d1 => ?_⟩
  · rw [r61 _ (by omega), if_neg (by omega), eff_code]
    by_cases e : d = c
    · rw [if_pos (c := 5 * d = 5 * c) (by omega), if_pos e, hx]
      by_cases k2 : pt b o 0 = 2
      · rw [if_pos (h0.mpr k2), if_pos k2]
      · rw [if_neg (fun q => k2 (h0.mp q)), if_neg k2]
    · rw [if_neg (c := 5 * d = 5 * c) (by omega), if_neg e, p2 _ (by omega) (by omega) (by omega), l1 d d0 d1]
  · by_cases e : d = c
    · subst e
      have k2 : ¬ pt b o 0 = 2 := fun q => nd (by rw [eff_code, if_pos rfl]; exact h0.mpr q)
      obtain ⟨g1, g2, g3⟩ := p4 k2
      refine ⟨?_, ?_, g2, ?_, fun k k0 k1 => ?_⟩
      · rw [r61 _ (by omega), if_pos rfl, eff_code, if_pos rfl, hy]
        by_cases k0 : pt b o 0 = 0
        · rw [if_pos k0, if_pos k0]
        · rw [if_neg k0, if_neg k0, if_neg k2]
      · rw [r61 _ (by omega), if_neg (by omega), if_neg (by omega)]; exact g1
      · rw [r64 d d0, if_pos rfl, eff_lst, if_pos rfl]
      · rw [r61 _ (by omega), if_neg (by omega), if_neg (by omega)]
        exact g3 k k0 k1
    · have nd' : ¬ L.code d = 0 := fun q => nd (by rw [eff_code, if_neg e]; exact q)
      obtain ⟨f1, f2, f3, f4, f5⟩ := l2 d d0 d1 nd'
      have el : (eff b L o day c).len d = L.len d := by rw [eff_len, if_neg (fun q => e q.1)]
      rw [el]
      refine ⟨?_, ?_, f3, ?_, fun k k0 k1 => ?_⟩
      · rw [r61 _ (by omega), if_neg (by omega), if_neg (by omega), p2 _ (by omega) (by omega) (by omega), eff_code, if_neg e]; exact f1
      · rw [r61 _ (by omega), if_neg (by omega), if_neg (by omega), p2 _ (by omega) (by omega) (by omega)]; exact f2
      · rw [r64 d d0, if_neg e, eff_lst, if_neg e]; exact f4
      · rw [r61 _ (by omega), if_neg (by omega), if_neg (by omega), p2 _ (by omega) (by omega) (by omega), eff_tx, if_neg e]
        exact f5 k k0 k1
  · rw [eff_code, if_neg (by omega)]
    exact l3 d d0 d1
section CR
variable {b : Int → Int} {L : Lw} {o day : Int} {M0 : am_M}
theorem cr_337 {c : Int} {M : am_M} (w : WB b) (ob : OB M0 b) (v : VL L) (lr : LR L M0) (o0 : 0 ≤ o) (o1 : o < nops b) (o2 : o < 16) (dz : zr day) (c0 : 0 ≤ c) (c1 : c < 12) (ce : c = if pt b o 0 = 0 then ia b o else hold L (pt b o 1)) (hr : rsn b L o = 0) (p : P62 b L o day c M0 M) :
    am_x t_LAW_carries (337, [.ref 61, .ref 58, .null, .int (zi o), .ref 63, .ref 64, .int (zi day), .int (zi c), .int (zi (pt b o 0)), .null, .null, .null, .null, .null], [], M) (Q62 b L o day M0) := by
  have fin := fun x y => cr_fin (x := x) (y := y) w v lr o0 o1 o2 dz c0 c1 ce hr p
  have wo := w.op o o0 o1
  have wk := wo.kd
  obtain ⟨⟨b0, b1⟩, b2, b3, b4, b5, b6, b7, b8⟩ := ob o o0 o1
  obtain ⟨p1, p2, p3, p4⟩ := p
  have e58 : ∀ x, oC (zup M 61 (5 * c) x) o = pt b o 1 ∧ (2 < pt b o 0 → oO (zup M 61 (5 * c) x) o = pt b o 2) := fun x => by
    have h := oX_row (M := M0) (M' := zup M 61 (5 * c) x) (by rw [zupr M (by decide), p1 58 (by decide)]) o
    exact ⟨by rw [h.2.1, b1], fun q => by rw [h.2.2.1, b2 q]⟩
  have same : ∀ x, zr x → iv (zup M 61 (5 * c) x) 61 (5 * c + 1) = iv M 61 (5 * c + 1) := fun x xz => by rw [ivs _ _ (by omega) (by omega) xz, if_neg (by omega)]
  refine vc_w_carries_337 o day c (pt b o 0) M _ ⟨⟨by omega, by omega⟩, fun k2 => ⟨⟨by omega, by omega⟩, fun M2 e2 => ⟨⟨by omega, by omega⟩, ⟨by omega, by omega⟩, fun M5 e5 => ⟨⟨o0, o2⟩, fun M7 e7 => ⟨⟨c0, by omega⟩, fun M9 e9 => ?_⟩⟩⟩⟩, fun k2 => ⟨⟨by omega, by omega⟩, fun M11 e11 => ⟨fun k0 => ⟨⟨o0, o2⟩, ⟨by omega, by omega⟩, fun M13 e13 => ⟨⟨o0, o2⟩, fun M15 e15 => ⟨⟨c0, by omega⟩, fun M17 e17 => ?_⟩⟩⟩, fun k0 => ⟨fun k3 => ⟨⟨o0, o2⟩, ⟨by omega, by omega⟩, fun M19 e19 => ⟨⟨o0, o2⟩, fun M21 e21 => ⟨⟨c0, by omega⟩, fun M23 e23 => ?_⟩⟩⟩, fun k3 => ⟨⟨by omega, by omega⟩, ⟨by omega, by omega⟩, fun M26 e26 => ⟨⟨o0, o2⟩, fun M28 e28 => ⟨⟨c0, by omega⟩, fun M30 e30 => ?_⟩⟩⟩⟩⟩⟩⟩
  · rw [e9, e7, e5, e2, same 0 (by decide), p3 (by omega)]
    exact fin _ _ (by rw [if_pos k2]) (by rw [if_neg (by omega), if_neg (by omega)])
  · rw [e17, e15, e13, e11, (e58 1).1]
    exact fin _ _ (by rw [if_neg k2]) (by rw [if_pos k0])
  · rw [e23, e21, e19, e11, (e58 1).2 (by omega)]
    exact fin _ _ (by rw [if_neg k2]) (by rw [if_neg k0, if_pos k3])
  · rw [e30, e28, e26, e11, same 1 (by decide), p3 k0]
    exact fin _ _ (by rw [if_neg k2]) (by rw [if_neg k0, if_neg k3])
end CR
