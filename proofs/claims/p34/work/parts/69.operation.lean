/-! an operation, typed and kept -/
set_option maxRecDepth 100000 in
theorem vc_w_op (x : Int) (y : Int) (M : am_M) (Q : Option Value → am_M → Prop) (hv : ∃ (r2 : Int) (M1 : am_M), am_call t_LAW_low [.int (zi x), .int (zi 7)] M (some (.int (zi r2))) M1 ∧ ((zr r2) ∧ ((4 < r2 → ∃ (r5 : Int) (M4 : am_M), am_call t_LAW_identity [.ref 58, .int (zi (iv M 60 25))] M1 (some (.int (zi r5))) M4 ∧ ((zr r5) ∧ ((r5 = 12 → am_x t_LAW_typesOperation (53, [.ref 0, .ref 58, .ref 59, .ref 60, .int (zi x), .int (zi y), .int (zi (iv M 60 25)), .int (zi 2), .null, .null, .null, .null, .null, .null], [], M4) Q) ∧ (¬ r5 = 12 → am_x t_LAW_typesOperation (53, [.ref 0, .ref 58, .ref 59, .ref 60, .int (zi x), .int (zi y), .int (zi (iv M 60 25)), .int (zi 0), .null, .null, .null, .null, .null, .null], [], M4) Q)))) ∧ (r2 ≤ 4 → (r2 = 0 → ∃ (r8 : Int) (M7 : am_M), am_call t_LAW_identity [.ref 58, .int (zi (iv M 60 25))] M1 (some (.int (zi r8))) M7 ∧ ((zr r8) ∧ ((r8 = 12 → am_x t_LAW_typesOperation (53, [.ref 0, .ref 58, .ref 59, .ref 60, .int (zi x), .int (zi y), .int (zi (iv M 60 25)), .int (zi 2), .null, .null, .null, .null, .null, .null], [], M7) Q) ∧ (¬ r8 = 12 → am_x t_LAW_typesOperation (53, [.ref 0, .ref 58, .ref 59, .ref 60, .int (zi x), .int (zi y), .int (zi (iv M 60 25)), .int (zi r2), .null, .null, .null, .null, .null, .null], [], M7) Q)))) ∧ (¬ r2 = 0 → am_x t_LAW_typesOperation (53, [.ref 0, .ref 58, .ref 59, .ref 60, .int (zi x), .int (zi y), .int (zi (iv M 60 25)), .int (zi r2), .null, .null, .null, .null, .null, .null], [], M1) Q))))) : am_x t_LAW_typesOperation (0, am_ent (am_mL t_LAW_typesOperation) [.ref 0, .ref 58, .ref 59, .ref 60, .int (zi x), .int (zi y)], [], M) Q := by
  refine am_xn 0 (c1 := (0, [.ref 0, .ref 58, .ref 59, .ref 60, .int (zi x), .int (zi y), .null, .null, .null, .null, .null, .null, .null, .null], [], M)) rfl ?_
  refine am_xrd 3 60 25 (pc := 4) (ls := [.ref 0, .ref 58, .ref 59, .ref 60, .int (zi x), .int (zi y), .null, .null, .null, .null, .null, .null, .null, .null]) (st := []) rfl ?_
  refine am_xn 3 (c1 := (10, [.ref 0, .ref 58, .ref 59, .ref 60, .int (zi x), .int (zi y), .int (zi (iv M 60 25)), .null, .null, .null, .null, .null, .null, .null], [.int (zi 7), .int (zi x)], M)) rfl ?_
  obtain ⟨r2, M1, hc, hv⟩ := hv
  refine am_xc t_LAW_low (.invokestatic 57) 57 (av := [.int (zi x), .int (zi 7)]) (rest := []) (rv := some (.int (zi r2))) (M' := M1) rfl rfl rfl rfl (Nat.le_of_ble_eq_true rfl) (fun h => nomatch h) (hc) ?_
  refine am_xn 0 (c1 := (13, [.ref 0, .ref 58, .ref 59, .ref 60, .int (zi x), .int (zi y), .int (zi (iv M 60 25)), .null, .null, .null, .null, .null, .null, .null], [.int (zi r2)], M1)) rfl ?_
  obtain ⟨r3, hv⟩ := hv
  refine am_xn 4 (c1 := (if zi 4 < zi r2 then 21 else 25, [.ref 0, .ref 58, .ref 59, .ref 60, .int (zi x), .int (zi y), .int (zi (iv M 60 25)), .int (zi r2), .null, .null, .null, .null, .null, .null], [], M1)) rfl (am_xlt (by decide) r3 (fun h => ?_) (fun h => ?_))
  · replace hv := hv.1 h
    refine am_xn 7 (c1 := (37, [.ref 0, .ref 58, .ref 59, .ref 60, .int (zi x), .int (zi y), .int (zi (iv M 60 25)), .int (zi 0), .null, .null, .null, .null, .null, .null], [.int (zi (iv M 60 25)), .ref 58], M1)) rfl ?_
    obtain ⟨r5, M4, hc, hv⟩ := hv
    refine am_xc t_LAW_identity (.invokestatic 46) 46 (av := [.ref 58, .int (zi (iv M 60 25))]) (rest := []) (rv := some (.int (zi r5))) (M' := M4) rfl rfl rfl rfl (Nat.le_of_ble_eq_true rfl) (fun h => nomatch h) (hc) ?_
    refine am_xn 0 (c1 := (40, [.ref 0, .ref 58, .ref 59, .ref 60, .int (zi x), .int (zi y), .int (zi (iv M 60 25)), .int (zi 0), .null, .null, .null, .null, .null, .null], [.int (zi r5)], M4)) rfl ?_
    obtain ⟨r6, hv⟩ := hv
    refine am_xn 2 (c1 := (if zi r5 = zi 12 then 45 else 49, [.ref 0, .ref 58, .ref 59, .ref 60, .int (zi x), .int (zi y), .int (zi (iv M 60 25)), .int (zi 0), .null, .null, .null, .null, .null, .null], [], M4)) rfl (am_xeq r6 (by decide) (fun h => ?_) (fun h => ?_))
    · replace hv := hv.1 h
      refine am_xn 3 (c1 := (53, [.ref 0, .ref 58, .ref 59, .ref 60, .int (zi x), .int (zi y), .int (zi (iv M 60 25)), .int (zi 2), .null, .null, .null, .null, .null, .null], [], M4)) rfl ?_
      exact hv
    · replace hv := hv.2 h
      refine am_xn 2 (c1 := (53, [.ref 0, .ref 58, .ref 59, .ref 60, .int (zi x), .int (zi y), .int (zi (iv M 60 25)), .int (zi 0), .null, .null, .null, .null, .null, .null], [], M4)) rfl ?_
      exact hv
  · replace hv := hv.2 h
    refine am_xn 4 (c1 := (if zi r2 = zi 0 then 34 else 49, [.ref 0, .ref 58, .ref 59, .ref 60, .int (zi x), .int (zi y), .int (zi (iv M 60 25)), .int (zi r2), .null, .null, .null, .null, .null, .null], [], M1)) rfl (am_xeq r3 (by decide) (fun h => ?_) (fun h => ?_))
    · replace hv := hv.1 h
      refine am_xn 2 (c1 := (37, [.ref 0, .ref 58, .ref 59, .ref 60, .int (zi x), .int (zi y), .int (zi (iv M 60 25)), .int (zi r2), .null, .null, .null, .null, .null, .null], [.int (zi (iv M 60 25)), .ref 58], M1)) rfl ?_
      obtain ⟨r8, M7, hc, hv⟩ := hv
      refine am_xc t_LAW_identity (.invokestatic 46) 46 (av := [.ref 58, .int (zi (iv M 60 25))]) (rest := []) (rv := some (.int (zi r8))) (M' := M7) rfl rfl rfl rfl (Nat.le_of_ble_eq_true rfl) (fun h => nomatch h) (hc) ?_
      refine am_xn 0 (c1 := (40, [.ref 0, .ref 58, .ref 59, .ref 60, .int (zi x), .int (zi y), .int (zi (iv M 60 25)), .int (zi r2), .null, .null, .null, .null, .null, .null], [.int (zi r8)], M7)) rfl ?_
      obtain ⟨r9, hv⟩ := hv
      refine am_xn 2 (c1 := (if zi r8 = zi 12 then 45 else 49, [.ref 0, .ref 58, .ref 59, .ref 60, .int (zi x), .int (zi y), .int (zi (iv M 60 25)), .int (zi r2), .null, .null, .null, .null, .null, .null], [], M7)) rfl (am_xeq r9 (by decide) (fun h => ?_) (fun h => ?_))
      · replace hv := hv.1 h
        refine am_xn 3 (c1 := (53, [.ref 0, .ref 58, .ref 59, .ref 60, .int (zi x), .int (zi y), .int (zi (iv M 60 25)), .int (zi 2), .null, .null, .null, .null, .null, .null], [], M7)) rfl ?_
        exact hv
      · replace hv := hv.2 h
        refine am_xn 2 (c1 := (53, [.ref 0, .ref 58, .ref 59, .ref 60, .int (zi x), .int (zi y), .int (zi (iv M 60 25)), .int (zi r2), .null, .null, .null, .null, .null, .null], [], M7)) rfl ?_
        exact hv
    · replace hv := hv.2 h
      refine am_xn 2 (c1 := (53, [.ref 0, .ref 58, .ref 59, .ref 60, .int (zi x), .int (zi y), .int (zi (iv M 60 25)), .int (zi r2), .null, .null, .null, .null, .null, .null], [], M1)) rfl ?_
      exact hv
set_option maxRecDepth 100000 in
theorem vc_w_op_53 (x4 : Int) (x5 : Int) (x6 : Int) (x7 : Int) (M : am_M) (Q : Option Value → am_M → Prop) (hv : ∃ (r2 : Int) (M1 : am_M), am_call t_LAW_number [.int (zi (zshr x4 3))] M (some (.int (zi r2))) M1 ∧ ((zr x7) ∧ ((x7 = 0 → am_x t_LAW_typesOperation (92, [.ref 0, .ref 58, .ref 59, .ref 60, .int (zi x4), .int (zi x5), .int (zi x6), .int (zi x7), .int (zi r2), .int (zi 0), .null, .null, .null, .null], [], M1) Q) ∧ (¬ x7 = 0 → (x7 = 3 → am_x t_LAW_typesOperation (92, [.ref 0, .ref 58, .ref 59, .ref 60, .int (zi x4), .int (zi x5), .int (zi x6), .int (zi x7), .int (zi r2), .int (zi 0), .null, .null, .null, .null], [], M1) Q) ∧ (¬ x7 = 3 → ∃ (r5 : Int) (M4 : am_M), am_call t_LAW_low [.int (zi (zshr x4 11)), .int (zi 4)] M1 (some (.int (zi r5))) M4 ∧ ((zr r5) ∧ ((r5 = 0 → am_x t_LAW_typesOperation (92, [.ref 0, .ref 58, .ref 59, .ref 60, .int (zi x4), .int (zi x5), .int (zi x6), .int (zi x7), .int (zi r2), .int (zi 1), .null, .null, .null, .null], [], M4) Q) ∧ (¬ r5 = 0 → am_x t_LAW_typesOperation (92, [.ref 0, .ref 58, .ref 59, .ref 60, .int (zi x4), .int (zi x5), .int (zi x6), .int (zi x7), .int (zi r2), .int (zi 0), .null, .null, .null, .null], [], M4) Q)))))))) : am_x t_LAW_typesOperation (53, [.ref 0, .ref 58, .ref 59, .ref 60, .int (zi x4), .int (zi x5), .int (zi x6), .int (zi x7), .null, .null, .null, .null, .null, .null], [], M) Q := by
  refine am_xbit 3 (zi x4 >>> (zi 3 &&& 31)) (pc := 57) (ls := [.ref 0, .ref 58, .ref 59, .ref 60, .int (zi x4), .int (zi x5), .int (zi x6), .int (zi x7), .null, .null, .null, .null, .null, .null]) (st := []) rfl ?_
  refine am_xn 0 (c1 := (57, [.ref 0, .ref 58, .ref 59, .ref 60, .int (zi x4), .int (zi x5), .int (zi x6), .int (zi x7), .null, .null, .null, .null, .null, .null], [.int (zi (zshr x4 3))], M)) rfl ?_
  obtain ⟨r2, M1, hc, hv⟩ := hv
  refine am_xc t_LAW_number (.invokestatic 61) 61 (av := [.int (zi (zshr x4 3))]) (rest := []) (rv := some (.int (zi r2))) (M' := M1) rfl rfl rfl rfl (Nat.le_of_ble_eq_true rfl) (fun h => nomatch h) (hc) ?_
  refine am_xn 0 (c1 := (60, [.ref 0, .ref 58, .ref 59, .ref 60, .int (zi x4), .int (zi x5), .int (zi x6), .int (zi x7), .null, .null, .null, .null, .null, .null], [.int (zi r2)], M1)) rfl ?_
  obtain ⟨r3, hv⟩ := hv
  refine am_xn 3 (c1 := (if zi x7 = zi 0 then 89 else 67, [.ref 0, .ref 58, .ref 59, .ref 60, .int (zi x4), .int (zi x5), .int (zi x6), .int (zi x7), .int (zi r2), .null, .null, .null, .null, .null], [], M1)) rfl (am_xeq r3 (by decide) (fun h => ?_) (fun h => ?_))
  · replace hv := hv.1 h
    refine am_xn 2 (c1 := (92, [.ref 0, .ref 58, .ref 59, .ref 60, .int (zi x4), .int (zi x5), .int (zi x6), .int (zi x7), .int (zi r2), .int (zi 0), .null, .null, .null, .null], [], M1)) rfl ?_
    exact hv
  · replace hv := hv.2 h
    refine am_xn 3 (c1 := (if zi x7 = zi 3 then 89 else 73, [.ref 0, .ref 58, .ref 59, .ref 60, .int (zi x4), .int (zi x5), .int (zi x6), .int (zi x7), .int (zi r2), .null, .null, .null, .null, .null], [], M1)) rfl (am_xeq r3 (by decide) (fun h => ?_) (fun h => ?_))
    · replace hv := hv.1 h
      refine am_xn 2 (c1 := (92, [.ref 0, .ref 58, .ref 59, .ref 60, .int (zi x4), .int (zi x5), .int (zi x6), .int (zi x7), .int (zi r2), .int (zi 0), .null, .null, .null, .null], [], M1)) rfl ?_
      exact hv
    · replace hv := hv.2 h
      refine am_xbit 3 (zi x4 >>> (zi 11 &&& 31)) (pc := 78) (ls := [.ref 0, .ref 58, .ref 59, .ref 60, .int (zi x4), .int (zi x5), .int (zi x6), .int (zi x7), .int (zi r2), .null, .null, .null, .null, .null]) (st := []) rfl ?_
      refine am_xn 0 (c1 := (78, [.ref 0, .ref 58, .ref 59, .ref 60, .int (zi x4), .int (zi x5), .int (zi x6), .int (zi x7), .int (zi r2), .null, .null, .null, .null, .null], [.int (zi (zshr x4 11))], M1)) rfl ?_
      refine am_xn 1 (c1 := (79, [.ref 0, .ref 58, .ref 59, .ref 60, .int (zi x4), .int (zi x5), .int (zi x6), .int (zi x7), .int (zi r2), .null, .null, .null, .null, .null], [.int (zi 4), .int (zi (zshr x4 11))], M1)) rfl ?_
      obtain ⟨r5, M4, hc, hv⟩ := hv
      refine am_xc t_LAW_low (.invokestatic 57) 57 (av := [.int (zi (zshr x4 11)), .int (zi 4)]) (rest := []) (rv := some (.int (zi r5))) (M' := M4) rfl rfl rfl rfl (Nat.le_of_ble_eq_true rfl) (fun h => nomatch h) (hc) ?_
      refine am_xn 0 (c1 := (82, [.ref 0, .ref 58, .ref 59, .ref 60, .int (zi x4), .int (zi x5), .int (zi x6), .int (zi x7), .int (zi r2), .null, .null, .null, .null, .null], [.int (zi r5)], M4)) rfl ?_
      obtain ⟨r6, hv⟩ := hv
      refine am_xn 1 (c1 := (if zi r5 = zi 0 then 85 else 89, [.ref 0, .ref 58, .ref 59, .ref 60, .int (zi x4), .int (zi x5), .int (zi x6), .int (zi x7), .int (zi r2), .null, .null, .null, .null, .null], [], M4)) rfl (am_xeq r6 (by decide) (fun h => ?_) (fun h => ?_))
      · replace hv := hv.1 h
        refine am_xn 3 (c1 := (92, [.ref 0, .ref 58, .ref 59, .ref 60, .int (zi x4), .int (zi x5), .int (zi x6), .int (zi x7), .int (zi r2), .int (zi 1), .null, .null, .null, .null], [], M4)) rfl ?_
        exact hv
      · replace hv := hv.2 h
        refine am_xn 2 (c1 := (92, [.ref 0, .ref 58, .ref 59, .ref 60, .int (zi x4), .int (zi x5), .int (zi x6), .int (zi x7), .int (zi r2), .int (zi 0), .null, .null, .null, .null], [], M4)) rfl ?_
        exact hv
set_option maxRecDepth 100000 in
theorem vc_w_op_92 (x4 : Int) (x5 : Int) (x6 : Int) (x7 : Int) (x8 : Int) (x9 : Int) (M : am_M) (Q : Option Value → am_M → Prop) (hv : (zr x7) ∧ ((x7 < 2 → ∃ (r3 : Int) (M2 : am_M), am_call t_LAW_low [.int (zi (zshr x4 13)), .int (zi 3)] M (some (.int (zi r3))) M2 ∧ (am_x t_LAW_typesOperation (113, [.ref 0, .ref 58, .ref 59, .ref 60, .null, .int (zi x5), .int (zi x6), .int (zi x7), .int (zi x8), .int (zi x9), .int (zi r3), .null, .null, .null], [], M2) Q)) ∧ (2 ≤ x7 → am_x t_LAW_typesOperation (113, [.ref 0, .ref 58, .ref 59, .ref 60, .null, .int (zi x5), .int (zi x6), .int (zi x7), .int (zi x8), .int (zi x9), .int (zi 0), .null, .null, .null], [], M) Q))) : am_x t_LAW_typesOperation (92, [.ref 0, .ref 58, .ref 59, .ref 60, .int (zi x4), .int (zi x5), .int (zi x6), .int (zi x7), .int (zi x8), .int (zi x9), .null, .null, .null, .null], [], M) Q := by
  obtain ⟨r1, hv⟩ := hv
  refine am_xn 3 (c1 := (if zi x7 < zi 2 then 98 else 110, [.ref 0, .ref 58, .ref 59, .ref 60, .int (zi x4), .int (zi x5), .int (zi x6), .int (zi x7), .int (zi x8), .int (zi x9), .null, .null, .null, .null], [], M)) rfl (am_xlt r1 (by decide) (fun h => ?_) (fun h => ?_))
  · replace hv := hv.1 h
    refine am_xbit 3 (zi x4 >>> (zi 13 &&& 31)) (pc := 103) (ls := [.ref 0, .ref 58, .ref 59, .ref 60, .int (zi x4), .int (zi x5), .int (zi x6), .int (zi x7), .int (zi x8), .int (zi x9), .null, .null, .null, .null]) (st := []) rfl ?_
    refine am_xn 0 (c1 := (103, [.ref 0, .ref 58, .ref 59, .ref 60, .int (zi x4), .int (zi x5), .int (zi x6), .int (zi x7), .int (zi x8), .int (zi x9), .null, .null, .null, .null], [.int (zi (zshr x4 13))], M)) rfl ?_
    refine am_xn 1 (c1 := (104, [.ref 0, .ref 58, .ref 59, .ref 60, .int (zi x4), .int (zi x5), .int (zi x6), .int (zi x7), .int (zi x8), .int (zi x9), .null, .null, .null, .null], [.int (zi 3), .int (zi (zshr x4 13))], M)) rfl ?_
    obtain ⟨r3, M2, hc, hv⟩ := hv
    refine am_xc t_LAW_low (.invokestatic 57) 57 (av := [.int (zi (zshr x4 13)), .int (zi 3)]) (rest := []) (rv := some (.int (zi r3))) (M' := M2) rfl rfl rfl rfl (Nat.le_of_ble_eq_true rfl) (fun h => nomatch h) (hc) ?_
    refine am_xn 0 (c1 := (107, [.ref 0, .ref 58, .ref 59, .ref 60, .int (zi x4), .int (zi x5), .int (zi x6), .int (zi x7), .int (zi x8), .int (zi x9), .null, .null, .null, .null], [.int (zi r3)], M2)) rfl ?_
    refine am_xn 2 (c1 := (113, [.ref 0, .ref 58, .ref 59, .ref 60, .int (zi x4), .int (zi x5), .int (zi x6), .int (zi x7), .int (zi x8), .int (zi x9), .int (zi r3), .null, .null, .null], [], M2)) rfl ?_
    refine am_xf 4 ?_
    exact hv
  · replace hv := hv.2 h
    refine am_xn 2 (c1 := (113, [.ref 0, .ref 58, .ref 59, .ref 60, .int (zi x4), .int (zi x5), .int (zi x6), .int (zi x7), .int (zi x8), .int (zi x9), .int (zi 0), .null, .null, .null], [], M)) rfl ?_
    refine am_xf 4 ?_
    exact hv
set_option maxRecDepth 100000 in
theorem vc_w_op_113 (x5 : Int) (x6 : Int) (x7 : Int) (x8 : Int) (x9 : Int) (x10 : Int) (M : am_M) (Q : Option Value → am_M → Prop) (hv : (zr x7) ∧ ((x7 < 2 → ∃ (r3 : Int) (M2 : am_M), am_call t_LAW_aWord [.int (zi x5)] M (some (.int (zi r3))) M2 ∧ (am_x t_LAW_typesOperation (149, [.ref 0, .ref 58, .ref 59, .ref 60, .null, .int (zi x5), .int (zi x6), .int (zi x7), .int (zi x8), .int (zi x9), .int (zi x10), .int (zi r3), .null, .null], [], M2) Q)) ∧ (2 ≤ x7 → (x7 = 3 → ∃ (r5 : Int) (M4 : am_M), am_call t_LAW_number [.int (zi x5)] M (some (.int (zi r5))) M4 ∧ (am_x t_LAW_typesOperation (149, [.ref 0, .ref 58, .ref 59, .ref 60, .null, .int (zi x5), .int (zi x6), .int (zi x7), .int (zi x8), .int (zi x9), .int (zi x10), .int (zi r5), .null, .null], [], M4) Q)) ∧ (¬ x7 = 3 → ∃ (r7 : Int) (M6 : am_M), am_call t_LAW_low [.int (zi x5), .int (zi 4)] M (some (.int (zi r7))) M6 ∧ (am_x t_LAW_typesOperation (149, [.ref 0, .ref 58, .ref 59, .ref 60, .null, .int (zi x5), .int (zi x6), .int (zi x7), .int (zi x8), .int (zi x9), .int (zi x10), .int (zi r7), .null, .null], [], M6) Q))))) : am_x t_LAW_typesOperation (113, [.ref 0, .ref 58, .ref 59, .ref 60, .null, .int (zi x5), .int (zi x6), .int (zi x7), .int (zi x8), .int (zi x9), .int (zi x10), .null, .null, .null], [], M) Q := by
  obtain ⟨r1, hv⟩ := hv
  refine am_xn 3 (c1 := (if zi x7 < zi 2 then 119 else 127, [.ref 0, .ref 58, .ref 59, .ref 60, .null, .int (zi x5), .int (zi x6), .int (zi x7), .int (zi x8), .int (zi x9), .int (zi x10), .null, .null, .null], [], M)) rfl (am_xlt r1 (by decide) (fun h => ?_) (fun h => ?_))
  · replace hv := hv.1 h
    refine am_xn 1 (c1 := (121, [.ref 0, .ref 58, .ref 59, .ref 60, .null, .int (zi x5), .int (zi x6), .int (zi x7), .int (zi x8), .int (zi x9), .int (zi x10), .null, .null, .null], [.int (zi x5)], M)) rfl ?_
    obtain ⟨r3, M2, hc, hv⟩ := hv
    refine am_xc t_LAW_aWord (.invokestatic 64) 64 (av := [.int (zi x5)]) (rest := []) (rv := some (.int (zi r3))) (M' := M2) rfl rfl rfl rfl (Nat.le_of_ble_eq_true rfl) (fun h => nomatch h) (hc) ?_
    refine am_xn 0 (c1 := (124, [.ref 0, .ref 58, .ref 59, .ref 60, .null, .int (zi x5), .int (zi x6), .int (zi x7), .int (zi x8), .int (zi x9), .int (zi x10), .null, .null, .null], [.int (zi r3)], M2)) rfl ?_
    refine am_xn 2 (c1 := (149, [.ref 0, .ref 58, .ref 59, .ref 60, .null, .int (zi x5), .int (zi x6), .int (zi x7), .int (zi x8), .int (zi x9), .int (zi x10), .int (zi r3), .null, .null], [], M2)) rfl ?_
    exact hv
  · replace hv := hv.2 h
    refine am_xn 3 (c1 := (if zi x7 = zi 3 then 133 else 141, [.ref 0, .ref 58, .ref 59, .ref 60, .null, .int (zi x5), .int (zi x6), .int (zi x7), .int (zi x8), .int (zi x9), .int (zi x10), .null, .null, .null], [], M)) rfl (am_xeq r1 (by decide) (fun h => ?_) (fun h => ?_))
    · replace hv := hv.1 h
      refine am_xn 1 (c1 := (135, [.ref 0, .ref 58, .ref 59, .ref 60, .null, .int (zi x5), .int (zi x6), .int (zi x7), .int (zi x8), .int (zi x9), .int (zi x10), .null, .null, .null], [.int (zi x5)], M)) rfl ?_
      obtain ⟨r5, M4, hc, hv⟩ := hv
      refine am_xc t_LAW_number (.invokestatic 61) 61 (av := [.int (zi x5)]) (rest := []) (rv := some (.int (zi r5))) (M' := M4) rfl rfl rfl rfl (Nat.le_of_ble_eq_true rfl) (fun h => nomatch h) (hc) ?_
      refine am_xn 0 (c1 := (138, [.ref 0, .ref 58, .ref 59, .ref 60, .null, .int (zi x5), .int (zi x6), .int (zi x7), .int (zi x8), .int (zi x9), .int (zi x10), .null, .null, .null], [.int (zi r5)], M4)) rfl ?_
      refine am_xn 2 (c1 := (149, [.ref 0, .ref 58, .ref 59, .ref 60, .null, .int (zi x5), .int (zi x6), .int (zi x7), .int (zi x8), .int (zi x9), .int (zi x10), .int (zi r5), .null, .null], [], M4)) rfl ?_
      exact hv
    · replace hv := hv.2 h
      refine am_xn 2 (c1 := (144, [.ref 0, .ref 58, .ref 59, .ref 60, .null, .int (zi x5), .int (zi x6), .int (zi x7), .int (zi x8), .int (zi x9), .int (zi x10), .null, .null, .null], [.int (zi 4), .int (zi x5)], M)) rfl ?_
      obtain ⟨r7, M6, hc, hv⟩ := hv
      refine am_xc t_LAW_low (.invokestatic 57) 57 (av := [.int (zi x5), .int (zi 4)]) (rest := []) (rv := some (.int (zi r7))) (M' := M6) rfl rfl rfl rfl (Nat.le_of_ble_eq_true rfl) (fun h => nomatch h) (hc) ?_
      refine am_xn 0 (c1 := (147, [.ref 0, .ref 58, .ref 59, .ref 60, .null, .int (zi x5), .int (zi x6), .int (zi x7), .int (zi x8), .int (zi x9), .int (zi x10), .null, .null, .null], [.int (zi r7)], M6)) rfl ?_
      refine am_xn 1 (c1 := (149, [.ref 0, .ref 58, .ref 59, .ref 60, .null, .int (zi x5), .int (zi x6), .int (zi x7), .int (zi x8), .int (zi x9), .int (zi x10), .int (zi r7), .null, .null], [], M6)) rfl ?_
      exact hv
set_option maxRecDepth 100000 in
theorem vc_w_op_149 (x5 : Int) (x6 : Int) (x7 : Int) (x8 : Int) (x9 : Int) (x10 : Int) (x11 : Int) (M : am_M) (Q : Option Value → am_M → Prop) (hv : (zr x7) ∧ ((x7 < 2 → ∃ (r3 : Int) (M2 : am_M), am_call t_LAW_aWord [.int (zi (zshr x5 12))] M (some (.int (zi r3))) M2 ∧ (am_x t_LAW_typesOperation (177, [.ref 0, .ref 58, .ref 59, .ref 60, .null, .null, .int (zi x6), .int (zi x7), .int (zi x8), .int (zi x9), .int (zi x10), .int (zi x11), .int (zi r3), .null], [], M2) Q)) ∧ (2 ≤ x7 → ∃ (r5 : Int) (M4 : am_M), am_call t_LAW_low [.int (zi (zshr x5 12)), .int (zi 4)] M (some (.int (zi r5))) M4 ∧ (am_x t_LAW_typesOperation (177, [.ref 0, .ref 58, .ref 59, .ref 60, .null, .null, .int (zi x6), .int (zi x7), .int (zi x8), .int (zi x9), .int (zi x10), .int (zi x11), .int (zi r5), .null], [], M4) Q)))) : am_x t_LAW_typesOperation (149, [.ref 0, .ref 58, .ref 59, .ref 60, .null, .int (zi x5), .int (zi x6), .int (zi x7), .int (zi x8), .int (zi x9), .int (zi x10), .int (zi x11), .null, .null], [], M) Q := by
  obtain ⟨r1, hv⟩ := hv
  refine am_xn 3 (c1 := (if zi x7 < zi 2 then 155 else 166, [.ref 0, .ref 58, .ref 59, .ref 60, .null, .int (zi x5), .int (zi x6), .int (zi x7), .int (zi x8), .int (zi x9), .int (zi x10), .int (zi x11), .null, .null], [], M)) rfl (am_xlt r1 (by decide) (fun h => ?_) (fun h => ?_))
  · replace hv := hv.1 h
    refine am_xbit 3 (zi x5 >>> (zi 12 &&& 31)) (pc := 160) (ls := [.ref 0, .ref 58, .ref 59, .ref 60, .null, .int (zi x5), .int (zi x6), .int (zi x7), .int (zi x8), .int (zi x9), .int (zi x10), .int (zi x11), .null, .null]) (st := []) rfl ?_
    refine am_xn 0 (c1 := (160, [.ref 0, .ref 58, .ref 59, .ref 60, .null, .int (zi x5), .int (zi x6), .int (zi x7), .int (zi x8), .int (zi x9), .int (zi x10), .int (zi x11), .null, .null], [.int (zi (zshr x5 12))], M)) rfl ?_
    obtain ⟨r3, M2, hc, hv⟩ := hv
    refine am_xc t_LAW_aWord (.invokestatic 64) 64 (av := [.int (zi (zshr x5 12))]) (rest := []) (rv := some (.int (zi r3))) (M' := M2) rfl rfl rfl rfl (Nat.le_of_ble_eq_true rfl) (fun h => nomatch h) (hc) ?_
    refine am_xn 0 (c1 := (163, [.ref 0, .ref 58, .ref 59, .ref 60, .null, .int (zi x5), .int (zi x6), .int (zi x7), .int (zi x8), .int (zi x9), .int (zi x10), .int (zi x11), .null, .null], [.int (zi r3)], M2)) rfl ?_
    refine am_xn 2 (c1 := (177, [.ref 0, .ref 58, .ref 59, .ref 60, .null, .int (zi x5), .int (zi x6), .int (zi x7), .int (zi x8), .int (zi x9), .int (zi x10), .int (zi x11), .int (zi r3), .null], [], M2)) rfl ?_
    refine am_xf 5 ?_
    exact hv
  · replace hv := hv.2 h
    refine am_xbit 3 (zi x5 >>> (zi 12 &&& 31)) (pc := 171) (ls := [.ref 0, .ref 58, .ref 59, .ref 60, .null, .int (zi x5), .int (zi x6), .int (zi x7), .int (zi x8), .int (zi x9), .int (zi x10), .int (zi x11), .null, .null]) (st := []) rfl ?_
    refine am_xn 0 (c1 := (171, [.ref 0, .ref 58, .ref 59, .ref 60, .null, .int (zi x5), .int (zi x6), .int (zi x7), .int (zi x8), .int (zi x9), .int (zi x10), .int (zi x11), .null, .null], [.int (zi (zshr x5 12))], M)) rfl ?_
    refine am_xn 1 (c1 := (172, [.ref 0, .ref 58, .ref 59, .ref 60, .null, .int (zi x5), .int (zi x6), .int (zi x7), .int (zi x8), .int (zi x9), .int (zi x10), .int (zi x11), .null, .null], [.int (zi 4), .int (zi (zshr x5 12))], M)) rfl ?_
    obtain ⟨r5, M4, hc, hv⟩ := hv
    refine am_xc t_LAW_low (.invokestatic 57) 57 (av := [.int (zi (zshr x5 12)), .int (zi 4)]) (rest := []) (rv := some (.int (zi r5))) (M' := M4) rfl rfl rfl rfl (Nat.le_of_ble_eq_true rfl) (fun h => nomatch h) (hc) ?_
    refine am_xn 0 (c1 := (175, [.ref 0, .ref 58, .ref 59, .ref 60, .null, .int (zi x5), .int (zi x6), .int (zi x7), .int (zi x8), .int (zi x9), .int (zi x10), .int (zi x11), .null, .null], [.int (zi r5)], M4)) rfl ?_
    refine am_xn 1 (c1 := (177, [.ref 0, .ref 58, .ref 59, .ref 60, .null, .int (zi x5), .int (zi x6), .int (zi x7), .int (zi x8), .int (zi x9), .int (zi x10), .int (zi x11), .int (zi r5), .null], [], M4)) rfl ?_
    refine am_xf 5 ?_
    exact hv
set_option maxRecDepth 100000 in
theorem vc_w_op_177 (x6 : Int) (x7 : Int) (x8 : Int) (x9 : Int) (x10 : Int) (x11 : Int) (x12 : Int) (M : am_M) (Q : Option Value → am_M → Prop) (hv : (zr x7) ∧ ((x7 = 0 → ∃ (r3 : Int) (M2 : am_M), am_call t_LAW_types [.ref 0, .long (zl 115923103347316)] M (some (.int (zi r3))) M2 ∧ (am_x t_LAW_typesOperation (267, [.ref 0, .ref 58, .ref 59, .ref 60, .null, .null, .int (zi x6), .int (zi x7), .int (zi x8), .int (zi x9), .int (zi x10), .int (zi x11), .int (zi x12), .int (zi r3)], [], M2) Q)) ∧ (¬ x7 = 0 → (x7 = 1 → ∃ (r5 : Int) (M4 : am_M), am_call t_LAW_types [.ref 0, .long (zl 1919250540)] M (some (.int (zi r5))) M4 ∧ ((zr r5) ∧ ((r5 = 0 → am_x t_LAW_typesOperation (267, [.ref 0, .ref 58, .ref 59, .ref 60, .null, .null, .int (zi x6), .int (zi x7), .int (zi x8), .int (zi x9), .int (zi x10), .int (zi x11), .int (zi x12), .int (zi 0)], [], M4) Q) ∧ (¬ r5 = 0 → ∃ (r8 : Int) (M7 : am_M), am_call t_LAW_types [.ref 0, .long (zl 6382437)] M4 (some (.int (zi r8))) M7 ∧ ((zr r8) ∧ ((r8 = 0 → am_x t_LAW_typesOperation (267, [.ref 0, .ref 58, .ref 59, .ref 60, .null, .null, .int (zi x6), .int (zi x7), .int (zi x8), .int (zi x9), .int (zi x10), .int (zi x11), .int (zi x12), .int (zi 0)], [], M7) Q) ∧ (¬ r8 = 0 → am_x t_LAW_typesOperation (267, [.ref 0, .ref 58, .ref 59, .ref 60, .null, .null, .int (zi x6), .int (zi x7), .int (zi x8), .int (zi x9), .int (zi x10), .int (zi x11), .int (zi x12), .int (zi 1)], [], M7) Q))))))) ∧ (¬ x7 = 1 → (x7 = 2 → ∃ (r11 : Int) (M10 : am_M), am_call t_LAW_types [.ref 0, .long (zl 125780002955628)] M (some (.int (zi r11))) M10 ∧ (am_x t_LAW_typesOperation (267, [.ref 0, .ref 58, .ref 59, .ref 60, .null, .null, .int (zi x6), .int (zi x7), .int (zi x8), .int (zi x9), .int (zi x10), .int (zi x11), .int (zi x12), .int (zi r11)], [], M10) Q)) ∧ (¬ x7 = 2 → (x7 = 3 → ∃ (r13 : Int) (M12 : am_M), am_call t_LAW_types [.ref 0, .long (zl 8243116143596954994)] M (some (.int (zi r13))) M12 ∧ (am_x t_LAW_typesOperation (267, [.ref 0, .ref 58, .ref 59, .ref 60, .null, .null, .int (zi x6), .int (zi x7), .int (zi x8), .int (zi x9), .int (zi x10), .int (zi x11), .int (zi x12), .int (zi r13)], [], M12) Q)) ∧ (¬ x7 = 3 → ∃ (r15 : Int) (M14 : am_M), am_call t_LAW_types [.ref 0, .long (zl 26990)] M (some (.int (zi r15))) M14 ∧ (am_x t_LAW_typesOperation (267, [.ref 0, .ref 58, .ref 59, .ref 60, .null, .null, .int (zi x6), .int (zi x7), .int (zi x8), .int (zi x9), .int (zi x10), .int (zi x11), .int (zi x12), .int (zi r15)], [], M14) Q))))))) : am_x t_LAW_typesOperation (177, [.ref 0, .ref 58, .ref 59, .ref 60, .null, .null, .int (zi x6), .int (zi x7), .int (zi x8), .int (zi x9), .int (zi x10), .int (zi x11), .int (zi x12), .null], [], M) Q := by
  obtain ⟨r1, hv⟩ := hv
  refine am_xn 2 (c1 := (if zi x7 = zi 0 then 182 else 192, [.ref 0, .ref 58, .ref 59, .ref 60, .null, .null, .int (zi x6), .int (zi x7), .int (zi x8), .int (zi x9), .int (zi x10), .int (zi x11), .int (zi x12), .null], [], M)) rfl (am_xeq r1 (by decide) (fun h => ?_) (fun h => ?_))
  · replace hv := hv.1 h
    refine am_xn 2 (c1 := (186, [.ref 0, .ref 58, .ref 59, .ref 60, .null, .null, .int (zi x6), .int (zi x7), .int (zi x8), .int (zi x9), .int (zi x10), .int (zi x11), .int (zi x12), .null], [.long (zl 115923103347316), .ref 0], M)) rfl ?_
    obtain ⟨r3, M2, hc, hv⟩ := hv
    refine am_xc t_LAW_types (.invokestatic 69) 69 (av := [.ref 0, .long (zl 115923103347316)]) (rest := []) (rv := some (.int (zi r3))) (M' := M2) rfl rfl rfl rfl (Nat.le_of_ble_eq_true rfl) (fun h => nomatch h) (hc) ?_
    refine am_xn 0 (c1 := (189, [.ref 0, .ref 58, .ref 59, .ref 60, .null, .null, .int (zi x6), .int (zi x7), .int (zi x8), .int (zi x9), .int (zi x10), .int (zi x11), .int (zi x12), .null], [.int (zi r3)], M2)) rfl ?_
    refine am_xn 2 (c1 := (267, [.ref 0, .ref 58, .ref 59, .ref 60, .null, .null, .int (zi x6), .int (zi x7), .int (zi x8), .int (zi x9), .int (zi x10), .int (zi x11), .int (zi x12), .int (zi r3)], [], M2)) rfl ?_
    exact hv
  · replace hv := hv.2 h
    refine am_xn 3 (c1 := (if zi x7 = zi 1 then 198 else 226, [.ref 0, .ref 58, .ref 59, .ref 60, .null, .null, .int (zi x6), .int (zi x7), .int (zi x8), .int (zi x9), .int (zi x10), .int (zi x11), .int (zi x12), .null], [], M)) rfl (am_xeq r1 (by decide) (fun h => ?_) (fun h => ?_))
    · replace hv := hv.1 h
      refine am_xn 2 (c1 := (202, [.ref 0, .ref 58, .ref 59, .ref 60, .null, .null, .int (zi x6), .int (zi x7), .int (zi x8), .int (zi x9), .int (zi x10), .int (zi x11), .int (zi x12), .null], [.long (zl 1919250540), .ref 0], M)) rfl ?_
      obtain ⟨r5, M4, hc, hv⟩ := hv
      refine am_xc t_LAW_types (.invokestatic 69) 69 (av := [.ref 0, .long (zl 1919250540)]) (rest := []) (rv := some (.int (zi r5))) (M' := M4) rfl rfl rfl rfl (Nat.le_of_ble_eq_true rfl) (fun h => nomatch h) (hc) ?_
      refine am_xn 0 (c1 := (205, [.ref 0, .ref 58, .ref 59, .ref 60, .null, .null, .int (zi x6), .int (zi x7), .int (zi x8), .int (zi x9), .int (zi x10), .int (zi x11), .int (zi x12), .null], [.int (zi r5)], M4)) rfl ?_
      obtain ⟨r6, hv⟩ := hv
      refine am_xn 1 (c1 := (if zi r5 = zi 0 then 222 else 208, [.ref 0, .ref 58, .ref 59, .ref 60, .null, .null, .int (zi x6), .int (zi x7), .int (zi x8), .int (zi x9), .int (zi x10), .int (zi x11), .int (zi x12), .null], [], M4)) rfl (am_xeq r6 (by decide) (fun h => ?_) (fun h => ?_))
      · replace hv := hv.1 h
        refine am_xn 3 (c1 := (267, [.ref 0, .ref 58, .ref 59, .ref 60, .null, .null, .int (zi x6), .int (zi x7), .int (zi x8), .int (zi x9), .int (zi x10), .int (zi x11), .int (zi x12), .int (zi 0)], [], M4)) rfl ?_
        exact hv
      · replace hv := hv.2 h
        refine am_xn 2 (c1 := (212, [.ref 0, .ref 58, .ref 59, .ref 60, .null, .null, .int (zi x6), .int (zi x7), .int (zi x8), .int (zi x9), .int (zi x10), .int (zi x11), .int (zi x12), .null], [.long (zl 6382437), .ref 0], M4)) rfl ?_
        obtain ⟨r8, M7, hc, hv⟩ := hv
        refine am_xc t_LAW_types (.invokestatic 69) 69 (av := [.ref 0, .long (zl 6382437)]) (rest := []) (rv := some (.int (zi r8))) (M' := M7) rfl rfl rfl rfl (Nat.le_of_ble_eq_true rfl) (fun h => nomatch h) (hc) ?_
        refine am_xn 0 (c1 := (215, [.ref 0, .ref 58, .ref 59, .ref 60, .null, .null, .int (zi x6), .int (zi x7), .int (zi x8), .int (zi x9), .int (zi x10), .int (zi x11), .int (zi x12), .null], [.int (zi r8)], M7)) rfl ?_
        obtain ⟨r9, hv⟩ := hv
        refine am_xn 1 (c1 := (if zi r8 = zi 0 then 222 else 218, [.ref 0, .ref 58, .ref 59, .ref 60, .null, .null, .int (zi x6), .int (zi x7), .int (zi x8), .int (zi x9), .int (zi x10), .int (zi x11), .int (zi x12), .null], [], M7)) rfl (am_xeq r9 (by decide) (fun h => ?_) (fun h => ?_))
        · replace hv := hv.1 h
          refine am_xn 3 (c1 := (267, [.ref 0, .ref 58, .ref 59, .ref 60, .null, .null, .int (zi x6), .int (zi x7), .int (zi x8), .int (zi x9), .int (zi x10), .int (zi x11), .int (zi x12), .int (zi 0)], [], M7)) rfl ?_
          exact hv
        · replace hv := hv.2 h
          refine am_xn 3 (c1 := (267, [.ref 0, .ref 58, .ref 59, .ref 60, .null, .null, .int (zi x6), .int (zi x7), .int (zi x8), .int (zi x9), .int (zi x10), .int (zi x11), .int (zi x12), .int (zi 1)], [], M7)) rfl ?_
          exact hv
    · replace hv := hv.2 h
      refine am_xn 3 (c1 := (if zi x7 = zi 2 then 232 else 242, [.ref 0, .ref 58, .ref 59, .ref 60, .null, .null, .int (zi x6), .int (zi x7), .int (zi x8), .int (zi x9), .int (zi x10), .int (zi x11), .int (zi x12), .null], [], M)) rfl (am_xeq r1 (by decide) (fun h => ?_) (fun h => ?_))
      · replace hv := hv.1 h
        refine am_xn 2 (c1 := (236, [.ref 0, .ref 58, .ref 59, .ref 60, .null, .null, .int (zi x6), .int (zi x7), .int (zi x8), .int (zi x9), .int (zi x10), .int (zi x11), .int (zi x12), .null], [.long (zl 125780002955628), .ref 0], M)) rfl ?_
        obtain ⟨r11, M10, hc, hv⟩ := hv
        refine am_xc t_LAW_types (.invokestatic 69) 69 (av := [.ref 0, .long (zl 125780002955628)]) (rest := []) (rv := some (.int (zi r11))) (M' := M10) rfl rfl rfl rfl (Nat.le_of_ble_eq_true rfl) (fun h => nomatch h) (hc) ?_
        refine am_xn 0 (c1 := (239, [.ref 0, .ref 58, .ref 59, .ref 60, .null, .null, .int (zi x6), .int (zi x7), .int (zi x8), .int (zi x9), .int (zi x10), .int (zi x11), .int (zi x12), .null], [.int (zi r11)], M10)) rfl ?_
        refine am_xn 2 (c1 := (267, [.ref 0, .ref 58, .ref 59, .ref 60, .null, .null, .int (zi x6), .int (zi x7), .int (zi x8), .int (zi x9), .int (zi x10), .int (zi x11), .int (zi x12), .int (zi r11)], [], M10)) rfl ?_
        exact hv
      · replace hv := hv.2 h
        refine am_xn 3 (c1 := (if zi x7 = zi 3 then 248 else 258, [.ref 0, .ref 58, .ref 59, .ref 60, .null, .null, .int (zi x6), .int (zi x7), .int (zi x8), .int (zi x9), .int (zi x10), .int (zi x11), .int (zi x12), .null], [], M)) rfl (am_xeq r1 (by decide) (fun h => ?_) (fun h => ?_))
        · replace hv := hv.1 h
          refine am_xn 2 (c1 := (252, [.ref 0, .ref 58, .ref 59, .ref 60, .null, .null, .int (zi x6), .int (zi x7), .int (zi x8), .int (zi x9), .int (zi x10), .int (zi x11), .int (zi x12), .null], [.long (zl 8243116143596954994), .ref 0], M)) rfl ?_
          obtain ⟨r13, M12, hc, hv⟩ := hv
          refine am_xc t_LAW_types (.invokestatic 69) 69 (av := [.ref 0, .long (zl 8243116143596954994)]) (rest := []) (rv := some (.int (zi r13))) (M' := M12) rfl rfl rfl rfl (Nat.le_of_ble_eq_true rfl) (fun h => nomatch h) (hc) ?_
          refine am_xn 0 (c1 := (255, [.ref 0, .ref 58, .ref 59, .ref 60, .null, .null, .int (zi x6), .int (zi x7), .int (zi x8), .int (zi x9), .int (zi x10), .int (zi x11), .int (zi x12), .null], [.int (zi r13)], M12)) rfl ?_
          refine am_xn 2 (c1 := (267, [.ref 0, .ref 58, .ref 59, .ref 60, .null, .null, .int (zi x6), .int (zi x7), .int (zi x8), .int (zi x9), .int (zi x10), .int (zi x11), .int (zi x12), .int (zi r13)], [], M12)) rfl ?_
          exact hv
        · replace hv := hv.2 h
          refine am_xn 2 (c1 := (262, [.ref 0, .ref 58, .ref 59, .ref 60, .null, .null, .int (zi x6), .int (zi x7), .int (zi x8), .int (zi x9), .int (zi x10), .int (zi x11), .int (zi x12), .null], [.long (zl 26990), .ref 0], M)) rfl ?_
          obtain ⟨r15, M14, hc, hv⟩ := hv
          refine am_xc t_LAW_types (.invokestatic 69) 69 (av := [.ref 0, .long (zl 26990)]) (rest := []) (rv := some (.int (zi r15))) (M' := M14) rfl rfl rfl rfl (Nat.le_of_ble_eq_true rfl) (fun h => nomatch h) (hc) ?_
          refine am_xn 0 (c1 := (265, [.ref 0, .ref 58, .ref 59, .ref 60, .null, .null, .int (zi x6), .int (zi x7), .int (zi x8), .int (zi x9), .int (zi x10), .int (zi x11), .int (zi x12), .null], [.int (zi r15)], M14)) rfl ?_
          refine am_xn 1 (c1 := (267, [.ref 0, .ref 58, .ref 59, .ref 60, .null, .null, .int (zi x6), .int (zi x7), .int (zi x8), .int (zi x9), .int (zi x10), .int (zi x11), .int (zi x12), .int (zi r15)], [], M14)) rfl ?_
          exact hv
set_option maxRecDepth 100000 in
theorem vc_w_op_267 (x6 : Int) (x7 : Int) (x8 : Int) (x9 : Int) (x10 : Int) (x11 : Int) (x12 : Int) (x13 : Int) (M : am_M) (Q : Option Value → am_M → Prop) (hv : (zr x13) ∧ ((x13 = 0 → am_x t_LAW_typesOperation (297, [.ref 0, .ref 58, .ref 59, .ref 60, .null, .null, .int (zi x6), .int (zi x7), .int (zi x8), .int (zi x9), .int (zi x10), .int (zi x11), .int (zi x12), .int (zi 0)], [], M) Q) ∧ (¬ x13 = 0 → ∃ (r3 : Int) (M2 : am_M), am_call t_SB_type [.ref 0, .int (zi 32)] M (some (.int (zi r3))) M2 ∧ ((zr r3) ∧ ((0 < r3 → ∃ (r6 : Int) (M5 : am_M), am_call t_LAW_typesNumber [.ref 0, .int (zi x8)] M2 (some (.int (zi r6))) M5 ∧ ((zr r6) ∧ ((r6 = 0 → am_x t_LAW_typesOperation (297, [.ref 0, .ref 58, .ref 59, .ref 60, .null, .null, .int (zi x6), .int (zi x7), .int (zi x8), .int (zi x9), .int (zi x10), .int (zi x11), .int (zi x12), .int (zi 0)], [], M5) Q) ∧ (¬ r6 = 0 → am_x t_LAW_typesOperation (297, [.ref 0, .ref 58, .ref 59, .ref 60, .null, .null, .int (zi x6), .int (zi x7), .int (zi x8), .int (zi x9), .int (zi x10), .int (zi x11), .int (zi x12), .int (zi 1)], [], M5) Q)))) ∧ (r3 ≤ 0 → am_x t_LAW_typesOperation (297, [.ref 0, .ref 58, .ref 59, .ref 60, .null, .null, .int (zi x6), .int (zi x7), .int (zi x8), .int (zi x9), .int (zi x10), .int (zi x11), .int (zi x12), .int (zi 0)], [], M2) Q)))))) : am_x t_LAW_typesOperation (267, [.ref 0, .ref 58, .ref 59, .ref 60, .null, .null, .int (zi x6), .int (zi x7), .int (zi x8), .int (zi x9), .int (zi x10), .int (zi x11), .int (zi x12), .int (zi x13)], [], M) Q := by
  obtain ⟨r1, hv⟩ := hv
  refine am_xn 2 (c1 := (if zi x13 = zi 0 then 294 else 272, [.ref 0, .ref 58, .ref 59, .ref 60, .null, .null, .int (zi x6), .int (zi x7), .int (zi x8), .int (zi x9), .int (zi x10), .int (zi x11), .int (zi x12), .int (zi x13)], [], M)) rfl (am_xeq r1 (by decide) (fun h => ?_) (fun h => ?_))
  · replace hv := hv.1 h
    refine am_xn 2 (c1 := (297, [.ref 0, .ref 58, .ref 59, .ref 60, .null, .null, .int (zi x6), .int (zi x7), .int (zi x8), .int (zi x9), .int (zi x10), .int (zi x11), .int (zi x12), .int (zi 0)], [], M)) rfl ?_
    exact hv
  · replace hv := hv.2 h
    refine am_xn 2 (c1 := (275, [.ref 0, .ref 58, .ref 59, .ref 60, .null, .null, .int (zi x6), .int (zi x7), .int (zi x8), .int (zi x9), .int (zi x10), .int (zi x11), .int (zi x12), .int (zi x13)], [.int (zi 32), .ref 0], M)) rfl ?_
    obtain ⟨r3, M2, hc, hv⟩ := hv
    refine am_xc t_SB_type (.invokevirtual 11) 11 (av := [.ref 0, .int (zi 32)]) (rest := []) (rv := some (.int (zi r3))) (M' := M2) rfl rfl rfl rfl (Nat.le_of_ble_eq_true rfl) (fun _ => rfl) (hc) ?_
    refine am_xn 0 (c1 := (278, [.ref 0, .ref 58, .ref 59, .ref 60, .null, .null, .int (zi x6), .int (zi x7), .int (zi x8), .int (zi x9), .int (zi x10), .int (zi x11), .int (zi x12), .int (zi x13)], [.int (zi r3)], M2)) rfl ?_
    obtain ⟨r4, hv⟩ := hv
    refine am_xn 1 (c1 := (if zi 0 < zi r3 then 281 else 294, [.ref 0, .ref 58, .ref 59, .ref 60, .null, .null, .int (zi x6), .int (zi x7), .int (zi x8), .int (zi x9), .int (zi x10), .int (zi x11), .int (zi x12), .int (zi x13)], [], M2)) rfl (am_xlt (by decide) r4 (fun h => ?_) (fun h => ?_))
    · replace hv := hv.1 h
      refine am_xn 2 (c1 := (284, [.ref 0, .ref 58, .ref 59, .ref 60, .null, .null, .int (zi x6), .int (zi x7), .int (zi x8), .int (zi x9), .int (zi x10), .int (zi x11), .int (zi x12), .int (zi x13)], [.int (zi x8), .ref 0], M2)) rfl ?_
      obtain ⟨r6, M5, hc, hv⟩ := hv
      refine am_xc t_LAW_typesNumber (.invokestatic 23) 23 (av := [.ref 0, .int (zi x8)]) (rest := []) (rv := some (.int (zi r6))) (M' := M5) rfl rfl rfl rfl (Nat.le_of_ble_eq_true rfl) (fun h => nomatch h) (hc) ?_
      refine am_xn 0 (c1 := (287, [.ref 0, .ref 58, .ref 59, .ref 60, .null, .null, .int (zi x6), .int (zi x7), .int (zi x8), .int (zi x9), .int (zi x10), .int (zi x11), .int (zi x12), .int (zi x13)], [.int (zi r6)], M5)) rfl ?_
      obtain ⟨r7, hv⟩ := hv
      refine am_xn 1 (c1 := (if zi r6 = zi 0 then 294 else 290, [.ref 0, .ref 58, .ref 59, .ref 60, .null, .null, .int (zi x6), .int (zi x7), .int (zi x8), .int (zi x9), .int (zi x10), .int (zi x11), .int (zi x12), .int (zi x13)], [], M5)) rfl (am_xeq r7 (by decide) (fun h => ?_) (fun h => ?_))
      · replace hv := hv.1 h
        refine am_xn 2 (c1 := (297, [.ref 0, .ref 58, .ref 59, .ref 60, .null, .null, .int (zi x6), .int (zi x7), .int (zi x8), .int (zi x9), .int (zi x10), .int (zi x11), .int (zi x12), .int (zi 0)], [], M5)) rfl ?_
        exact hv
      · replace hv := hv.2 h
        refine am_xn 3 (c1 := (297, [.ref 0, .ref 58, .ref 59, .ref 60, .null, .null, .int (zi x6), .int (zi x7), .int (zi x8), .int (zi x9), .int (zi x10), .int (zi x11), .int (zi x12), .int (zi 1)], [], M5)) rfl ?_
        exact hv
    · replace hv := hv.2 h
      refine am_xn 2 (c1 := (297, [.ref 0, .ref 58, .ref 59, .ref 60, .null, .null, .int (zi x6), .int (zi x7), .int (zi x8), .int (zi x9), .int (zi x10), .int (zi x11), .int (zi x12), .int (zi 0)], [], M2)) rfl ?_
      exact hv
set_option maxRecDepth 100000 in
theorem vc_w_op_297 (x6 : Int) (x7 : Int) (x8 : Int) (x9 : Int) (x10 : Int) (x11 : Int) (x12 : Int) (x13 : Int) (M : am_M) (Q : Option Value → am_M → Prop) (hv : (zr x7) ∧ ((x7 < 2 → (zr x13) ∧ ((x13 = 0 → am_x t_LAW_typesOperation (345, [.ref 0, .ref 58, .ref 59, .ref 60, .null, .null, .int (zi x6), .int (zi x7), .int (zi x8), .int (zi x9), .int (zi x10), .int (zi x11), .int (zi x12), .int (zi 0)], [], M) Q) ∧ (¬ x13 = 0 → (zr x10) ∧ ((x10 < 1 → am_x t_LAW_typesOperation (345, [.ref 0, .ref 58, .ref 59, .ref 60, .null, .null, .int (zi x6), .int (zi x7), .int (zi x8), .int (zi x9), .int (zi x10), .int (zi x11), .int (zi x12), .int (zi 1)], [], M) Q) ∧ (1 ≤ x10 → ∃ (r5 : Int) (M4 : am_M), am_call t_LAW_typesWord [.ref 0, .int (zi x11)] M (some (.int (zi r5))) M4 ∧ ((zr r5) ∧ ((r5 = 0 → am_x t_LAW_typesOperation (345, [.ref 0, .ref 58, .ref 59, .ref 60, .null, .null, .int (zi x6), .int (zi x7), .int (zi x8), .int (zi x9), .int (zi x10), .int (zi x11), .int (zi x12), .int (zi 0)], [], M4) Q) ∧ (¬ r5 = 0 → (x10 < 2 → am_x t_LAW_typesOperation (345, [.ref 0, .ref 58, .ref 59, .ref 60, .null, .null, .int (zi x6), .int (zi x7), .int (zi x8), .int (zi x9), .int (zi x10), .int (zi x11), .int (zi x12), .int (zi 1)], [], M4) Q) ∧ (2 ≤ x10 → ∃ (r8 : Int) (M7 : am_M), am_call t_LAW_typesWord [.ref 0, .int (zi x12)] M4 (some (.int (zi r8))) M7 ∧ ((zr r8) ∧ ((r8 = 0 → am_x t_LAW_typesOperation (345, [.ref 0, .ref 58, .ref 59, .ref 60, .null, .null, .int (zi x6), .int (zi x7), .int (zi x8), .int (zi x9), .int (zi x10), .int (zi x11), .int (zi x12), .int (zi 0)], [], M7) Q) ∧ (¬ r8 = 0 → am_x t_LAW_typesOperation (345, [.ref 0, .ref 58, .ref 59, .ref 60, .null, .null, .int (zi x6), .int (zi x7), .int (zi x8), .int (zi x9), .int (zi x10), .int (zi x11), .int (zi x12), .int (zi 1)], [], M7) Q)))))))))))) ∧ (2 ≤ x7 → am_x t_LAW_typesOperation (345, [.ref 0, .ref 58, .ref 59, .ref 60, .null, .null, .int (zi x6), .int (zi x7), .int (zi x8), .int (zi x9), .int (zi x10), .int (zi x11), .int (zi x12), .int (zi x13)], [], M) Q))) : am_x t_LAW_typesOperation (297, [.ref 0, .ref 58, .ref 59, .ref 60, .null, .null, .int (zi x6), .int (zi x7), .int (zi x8), .int (zi x9), .int (zi x10), .int (zi x11), .int (zi x12), .int (zi x13)], [], M) Q := by
  obtain ⟨r1, hv⟩ := hv
  refine am_xn 3 (c1 := (if zi x7 < zi 2 then 303 else 345, [.ref 0, .ref 58, .ref 59, .ref 60, .null, .null, .int (zi x6), .int (zi x7), .int (zi x8), .int (zi x9), .int (zi x10), .int (zi x11), .int (zi x12), .int (zi x13)], [], M)) rfl (am_xlt r1 (by decide) (fun h => ?_) (fun h => ?_))
  · replace hv := hv.1 h
    obtain ⟨r2, hv⟩ := hv
    refine am_xn 2 (c1 := (if zi x13 = zi 0 then 342 else 308, [.ref 0, .ref 58, .ref 59, .ref 60, .null, .null, .int (zi x6), .int (zi x7), .int (zi x8), .int (zi x9), .int (zi x10), .int (zi x11), .int (zi x12), .int (zi x13)], [], M)) rfl (am_xeq r2 (by decide) (fun h => ?_) (fun h => ?_))
    · replace hv := hv.1 h
      refine am_xn 2 (c1 := (345, [.ref 0, .ref 58, .ref 59, .ref 60, .null, .null, .int (zi x6), .int (zi x7), .int (zi x8), .int (zi x9), .int (zi x10), .int (zi x11), .int (zi x12), .int (zi 0)], [], M)) rfl ?_
      exact hv
    · replace hv := hv.2 h
      obtain ⟨r3, hv⟩ := hv
      refine am_xn 3 (c1 := (if zi x10 < zi 1 then 323 else 314, [.ref 0, .ref 58, .ref 59, .ref 60, .null, .null, .int (zi x6), .int (zi x7), .int (zi x8), .int (zi x9), .int (zi x10), .int (zi x11), .int (zi x12), .int (zi x13)], [], M)) rfl (am_xlt r3 (by decide) (fun h => ?_) (fun h => ?_))
      · replace hv := hv.1 h
        refine am_xn 3 (c1 := (if zi x10 < zi 2 then 338 else 329, [.ref 0, .ref 58, .ref 59, .ref 60, .null, .null, .int (zi x6), .int (zi x7), .int (zi x8), .int (zi x9), .int (zi x10), .int (zi x11), .int (zi x12), .int (zi x13)], [], M)) rfl (am_xlt r3 (by decide) (fun h => ?_) (fun h => by clear hv; exfalso; omega))
        refine am_xn 3 (c1 := (345, [.ref 0, .ref 58, .ref 59, .ref 60, .null, .null, .int (zi x6), .int (zi x7), .int (zi x8), .int (zi x9), .int (zi x10), .int (zi x11), .int (zi x12), .int (zi 1)], [], M)) rfl ?_
        exact hv
      · replace hv := hv.2 h
        refine am_xn 2 (c1 := (317, [.ref 0, .ref 58, .ref 59, .ref 60, .null, .null, .int (zi x6), .int (zi x7), .int (zi x8), .int (zi x9), .int (zi x10), .int (zi x11), .int (zi x12), .int (zi x13)], [.int (zi x11), .ref 0], M)) rfl ?_
        obtain ⟨r5, M4, hc, hv⟩ := hv
        refine am_xc t_LAW_typesWord (.invokestatic 83) 83 (av := [.ref 0, .int (zi x11)]) (rest := []) (rv := some (.int (zi r5))) (M' := M4) rfl rfl rfl rfl (Nat.le_of_ble_eq_true rfl) (fun h => nomatch h) (hc) ?_
        refine am_xn 0 (c1 := (320, [.ref 0, .ref 58, .ref 59, .ref 60, .null, .null, .int (zi x6), .int (zi x7), .int (zi x8), .int (zi x9), .int (zi x10), .int (zi x11), .int (zi x12), .int (zi x13)], [.int (zi r5)], M4)) rfl ?_
        obtain ⟨r6, hv⟩ := hv
        refine am_xn 1 (c1 := (if zi r5 = zi 0 then 342 else 323, [.ref 0, .ref 58, .ref 59, .ref 60, .null, .null, .int (zi x6), .int (zi x7), .int (zi x8), .int (zi x9), .int (zi x10), .int (zi x11), .int (zi x12), .int (zi x13)], [], M4)) rfl (am_xeq r6 (by decide) (fun h => ?_) (fun h => ?_))
        · replace hv := hv.1 h
          refine am_xn 2 (c1 := (345, [.ref 0, .ref 58, .ref 59, .ref 60, .null, .null, .int (zi x6), .int (zi x7), .int (zi x8), .int (zi x9), .int (zi x10), .int (zi x11), .int (zi x12), .int (zi 0)], [], M4)) rfl ?_
          exact hv
        · replace hv := hv.2 h
          refine am_xn 3 (c1 := (if zi x10 < zi 2 then 338 else 329, [.ref 0, .ref 58, .ref 59, .ref 60, .null, .null, .int (zi x6), .int (zi x7), .int (zi x8), .int (zi x9), .int (zi x10), .int (zi x11), .int (zi x12), .int (zi x13)], [], M4)) rfl (am_xlt r3 (by decide) (fun h => ?_) (fun h => ?_))
          · replace hv := hv.1 h
            refine am_xn 3 (c1 := (345, [.ref 0, .ref 58, .ref 59, .ref 60, .null, .null, .int (zi x6), .int (zi x7), .int (zi x8), .int (zi x9), .int (zi x10), .int (zi x11), .int (zi x12), .int (zi 1)], [], M4)) rfl ?_
            exact hv
          · replace hv := hv.2 h
            refine am_xn 2 (c1 := (332, [.ref 0, .ref 58, .ref 59, .ref 60, .null, .null, .int (zi x6), .int (zi x7), .int (zi x8), .int (zi x9), .int (zi x10), .int (zi x11), .int (zi x12), .int (zi x13)], [.int (zi x12), .ref 0], M4)) rfl ?_
            obtain ⟨r8, M7, hc, hv⟩ := hv
            refine am_xc t_LAW_typesWord (.invokestatic 83) 83 (av := [.ref 0, .int (zi x12)]) (rest := []) (rv := some (.int (zi r8))) (M' := M7) rfl rfl rfl rfl (Nat.le_of_ble_eq_true rfl) (fun h => nomatch h) (hc) ?_
            refine am_xn 0 (c1 := (335, [.ref 0, .ref 58, .ref 59, .ref 60, .null, .null, .int (zi x6), .int (zi x7), .int (zi x8), .int (zi x9), .int (zi x10), .int (zi x11), .int (zi x12), .int (zi x13)], [.int (zi r8)], M7)) rfl ?_
            obtain ⟨r9, hv⟩ := hv
            refine am_xn 1 (c1 := (if zi r8 = zi 0 then 342 else 338, [.ref 0, .ref 58, .ref 59, .ref 60, .null, .null, .int (zi x6), .int (zi x7), .int (zi x8), .int (zi x9), .int (zi x10), .int (zi x11), .int (zi x12), .int (zi x13)], [], M7)) rfl (am_xeq r9 (by decide) (fun h => ?_) (fun h => ?_))
            · replace hv := hv.1 h
              refine am_xn 2 (c1 := (345, [.ref 0, .ref 58, .ref 59, .ref 60, .null, .null, .int (zi x6), .int (zi x7), .int (zi x8), .int (zi x9), .int (zi x10), .int (zi x11), .int (zi x12), .int (zi 0)], [], M7)) rfl ?_
              exact hv
            · replace hv := hv.2 h
              refine am_xn 3 (c1 := (345, [.ref 0, .ref 58, .ref 59, .ref 60, .null, .null, .int (zi x6), .int (zi x7), .int (zi x8), .int (zi x9), .int (zi x10), .int (zi x11), .int (zi x12), .int (zi 1)], [], M7)) rfl ?_
              exact hv
  · replace hv := hv.2 h
    exact hv
set_option maxRecDepth 100000 in
theorem vc_w_op_345 (x6 : Int) (x7 : Int) (x8 : Int) (x9 : Int) (x10 : Int) (x11 : Int) (x12 : Int) (x13 : Int) (M : am_M) (Q : Option Value → am_M → Prop) (hv : (zr x7) ∧ ((x7 = 3 → (zr x13) ∧ ((x13 = 0 → am_x t_LAW_typesOperation (382, [.ref 0, .ref 58, .ref 59, .ref 60, .null, .null, .int (zi x6), .int (zi x7), .int (zi x8), .int (zi x9), .int (zi x10), .int (zi x11), .int (zi x12), .int (zi 0)], [], M) Q) ∧ (¬ x13 = 0 → ∃ (r4 : Int) (M3 : am_M), am_call t_LAW_types [.ref 0, .long (zl 544501536)] M (some (.int (zi r4))) M3 ∧ ((zr r4) ∧ ((r4 = 0 → am_x t_LAW_typesOperation (382, [.ref 0, .ref 58, .ref 59, .ref 60, .null, .null, .int (zi x6), .int (zi x7), .int (zi x8), .int (zi x9), .int (zi x10), .int (zi x11), .int (zi x12), .int (zi 0)], [], M3) Q) ∧ (¬ r4 = 0 → ∃ (r7 : Int) (M6 : am_M), am_call t_LAW_typesNumber [.ref 0, .int (zi x11)] M3 (some (.int (zi r7))) M6 ∧ ((zr r7) ∧ ((r7 = 0 → am_x t_LAW_typesOperation (382, [.ref 0, .ref 58, .ref 59, .ref 60, .null, .null, .int (zi x6), .int (zi x7), .int (zi x8), .int (zi x9), .int (zi x10), .int (zi x11), .int (zi x12), .int (zi 0)], [], M6) Q) ∧ (¬ r7 = 0 → am_x t_LAW_typesOperation (382, [.ref 0, .ref 58, .ref 59, .ref 60, .null, .null, .int (zi x6), .int (zi x7), .int (zi x8), .int (zi x9), .int (zi x10), .int (zi x11), .int (zi x12), .int (zi 1)], [], M6) Q))))))))) ∧ (¬ x7 = 3 → am_x t_LAW_typesOperation (382, [.ref 0, .ref 58, .ref 59, .ref 60, .null, .null, .int (zi x6), .int (zi x7), .int (zi x8), .int (zi x9), .int (zi x10), .int (zi x11), .int (zi x12), .int (zi x13)], [], M) Q))) : am_x t_LAW_typesOperation (345, [.ref 0, .ref 58, .ref 59, .ref 60, .null, .null, .int (zi x6), .int (zi x7), .int (zi x8), .int (zi x9), .int (zi x10), .int (zi x11), .int (zi x12), .int (zi x13)], [], M) Q := by
  obtain ⟨r1, hv⟩ := hv
  refine am_xn 3 (c1 := (if zi x7 = zi 3 then 351 else 382, [.ref 0, .ref 58, .ref 59, .ref 60, .null, .null, .int (zi x6), .int (zi x7), .int (zi x8), .int (zi x9), .int (zi x10), .int (zi x11), .int (zi x12), .int (zi x13)], [], M)) rfl (am_xeq r1 (by decide) (fun h => ?_) (fun h => ?_))
  · replace hv := hv.1 h
    obtain ⟨r2, hv⟩ := hv
    refine am_xn 2 (c1 := (if zi x13 = zi 0 then 379 else 356, [.ref 0, .ref 58, .ref 59, .ref 60, .null, .null, .int (zi x6), .int (zi x7), .int (zi x8), .int (zi x9), .int (zi x10), .int (zi x11), .int (zi x12), .int (zi x13)], [], M)) rfl (am_xeq r2 (by decide) (fun h => ?_) (fun h => ?_))
    · replace hv := hv.1 h
      refine am_xn 2 (c1 := (382, [.ref 0, .ref 58, .ref 59, .ref 60, .null, .null, .int (zi x6), .int (zi x7), .int (zi x8), .int (zi x9), .int (zi x10), .int (zi x11), .int (zi x12), .int (zi 0)], [], M)) rfl ?_
      exact hv
    · replace hv := hv.2 h
      refine am_xn 2 (c1 := (360, [.ref 0, .ref 58, .ref 59, .ref 60, .null, .null, .int (zi x6), .int (zi x7), .int (zi x8), .int (zi x9), .int (zi x10), .int (zi x11), .int (zi x12), .int (zi x13)], [.long (zl 544501536), .ref 0], M)) rfl ?_
      obtain ⟨r4, M3, hc, hv⟩ := hv
      refine am_xc t_LAW_types (.invokestatic 69) 69 (av := [.ref 0, .long (zl 544501536)]) (rest := []) (rv := some (.int (zi r4))) (M' := M3) rfl rfl rfl rfl (Nat.le_of_ble_eq_true rfl) (fun h => nomatch h) (hc) ?_
      refine am_xn 0 (c1 := (363, [.ref 0, .ref 58, .ref 59, .ref 60, .null, .null, .int (zi x6), .int (zi x7), .int (zi x8), .int (zi x9), .int (zi x10), .int (zi x11), .int (zi x12), .int (zi x13)], [.int (zi r4)], M3)) rfl ?_
      obtain ⟨r5, hv⟩ := hv
      refine am_xn 1 (c1 := (if zi r4 = zi 0 then 379 else 366, [.ref 0, .ref 58, .ref 59, .ref 60, .null, .null, .int (zi x6), .int (zi x7), .int (zi x8), .int (zi x9), .int (zi x10), .int (zi x11), .int (zi x12), .int (zi x13)], [], M3)) rfl (am_xeq r5 (by decide) (fun h => ?_) (fun h => ?_))
      · replace hv := hv.1 h
        refine am_xn 2 (c1 := (382, [.ref 0, .ref 58, .ref 59, .ref 60, .null, .null, .int (zi x6), .int (zi x7), .int (zi x8), .int (zi x9), .int (zi x10), .int (zi x11), .int (zi x12), .int (zi 0)], [], M3)) rfl ?_
        exact hv
      · replace hv := hv.2 h
        refine am_xn 2 (c1 := (369, [.ref 0, .ref 58, .ref 59, .ref 60, .null, .null, .int (zi x6), .int (zi x7), .int (zi x8), .int (zi x9), .int (zi x10), .int (zi x11), .int (zi x12), .int (zi x13)], [.int (zi x11), .ref 0], M3)) rfl ?_
        obtain ⟨r7, M6, hc, hv⟩ := hv
        refine am_xc t_LAW_typesNumber (.invokestatic 23) 23 (av := [.ref 0, .int (zi x11)]) (rest := []) (rv := some (.int (zi r7))) (M' := M6) rfl rfl rfl rfl (Nat.le_of_ble_eq_true rfl) (fun h => nomatch h) (hc) ?_
        refine am_xn 0 (c1 := (372, [.ref 0, .ref 58, .ref 59, .ref 60, .null, .null, .int (zi x6), .int (zi x7), .int (zi x8), .int (zi x9), .int (zi x10), .int (zi x11), .int (zi x12), .int (zi x13)], [.int (zi r7)], M6)) rfl ?_
        obtain ⟨r8, hv⟩ := hv
        refine am_xn 1 (c1 := (if zi r7 = zi 0 then 379 else 375, [.ref 0, .ref 58, .ref 59, .ref 60, .null, .null, .int (zi x6), .int (zi x7), .int (zi x8), .int (zi x9), .int (zi x10), .int (zi x11), .int (zi x12), .int (zi x13)], [], M6)) rfl (am_xeq r8 (by decide) (fun h => ?_) (fun h => ?_))
        · replace hv := hv.1 h
          refine am_xn 2 (c1 := (382, [.ref 0, .ref 58, .ref 59, .ref 60, .null, .null, .int (zi x6), .int (zi x7), .int (zi x8), .int (zi x9), .int (zi x10), .int (zi x11), .int (zi x12), .int (zi 0)], [], M6)) rfl ?_
          exact hv
        · replace hv := hv.2 h
          refine am_xn 3 (c1 := (382, [.ref 0, .ref 58, .ref 59, .ref 60, .null, .null, .int (zi x6), .int (zi x7), .int (zi x8), .int (zi x9), .int (zi x10), .int (zi x11), .int (zi x12), .int (zi 1)], [], M6)) rfl ?_
          exact hv
  · replace hv := hv.2 h
    exact hv
set_option maxRecDepth 100000 in
theorem vc_w_op_382 (x6 : Int) (x7 : Int) (x8 : Int) (x9 : Int) (x10 : Int) (x11 : Int) (x12 : Int) (x13 : Int) (M : am_M) (Q : Option Value → am_M → Prop) (hv : (zr x7) ∧ ((x7 = 4 → (zr x13) ∧ ((x13 = 0 → am_x t_LAW_typesOperation (438, [.ref 0, .ref 58, .ref 59, .ref 60, .null, .null, .int (zi x6), .int (zi x7), .int (zi x8), .int (zi x9), .int (zi x10), .int (zi x11), .int (zi x12), .int (zi 0)], [], M) Q) ∧ (¬ x13 = 0 → ∃ (r4 : Int) (M3 : am_M), am_call t_LAW_types [.ref 0, .long (zl 543584114)] M (some (.int (zi r4))) M3 ∧ ((zr r4) ∧ ((r4 = 0 → am_x t_LAW_typesOperation (438, [.ref 0, .ref 58, .ref 59, .ref 60, .null, .null, .int (zi x6), .int (zi x7), .int (zi x8), .int (zi x9), .int (zi x10), .int (zi x11), .int (zi x12), .int (zi 0)], [], M3) Q) ∧ (¬ r4 = 0 → ∃ (r7 : Int) (M6 : am_M), am_call t_LAW_typesWord [.ref 0, .int (zi x11)] M3 (some (.int (zi r7))) M6 ∧ ((zr r7) ∧ ((r7 = 0 → am_x t_LAW_typesOperation (438, [.ref 0, .ref 58, .ref 59, .ref 60, .null, .null, .int (zi x6), .int (zi x7), .int (zi x8), .int (zi x9), .int (zi x10), .int (zi x11), .int (zi x12), .int (zi 0)], [], M6) Q) ∧ (¬ r7 = 0 → ∃ (r10 : Int) (M9 : am_M), am_call t_LAW_types [.ref 0, .long (zl 544241012)] M6 (some (.int (zi r10))) M9 ∧ ((zr r10) ∧ ((r10 = 0 → am_x t_LAW_typesOperation (438, [.ref 0, .ref 58, .ref 59, .ref 60, .null, .null, .int (zi x6), .int (zi x7), .int (zi x8), .int (zi x9), .int (zi x10), .int (zi x11), .int (zi x12), .int (zi 0)], [], M9) Q) ∧ (¬ r10 = 0 → ∃ (r13 : Int) (M12 : am_M), am_call t_LAW_typesWord [.ref 0, .int (zi x12)] M9 (some (.int (zi r13))) M12 ∧ ((zr r13) ∧ ((r13 = 0 → am_x t_LAW_typesOperation (438, [.ref 0, .ref 58, .ref 59, .ref 60, .null, .null, .int (zi x6), .int (zi x7), .int (zi x8), .int (zi x9), .int (zi x10), .int (zi x11), .int (zi x12), .int (zi 0)], [], M12) Q) ∧ (¬ r13 = 0 → am_x t_LAW_typesOperation (438, [.ref 0, .ref 58, .ref 59, .ref 60, .null, .null, .int (zi x6), .int (zi x7), .int (zi x8), .int (zi x9), .int (zi x10), .int (zi x11), .int (zi x12), .int (zi 1)], [], M12) Q))))))))))))))) ∧ (¬ x7 = 4 → am_x t_LAW_typesOperation (438, [.ref 0, .ref 58, .ref 59, .ref 60, .null, .null, .int (zi x6), .int (zi x7), .int (zi x8), .int (zi x9), .int (zi x10), .int (zi x11), .int (zi x12), .int (zi x13)], [], M) Q))) : am_x t_LAW_typesOperation (382, [.ref 0, .ref 58, .ref 59, .ref 60, .null, .null, .int (zi x6), .int (zi x7), .int (zi x8), .int (zi x9), .int (zi x10), .int (zi x11), .int (zi x12), .int (zi x13)], [], M) Q := by
  obtain ⟨r1, hv⟩ := hv
  refine am_xn 3 (c1 := (if zi x7 = zi 4 then 388 else 438, [.ref 0, .ref 58, .ref 59, .ref 60, .null, .null, .int (zi x6), .int (zi x7), .int (zi x8), .int (zi x9), .int (zi x10), .int (zi x11), .int (zi x12), .int (zi x13)], [], M)) rfl (am_xeq r1 (by decide) (fun h => ?_) (fun h => ?_))
  · replace hv := hv.1 h
    obtain ⟨r2, hv⟩ := hv
    refine am_xn 2 (c1 := (if zi x13 = zi 0 then 435 else 393, [.ref 0, .ref 58, .ref 59, .ref 60, .null, .null, .int (zi x6), .int (zi x7), .int (zi x8), .int (zi x9), .int (zi x10), .int (zi x11), .int (zi x12), .int (zi x13)], [], M)) rfl (am_xeq r2 (by decide) (fun h => ?_) (fun h => ?_))
    · replace hv := hv.1 h
      refine am_xn 2 (c1 := (438, [.ref 0, .ref 58, .ref 59, .ref 60, .null, .null, .int (zi x6), .int (zi x7), .int (zi x8), .int (zi x9), .int (zi x10), .int (zi x11), .int (zi x12), .int (zi 0)], [], M)) rfl ?_
      exact hv
    · replace hv := hv.2 h
      refine am_xn 2 (c1 := (397, [.ref 0, .ref 58, .ref 59, .ref 60, .null, .null, .int (zi x6), .int (zi x7), .int (zi x8), .int (zi x9), .int (zi x10), .int (zi x11), .int (zi x12), .int (zi x13)], [.long (zl 543584114), .ref 0], M)) rfl ?_
      obtain ⟨r4, M3, hc, hv⟩ := hv
      refine am_xc t_LAW_types (.invokestatic 69) 69 (av := [.ref 0, .long (zl 543584114)]) (rest := []) (rv := some (.int (zi r4))) (M' := M3) rfl rfl rfl rfl (Nat.le_of_ble_eq_true rfl) (fun h => nomatch h) (hc) ?_
      refine am_xn 0 (c1 := (400, [.ref 0, .ref 58, .ref 59, .ref 60, .null, .null, .int (zi x6), .int (zi x7), .int (zi x8), .int (zi x9), .int (zi x10), .int (zi x11), .int (zi x12), .int (zi x13)], [.int (zi r4)], M3)) rfl ?_
      obtain ⟨r5, hv⟩ := hv
      refine am_xn 1 (c1 := (if zi r4 = zi 0 then 435 else 403, [.ref 0, .ref 58, .ref 59, .ref 60, .null, .null, .int (zi x6), .int (zi x7), .int (zi x8), .int (zi x9), .int (zi x10), .int (zi x11), .int (zi x12), .int (zi x13)], [], M3)) rfl (am_xeq r5 (by decide) (fun h => ?_) (fun h => ?_))
      · replace hv := hv.1 h
        refine am_xn 2 (c1 := (438, [.ref 0, .ref 58, .ref 59, .ref 60, .null, .null, .int (zi x6), .int (zi x7), .int (zi x8), .int (zi x9), .int (zi x10), .int (zi x11), .int (zi x12), .int (zi 0)], [], M3)) rfl ?_
        exact hv
      · replace hv := hv.2 h
        refine am_xn 2 (c1 := (406, [.ref 0, .ref 58, .ref 59, .ref 60, .null, .null, .int (zi x6), .int (zi x7), .int (zi x8), .int (zi x9), .int (zi x10), .int (zi x11), .int (zi x12), .int (zi x13)], [.int (zi x11), .ref 0], M3)) rfl ?_
        obtain ⟨r7, M6, hc, hv⟩ := hv
        refine am_xc t_LAW_typesWord (.invokestatic 83) 83 (av := [.ref 0, .int (zi x11)]) (rest := []) (rv := some (.int (zi r7))) (M' := M6) rfl rfl rfl rfl (Nat.le_of_ble_eq_true rfl) (fun h => nomatch h) (hc) ?_
        refine am_xn 0 (c1 := (409, [.ref 0, .ref 58, .ref 59, .ref 60, .null, .null, .int (zi x6), .int (zi x7), .int (zi x8), .int (zi x9), .int (zi x10), .int (zi x11), .int (zi x12), .int (zi x13)], [.int (zi r7)], M6)) rfl ?_
        obtain ⟨r8, hv⟩ := hv
        refine am_xn 1 (c1 := (if zi r7 = zi 0 then 435 else 412, [.ref 0, .ref 58, .ref 59, .ref 60, .null, .null, .int (zi x6), .int (zi x7), .int (zi x8), .int (zi x9), .int (zi x10), .int (zi x11), .int (zi x12), .int (zi x13)], [], M6)) rfl (am_xeq r8 (by decide) (fun h => ?_) (fun h => ?_))
        · replace hv := hv.1 h
          refine am_xn 2 (c1 := (438, [.ref 0, .ref 58, .ref 59, .ref 60, .null, .null, .int (zi x6), .int (zi x7), .int (zi x8), .int (zi x9), .int (zi x10), .int (zi x11), .int (zi x12), .int (zi 0)], [], M6)) rfl ?_
          exact hv
        · replace hv := hv.2 h
          refine am_xn 2 (c1 := (416, [.ref 0, .ref 58, .ref 59, .ref 60, .null, .null, .int (zi x6), .int (zi x7), .int (zi x8), .int (zi x9), .int (zi x10), .int (zi x11), .int (zi x12), .int (zi x13)], [.long (zl 544241012), .ref 0], M6)) rfl ?_
          obtain ⟨r10, M9, hc, hv⟩ := hv
          refine am_xc t_LAW_types (.invokestatic 69) 69 (av := [.ref 0, .long (zl 544241012)]) (rest := []) (rv := some (.int (zi r10))) (M' := M9) rfl rfl rfl rfl (Nat.le_of_ble_eq_true rfl) (fun h => nomatch h) (hc) ?_
          refine am_xn 0 (c1 := (419, [.ref 0, .ref 58, .ref 59, .ref 60, .null, .null, .int (zi x6), .int (zi x7), .int (zi x8), .int (zi x9), .int (zi x10), .int (zi x11), .int (zi x12), .int (zi x13)], [.int (zi r10)], M9)) rfl ?_
          obtain ⟨r11, hv⟩ := hv
          refine am_xn 1 (c1 := (if zi r10 = zi 0 then 435 else 422, [.ref 0, .ref 58, .ref 59, .ref 60, .null, .null, .int (zi x6), .int (zi x7), .int (zi x8), .int (zi x9), .int (zi x10), .int (zi x11), .int (zi x12), .int (zi x13)], [], M9)) rfl (am_xeq r11 (by decide) (fun h => ?_) (fun h => ?_))
          · replace hv := hv.1 h
            refine am_xn 2 (c1 := (438, [.ref 0, .ref 58, .ref 59, .ref 60, .null, .null, .int (zi x6), .int (zi x7), .int (zi x8), .int (zi x9), .int (zi x10), .int (zi x11), .int (zi x12), .int (zi 0)], [], M9)) rfl ?_
            exact hv
          · replace hv := hv.2 h
            refine am_xn 2 (c1 := (425, [.ref 0, .ref 58, .ref 59, .ref 60, .null, .null, .int (zi x6), .int (zi x7), .int (zi x8), .int (zi x9), .int (zi x10), .int (zi x11), .int (zi x12), .int (zi x13)], [.int (zi x12), .ref 0], M9)) rfl ?_
            obtain ⟨r13, M12, hc, hv⟩ := hv
            refine am_xc t_LAW_typesWord (.invokestatic 83) 83 (av := [.ref 0, .int (zi x12)]) (rest := []) (rv := some (.int (zi r13))) (M' := M12) rfl rfl rfl rfl (Nat.le_of_ble_eq_true rfl) (fun h => nomatch h) (hc) ?_
            refine am_xn 0 (c1 := (428, [.ref 0, .ref 58, .ref 59, .ref 60, .null, .null, .int (zi x6), .int (zi x7), .int (zi x8), .int (zi x9), .int (zi x10), .int (zi x11), .int (zi x12), .int (zi x13)], [.int (zi r13)], M12)) rfl ?_
            obtain ⟨r14, hv⟩ := hv
            refine am_xn 1 (c1 := (if zi r13 = zi 0 then 435 else 431, [.ref 0, .ref 58, .ref 59, .ref 60, .null, .null, .int (zi x6), .int (zi x7), .int (zi x8), .int (zi x9), .int (zi x10), .int (zi x11), .int (zi x12), .int (zi x13)], [], M12)) rfl (am_xeq r14 (by decide) (fun h => ?_) (fun h => ?_))
            · replace hv := hv.1 h
              refine am_xn 2 (c1 := (438, [.ref 0, .ref 58, .ref 59, .ref 60, .null, .null, .int (zi x6), .int (zi x7), .int (zi x8), .int (zi x9), .int (zi x10), .int (zi x11), .int (zi x12), .int (zi 0)], [], M12)) rfl ?_
              exact hv
            · replace hv := hv.2 h
              refine am_xn 3 (c1 := (438, [.ref 0, .ref 58, .ref 59, .ref 60, .null, .null, .int (zi x6), .int (zi x7), .int (zi x8), .int (zi x9), .int (zi x10), .int (zi x11), .int (zi x12), .int (zi 1)], [], M12)) rfl ?_
              exact hv
  · replace hv := hv.2 h
    exact hv
set_option maxRecDepth 100000 in
theorem vc_w_op_438 (x6 : Int) (x7 : Int) (x8 : Int) (x9 : Int) (x10 : Int) (x11 : Int) (x12 : Int) (x13 : Int) (M : am_M) (Q : Option Value → am_M → Prop) (hv : (zr x13) ∧ ((x13 = 0 → am_x t_LAW_typesOperation (475, [.null, .ref 58, .ref 59, .ref 60, .null, .null, .int (zi x6), .int (zi x7), .int (zi x8), .int (zi x9), .int (zi x10), .int (zi x11), .int (zi x12), .int (zi 0)], [], M) Q) ∧ (¬ x13 = 0 → (zr x9) ∧ ((x9 = 0 → am_x t_LAW_typesOperation (475, [.null, .ref 58, .ref 59, .ref 60, .null, .null, .int (zi x6), .int (zi x7), .int (zi x8), .int (zi x9), .int (zi x10), .int (zi x11), .int (zi x12), .int (zi 1)], [], M) Q) ∧ (¬ x9 = 0 → ∃ (r4 : Int) (M3 : am_M), am_call t_LAW_types [.ref 0, .long (zl 544432502)] M (some (.int (zi r4))) M3 ∧ ((zr r4) ∧ ((r4 = 0 → am_x t_LAW_typesOperation (475, [.null, .ref 58, .ref 59, .ref 60, .null, .null, .int (zi x6), .int (zi x7), .int (zi x8), .int (zi x9), .int (zi x10), .int (zi x11), .int (zi x12), .int (zi 0)], [], M3) Q) ∧ (¬ r4 = 0 → ∃ (r7 : Int) (M6 : am_M), am_call t_LAW_types [.ref 0, .long (zl 6909543)] M3 (some (.int (zi r7))) M6 ∧ ((zr r7) ∧ ((r7 = 0 → am_x t_LAW_typesOperation (475, [.null, .ref 58, .ref 59, .ref 60, .null, .null, .int (zi x6), .int (zi x7), .int (zi x8), .int (zi x9), .int (zi x10), .int (zi x11), .int (zi x12), .int (zi 0)], [], M6) Q) ∧ (¬ r7 = 0 → am_x t_LAW_typesOperation (475, [.null, .ref 58, .ref 59, .ref 60, .null, .null, .int (zi x6), .int (zi x7), .int (zi x8), .int (zi x9), .int (zi x10), .int (zi x11), .int (zi x12), .int (zi 1)], [], M6) Q))))))))))) : am_x t_LAW_typesOperation (438, [.ref 0, .ref 58, .ref 59, .ref 60, .null, .null, .int (zi x6), .int (zi x7), .int (zi x8), .int (zi x9), .int (zi x10), .int (zi x11), .int (zi x12), .int (zi x13)], [], M) Q := by
  obtain ⟨r1, hv⟩ := hv
  refine am_xn 2 (c1 := (if zi x13 = zi 0 then 472 else 443, [.ref 0, .ref 58, .ref 59, .ref 60, .null, .null, .int (zi x6), .int (zi x7), .int (zi x8), .int (zi x9), .int (zi x10), .int (zi x11), .int (zi x12), .int (zi x13)], [], M)) rfl (am_xeq r1 (by decide) (fun h => ?_) (fun h => ?_))
  · replace hv := hv.1 h
    refine am_xn 2 (c1 := (475, [.ref 0, .ref 58, .ref 59, .ref 60, .null, .null, .int (zi x6), .int (zi x7), .int (zi x8), .int (zi x9), .int (zi x10), .int (zi x11), .int (zi x12), .int (zi 0)], [], M)) rfl ?_
    refine am_xf 0 ?_
    exact hv
  · replace hv := hv.2 h
    obtain ⟨r2, hv⟩ := hv
    refine am_xn 2 (c1 := (if zi x9 = zi 0 then 468 else 448, [.ref 0, .ref 58, .ref 59, .ref 60, .null, .null, .int (zi x6), .int (zi x7), .int (zi x8), .int (zi x9), .int (zi x10), .int (zi x11), .int (zi x12), .int (zi x13)], [], M)) rfl (am_xeq r2 (by decide) (fun h => ?_) (fun h => ?_))
    · replace hv := hv.1 h
      refine am_xn 3 (c1 := (475, [.ref 0, .ref 58, .ref 59, .ref 60, .null, .null, .int (zi x6), .int (zi x7), .int (zi x8), .int (zi x9), .int (zi x10), .int (zi x11), .int (zi x12), .int (zi 1)], [], M)) rfl ?_
      refine am_xf 0 ?_
      exact hv
    · replace hv := hv.2 h
      refine am_xn 2 (c1 := (452, [.ref 0, .ref 58, .ref 59, .ref 60, .null, .null, .int (zi x6), .int (zi x7), .int (zi x8), .int (zi x9), .int (zi x10), .int (zi x11), .int (zi x12), .int (zi x13)], [.long (zl 544432502), .ref 0], M)) rfl ?_
      obtain ⟨r4, M3, hc, hv⟩ := hv
      refine am_xc t_LAW_types (.invokestatic 69) 69 (av := [.ref 0, .long (zl 544432502)]) (rest := []) (rv := some (.int (zi r4))) (M' := M3) rfl rfl rfl rfl (Nat.le_of_ble_eq_true rfl) (fun h => nomatch h) (hc) ?_
      refine am_xn 0 (c1 := (455, [.ref 0, .ref 58, .ref 59, .ref 60, .null, .null, .int (zi x6), .int (zi x7), .int (zi x8), .int (zi x9), .int (zi x10), .int (zi x11), .int (zi x12), .int (zi x13)], [.int (zi r4)], M3)) rfl ?_
      obtain ⟨r5, hv⟩ := hv
      refine am_xn 1 (c1 := (if zi r4 = zi 0 then 472 else 458, [.ref 0, .ref 58, .ref 59, .ref 60, .null, .null, .int (zi x6), .int (zi x7), .int (zi x8), .int (zi x9), .int (zi x10), .int (zi x11), .int (zi x12), .int (zi x13)], [], M3)) rfl (am_xeq r5 (by decide) (fun h => ?_) (fun h => ?_))
      · replace hv := hv.1 h
        refine am_xn 2 (c1 := (475, [.ref 0, .ref 58, .ref 59, .ref 60, .null, .null, .int (zi x6), .int (zi x7), .int (zi x8), .int (zi x9), .int (zi x10), .int (zi x11), .int (zi x12), .int (zi 0)], [], M3)) rfl ?_
        refine am_xf 0 ?_
        exact hv
      · replace hv := hv.2 h
        refine am_xn 2 (c1 := (462, [.ref 0, .ref 58, .ref 59, .ref 60, .null, .null, .int (zi x6), .int (zi x7), .int (zi x8), .int (zi x9), .int (zi x10), .int (zi x11), .int (zi x12), .int (zi x13)], [.long (zl 6909543), .ref 0], M3)) rfl ?_
        obtain ⟨r7, M6, hc, hv⟩ := hv
        refine am_xc t_LAW_types (.invokestatic 69) 69 (av := [.ref 0, .long (zl 6909543)]) (rest := []) (rv := some (.int (zi r7))) (M' := M6) rfl rfl rfl rfl (Nat.le_of_ble_eq_true rfl) (fun h => nomatch h) (hc) ?_
        refine am_xn 0 (c1 := (465, [.ref 0, .ref 58, .ref 59, .ref 60, .null, .null, .int (zi x6), .int (zi x7), .int (zi x8), .int (zi x9), .int (zi x10), .int (zi x11), .int (zi x12), .int (zi x13)], [.int (zi r7)], M6)) rfl ?_
        obtain ⟨r8, hv⟩ := hv
        refine am_xn 1 (c1 := (if zi r7 = zi 0 then 472 else 468, [.ref 0, .ref 58, .ref 59, .ref 60, .null, .null, .int (zi x6), .int (zi x7), .int (zi x8), .int (zi x9), .int (zi x10), .int (zi x11), .int (zi x12), .int (zi x13)], [], M6)) rfl (am_xeq r8 (by decide) (fun h => ?_) (fun h => ?_))
        · replace hv := hv.1 h
          refine am_xn 2 (c1 := (475, [.ref 0, .ref 58, .ref 59, .ref 60, .null, .null, .int (zi x6), .int (zi x7), .int (zi x8), .int (zi x9), .int (zi x10), .int (zi x11), .int (zi x12), .int (zi 0)], [], M6)) rfl ?_
          refine am_xf 0 ?_
          exact hv
        · replace hv := hv.2 h
          refine am_xn 3 (c1 := (475, [.ref 0, .ref 58, .ref 59, .ref 60, .null, .null, .int (zi x6), .int (zi x7), .int (zi x8), .int (zi x9), .int (zi x10), .int (zi x11), .int (zi x12), .int (zi 1)], [], M6)) rfl ?_
          refine am_xf 0 ?_
          exact hv
set_option maxRecDepth 100000 in
theorem vc_w_op_475 (x6 : Int) (x7 : Int) (x8 : Int) (x9 : Int) (x10 : Int) (x11 : Int) (x12 : Int) (x13 : Int) (M : am_M) (Q : Option Value → am_M → Prop) (hv : (zr x7) ∧ ((zr x8) ∧ ((zr x11) ∧ ((zr x12) ∧ ((0 ≤ x6 ∧ x6 < 16) ∧ (∀ M5, M5 = zupl M 58 x6 (zlor (zlor (zlor (zlshl x7 60) (zlshl x8 40)) (zlshl x11 20)) x12) → (zr x9) ∧ ((x9 = 0 → (0 ≤ x6 ∧ x6 < 16) ∧ (∀ M8, M8 = zup M5 59 x6 ((0 + (2 * x10)) + (16 * (iv M5 60 0))) → (0 ≤ (25 : Int) ∧ (25 : Int) < 32) ∧ (∀ M10, M10 = zup M8 60 25 (x6 + 1) → (x13 = 0 ∨ x13 = 1) ∧ Q (some (.int (zi x13))) M10))) ∧ (¬ x9 = 0 → (0 ≤ x6 ∧ x6 < 16) ∧ (∀ M12, M12 = zup M5 59 x6 ((1 + (2 * x10)) + (16 * (iv M5 60 0))) → (0 ≤ (25 : Int) ∧ (25 : Int) < 32) ∧ (∀ M14, M14 = zup M12 60 25 (x6 + 1) → (x13 = 0 ∨ x13 = 1) ∧ Q (some (.int (zi x13))) M14)))))))))) : am_x t_LAW_typesOperation (475, [.null, .ref 58, .ref 59, .ref 60, .null, .null, .int (zi x6), .int (zi x7), .int (zi x8), .int (zi x9), .int (zi x10), .int (zi x11), .int (zi x12), .int (zi x13)], [], M) Q := by
  obtain ⟨r1, hv⟩ := hv
  refine am_xi2l 4 x7 r1 (pc := 481) (ls := [.null, .ref 58, .ref 59, .ref 60, .null, .null, .int (zi x6), .int (zi x7), .int (zi x8), .int (zi x9), .int (zi x10), .int (zi x11), .int (zi x12), .int (zi x13)]) (st := [.int (zi x6), .ref 58]) rfl ?_
  refine am_xlbit 2 (zl x7 <<< ((zi 60).toInt64 &&& 63)) (pc := 484) (ls := [.null, .ref 58, .ref 59, .ref 60, .null, .null, .int (zi x6), .int (zi x7), .int (zi x8), .int (zi x9), .int (zi x10), .int (zi x11), .int (zi x12), .int (zi x13)]) (st := [.int (zi x6), .ref 58]) rfl ?_
  refine am_xn 0 (c1 := (484, [.null, .ref 58, .ref 59, .ref 60, .null, .null, .int (zi x6), .int (zi x7), .int (zi x8), .int (zi x9), .int (zi x10), .int (zi x11), .int (zi x12), .int (zi x13)], [.long (zl (zlshl x7 60)), .int (zi x6), .ref 58], M)) rfl ?_
  obtain ⟨r2, hv⟩ := hv
  refine am_xi2l 2 x8 r2 (pc := 487) (ls := [.null, .ref 58, .ref 59, .ref 60, .null, .null, .int (zi x6), .int (zi x7), .int (zi x8), .int (zi x9), .int (zi x10), .int (zi x11), .int (zi x12), .int (zi x13)]) (st := [.long (zl (zlshl x7 60)), .int (zi x6), .ref 58]) rfl ?_
  refine am_xlbit 2 (zl x8 <<< ((zi 40).toInt64 &&& 63)) (pc := 490) (ls := [.null, .ref 58, .ref 59, .ref 60, .null, .null, .int (zi x6), .int (zi x7), .int (zi x8), .int (zi x9), .int (zi x10), .int (zi x11), .int (zi x12), .int (zi x13)]) (st := [.long (zl (zlshl x7 60)), .int (zi x6), .ref 58]) rfl ?_
  refine am_xn 0 (c1 := (490, [.null, .ref 58, .ref 59, .ref 60, .null, .null, .int (zi x6), .int (zi x7), .int (zi x8), .int (zi x9), .int (zi x10), .int (zi x11), .int (zi x12), .int (zi x13)], [.long (zl (zlshl x8 40)), .long (zl (zlshl x7 60)), .int (zi x6), .ref 58], M)) rfl ?_
  refine am_xlbit 1 (zl (zlshl x7 60) ||| zl (zlshl x8 40)) (pc := 491) (ls := [.null, .ref 58, .ref 59, .ref 60, .null, .null, .int (zi x6), .int (zi x7), .int (zi x8), .int (zi x9), .int (zi x10), .int (zi x11), .int (zi x12), .int (zi x13)]) (st := [.int (zi x6), .ref 58]) rfl ?_
  refine am_xn 0 (c1 := (491, [.null, .ref 58, .ref 59, .ref 60, .null, .null, .int (zi x6), .int (zi x7), .int (zi x8), .int (zi x9), .int (zi x10), .int (zi x11), .int (zi x12), .int (zi x13)], [.long (zl (zlor (zlshl x7 60) (zlshl x8 40))), .int (zi x6), .ref 58], M)) rfl ?_
  obtain ⟨r3, hv⟩ := hv
  refine am_xi2l 2 x11 r3 (pc := 494) (ls := [.null, .ref 58, .ref 59, .ref 60, .null, .null, .int (zi x6), .int (zi x7), .int (zi x8), .int (zi x9), .int (zi x10), .int (zi x11), .int (zi x12), .int (zi x13)]) (st := [.long (zl (zlor (zlshl x7 60) (zlshl x8 40))), .int (zi x6), .ref 58]) rfl ?_
  refine am_xlbit 2 (zl x11 <<< ((zi 20).toInt64 &&& 63)) (pc := 497) (ls := [.null, .ref 58, .ref 59, .ref 60, .null, .null, .int (zi x6), .int (zi x7), .int (zi x8), .int (zi x9), .int (zi x10), .int (zi x11), .int (zi x12), .int (zi x13)]) (st := [.long (zl (zlor (zlshl x7 60) (zlshl x8 40))), .int (zi x6), .ref 58]) rfl ?_
  refine am_xn 0 (c1 := (497, [.null, .ref 58, .ref 59, .ref 60, .null, .null, .int (zi x6), .int (zi x7), .int (zi x8), .int (zi x9), .int (zi x10), .int (zi x11), .int (zi x12), .int (zi x13)], [.long (zl (zlshl x11 20)), .long (zl (zlor (zlshl x7 60) (zlshl x8 40))), .int (zi x6), .ref 58], M)) rfl ?_
  refine am_xlbit 1 (zl (zlor (zlshl x7 60) (zlshl x8 40)) ||| zl (zlshl x11 20)) (pc := 498) (ls := [.null, .ref 58, .ref 59, .ref 60, .null, .null, .int (zi x6), .int (zi x7), .int (zi x8), .int (zi x9), .int (zi x10), .int (zi x11), .int (zi x12), .int (zi x13)]) (st := [.int (zi x6), .ref 58]) rfl ?_
  refine am_xn 0 (c1 := (498, [.null, .ref 58, .ref 59, .ref 60, .null, .null, .int (zi x6), .int (zi x7), .int (zi x8), .int (zi x9), .int (zi x10), .int (zi x11), .int (zi x12), .int (zi x13)], [.long (zl (zlor (zlor (zlshl x7 60) (zlshl x8 40)) (zlshl x11 20))), .int (zi x6), .ref 58], M)) rfl ?_
  obtain ⟨r4, hv⟩ := hv
  refine am_xi2l 2 x12 r4 (pc := 501) (ls := [.null, .ref 58, .ref 59, .ref 60, .null, .null, .int (zi x6), .int (zi x7), .int (zi x8), .int (zi x9), .int (zi x10), .int (zi x11), .int (zi x12), .int (zi x13)]) (st := [.long (zl (zlor (zlor (zlshl x7 60) (zlshl x8 40)) (zlshl x11 20))), .int (zi x6), .ref 58]) rfl ?_
  refine am_xlbit 1 (zl (zlor (zlor (zlshl x7 60) (zlshl x8 40)) (zlshl x11 20)) ||| zl x12) (pc := 502) (ls := [.null, .ref 58, .ref 59, .ref 60, .null, .null, .int (zi x6), .int (zi x7), .int (zi x8), .int (zi x9), .int (zi x10), .int (zi x11), .int (zi x12), .int (zi x13)]) (st := [.int (zi x6), .ref 58]) rfl ?_
  refine am_xn 0 (c1 := (502, [.null, .ref 58, .ref 59, .ref 60, .null, .null, .int (zi x6), .int (zi x7), .int (zi x8), .int (zi x9), .int (zi x10), .int (zi x11), .int (zi x12), .int (zi x13)], [.long (zl (zlor (zlor (zlor (zlshl x7 60) (zlshl x8 40)) (zlshl x11 20)) x12)), .int (zi x6), .ref 58], M)) rfl ?_
  obtain ⟨r6, hv⟩ := hv
  refine am_xlast rfl r6 ?_
  refine am_xn 0 (c1 := (503, [.null, .ref 58, .ref 59, .ref 60, .null, .null, .int (zi x6), .int (zi x7), .int (zi x8), .int (zi x9), .int (zi x10), .int (zi x11), .int (zi x12), .int (zi x13)], [], zupl M 58 x6 (zlor (zlor (zlor (zlshl x7 60) (zlshl x8 40)) (zlshl x11 20)) x12))) rfl ?_
  obtain ⟨M5, eM5⟩ : ∃ m, m = zupl M 58 x6 (zlor (zlor (zlor (zlshl x7 60) (zlshl x8 40)) (zlshl x11 20)) x12) := ⟨_, rfl⟩
  replace hv := hv M5 eM5
  rw [← eM5]
  obtain ⟨r7, hv⟩ := hv
  refine am_xn 4 (c1 := (if zi x9 = zi 0 then 515 else 511, [.null, .ref 58, .ref 59, .ref 60, .null, .null, .int (zi x6), .int (zi x7), .int (zi x8), .int (zi x9), .int (zi x10), .int (zi x11), .int (zi x12), .int (zi x13)], [.int (zi x6), .ref 59], M5)) rfl (am_xeq r7 (by decide) (fun h => ?_) (fun h => ?_))
  · replace hv := hv.1 h
    refine am_ximul 4 2 x10 (pc := 520) (ls := [.null, .ref 58, .ref 59, .ref 60, .null, .null, .int (zi x6), .int (zi x7), .int (zi x8), .int (zi x9), .int (zi x10), .int (zi x11), .int (zi x12), .int (zi x13)]) (st := [.int (zi 0), .int (zi x6), .ref 59]) rfl ?_
    refine am_xiadd 1 0 (2 * x10) (pc := 521) (ls := [.null, .ref 58, .ref 59, .ref 60, .null, .null, .int (zi x6), .int (zi x7), .int (zi x8), .int (zi x9), .int (zi x10), .int (zi x11), .int (zi x12), .int (zi x13)]) (st := [.int (zi x6), .ref 59]) rfl ?_
    refine am_xrd 4 60 0 (pc := 526) (ls := [.null, .ref 58, .ref 59, .ref 60, .null, .null, .int (zi x6), .int (zi x7), .int (zi x8), .int (zi x9), .int (zi x10), .int (zi x11), .int (zi x12), .int (zi x13)]) (st := [.int (zi 16), .int (zi (0 + (2 * x10))), .int (zi x6), .ref 59]) rfl ?_
    refine am_ximul 1 16 (iv M5 60 0) (pc := 527) (ls := [.null, .ref 58, .ref 59, .ref 60, .null, .null, .int (zi x6), .int (zi x7), .int (zi x8), .int (zi x9), .int (zi x10), .int (zi x11), .int (zi x12), .int (zi x13)]) (st := [.int (zi (0 + (2 * x10))), .int (zi x6), .ref 59]) rfl ?_
    refine am_xiadd 1 (0 + (2 * x10)) (16 * (iv M5 60 0)) (pc := 528) (ls := [.null, .ref 58, .ref 59, .ref 60, .null, .null, .int (zi x6), .int (zi x7), .int (zi x8), .int (zi x9), .int (zi x10), .int (zi x11), .int (zi x12), .int (zi x13)]) (st := [.int (zi x6), .ref 59]) rfl ?_
    obtain ⟨r9, hv⟩ := hv
    refine am_xast rfl rfl rfl r9 ?_
    refine am_xn 0 (c1 := (529, [.null, .ref 58, .ref 59, .ref 60, .null, .null, .int (zi x6), .int (zi x7), .int (zi x8), .int (zi x9), .int (zi x10), .int (zi x11), .int (zi x12), .int (zi x13)], [], zup M5 59 x6 ((0 + (2 * x10)) + (16 * (iv M5 60 0))))) rfl ?_
    obtain ⟨M8, eM8⟩ : ∃ m, m = zup M5 59 x6 ((0 + (2 * x10)) + (16 * (iv M5 60 0))) := ⟨_, rfl⟩
    replace hv := hv M8 eM8
    rw [← eM8]
    refine am_xiadd 5 x6 1 (pc := 536) (ls := [.null, .ref 58, .ref 59, .ref 60, .null, .null, .int (zi x6), .int (zi x7), .int (zi x8), .int (zi x9), .int (zi x10), .int (zi x11), .int (zi x12), .int (zi x13)]) (st := [.int (zi 25), .ref 60]) rfl ?_
    obtain ⟨r11, hv⟩ := hv
    refine am_xast rfl rfl rfl r11 ?_
    refine am_xn 0 (c1 := (537, [.null, .ref 58, .ref 59, .ref 60, .null, .null, .int (zi x6), .int (zi x7), .int (zi x8), .int (zi x9), .int (zi x10), .int (zi x11), .int (zi x12), .int (zi x13)], [], zup M8 60 25 (x6 + 1))) rfl ?_
    obtain ⟨M10, eM10⟩ : ∃ m, m = zup M8 60 25 (x6 + 1) := ⟨_, rfl⟩
    replace hv := hv M10 eM10
    rw [← eM10]
    refine am_xn 1 (c1 := (539, [.null, .ref 58, .ref 59, .ref 60, .null, .null, .int (zi x6), .int (zi x7), .int (zi x8), .int (zi x9), .int (zi x10), .int (zi x11), .int (zi x12), .int (zi x13)], [.int (zi x13)], M10)) rfl ?_
    exact am_xr (some (.int (zi x13))) ⟨rfl, rfl, .boolean, rfl, zi_nb hv.1⟩ hv.2
  · replace hv := hv.2 h
    refine am_ximul 5 2 x10 (pc := 520) (ls := [.null, .ref 58, .ref 59, .ref 60, .null, .null, .int (zi x6), .int (zi x7), .int (zi x8), .int (zi x9), .int (zi x10), .int (zi x11), .int (zi x12), .int (zi x13)]) (st := [.int (zi 1), .int (zi x6), .ref 59]) rfl ?_
    refine am_xiadd 1 1 (2 * x10) (pc := 521) (ls := [.null, .ref 58, .ref 59, .ref 60, .null, .null, .int (zi x6), .int (zi x7), .int (zi x8), .int (zi x9), .int (zi x10), .int (zi x11), .int (zi x12), .int (zi x13)]) (st := [.int (zi x6), .ref 59]) rfl ?_
    refine am_xrd 4 60 0 (pc := 526) (ls := [.null, .ref 58, .ref 59, .ref 60, .null, .null, .int (zi x6), .int (zi x7), .int (zi x8), .int (zi x9), .int (zi x10), .int (zi x11), .int (zi x12), .int (zi x13)]) (st := [.int (zi 16), .int (zi (1 + (2 * x10))), .int (zi x6), .ref 59]) rfl ?_
    refine am_ximul 1 16 (iv M5 60 0) (pc := 527) (ls := [.null, .ref 58, .ref 59, .ref 60, .null, .null, .int (zi x6), .int (zi x7), .int (zi x8), .int (zi x9), .int (zi x10), .int (zi x11), .int (zi x12), .int (zi x13)]) (st := [.int (zi (1 + (2 * x10))), .int (zi x6), .ref 59]) rfl ?_
    refine am_xiadd 1 (1 + (2 * x10)) (16 * (iv M5 60 0)) (pc := 528) (ls := [.null, .ref 58, .ref 59, .ref 60, .null, .null, .int (zi x6), .int (zi x7), .int (zi x8), .int (zi x9), .int (zi x10), .int (zi x11), .int (zi x12), .int (zi x13)]) (st := [.int (zi x6), .ref 59]) rfl ?_
    obtain ⟨r13, hv⟩ := hv
    refine am_xast rfl rfl rfl r13 ?_
    refine am_xn 0 (c1 := (529, [.null, .ref 58, .ref 59, .ref 60, .null, .null, .int (zi x6), .int (zi x7), .int (zi x8), .int (zi x9), .int (zi x10), .int (zi x11), .int (zi x12), .int (zi x13)], [], zup M5 59 x6 ((1 + (2 * x10)) + (16 * (iv M5 60 0))))) rfl ?_
    obtain ⟨M12, eM12⟩ : ∃ m, m = zup M5 59 x6 ((1 + (2 * x10)) + (16 * (iv M5 60 0))) := ⟨_, rfl⟩
    replace hv := hv M12 eM12
    rw [← eM12]
    refine am_xiadd 5 x6 1 (pc := 536) (ls := [.null, .ref 58, .ref 59, .ref 60, .null, .null, .int (zi x6), .int (zi x7), .int (zi x8), .int (zi x9), .int (zi x10), .int (zi x11), .int (zi x12), .int (zi x13)]) (st := [.int (zi 25), .ref 60]) rfl ?_
    obtain ⟨r15, hv⟩ := hv
    refine am_xast rfl rfl rfl r15 ?_
    refine am_xn 0 (c1 := (537, [.null, .ref 58, .ref 59, .ref 60, .null, .null, .int (zi x6), .int (zi x7), .int (zi x8), .int (zi x9), .int (zi x10), .int (zi x11), .int (zi x12), .int (zi x13)], [], zup M12 60 25 (x6 + 1))) rfl ?_
    obtain ⟨M14, eM14⟩ : ∃ m, m = zup M12 60 25 (x6 + 1) := ⟨_, rfl⟩
    replace hv := hv M14 eM14
    rw [← eM14]
    refine am_xn 1 (c1 := (539, [.null, .ref 58, .ref 59, .ref 60, .null, .null, .int (zi x6), .int (zi x7), .int (zi x8), .int (zi x9), .int (zi x10), .int (zi x11), .int (zi x12), .int (zi x13)], [.int (zi x13)], M14)) rfl ?_
    exact am_xr (some (.int (zi x13))) ⟨rfl, rfl, .boolean, rfl, zi_nb hv.1⟩ hv.2
def kwL (K : Int) : List Int := if K = 0 then [105, 110, 115, 101, 114, 116] else if K = 1 then [114, 101, 112, 108] ++ [97, 99, 101] else if K = 2 then [114, 101, 112, 101, 97, 108] else if K = 3 then [114, 101, 110, 117, 109, 98, 101, 114] else [105, 110]
theorem kwL_len (K : Int) : (kwL K).length ≤ 8 := by
  unfold kwL
  repeat' split
  all_goals exact Nat.le_of_ble_eq_true rfl
def wsL (ws f s : Int) : List Int := if ws < 1 then [] else if ws < 2 then wdL f else wdL f ++ wdL s
def m1L (K ws f s : Int) : List Int := if K < 2 then wsL ws f s else []
def m2L (K f : Int) : List Int := if K = 3 then [32, 116, 111, 32] ++ numL f else []
def m3L (K f s : Int) : List Int := if K = 4 then [32, 102, 111, 114] ++ wdL f ++ [32, 112, 117, 116] ++ wdL s else []
def svL (sv : Int) : List Int := if sv = 0 then [] else [32, 115, 97, 118] ++ [105, 110, 103]
theorem m1L_len (K ws f s : Int) : (m1L K ws f s).length ≤ 10 := by
  have h1 := wdL_len f
  have h2 := wdL_len s
  unfold m1L wsL
  repeat' split
  all_goals first | exact Nat.zero_le _ | omega | (rw [List.length_append]; omega)
theorem m2L_len (K f : Int) : (m2L K f).length ≤ 7 := by
  have h1 := numL_len f
  unfold m2L
  split
  · rw [List.length_append]; show 4 + _ ≤ 7; omega
  · exact Nat.zero_le _
theorem m3L_len (K f s : Int) : (m3L K f s).length ≤ 18 := by
  have h1 := wdL_len f
  have h2 := wdL_len s
  unfold m3L
  split
  · rw [List.length_append, List.length_append, List.length_append]; show 4 + _ + 4 + _ ≤ 18; omega
  · exact Nat.zero_le _
theorem svL_len (sv : Int) : (svL sv).length ≤ 7 := by
  unfold svL
  split <;> exact Nat.le_of_ble_eq_true rfl
/-- an operation's text -/
def opL (K n sv ws f s : Int) : List Int := kwL K ++ [32] ++ numL n ++ m1L K ws f s ++ m2L K f ++ m3L K f s ++ svL sv
/-- an operation of the law -/
def opR (K n sv ws f s : Int) : Prop := ((0 ≤ K ∧ K ≤ 4) ∧ isNum n ∧ (sv = 0 ∨ sv = 1) ∧ (K = 0 ∨ K = 3 → sv = 0) ∧ (0 ≤ ws ∧ ws ≤ 2) ∧ (2 ≤ K → ws = 0)) ∧ (K < 2 → isWd f ∧ isWd s) ∧ (K = 3 → isNum f ∧ (0 ≤ s ∧ s ≤ 3)) ∧ (K = 2 ∨ K = 4 → (0 ≤ f ∧ f ≤ 3) ∧ (0 ≤ s ∧ s ≤ 3))
theorem opL_len (K n sv ws f s : Int) (h : opR K n sv ws f s) : (opL K n sv ws f s).length ≤ 37 := by
  have h1 := kwL_len K
  have h2 := numL_len n
  have h6 := svL_len sv
  have e1 : ([32] : List Int).length = 1 := rfl
  have h345 : (m1L K ws f s).length + (m2L K f).length + (m3L K f s).length ≤ 18 := by
    have h3 := m1L_len K ws f s
    have h4 := m2L_len K f
    have h5 := m3L_len K f s
    by_cases k2 : K < 2
    · have a : (m2L K f).length = 0 := by unfold m2L; rw [if_neg (by omega)]; rfl
      have b : (m3L K f s).length = 0 := by unfold m3L; rw [if_neg (by omega)]; rfl
      omega
    · have c : (m1L K ws f s).length = 0 := by unfold m1L; rw [if_neg k2]; rfl
      by_cases k3 : K = 3
      · have b : (m3L K f s).length = 0 := by unfold m3L; rw [if_neg (by omega)]; rfl
        omega
      · have a : (m2L K f).length = 0 := by unfold m2L; rw [if_neg k3]; rfl
        omega
  unfold opL
  simp only [List.length_append]
  omega
section TO
variable {Q : Option Value → am_M → Prop} {l : List Int} {M : am_M} {k K n sv ws f s : Int}
theorem to_177 (t : TXL M l) (hl : l.length + 16 ≤ 120) (k0 : 0 ≤ K) (k4 : K ≤ 4) (kk : ∀ M', TYP (l ++ kwL K) M M' → am_x t_LAW_typesOperation (267, [.ref 0, .ref 58, .ref 59, .ref 60, .null, .null, .int (zi k), .int (zi K), .int (zi n), .int (zi sv), .int (zi ws), .int (zi f), .int (zi s), .int (zi 1)], [], M') Q) : am_x t_LAW_typesOperation (177, [.ref 0, .ref 58, .ref 59, .ref 60, .null, .null, .int (zi k), .int (zi K), .int (zi n), .int (zi sv), .int (zi ws), .int (zi f), .int (zi s), .null], [], M) Q := by
  unfold kwL at kk
  refine vc_w_op_177 k K n sv ws f s M _ ⟨⟨by omega, by omega⟩, fun q => ?_, fun q => ⟨fun q1 => ?_, fun q1 => ⟨fun q2 => ?_, fun q2 => ⟨fun q3 => ?_, fun q3 => ?_⟩⟩⟩⟩
  · obtain ⟨M1, c1, d1⟩ := sp_w_types ok_0 t (by omega)
    rw [if_pos q] at kk
    rw [ty_100] at d1
    exact ⟨_, M1, c1, kk M1 d1⟩
  · obtain ⟨M1, c1, d1⟩ := sp_w_types ok_1 t (by omega)
    rw [ty_101] at d1
    have e : (l ++ [114, 101, 112, 108]).length = l.length + 4 := by rw [List.length_append]; rfl
    obtain ⟨M2, c2, d2⟩ := sp_w_types ok_2 d1.1 (by omega)
    rw [ty_102] at d2
    rw [if_neg q, if_pos q1] at kk
    exact ⟨_, M1, c1, by decide, fun z => by omega, fun _ => ⟨_, M2, c2, by decide, fun z => by omega, fun _ => kk M2 (by rw [← List.append_assoc]; exact TYP_t d1 d2)⟩⟩
  · obtain ⟨M1, c1, d1⟩ := sp_w_types ok_3 t (by omega)
    rw [if_neg q, if_neg q1, if_pos q2] at kk
    rw [ty_103] at d1
    exact ⟨_, M1, c1, kk M1 d1⟩
  · obtain ⟨M1, c1, d1⟩ := sp_w_types ok_4 t (by omega)
    rw [if_neg q, if_neg q1, if_neg q2, if_pos q3] at kk
    rw [ty_104] at d1
    exact ⟨_, M1, c1, kk M1 d1⟩
  · obtain ⟨M1, c1, d1⟩ := sp_w_types ok_5 t (by omega)
    rw [if_neg q, if_neg q1, if_neg q2, if_neg q3] at kk
    rw [ty_105] at d1
    exact ⟨_, M1, c1, kk M1 d1⟩
theorem to_267 (t : TXL M l) (hl : l.length + 4 ≤ 120) (hn : isNum n) (kk : ∀ M', TYP (l ++ [32] ++ numL n) M M' → am_x t_LAW_typesOperation (297, [.ref 0, .ref 58, .ref 59, .ref 60, .null, .null, .int (zi k), .int (zi K), .int (zi n), .int (zi sv), .int (zi ws), .int (zi f), .int (zi s), .int (zi 1)], [], M') Q) : am_x t_LAW_typesOperation (267, [.ref 0, .ref 58, .ref 59, .ref 60, .null, .null, .int (zi k), .int (zi K), .int (zi n), .int (zi sv), .int (zi ws), .int (zi f), .int (zi s), .int (zi 1)], [], M) Q := by
  obtain ⟨M1, c1, d1⟩ := sp_k_type (x := 32) t (by omega) (by omega) (by omega)
  have e : (l ++ [32]).length = l.length + 1 := by rw [List.length_append]; rfl
  obtain ⟨M2, c2, d2⟩ := sp_w_typesNumber d1.1 (by omega) hn
  exact vc_w_op_267 k K n sv ws f s 1 M _ ⟨by decide, fun z => by omega, fun _ => ⟨_, M1, c1, ⟨by omega, by omega⟩, fun _ => ⟨_, M2, c2, by decide, fun z => by omega, fun _ => kk M2 (TYP_t d1 d2)⟩, fun z => by omega⟩⟩
theorem to_297 (t : TXL M l) (hl : l.length + 10 ≤ 120) (k0 : 0 ≤ K) (k4 : K ≤ 4) (hw : 0 ≤ ws ∧ ws ≤ 2) (h : K < 2 → isWd f ∧ isWd s) (kk : ∀ M', TYP (l ++ m1L K ws f s) M M' → am_x t_LAW_typesOperation (345, [.ref 0, .ref 58, .ref 59, .ref 60, .null, .null, .int (zi k), .int (zi K), .int (zi n), .int (zi sv), .int (zi ws), .int (zi f), .int (zi s), .int (zi 1)], [], M') Q) : am_x t_LAW_typesOperation (297, [.ref 0, .ref 58, .ref 59, .ref 60, .null, .null, .int (zi k), .int (zi K), .int (zi n), .int (zi sv), .int (zi ws), .int (zi f), .int (zi s), .int (zi 1)], [], M) Q := by
  unfold m1L wsL at kk
  refine vc_w_op_297 k K n sv ws f s 1 M _ ⟨⟨by omega, by omega⟩, fun k2 => ⟨by decide, fun z => by omega, fun _ => ⟨⟨by omega, by omega⟩, fun q => ?_, fun q => ?_⟩⟩, fun k2 => ?_⟩
  · rw [if_pos k2, if_pos q, List.append_nil] at kk
    exact kk M ⟨t, fun _ _ _ => rfl⟩
  · obtain ⟨M1, c1, d1⟩ := sp_w_typesWord t (by omega) (h k2).1
    rw [if_pos k2, if_neg (by omega)] at kk
    refine ⟨_, M1, c1, by decide, fun z => by omega, fun _ => ⟨fun q2 => ?_, fun q2 => ?_⟩⟩
    · rw [if_pos q2] at kk
      exact kk M1 d1
    · rw [if_neg (by omega), ← List.append_assoc] at kk
      have e : (l ++ wdL f).length = l.length + (wdL f).length := List.length_append
      have := wdL_len f
      obtain ⟨M2, c2, d2⟩ := sp_w_typesWord d1.1 (by omega) (h k2).2
      exact ⟨_, M2, c2, by decide, fun z => by omega, fun _ => kk M2 (TYP_t d1 d2)⟩
  · rw [if_neg (by omega), List.append_nil] at kk
    exact kk M ⟨t, fun _ _ _ => rfl⟩
theorem to_345 (t : TXL M l) (hl : l.length + 8 ≤ 120) (k0 : 0 ≤ K) (k4 : K ≤ 4) (h : K = 3 → isNum f) (kk : ∀ M', TYP (l ++ m2L K f) M M' → am_x t_LAW_typesOperation (382, [.ref 0, .ref 58, .ref 59, .ref 60, .null, .null, .int (zi k), .int (zi K), .int (zi n), .int (zi sv), .int (zi ws), .int (zi f), .int (zi s), .int (zi 1)], [], M') Q) : am_x t_LAW_typesOperation (345, [.ref 0, .ref 58, .ref 59, .ref 60, .null, .null, .int (zi k), .int (zi K), .int (zi n), .int (zi sv), .int (zi ws), .int (zi f), .int (zi s), .int (zi 1)], [], M) Q := by
  unfold m2L at kk
  refine vc_w_op_345 k K n sv ws f s 1 M _ ⟨⟨by omega, by omega⟩, fun k3 => ⟨by decide, fun z => by omega, fun _ => ?_⟩, fun k3 => ?_⟩
  · obtain ⟨M1, c1, d1⟩ := sp_w_types ok_6 t (by omega)
    rw [ty_106] at d1
    have e : (l ++ [32, 116, 111, 32]).length = l.length + 4 := by rw [List.length_append]; rfl
    obtain ⟨M2, c2, d2⟩ := sp_w_typesNumber d1.1 (by omega) (h k3)
    rw [if_pos k3, ← List.append_assoc] at kk
    exact ⟨_, M1, c1, by decide, fun z => by omega, fun _ => ⟨_, M2, c2, by decide, fun z => by omega, fun _ => kk M2 (TYP_t d1 d2)⟩⟩
  · rw [if_neg k3, List.append_nil] at kk
    exact kk M ⟨t, fun _ _ _ => rfl⟩
theorem to_382 (t : TXL M l) (hl : l.length + 18 ≤ 120) (k0 : 0 ≤ K) (k4 : K ≤ 4) (h : K = 4 → isWd f ∧ isWd s) (kk : ∀ M', TYP (l ++ m3L K f s) M M' → am_x t_LAW_typesOperation (438, [.ref 0, .ref 58, .ref 59, .ref 60, .null, .null, .int (zi k), .int (zi K), .int (zi n), .int (zi sv), .int (zi ws), .int (zi f), .int (zi s), .int (zi 1)], [], M') Q) : am_x t_LAW_typesOperation (382, [.ref 0, .ref 58, .ref 59, .ref 60, .null, .null, .int (zi k), .int (zi K), .int (zi n), .int (zi sv), .int (zi ws), .int (zi f), .int (zi s), .int (zi 1)], [], M) Q := by
  unfold m3L at kk
  refine vc_w_op_382 k K n sv ws f s 1 M _ ⟨⟨by omega, by omega⟩, fun k3 => ⟨by decide, fun z => by omega, fun _ => ?_⟩, fun k3 => ?_⟩
  · have w1 := wdL_len f
    have w2 := wdL_len s
    obtain ⟨M1, c1, d1⟩ := sp_w_types ok_7 t (by omega)
    rw [ty_107] at d1
    have e1 : (l ++ [32, 102, 111, 114]).length = l.length + 4 := by rw [List.length_append]; rfl
    obtain ⟨M2, c2, d2⟩ := sp_w_typesWord d1.1 (by omega) (h k3).1
    have e2 : (l ++ [32, 102, 111, 114] ++ wdL f).length = l.length + 4 + (wdL f).length := by rw [List.length_append, e1]
    obtain ⟨M3, c3, d3⟩ := sp_w_types ok_8 d2.1 (by omega)
    rw [ty_108] at d3
    have e3 : (l ++ [32, 102, 111, 114] ++ wdL f ++ [32, 112, 117, 116]).length = l.length + 4 + (wdL f).length + 4 := by rw [List.length_append, e2]; rfl
    obtain ⟨M4, c4, d4⟩ := sp_w_typesWord d3.1 (by omega) (h k3).2
    rw [if_pos k3, ← List.append_assoc, ← List.append_assoc, ← List.append_assoc] at kk
    exact ⟨_, M1, c1, by decide, fun z => by omega, fun _ => ⟨_, M2, c2, by decide, fun z => by omega, fun _ => ⟨_, M3, c3, by decide, fun z => by omega, fun _ => ⟨_, M4, c4, by decide, fun z => by omega, fun _ => kk M4 (TYP_t (TYP_t (TYP_t d1 d2) d3) d4)⟩⟩⟩⟩
  · rw [if_neg k3, List.append_nil] at kk
    exact kk M ⟨t, fun _ _ _ => rfl⟩
theorem to_438 (t : TXL M l) (hl : l.length + 12 ≤ 120) (hs : sv = 0 ∨ sv = 1) (kk : ∀ M', TYP (l ++ svL sv) M M' → am_x t_LAW_typesOperation (475, [.null, .ref 58, .ref 59, .ref 60, .null, .null, .int (zi k), .int (zi K), .int (zi n), .int (zi sv), .int (zi ws), .int (zi f), .int (zi s), .int (zi 1)], [], M') Q) : am_x t_LAW_typesOperation (438, [.ref 0, .ref 58, .ref 59, .ref 60, .null, .null, .int (zi k), .int (zi K), .int (zi n), .int (zi sv), .int (zi ws), .int (zi f), .int (zi s), .int (zi 1)], [], M) Q := by
  unfold svL at kk
  refine vc_w_op_438 k K n sv ws f s 1 M _ ⟨by decide, fun z => by omega, fun _ => ⟨⟨by omega, by omega⟩, fun q => ?_, fun q => ?_⟩⟩
  · rw [if_pos q, List.append_nil] at kk
    exact kk M ⟨t, fun _ _ _ => rfl⟩
  · obtain ⟨M1, c1, d1⟩ := sp_w_types ok_9 t (by omega)
    rw [ty_109] at d1
    have e1 : (l ++ [32, 115, 97, 118]).length = l.length + 4 := by rw [List.length_append]; rfl
    obtain ⟨M2, c2, d2⟩ := sp_w_types ok_10 d1.1 (by omega)
    rw [ty_110] at d2
    rw [if_neg q, ← List.append_assoc] at kk
    exact ⟨_, M1, c1, by decide, fun z => by omega, fun _ => ⟨_, M2, c2, by decide, fun z => by omega, fun _ => kk M2 (TYP_t d1 d2)⟩⟩
/-- what the typing of an operation leaves -/
def OPP (M : am_M) (l : List Int) (k : Int) (m : am_M) : Prop := ∃ K n sv ws f s : Int, opR K n sv ws f s ∧ (K = 0 → ¬ iK M k = 12) ∧ TXL m (l ++ opL K n sv ws f s) ∧ (oK m k = K ∧ oC m k = n ∧ oO m k = f ∧ oT m k = s) ∧ (zand (iv m 59 k) 1 = sv ∧ zand (zshr (iv m 59 k) 1) 7 = ws) ∧ (∀ j, 0 ≤ j → j < 16 → ¬ j = k → lv m 58 j = lv M 58 j ∧ iv m 59 j = iv M 59 j) ∧ (∀ j, 0 ≤ j → iv m 60 j = if j = 25 then k + 1 else iv M 60 j) ∧ ∀ a, ¬ a = 2 → ¬ a = 3 → ¬ a = 58 → ¬ a = 59 → ¬ a = 60 → m a = M a
theorem to_475 {M0 : am_M} (r : opR K n sv ws f s) (h12 : K = 0 → ¬ iK M0 k = 12) (k0 : 0 ≤ k) (k1 : k < 16) (ha : 0 ≤ iv M0 60 0 ∧ iv M0 60 0 ≤ 7) (t : TYP (l ++ opL K n sv ws f s) M0 M) : am_x t_LAW_typesOperation (475, [.null, .ref 58, .ref 59, .ref 60, .null, .null, .int (zi k), .int (zi K), .int (zi n), .int (zi sv), .int (zi ws), .int (zi f), .int (zi s), .int (zi 1)], [], M) (fun rv m => rv = some (.int (zi 1)) ∧ OPP M0 l k m) := by
  have r' := r
  obtain ⟨⟨r1, r2, r3, r4, r5, r6⟩, r7, r8, r9⟩ := r'
  have rn := isNum_r r2
  have rf : 0 ≤ f ∧ f ≤ 3300 := by
    by_cases q : K < 2
    · exact isWd_r (r7 q).1
    · by_cases q3 : K = 3
      · have := isNum_r (r8 q3).1; omega
      · have := (r9 (by omega)).1; omega
  have rs : 0 ≤ s ∧ s ≤ 3300 := by
    by_cases q : K < 2
    · exact isWd_r (r7 q).2
    · by_cases q3 : K = 3
      · have := (r8 q3).2; omega
      · have := (r9 (by omega)).2; omega
  have e60 : iv M 60 = iv M0 60 := iv_row (t.2 60 (by decide) (by decide))
  have zpk : zlr (pk K n f s) := zlr_toInt _
  have fin : ∀ v, v = sv + 2 * ws + 16 * iv M0 60 0 → OPP M0 l k (zup (zup (zupl M 58 k (pk K n f s)) 59 k v) 60 25 (k + 1)) := by
    intro v hv
    have vz : zr v := ⟨by omega, by omega⟩
    have kz : zr (k + 1) := ⟨by omega, by omega⟩
    have l58 : ∀ j, 0 ≤ j → j < 16 → lv (zup (zup (zupl M 58 k (pk K n f s)) 59 k v) 60 25 (k + 1)) 58 j = if j = k then pk K n f s else lv M 58 j := fun j j0 j1 => by
      rw [lv_zup_ne _ _ (by decide), lv_zup_ne _ _ (by decide), lvl_set M k0 k1 j0 j1 zpk]
    have i59 : ∀ j, 0 ≤ j → iv (zup (zup (zupl M 58 k (pk K n f s)) 59 k v) 60 25 (k + 1)) 59 j = if j = k then v else iv M 59 j := fun j j0 => by
      rw [iv_zup_ne _ _ (by decide), ivs _ _ k0 j0 vz, iv_row (zupl_ne M (by decide))]
    have hp := l58 k k0 k1
    rw [if_pos rfl] at hp
    refine ⟨K, n, sv, ws, f, s, r, h12, TXL_rows t.1 (by rw [zupr _ (by decide), zupr _ (by decide), zupl_ne M (by decide)]) (by rw [zupr _ (by decide), zupr _ (by decide), zupl_ne M (by decide)]), oX_pk hp r1.1 r1.2 (by omega) (by omega) (by omega) (by omega) (by omega) (by omega), ?_, fun j j0 j1 nj => ⟨?_, ?_⟩, fun j j0 => ?_, fun a a2 a3 a58 a59 a60 => ?_⟩
    · rw [i59 k k0, if_pos rfl, zshr_1 vz, zand_1 (by omega) vz, zand_7 (by omega) ⟨by omega, by omega⟩]
      exact ⟨by omega, by omega⟩
    · rw [l58 j j0 j1, if_neg nj, lv_row (t.2 58 (by decide) (by decide))]
    · rw [i59 j j0, if_neg nj, iv_row (t.2 59 (by decide) (by decide))]
    · rw [ivs _ _ (by decide) j0 kz, iv_zup_ne _ _ (by decide), iv_row (zupl_ne M (by decide)), e60]
    · rw [zupr _ a60, zupr _ a59, zupl_ne M a58, t.2 a a2 a3]
  have e5 : ∀ v, iv (zupl M 58 k v) 60 = iv M0 60 := fun v => (iv_row (zupl_ne M (by decide))).trans e60
  refine vc_w_op_475 k K n sv ws f s 1 M _ ⟨⟨by omega, by omega⟩, ⟨by omega, by omega⟩, ⟨by omega, by omega⟩, ⟨by omega, by omega⟩, ⟨k0, k1⟩, fun M5 e5' => ⟨⟨by omega, by omega⟩, fun q => ⟨⟨k0, k1⟩, fun M8 e8 => ⟨⟨by decide, by decide⟩, fun M10 e10 => ⟨Or.inr rfl, rfl, ?_⟩⟩⟩, fun q => ⟨⟨k0, k1⟩, fun M12 e12 => ⟨⟨by decide, by decide⟩, fun M14 e14 => ⟨Or.inr rfl, rfl, ?_⟩⟩⟩⟩⟩
  · rw [e10, e8, e5', e5]
    exact fin _ (by omega)
  · rw [e14, e12, e5', e5]
    exact fin _ (by omega)
theorem to_go {M0 : am_M} (r : opR K n sv ws f s) (h12 : K = 0 → ¬ iK M0 k = 12) (k0 : 0 ≤ k) (k1 : k < 16) (ha : 0 ≤ iv M0 60 0 ∧ iv M0 60 0 ≤ 7) (t : TXL M0 l) (hl : l.length + 42 ≤ 120) : am_x t_LAW_typesOperation (177, [.ref 0, .ref 58, .ref 59, .ref 60, .null, .null, .int (zi k), .int (zi K), .int (zi n), .int (zi sv), .int (zi ws), .int (zi f), .int (zi s), .null], [], M0) (fun rv m => rv = some (.int (zi 1)) ∧ OPP M0 l k m) := by
  have r' := r
  obtain ⟨⟨r1, r2, r3, r4, r5, r6⟩, r7, r8, r9⟩ := r'
  have g1 := kwL_len K
  have g2 := numL_len n
  have g345 : (m1L K ws f s).length + (m2L K f).length + (m3L K f s).length ≤ 18 ∧ (m1L K ws f s).length + (m2L K f).length ≤ 10 := by
    have h3 := m1L_len K ws f s
    have h4 := m2L_len K f
    have h5 := m3L_len K f s
    by_cases k2 : K < 2
    · have a : (m2L K f).length = 0 := by unfold m2L; rw [if_neg (by omega)]; rfl
      have b : (m3L K f s).length = 0 := by unfold m3L; rw [if_neg (by omega)]; rfl
      omega
    · have c : (m1L K ws f s).length = 0 := by unfold m1L; rw [if_neg k2]; rfl
      by_cases k3 : K = 3
      · have b : (m3L K f s).length = 0 := by unfold m3L; rw [if_neg (by omega)]; rfl
        omega
      · have a : (m2L K f).length = 0 := by unfold m2L; rw [if_neg k3]; rfl
        omega
  have w4 : K = 4 → isWd f ∧ isWd s := fun q => ⟨Or.inl (r9 (Or.inr q)).1, Or.inl (r9 (Or.inr q)).2⟩
  refine to_177 t (by omega) r1.1 r1.2 (fun M1 d1 => ?_)
  refine to_267 d1.1 (by rw [List.length_append]; omega) r2 (fun M2 d2 => ?_)
  refine to_297 d2.1 (by simp only [List.length_append, List.length_cons, List.length_nil]; omega) r1.1 r1.2 r5 r7 (fun M3 d3 => ?_)
  refine to_345 d3.1 (by simp only [List.length_append, List.length_cons, List.length_nil]; omega) r1.1 r1.2 (fun q => (r8 q).1) (fun M4 d4 => ?_)
  refine to_382 d4.1 (by simp only [List.length_append, List.length_cons, List.length_nil]; omega) r1.1 r1.2 w4 (fun M5 d5 => ?_)
  refine to_438 d5.1 (by simp only [List.length_append, List.length_cons, List.length_nil]; omega) r3 (fun M6 d6 => ?_)
  refine to_475 r h12 k0 k1 ha ?_
  have d := TYP_t (TYP_t (TYP_t (TYP_t (TYP_t d1 d2) d3) d4) d5) d6
  have e : l ++ opL K n sv ws f s = l ++ kwL K ++ [32] ++ numL n ++ m1L K ws f s ++ m2L K f ++ m3L K f s ++ svL sv := by
    unfold opL
    simp only [List.append_assoc]
  rw [e]
  exact d
end TO
theorem sp_w_typesOperation {M : am_M} {l : List Int} {k : Int} (x y : Int) (t : TXL M l) (hl : l.length + 42 ≤ 120) (ek : iv M 60 25 = k) (k0 : 0 ≤ k) (k1 : k < 16) (ha : 0 ≤ iv M 60 0 ∧ iv M 60 0 ≤ 7) : ∃ M', am_call t_LAW_typesOperation [.ref 0, .ref 58, .ref 59, .ref 60, .int (zi x), .int (zi y)] M (some (.int (zi 1))) M' ∧ OPP M l k M' := by
  have g53 : ∀ K, 0 ≤ K → K ≤ 4 → (K = 0 → ¬ iK M k = 12) → am_x t_LAW_typesOperation (53, [.ref 0, .ref 58, .ref 59, .ref 60, .int (zi x), .int (zi y), .int (zi k), .int (zi K), .null, .null, .null, .null, .null, .null], [], M) (fun rv m => rv = some (.int (zi 1)) ∧ OPP M l k m) := by
    intro K K0 K4 h12
    obtain ⟨n, cn, hn⟩ := sp_w_number M (zshr x 3)
    have g92 : ∀ sv, (sv = 0 ∨ sv = 1) → (K = 0 ∨ K = 3 → sv = 0) → am_x t_LAW_typesOperation (92, [.ref 0, .ref 58, .ref 59, .ref 60, .int (zi x), .int (zi y), .int (zi k), .int (zi K), .int (zi n), .int (zi sv), .null, .null, .null, .null], [], M) (fun rv m => rv = some (.int (zi 1)) ∧ OPP M l k m) := by
      intro sv s01 sK
      have g113 : ∀ ws, (0 ≤ ws ∧ ws ≤ 2) → (2 ≤ K → ws = 0) → am_x t_LAW_typesOperation (113, [.ref 0, .ref 58, .ref 59, .ref 60, .null, .int (zi y), .int (zi k), .int (zi K), .int (zi n), .int (zi sv), .int (zi ws), .null, .null, .null], [], M) (fun rv m => rv = some (.int (zi 1)) ∧ OPP M l k m) := by
        intro ws w02 wK
        have g149 : ∀ f, (K < 2 → isWd f) → (K = 3 → isNum f) → (K = 2 ∨ K = 4 → 0 ≤ f ∧ f ≤ 3) → am_x t_LAW_typesOperation (149, [.ref 0, .ref 58, .ref 59, .ref 60, .null, .int (zi y), .int (zi k), .int (zi K), .int (zi n), .int (zi sv), .int (zi ws), .int (zi f), .null, .null], [], M) (fun rv m => rv = some (.int (zi 1)) ∧ OPP M l k m) := by
          intro f f1 f2 f3
          refine vc_w_op_149 y k K n sv ws f M _ ⟨⟨by omega, by omega⟩, fun q => ?_, fun q => ?_⟩
          · obtain ⟨s, cs, hs⟩ := sp_w_aWord M (zshr y 12)
            exact ⟨s, M, cs, to_go ⟨⟨⟨K0, K4⟩, hn, s01, sK, w02, wK⟩, fun _ => ⟨f1 q, hs⟩, fun z => by omega, fun z => by omega⟩ h12 k0 k1 ha t hl⟩
          · obtain ⟨s, cs, s0, s1⟩ := sp_w_low M (zshr y 12) (n := 4) (by omega) (by decide)
            exact ⟨s, M, cs, to_go ⟨⟨⟨K0, K4⟩, hn, s01, sK, w02, wK⟩, fun z => by omega, fun z => ⟨f2 z, by omega⟩, fun z => ⟨f3 z, by omega⟩⟩ h12 k0 k1 ha t hl⟩
        refine vc_w_op_113 y k K n sv ws M _ ⟨⟨by omega, by omega⟩, fun q => ?_, fun q => ⟨fun q3 => ?_, fun q3 => ?_⟩⟩
        · obtain ⟨f, cf, hf⟩ := sp_w_aWord M y
          exact ⟨f, M, cf, g149 f (fun _ => hf) (fun z => by omega) (fun z => by omega)⟩
        · obtain ⟨f, cf, hf⟩ := sp_w_number M y
          exact ⟨f, M, cf, g149 f (fun z => by omega) (fun _ => hf) (fun z => by omega)⟩
        · obtain ⟨f, cf, f0, f1⟩ := sp_w_low M y (n := 4) (by omega) (by decide)
          exact ⟨f, M, cf, g149 f (fun z => by omega) (fun z => absurd z q3) (fun z => ⟨f0, by omega⟩)⟩
      refine vc_w_op_92 x y k K n sv M _ ⟨⟨by omega, by omega⟩, fun q => ?_, fun q => g113 0 (by omega) (fun _ => rfl)⟩
      obtain ⟨ws, cw, w0, w1⟩ := sp_w_low M (zshr x 13) (n := 3) (by omega) (by decide)
      exact ⟨ws, M, cw, g113 ws ⟨w0, by omega⟩ (fun z => by omega)⟩
    refine vc_w_op_53 x y k K M _ ⟨n, M, cn, ⟨by omega, by omega⟩, fun q => g92 0 (Or.inl rfl) (fun _ => rfl), fun q => ⟨fun q3 => g92 0 (Or.inl rfl) (fun _ => rfl), fun q3 => ?_⟩⟩
    obtain ⟨r, cr, r0, r1⟩ := sp_w_low M (zshr x 11) (n := 4) (by omega) (by decide)
    exact ⟨r, M, cr, ⟨by omega, by omega⟩, fun _ => g92 1 (Or.inr rfl) (fun z => by omega), fun _ => g92 0 (Or.inl rfl) (fun _ => rfl)⟩
  have key : am_x t_LAW_typesOperation (0, am_ent (am_mL t_LAW_typesOperation) [.ref 0, .ref 58, .ref 59, .ref 60, .int (zi x), .int (zi y)], [], M) (fun rv m => rv = some (.int (zi 1)) ∧ OPP M l k m) := by
    obtain ⟨r, cr, r0, r1⟩ := sp_w_low M x (n := 7) (by omega) (by decide)
    have ci := sp_w_identity2 M k0 (by omega)
    have iz : zr (iK M k) := by
      have h1 := sm_nn (fun j => if oK M j = 0 then 1 else 0) k (fun i _ _ => by split <;> omega)
      have h2 := sm_le (fun j => if oK M j = 0 then 1 else 0) (fun j => if j < k then 1 else 0) k (fun i _ hi => by show (if _ then (1 : Int) else 0) ≤ if i < k then 1 else 0; rw [if_pos hi]; split <;> omega)
      rw [sm_lt k k k0 (Int.le_refl _)] at h2
      exact ⟨by unfold iK; omega, by unfold iK; omega⟩
    refine vc_w_op x y M _ ⟨r, M, cr, ⟨by omega, by omega⟩, ?_⟩
    rw [ek]
    exact ⟨fun _ => ⟨_, M, ci, iz, fun _ => g53 2 (by omega) (by omega) (fun z => by omega), fun z => g53 0 (by omega) (by omega) (fun _ => z)⟩, fun q => ⟨fun z0 => ⟨_, M, ci, iz, fun _ => g53 2 (by omega) (by omega) (fun z => by omega), fun z => g53 r r0 q (fun _ => z)⟩, fun z0 => g53 r r0 q (fun z => absurd z z0)⟩⟩
  obtain ⟨rv, M', h1, h2, h3⟩ := am_call_ex ⟨Nat.le_of_ble_eq_true rfl, rfl⟩ key
  subst h2
  exact ⟨M', h1, h3⟩
