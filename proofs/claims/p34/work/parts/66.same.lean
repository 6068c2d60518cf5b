/-! the law's comparison -/
set_option maxRecDepth 100000 in
theorem vc_w_isSame (d : Int) (e : Int) (M : am_M) (Q : Option Value → am_M → Prop) (hv : am_x t_LAW_isSame (6, [.ref 0, .ref 61, .ref 64, .int (zi d), .int (zi e), .int (zi 0), .int (zi 0), .null, .null, .null], [], M) Q) : am_x t_LAW_isSame (0, am_ent (am_mL t_LAW_isSame) [.ref 0, .ref 61, .ref 64, .int (zi d), .int (zi e)], [], M) Q := by
  refine am_xn 0 (c1 := (0, [.ref 0, .ref 61, .ref 64, .int (zi d), .int (zi e), .null, .null, .null, .null, .null], [], M)) rfl ?_
  refine am_xn 4 (c1 := (6, [.ref 0, .ref 61, .ref 64, .int (zi d), .int (zi e), .int (zi 0), .int (zi 0), .null, .null, .null], [], M)) rfl ?_
  exact hv
set_option maxRecDepth 100000 in
theorem vc_w_isSame_6 (x3 : Int) (x4 : Int) (x5 : Int) (x6 : Int) (M : am_M) (Q : Option Value → am_M → Prop) (hv : (zr x6) ∧ ((x6 < 12 → (0 ≤ (5 * x6) ∧ (5 * x6) < 64) ∧ (((iv M 61 (5 * x6)) = 1 → ∃ (r4 : Int) (M3 : am_M), am_call t_LAW_indexOf [.ref 61, .int (zi x6)] M (some (.int (zi r4))) M3 ∧ (∃ (r6 : Int) (M5 : am_M), am_call t_SB_clause [.ref 0, .int (zi x3), .int (zi x4), .int (zi r4), .int (zi 0)] M3 (some (.int (zi r6))) M5 ∧ ((0 ≤ ((5 * x6) + 1) ∧ ((5 * x6) + 1) < 64) ∧ ((zr r6) ∧ ((r6 = (iv M5 61 ((5 * x6) + 1)) → ∃ (r10 : Int) (M9 : am_M), am_call t_SB_clause [.ref 0, .int (zi x3), .int (zi x4), .int (zi r4), .int (zi 1)] M5 (some (.int (zi r10))) M9 ∧ ((zr r10) ∧ ((r10 = x6 → ∃ (r13 : Int) (M12 : am_M), am_call t_SB_clause [.ref 0, .int (zi x3), .int (zi x4), .int (zi r4), .int (zi 2)] M9 (some (.int (zi r13))) M12 ∧ ((0 ≤ ((5 * x6) + 2) ∧ ((5 * x6) + 2) < 64) ∧ ((zr r13) ∧ ((r13 = (iv M12 61 ((5 * x6) + 2)) → ∃ (r17 : Int) (M16 : am_M), am_call t_SB_clause [.ref 0, .int (zi x3), .int (zi x4), .int (zi r4), .int (zi 3)] M12 (some (.int (zi r17))) M16 ∧ ((0 ≤ x6 ∧ x6 < 16) ∧ ((zr r17) ∧ ((r17 = (iv M16 64 x6) → am_x t_LAW_isSame (115, [.ref 0, .ref 61, .ref 64, .int (zi x3), .int (zi x4), .int (zi x5), .int (zi x6), .int (zi r4), .int (zi 1), .int (zi 0)], [], M16) Q) ∧ (¬ r17 = (iv M16 64 x6) → am_x t_LAW_isSame (115, [.ref 0, .ref 61, .ref 64, .int (zi x3), .int (zi x4), .int (zi x5), .int (zi x6), .int (zi r4), .int (zi 0), .int (zi 0)], [], M16) Q))))) ∧ (¬ r13 = (iv M12 61 ((5 * x6) + 2)) → am_x t_LAW_isSame (115, [.ref 0, .ref 61, .ref 64, .int (zi x3), .int (zi x4), .int (zi x5), .int (zi x6), .int (zi r4), .int (zi 0), .int (zi 0)], [], M12) Q))))) ∧ (¬ r10 = x6 → am_x t_LAW_isSame (115, [.ref 0, .ref 61, .ref 64, .int (zi x3), .int (zi x4), .int (zi x5), .int (zi x6), .int (zi r4), .int (zi 0), .int (zi 0)], [], M9) Q)))) ∧ (¬ r6 = (iv M5 61 ((5 * x6) + 1)) → am_x t_LAW_isSame (115, [.ref 0, .ref 61, .ref 64, .int (zi x3), .int (zi x4), .int (zi x5), .int (zi x6), .int (zi r4), .int (zi 0), .int (zi 0)], [], M5) Q)))))) ∧ (¬ (iv M 61 (5 * x6)) = 1 → am_x t_LAW_isSame (6, [.ref 0, .ref 61, .ref 64, .int (zi x3), .int (zi x4), .int (zi x5), .int (zi (x6 + 1)), .null, .null, .null], [], M) Q))) ∧ (12 ≤ x6 → ∃ (r21 : Int) (M20 : am_M), am_call t_SB_clauses [.ref 0, .int (zi x3), .int (zi x4)] M (some (.int (zi r21))) M20 ∧ ((zr r21) ∧ ((zr x5) ∧ ((r21 = x5 → ∃ (r25 : Int) (M24 : am_M), am_call t_SB_clause [.ref 0, .int (zi x3), .int (zi x4), .int (zi x5), .int (zi 0)] M20 (some (.int (zi r25))) M24 ∧ ((zr r25) ∧ ((r25 = (-2) → Q (some (.int (zi 1))) M24) ∧ (¬ r25 = (-2) → Q (some (.int (zi 0))) M24)))) ∧ (¬ r21 = x5 → Q (some (.int (zi 0))) M20))))))) : am_x t_LAW_isSame (6, [.ref 0, .ref 61, .ref 64, .int (zi x3), .int (zi x4), .int (zi x5), .int (zi x6), .null, .null, .null], [], M) Q := by
  obtain ⟨r1, hv⟩ := hv
  refine am_xn 3 (c1 := (if zi x6 < zi 12 then 13 else 226, [.ref 0, .ref 61, .ref 64, .int (zi x3), .int (zi x4), .int (zi x5), .int (zi x6), .null, .null, .null], [], M)) rfl (am_xlt r1 (by decide) (fun h => ?_) (fun h => ?_))
  · replace hv := hv.1 h
    refine am_ximul 4 5 x6 (pc := 18) (ls := [.ref 0, .ref 61, .ref 64, .int (zi x3), .int (zi x4), .int (zi x5), .int (zi x6), .null, .null, .null]) (st := [.ref 61]) rfl ?_
    obtain ⟨r2, hv⟩ := hv
    refine am_xald rfl rfl rfl r2 ?_
    refine am_xn 0 (c1 := (19, [.ref 0, .ref 61, .ref 64, .int (zi x3), .int (zi x4), .int (zi x5), .int (zi x6), .null, .null, .null], [.int (zi (iv M 61 (5 * x6)))], M)) rfl ?_
    refine am_xn 2 (c1 := (if zi (iv M 61 (5 * x6)) = zi 1 then 23 else 220, [.ref 0, .ref 61, .ref 64, .int (zi x3), .int (zi x4), .int (zi x5), .int (zi x6), .null, .null, .null], [], M)) rfl (am_xeq (iv_r _ _ _) (by decide) (fun h => ?_) (fun h => ?_))
    · replace hv := hv.1 h
      refine am_xn 2 (c1 := (26, [.ref 0, .ref 61, .ref 64, .int (zi x3), .int (zi x4), .int (zi x5), .int (zi x6), .null, .null, .null], [.int (zi x6), .ref 61], M)) rfl ?_
      obtain ⟨r4, M3, hc, hv⟩ := hv
      refine am_xc t_LAW_indexOf (.invokestatic 109) 109 (av := [.ref 61, .int (zi x6)]) (rest := []) (rv := some (.int (zi r4))) (M' := M3) rfl rfl rfl rfl (Nat.le_of_ble_eq_true rfl) (fun h => nomatch h) (hc) ?_
      refine am_xn 0 (c1 := (29, [.ref 0, .ref 61, .ref 64, .int (zi x3), .int (zi x4), .int (zi x5), .int (zi x6), .null, .null, .null], [.int (zi r4)], M3)) rfl ?_
      refine am_xn 6 (c1 := (38, [.ref 0, .ref 61, .ref 64, .int (zi x3), .int (zi x4), .int (zi x5), .int (zi x6), .int (zi r4), .null, .null], [.int (zi 0), .int (zi r4), .int (zi x4), .int (zi x3), .ref 0], M3)) rfl ?_
      obtain ⟨r6, M5, hc, hv⟩ := hv
      refine am_xc t_SB_clause (.invokevirtual 112) 112 (av := [.ref 0, .int (zi x3), .int (zi x4), .int (zi r4), .int (zi 0)]) (rest := []) (rv := some (.int (zi r6))) (M' := M5) rfl rfl rfl rfl (Nat.le_of_ble_eq_true rfl) (fun _ => rfl) (hc) ?_
      refine am_xn 0 (c1 := (41, [.ref 0, .ref 61, .ref 64, .int (zi x3), .int (zi x4), .int (zi x5), .int (zi x6), .int (zi r4), .null, .null], [.int (zi r6)], M5)) rfl ?_
      refine am_ximul 4 5 x6 (pc := 46) (ls := [.ref 0, .ref 61, .ref 64, .int (zi x3), .int (zi x4), .int (zi x5), .int (zi x6), .int (zi r4), .null, .null]) (st := [.ref 61, .int (zi r6)]) rfl ?_
      refine am_xiadd 2 (5 * x6) 1 (pc := 48) (ls := [.ref 0, .ref 61, .ref 64, .int (zi x3), .int (zi x4), .int (zi x5), .int (zi x6), .int (zi r4), .null, .null]) (st := [.ref 61, .int (zi r6)]) rfl ?_
      obtain ⟨r7, hv⟩ := hv
      refine am_xald rfl rfl rfl r7 ?_
      refine am_xn 0 (c1 := (49, [.ref 0, .ref 61, .ref 64, .int (zi x3), .int (zi x4), .int (zi x5), .int (zi x6), .int (zi r4), .null, .null], [.int (zi (iv M5 61 ((5 * x6) + 1))), .int (zi r6)], M5)) rfl ?_
      obtain ⟨r8, hv⟩ := hv
      refine am_xn 1 (c1 := (if zi r6 = zi (iv M5 61 ((5 * x6) + 1)) then 52 else 109, [.ref 0, .ref 61, .ref 64, .int (zi x3), .int (zi x4), .int (zi x5), .int (zi x6), .int (zi r4), .null, .null], [], M5)) rfl (am_xeq r8 (iv_r _ _ _) (fun h => ?_) (fun h => ?_))
      · replace hv := hv.1 h
        refine am_xn 5 (c1 := (59, [.ref 0, .ref 61, .ref 64, .int (zi x3), .int (zi x4), .int (zi x5), .int (zi x6), .int (zi r4), .null, .null], [.int (zi 1), .int (zi r4), .int (zi x4), .int (zi x3), .ref 0], M5)) rfl ?_
        obtain ⟨r10, M9, hc, hv⟩ := hv
        refine am_xc t_SB_clause (.invokevirtual 112) 112 (av := [.ref 0, .int (zi x3), .int (zi x4), .int (zi r4), .int (zi 1)]) (rest := []) (rv := some (.int (zi r10))) (M' := M9) rfl rfl rfl rfl (Nat.le_of_ble_eq_true rfl) (fun _ => rfl) (hc) ?_
        refine am_xn 0 (c1 := (62, [.ref 0, .ref 61, .ref 64, .int (zi x3), .int (zi x4), .int (zi x5), .int (zi x6), .int (zi r4), .null, .null], [.int (zi r10)], M9)) rfl ?_
        obtain ⟨r11, hv⟩ := hv
        refine am_xn 2 (c1 := (if zi r10 = zi x6 then 67 else 109, [.ref 0, .ref 61, .ref 64, .int (zi x3), .int (zi x4), .int (zi x5), .int (zi x6), .int (zi r4), .null, .null], [], M9)) rfl (am_xeq r11 r1 (fun h => ?_) (fun h => ?_))
        · replace hv := hv.1 h
          refine am_xn 5 (c1 := (74, [.ref 0, .ref 61, .ref 64, .int (zi x3), .int (zi x4), .int (zi x5), .int (zi x6), .int (zi r4), .null, .null], [.int (zi 2), .int (zi r4), .int (zi x4), .int (zi x3), .ref 0], M9)) rfl ?_
          obtain ⟨r13, M12, hc, hv⟩ := hv
          refine am_xc t_SB_clause (.invokevirtual 112) 112 (av := [.ref 0, .int (zi x3), .int (zi x4), .int (zi r4), .int (zi 2)]) (rest := []) (rv := some (.int (zi r13))) (M' := M12) rfl rfl rfl rfl (Nat.le_of_ble_eq_true rfl) (fun _ => rfl) (hc) ?_
          refine am_xn 0 (c1 := (77, [.ref 0, .ref 61, .ref 64, .int (zi x3), .int (zi x4), .int (zi x5), .int (zi x6), .int (zi r4), .null, .null], [.int (zi r13)], M12)) rfl ?_
          refine am_ximul 4 5 x6 (pc := 82) (ls := [.ref 0, .ref 61, .ref 64, .int (zi x3), .int (zi x4), .int (zi x5), .int (zi x6), .int (zi r4), .null, .null]) (st := [.ref 61, .int (zi r13)]) rfl ?_
          refine am_xiadd 2 (5 * x6) 2 (pc := 84) (ls := [.ref 0, .ref 61, .ref 64, .int (zi x3), .int (zi x4), .int (zi x5), .int (zi x6), .int (zi r4), .null, .null]) (st := [.ref 61, .int (zi r13)]) rfl ?_
          obtain ⟨r14, hv⟩ := hv
          refine am_xald rfl rfl rfl r14 ?_
          refine am_xn 0 (c1 := (85, [.ref 0, .ref 61, .ref 64, .int (zi x3), .int (zi x4), .int (zi x5), .int (zi x6), .int (zi r4), .null, .null], [.int (zi (iv M12 61 ((5 * x6) + 2))), .int (zi r13)], M12)) rfl ?_
          obtain ⟨r15, hv⟩ := hv
          refine am_xn 1 (c1 := (if zi r13 = zi (iv M12 61 ((5 * x6) + 2)) then 88 else 109, [.ref 0, .ref 61, .ref 64, .int (zi x3), .int (zi x4), .int (zi x5), .int (zi x6), .int (zi r4), .null, .null], [], M12)) rfl (am_xeq r15 (iv_r _ _ _) (fun h => ?_) (fun h => ?_))
          · replace hv := hv.1 h
            refine am_xn 5 (c1 := (95, [.ref 0, .ref 61, .ref 64, .int (zi x3), .int (zi x4), .int (zi x5), .int (zi x6), .int (zi r4), .null, .null], [.int (zi 3), .int (zi r4), .int (zi x4), .int (zi x3), .ref 0], M12)) rfl ?_
            obtain ⟨r17, M16, hc, hv⟩ := hv
            refine am_xc t_SB_clause (.invokevirtual 112) 112 (av := [.ref 0, .int (zi x3), .int (zi x4), .int (zi r4), .int (zi 3)]) (rest := []) (rv := some (.int (zi r17))) (M' := M16) rfl rfl rfl rfl (Nat.le_of_ble_eq_true rfl) (fun _ => rfl) (hc) ?_
            refine am_xn 0 (c1 := (98, [.ref 0, .ref 61, .ref 64, .int (zi x3), .int (zi x4), .int (zi x5), .int (zi x6), .int (zi r4), .null, .null], [.int (zi r17)], M16)) rfl ?_
            obtain ⟨r18, hv⟩ := hv
            refine am_xn 2 (c1 := (101, [.ref 0, .ref 61, .ref 64, .int (zi x3), .int (zi x4), .int (zi x5), .int (zi x6), .int (zi r4), .null, .null], [.int (zi x6), .ref 64, .int (zi r17)], M16)) rfl ?_
            refine am_xald rfl rfl rfl r18 ?_
            refine am_xn 0 (c1 := (102, [.ref 0, .ref 61, .ref 64, .int (zi x3), .int (zi x4), .int (zi x5), .int (zi x6), .int (zi r4), .null, .null], [.int (zi (iv M16 64 x6)), .int (zi r17)], M16)) rfl ?_
            obtain ⟨r19, hv⟩ := hv
            refine am_xn 1 (c1 := (if zi r17 = zi (iv M16 64 x6) then 105 else 109, [.ref 0, .ref 61, .ref 64, .int (zi x3), .int (zi x4), .int (zi x5), .int (zi x6), .int (zi r4), .null, .null], [], M16)) rfl (am_xeq r19 (iv_r _ _ _) (fun h => ?_) (fun h => ?_))
            · replace hv := hv.1 h
              refine am_xn 5 (c1 := (115, [.ref 0, .ref 61, .ref 64, .int (zi x3), .int (zi x4), .int (zi x5), .int (zi x6), .int (zi r4), .int (zi 1), .int (zi 0)], [], M16)) rfl ?_
              exact hv
            · replace hv := hv.2 h
              refine am_xn 4 (c1 := (115, [.ref 0, .ref 61, .ref 64, .int (zi x3), .int (zi x4), .int (zi x5), .int (zi x6), .int (zi r4), .int (zi 0), .int (zi 0)], [], M16)) rfl ?_
              exact hv
          · replace hv := hv.2 h
            refine am_xn 4 (c1 := (115, [.ref 0, .ref 61, .ref 64, .int (zi x3), .int (zi x4), .int (zi x5), .int (zi x6), .int (zi r4), .int (zi 0), .int (zi 0)], [], M12)) rfl ?_
            exact hv
        · replace hv := hv.2 h
          refine am_xn 4 (c1 := (115, [.ref 0, .ref 61, .ref 64, .int (zi x3), .int (zi x4), .int (zi x5), .int (zi x6), .int (zi r4), .int (zi 0), .int (zi 0)], [], M9)) rfl ?_
          exact hv
      · replace hv := hv.2 h
        refine am_xn 4 (c1 := (115, [.ref 0, .ref 61, .ref 64, .int (zi x3), .int (zi x4), .int (zi x5), .int (zi x6), .int (zi r4), .int (zi 0), .int (zi 0)], [], M5)) rfl ?_
        exact hv
    · replace hv := hv.2 h
      refine am_xn 1 (c1 := (223, [.ref 0, .ref 61, .ref 64, .int (zi x3), .int (zi x4), .int (zi x5), .int (zi x6 + zi 1), .null, .null, .null], [], M)) rfl ?_
      rw [zi_add]
      refine am_xn 1 (c1 := (6, [.ref 0, .ref 61, .ref 64, .int (zi x3), .int (zi x4), .int (zi x5), .int (zi (x6 + 1)), .null, .null, .null], [], M)) rfl ?_
      exact hv
  · replace hv := hv.2 h
    refine am_xn 3 (c1 := (230, [.ref 0, .ref 61, .ref 64, .int (zi x3), .int (zi x4), .int (zi x5), .int (zi x6), .null, .null, .null], [.int (zi x4), .int (zi x3), .ref 0], M)) rfl ?_
    obtain ⟨r21, M20, hc, hv⟩ := hv
    refine am_xc t_SB_clauses (.invokevirtual 127) 127 (av := [.ref 0, .int (zi x3), .int (zi x4)]) (rest := []) (rv := some (.int (zi r21))) (M' := M20) rfl rfl rfl rfl (Nat.le_of_ble_eq_true rfl) (fun _ => rfl) (hc) ?_
    refine am_xn 0 (c1 := (233, [.ref 0, .ref 61, .ref 64, .int (zi x3), .int (zi x4), .int (zi x5), .int (zi x6), .null, .null, .null], [.int (zi r21)], M20)) rfl ?_
    obtain ⟨r22, hv⟩ := hv
    obtain ⟨r23, hv⟩ := hv
    refine am_xn 2 (c1 := (if zi r21 = zi x5 then 238 else 257, [.ref 0, .ref 61, .ref 64, .int (zi x3), .int (zi x4), .int (zi x5), .int (zi x6), .null, .null, .null], [], M20)) rfl (am_xeq r22 r23 (fun h => ?_) (fun h => ?_))
    · replace hv := hv.1 h
      refine am_xn 5 (c1 := (245, [.ref 0, .ref 61, .ref 64, .int (zi x3), .int (zi x4), .int (zi x5), .int (zi x6), .null, .null, .null], [.int (zi 0), .int (zi x5), .int (zi x4), .int (zi x3), .ref 0], M20)) rfl ?_
      obtain ⟨r25, M24, hc, hv⟩ := hv
      refine am_xc t_SB_clause (.invokevirtual 112) 112 (av := [.ref 0, .int (zi x3), .int (zi x4), .int (zi x5), .int (zi 0)]) (rest := []) (rv := some (.int (zi r25))) (M' := M24) rfl rfl rfl rfl (Nat.le_of_ble_eq_true rfl) (fun _ => rfl) (hc) ?_
      refine am_xn 0 (c1 := (248, [.ref 0, .ref 61, .ref 64, .int (zi x3), .int (zi x4), .int (zi x5), .int (zi x6), .null, .null, .null], [.int (zi r25)], M24)) rfl ?_
      obtain ⟨r26, hv⟩ := hv
      refine am_xn 2 (c1 := (if zi r25 = zi (-2) then 253 else 257, [.ref 0, .ref 61, .ref 64, .int (zi x3), .int (zi x4), .int (zi x5), .int (zi x6), .null, .null, .null], [], M24)) rfl (am_xeq r26 (by decide) (fun h => ?_) (fun h => ?_))
      · replace hv := hv.1 h
        refine am_xn 2 (c1 := (258, [.ref 0, .ref 61, .ref 64, .int (zi x3), .int (zi x4), .int (zi x5), .int (zi x6), .null, .null, .null], [.int (zi 1)], M24)) rfl ?_
        exact am_xr (some (.int (zi 1))) ⟨rfl, rfl, .boolean, rfl, rfl⟩ hv
      · replace hv := hv.2 h
        refine am_xn 1 (c1 := (258, [.ref 0, .ref 61, .ref 64, .int (zi x3), .int (zi x4), .int (zi x5), .int (zi x6), .null, .null, .null], [.int (zi 0)], M24)) rfl ?_
        exact am_xr (some (.int (zi 0))) ⟨rfl, rfl, .boolean, rfl, rfl⟩ hv
    · replace hv := hv.2 h
      refine am_xn 1 (c1 := (258, [.ref 0, .ref 61, .ref 64, .int (zi x3), .int (zi x4), .int (zi x5), .int (zi x6), .null, .null, .null], [.int (zi 0)], M20)) rfl ?_
      exact am_xr (some (.int (zi 0))) ⟨rfl, rfl, .boolean, rfl, rfl⟩ hv
set_option maxRecDepth 100000 in
theorem vc_w_isSame_115 (x3 : Int) (x4 : Int) (x5 : Int) (x6 : Int) (x7 : Int) (x8 : Int) (x9 : Int) (M : am_M) (Q : Option Value → am_M → Prop) (hv : (0 ≤ ((5 * x6) + 2) ∧ ((5 * x6) + 2) < 64) ∧ ((zr x9) ∧ ((x9 < (iv M 61 ((5 * x6) + 2)) → (zr x8) ∧ ((x8 = 0 → Q (some (.int (zi 0))) M) ∧ (¬ x8 = 0 → ∃ (r5 : Int) (M4 : am_M), am_call t_SB_textWord [.ref 0, .int (zi x3), .int (zi x4), .int (zi x7), .int (zi x9)] M (some (.int (zi r5))) M4 ∧ (∃ (r7 : Int) (M6 : am_M), am_call t_LAW_toldWord [.ref 61, .int (zi x6), .int (zi x9)] M4 (some (.int (zi r7))) M6 ∧ ((zr r5) ∧ ((zr r7) ∧ ((r5 = r7 → am_x t_LAW_isSame (115, [.ref 0, .ref 61, .ref 64, .int (zi x3), .int (zi x4), .int (zi x5), .int (zi x6), .int (zi x7), .int (zi 1), .int (zi (x9 + 1))], [], M6) Q) ∧ (¬ r5 = r7 → am_x t_LAW_isSame (115, [.ref 0, .ref 61, .ref 64, .int (zi x3), .int (zi x4), .int (zi x5), .int (zi x6), .int (zi x7), .int (zi 0), .int (zi (x9 + 1))], [], M6) Q)))))))) ∧ ((iv M 61 ((5 * x6) + 2)) ≤ x9 → (zr x8) ∧ ((x8 = 0 → Q (some (.int (zi 0))) M) ∧ (¬ x8 = 0 → (0 ≤ ((5 * x6) + 1) ∧ ((5 * x6) + 1) < 64) ∧ (∃ (r13 : Int) (M12 : am_M), am_call t_SB_find [.ref 0, .int (zi x3), .int (zi x4), .int (zi (iv M 61 ((5 * x6) + 1)))] M (some (.int (zi r13))) M12 ∧ ((zr r13) ∧ ((zr x7) ∧ ((r13 = x7 → (0 ≤ ((5 * x6) + 2) ∧ ((5 * x6) + 2) < 64) ∧ (∃ (r18 : Int) (M17 : am_M), am_call t_SB_textWord [.ref 0, .int (zi x3), .int (zi x4), .int (zi x7), .int (zi (iv M12 61 ((5 * x6) + 2)))] M12 (some (.int (zi r18))) M17 ∧ ((zr r18) ∧ ((r18 = (-2) → am_x t_LAW_isSame (6, [.ref 0, .ref 61, .ref 64, .int (zi x3), .int (zi x4), .int (zi (x5 + 1)), .int (zi (x6 + 1)), .null, .null, .null], [], M17) Q) ∧ (¬ r18 = (-2) → Q (some (.int (zi 0))) M17))))) ∧ (¬ r13 = x7 → Q (some (.int (zi 0))) M12))))))))))) : am_x t_LAW_isSame (115, [.ref 0, .ref 61, .ref 64, .int (zi x3), .int (zi x4), .int (zi x5), .int (zi x6), .int (zi x7), .int (zi x8), .int (zi x9)], [], M) Q := by
  refine am_ximul 5 5 x6 (pc := 122) (ls := [.ref 0, .ref 61, .ref 64, .int (zi x3), .int (zi x4), .int (zi x5), .int (zi x6), .int (zi x7), .int (zi x8), .int (zi x9)]) (st := [.ref 61, .int (zi x9)]) rfl ?_
  refine am_xiadd 2 (5 * x6) 2 (pc := 124) (ls := [.ref 0, .ref 61, .ref 64, .int (zi x3), .int (zi x4), .int (zi x5), .int (zi x6), .int (zi x7), .int (zi x8), .int (zi x9)]) (st := [.ref 61, .int (zi x9)]) rfl ?_
  obtain ⟨r1, hv⟩ := hv
  refine am_xald rfl rfl rfl r1 ?_
  refine am_xn 0 (c1 := (125, [.ref 0, .ref 61, .ref 64, .int (zi x3), .int (zi x4), .int (zi x5), .int (zi x6), .int (zi x7), .int (zi x8), .int (zi x9)], [.int (zi (iv M 61 ((5 * x6) + 2))), .int (zi x9)], M)) rfl ?_
  obtain ⟨r2, hv⟩ := hv
  refine am_xn 1 (c1 := (if zi x9 < zi (iv M 61 ((5 * x6) + 2)) then 128 else 168, [.ref 0, .ref 61, .ref 64, .int (zi x3), .int (zi x4), .int (zi x5), .int (zi x6), .int (zi x7), .int (zi x8), .int (zi x9)], [], M)) rfl (am_xlt r2 (iv_r _ _ _) (fun h => ?_) (fun h => ?_))
  · replace hv := hv.1 h
    obtain ⟨r3, hv⟩ := hv
    refine am_xn 2 (c1 := (if zi x8 = zi 0 then 168 else 133, [.ref 0, .ref 61, .ref 64, .int (zi x3), .int (zi x4), .int (zi x5), .int (zi x6), .int (zi x7), .int (zi x8), .int (zi x9)], [], M)) rfl (am_xeq r3 (by decide) (fun h => ?_) (fun h => ?_))
    · replace hv := hv.1 h
      refine am_xn 2 (c1 := (if zi x8 = zi 0 then 215 else 173, [.ref 0, .ref 61, .ref 64, .int (zi x3), .int (zi x4), .int (zi x5), .int (zi x6), .int (zi x7), .int (zi x8), .int (zi x9)], [], M)) rfl (am_xeq r3 (by decide) (fun h => ?_) (fun h => by clear hv; exfalso; omega))
      refine am_xn 1 (c1 := (216, [.ref 0, .ref 61, .ref 64, .int (zi x3), .int (zi x4), .int (zi x5), .int (zi x6), .int (zi x7), .int (zi x8), .int (zi x9)], [.int (zi 0)], M)) rfl ?_
      exact am_xr (some (.int (zi 0))) ⟨rfl, rfl, .boolean, rfl, rfl⟩ hv
    · replace hv := hv.2 h
      refine am_xn 5 (c1 := (141, [.ref 0, .ref 61, .ref 64, .int (zi x3), .int (zi x4), .int (zi x5), .int (zi x6), .int (zi x7), .int (zi x8), .int (zi x9)], [.int (zi x9), .int (zi x7), .int (zi x4), .int (zi x3), .ref 0], M)) rfl ?_
      obtain ⟨r5, M4, hc, hv⟩ := hv
      refine am_xc t_SB_textWord (.invokevirtual 116) 116 (av := [.ref 0, .int (zi x3), .int (zi x4), .int (zi x7), .int (zi x9)]) (rest := []) (rv := some (.int (zi r5))) (M' := M4) rfl rfl rfl rfl (Nat.le_of_ble_eq_true rfl) (fun _ => rfl) (hc) ?_
      refine am_xn 0 (c1 := (144, [.ref 0, .ref 61, .ref 64, .int (zi x3), .int (zi x4), .int (zi x5), .int (zi x6), .int (zi x7), .int (zi x8), .int (zi x9)], [.int (zi r5)], M4)) rfl ?_
      refine am_xn 3 (c1 := (149, [.ref 0, .ref 61, .ref 64, .int (zi x3), .int (zi x4), .int (zi x5), .int (zi x6), .int (zi x7), .int (zi x8), .int (zi x9)], [.int (zi x9), .int (zi x6), .ref 61, .int (zi r5)], M4)) rfl ?_
      obtain ⟨r7, M6, hc, hv⟩ := hv
      refine am_xc t_LAW_toldWord (.invokestatic 119) 119 (av := [.ref 61, .int (zi x6), .int (zi x9)]) (rest := [.int (zi r5)]) (rv := some (.int (zi r7))) (M' := M6) rfl rfl rfl rfl (Nat.le_of_ble_eq_true rfl) (fun h => nomatch h) (hc) ?_
      refine am_xn 0 (c1 := (152, [.ref 0, .ref 61, .ref 64, .int (zi x3), .int (zi x4), .int (zi x5), .int (zi x6), .int (zi x7), .int (zi x8), .int (zi x9)], [.int (zi r7), .int (zi r5)], M6)) rfl ?_
      obtain ⟨r8, hv⟩ := hv
      obtain ⟨r9, hv⟩ := hv
      refine am_xn 1 (c1 := (if zi r5 = zi r7 then 155 else 159, [.ref 0, .ref 61, .ref 64, .int (zi x3), .int (zi x4), .int (zi x5), .int (zi x6), .int (zi x7), .int (zi x8), .int (zi x9)], [], M6)) rfl (am_xeq r8 r9 (fun h => ?_) (fun h => ?_))
      · replace hv := hv.1 h
        refine am_xn 4 (c1 := (165, [.ref 0, .ref 61, .ref 64, .int (zi x3), .int (zi x4), .int (zi x5), .int (zi x6), .int (zi x7), .int (zi 1), .int (zi x9 + zi 1)], [], M6)) rfl ?_
        rw [zi_add]
        refine am_xn 1 (c1 := (115, [.ref 0, .ref 61, .ref 64, .int (zi x3), .int (zi x4), .int (zi x5), .int (zi x6), .int (zi x7), .int (zi 1), .int (zi (x9 + 1))], [], M6)) rfl ?_
        exact hv
      · replace hv := hv.2 h
        refine am_xn 3 (c1 := (165, [.ref 0, .ref 61, .ref 64, .int (zi x3), .int (zi x4), .int (zi x5), .int (zi x6), .int (zi x7), .int (zi 0), .int (zi x9 + zi 1)], [], M6)) rfl ?_
        rw [zi_add]
        refine am_xn 1 (c1 := (115, [.ref 0, .ref 61, .ref 64, .int (zi x3), .int (zi x4), .int (zi x5), .int (zi x6), .int (zi x7), .int (zi 0), .int (zi (x9 + 1))], [], M6)) rfl ?_
        exact hv
  · replace hv := hv.2 h
    obtain ⟨r10, hv⟩ := hv
    refine am_xn 2 (c1 := (if zi x8 = zi 0 then 215 else 173, [.ref 0, .ref 61, .ref 64, .int (zi x3), .int (zi x4), .int (zi x5), .int (zi x6), .int (zi x7), .int (zi x8), .int (zi x9)], [], M)) rfl (am_xeq r10 (by decide) (fun h => ?_) (fun h => ?_))
    · replace hv := hv.1 h
      refine am_xn 1 (c1 := (216, [.ref 0, .ref 61, .ref 64, .int (zi x3), .int (zi x4), .int (zi x5), .int (zi x6), .int (zi x7), .int (zi x8), .int (zi x9)], [.int (zi 0)], M)) rfl ?_
      exact am_xr (some (.int (zi 0))) ⟨rfl, rfl, .boolean, rfl, rfl⟩ hv
    · replace hv := hv.2 h
      refine am_ximul 7 5 x6 (pc := 182) (ls := [.ref 0, .ref 61, .ref 64, .int (zi x3), .int (zi x4), .int (zi x5), .int (zi x6), .int (zi x7), .int (zi x8), .int (zi x9)]) (st := [.ref 61, .int (zi x4), .int (zi x3), .ref 0]) rfl ?_
      refine am_xiadd 2 (5 * x6) 1 (pc := 184) (ls := [.ref 0, .ref 61, .ref 64, .int (zi x3), .int (zi x4), .int (zi x5), .int (zi x6), .int (zi x7), .int (zi x8), .int (zi x9)]) (st := [.ref 61, .int (zi x4), .int (zi x3), .ref 0]) rfl ?_
      obtain ⟨r11, hv⟩ := hv
      refine am_xald rfl rfl rfl r11 ?_
      refine am_xn 0 (c1 := (185, [.ref 0, .ref 61, .ref 64, .int (zi x3), .int (zi x4), .int (zi x5), .int (zi x6), .int (zi x7), .int (zi x8), .int (zi x9)], [.int (zi (iv M 61 ((5 * x6) + 1))), .int (zi x4), .int (zi x3), .ref 0], M)) rfl ?_
      obtain ⟨r13, M12, hc, hv⟩ := hv
      refine am_xc t_SB_find (.invokevirtual 123) 123 (av := [.ref 0, .int (zi x3), .int (zi x4), .int (zi (iv M 61 ((5 * x6) + 1)))]) (rest := []) (rv := some (.int (zi r13))) (M' := M12) rfl rfl rfl rfl (Nat.le_of_ble_eq_true rfl) (fun _ => rfl) (hc) ?_
      refine am_xn 0 (c1 := (188, [.ref 0, .ref 61, .ref 64, .int (zi x3), .int (zi x4), .int (zi x5), .int (zi x6), .int (zi x7), .int (zi x8), .int (zi x9)], [.int (zi r13)], M12)) rfl ?_
      obtain ⟨r14, hv⟩ := hv
      obtain ⟨r15, hv⟩ := hv
      refine am_xn 2 (c1 := (if zi r13 = zi x7 then 193 else 215, [.ref 0, .ref 61, .ref 64, .int (zi x3), .int (zi x4), .int (zi x5), .int (zi x6), .int (zi x7), .int (zi x8), .int (zi x9)], [], M12)) rfl (am_xeq r14 r15 (fun h => ?_) (fun h => ?_))
      · replace hv := hv.1 h
        refine am_ximul 8 5 x6 (pc := 204) (ls := [.ref 0, .ref 61, .ref 64, .int (zi x3), .int (zi x4), .int (zi x5), .int (zi x6), .int (zi x7), .int (zi x8), .int (zi x9)]) (st := [.ref 61, .int (zi x7), .int (zi x4), .int (zi x3), .ref 0]) rfl ?_
        refine am_xiadd 2 (5 * x6) 2 (pc := 206) (ls := [.ref 0, .ref 61, .ref 64, .int (zi x3), .int (zi x4), .int (zi x5), .int (zi x6), .int (zi x7), .int (zi x8), .int (zi x9)]) (st := [.ref 61, .int (zi x7), .int (zi x4), .int (zi x3), .ref 0]) rfl ?_
        obtain ⟨r16, hv⟩ := hv
        refine am_xald rfl rfl rfl r16 ?_
        refine am_xn 0 (c1 := (207, [.ref 0, .ref 61, .ref 64, .int (zi x3), .int (zi x4), .int (zi x5), .int (zi x6), .int (zi x7), .int (zi x8), .int (zi x9)], [.int (zi (iv M12 61 ((5 * x6) + 2))), .int (zi x7), .int (zi x4), .int (zi x3), .ref 0], M12)) rfl ?_
        obtain ⟨r18, M17, hc, hv⟩ := hv
        refine am_xc t_SB_textWord (.invokevirtual 116) 116 (av := [.ref 0, .int (zi x3), .int (zi x4), .int (zi x7), .int (zi (iv M12 61 ((5 * x6) + 2)))]) (rest := []) (rv := some (.int (zi r18))) (M' := M17) rfl rfl rfl rfl (Nat.le_of_ble_eq_true rfl) (fun _ => rfl) (hc) ?_
        refine am_xn 0 (c1 := (210, [.ref 0, .ref 61, .ref 64, .int (zi x3), .int (zi x4), .int (zi x5), .int (zi x6), .int (zi x7), .int (zi x8), .int (zi x9)], [.int (zi r18)], M17)) rfl ?_
        obtain ⟨r19, hv⟩ := hv
        refine am_xn 2 (c1 := (if zi r18 = zi (-2) then 217 else 215, [.ref 0, .ref 61, .ref 64, .int (zi x3), .int (zi x4), .int (zi x5), .int (zi x6), .int (zi x7), .int (zi x8), .int (zi x9)], [], M17)) rfl (am_xeq r19 (by decide) (fun h => ?_) (fun h => ?_))
        · replace hv := hv.1 h
          refine am_xn 1 (c1 := (220, [.ref 0, .ref 61, .ref 64, .int (zi x3), .int (zi x4), .int (zi x5 + zi 1), .int (zi x6), .int (zi x7), .int (zi x8), .int (zi x9)], [], M17)) rfl ?_
          rw [zi_add]
          refine am_xn 1 (c1 := (223, [.ref 0, .ref 61, .ref 64, .int (zi x3), .int (zi x4), .int (zi (x5 + 1)), .int (zi x6 + zi 1), .int (zi x7), .int (zi x8), .int (zi x9)], [], M17)) rfl ?_
          rw [zi_add]
          refine am_xn 1 (c1 := (6, [.ref 0, .ref 61, .ref 64, .int (zi x3), .int (zi x4), .int (zi (x5 + 1)), .int (zi (x6 + 1)), .int (zi x7), .int (zi x8), .int (zi x9)], [], M17)) rfl ?_
          refine am_xf 7 ?_
          refine am_xf 8 ?_
          refine am_xf 9 ?_
          exact hv
        · replace hv := hv.2 h
          refine am_xn 1 (c1 := (216, [.ref 0, .ref 61, .ref 64, .int (zi x3), .int (zi x4), .int (zi x5), .int (zi x6), .int (zi x7), .int (zi x8), .int (zi x9)], [.int (zi 0)], M17)) rfl ?_
          exact am_xr (some (.int (zi 0))) ⟨rfl, rfl, .boolean, rfl, rfl⟩ hv
      · replace hv := hv.2 h
        refine am_xn 1 (c1 := (216, [.ref 0, .ref 61, .ref 64, .int (zi x3), .int (zi x4), .int (zi x5), .int (zi x6), .int (zi x7), .int (zi x8), .int (zi x9)], [.int (zi 0)], M12)) rfl ?_
        exact am_xr (some (.int (zi 0))) ⟨rfl, rfl, .boolean, rfl, rfl⟩ hv
theorem frc_12 {L : Lw} {M : am_M} (lr : LR L M) : frc L 40 = frc L 12 := by
  have h : ∀ k : Nat, frc L (12 + min k 28) = frc L 12 := by
    intro k
    induction k with
    | zero => rfl
    | succ k ih =>
      by_cases q : k < 28
      · rw [show (12 : Int) + ((min (k + 1) 28 : Nat) : Int) = 12 + ((min k 28 : Nat) : Int) + 1 by omega, frc_s L (by omega), ih, if_pos (lr.2.2 _ (by omega) (by omega)), Int.add_zero]
      · rw [show min (k + 1) 28 = min k 28 by omega, ih]
  exact h 28
section IS
variable {b : Int → Int} {M : am_M} {d e : Int}
theorem is_6 (w : WB b) (cb : CBR (iv M 11) b) (p : PN b) (hl : vlaw d e) (lr : LR (lw b d e) M) : am_x t_LAW_isSame (6, [.ref 0, .ref 61, .ref 64, .int (zi d), .int (zi e), .int (zi 0), .int (zi 0), .null, .null, .null], [], M) (fun rv m => rv = some (.int (zi 1)) ∧ CQ M m) := by
  have v := lw_VL w d e
  have ln := lw_LN w p d e
  have f12 := frc_12 lr
  generalize hL : lw b d e = L at *
  have n40 := frc40 L
  refine loop_up (fun c (s : Int × am_M) => (6, [.ref 0, .ref 61, .ref 64, .int (zi d), .int (zi e), .int (zi s.1), .int (zi c), .null, .null, .null], [], s.2)) 12 (fun c s => s.1 = frc L c ∧ CQ M s.2) ?_ ?_ 0 (0, M) (by omega) (by omega) ⟨rfl, CQ_refl M⟩
  · rintro ⟨n, N⟩ ⟨hn, cq⟩
    dsimp only at hn cq ⊢
    have cbN : CBR (iv N 11) b := by rw [iv_row (cq 11 (by omega))]; exact cb
    obtain ⟨M1, k1, q1⟩ := cq_clauses w cbN hl
    have cb1 : CBR (iv M1 11) b := by rw [iv_row (q1 11 (by omega))]; exact cbN
    obtain ⟨M2, k2, q2⟩ := cq_clause_no (x := 0) (i := frc L 40) w cb1 hl (by omega) (by rw [hL]; exact Int.le_refl _) ⟨by omega, by omega⟩
    rw [hL] at k1
    rw [hn, ← f12]
    exact vc_w_isSame_6 d e _ 12 N _ ⟨by decide, fun q => by omega, fun _ => ⟨_, M1, k1, ⟨by omega, by omega⟩, ⟨by omega, by omega⟩, fun _ => ⟨_, M2, k2, by decide, fun _ => ⟨rfl, CQ_trans cq (CQ_trans q1 q2)⟩, fun q => absurd rfl q⟩, fun q => absurd rfl q⟩⟩
  · rintro c ⟨n, N⟩ c0 c1 ⟨hn, cq⟩ kk
    dsimp only at hn cq kk ⊢
    have lrN : LR L N := LR_rows lr (cq 61 (by omega)) (cq 64 (by omega))
    have e0 := lrN.1 c c0 c1
    have fs := frc_s L c0
    refine vc_w_isSame_6 d e n c N _ ⟨⟨by omega, by omega⟩, fun _ => ⟨⟨by omega, by omega⟩, fun q => ?_, fun q => ?_⟩, fun q => by omega⟩
    · have nc : ¬ L.code c = 0 := fun z => by rw [if_pos z] at e0; omega
      have ncb : ¬ (lw b d e).code c = 0 := by rw [hL]; exact nc
      rw [if_neg nc] at fs
      have rr := rank_rg' (L := L) c
      have vr := v.rg c c0 (by omega)
      have vl := v.ln c c0 (by omega) nc
      have vs := v.ls c c0 (by omega) nc
      have cbN : CBR (iv N 11) b := by rw [iv_row (cq 11 (by omega))]; exact cb
      obtain ⟨M1, k1, q1⟩ := cq_clause (x := 0) w cbN hl c0 (by omega) ncb (by omega)
      have cb1 : CBR (iv M1 11) b := by rw [iv_row (q1 11 (by omega))]; exact cbN
      obtain ⟨M2, k2, q2⟩ := cq_clause (x := 1) w cb1 hl c0 (by omega) ncb (by omega)
      have cb2 : CBR (iv M2 11) b := by rw [iv_row (q2 11 (by omega))]; exact cb1
      obtain ⟨M3, k3, q3⟩ := cq_clause (x := 2) w cb2 hl c0 (by omega) ncb (by omega)
      have cb3 : CBR (iv M3 11) b := by rw [iv_row (q3 11 (by omega))]; exact cb2
      obtain ⟨M4, k4, q4⟩ := cq_clause (x := 3) w cb3 hl c0 (by omega) ncb (by omega)
      rw [hL] at k1 k2 k3 k4
      have cq1 := CQ_trans cq q1
      have cq2 := CQ_trans cq1 q2
      have cq3 := CQ_trans cq2 q3
      have cq4 := CQ_trans cq3 q4
      obtain ⟨f1, f2, f3, f4, f5⟩ := lrN.2.1 c c0 c1 nc
      have r61 : ∀ {X : am_M}, CQ M X → iv X 61 = iv N 61 := fun h => (iv_row (h 61 (by omega))).trans (iv_row (cq 61 (by omega))).symm
      have r64 : ∀ {X : am_M}, CQ M X → iv X 64 = iv N 64 := fun h => (iv_row (h 64 (by omega))).trans (iv_row (cq 64 (by omega))).symm
      refine ⟨_, N, sp_w_indexOf lrN c0 c1 nc, _, M1, k1, ⟨by omega, by omega⟩, ?_, fun _ => ⟨_, M2, k2, ?_, fun _ => ⟨_, M3, k3, ⟨by omega, by omega⟩, ?_, fun _ => ⟨_, M4, k4, ⟨by omega, by omega⟩, ?_, fun _ => ?_, fun z => absurd ?_ z⟩, fun z => absurd ?_ z⟩, fun z => absurd rfl z⟩, fun z => absurd ?_ z⟩
      · show zr (L.code c); exact ⟨by omega, by omega⟩
      · show zr c; exact ⟨by omega, by omega⟩
      · show zr (L.len c); exact ⟨by omega, by omega⟩
      · show zr (L.lst c); exact ⟨by omega, by omega⟩
      · -- its words
        refine loop_up (fun k (X : am_M) => (115, [.ref 0, .ref 61, .ref 64, .int (zi d), .int (zi e), .int (zi n), .int (zi c), .int (zi (rank L c)), .int (zi 1), .int (zi k)], [], X)) (L.len c) (fun k X => CQ M X) ?_ ?_ 0 M4 (by omega) vl.1 cq4
        · intro X hX
          have cbX : CBR (iv X 11) b := by rw [iv_row (hX 11 (by omega))]; exact cb
          have hcd : isCd (L.code c) := isNum_cd ((ln c).resolve_left nc)
          obtain ⟨Y, k5, q5⟩ := cq_find w cbX hl hcd ⟨by omega, by omega⟩ nc
          have cbY : CBR (iv Y 11) b := by rw [iv_row (q5 11 (by omega))]; exact cbX
          obtain ⟨Z, k6, q6⟩ := cq_textWord (x := L.len c) w cbY hl c0 (by omega) ncb vl.1 ⟨by omega, by omega⟩
          rw [hL] at k5 k6
          have hh : hold L (L.code c) = c := (hold_eq v nc (Or.inr ⟨c0, by omega, rfl⟩)).symm
          rw [hh, if_neg (by omega)] at k5
          rw [if_neg (by omega)] at k6
          have cqY := CQ_trans hX q5
          have cqZ := CQ_trans cqY q6
          refine vc_w_isSame_115 d e n c (rank L c) 1 (L.len c) X _ ⟨⟨by omega, by omega⟩, ⟨by omega, by omega⟩, fun z => ?_, fun _ => ⟨by decide, fun z => by omega, fun _ => ⟨⟨by omega, by omega⟩, _, Y, by rw [r61 hX, f1]; exact k5, rr, rr, fun _ => ⟨⟨by omega, by omega⟩, _, Z, by rw [r61 cqY, f2]; exact k6, by decide, fun _ => kk (n + 1, Z) ⟨by dsimp only; omega, cqZ⟩, fun z => absurd rfl z⟩, fun z => absurd rfl z⟩⟩⟩
          rw [r61 hX, f2] at z
          omega
        · intro k X k0 k1 hX kk2
          have cbX : CBR (iv X 11) b := by rw [iv_row (hX 11 (by omega))]; exact cb
          obtain ⟨Y, k5, q5⟩ := cq_textWord (x := k) w cbX hl c0 (by omega) ncb k0 ⟨by omega, by omega⟩
          rw [hL, if_pos k1] at k5
          have cqY := CQ_trans hX q5
          have lrY : LR L Y := LR_rows lr (cqY 61 (by omega)) (cqY 64 (by omega))
          have tr := tw_rg v c0 (by omega) nc k0 k1
          refine vc_w_isSame_115 d e n c (rank L c) 1 k X _ ⟨⟨by omega, by omega⟩, ⟨by omega, by omega⟩, fun _ => ⟨by decide, fun z => by omega, fun _ => ⟨_, Y, k5, _, Y, sp_w_toldWord v lrY c0 c1 nc k0 k1, ⟨by omega, by omega⟩, ⟨by omega, by omega⟩, fun _ => kk2 Y cqY, fun z => absurd rfl z⟩⟩, fun z => ?_⟩
          rw [r61 hX, f2] at z
          omega
      · show L.lst c = _
        rw [r64 cq4, f4]
      · show L.len c = _
        rw [r61 cq3, f2]
      · show L.code c = _
        rw [r61 cq1, f1]
    · have nc : L.code c = 0 := by
        by_cases z : L.code c = 0
        · exact z
        · rw [if_neg z] at e0; exact absurd e0 q
      rw [if_pos nc] at fs
      exact kk (n, N) ⟨by dsimp only; omega, cq⟩
theorem sp_w_isSame (w : WB b) (cb : CBR (iv M 11) b) (p : PN b) (hl : vlaw d e) (lr : LR (lw b d e) M) : ∃ M', am_call t_LAW_isSame [.ref 0, .ref 61, .ref 64, .int (zi d), .int (zi e)] M (some (.int (zi 1))) M' ∧ CQ M M' := by
  have key : am_x t_LAW_isSame (0, am_ent (am_mL t_LAW_isSame) [.ref 0, .ref 61, .ref 64, .int (zi d), .int (zi e)], [], M) (fun rv m => rv = some (.int (zi 1)) ∧ CQ M m) := vc_w_isSame d e M _ (is_6 w cb p hl lr)
  obtain ⟨rv, M', h1, h2, h3⟩ := am_call_ex ⟨Nat.le_of_ble_eq_true rfl, rfl⟩ key
  subst h2
  exact ⟨M', h1, h3⟩
end IS
