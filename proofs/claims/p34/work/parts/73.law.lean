/-! the law -/
set_option maxRecDepth 100000 in
theorem vc_w_law  (M : am_M) (Q : Option Value → am_M → Prop) (hv : ∃ (r2 : Int) (M1 : am_M), am_call t_SB_clauses [.ref 0, .int (zi 9999), .int (zi (-1))] M (some (.int (zi r2))) M1 ∧ ((zr r2) ∧ ((r2 = 0 → ∃ (r5 : Int) (M4 : am_M), am_call t_SB_clauses [.ref 0, .int (zi 10000), .int (zi (-1))] M1 (some (.int (zi r5))) M4 ∧ ((zr r5) ∧ ((r5 = (-2) → ∃ (r8 : Int) (M7 : am_M), am_call t_SB_clause [.ref 0, .int (zi 0), .int (zi 0), .int (zi 0), .int (zi 0)] M4 (some (.int (zi r8))) M7 ∧ ((zr r8) ∧ ((r8 = (-2) → ∃ (r11 : Int) (M10 : am_M), am_call t_SB_find [.ref 0, .int (zi 0), .int (zi (-1)), .int (zi 728)] M7 (some (.int (zi r11))) M10 ∧ ((zr r11) ∧ ((r11 = (-2) → ∃ (r14 : Int) (M13 : am_M), am_call t_SB_find [.ref 0, .int (zi 0), .int (zi (-1)), .int (zi 730)] M10 (some (.int (zi r14))) M13 ∧ ((zr r14) ∧ ((r14 = (-2) → ∃ (r17 : Int) (M16 : am_M), am_call t_SB_find [.ref 0, .int (zi 0), .int (zi (-1)), .int (zi 729)] M13 (some (.int (zi r17))) M16 ∧ ((zr r17) ∧ ((r17 = (-1) → am_x t_LAW_law (131, [.ref 5000, .ref 0, .ref 58, .ref 59, .ref 60, .ref 61, .ref 62, .ref 63, .ref 64, .int (zi 0), .null, .null, .null, .null], [], M16) Q) ∧ (¬ r17 = (-1) → Q (some (.int (zi 0))) M16)))) ∧ (¬ r14 = (-2) → Q (some (.int (zi 0))) M13)))) ∧ (¬ r11 = (-2) → Q (some (.int (zi 0))) M10)))) ∧ (¬ r8 = (-2) → Q (some (.int (zi 0))) M7)))) ∧ (¬ r5 = (-2) → Q (some (.int (zi 0))) M4)))) ∧ (¬ r2 = 0 → Q (some (.int (zi 0))) M1)))) : am_x t_LAW_law (48, [.ref 5000, .ref 0, .ref 58, .ref 59, .ref 60, .ref 61, .ref 62, .ref 63, .ref 64, .null, .null, .null, .null, .null], [], M) Q := by
  refine am_xn 3 (c1 := (53, [.ref 5000, .ref 0, .ref 58, .ref 59, .ref 60, .ref 61, .ref 62, .ref 63, .ref 64, .null, .null, .null, .null, .null], [.int (zi (-1)), .int (zi 9999), .ref 0], M)) rfl ?_
  obtain ⟨r2, M1, hc, hv⟩ := hv
  refine am_xc t_SB_clauses (.invokevirtual 127) 127 (av := [.ref 0, .int (zi 9999), .int (zi (-1))]) (rest := []) (rv := some (.int (zi r2))) (M' := M1) rfl rfl rfl rfl (Nat.le_of_ble_eq_true rfl) (fun _ => rfl) (hc) ?_
  refine am_xn 0 (c1 := (56, [.ref 5000, .ref 0, .ref 58, .ref 59, .ref 60, .ref 61, .ref 62, .ref 63, .ref 64, .null, .null, .null, .null, .null], [.int (zi r2)], M1)) rfl ?_
  obtain ⟨r3, hv⟩ := hv
  refine am_xn 1 (c1 := (if zi r2 = zi 0 then 59 else 126, [.ref 5000, .ref 0, .ref 58, .ref 59, .ref 60, .ref 61, .ref 62, .ref 63, .ref 64, .null, .null, .null, .null, .null], [], M1)) rfl (am_xeq r3 (by decide) (fun h => ?_) (fun h => ?_))
  · replace hv := hv.1 h
    refine am_xn 3 (c1 := (64, [.ref 5000, .ref 0, .ref 58, .ref 59, .ref 60, .ref 61, .ref 62, .ref 63, .ref 64, .null, .null, .null, .null, .null], [.int (zi (-1)), .int (zi 10000), .ref 0], M1)) rfl ?_
    obtain ⟨r5, M4, hc, hv⟩ := hv
    refine am_xc t_SB_clauses (.invokevirtual 127) 127 (av := [.ref 0, .int (zi 10000), .int (zi (-1))]) (rest := []) (rv := some (.int (zi r5))) (M' := M4) rfl rfl rfl rfl (Nat.le_of_ble_eq_true rfl) (fun _ => rfl) (hc) ?_
    refine am_xn 0 (c1 := (67, [.ref 5000, .ref 0, .ref 58, .ref 59, .ref 60, .ref 61, .ref 62, .ref 63, .ref 64, .null, .null, .null, .null, .null], [.int (zi r5)], M4)) rfl ?_
    obtain ⟨r6, hv⟩ := hv
    refine am_xn 2 (c1 := (if zi r5 = zi (-2) then 72 else 126, [.ref 5000, .ref 0, .ref 58, .ref 59, .ref 60, .ref 61, .ref 62, .ref 63, .ref 64, .null, .null, .null, .null, .null], [], M4)) rfl (am_xeq r6 (by decide) (fun h => ?_) (fun h => ?_))
    · replace hv := hv.1 h
      refine am_xn 5 (c1 := (77, [.ref 5000, .ref 0, .ref 58, .ref 59, .ref 60, .ref 61, .ref 62, .ref 63, .ref 64, .null, .null, .null, .null, .null], [.int (zi 0), .int (zi 0), .int (zi 0), .int (zi 0), .ref 0], M4)) rfl ?_
      obtain ⟨r8, M7, hc, hv⟩ := hv
      refine am_xc t_SB_clause (.invokevirtual 112) 112 (av := [.ref 0, .int (zi 0), .int (zi 0), .int (zi 0), .int (zi 0)]) (rest := []) (rv := some (.int (zi r8))) (M' := M7) rfl rfl rfl rfl (Nat.le_of_ble_eq_true rfl) (fun _ => rfl) (hc) ?_
      refine am_xn 0 (c1 := (80, [.ref 5000, .ref 0, .ref 58, .ref 59, .ref 60, .ref 61, .ref 62, .ref 63, .ref 64, .null, .null, .null, .null, .null], [.int (zi r8)], M7)) rfl ?_
      obtain ⟨r9, hv⟩ := hv
      refine am_xn 2 (c1 := (if zi r8 = zi (-2) then 85 else 126, [.ref 5000, .ref 0, .ref 58, .ref 59, .ref 60, .ref 61, .ref 62, .ref 63, .ref 64, .null, .null, .null, .null, .null], [], M7)) rfl (am_xeq r9 (by decide) (fun h => ?_) (fun h => ?_))
      · replace hv := hv.1 h
        refine am_xn 4 (c1 := (91, [.ref 5000, .ref 0, .ref 58, .ref 59, .ref 60, .ref 61, .ref 62, .ref 63, .ref 64, .null, .null, .null, .null, .null], [.int (zi 728), .int (zi (-1)), .int (zi 0), .ref 0], M7)) rfl ?_
        obtain ⟨r11, M10, hc, hv⟩ := hv
        refine am_xc t_SB_find (.invokevirtual 123) 123 (av := [.ref 0, .int (zi 0), .int (zi (-1)), .int (zi 728)]) (rest := []) (rv := some (.int (zi r11))) (M' := M10) rfl rfl rfl rfl (Nat.le_of_ble_eq_true rfl) (fun _ => rfl) (hc) ?_
        refine am_xn 0 (c1 := (94, [.ref 5000, .ref 0, .ref 58, .ref 59, .ref 60, .ref 61, .ref 62, .ref 63, .ref 64, .null, .null, .null, .null, .null], [.int (zi r11)], M10)) rfl ?_
        obtain ⟨r12, hv⟩ := hv
        refine am_xn 2 (c1 := (if zi r11 = zi (-2) then 99 else 126, [.ref 5000, .ref 0, .ref 58, .ref 59, .ref 60, .ref 61, .ref 62, .ref 63, .ref 64, .null, .null, .null, .null, .null], [], M10)) rfl (am_xeq r12 (by decide) (fun h => ?_) (fun h => ?_))
        · replace hv := hv.1 h
          refine am_xn 4 (c1 := (105, [.ref 5000, .ref 0, .ref 58, .ref 59, .ref 60, .ref 61, .ref 62, .ref 63, .ref 64, .null, .null, .null, .null, .null], [.int (zi 730), .int (zi (-1)), .int (zi 0), .ref 0], M10)) rfl ?_
          obtain ⟨r14, M13, hc, hv⟩ := hv
          refine am_xc t_SB_find (.invokevirtual 123) 123 (av := [.ref 0, .int (zi 0), .int (zi (-1)), .int (zi 730)]) (rest := []) (rv := some (.int (zi r14))) (M' := M13) rfl rfl rfl rfl (Nat.le_of_ble_eq_true rfl) (fun _ => rfl) (hc) ?_
          refine am_xn 0 (c1 := (108, [.ref 5000, .ref 0, .ref 58, .ref 59, .ref 60, .ref 61, .ref 62, .ref 63, .ref 64, .null, .null, .null, .null, .null], [.int (zi r14)], M13)) rfl ?_
          obtain ⟨r15, hv⟩ := hv
          refine am_xn 2 (c1 := (if zi r14 = zi (-2) then 113 else 126, [.ref 5000, .ref 0, .ref 58, .ref 59, .ref 60, .ref 61, .ref 62, .ref 63, .ref 64, .null, .null, .null, .null, .null], [], M13)) rfl (am_xeq r15 (by decide) (fun h => ?_) (fun h => ?_))
          · replace hv := hv.1 h
            refine am_xn 4 (c1 := (119, [.ref 5000, .ref 0, .ref 58, .ref 59, .ref 60, .ref 61, .ref 62, .ref 63, .ref 64, .null, .null, .null, .null, .null], [.int (zi 729), .int (zi (-1)), .int (zi 0), .ref 0], M13)) rfl ?_
            obtain ⟨r17, M16, hc, hv⟩ := hv
            refine am_xc t_SB_find (.invokevirtual 123) 123 (av := [.ref 0, .int (zi 0), .int (zi (-1)), .int (zi 729)]) (rest := []) (rv := some (.int (zi r17))) (M' := M16) rfl rfl rfl rfl (Nat.le_of_ble_eq_true rfl) (fun _ => rfl) (hc) ?_
            refine am_xn 0 (c1 := (122, [.ref 5000, .ref 0, .ref 58, .ref 59, .ref 60, .ref 61, .ref 62, .ref 63, .ref 64, .null, .null, .null, .null, .null], [.int (zi r17)], M16)) rfl ?_
            obtain ⟨r18, hv⟩ := hv
            refine am_xn 2 (c1 := (if zi r17 = zi (-1) then 128 else 126, [.ref 5000, .ref 0, .ref 58, .ref 59, .ref 60, .ref 61, .ref 62, .ref 63, .ref 64, .null, .null, .null, .null, .null], [], M16)) rfl (am_xeq r18 (by decide) (fun h => ?_) (fun h => ?_))
            · replace hv := hv.1 h
              refine am_xn 2 (c1 := (131, [.ref 5000, .ref 0, .ref 58, .ref 59, .ref 60, .ref 61, .ref 62, .ref 63, .ref 64, .int (zi 0), .null, .null, .null, .null], [], M16)) rfl ?_
              exact hv
            · replace hv := hv.2 h
              refine am_xn 1 (c1 := (127, [.ref 5000, .ref 0, .ref 58, .ref 59, .ref 60, .ref 61, .ref 62, .ref 63, .ref 64, .null, .null, .null, .null, .null], [.int (zi 0)], M16)) rfl ?_
              exact am_xr (some (.int (zi 0))) ⟨rfl, rfl, .boolean, rfl, rfl⟩ hv
          · replace hv := hv.2 h
            refine am_xn 1 (c1 := (127, [.ref 5000, .ref 0, .ref 58, .ref 59, .ref 60, .ref 61, .ref 62, .ref 63, .ref 64, .null, .null, .null, .null, .null], [.int (zi 0)], M13)) rfl ?_
            exact am_xr (some (.int (zi 0))) ⟨rfl, rfl, .boolean, rfl, rfl⟩ hv
        · replace hv := hv.2 h
          refine am_xn 1 (c1 := (127, [.ref 5000, .ref 0, .ref 58, .ref 59, .ref 60, .ref 61, .ref 62, .ref 63, .ref 64, .null, .null, .null, .null, .null], [.int (zi 0)], M10)) rfl ?_
          exact am_xr (some (.int (zi 0))) ⟨rfl, rfl, .boolean, rfl, rfl⟩ hv
      · replace hv := hv.2 h
        refine am_xn 1 (c1 := (127, [.ref 5000, .ref 0, .ref 58, .ref 59, .ref 60, .ref 61, .ref 62, .ref 63, .ref 64, .null, .null, .null, .null, .null], [.int (zi 0)], M7)) rfl ?_
        exact am_xr (some (.int (zi 0))) ⟨rfl, rfl, .boolean, rfl, rfl⟩ hv
    · replace hv := hv.2 h
      refine am_xn 1 (c1 := (127, [.ref 5000, .ref 0, .ref 58, .ref 59, .ref 60, .ref 61, .ref 62, .ref 63, .ref 64, .null, .null, .null, .null, .null], [.int (zi 0)], M4)) rfl ?_
      exact am_xr (some (.int (zi 0))) ⟨rfl, rfl, .boolean, rfl, rfl⟩ hv
  · replace hv := hv.2 h
    refine am_xn 1 (c1 := (127, [.ref 5000, .ref 0, .ref 58, .ref 59, .ref 60, .ref 61, .ref 62, .ref 63, .ref 64, .null, .null, .null, .null, .null], [.int (zi 0)], M1)) rfl ?_
    exact am_xr (some (.int (zi 0))) ⟨rfl, rfl, .boolean, rfl, rfl⟩ hv
set_option maxRecDepth 100000 in
theorem vc_w_law_131 (x9 : Int) (M : am_M) (Q : Option Value → am_M → Prop) (hv : (zr x9) ∧ ((x9 < 5 → ∃ (r3 : Int) (M2 : am_M), am_call t_LAW_enacts [.ref 0, .ref 58, .ref 59, .ref 60, .ref 5000, .int (zi (7 * x9))] M (some (.int (zi r3))) M2 ∧ ((zr r3) ∧ ((r3 = 0 → Q (some (.int (zi 0))) M2) ∧ (¬ r3 = 0 → ∃ (r6 : Int) (M5 : am_M), am_call t_LAW_cell [.ref 5000, .int (zi (35 + x9))] M2 (some (.int (zi r6))) M5 ∧ (am_x t_LAW_law (167, [.ref 5000, .ref 0, .ref 58, .ref 59, .ref 60, .ref 61, .ref 62, .ref 63, .ref 64, .int (zi x9), .int (zi r6), .null, .null, .null], [], M5) Q))))) ∧ (5 ≤ x9 → ∃ (r8 : Int) (M7 : am_M), am_call t_SB_count [.ref 0, .int (zi 0)] M (some (.int (zi r8))) M7 ∧ ((zr r8) ∧ ((r8 = 5 → Q (some (.int (zi 1))) M7) ∧ (¬ r8 = 5 → Q (some (.int (zi 0))) M7)))))) : am_x t_LAW_law (131, [.ref 5000, .ref 0, .ref 58, .ref 59, .ref 60, .ref 61, .ref 62, .ref 63, .ref 64, .int (zi x9), .null, .null, .null, .null], [], M) Q := by
  obtain ⟨r1, hv⟩ := hv
  refine am_xn 3 (c1 := (if zi x9 < zi 5 then 137 else 431, [.ref 5000, .ref 0, .ref 58, .ref 59, .ref 60, .ref 61, .ref 62, .ref 63, .ref 64, .int (zi x9), .null, .null, .null, .null], [], M)) rfl (am_xlt r1 (by decide) (fun h => ?_) (fun h => ?_))
  · replace hv := hv.1 h
    refine am_ximul 8 7 x9 (pc := 148) (ls := [.ref 5000, .ref 0, .ref 58, .ref 59, .ref 60, .ref 61, .ref 62, .ref 63, .ref 64, .int (zi x9), .null, .null, .null, .null]) (st := [.ref 5000, .ref 60, .ref 59, .ref 58, .ref 0]) rfl ?_
    obtain ⟨r3, M2, hc, hv⟩ := hv
    refine am_xc t_LAW_enacts (.invokestatic 131) 131 (av := [.ref 0, .ref 58, .ref 59, .ref 60, .ref 5000, .int (zi (7 * x9))]) (rest := []) (rv := some (.int (zi r3))) (M' := M2) rfl rfl rfl rfl (Nat.le_of_ble_eq_true rfl) (fun h => nomatch h) (hc) ?_
    refine am_xn 0 (c1 := (151, [.ref 5000, .ref 0, .ref 58, .ref 59, .ref 60, .ref 61, .ref 62, .ref 63, .ref 64, .int (zi x9), .null, .null, .null, .null], [.int (zi r3)], M2)) rfl ?_
    obtain ⟨r4, hv⟩ := hv
    refine am_xn 1 (c1 := (if zi r3 = zi 0 then 154 else 156, [.ref 5000, .ref 0, .ref 58, .ref 59, .ref 60, .ref 61, .ref 62, .ref 63, .ref 64, .int (zi x9), .null, .null, .null, .null], [], M2)) rfl (am_xeq r4 (by decide) (fun h => ?_) (fun h => ?_))
    · replace hv := hv.1 h
      refine am_xn 1 (c1 := (155, [.ref 5000, .ref 0, .ref 58, .ref 59, .ref 60, .ref 61, .ref 62, .ref 63, .ref 64, .int (zi x9), .null, .null, .null, .null], [.int (zi 0)], M2)) rfl ?_
      exact am_xr (some (.int (zi 0))) ⟨rfl, rfl, .boolean, rfl, rfl⟩ hv
    · replace hv := hv.2 h
      refine am_xiadd 4 35 x9 (pc := 162) (ls := [.ref 5000, .ref 0, .ref 58, .ref 59, .ref 60, .ref 61, .ref 62, .ref 63, .ref 64, .int (zi x9), .null, .null, .null, .null]) (st := [.ref 5000]) rfl ?_
      obtain ⟨r6, M5, hc, hv⟩ := hv
      refine am_xc t_LAW_cell (.invokestatic 96) 96 (av := [.ref 5000, .int (zi (35 + x9))]) (rest := []) (rv := some (.int (zi r6))) (M' := M5) rfl rfl rfl rfl (Nat.le_of_ble_eq_true rfl) (fun h => nomatch h) (hc) ?_
      refine am_xn 0 (c1 := (165, [.ref 5000, .ref 0, .ref 58, .ref 59, .ref 60, .ref 61, .ref 62, .ref 63, .ref 64, .int (zi x9), .null, .null, .null, .null], [.int (zi r6)], M5)) rfl ?_
      refine am_xn 1 (c1 := (167, [.ref 5000, .ref 0, .ref 58, .ref 59, .ref 60, .ref 61, .ref 62, .ref 63, .ref 64, .int (zi x9), .int (zi r6), .null, .null, .null], [], M5)) rfl ?_
      exact hv
  · replace hv := hv.2 h
    refine am_xn 2 (c1 := (433, [.ref 5000, .ref 0, .ref 58, .ref 59, .ref 60, .ref 61, .ref 62, .ref 63, .ref 64, .int (zi x9), .null, .null, .null, .null], [.int (zi 0), .ref 0], M)) rfl ?_
    obtain ⟨r8, M7, hc, hv⟩ := hv
    refine am_xc t_SB_count (.invokevirtual 106) 106 (av := [.ref 0, .int (zi 0)]) (rest := []) (rv := some (.int (zi r8))) (M' := M7) rfl rfl rfl rfl (Nat.le_of_ble_eq_true rfl) (fun _ => rfl) (hc) ?_
    refine am_xn 0 (c1 := (436, [.ref 5000, .ref 0, .ref 58, .ref 59, .ref 60, .ref 61, .ref 62, .ref 63, .ref 64, .int (zi x9), .null, .null, .null, .null], [.int (zi r8)], M7)) rfl ?_
    obtain ⟨r9, hv⟩ := hv
    refine am_xn 2 (c1 := (if zi r8 = zi 5 then 440 else 444, [.ref 5000, .ref 0, .ref 58, .ref 59, .ref 60, .ref 61, .ref 62, .ref 63, .ref 64, .int (zi x9), .null, .null, .null, .null], [], M7)) rfl (am_xeq r9 (by decide) (fun h => ?_) (fun h => ?_))
    · replace hv := hv.1 h
      refine am_xn 2 (c1 := (445, [.ref 5000, .ref 0, .ref 58, .ref 59, .ref 60, .ref 61, .ref 62, .ref 63, .ref 64, .int (zi x9), .null, .null, .null, .null], [.int (zi 1)], M7)) rfl ?_
      exact am_xr (some (.int (zi 1))) ⟨rfl, rfl, .boolean, rfl, rfl⟩ hv
    · replace hv := hv.2 h
      refine am_xn 1 (c1 := (445, [.ref 5000, .ref 0, .ref 58, .ref 59, .ref 60, .ref 61, .ref 62, .ref 63, .ref 64, .int (zi x9), .null, .null, .null, .null], [.int (zi 0)], M7)) rfl ?_
      exact am_xr (some (.int (zi 0))) ⟨rfl, rfl, .boolean, rfl, rfl⟩ hv
set_option maxRecDepth 100000 in
theorem vc_w_law_167 (x9 : Int) (x10 : Int) (M : am_M) (Q : Option Value → am_M → Prop) (hv : ∃ (r2 : Int) (M1 : am_M), am_call t_LAW_low [.int (zi (zshr x10 4)), .int (zi (iv M 60 0))] M (some (.int (zi r2))) M1 ∧ (am_x t_LAW_law (180, [.ref 5000, .ref 0, .ref 58, .ref 59, .ref 60, .ref 61, .ref 62, .ref 63, .ref 64, .int (zi x9), .int (zi x10), .int (zi r2), .null, .null], [], M1) Q)) : am_x t_LAW_law (167, [.ref 5000, .ref 0, .ref 58, .ref 59, .ref 60, .ref 61, .ref 62, .ref 63, .ref 64, .int (zi x9), .int (zi x10), .null, .null, .null], [], M) Q := by
  refine am_xbit 3 (zi x10 >>> (zi 4 &&& 31)) (pc := 171) (ls := [.ref 5000, .ref 0, .ref 58, .ref 59, .ref 60, .ref 61, .ref 62, .ref 63, .ref 64, .int (zi x9), .int (zi x10), .null, .null, .null]) (st := []) rfl ?_
  refine am_xn 0 (c1 := (171, [.ref 5000, .ref 0, .ref 58, .ref 59, .ref 60, .ref 61, .ref 62, .ref 63, .ref 64, .int (zi x9), .int (zi x10), .null, .null, .null], [.int (zi (zshr x10 4))], M)) rfl ?_
  refine am_xrd 3 60 0 (pc := 175) (ls := [.ref 5000, .ref 0, .ref 58, .ref 59, .ref 60, .ref 61, .ref 62, .ref 63, .ref 64, .int (zi x9), .int (zi x10), .null, .null, .null]) (st := [.int (zi (zshr x10 4))]) rfl ?_
  obtain ⟨r2, M1, hc, hv⟩ := hv
  refine am_xc t_LAW_low (.invokestatic 57) 57 (av := [.int (zi (zshr x10 4)), .int (zi (iv M 60 0))]) (rest := []) (rv := some (.int (zi r2))) (M' := M1) rfl rfl rfl rfl (Nat.le_of_ble_eq_true rfl) (fun h => nomatch h) (hc) ?_
  refine am_xn 0 (c1 := (178, [.ref 5000, .ref 0, .ref 58, .ref 59, .ref 60, .ref 61, .ref 62, .ref 63, .ref 64, .int (zi x9), .int (zi x10), .null, .null, .null], [.int (zi r2)], M1)) rfl ?_
  refine am_xn 1 (c1 := (180, [.ref 5000, .ref 0, .ref 58, .ref 59, .ref 60, .ref 61, .ref 62, .ref 63, .ref 64, .int (zi x9), .int (zi x10), .int (zi r2), .null, .null], [], M1)) rfl ?_
  exact hv
set_option maxRecDepth 100000 in
theorem vc_w_law_180 (x9 : Int) (x10 : Int) (x11 : Int) (M : am_M) (Q : Option Value → am_M → Prop) (hv : ∃ (r2 : Int) (M1 : am_M), am_call t_LAW_low [.int (zi x10), .int (zi 4)] M (some (.int (zi r2))) M1 ∧ ((zr r2) ∧ ((r2 = 0 → (0 ≤ (9 + x11) ∧ (9 + x11) < 32) ∧ ((0 ≤ (9 + x11) ∧ (9 + x11) < 32) ∧ (∀ M5, M5 = zup M1 60 (9 + x11) (1 - (iv M1 60 (9 + x11))) → (0 ≤ (9 + x11) ∧ (9 + x11) < 32) ∧ (((iv M5 60 (9 + x11)) = 1 → ∃ (r9 : Int) (M8 : am_M), am_call t_SB_revoke [.ref 0, .int (zi x11), .int (zi 1)] M5 (some (.int (zi r9))) M8 ∧ ((zr r9) ∧ ((r9 = 1 → (0 ≤ (9 + x11) ∧ (9 + x11) < 32) ∧ (((iv M8 60 (9 + x11)) = 1 → ∃ (r13 : Int) (M12 : am_M), am_call t_SB_revoke [.ref 0, .int (zi x11), .int (zi 1)] M8 (some (.int (zi r13))) M12 ∧ ((zr r13) ∧ ((r13 = (-3) → am_x t_LAW_law (264, [.ref 5000, .ref 0, .ref 58, .ref 59, .ref 60, .ref 61, .ref 62, .ref 63, .ref 64, .int (zi x9), .int (zi x10), .int (zi x11), .null, .null], [], M12) Q) ∧ (¬ r13 = (-3) → Q (some (.int (zi 0))) M12)))) ∧ (¬ (iv M8 60 (9 + x11)) = 1 → ∃ (r16 : Int) (M15 : am_M), am_call t_SB_revoke [.ref 0, .int (zi x11), .int (zi 0)] M8 (some (.int (zi r16))) M15 ∧ ((zr r16) ∧ ((r16 = (-3) → am_x t_LAW_law (264, [.ref 5000, .ref 0, .ref 58, .ref 59, .ref 60, .ref 61, .ref 62, .ref 63, .ref 64, .int (zi x9), .int (zi x10), .int (zi x11), .null, .null], [], M15) Q) ∧ (¬ r16 = (-3) → Q (some (.int (zi 0))) M15)))))) ∧ (¬ r9 = 1 → Q (some (.int (zi 0))) M8)))) ∧ (¬ (iv M5 60 (9 + x11)) = 1 → ∃ (r19 : Int) (M18 : am_M), am_call t_SB_revoke [.ref 0, .int (zi x11), .int (zi 0)] M5 (some (.int (zi r19))) M18 ∧ ((zr r19) ∧ ((r19 = 1 → (0 ≤ (9 + x11) ∧ (9 + x11) < 32) ∧ (((iv M18 60 (9 + x11)) = 1 → ∃ (r23 : Int) (M22 : am_M), am_call t_SB_revoke [.ref 0, .int (zi x11), .int (zi 1)] M18 (some (.int (zi r23))) M22 ∧ ((zr r23) ∧ ((r23 = (-3) → am_x t_LAW_law (264, [.ref 5000, .ref 0, .ref 58, .ref 59, .ref 60, .ref 61, .ref 62, .ref 63, .ref 64, .int (zi x9), .int (zi x10), .int (zi x11), .null, .null], [], M22) Q) ∧ (¬ r23 = (-3) → Q (some (.int (zi 0))) M22)))) ∧ (¬ (iv M18 60 (9 + x11)) = 1 → ∃ (r26 : Int) (M25 : am_M), am_call t_SB_revoke [.ref 0, .int (zi x11), .int (zi 0)] M18 (some (.int (zi r26))) M25 ∧ ((zr r26) ∧ ((r26 = (-3) → am_x t_LAW_law (264, [.ref 5000, .ref 0, .ref 58, .ref 59, .ref 60, .ref 61, .ref 62, .ref 63, .ref 64, .int (zi x9), .int (zi x10), .int (zi x11), .null, .null], [], M25) Q) ∧ (¬ r26 = (-3) → Q (some (.int (zi 0))) M25)))))) ∧ (¬ r19 = 1 → Q (some (.int (zi 0))) M18)))))))) ∧ (¬ r2 = 0 → am_x t_LAW_law (264, [.ref 5000, .ref 0, .ref 58, .ref 59, .ref 60, .ref 61, .ref 62, .ref 63, .ref 64, .int (zi x9), .int (zi x10), .int (zi x11), .null, .null], [], M1) Q)))) : am_x t_LAW_law (180, [.ref 5000, .ref 0, .ref 58, .ref 59, .ref 60, .ref 61, .ref 62, .ref 63, .ref 64, .int (zi x9), .int (zi x10), .int (zi x11), .null, .null], [], M) Q := by
  refine am_xn 2 (c1 := (183, [.ref 5000, .ref 0, .ref 58, .ref 59, .ref 60, .ref 61, .ref 62, .ref 63, .ref 64, .int (zi x9), .int (zi x10), .int (zi x11), .null, .null], [.int (zi 4), .int (zi x10)], M)) rfl ?_
  obtain ⟨r2, M1, hc, hv⟩ := hv
  refine am_xc t_LAW_low (.invokestatic 57) 57 (av := [.int (zi x10), .int (zi 4)]) (rest := []) (rv := some (.int (zi r2))) (M' := M1) rfl rfl rfl rfl (Nat.le_of_ble_eq_true rfl) (fun h => nomatch h) (hc) ?_
  refine am_xn 0 (c1 := (186, [.ref 5000, .ref 0, .ref 58, .ref 59, .ref 60, .ref 61, .ref 62, .ref 63, .ref 64, .int (zi x9), .int (zi x10), .int (zi x11), .null, .null], [.int (zi r2)], M1)) rfl ?_
  obtain ⟨r3, hv⟩ := hv
  refine am_xn 1 (c1 := (if zi r2 = zi 0 then 189 else 264, [.ref 5000, .ref 0, .ref 58, .ref 59, .ref 60, .ref 61, .ref 62, .ref 63, .ref 64, .int (zi x9), .int (zi x10), .int (zi x11), .null, .null], [], M1)) rfl (am_xeq r3 (by decide) (fun h => ?_) (fun h => ?_))
  · replace hv := hv.1 h
    refine am_xiadd 4 9 x11 (pc := 196) (ls := [.ref 5000, .ref 0, .ref 58, .ref 59, .ref 60, .ref 61, .ref 62, .ref 63, .ref 64, .int (zi x9), .int (zi x10), .int (zi x11), .null, .null]) (st := [.ref 60]) rfl ?_
    refine am_xiadd 5 9 x11 (pc := 204) (ls := [.ref 5000, .ref 0, .ref 58, .ref 59, .ref 60, .ref 61, .ref 62, .ref 63, .ref 64, .int (zi x9), .int (zi x10), .int (zi x11), .null, .null]) (st := [.ref 60, .int (zi 1), .int (zi (9 + x11)), .ref 60]) rfl ?_
    obtain ⟨r4, hv⟩ := hv
    refine am_xald rfl rfl rfl r4 ?_
    refine am_xn 0 (c1 := (205, [.ref 5000, .ref 0, .ref 58, .ref 59, .ref 60, .ref 61, .ref 62, .ref 63, .ref 64, .int (zi x9), .int (zi x10), .int (zi x11), .null, .null], [.int (zi (iv M1 60 (9 + x11))), .int (zi 1), .int (zi (9 + x11)), .ref 60], M1)) rfl ?_
    refine am_xisub 1 1 (iv M1 60 (9 + x11)) (pc := 206) (ls := [.ref 5000, .ref 0, .ref 58, .ref 59, .ref 60, .ref 61, .ref 62, .ref 63, .ref 64, .int (zi x9), .int (zi x10), .int (zi x11), .null, .null]) (st := [.int (zi (9 + x11)), .ref 60]) rfl ?_
    obtain ⟨r6, hv⟩ := hv
    refine am_xast rfl rfl rfl r6 ?_
    refine am_xn 0 (c1 := (207, [.ref 5000, .ref 0, .ref 58, .ref 59, .ref 60, .ref 61, .ref 62, .ref 63, .ref 64, .int (zi x9), .int (zi x10), .int (zi x11), .null, .null], [], zup M1 60 (9 + x11) (1 - (iv M1 60 (9 + x11))))) rfl ?_
    obtain ⟨M5, eM5⟩ : ∃ m, m = zup M1 60 (9 + x11) (1 - (iv M1 60 (9 + x11))) := ⟨_, rfl⟩
    replace hv := hv M5 eM5
    rw [← eM5]
    refine am_xiadd 6 9 x11 (pc := 217) (ls := [.ref 5000, .ref 0, .ref 58, .ref 59, .ref 60, .ref 61, .ref 62, .ref 63, .ref 64, .int (zi x9), .int (zi x10), .int (zi x11), .null, .null]) (st := [.ref 60, .int (zi x11), .ref 0]) rfl ?_
    obtain ⟨r7, hv⟩ := hv
    refine am_xald rfl rfl rfl r7 ?_
    refine am_xn 0 (c1 := (218, [.ref 5000, .ref 0, .ref 58, .ref 59, .ref 60, .ref 61, .ref 62, .ref 63, .ref 64, .int (zi x9), .int (zi x10), .int (zi x11), .null, .null], [.int (zi (iv M5 60 (9 + x11))), .int (zi x11), .ref 0], M5)) rfl ?_
    refine am_xn 2 (c1 := (if zi (iv M5 60 (9 + x11)) = zi 1 then 222 else 226, [.ref 5000, .ref 0, .ref 58, .ref 59, .ref 60, .ref 61, .ref 62, .ref 63, .ref 64, .int (zi x9), .int (zi x10), .int (zi x11), .null, .null], [.int (zi x11), .ref 0], M5)) rfl (am_xeq (iv_r _ _ _) (by decide) (fun h => ?_) (fun h => ?_))
    · replace hv := hv.1 h
      refine am_xn 2 (c1 := (227, [.ref 5000, .ref 0, .ref 58, .ref 59, .ref 60, .ref 61, .ref 62, .ref 63, .ref 64, .int (zi x9), .int (zi x10), .int (zi x11), .null, .null], [.int (zi 1), .int (zi x11), .ref 0], M5)) rfl ?_
      obtain ⟨r9, M8, hc, hv⟩ := hv
      refine am_xc t_SB_revoke (.invokevirtual 135) 135 (av := [.ref 0, .int (zi x11), .int (zi 1)]) (rest := []) (rv := some (.int (zi r9))) (M' := M8) rfl rfl rfl rfl (Nat.le_of_ble_eq_true rfl) (fun _ => rfl) (hc) ?_
      refine am_xn 0 (c1 := (230, [.ref 5000, .ref 0, .ref 58, .ref 59, .ref 60, .ref 61, .ref 62, .ref 63, .ref 64, .int (zi x9), .int (zi x10), .int (zi x11), .null, .null], [.int (zi r9)], M8)) rfl ?_
      obtain ⟨r10, hv⟩ := hv
      refine am_xn 2 (c1 := (if zi r9 = zi 1 then 234 else 262, [.ref 5000, .ref 0, .ref 58, .ref 59, .ref 60, .ref 61, .ref 62, .ref 63, .ref 64, .int (zi x9), .int (zi x10), .int (zi x11), .null, .null], [], M8)) rfl (am_xeq r10 (by decide) (fun h => ?_) (fun h => ?_))
      · replace hv := hv.1 h
        refine am_xiadd 6 9 x11 (pc := 244) (ls := [.ref 5000, .ref 0, .ref 58, .ref 59, .ref 60, .ref 61, .ref 62, .ref 63, .ref 64, .int (zi x9), .int (zi x10), .int (zi x11), .null, .null]) (st := [.ref 60, .int (zi x11), .ref 0]) rfl ?_
        obtain ⟨r11, hv⟩ := hv
        refine am_xald rfl rfl rfl r11 ?_
        refine am_xn 0 (c1 := (245, [.ref 5000, .ref 0, .ref 58, .ref 59, .ref 60, .ref 61, .ref 62, .ref 63, .ref 64, .int (zi x9), .int (zi x10), .int (zi x11), .null, .null], [.int (zi (iv M8 60 (9 + x11))), .int (zi x11), .ref 0], M8)) rfl ?_
        refine am_xn 2 (c1 := (if zi (iv M8 60 (9 + x11)) = zi 1 then 249 else 253, [.ref 5000, .ref 0, .ref 58, .ref 59, .ref 60, .ref 61, .ref 62, .ref 63, .ref 64, .int (zi x9), .int (zi x10), .int (zi x11), .null, .null], [.int (zi x11), .ref 0], M8)) rfl (am_xeq (iv_r _ _ _) (by decide) (fun h => ?_) (fun h => ?_))
        · replace hv := hv.1 h
          refine am_xn 2 (c1 := (254, [.ref 5000, .ref 0, .ref 58, .ref 59, .ref 60, .ref 61, .ref 62, .ref 63, .ref 64, .int (zi x9), .int (zi x10), .int (zi x11), .null, .null], [.int (zi 1), .int (zi x11), .ref 0], M8)) rfl ?_
          obtain ⟨r13, M12, hc, hv⟩ := hv
          refine am_xc t_SB_revoke (.invokevirtual 135) 135 (av := [.ref 0, .int (zi x11), .int (zi 1)]) (rest := []) (rv := some (.int (zi r13))) (M' := M12) rfl rfl rfl rfl (Nat.le_of_ble_eq_true rfl) (fun _ => rfl) (hc) ?_
          refine am_xn 0 (c1 := (257, [.ref 5000, .ref 0, .ref 58, .ref 59, .ref 60, .ref 61, .ref 62, .ref 63, .ref 64, .int (zi x9), .int (zi x10), .int (zi x11), .null, .null], [.int (zi r13)], M12)) rfl ?_
          obtain ⟨r14, hv⟩ := hv
          refine am_xn 2 (c1 := (if zi r13 = zi (-3) then 264 else 262, [.ref 5000, .ref 0, .ref 58, .ref 59, .ref 60, .ref 61, .ref 62, .ref 63, .ref 64, .int (zi x9), .int (zi x10), .int (zi x11), .null, .null], [], M12)) rfl (am_xeq r14 (by decide) (fun h => ?_) (fun h => ?_))
          · replace hv := hv.1 h
            exact hv
          · replace hv := hv.2 h
            refine am_xn 1 (c1 := (263, [.ref 5000, .ref 0, .ref 58, .ref 59, .ref 60, .ref 61, .ref 62, .ref 63, .ref 64, .int (zi x9), .int (zi x10), .int (zi x11), .null, .null], [.int (zi 0)], M12)) rfl ?_
            exact am_xr (some (.int (zi 0))) ⟨rfl, rfl, .boolean, rfl, rfl⟩ hv
        · replace hv := hv.2 h
          refine am_xn 1 (c1 := (254, [.ref 5000, .ref 0, .ref 58, .ref 59, .ref 60, .ref 61, .ref 62, .ref 63, .ref 64, .int (zi x9), .int (zi x10), .int (zi x11), .null, .null], [.int (zi 0), .int (zi x11), .ref 0], M8)) rfl ?_
          obtain ⟨r16, M15, hc, hv⟩ := hv
          refine am_xc t_SB_revoke (.invokevirtual 135) 135 (av := [.ref 0, .int (zi x11), .int (zi 0)]) (rest := []) (rv := some (.int (zi r16))) (M' := M15) rfl rfl rfl rfl (Nat.le_of_ble_eq_true rfl) (fun _ => rfl) (hc) ?_
          refine am_xn 0 (c1 := (257, [.ref 5000, .ref 0, .ref 58, .ref 59, .ref 60, .ref 61, .ref 62, .ref 63, .ref 64, .int (zi x9), .int (zi x10), .int (zi x11), .null, .null], [.int (zi r16)], M15)) rfl ?_
          obtain ⟨r17, hv⟩ := hv
          refine am_xn 2 (c1 := (if zi r16 = zi (-3) then 264 else 262, [.ref 5000, .ref 0, .ref 58, .ref 59, .ref 60, .ref 61, .ref 62, .ref 63, .ref 64, .int (zi x9), .int (zi x10), .int (zi x11), .null, .null], [], M15)) rfl (am_xeq r17 (by decide) (fun h => ?_) (fun h => ?_))
          · replace hv := hv.1 h
            exact hv
          · replace hv := hv.2 h
            refine am_xn 1 (c1 := (263, [.ref 5000, .ref 0, .ref 58, .ref 59, .ref 60, .ref 61, .ref 62, .ref 63, .ref 64, .int (zi x9), .int (zi x10), .int (zi x11), .null, .null], [.int (zi 0)], M15)) rfl ?_
            exact am_xr (some (.int (zi 0))) ⟨rfl, rfl, .boolean, rfl, rfl⟩ hv
      · replace hv := hv.2 h
        refine am_xn 1 (c1 := (263, [.ref 5000, .ref 0, .ref 58, .ref 59, .ref 60, .ref 61, .ref 62, .ref 63, .ref 64, .int (zi x9), .int (zi x10), .int (zi x11), .null, .null], [.int (zi 0)], M8)) rfl ?_
        exact am_xr (some (.int (zi 0))) ⟨rfl, rfl, .boolean, rfl, rfl⟩ hv
    · replace hv := hv.2 h
      refine am_xn 1 (c1 := (227, [.ref 5000, .ref 0, .ref 58, .ref 59, .ref 60, .ref 61, .ref 62, .ref 63, .ref 64, .int (zi x9), .int (zi x10), .int (zi x11), .null, .null], [.int (zi 0), .int (zi x11), .ref 0], M5)) rfl ?_
      obtain ⟨r19, M18, hc, hv⟩ := hv
      refine am_xc t_SB_revoke (.invokevirtual 135) 135 (av := [.ref 0, .int (zi x11), .int (zi 0)]) (rest := []) (rv := some (.int (zi r19))) (M' := M18) rfl rfl rfl rfl (Nat.le_of_ble_eq_true rfl) (fun _ => rfl) (hc) ?_
      refine am_xn 0 (c1 := (230, [.ref 5000, .ref 0, .ref 58, .ref 59, .ref 60, .ref 61, .ref 62, .ref 63, .ref 64, .int (zi x9), .int (zi x10), .int (zi x11), .null, .null], [.int (zi r19)], M18)) rfl ?_
      obtain ⟨r20, hv⟩ := hv
      refine am_xn 2 (c1 := (if zi r19 = zi 1 then 234 else 262, [.ref 5000, .ref 0, .ref 58, .ref 59, .ref 60, .ref 61, .ref 62, .ref 63, .ref 64, .int (zi x9), .int (zi x10), .int (zi x11), .null, .null], [], M18)) rfl (am_xeq r20 (by decide) (fun h => ?_) (fun h => ?_))
      · replace hv := hv.1 h
        refine am_xiadd 6 9 x11 (pc := 244) (ls := [.ref 5000, .ref 0, .ref 58, .ref 59, .ref 60, .ref 61, .ref 62, .ref 63, .ref 64, .int (zi x9), .int (zi x10), .int (zi x11), .null, .null]) (st := [.ref 60, .int (zi x11), .ref 0]) rfl ?_
        obtain ⟨r21, hv⟩ := hv
        refine am_xald rfl rfl rfl r21 ?_
        refine am_xn 0 (c1 := (245, [.ref 5000, .ref 0, .ref 58, .ref 59, .ref 60, .ref 61, .ref 62, .ref 63, .ref 64, .int (zi x9), .int (zi x10), .int (zi x11), .null, .null], [.int (zi (iv M18 60 (9 + x11))), .int (zi x11), .ref 0], M18)) rfl ?_
        refine am_xn 2 (c1 := (if zi (iv M18 60 (9 + x11)) = zi 1 then 249 else 253, [.ref 5000, .ref 0, .ref 58, .ref 59, .ref 60, .ref 61, .ref 62, .ref 63, .ref 64, .int (zi x9), .int (zi x10), .int (zi x11), .null, .null], [.int (zi x11), .ref 0], M18)) rfl (am_xeq (iv_r _ _ _) (by decide) (fun h => ?_) (fun h => ?_))
        · replace hv := hv.1 h
          refine am_xn 2 (c1 := (254, [.ref 5000, .ref 0, .ref 58, .ref 59, .ref 60, .ref 61, .ref 62, .ref 63, .ref 64, .int (zi x9), .int (zi x10), .int (zi x11), .null, .null], [.int (zi 1), .int (zi x11), .ref 0], M18)) rfl ?_
          obtain ⟨r23, M22, hc, hv⟩ := hv
          refine am_xc t_SB_revoke (.invokevirtual 135) 135 (av := [.ref 0, .int (zi x11), .int (zi 1)]) (rest := []) (rv := some (.int (zi r23))) (M' := M22) rfl rfl rfl rfl (Nat.le_of_ble_eq_true rfl) (fun _ => rfl) (hc) ?_
          refine am_xn 0 (c1 := (257, [.ref 5000, .ref 0, .ref 58, .ref 59, .ref 60, .ref 61, .ref 62, .ref 63, .ref 64, .int (zi x9), .int (zi x10), .int (zi x11), .null, .null], [.int (zi r23)], M22)) rfl ?_
          obtain ⟨r24, hv⟩ := hv
          refine am_xn 2 (c1 := (if zi r23 = zi (-3) then 264 else 262, [.ref 5000, .ref 0, .ref 58, .ref 59, .ref 60, .ref 61, .ref 62, .ref 63, .ref 64, .int (zi x9), .int (zi x10), .int (zi x11), .null, .null], [], M22)) rfl (am_xeq r24 (by decide) (fun h => ?_) (fun h => ?_))
          · replace hv := hv.1 h
            exact hv
          · replace hv := hv.2 h
            refine am_xn 1 (c1 := (263, [.ref 5000, .ref 0, .ref 58, .ref 59, .ref 60, .ref 61, .ref 62, .ref 63, .ref 64, .int (zi x9), .int (zi x10), .int (zi x11), .null, .null], [.int (zi 0)], M22)) rfl ?_
            exact am_xr (some (.int (zi 0))) ⟨rfl, rfl, .boolean, rfl, rfl⟩ hv
        · replace hv := hv.2 h
          refine am_xn 1 (c1 := (254, [.ref 5000, .ref 0, .ref 58, .ref 59, .ref 60, .ref 61, .ref 62, .ref 63, .ref 64, .int (zi x9), .int (zi x10), .int (zi x11), .null, .null], [.int (zi 0), .int (zi x11), .ref 0], M18)) rfl ?_
          obtain ⟨r26, M25, hc, hv⟩ := hv
          refine am_xc t_SB_revoke (.invokevirtual 135) 135 (av := [.ref 0, .int (zi x11), .int (zi 0)]) (rest := []) (rv := some (.int (zi r26))) (M' := M25) rfl rfl rfl rfl (Nat.le_of_ble_eq_true rfl) (fun _ => rfl) (hc) ?_
          refine am_xn 0 (c1 := (257, [.ref 5000, .ref 0, .ref 58, .ref 59, .ref 60, .ref 61, .ref 62, .ref 63, .ref 64, .int (zi x9), .int (zi x10), .int (zi x11), .null, .null], [.int (zi r26)], M25)) rfl ?_
          obtain ⟨r27, hv⟩ := hv
          refine am_xn 2 (c1 := (if zi r26 = zi (-3) then 264 else 262, [.ref 5000, .ref 0, .ref 58, .ref 59, .ref 60, .ref 61, .ref 62, .ref 63, .ref 64, .int (zi x9), .int (zi x10), .int (zi x11), .null, .null], [], M25)) rfl (am_xeq r27 (by decide) (fun h => ?_) (fun h => ?_))
          · replace hv := hv.1 h
            exact hv
          · replace hv := hv.2 h
            refine am_xn 1 (c1 := (263, [.ref 5000, .ref 0, .ref 58, .ref 59, .ref 60, .ref 61, .ref 62, .ref 63, .ref 64, .int (zi x9), .int (zi x10), .int (zi x11), .null, .null], [.int (zi 0)], M25)) rfl ?_
            exact am_xr (some (.int (zi 0))) ⟨rfl, rfl, .boolean, rfl, rfl⟩ hv
      · replace hv := hv.2 h
        refine am_xn 1 (c1 := (263, [.ref 5000, .ref 0, .ref 58, .ref 59, .ref 60, .ref 61, .ref 62, .ref 63, .ref 64, .int (zi x9), .int (zi x10), .int (zi x11), .null, .null], [.int (zi 0)], M18)) rfl ?_
        exact am_xr (some (.int (zi 0))) ⟨rfl, rfl, .boolean, rfl, rfl⟩ hv
  · replace hv := hv.2 h
    exact hv
set_option maxRecDepth 100000 in
theorem vc_w_law_264 (x9 : Int) (x10 : Int) (x11 : Int) (M : am_M) (Q : Option Value → am_M → Prop) (hv : ∃ (r2 : Int) (M1 : am_M), am_call t_LAW_low [.int (zi x10), .int (zi 4)] M (some (.int (zi r2))) M1 ∧ ((zr r2) ∧ ((r2 = 1 → (0 ≤ (1 + x11) ∧ (1 + x11) < 32) ∧ (∃ (r6 : Int) (M5 : am_M), am_call t_LAW_low [.int (zi (zshr x10 8)), .int (zi 6)] M1 (some (.int (zi r6))) M5 ∧ ((0 ≤ (1 + x11) ∧ (1 + x11) < 32) ∧ (∀ M7, M7 = zup M5 60 (1 + x11) r6 → (0 ≤ (1 + x11) ∧ (1 + x11) < 32) ∧ (∃ (r11 : Int) (M10 : am_M), am_call t_SB_commence [.ref 0, .int (zi x11), .int (zi (iv M7 60 (1 + x11)))] M7 (some (.int (zi r11))) M10 ∧ ((zr r11) ∧ ((r11 = (iv M1 60 (1 + x11)) → am_x t_LAW_law (320, [.ref 5000, .ref 0, .ref 58, .ref 59, .ref 60, .ref 61, .ref 62, .ref 63, .ref 64, .int (zi x9), .int (zi x10), .null, .null, .null], [], M10) Q) ∧ (¬ r11 = (iv M1 60 (1 + x11)) → Q (some (.int (zi 0))) M10)))))))) ∧ (¬ r2 = 1 → am_x t_LAW_law (320, [.ref 5000, .ref 0, .ref 58, .ref 59, .ref 60, .ref 61, .ref 62, .ref 63, .ref 64, .int (zi x9), .int (zi x10), .null, .null, .null], [], M1) Q)))) : am_x t_LAW_law (264, [.ref 5000, .ref 0, .ref 58, .ref 59, .ref 60, .ref 61, .ref 62, .ref 63, .ref 64, .int (zi x9), .int (zi x10), .int (zi x11), .null, .null], [], M) Q := by
  refine am_xn 2 (c1 := (267, [.ref 5000, .ref 0, .ref 58, .ref 59, .ref 60, .ref 61, .ref 62, .ref 63, .ref 64, .int (zi x9), .int (zi x10), .int (zi x11), .null, .null], [.int (zi 4), .int (zi x10)], M)) rfl ?_
  obtain ⟨r2, M1, hc, hv⟩ := hv
  refine am_xc t_LAW_low (.invokestatic 57) 57 (av := [.int (zi x10), .int (zi 4)]) (rest := []) (rv := some (.int (zi r2))) (M' := M1) rfl rfl rfl rfl (Nat.le_of_ble_eq_true rfl) (fun h => nomatch h) (hc) ?_
  refine am_xn 0 (c1 := (270, [.ref 5000, .ref 0, .ref 58, .ref 59, .ref 60, .ref 61, .ref 62, .ref 63, .ref 64, .int (zi x9), .int (zi x10), .int (zi x11), .null, .null], [.int (zi r2)], M1)) rfl ?_
  obtain ⟨r3, hv⟩ := hv
  refine am_xn 2 (c1 := (if zi r2 = zi 1 then 274 else 320, [.ref 5000, .ref 0, .ref 58, .ref 59, .ref 60, .ref 61, .ref 62, .ref 63, .ref 64, .int (zi x9), .int (zi x10), .int (zi x11), .null, .null], [], M1)) rfl (am_xeq r3 (by decide) (fun h => ?_) (fun h => ?_))
  · replace hv := hv.1 h
    refine am_xiadd 4 1 x11 (pc := 280) (ls := [.ref 5000, .ref 0, .ref 58, .ref 59, .ref 60, .ref 61, .ref 62, .ref 63, .ref 64, .int (zi x9), .int (zi x10), .int (zi x11), .null, .null]) (st := [.ref 60]) rfl ?_
    obtain ⟨r4, hv⟩ := hv
    refine am_xald rfl rfl rfl r4 ?_
    refine am_xn 0 (c1 := (281, [.ref 5000, .ref 0, .ref 58, .ref 59, .ref 60, .ref 61, .ref 62, .ref 63, .ref 64, .int (zi x9), .int (zi x10), .int (zi x11), .null, .null], [.int (zi (iv M1 60 (1 + x11)))], M1)) rfl ?_
    refine am_xiadd 5 1 x11 (pc := 289) (ls := [.ref 5000, .ref 0, .ref 58, .ref 59, .ref 60, .ref 61, .ref 62, .ref 63, .ref 64, .int (zi x9), .int (zi x10), .int (zi x11), .int (zi (iv M1 60 (1 + x11))), .null]) (st := [.ref 60]) rfl ?_
    refine am_xbit 3 (zi x10 >>> (zi 8 &&& 31)) (pc := 294) (ls := [.ref 5000, .ref 0, .ref 58, .ref 59, .ref 60, .ref 61, .ref 62, .ref 63, .ref 64, .int (zi x9), .int (zi x10), .int (zi x11), .int (zi (iv M1 60 (1 + x11))), .null]) (st := [.int (zi (1 + x11)), .ref 60]) rfl ?_
    refine am_xn 0 (c1 := (294, [.ref 5000, .ref 0, .ref 58, .ref 59, .ref 60, .ref 61, .ref 62, .ref 63, .ref 64, .int (zi x9), .int (zi x10), .int (zi x11), .int (zi (iv M1 60 (1 + x11))), .null], [.int (zi (zshr x10 8)), .int (zi (1 + x11)), .ref 60], M1)) rfl ?_
    refine am_xn 1 (c1 := (296, [.ref 5000, .ref 0, .ref 58, .ref 59, .ref 60, .ref 61, .ref 62, .ref 63, .ref 64, .int (zi x9), .int (zi x10), .int (zi x11), .int (zi (iv M1 60 (1 + x11))), .null], [.int (zi 6), .int (zi (zshr x10 8)), .int (zi (1 + x11)), .ref 60], M1)) rfl ?_
    obtain ⟨r6, M5, hc, hv⟩ := hv
    refine am_xc t_LAW_low (.invokestatic 57) 57 (av := [.int (zi (zshr x10 8)), .int (zi 6)]) (rest := [.int (zi (1 + x11)), .ref 60]) (rv := some (.int (zi r6))) (M' := M5) rfl rfl rfl rfl (Nat.le_of_ble_eq_true rfl) (fun h => nomatch h) (hc) ?_
    refine am_xn 0 (c1 := (299, [.ref 5000, .ref 0, .ref 58, .ref 59, .ref 60, .ref 61, .ref 62, .ref 63, .ref 64, .int (zi x9), .int (zi x10), .int (zi x11), .int (zi (iv M1 60 (1 + x11))), .null], [.int (zi r6), .int (zi (1 + x11)), .ref 60], M5)) rfl ?_
    obtain ⟨r8, hv⟩ := hv
    refine am_xast rfl rfl rfl r8 ?_
    refine am_xn 0 (c1 := (300, [.ref 5000, .ref 0, .ref 58, .ref 59, .ref 60, .ref 61, .ref 62, .ref 63, .ref 64, .int (zi x9), .int (zi x10), .int (zi x11), .int (zi (iv M1 60 (1 + x11))), .null], [], zup M5 60 (1 + x11) r6)) rfl ?_
    obtain ⟨M7, eM7⟩ : ∃ m, m = zup M5 60 (1 + x11) r6 := ⟨_, rfl⟩
    replace hv := hv M7 eM7
    rw [← eM7]
    refine am_xiadd 6 1 x11 (pc := 309) (ls := [.ref 5000, .ref 0, .ref 58, .ref 59, .ref 60, .ref 61, .ref 62, .ref 63, .ref 64, .int (zi x9), .int (zi x10), .int (zi x11), .int (zi (iv M1 60 (1 + x11))), .null]) (st := [.ref 60, .int (zi x11), .ref 0]) rfl ?_
    obtain ⟨r9, hv⟩ := hv
    refine am_xald rfl rfl rfl r9 ?_
    refine am_xn 0 (c1 := (310, [.ref 5000, .ref 0, .ref 58, .ref 59, .ref 60, .ref 61, .ref 62, .ref 63, .ref 64, .int (zi x9), .int (zi x10), .int (zi x11), .int (zi (iv M1 60 (1 + x11))), .null], [.int (zi (iv M7 60 (1 + x11))), .int (zi x11), .ref 0], M7)) rfl ?_
    obtain ⟨r11, M10, hc, hv⟩ := hv
    refine am_xc t_SB_commence (.invokevirtual 139) 139 (av := [.ref 0, .int (zi x11), .int (zi (iv M7 60 (1 + x11)))]) (rest := []) (rv := some (.int (zi r11))) (M' := M10) rfl rfl rfl rfl (Nat.le_of_ble_eq_true rfl) (fun _ => rfl) (hc) ?_
    refine am_xn 0 (c1 := (313, [.ref 5000, .ref 0, .ref 58, .ref 59, .ref 60, .ref 61, .ref 62, .ref 63, .ref 64, .int (zi x9), .int (zi x10), .int (zi x11), .int (zi (iv M1 60 (1 + x11))), .null], [.int (zi r11)], M10)) rfl ?_
    obtain ⟨r12, hv⟩ := hv
    refine am_xn 2 (c1 := (if zi r11 = zi (iv M1 60 (1 + x11)) then 320 else 318, [.ref 5000, .ref 0, .ref 58, .ref 59, .ref 60, .ref 61, .ref 62, .ref 63, .ref 64, .int (zi x9), .int (zi x10), .int (zi x11), .int (zi (iv M1 60 (1 + x11))), .null], [], M10)) rfl (am_xeq r12 (iv_r _ _ _) (fun h => ?_) (fun h => ?_))
    · replace hv := hv.1 h
      refine am_xf 11 ?_
      refine am_xf 12 ?_
      exact hv
    · replace hv := hv.2 h
      refine am_xn 1 (c1 := (319, [.ref 5000, .ref 0, .ref 58, .ref 59, .ref 60, .ref 61, .ref 62, .ref 63, .ref 64, .int (zi x9), .int (zi x10), .int (zi x11), .int (zi (iv M1 60 (1 + x11))), .null], [.int (zi 0)], M10)) rfl ?_
      exact am_xr (some (.int (zi 0))) ⟨rfl, rfl, .boolean, rfl, rfl⟩ hv
  · replace hv := hv.2 h
    refine am_xf 11 ?_
    exact hv
set_option maxRecDepth 100000 in
theorem vc_w_law_320 (x9 : Int) (x10 : Int) (M : am_M) (Q : Option Value → am_M → Prop) (hv : am_x t_LAW_law (323, [.ref 5000, .ref 0, .ref 58, .ref 59, .ref 60, .ref 61, .ref 62, .ref 63, .ref 64, .int (zi x9), .int (zi x10), .null, .int (zi 0), .null], [], M) Q) : am_x t_LAW_law (320, [.ref 5000, .ref 0, .ref 58, .ref 59, .ref 60, .ref 61, .ref 62, .ref 63, .ref 64, .int (zi x9), .int (zi x10), .null, .null, .null], [], M) Q := by
  refine am_xn 2 (c1 := (323, [.ref 5000, .ref 0, .ref 58, .ref 59, .ref 60, .ref 61, .ref 62, .ref 63, .ref 64, .int (zi x9), .int (zi x10), .null, .int (zi 0), .null], [], M)) rfl ?_
  exact hv
set_option maxRecDepth 100000 in
theorem vc_w_law_323 (x9 : Int) (x10 : Int) (x12 : Int) (M : am_M) (Q : Option Value → am_M → Prop) (hv : (zr x12) ∧ ((x12 < 7 → ∃ (r3 : Int) (M2 : am_M), am_call t_LAW_low [.int (zi (zshr x10 (11 + x12))), .int (zi 8)] M (some (.int (zi r3))) M2 ∧ (∃ M4, am_call t_LAW_lays [.ref 61, .ref 58, .ref 59, .ref 60, .int (zi x12), .int (zi (r3 - 1)), .ref 62, .ref 63, .ref 64] M2 none M4 ∧ (∃ (r6 : Int) (M5 : am_M), am_call t_LAW_isSame [.ref 0, .ref 61, .ref 64, .int (zi x12), .int (zi (r3 - 1))] M4 (some (.int (zi r6))) M5 ∧ ((zr r6) ∧ ((r6 = 0 → Q (some (.int (zi 0))) M5) ∧ (¬ r6 = 0 → am_x t_LAW_law (323, [.ref 5000, .ref 0, .ref 58, .ref 59, .ref 60, .ref 61, .ref 62, .ref 63, .ref 64, .int (zi x9), .int (zi x10), .null, .int (zi (x12 + 1)), .null], [], M5) Q)))))) ∧ (7 ≤ x12 → ∃ M8, am_call t_LAW_lays [.ref 61, .ref 58, .ref 59, .ref 60, .int (zi 9999), .int (zi (-1)), .ref 62, .ref 63, .ref 64] M none M8 ∧ (∃ (r10 : Int) (M9 : am_M), am_call t_LAW_isSame [.ref 0, .ref 61, .ref 64, .int (zi 9999), .int (zi (-1))] M8 (some (.int (zi r10))) M9 ∧ ((zr r10) ∧ ((r10 = 0 → Q (some (.int (zi 0))) M9) ∧ (¬ r10 = 0 → am_x t_LAW_law (131, [.ref 5000, .ref 0, .ref 58, .ref 59, .ref 60, .ref 61, .ref 62, .ref 63, .ref 64, .int (zi (x9 + 1)), .null, .null, .null, .null], [], M9) Q))))))) : am_x t_LAW_law (323, [.ref 5000, .ref 0, .ref 58, .ref 59, .ref 60, .ref 61, .ref 62, .ref 63, .ref 64, .int (zi x9), .int (zi x10), .null, .int (zi x12), .null], [], M) Q := by
  obtain ⟨r1, hv⟩ := hv
  refine am_xn 3 (c1 := (if zi x12 < zi 7 then 330 else 389, [.ref 5000, .ref 0, .ref 58, .ref 59, .ref 60, .ref 61, .ref 62, .ref 63, .ref 64, .int (zi x9), .int (zi x10), .null, .int (zi x12), .null], [], M)) rfl (am_xlt r1 (by decide) (fun h => ?_) (fun h => ?_))
  · replace hv := hv.1 h
    refine am_xiadd 4 11 x12 (pc := 337) (ls := [.ref 5000, .ref 0, .ref 58, .ref 59, .ref 60, .ref 61, .ref 62, .ref 63, .ref 64, .int (zi x9), .int (zi x10), .null, .int (zi x12), .null]) (st := [.int (zi x10)]) rfl ?_
    refine am_xbit 1 (zi x10 >>> (zi (11 + x12) &&& 31)) (pc := 338) (ls := [.ref 5000, .ref 0, .ref 58, .ref 59, .ref 60, .ref 61, .ref 62, .ref 63, .ref 64, .int (zi x9), .int (zi x10), .null, .int (zi x12), .null]) (st := []) rfl ?_
    refine am_xn 0 (c1 := (338, [.ref 5000, .ref 0, .ref 58, .ref 59, .ref 60, .ref 61, .ref 62, .ref 63, .ref 64, .int (zi x9), .int (zi x10), .null, .int (zi x12), .null], [.int (zi (zshr x10 (11 + x12)))], M)) rfl ?_
    refine am_xn 1 (c1 := (340, [.ref 5000, .ref 0, .ref 58, .ref 59, .ref 60, .ref 61, .ref 62, .ref 63, .ref 64, .int (zi x9), .int (zi x10), .null, .int (zi x12), .null], [.int (zi 8), .int (zi (zshr x10 (11 + x12)))], M)) rfl ?_
    obtain ⟨r3, M2, hc, hv⟩ := hv
    refine am_xc t_LAW_low (.invokestatic 57) 57 (av := [.int (zi (zshr x10 (11 + x12))), .int (zi 8)]) (rest := []) (rv := some (.int (zi r3))) (M' := M2) rfl rfl rfl rfl (Nat.le_of_ble_eq_true rfl) (fun h => nomatch h) (hc) ?_
    refine am_xn 0 (c1 := (343, [.ref 5000, .ref 0, .ref 58, .ref 59, .ref 60, .ref 61, .ref 62, .ref 63, .ref 64, .int (zi x9), .int (zi x10), .null, .int (zi x12), .null], [.int (zi r3)], M2)) rfl ?_
    refine am_xisub 2 r3 1 (pc := 345) (ls := [.ref 5000, .ref 0, .ref 58, .ref 59, .ref 60, .ref 61, .ref 62, .ref 63, .ref 64, .int (zi x9), .int (zi x10), .null, .int (zi x12), .null]) (st := []) rfl ?_
    refine am_xn 10 (c1 := (363, [.ref 5000, .ref 0, .ref 58, .ref 59, .ref 60, .ref 61, .ref 62, .ref 63, .ref 64, .int (zi x9), .int (zi x10), .null, .int (zi x12), .int (zi (r3 - 1))], [.ref 64, .ref 63, .ref 62, .int (zi (r3 - 1)), .int (zi x12), .ref 60, .ref 59, .ref 58, .ref 61], M2)) rfl ?_
    obtain ⟨M4, hc, hv⟩ := hv
    refine am_xc t_LAW_lays (.invokestatic 142) 142 (av := [.ref 61, .ref 58, .ref 59, .ref 60, .int (zi x12), .int (zi (r3 - 1)), .ref 62, .ref 63, .ref 64]) (rest := []) (rv := none) (M' := M4) rfl rfl rfl rfl (Nat.le_of_ble_eq_true rfl) (fun h => nomatch h) (hc) ?_
    refine am_xn 0 (c1 := (366, [.ref 5000, .ref 0, .ref 58, .ref 59, .ref 60, .ref 61, .ref 62, .ref 63, .ref 64, .int (zi x9), .int (zi x10), .null, .int (zi x12), .int (zi (r3 - 1))], [], M4)) rfl ?_
    refine am_xn 5 (c1 := (375, [.ref 5000, .ref 0, .ref 58, .ref 59, .ref 60, .ref 61, .ref 62, .ref 63, .ref 64, .int (zi x9), .int (zi x10), .null, .int (zi x12), .int (zi (r3 - 1))], [.int (zi (r3 - 1)), .int (zi x12), .ref 64, .ref 61, .ref 0], M4)) rfl ?_
    obtain ⟨r6, M5, hc, hv⟩ := hv
    refine am_xc t_LAW_isSame (.invokestatic 146) 146 (av := [.ref 0, .ref 61, .ref 64, .int (zi x12), .int (zi (r3 - 1))]) (rest := []) (rv := some (.int (zi r6))) (M' := M5) rfl rfl rfl rfl (Nat.le_of_ble_eq_true rfl) (fun h => nomatch h) (hc) ?_
    refine am_xn 0 (c1 := (378, [.ref 5000, .ref 0, .ref 58, .ref 59, .ref 60, .ref 61, .ref 62, .ref 63, .ref 64, .int (zi x9), .int (zi x10), .null, .int (zi x12), .int (zi (r3 - 1))], [.int (zi r6)], M5)) rfl ?_
    obtain ⟨r7, hv⟩ := hv
    refine am_xn 1 (c1 := (if zi r6 = zi 0 then 381 else 383, [.ref 5000, .ref 0, .ref 58, .ref 59, .ref 60, .ref 61, .ref 62, .ref 63, .ref 64, .int (zi x9), .int (zi x10), .null, .int (zi x12), .int (zi (r3 - 1))], [], M5)) rfl (am_xeq r7 (by decide) (fun h => ?_) (fun h => ?_))
    · replace hv := hv.1 h
      refine am_xn 1 (c1 := (382, [.ref 5000, .ref 0, .ref 58, .ref 59, .ref 60, .ref 61, .ref 62, .ref 63, .ref 64, .int (zi x9), .int (zi x10), .null, .int (zi x12), .int (zi (r3 - 1))], [.int (zi 0)], M5)) rfl ?_
      exact am_xr (some (.int (zi 0))) ⟨rfl, rfl, .boolean, rfl, rfl⟩ hv
    · replace hv := hv.2 h
      refine am_xn 1 (c1 := (386, [.ref 5000, .ref 0, .ref 58, .ref 59, .ref 60, .ref 61, .ref 62, .ref 63, .ref 64, .int (zi x9), .int (zi x10), .null, .int (zi x12 + zi 1), .int (zi (r3 - 1))], [], M5)) rfl ?_
      rw [zi_add]
      refine am_xn 1 (c1 := (323, [.ref 5000, .ref 0, .ref 58, .ref 59, .ref 60, .ref 61, .ref 62, .ref 63, .ref 64, .int (zi x9), .int (zi x10), .null, .int (zi (x12 + 1)), .int (zi (r3 - 1))], [], M5)) rfl ?_
      refine am_xf 13 ?_
      exact hv
  · replace hv := hv.2 h
    refine am_xn 9 (c1 := (405, [.ref 5000, .ref 0, .ref 58, .ref 59, .ref 60, .ref 61, .ref 62, .ref 63, .ref 64, .int (zi x9), .int (zi x10), .null, .int (zi x12), .null], [.ref 64, .ref 63, .ref 62, .int (zi (-1)), .int (zi 9999), .ref 60, .ref 59, .ref 58, .ref 61], M)) rfl ?_
    obtain ⟨M8, hc, hv⟩ := hv
    refine am_xc t_LAW_lays (.invokestatic 142) 142 (av := [.ref 61, .ref 58, .ref 59, .ref 60, .int (zi 9999), .int (zi (-1)), .ref 62, .ref 63, .ref 64]) (rest := []) (rv := none) (M' := M8) rfl rfl rfl rfl (Nat.le_of_ble_eq_true rfl) (fun h => nomatch h) (hc) ?_
    refine am_xn 0 (c1 := (408, [.ref 5000, .ref 0, .ref 58, .ref 59, .ref 60, .ref 61, .ref 62, .ref 63, .ref 64, .int (zi x9), .int (zi x10), .null, .int (zi x12), .null], [], M8)) rfl ?_
    refine am_xn 5 (c1 := (417, [.ref 5000, .ref 0, .ref 58, .ref 59, .ref 60, .ref 61, .ref 62, .ref 63, .ref 64, .int (zi x9), .int (zi x10), .null, .int (zi x12), .null], [.int (zi (-1)), .int (zi 9999), .ref 64, .ref 61, .ref 0], M8)) rfl ?_
    obtain ⟨r10, M9, hc, hv⟩ := hv
    refine am_xc t_LAW_isSame (.invokestatic 146) 146 (av := [.ref 0, .ref 61, .ref 64, .int (zi 9999), .int (zi (-1))]) (rest := []) (rv := some (.int (zi r10))) (M' := M9) rfl rfl rfl rfl (Nat.le_of_ble_eq_true rfl) (fun h => nomatch h) (hc) ?_
    refine am_xn 0 (c1 := (420, [.ref 5000, .ref 0, .ref 58, .ref 59, .ref 60, .ref 61, .ref 62, .ref 63, .ref 64, .int (zi x9), .int (zi x10), .null, .int (zi x12), .null], [.int (zi r10)], M9)) rfl ?_
    obtain ⟨r11, hv⟩ := hv
    refine am_xn 1 (c1 := (if zi r10 = zi 0 then 423 else 425, [.ref 5000, .ref 0, .ref 58, .ref 59, .ref 60, .ref 61, .ref 62, .ref 63, .ref 64, .int (zi x9), .int (zi x10), .null, .int (zi x12), .null], [], M9)) rfl (am_xeq r11 (by decide) (fun h => ?_) (fun h => ?_))
    · replace hv := hv.1 h
      refine am_xn 1 (c1 := (424, [.ref 5000, .ref 0, .ref 58, .ref 59, .ref 60, .ref 61, .ref 62, .ref 63, .ref 64, .int (zi x9), .int (zi x10), .null, .int (zi x12), .null], [.int (zi 0)], M9)) rfl ?_
      exact am_xr (some (.int (zi 0))) ⟨rfl, rfl, .boolean, rfl, rfl⟩ hv
    · replace hv := hv.2 h
      refine am_xn 1 (c1 := (428, [.ref 5000, .ref 0, .ref 58, .ref 59, .ref 60, .ref 61, .ref 62, .ref 63, .ref 64, .int (zi x9 + zi 1), .int (zi x10), .null, .int (zi x12), .null], [], M9)) rfl ?_
      rw [zi_add]
      refine am_xn 1 (c1 := (131, [.ref 5000, .ref 0, .ref 58, .ref 59, .ref 60, .ref 61, .ref 62, .ref 63, .ref 64, .int (zi (x9 + 1)), .int (zi x10), .null, .int (zi x12), .null], [], M9)) rfl ?_
      refine am_xf 10 ?_
      refine am_xf 12 ?_
      exact hv
theorem m0_z (L : Nat) (xs : Nat → Int32) {a : Nat} (h0 : ¬ a = 5000) (h1 : ¬ a = 5001) (k : Int) : iv (am_M0 L xs) a k = 0 := by
  unfold iv am_M0
  rw [if_neg h0, if_neg h1]
  rfl
theorem m0_row (L : Nat) (xs : Nat → Int32) {a : Nat} (h0 : ¬ a = 5000) (h1 : ¬ a = 5001) : iv (am_M0 L xs) a = fun _ => 0 := funext (fun k => m0_z L xs h0 h1 k)
theorem zsh0 : ∀ n : Nat, n < 20 → zand (zshr 0 (n : Int)) 1 = 0 := by decide +kernel
theorem si_0 (L : Nat) (xs : Nat → Int32) : SI (am_M0 L xs) (fun _ => 0) := by
  have z0 : nops (fun _ => 0) = 0 := rfl
  have i0 : ia (fun _ => 0) 0 = 0 := rfl
  refine ⟨?_, ?_, ⟨⟨?_, Nat.zero_le _⟩, fun i x hi => by cases hi⟩, fun o h0 h1 => by rw [z0] at h1; omega, ?_, fun o h0 h1 => by rw [z0] at h1; omega, by rw [z0]; decide⟩
  · rw [m0_row L xs (by decide) (by decide)]
    refine ⟨⟨Int.le_refl _, by decide, fun a h0 h1 => by have h1 : a < 0 := h1; omega, fun a h0 h1 => by have h1 : a < 0 := h1; omega, fun a h0 h1 => by have h1 : a < 0 := h1; omega, by rw [z0]; decide, by rw [z0, i0]; decide, fun o h0 h1 => by rw [z0] at h1; omega⟩, ⟨rfl, z0.symm, by rw [z0, i0], fun a h0 h1 => by have h1 : a < 0 := h1; omega, fun a h0 h1 => ?_, fun o h0 h1 => by rw [z0] at h1; omega⟩, by decide, fun a h0 h1 => ?_⟩
    · have h1 : a ≤ 0 := h1
      have : a = 0 := by omega
      rw [this]; rfl
    · obtain ⟨n, en⟩ : ∃ n : Nat, a = n := ⟨a.toNat, by omega⟩
      subst en
      have e := zsh0 n (by omega)
      show zand (zshr 0 (n : Int)) 1 = if (n : Int) < 0 then 0 else 0
      rw [e, if_neg (by omega)]
  · unfold ARQ
    rw [m0_z L xs (by decide) (by decide), m0_z L xs (by decide) (by decide)]
    decide
  · rw [m0_z L xs (by decide) (by decide)]; rfl
  · refine ⟨m0_z L xs (by decide) (by decide) _, by decide, by rw [m0_z L xs (by decide) (by decide), z0], by rw [z0]; decide, by rw [z0, i0]; decide, fun a h0 h1 => by have h1 : a < 0 := h1; omega⟩
theorem SI_rows {M M' : am_M} {b : Int → Int} (h : SI M b) (r : ∀ a, (a = 2 ∨ a = 3 ∨ a = 11 ∨ a = 12 ∨ a = 58 ∨ a = 59 ∨ a = 60) → M' a = M a) : SI M' b := by
  obtain ⟨h1, h2, h3, h4, h5, h6, h7⟩ := h
  exact ⟨by rw [iv_row (r 11 (by omega))]; exact h1, ARQ_rows h2 (r 12 (by omega)), TXL_rows h3 (r 2 (by omega)) (r 3 (by omega)), OB_rows h4 (r 58 (by omega)) (r 59 (by omega)), AB_rows h5 (r 60 (by omega)), h6, h7⟩
/-- one number of an amendment changes -/
theorem SI_fu {M M' : am_M} {b : Int → Int} {i v : Int} (h : SI M b) (i1 : 1 ≤ i) (i2 : i < 41) (hb : BKr (iv M' 11) (fu b i v)) (hq : ARQ M') (r2 : M' 2 = M 2) (r3 : M' 3 = M 3) (r58 : M' 58 = M 58) (r59 : M' 59 = M 59) (h0 : iv M' 60 0 = iv M 60 0) (h25 : iv M' 60 25 = iv M 60 25)
    (ha : ∀ a, 0 ≤ a → a < b 0 → iv M' 60 (1 + a) = fu b i v (1 + a) ∧ iv M' 60 (9 + a) = fu b i v (21 + a) ∧ iv M' 60 (17 + a) = iv M 60 (17 + a)) : SI M' (fu b i v) ∧ fu b i v 0 = b 0 := by
  obtain ⟨g1, g2, g3, g4, g5, g6, g7⟩ := h
  have e0 : fu b i v 0 = b 0 := fu_n b (by omega)
  have en : nops (fu b i v) = nops b := by
    show fo (fu b i v) (fu b i v 0) = fo b (b 0)
    rw [e0, fu_fo b i2]
  obtain ⟨b1, b2, b3, b4, b5, b6⟩ := g5
  refine ⟨⟨hb, hq, TXL_rows g3 r2 r3, fun o o0 o1 => ?_, ⟨by rw [h0, e0, b1], by rw [e0]; exact b2, by rw [h25, en, b3], by rw [en]; exact b4, by rw [en, fu_ia b i2]; exact b5, fun a a0 a1 => ?_⟩, fun o o0 o1 => ?_, by rw [en, e0]; exact g7⟩, e0⟩
  · rw [en] at o1
    have hh := OBo_rows (g4 o o0 o1) r58 r59
    unfold OBo at hh ⊢
    rw [fu_pt b i2 o0 (by omega), fu_pt b i2 o0 (by omega), fu_pt b i2 o0 (by omega), fu_pt b i2 o0 (by omega), fu_pt b i2 o0 (by omega), fu_pt b i2 o0 (by omega), fu_pt b i2 o0 (by omega), fu_pt b i2 o0 (by omega)]
    exact hh
  · rw [e0] at a1
    obtain ⟨u1, u2, u3⟩ := ha a a0 a1
    exact ⟨u1, u2, by rw [u3, fu_fo b i2]; exact (b6 a a0 a1).2.2⟩
  · rw [en] at o1
    rw [fu_pt b i2 o0 (by omega), fu_pt b i2 o0 (by omega), fu_pt b i2 o0 (by omega)]
    exact g6 o o0 o1
abbrev QL : Option Value → am_M → Prop := fun rv _ => rv = some (.int 1)
theorem si_day {M : am_M} {b : Int → Int} {d e : Int} (si : SI M b) (hl : vlaw d e) : ∃ M4 M5, am_call t_LAW_lays [.ref 61, .ref 58, .ref 59, .ref 60, .int (zi d), .int (zi e), .ref 62, .ref 63, .ref 64] M none M4 ∧ am_call t_LAW_isSame [.ref 0, .ref 61, .ref 64, .int (zi d), .int (zi e)] M4 (some (.int (zi 1))) M5 ∧ SI M5 b := by
  obtain ⟨h1, h2, h3, h4, h5, h6, h7⟩ := id si
  obtain ⟨M4, c1, c2, c3⟩ := sp_w_lays h1.1 h4 h5 hl.1 (vl_z hl).2
  obtain ⟨M5, k1, k2⟩ := sp_w_isSame (M := M4) h1.1 (by rw [iv_row (c3 11 (by omega))]; exact h1.2) h6 hl c2
  refine ⟨M4, M5, c1, k1, SI_rows si (fun a ha => ?_)⟩
  rw [k2 a (by omega), c3 a (by omega)]
theorem lw_323 {b : Int → Int} {a x : Int} (a0 : 0 ≤ a) (a1 : a ≤ 5) (kk : ∀ M, SI M b → am_x t_LAW_law (131, [.ref 5000, .ref 0, .ref 58, .ref 59, .ref 60, .ref 61, .ref 62, .ref 63, .ref 64, .int (zi (a + 1)), .null, .null, .null, .null], [], M) QL) : ∀ M, SI M b → am_x t_LAW_law (323, [.ref 5000, .ref 0, .ref 58, .ref 59, .ref 60, .ref 61, .ref 62, .ref 63, .ref 64, .int (zi a), .int (zi x), .null, .int (zi 0), .null], [], M) QL := by
  intro M si
  refine loop_up (fun d (N : am_M) => (323, [.ref 5000, .ref 0, .ref 58, .ref 59, .ref 60, .ref 61, .ref 62, .ref 63, .ref 64, .int (zi a), .int (zi x), .null, .int (zi d), .null], [], N)) 7 (fun d N => SI N b) ?_ ?_ 0 M (by omega) (by omega) si
  · intro N sN
    obtain ⟨M4, M5, c1, c2, c3⟩ := si_day (d := 9999) (e := -1) sN ⟨by omega, Or.inl rfl⟩
    exact vc_w_law_323 a x 7 N _ ⟨by decide, fun z => by omega, fun _ => ⟨M4, c1, _, M5, c2, by decide, fun z => by omega, fun _ => kk M5 c3⟩⟩
  · intro d N d0 d1 sN go
    obtain ⟨r, cr, r0, r1⟩ := sp_w_low N (zshr x (11 + d)) (n := 8) (by omega) (by decide)
    obtain ⟨M4, M5, c1, c2, c3⟩ := si_day (d := d) (e := r - 1) sN ⟨by omega, by omega⟩
    exact vc_w_law_323 a x d N _ ⟨⟨by omega, by omega⟩, fun _ => ⟨r, N, cr, M4, c1, _, M5, c2, by decide, fun z => by omega, fun _ => go M5 c3⟩, fun z => by omega⟩
theorem lw_264 {a x r : Int} (a0 : 0 ≤ a) (a1 : a < 5) (r0 : 0 ≤ r) (r1 : r ≤ a) (kk : ∀ b M, SI M b → b 0 = a + 1 → am_x t_LAW_law (131, [.ref 5000, .ref 0, .ref 58, .ref 59, .ref 60, .ref 61, .ref 62, .ref 63, .ref 64, .int (zi (a + 1)), .null, .null, .null, .null], [], M) QL) : ∀ b M, SI M b → b 0 = a + 1 → am_x t_LAW_law (264, [.ref 5000, .ref 0, .ref 58, .ref 59, .ref 60, .ref 61, .ref 62, .ref 63, .ref 64, .int (zi a), .int (zi x), .int (zi r), .null, .null], [], M) QL := by
  intro b M si hb
  have nx : ∀ b M, SI M b → b 0 = a + 1 → am_x t_LAW_law (320, [.ref 5000, .ref 0, .ref 58, .ref 59, .ref 60, .ref 61, .ref 62, .ref 63, .ref 64, .int (zi a), .int (zi x), .null, .null, .null], [], M) QL := fun b M s h => vc_w_law_320 a x M _ (lw_323 a0 (by omega) (fun N sN => kk b N sN h) M s)
  obtain ⟨q, cq, q0, q1⟩ := sp_w_low M x (n := 4) (by omega) (by decide)
  refine vc_w_law_264 a x r M _ ⟨q, M, cq, ⟨by omega, by omega⟩, fun _ => ?_, fun _ => nx b M si hb⟩
  obtain ⟨d, cd, d0, d1⟩ := sp_w_low M (zshr x 8) (n := 6) (by omega) (by decide)
  have dz : zr d := ⟨by omega, by omega⟩
  obtain ⟨h1, h2, h3, h4, h5, h6, h7⟩ := id si
  obtain ⟨u1, u2, u3⟩ := h5.2.2.2.2.2 r r0 (by omega)
  obtain ⟨N, eN⟩ : ∃ N, N = zup M 60 (1 + r) d := ⟨_, rfl⟩
  have N60 : ∀ i, 0 ≤ i → iv N 60 i = if i = 1 + r then d else iv M 60 i := fun i i0 => by rw [eN, ivs _ _ (by omega) i0 dz]
  have Nr : ∀ i, ¬ i = 60 → N i = M i := fun i hi => by rw [eN, zupr _ hi]
  obtain ⟨M', c1, c2, c3, c4⟩ := sp_k_commence (M := N) (b := b) (d := d) (by rw [iv_row (Nr 11 (by decide))]; exact h1) (ARQ_rows h2 (Nr 12 (by decide))) r0 (by omega) ⟨d0, by omega⟩
  have b1 := h1.1.day r r0 (by omega)
  refine ⟨⟨by omega, by omega⟩, d, M, cd, ⟨by omega, by omega⟩, fun X eX => ⟨⟨by omega, by omega⟩, ?_⟩⟩
  have eXN : X = N := by rw [eX, eN]
  rw [eXN, N60 _ (by omega), if_pos rfl]
  refine ⟨_, M', c1, ⟨by omega, by omega⟩, fun _ => ?_, fun z => absurd u1.symm z⟩
  have e60 : iv M' 60 = iv N 60 := iv_row (c4 60 (by decide) (by decide) (by decide))
  obtain ⟨s1, s2⟩ := SI_fu (i := 1 + r) (v := d) si (by omega) (by omega) c2 c3 ((c4 2 (by decide) (by decide) (by decide)).trans (Nr 2 (by decide))) ((c4 3 (by decide) (by decide) (by decide)).trans (Nr 3 (by decide))) ((c4 58 (by decide) (by decide) (by decide)).trans (Nr 58 (by decide))) ((c4 59 (by decide) (by decide) (by decide)).trans (Nr 59 (by decide))) (by rw [e60, N60 0 (by omega), if_neg (by omega)]) (by rw [e60, N60 25 (by omega), if_neg (by omega)]) (fun y y0 y1 => by
    obtain ⟨w1, w2, w3⟩ := h5.2.2.2.2.2 y y0 y1
    rw [e60]
    refine ⟨?_, ?_, ?_⟩
    · rw [N60 _ (by omega)]
      by_cases z : y = r
      · rw [if_pos (by omega), z, fu_s]
      · rw [if_neg (by omega), fu_n b (by omega), w1]
    · rw [N60 _ (by omega), if_neg (by omega), fu_n b (by omega), w2]
    · rw [N60 _ (by omega), if_neg (by omega)])
  exact nx _ M' s1 (s2.trans hb)
theorem lw_180 {a x r : Int} (a0 : 0 ≤ a) (a1 : a < 5) (r0 : 0 ≤ r) (r1 : r ≤ a) (kk : ∀ b M, SI M b → b 0 = a + 1 → am_x t_LAW_law (131, [.ref 5000, .ref 0, .ref 58, .ref 59, .ref 60, .ref 61, .ref 62, .ref 63, .ref 64, .int (zi (a + 1)), .null, .null, .null, .null], [], M) QL) : ∀ b M, SI M b → b 0 = a + 1 → am_x t_LAW_law (180, [.ref 5000, .ref 0, .ref 58, .ref 59, .ref 60, .ref 61, .ref 62, .ref 63, .ref 64, .int (zi a), .int (zi x), .int (zi r), .null, .null], [], M) QL := by
  intro b M si hb
  have nx := lw_264 (x := x) a0 a1 r0 r1 kk
  obtain ⟨q, cq, q0, q1⟩ := sp_w_low M x (n := 4) (by omega) (by decide)
  refine vc_w_law_180 a x r M _ ⟨q, M, cq, ⟨by omega, by omega⟩, fun _ => ?_, fun _ => nx b M si hb⟩
  obtain ⟨h1, h2, h3, h4, h5, h6, h7⟩ := id si
  obtain ⟨u1, u2, u3⟩ := h5.2.2.2.2.2 r r0 (by omega)
  have rv := h1.1.rev r r0 (by omega)
  obtain ⟨on, eon⟩ : ∃ on, on = 1 - b (21 + r) := ⟨_, rfl⟩
  have ho : on = 0 ∨ on = 1 := by omega
  have oz : zr on := ⟨by omega, by omega⟩
  obtain ⟨N, eN⟩ : ∃ N, N = zup M 60 (9 + r) on := ⟨_, rfl⟩
  have N60 : ∀ i, 0 ≤ i → iv N 60 i = if i = 9 + r then on else iv M 60 i := fun i i0 => by rw [eN, ivs _ _ (by omega) i0 oz]
  have Nr : ∀ i, ¬ i = 60 → N i = M i := fun i hi => by rw [eN, zupr _ hi]
  obtain ⟨M', c1, c2, c3, c4⟩ := sp_k_revoke (M := N) (b := b) (on := on) (by rw [iv_row (Nr 11 (by decide))]; exact h1) (ARQ_rows h2 (Nr 12 (by decide))) r0 (by omega) ho (by omega)
  have e60 : iv M' 60 = iv N 60 := iv_row (c4 60 (by decide) (by decide) (by decide))
  obtain ⟨s1, s2⟩ := SI_fu (i := 21 + r) (v := on) si (by omega) (by omega) c2 c3 ((c4 2 (by decide) (by decide) (by decide)).trans (Nr 2 (by decide))) ((c4 3 (by decide) (by decide) (by decide)).trans (Nr 3 (by decide))) ((c4 58 (by decide) (by decide) (by decide)).trans (Nr 58 (by decide))) ((c4 59 (by decide) (by decide) (by decide)).trans (Nr 59 (by decide))) (by rw [e60, N60 0 (by omega), if_neg (by omega)]) (by rw [e60, N60 25 (by omega), if_neg (by omega)]) (fun y y0 y1 => by
    obtain ⟨w1, w2, w3⟩ := h5.2.2.2.2.2 y y0 y1
    rw [e60]
    refine ⟨?_, ?_, ?_⟩
    · rw [N60 _ (by omega), if_neg (by omega), fu_n b (by omega), w1]
    · rw [N60 _ (by omega)]
      by_cases z : y = r
      · rw [if_pos (by omega), z, fu_s]
      · rw [if_neg (by omega), fu_n b (by omega), w2]
    · rw [N60 _ (by omega), if_neg (by omega)])
  have no := sp_k_revoke_no (M := M') (b := fu b (21 + r) on) (on := on) c2 r0 (by rw [s2]; omega) ho (fu_s _ _ _)
  have go : am_x t_LAW_law (264, [.ref 5000, .ref 0, .ref 58, .ref 59, .ref 60, .ref 61, .ref 62, .ref 63, .ref 64, .int (zi a), .int (zi x), .int (zi r), .null, .null], [], M') QL := nx _ M' s1 (s2.trans hb)
  have n9 : iv N 60 (9 + r) = on := by rw [N60 _ (by omega), if_pos rfl]
  have m9 : iv M' 60 (9 + r) = on := by rw [e60, n9]
  refine ⟨⟨by omega, by omega⟩, ⟨by omega, by omega⟩, fun X eX => ⟨⟨by omega, by omega⟩, ?_⟩⟩
  have eXN : X = N := by rw [eX, u2, ← eon, eN]
  rw [eXN, n9]
  have j0 : on = 1 → am_call t_SB_revoke [.ref 0, .int (zi r), .int (zi 1)] N (some (.int (zi 1))) M' ∧ am_call t_SB_revoke [.ref 0, .int (zi r), .int (zi 1)] M' (some (.int (zi (-3)))) M' := fun z => by rw [z] at c1 no; exact ⟨c1, no⟩
  have j1 : ¬ on = 1 → am_call t_SB_revoke [.ref 0, .int (zi r), .int (zi 0)] N (some (.int (zi 1))) M' ∧ am_call t_SB_revoke [.ref 0, .int (zi r), .int (zi 0)] M' (some (.int (zi (-3)))) M' := fun z => by rw [show on = 0 by omega] at c1 no; exact ⟨c1, no⟩
  refine ⟨fun z => ?_, fun z => ?_⟩
  · obtain ⟨k1, k2⟩ := j0 z
    refine ⟨_, M', k1, by decide, fun _ => ⟨⟨by omega, by omega⟩, ?_⟩, fun y => absurd rfl y⟩
    rw [m9]
    exact ⟨fun _ => ⟨_, M', k2, by decide, fun _ => go, fun y => absurd rfl y⟩, fun y => absurd z y⟩
  · obtain ⟨k1, k2⟩ := j1 z
    refine ⟨_, M', k1, by decide, fun _ => ⟨⟨by omega, by omega⟩, ?_⟩, fun y => absurd rfl y⟩
    rw [m9]
    exact ⟨fun y => absurd y z, fun _ => ⟨_, M', k2, by decide, fun _ => go, fun y => absurd rfl y⟩⟩
theorem lw_131 : ∀ M, (∃ b, SI M b ∧ b 0 = 0) → am_x t_LAW_law (131, [.ref 5000, .ref 0, .ref 58, .ref 59, .ref 60, .ref 61, .ref 62, .ref 63, .ref 64, .int (zi 0), .null, .null, .null, .null], [], M) QL := by
  intro M hM
  refine loop_up (fun a (N : am_M) => (131, [.ref 5000, .ref 0, .ref 58, .ref 59, .ref 60, .ref 61, .ref 62, .ref 63, .ref 64, .int (zi a), .null, .null, .null, .null], [], N)) 5 (fun a N => ∃ b, SI N b ∧ b 0 = a) ?_ ?_ 0 M (by omega) (by omega) hM
  · rintro N ⟨b, si, hb⟩
    obtain ⟨M', c1, c2⟩ := sp_k_count0 si.1
    rw [hb] at c1
    exact vc_w_law_131 5 N _ ⟨by decide, fun z => by omega, fun _ => ⟨_, M', c1, by decide, fun _ => rfl, fun z => absurd rfl z⟩⟩
  · rintro a N a0 a1 ⟨b, si, hb⟩ go
    obtain ⟨M2, c1, b', s2, hb'⟩ := sp_w_enacts (f := 7 * a) si (by omega) (by omega) (by omega)
    obtain ⟨x, cx⟩ := sp_w_cell M2 (k := 35 + a) (by omega) ⟨by omega, by omega⟩
    have h60 : iv M2 60 0 = a + 1 := by rw [s2.2.2.2.2.1.1, hb', hb]
    obtain ⟨r, cr, r0, r1⟩ := sp_w_low M2 (zshr x 4) (n := a + 1) (by omega) ⟨by omega, by omega⟩
    refine vc_w_law_131 a N _ ⟨⟨by omega, by omega⟩, fun _ => ⟨_, M2, c1, by decide, fun z => by omega, fun _ => ⟨x, M2, cx, vc_w_law_167 a x M2 _ ⟨r, M2, by rw [h60]; exact cr, ?_⟩⟩⟩, fun z => by omega⟩
    exact lw_180 a0 a1 r0 (by omega) (fun b M sM hM => go M ⟨b, sM, hM⟩) b' M2 s2 (by omega)
theorem whole_pure (L : Nat) (xs : Nat → Int32) : am_x t_LAW_law (48, [.ref 5000, .ref 0, .ref 58, .ref 59, .ref 60, .ref 61, .ref 62, .ref 63, .ref 64, .null, .null, .null, .null, .null], [], am_M0 L xs) QL := by
  have si := si_0 L xs
  have w := si.1.1
  have cb := si.1.2
  obtain ⟨M1, c1, q1⟩ := cq_clauses (d := 9999) (e := -1) w cb ⟨by omega, Or.inl rfl⟩
  have ez : ∀ d e, lw (fun _ => 0) d e = L0 := fun d e => rfl
  have f0 : frc L0 40 = 0 := rfl
  rw [ez, f0] at c1
  have s1 : SI M1 (fun _ => 0) := SI_rows si (fun a ha => q1 a (by omega))
  have c2 := cq_clauses_no (M := M1) (d := 10000) (e := -1) (by decide) (by decide) (fun z => by omega)
  obtain ⟨M3, c3, q3⟩ := cq_clause_no (M := M1) (d := 0) (e := 0) (x := 0) (i := 0) w s1.1.2 ⟨by omega, Or.inr (by omega)⟩ (by omega) (by rw [ez, f0]; exact Int.le_refl _) (by decide)
  have s3 : SI M3 (fun _ => 0) := SI_rows s1 (fun a ha => q3 a (by omega))
  have vl : vlaw 0 (-1) := ⟨by omega, Or.inl rfl⟩
  have c4 := cq_find_no (M := M3) vl (x := 728) (by unfold isCd; omega) (by decide)
  have c5 := cq_find_no (M := M3) vl (x := 730) (by unfold isCd; omega) (by decide)
  obtain ⟨M6, c6, q6⟩ := cq_find (M := M3) (x := 729) w s3.1.2 vl (by unfold isCd; omega) (by decide) (by decide)
  have h0 : hold L0 729 = -1 := by
    rcases hold_is L0 729 with z | z
    · exact z.1
    · exact absurd (show (0 : Int) = 729 from z.2.2) (by decide)
  rw [ez, h0, if_pos rfl] at c6
  have s6 : SI M6 (fun _ => 0) := SI_rows s3 (fun a ha => q6 a (by omega))
  exact vc_w_law _ _ ⟨_, M1, c1, by decide, fun _ => ⟨_, M1, c2, by decide, fun _ => ⟨_, M3, c3, by decide, fun _ => ⟨_, M3, c4, by decide, fun _ => ⟨_, M3, c5, by decide, fun _ => ⟨_, M6, c6, by decide, fun _ => lw_131 M6 ⟨_, s6, rfl⟩, fun z => absurd rfl z⟩, fun z => absurd rfl z⟩, fun z => absurd rfl z⟩, fun z => absurd rfl z⟩, fun z => absurd rfl z⟩, fun z => absurd rfl z⟩
