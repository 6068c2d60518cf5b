/-! an amendment of the law, typed and enacted -/
set_option maxRecDepth 100000 in
theorem vc_w_enacts (f : Int) (M : am_M) (Q : Option Value → am_M → Prop) (hv : ∃ (r2 : Int) (M1 : am_M), am_call t_LAW_cell [.ref 5000, .int (zi f)] M (some (.int (zi r2))) M1 ∧ (∃ (r4 : Int) (M3 : am_M), am_call t_LAW_low [.int (zi r2), .int (zi 3)] M1 (some (.int (zi r4))) M3 ∧ ((0 ≤ (17 + (iv M3 60 0)) ∧ (17 + (iv M3 60 0)) < 32) ∧ (∀ M5, M5 = zup M3 60 (17 + (iv M3 60 0)) (iv M3 60 25) → am_x t_LAW_enacts (38, [.ref 0, .ref 58, .ref 59, .ref 60, .ref 5000, .int (zi f), .int (zi r2), .int (zi (1 + r4)), .int (zi (iv M3 60 0)), .int (zi 0)], [], M5) Q)))) : am_x t_LAW_enacts (0, am_ent (am_mL t_LAW_enacts) [.ref 0, .ref 58, .ref 59, .ref 60, .ref 5000, .int (zi f)], [], M) Q := by
  refine am_xn 0 (c1 := (0, [.ref 0, .ref 58, .ref 59, .ref 60, .ref 5000, .int (zi f), .null, .null, .null, .null], [], M)) rfl ?_
  refine am_xn 2 (c1 := (4, [.ref 0, .ref 58, .ref 59, .ref 60, .ref 5000, .int (zi f), .null, .null, .null, .null], [.int (zi f), .ref 5000], M)) rfl ?_
  obtain ⟨r2, M1, hc, hv⟩ := hv
  refine am_xc t_LAW_cell (.invokestatic 96) 96 (av := [.ref 5000, .int (zi f)]) (rest := []) (rv := some (.int (zi r2))) (M' := M1) rfl rfl rfl rfl (Nat.le_of_ble_eq_true rfl) (fun h => nomatch h) (hc) ?_
  refine am_xn 0 (c1 := (7, [.ref 0, .ref 58, .ref 59, .ref 60, .ref 5000, .int (zi f), .null, .null, .null, .null], [.int (zi r2)], M1)) rfl ?_
  refine am_xn 4 (c1 := (13, [.ref 0, .ref 58, .ref 59, .ref 60, .ref 5000, .int (zi f), .int (zi r2), .null, .null, .null], [.int (zi 3), .int (zi r2), .int (zi 1)], M1)) rfl ?_
  obtain ⟨r4, M3, hc, hv⟩ := hv
  refine am_xc t_LAW_low (.invokestatic 57) 57 (av := [.int (zi r2), .int (zi 3)]) (rest := [.int (zi 1)]) (rv := some (.int (zi r4))) (M' := M3) rfl rfl rfl rfl (Nat.le_of_ble_eq_true rfl) (fun h => nomatch h) (hc) ?_
  refine am_xn 0 (c1 := (16, [.ref 0, .ref 58, .ref 59, .ref 60, .ref 5000, .int (zi f), .int (zi r2), .null, .null, .null], [.int (zi r4), .int (zi 1)], M3)) rfl ?_
  refine am_xiadd 1 1 r4 (pc := 17) (ls := [.ref 0, .ref 58, .ref 59, .ref 60, .ref 5000, .int (zi f), .int (zi r2), .null, .null, .null]) (st := []) rfl ?_
  refine am_xrd 4 60 0 (pc := 22) (ls := [.ref 0, .ref 58, .ref 59, .ref 60, .ref 5000, .int (zi f), .int (zi r2), .int (zi (1 + r4)), .null, .null]) (st := []) rfl ?_
  refine am_xiadd 5 17 (iv M3 60 0) (pc := 30) (ls := [.ref 0, .ref 58, .ref 59, .ref 60, .ref 5000, .int (zi f), .int (zi r2), .int (zi (1 + r4)), .int (zi (iv M3 60 0)), .null]) (st := [.ref 60]) rfl ?_
  refine am_xrd 3 60 25 (pc := 34) (ls := [.ref 0, .ref 58, .ref 59, .ref 60, .ref 5000, .int (zi f), .int (zi r2), .int (zi (1 + r4)), .int (zi (iv M3 60 0)), .null]) (st := [.int (zi (17 + (iv M3 60 0))), .ref 60]) rfl ?_
  obtain ⟨r6, hv⟩ := hv
  refine am_xast rfl rfl rfl r6 ?_
  refine am_xn 0 (c1 := (35, [.ref 0, .ref 58, .ref 59, .ref 60, .ref 5000, .int (zi f), .int (zi r2), .int (zi (1 + r4)), .int (zi (iv M3 60 0)), .null], [], zup M3 60 (17 + (iv M3 60 0)) (iv M3 60 25))) rfl ?_
  obtain ⟨M5, eM5⟩ : ∃ m, m = zup M3 60 (17 + (iv M3 60 0)) (iv M3 60 25) := ⟨_, rfl⟩
  replace hv := hv M5 eM5
  rw [← eM5]
  refine am_xn 2 (c1 := (38, [.ref 0, .ref 58, .ref 59, .ref 60, .ref 5000, .int (zi f), .int (zi r2), .int (zi (1 + r4)), .int (zi (iv M3 60 0)), .int (zi 0)], [], M5)) rfl ?_
  exact hv
set_option maxRecDepth 100000 in
theorem vc_w_enacts_38 (x5 : Int) (x6 : Int) (x7 : Int) (x8 : Int) (x9 : Int) (M : am_M) (Q : Option Value → am_M → Prop) (hv : (zr x9) ∧ ((zr x7) ∧ ((x9 < x7 → ((iv M 60 25) < 15 → (0 < x9 → ∃ (r4 : Int) (M3 : am_M), am_call t_SB_type [.ref 0, .int (zi 59)] M (some (.int (zi r4))) M3 ∧ ((zr r4) ∧ ((r4 < 0 → Q (some (.int (zi 0))) M3) ∧ (0 ≤ r4 → ∃ (r7 : Int) (M6 : am_M), am_call t_LAW_cell [.ref 5000, .int (zi ((x5 + 1) + (2 * x9)))] M3 (some (.int (zi r7))) M6 ∧ (∃ (r9 : Int) (M8 : am_M), am_call t_LAW_cell [.ref 5000, .int (zi ((x5 + 2) + (2 * x9)))] M6 (some (.int (zi r9))) M8 ∧ (∃ (r11 : Int) (M10 : am_M), am_call t_LAW_typesOperation [.ref 0, .ref 58, .ref 59, .ref 60, .int (zi r7), .int (zi r9)] M8 (some (.int (zi r11))) M10 ∧ ((zr r11) ∧ ((r11 = 0 → Q (some (.int (zi 0))) M10) ∧ (¬ r11 = 0 → am_x t_LAW_enacts (38, [.ref 0, .ref 58, .ref 59, .ref 60, .ref 5000, .int (zi x5), .int (zi x6), .int (zi x7), .int (zi x8), .int (zi (x9 + 1))], [], M10) Q))))))))) ∧ (x9 ≤ 0 → ∃ (r14 : Int) (M13 : am_M), am_call t_LAW_cell [.ref 5000, .int (zi ((x5 + 1) + (2 * x9)))] M (some (.int (zi r14))) M13 ∧ (∃ (r16 : Int) (M15 : am_M), am_call t_LAW_cell [.ref 5000, .int (zi ((x5 + 2) + (2 * x9)))] M13 (some (.int (zi r16))) M15 ∧ (∃ (r18 : Int) (M17 : am_M), am_call t_LAW_typesOperation [.ref 0, .ref 58, .ref 59, .ref 60, .int (zi r14), .int (zi r16)] M15 (some (.int (zi r18))) M17 ∧ ((zr r18) ∧ ((r18 = 0 → Q (some (.int (zi 0))) M17) ∧ (¬ r18 = 0 → am_x t_LAW_enacts (38, [.ref 0, .ref 58, .ref 59, .ref 60, .ref 5000, .int (zi x5), .int (zi x6), .int (zi x7), .int (zi x8), .int (zi (x9 + 1))], [], M17) Q))))))) ∧ (15 ≤ (iv M 60 25) → am_x t_LAW_enacts (114, [.ref 0, .null, .null, .ref 60, .null, .null, .int (zi x6), .null, .int (zi x8), .null], [], M) Q)) ∧ (x7 ≤ x9 → am_x t_LAW_enacts (114, [.ref 0, .null, .null, .ref 60, .null, .null, .int (zi x6), .null, .int (zi x8), .null], [], M) Q)))) : am_x t_LAW_enacts (38, [.ref 0, .ref 58, .ref 59, .ref 60, .ref 5000, .int (zi x5), .int (zi x6), .int (zi x7), .int (zi x8), .int (zi x9)], [], M) Q := by
  obtain ⟨r1, hv⟩ := hv
  obtain ⟨r2, hv⟩ := hv
  refine am_xn 3 (c1 := (if zi x9 < zi x7 then 45 else 114, [.ref 0, .ref 58, .ref 59, .ref 60, .ref 5000, .int (zi x5), .int (zi x6), .int (zi x7), .int (zi x8), .int (zi x9)], [], M)) rfl (am_xlt r1 r2 (fun h => ?_) (fun h => ?_))
  · replace hv := hv.1 h
    refine am_xrd 3 60 25 (pc := 49) (ls := [.ref 0, .ref 58, .ref 59, .ref 60, .ref 5000, .int (zi x5), .int (zi x6), .int (zi x7), .int (zi x8), .int (zi x9)]) (st := []) rfl ?_
    refine am_xn 2 (c1 := (if zi (iv M 60 25) < zi 15 then 54 else 114, [.ref 0, .ref 58, .ref 59, .ref 60, .ref 5000, .int (zi x5), .int (zi x6), .int (zi x7), .int (zi x8), .int (zi x9)], [], M)) rfl (am_xlt (iv_r _ _ _) (by decide) (fun h => ?_) (fun h => ?_))
    · replace hv := hv.1 h
      refine am_xn 2 (c1 := (if zi 0 < zi x9 then 59 else 68, [.ref 0, .ref 58, .ref 59, .ref 60, .ref 5000, .int (zi x5), .int (zi x6), .int (zi x7), .int (zi x8), .int (zi x9)], [], M)) rfl (am_xlt (by decide) r1 (fun h => ?_) (fun h => ?_))
      · replace hv := hv.1 h
        refine am_xn 2 (c1 := (62, [.ref 0, .ref 58, .ref 59, .ref 60, .ref 5000, .int (zi x5), .int (zi x6), .int (zi x7), .int (zi x8), .int (zi x9)], [.int (zi 59), .ref 0], M)) rfl ?_
        obtain ⟨r4, M3, hc, hv⟩ := hv
        refine am_xc t_SB_type (.invokevirtual 11) 11 (av := [.ref 0, .int (zi 59)]) (rest := []) (rv := some (.int (zi r4))) (M' := M3) rfl rfl rfl rfl (Nat.le_of_ble_eq_true rfl) (fun _ => rfl) (hc) ?_
        refine am_xn 0 (c1 := (65, [.ref 0, .ref 58, .ref 59, .ref 60, .ref 5000, .int (zi x5), .int (zi x6), .int (zi x7), .int (zi x8), .int (zi x9)], [.int (zi r4)], M3)) rfl ?_
        obtain ⟨r5, hv⟩ := hv
        refine am_xn 1 (c1 := (if zi r4 < zi 0 then 106 else 68, [.ref 0, .ref 58, .ref 59, .ref 60, .ref 5000, .int (zi x5), .int (zi x6), .int (zi x7), .int (zi x8), .int (zi x9)], [], M3)) rfl (am_xlt r5 (by decide) (fun h => ?_) (fun h => ?_))
        · replace hv := hv.1 h
          refine am_xn 1 (c1 := (107, [.ref 0, .ref 58, .ref 59, .ref 60, .ref 5000, .int (zi x5), .int (zi x6), .int (zi x7), .int (zi x8), .int (zi x9)], [.int (zi 0)], M3)) rfl ?_
          exact am_xr (some (.int (zi 0))) ⟨rfl, rfl, .boolean, rfl, rfl⟩ hv
        · replace hv := hv.2 h
          refine am_xiadd 8 x5 1 (pc := 78) (ls := [.ref 0, .ref 58, .ref 59, .ref 60, .ref 5000, .int (zi x5), .int (zi x6), .int (zi x7), .int (zi x8), .int (zi x9)]) (st := [.ref 5000, .ref 60, .ref 59, .ref 58, .ref 0]) rfl ?_
          refine am_ximul 3 2 x9 (pc := 82) (ls := [.ref 0, .ref 58, .ref 59, .ref 60, .ref 5000, .int (zi x5), .int (zi x6), .int (zi x7), .int (zi x8), .int (zi x9)]) (st := [.int (zi (x5 + 1)), .ref 5000, .ref 60, .ref 59, .ref 58, .ref 0]) rfl ?_
          refine am_xiadd 1 (x5 + 1) (2 * x9) (pc := 83) (ls := [.ref 0, .ref 58, .ref 59, .ref 60, .ref 5000, .int (zi x5), .int (zi x6), .int (zi x7), .int (zi x8), .int (zi x9)]) (st := [.ref 5000, .ref 60, .ref 59, .ref 58, .ref 0]) rfl ?_
          obtain ⟨r7, M6, hc, hv⟩ := hv
          refine am_xc t_LAW_cell (.invokestatic 96) 96 (av := [.ref 5000, .int (zi ((x5 + 1) + (2 * x9)))]) (rest := [.ref 60, .ref 59, .ref 58, .ref 0]) (rv := some (.int (zi r7))) (M' := M6) rfl rfl rfl rfl (Nat.le_of_ble_eq_true rfl) (fun h => nomatch h) (hc) ?_
          refine am_xn 0 (c1 := (86, [.ref 0, .ref 58, .ref 59, .ref 60, .ref 5000, .int (zi x5), .int (zi x6), .int (zi x7), .int (zi x8), .int (zi x9)], [.int (zi r7), .ref 60, .ref 59, .ref 58, .ref 0], M6)) rfl ?_
          refine am_xiadd 4 x5 2 (pc := 92) (ls := [.ref 0, .ref 58, .ref 59, .ref 60, .ref 5000, .int (zi x5), .int (zi x6), .int (zi x7), .int (zi x8), .int (zi x9)]) (st := [.ref 5000, .int (zi r7), .ref 60, .ref 59, .ref 58, .ref 0]) rfl ?_
          refine am_ximul 3 2 x9 (pc := 96) (ls := [.ref 0, .ref 58, .ref 59, .ref 60, .ref 5000, .int (zi x5), .int (zi x6), .int (zi x7), .int (zi x8), .int (zi x9)]) (st := [.int (zi (x5 + 2)), .ref 5000, .int (zi r7), .ref 60, .ref 59, .ref 58, .ref 0]) rfl ?_
          refine am_xiadd 1 (x5 + 2) (2 * x9) (pc := 97) (ls := [.ref 0, .ref 58, .ref 59, .ref 60, .ref 5000, .int (zi x5), .int (zi x6), .int (zi x7), .int (zi x8), .int (zi x9)]) (st := [.ref 5000, .int (zi r7), .ref 60, .ref 59, .ref 58, .ref 0]) rfl ?_
          obtain ⟨r9, M8, hc, hv⟩ := hv
          refine am_xc t_LAW_cell (.invokestatic 96) 96 (av := [.ref 5000, .int (zi ((x5 + 2) + (2 * x9)))]) (rest := [.int (zi r7), .ref 60, .ref 59, .ref 58, .ref 0]) (rv := some (.int (zi r9))) (M' := M8) rfl rfl rfl rfl (Nat.le_of_ble_eq_true rfl) (fun h => nomatch h) (hc) ?_
          refine am_xn 0 (c1 := (100, [.ref 0, .ref 58, .ref 59, .ref 60, .ref 5000, .int (zi x5), .int (zi x6), .int (zi x7), .int (zi x8), .int (zi x9)], [.int (zi r9), .int (zi r7), .ref 60, .ref 59, .ref 58, .ref 0], M8)) rfl ?_
          obtain ⟨r11, M10, hc, hv⟩ := hv
          refine am_xc t_LAW_typesOperation (.invokestatic 99) 99 (av := [.ref 0, .ref 58, .ref 59, .ref 60, .int (zi r7), .int (zi r9)]) (rest := []) (rv := some (.int (zi r11))) (M' := M10) rfl rfl rfl rfl (Nat.le_of_ble_eq_true rfl) (fun h => nomatch h) (hc) ?_
          refine am_xn 0 (c1 := (103, [.ref 0, .ref 58, .ref 59, .ref 60, .ref 5000, .int (zi x5), .int (zi x6), .int (zi x7), .int (zi x8), .int (zi x9)], [.int (zi r11)], M10)) rfl ?_
          obtain ⟨r12, hv⟩ := hv
          refine am_xn 1 (c1 := (if zi r11 = zi 0 then 106 else 108, [.ref 0, .ref 58, .ref 59, .ref 60, .ref 5000, .int (zi x5), .int (zi x6), .int (zi x7), .int (zi x8), .int (zi x9)], [], M10)) rfl (am_xeq r12 (by decide) (fun h => ?_) (fun h => ?_))
          · replace hv := hv.1 h
            refine am_xn 1 (c1 := (107, [.ref 0, .ref 58, .ref 59, .ref 60, .ref 5000, .int (zi x5), .int (zi x6), .int (zi x7), .int (zi x8), .int (zi x9)], [.int (zi 0)], M10)) rfl ?_
            exact am_xr (some (.int (zi 0))) ⟨rfl, rfl, .boolean, rfl, rfl⟩ hv
          · replace hv := hv.2 h
            refine am_xn 1 (c1 := (111, [.ref 0, .ref 58, .ref 59, .ref 60, .ref 5000, .int (zi x5), .int (zi x6), .int (zi x7), .int (zi x8), .int (zi x9 + zi 1)], [], M10)) rfl ?_
            rw [zi_add]
            refine am_xn 1 (c1 := (38, [.ref 0, .ref 58, .ref 59, .ref 60, .ref 5000, .int (zi x5), .int (zi x6), .int (zi x7), .int (zi x8), .int (zi (x9 + 1))], [], M10)) rfl ?_
            exact hv
      · replace hv := hv.2 h
        refine am_xiadd 8 x5 1 (pc := 78) (ls := [.ref 0, .ref 58, .ref 59, .ref 60, .ref 5000, .int (zi x5), .int (zi x6), .int (zi x7), .int (zi x8), .int (zi x9)]) (st := [.ref 5000, .ref 60, .ref 59, .ref 58, .ref 0]) rfl ?_
        refine am_ximul 3 2 x9 (pc := 82) (ls := [.ref 0, .ref 58, .ref 59, .ref 60, .ref 5000, .int (zi x5), .int (zi x6), .int (zi x7), .int (zi x8), .int (zi x9)]) (st := [.int (zi (x5 + 1)), .ref 5000, .ref 60, .ref 59, .ref 58, .ref 0]) rfl ?_
        refine am_xiadd 1 (x5 + 1) (2 * x9) (pc := 83) (ls := [.ref 0, .ref 58, .ref 59, .ref 60, .ref 5000, .int (zi x5), .int (zi x6), .int (zi x7), .int (zi x8), .int (zi x9)]) (st := [.ref 5000, .ref 60, .ref 59, .ref 58, .ref 0]) rfl ?_
        obtain ⟨r14, M13, hc, hv⟩ := hv
        refine am_xc t_LAW_cell (.invokestatic 96) 96 (av := [.ref 5000, .int (zi ((x5 + 1) + (2 * x9)))]) (rest := [.ref 60, .ref 59, .ref 58, .ref 0]) (rv := some (.int (zi r14))) (M' := M13) rfl rfl rfl rfl (Nat.le_of_ble_eq_true rfl) (fun h => nomatch h) (hc) ?_
        refine am_xn 0 (c1 := (86, [.ref 0, .ref 58, .ref 59, .ref 60, .ref 5000, .int (zi x5), .int (zi x6), .int (zi x7), .int (zi x8), .int (zi x9)], [.int (zi r14), .ref 60, .ref 59, .ref 58, .ref 0], M13)) rfl ?_
        refine am_xiadd 4 x5 2 (pc := 92) (ls := [.ref 0, .ref 58, .ref 59, .ref 60, .ref 5000, .int (zi x5), .int (zi x6), .int (zi x7), .int (zi x8), .int (zi x9)]) (st := [.ref 5000, .int (zi r14), .ref 60, .ref 59, .ref 58, .ref 0]) rfl ?_
        refine am_ximul 3 2 x9 (pc := 96) (ls := [.ref 0, .ref 58, .ref 59, .ref 60, .ref 5000, .int (zi x5), .int (zi x6), .int (zi x7), .int (zi x8), .int (zi x9)]) (st := [.int (zi (x5 + 2)), .ref 5000, .int (zi r14), .ref 60, .ref 59, .ref 58, .ref 0]) rfl ?_
        refine am_xiadd 1 (x5 + 2) (2 * x9) (pc := 97) (ls := [.ref 0, .ref 58, .ref 59, .ref 60, .ref 5000, .int (zi x5), .int (zi x6), .int (zi x7), .int (zi x8), .int (zi x9)]) (st := [.ref 5000, .int (zi r14), .ref 60, .ref 59, .ref 58, .ref 0]) rfl ?_
        obtain ⟨r16, M15, hc, hv⟩ := hv
        refine am_xc t_LAW_cell (.invokestatic 96) 96 (av := [.ref 5000, .int (zi ((x5 + 2) + (2 * x9)))]) (rest := [.int (zi r14), .ref 60, .ref 59, .ref 58, .ref 0]) (rv := some (.int (zi r16))) (M' := M15) rfl rfl rfl rfl (Nat.le_of_ble_eq_true rfl) (fun h => nomatch h) (hc) ?_
        refine am_xn 0 (c1 := (100, [.ref 0, .ref 58, .ref 59, .ref 60, .ref 5000, .int (zi x5), .int (zi x6), .int (zi x7), .int (zi x8), .int (zi x9)], [.int (zi r16), .int (zi r14), .ref 60, .ref 59, .ref 58, .ref 0], M15)) rfl ?_
        obtain ⟨r18, M17, hc, hv⟩ := hv
        refine am_xc t_LAW_typesOperation (.invokestatic 99) 99 (av := [.ref 0, .ref 58, .ref 59, .ref 60, .int (zi r14), .int (zi r16)]) (rest := []) (rv := some (.int (zi r18))) (M' := M17) rfl rfl rfl rfl (Nat.le_of_ble_eq_true rfl) (fun h => nomatch h) (hc) ?_
        refine am_xn 0 (c1 := (103, [.ref 0, .ref 58, .ref 59, .ref 60, .ref 5000, .int (zi x5), .int (zi x6), .int (zi x7), .int (zi x8), .int (zi x9)], [.int (zi r18)], M17)) rfl ?_
        obtain ⟨r19, hv⟩ := hv
        refine am_xn 1 (c1 := (if zi r18 = zi 0 then 106 else 108, [.ref 0, .ref 58, .ref 59, .ref 60, .ref 5000, .int (zi x5), .int (zi x6), .int (zi x7), .int (zi x8), .int (zi x9)], [], M17)) rfl (am_xeq r19 (by decide) (fun h => ?_) (fun h => ?_))
        · replace hv := hv.1 h
          refine am_xn 1 (c1 := (107, [.ref 0, .ref 58, .ref 59, .ref 60, .ref 5000, .int (zi x5), .int (zi x6), .int (zi x7), .int (zi x8), .int (zi x9)], [.int (zi 0)], M17)) rfl ?_
          exact am_xr (some (.int (zi 0))) ⟨rfl, rfl, .boolean, rfl, rfl⟩ hv
        · replace hv := hv.2 h
          refine am_xn 1 (c1 := (111, [.ref 0, .ref 58, .ref 59, .ref 60, .ref 5000, .int (zi x5), .int (zi x6), .int (zi x7), .int (zi x8), .int (zi x9 + zi 1)], [], M17)) rfl ?_
          rw [zi_add]
          refine am_xn 1 (c1 := (38, [.ref 0, .ref 58, .ref 59, .ref 60, .ref 5000, .int (zi x5), .int (zi x6), .int (zi x7), .int (zi x8), .int (zi (x9 + 1))], [], M17)) rfl ?_
          exact hv
    · replace hv := hv.2 h
      refine am_xf 1 ?_
      refine am_xf 2 ?_
      refine am_xf 4 ?_
      refine am_xf 5 ?_
      refine am_xf 7 ?_
      refine am_xf 9 ?_
      exact hv
  · replace hv := hv.2 h
    refine am_xf 1 ?_
    refine am_xf 2 ?_
    refine am_xf 4 ?_
    refine am_xf 5 ?_
    refine am_xf 7 ?_
    refine am_xf 9 ?_
    exact hv
set_option maxRecDepth 100000 in
theorem vc_w_enacts_114 (x6 : Int) (x8 : Int) (M : am_M) (Q : Option Value → am_M → Prop) (hv : ∃ (r2 : Int) (M1 : am_M), am_call t_LAW_low [.int (zi (zshr x6 3)), .int (zi 6)] M (some (.int (zi r2))) M1 ∧ ((0 ≤ (1 + x8) ∧ (1 + x8) < 32) ∧ (∀ M3, M3 = zup M1 60 (1 + x8) r2 → (0 ≤ (9 + x8) ∧ (9 + x8) < 32) ∧ (∀ M5, M5 = zup M3 60 (9 + x8) 0 → (0 ≤ (0 : Int) ∧ (0 : Int) < 32) ∧ (∀ M7, M7 = zup M5 60 0 (x8 + 1) → (0 ≤ (1 + x8) ∧ (1 + x8) < 32) ∧ (∃ (r11 : Int) (M10 : am_M), am_call t_SB_enact [.ref 0, .int (zi (iv M7 60 (1 + x8)))] M7 (some (.int (zi r11))) M10 ∧ ((zr r11) ∧ ((zr x8) ∧ ((r11 = x8 → ∃ (r15 : Int) (M14 : am_M), am_call t_SB_count [.ref 0, .int (zi 4)] M10 (some (.int (zi r15))) M14 ∧ ((zr r15) ∧ ((r15 = 0 → ∃ (r18 : Int) (M17 : am_M), am_call t_SB_count [.ref 0, .int (zi 1)] M14 (some (.int (zi r18))) M17 ∧ ((zr r18) ∧ ((r18 = (iv M17 60 25) → Q (some (.int (zi 1))) M17) ∧ (¬ r18 = (iv M17 60 25) → Q (some (.int (zi 0))) M17)))) ∧ (¬ r15 = 0 → Q (some (.int (zi 0))) M14)))) ∧ (¬ r11 = x8 → Q (some (.int (zi 0))) M10)))))))))) : am_x t_LAW_enacts (114, [.ref 0, .null, .null, .ref 60, .null, .null, .int (zi x6), .null, .int (zi x8), .null], [], M) Q := by
  refine am_xiadd 4 1 x8 (pc := 119) (ls := [.ref 0, .null, .null, .ref 60, .null, .null, .int (zi x6), .null, .int (zi x8), .null]) (st := [.ref 60]) rfl ?_
  refine am_xbit 3 (zi x6 >>> (zi 3 &&& 31)) (pc := 123) (ls := [.ref 0, .null, .null, .ref 60, .null, .null, .int (zi x6), .null, .int (zi x8), .null]) (st := [.int (zi (1 + x8)), .ref 60]) rfl ?_
  refine am_xn 0 (c1 := (123, [.ref 0, .null, .null, .ref 60, .null, .null, .int (zi x6), .null, .int (zi x8), .null], [.int (zi (zshr x6 3)), .int (zi (1 + x8)), .ref 60], M)) rfl ?_
  refine am_xn 1 (c1 := (125, [.ref 0, .null, .null, .ref 60, .null, .null, .int (zi x6), .null, .int (zi x8), .null], [.int (zi 6), .int (zi (zshr x6 3)), .int (zi (1 + x8)), .ref 60], M)) rfl ?_
  obtain ⟨r2, M1, hc, hv⟩ := hv
  refine am_xc t_LAW_low (.invokestatic 57) 57 (av := [.int (zi (zshr x6 3)), .int (zi 6)]) (rest := [.int (zi (1 + x8)), .ref 60]) (rv := some (.int (zi r2))) (M' := M1) rfl rfl rfl rfl (Nat.le_of_ble_eq_true rfl) (fun h => nomatch h) (hc) ?_
  refine am_xn 0 (c1 := (128, [.ref 0, .null, .null, .ref 60, .null, .null, .int (zi x6), .null, .int (zi x8), .null], [.int (zi r2), .int (zi (1 + x8)), .ref 60], M1)) rfl ?_
  obtain ⟨r4, hv⟩ := hv
  refine am_xast rfl rfl rfl r4 ?_
  refine am_xn 0 (c1 := (129, [.ref 0, .null, .null, .ref 60, .null, .null, .int (zi x6), .null, .int (zi x8), .null], [], zup M1 60 (1 + x8) r2)) rfl ?_
  obtain ⟨M3, eM3⟩ : ∃ m, m = zup M1 60 (1 + x8) r2 := ⟨_, rfl⟩
  replace hv := hv M3 eM3
  rw [← eM3]
  refine am_xiadd 4 9 x8 (pc := 135) (ls := [.ref 0, .null, .null, .ref 60, .null, .null, .int (zi x6), .null, .int (zi x8), .null]) (st := [.ref 60]) rfl ?_
  obtain ⟨r6, hv⟩ := hv
  refine am_xn 1 (c1 := (136, [.ref 0, .null, .null, .ref 60, .null, .null, .int (zi x6), .null, .int (zi x8), .null], [.int (zi 0), .int (zi (9 + x8)), .ref 60], M3)) rfl ?_
  refine am_xast rfl rfl rfl r6 ?_
  refine am_xn 0 (c1 := (137, [.ref 0, .null, .null, .ref 60, .null, .null, .int (zi x6), .null, .int (zi x8), .null], [], zup M3 60 (9 + x8) 0)) rfl ?_
  obtain ⟨M5, eM5⟩ : ∃ m, m = zup M3 60 (9 + x8) 0 := ⟨_, rfl⟩
  replace hv := hv M5 eM5
  rw [← eM5]
  refine am_xiadd 5 x8 1 (pc := 143) (ls := [.ref 0, .null, .null, .ref 60, .null, .null, .int (zi x6), .null, .int (zi x8), .null]) (st := [.int (zi 0), .ref 60]) rfl ?_
  obtain ⟨r8, hv⟩ := hv
  refine am_xast rfl rfl rfl r8 ?_
  refine am_xn 0 (c1 := (144, [.ref 0, .null, .null, .ref 60, .null, .null, .int (zi x6), .null, .int (zi x8), .null], [], zup M5 60 0 (x8 + 1))) rfl ?_
  obtain ⟨M7, eM7⟩ : ∃ m, m = zup M5 60 0 (x8 + 1) := ⟨_, rfl⟩
  replace hv := hv M7 eM7
  rw [← eM7]
  refine am_xiadd 5 1 x8 (pc := 150) (ls := [.ref 0, .null, .null, .ref 60, .null, .null, .int (zi x6), .null, .int (zi x8), .null]) (st := [.ref 60, .ref 0]) rfl ?_
  obtain ⟨r9, hv⟩ := hv
  refine am_xald rfl rfl rfl r9 ?_
  refine am_xn 0 (c1 := (151, [.ref 0, .null, .null, .ref 60, .null, .null, .int (zi x6), .null, .int (zi x8), .null], [.int (zi (iv M7 60 (1 + x8))), .ref 0], M7)) rfl ?_
  obtain ⟨r11, M10, hc, hv⟩ := hv
  refine am_xc t_SB_enact (.invokevirtual 103) 103 (av := [.ref 0, .int (zi (iv M7 60 (1 + x8)))]) (rest := []) (rv := some (.int (zi r11))) (M' := M10) rfl rfl rfl rfl (Nat.le_of_ble_eq_true rfl) (fun _ => rfl) (hc) ?_
  refine am_xn 0 (c1 := (154, [.ref 0, .null, .null, .ref 60, .null, .null, .int (zi x6), .null, .int (zi x8), .null], [.int (zi r11)], M10)) rfl ?_
  obtain ⟨r12, hv⟩ := hv
  obtain ⟨r13, hv⟩ := hv
  refine am_xn 2 (c1 := (if zi r11 = zi x8 then 159 else 183, [.ref 0, .null, .null, .ref 60, .null, .null, .int (zi x6), .null, .int (zi x8), .null], [], M10)) rfl (am_xeq r12 r13 (fun h => ?_) (fun h => ?_))
  · replace hv := hv.1 h
    refine am_xn 2 (c1 := (161, [.ref 0, .null, .null, .ref 60, .null, .null, .int (zi x6), .null, .int (zi x8), .null], [.int (zi 4), .ref 0], M10)) rfl ?_
    obtain ⟨r15, M14, hc, hv⟩ := hv
    refine am_xc t_SB_count (.invokevirtual 106) 106 (av := [.ref 0, .int (zi 4)]) (rest := []) (rv := some (.int (zi r15))) (M' := M14) rfl rfl rfl rfl (Nat.le_of_ble_eq_true rfl) (fun _ => rfl) (hc) ?_
    refine am_xn 0 (c1 := (164, [.ref 0, .null, .null, .ref 60, .null, .null, .int (zi x6), .null, .int (zi x8), .null], [.int (zi r15)], M14)) rfl ?_
    obtain ⟨r16, hv⟩ := hv
    refine am_xn 1 (c1 := (if zi r15 = zi 0 then 167 else 183, [.ref 0, .null, .null, .ref 60, .null, .null, .int (zi x6), .null, .int (zi x8), .null], [], M14)) rfl (am_xeq r16 (by decide) (fun h => ?_) (fun h => ?_))
    · replace hv := hv.1 h
      refine am_xn 2 (c1 := (169, [.ref 0, .null, .null, .ref 60, .null, .null, .int (zi x6), .null, .int (zi x8), .null], [.int (zi 1), .ref 0], M14)) rfl ?_
      obtain ⟨r18, M17, hc, hv⟩ := hv
      refine am_xc t_SB_count (.invokevirtual 106) 106 (av := [.ref 0, .int (zi 1)]) (rest := []) (rv := some (.int (zi r18))) (M' := M17) rfl rfl rfl rfl (Nat.le_of_ble_eq_true rfl) (fun _ => rfl) (hc) ?_
      refine am_xn 0 (c1 := (172, [.ref 0, .null, .null, .ref 60, .null, .null, .int (zi x6), .null, .int (zi x8), .null], [.int (zi r18)], M17)) rfl ?_
      refine am_xrd 3 60 25 (pc := 176) (ls := [.ref 0, .null, .null, .ref 60, .null, .null, .int (zi x6), .null, .int (zi x8), .null]) (st := [.int (zi r18)]) rfl ?_
      obtain ⟨r19, hv⟩ := hv
      refine am_xn 1 (c1 := (if zi r18 = zi (iv M17 60 25) then 179 else 183, [.ref 0, .null, .null, .ref 60, .null, .null, .int (zi x6), .null, .int (zi x8), .null], [], M17)) rfl (am_xeq r19 (iv_r _ _ _) (fun h => ?_) (fun h => ?_))
      · replace hv := hv.1 h
        refine am_xn 2 (c1 := (184, [.ref 0, .null, .null, .ref 60, .null, .null, .int (zi x6), .null, .int (zi x8), .null], [.int (zi 1)], M17)) rfl ?_
        exact am_xr (some (.int (zi 1))) ⟨rfl, rfl, .boolean, rfl, rfl⟩ hv
      · replace hv := hv.2 h
        refine am_xn 1 (c1 := (184, [.ref 0, .null, .null, .ref 60, .null, .null, .int (zi x6), .null, .int (zi x8), .null], [.int (zi 0)], M17)) rfl ?_
        exact am_xr (some (.int (zi 0))) ⟨rfl, rfl, .boolean, rfl, rfl⟩ hv
    · replace hv := hv.2 h
      refine am_xn 1 (c1 := (184, [.ref 0, .null, .null, .ref 60, .null, .null, .int (zi x6), .null, .int (zi x8), .null], [.int (zi 0)], M14)) rfl ?_
      exact am_xr (some (.int (zi 0))) ⟨rfl, rfl, .boolean, rfl, rfl⟩ hv
  · replace hv := hv.2 h
    refine am_xn 1 (c1 := (184, [.ref 0, .null, .null, .ref 60, .null, .null, .int (zi x6), .null, .int (zi x8), .null], [.int (zi 0)], M10)) rfl ?_
    exact am_xr (some (.int (zi 0))) ⟨rfl, rfl, .boolean, rfl, rfl⟩ hv
theorem PR_congr {l : List Int} {j : Int} {D D' : Int → Int → Int} (h : ∀ i w, 0 ≤ i → i < j → D' i w = D i w) (p : PR l j D) : PR l j D' := by
  intro T a c hl
  obtain ⟨p1, p2⟩ := p T a c hl
  refine ⟨fun i i0 i1 => ?_, p2⟩
  have := p1 i i0 i1
  unfold RD at this ⊢
  rw [h i 0 i0 i1, h i 1 i0 i1, h i 2 i0 i1, h i 3 i0 i1, h i 4 i0 i1, h i 5 i0 i1]
  exact this
theorem PR_1' {D : Int → Int → Int} {K n sv ws f s : Int} (e0 : D 0 0 = K) (e1 : D 0 1 = n) (e2 : D 0 2 = sv) (e3 : D 0 3 = ws) (e4 : D 0 4 = f) (e5 : D 0 5 = s) (r : opR K n sv ws f s) : PR (opL K n sv ws f s) 1 D := by
  subst e0 e1 e2 e3 e4 e5
  exact PR_1 r
theorem PR_s' {l : List Int} {j : Int} {D : Int → Int → Int} {K n sv ws f s : Int} (e0 : D j 0 = K) (e1 : D j 1 = n) (e2 : D j 2 = sv) (e3 : D j 3 = ws) (e4 : D j 4 = f) (e5 : D j 5 = s) (hj : 1 ≤ j) (p : PR l j D) (r : opR K n sv ws f s) : PR (l ++ [59] ++ opL K n sv ws f s) (j + 1) D := by
  subst e0 e1 e2 e3 e4 e5
  exact PR_s hj p r
theorem oX_lv {M M' : am_M} {k : Int} (h : lv M' 58 k = lv M 58 k) : oK M' k = oK M k ∧ oC M' k = oC M k ∧ oO M' k = oO M k ∧ oT M' k = oT M k := by
  unfold oK oC oO oT
  rw [h]
  exact ⟨rfl, rfl, rfl, rfl⟩
theorem OBo_at {M M' : am_M} {b : Int → Int} {o : Int} (h : OBo M b o) (h1 : lv M' 58 o = lv M 58 o) (h2 : iv M' 59 o = iv M 59 o) : OBo M' b o := by
  obtain ⟨e1, e2, e3, e4⟩ := oX_lv h1
  unfold OBo
  rw [e1, e2, e3, e4, h2]
  exact h
/-- an operation's numbers in the rows -/
abbrev DM (N : am_M) (o : Int) (d : Int → Int) : Prop := (oK N o = d 0 ∧ oC N o = d 1 ∧ oO N o = d 4 ∧ oT N o = d 5) ∧ zand (iv N 59 o) 1 = d 2 ∧ zand (zshr (iv N 59 o) 1) 7 = d 3
theorem DM_at {M M' : am_M} {o : Int} {d : Int → Int} (h : DM M o d) (h1 : lv M' 58 o = lv M 58 o) (h2 : iv M' 59 o = iv M 59 o) : DM M' o d := by
  obtain ⟨e1, e2, e3, e4⟩ := oX_lv h1
  unfold DM
  rw [e1, e2, e3, e4, h2]
  exact h
/-- j operations are typed -/
def EI (M0 : am_M) (b : Int → Int) (j : Int) (N : am_M) : Prop := ∃ (l : List Int) (D : Int → Int → Int), TXL N l ∧ ((j = 0 → l = []) ∧ (l.length : Int) ≤ 38 * j) ∧ (1 ≤ j → PR l j D) ∧
  (∀ i, 0 ≤ i → i < j → opR (D i 0) (D i 1) (D i 2) (D i 3) (D i 4) (D i 5) ∧ DM N (nops b + i) (D i)) ∧ iv N 60 25 = nops b + j ∧ (∀ i, 0 ≤ i → ¬ i = 25 → iv N 60 i = iv M0 60 i) ∧ iK N (nops b + j) ≤ 12 ∧
  (∀ o, 0 ≤ o → o < nops b → lv N 58 o = lv M0 58 o ∧ iv N 59 o = iv M0 59 o) ∧ ∀ a, ¬ a = 2 → ¬ a = 3 → ¬ a = 58 → ¬ a = 59 → ¬ a = 60 → N a = M0 a
theorem iK_s (M : am_M) {k : Int} (h : 0 ≤ k) : iK M (k + 1) = iK M k + (if oK M k = 0 then 1 else 0) := sm_s _ h
theorem iK_congr {M M' : am_M} {k : Int} (h : ∀ j, 0 ≤ j → j < k → oK M' j = oK M j) : iK M' k = iK M k := sm_congr (fun j j0 j1 => by
  show (if oK M' j = 0 then (1 : Int) else 0) = if oK M j = 0 then 1 else 0
  rw [h j j0 j1])
theorem EI_step {M0 N N3 M' : am_M} {b : Int → Int} {j : Int} (hb : 0 ≤ nops b) (j0 : 0 ≤ j) (j2 : nops b + j < 16) (l : List Int) (D : Int → Int → Int) (h1 : TXL N l) (h2 : (j = 0 → l = []) ∧ (l.length : Int) ≤ 38 * j) (h3 : 1 ≤ j → PR l j D)
    (h4 : ∀ i, 0 ≤ i → i < j → opR (D i 0) (D i 1) (D i 2) (D i 3) (D i 4) (D i 5) ∧ DM N (nops b + i) (D i)) (h5 : iv N 60 25 = nops b + j) (h6 : ∀ i, 0 ≤ i → ¬ i = 25 → iv N 60 i = iv M0 60 i) (h7 : iK N (nops b + j) ≤ 12)
    (h8 : ∀ o, 0 ≤ o → o < nops b → lv N 58 o = lv M0 58 o ∧ iv N 59 o = iv M0 59 o) (h9 : ∀ a, ¬ a = 2 → ¬ a = 3 → ¬ a = 58 → ¬ a = 59 → ¬ a = 60 → N a = M0 a)
    (t : TYP (if j = 0 then l else l ++ [59]) N N3) (p : OPP N3 (if j = 0 then l else l ++ [59]) (nops b + j) M') : EI M0 b (j + 1) M' := by
  obtain ⟨K, n, sv, ws, f, s, r, p1, p2, p3, p4, p5, p6, p7⟩ := p
  have t58 : lv N3 58 = lv N 58 := lv_row (t.2 58 (by decide) (by decide))
  have t59 : iv N3 59 = iv N 59 := iv_row (t.2 59 (by decide) (by decide))
  have t60 : iv N3 60 = iv N 60 := iv_row (t.2 60 (by decide) (by decide))
  have tK : ∀ x, oK N3 x = oK N x := fun x => (oX_lv (congrFun t58 x)).1
  have old : ∀ o, 0 ≤ o → o < nops b + j → lv M' 58 o = lv N 58 o ∧ iv M' 59 o = iv N 59 o := fun o o0 o1 => by
    have := p5 o o0 (by omega) (by omega)
    rw [this.1, this.2, t58, t59]
    exact ⟨rfl, rfl⟩
  have hlen := opL_len K n sv ws f s r
  have eiK : iK M' (nops b + j) = iK N (nops b + j) := iK_congr (fun x x0 x1 => (oX_lv (old x x0 x1).1).1)
  obtain ⟨D', hD⟩ : ∃ D' : Int → Int → Int, ∀ i w, D' i w = if i = j then (if w = 0 then K else if w = 1 then n else if w = 2 then sv else if w = 3 then ws else if w = 4 then f else s) else D i w := ⟨_, fun _ _ => rfl⟩
  have d0 : D' j 0 = K := by rw [hD, if_pos rfl, if_pos rfl]
  have d1 : D' j 1 = n := by rw [hD, if_pos rfl, if_neg (by omega), if_pos rfl]
  have d2 : D' j 2 = sv := by rw [hD, if_pos rfl, if_neg (by omega), if_neg (by omega), if_pos rfl]
  have d3 : D' j 3 = ws := by rw [hD, if_pos rfl, if_neg (by omega), if_neg (by omega), if_neg (by omega), if_pos rfl]
  have d4 : D' j 4 = f := by rw [hD, if_pos rfl, if_neg (by omega), if_neg (by omega), if_neg (by omega), if_neg (by omega), if_pos rfl]
  have d5 : D' j 5 = s := by rw [hD, if_pos rfl, if_neg (by omega), if_neg (by omega), if_neg (by omega), if_neg (by omega), if_neg (by omega)]
  have dn : ∀ i w, ¬ i = j → D' i w = D i w := fun i w h => by rw [hD, if_neg h]
  refine ⟨(if j = 0 then l else l ++ [59]) ++ opL K n sv ws f s, D', p2, ⟨fun z => by omega, ?_⟩, fun _ => ?_, fun i i0 i1 => ?_, ?_, fun i i0 ni => ?_, ?_, fun o o0 o1 => ?_, fun a a2 a3 a58 a59 a60 => ?_⟩
  · by_cases z : j = 0
    · rw [if_pos z, h2.1 z]
      show (((opL K n sv ws f s).length : Nat) : Int) ≤ _
      omega
    · rw [if_neg z]
      simp only [List.length_append, List.length_cons, List.length_nil]
      have := h2.2
      omega
  · by_cases z : j = 0
    · rw [if_pos z, h2.1 z, z]
      rw [z] at d0 d1 d2 d3 d4 d5
      exact PR_1' d0 d1 d2 d3 d4 d5 r
    · rw [if_neg z]
      exact PR_s' d0 d1 d2 d3 d4 d5 (by omega) (PR_congr (fun i w i0 i1 => dn i w (by omega)) (h3 (by omega))) r
  · by_cases z : i = j
    · subst z
      rw [d0, d1, d2, d3, d4, d5]
      refine ⟨r, ?_⟩
      unfold DM
      rw [d0, d1, d2, d3, d4, d5]
      exact ⟨p3, p4⟩
    · have e : D' i = D i := funext fun w => dn i w z
      obtain ⟨g1, g2⟩ := h4 i i0 (by omega)
      rw [e]
      have := old (nops b + i) (by omega) (by omega)
      exact ⟨g1, DM_at g2 this.1 this.2⟩
  · rw [p6 25 (by omega), if_pos rfl]
    omega
  · rw [p6 i i0, if_neg ni, t60, h6 i i0 ni]
  · rw [show nops b + (j + 1) = nops b + j + 1 by omega, iK_s M' (by omega), eiK, p3.1]
    by_cases z : K = 0
    · have := p1 z
      have e3 : iK N3 (nops b + j) = iK N (nops b + j) := iK_congr (fun x _ _ => tK x)
      rw [e3] at this
      rw [if_pos z]
      omega
    · rw [if_neg z]
      omega
  · have := old o o0 (by omega)
    have h := h8 o o0 o1
    rw [this.1, this.2]
    exact h
  · rw [p7 a a2 a3 a58 a59 a60, t.2 a a2 a3, h9 a a2 a3 a58 a59 a60]
/-- between two amendments: the class and the law's rows hold one book -/
def SI (M : am_M) (b : Int → Int) : Prop := BKr (iv M 11) b ∧ ARQ M ∧ TXL M [] ∧ OB M b ∧ AB M b ∧ PN b ∧ nops b ≤ 3 * b 0
theorem addb_fo {b G : Int → Int} {N d : Int} (w : WB b) (hn : b 0 < 20) (N0 : 0 ≤ N) : (∀ a, a ≤ b 0 → fo (addb b G N d) a = fo b a) ∧ nops (addb b G N d) = nops b + N ∧ addb b G N d 0 = b 0 + 1 := by
  have w0 := w.n0
  obtain ⟨a1, a2, a3, a4, a5, a6⟩ := addb_is (G := G) (N := N) (d := d) w hn
  have hf : ∀ a, a ≤ b 0 → fo (addb b G N d) a = fo b a := fun a ha => sm_congr (fun k k0 k1 => by
    rw [a4 k k0 (by omega), if_neg (by omega)])
  refine ⟨hf, ?_, a1⟩
  show fo (addb b G N d) (addb b G N d 0) = _
  rw [a1, fo_s _ w0, hf _ (Int.le_refl _), a4 _ w0 hn, if_pos rfl]
  rfl
section EN
variable {b : Int → Int} {M0 : am_M}
theorem en_114 {N : am_M} {x6 J : Int} (hs : BKr (iv M0 11) b) (hq : ARQ M0) (ob : OB M0 b) (ab : AB M0 b) (pn : PN b) (h3 : nops b ≤ 3 * b 0) (h5 : b 0 < 5) (h17 : iv M0 60 (17 + b 0) = nops b) (J0 : 1 ≤ J) (J3 : J ≤ 3) (ei : EI M0 b J N) :
    am_x t_LAW_enacts (114, [.ref 0, .null, .null, .ref 60, .null, .null, .int (zi x6), .null, .int (zi (b 0)), .null], [], N) (fun rv m => rv = some (.int (zi 1)) ∧ ∃ b', SI m b' ∧ b' 0 = b 0 + 1) := by
  obtain ⟨l, D, e1, e2, e3, e4, e5, e6, e7, e8, e9⟩ := ei
  have w := hs.1
  have w0 := w.n0
  have nn : 0 ≤ nops b := w.fo_nn (n := b 0) (Int.le_refl _)
  have abs := ab
  obtain ⟨b1, b2, b3, b4, b5, b6⟩ := ab
  obtain ⟨d, cd, d0, d1⟩ := sp_w_low N (zshr x6 3) (n := 6) (by omega) (by decide)
  obtain ⟨X, eX⟩ : ∃ X, X = zup (zup (zup N 60 (1 + b 0) d) 60 (9 + b 0) 0) 60 0 (b 0 + 1) := ⟨_, rfl⟩
  have dz : zr d := ⟨by omega, by omega⟩
  have X60 : ∀ i, 0 ≤ i → iv X 60 i = if i = 0 then b 0 + 1 else if i = 9 + b 0 then 0 else if i = 1 + b 0 then d else iv N 60 i := fun i i0 => by
    rw [eX, ivs _ _ (by decide) i0 ⟨by omega, by omega⟩, ivs _ _ (by omega) i0 (by decide), ivs _ _ (by omega) i0 dz]
  have Xr : ∀ a, ¬ a = 60 → X a = N a := fun a ha => by rw [eX, zupr _ ha, zupr _ ha, zupr _ ha]
  have tX : TXL X l := TXL_rows e1 (Xr 2 (by decide)) (Xr 3 (by decide))
  obtain ⟨x1, x2, x3⟩ := txl_X tX
  obtain ⟨⟨y1, y2⟩, y3⟩ := pr_am J0 (by omega) (e3 J0) x2 x3 (by have := tX.1.2; omega)
  have sX : BKr (iv X 11) b := by rw [iv_row (Xr 11 (by decide)), iv_row (e9 11 (by decide) (by decide) (by decide) (by decide) (by decide))]; exact hs
  have qX : ARQ X := ARQ_rows hq ((Xr 12 (by decide)).trans (e9 12 (by decide) (by decide) (by decide) (by decide) (by decide)))
  obtain ⟨M1, c1, c2, c3, c4, c5⟩ := sp_k_enact (d := d) sX qX x1 ⟨d0, by omega⟩ y1 (by rw [y2]; omega)
  rw [y2] at c4
  obtain ⟨b', hb'⟩ : ∃ b', b' = addb b (fun j => opF (tb X) (sk (tb X) (oS (tb X) (j / 12))) (j % 12)) J d := ⟨_, rfl⟩
  rw [← hb'] at c4
  obtain ⟨f1, f2, f3⟩ := addb_fo (G := fun j => opF (tb X) (sk (tb X) (oS (tb X) (j / 12))) (j % 12)) (N := J) (d := d) w (by omega) (by omega)
  obtain ⟨g1, g2, g3, g4, g5, g6⟩ := addb_is (G := fun j => opF (tb X) (sk (tb X) (oS (tb X) (j / 12))) (j % 12)) (N := J) (d := d) w (by omega)
  rw [← hb'] at f1 f2 f3 g1 g2 g3 g4 g5 g6
  obtain ⟨M2, k1, q1⟩ := sp_k_count4 c4 c2
  have s2 : BKr (iv M2 11) b' := by rw [iv_row (q1 11 (by omega))]; exact c4
  obtain ⟨M3, k2, q2⟩ := sp_k_count1 s2
  have q3 := CQ_trans q1 q2
  -- rows of the law at the end
  have r58 : M3 58 = N 58 := (q3 58 (by omega)).trans ((c5 58 (by omega)).trans (Xr 58 (by decide)))
  have r59 : M3 59 = N 59 := (q3 59 (by omega)).trans ((c5 59 (by omega)).trans (Xr 59 (by decide)))
  have r60 : M3 60 = X 60 := (q3 60 (by omega)).trans (c5 60 (by omega))
  have i60 : iv M3 60 = iv X 60 := iv_row r60
  have G6 : ∀ i w, 0 ≤ i → i < J → 0 ≤ w → w < 12 → pt b' (nops b + i) w = opF (tb X) (oS (tb X) i) w := fun i w i0 i1 w0 w1 => by
    have y := (y3 i i0 i1).1.1
    rw [g6 i w i0 i1 w0 w1]
    dsimp only
    rw [show (12 * i + w) / 12 = i by omega, show (12 * i + w) % 12 = w by omega, y]
  have obM : OB M3 b' := fun o o0 o1 => by
    rw [f2] at o1
    by_cases z : o < nops b
    · have h := OBo_at (ob o o0 z) (e8 o o0 z).1 (e8 o o0 z).2
      have h := OBo_rows h r58 r59
      unfold OBo at h ⊢
      rw [g5 o 0 o0 z (by omega) (by omega), g5 o 1 o0 z (by omega) (by omega), g5 o 2 o0 z (by omega) (by omega), g5 o 3 o0 z (by omega) (by omega), g5 o 4 o0 z (by omega) (by omega), g5 o 5 o0 z (by omega) (by omega), g5 o 6 o0 z (by omega) (by omega), g5 o 7 o0 z (by omega) (by omega)]
      exact h
    · obtain ⟨i, rfl⟩ : ∃ i, o = nops b + i := ⟨o - nops b, by omega⟩
      have i0 : 0 ≤ i := by omega
      have i1 : i < J := by omega
      obtain ⟨z1, z2, z3⟩ := e4 i i0 i1
      obtain ⟨-, ⟨v0, v1⟩, v2, v3, v4, v5, v6, v7⟩ := y3 i i0 i1
      have hw := z1.1.2.2.2.2.1
      have eo := oX_row r58 (nops b + i)
      unfold OBo
      rw [G6 i 0 i0 i1 (by omega) (by omega), G6 i 1 i0 i1 (by omega) (by omega), G6 i 2 i0 i1 (by omega) (by omega), G6 i 3 i0 i1 (by omega) (by omega), G6 i 4 i0 i1 (by omega) (by omega), G6 i 5 i0 i1 (by omega) (by omega), G6 i 6 i0 i1 (by omega) (by omega), G6 i 7 i0 i1 (by omega) (by omega), eo.1, eo.2.1, eo.2.2.1, eo.2.2.2, iv_row r59, z2.1, z2.2.1, z2.2.2.1, z2.2.2.2, z3.1, z3.2, v0, v1, v4, v5]
      exact ⟨⟨rfl, rfl⟩, v2, v3, rfl, rfl, by omega, v6, v7⟩
  have eia : ia b' (nops b') = iK N (nops b + J) := by
    rw [f2]
    exact sm_congr (fun o o0 o1 => by
      show (if pt b' o 0 = 0 then (1 : Int) else 0) = if oK N o = 0 then 1 else 0
      rw [(obM o o0 (by rw [f2]; exact o1)).1.1, (oX_row r58 o).1])
  have abM : AB M3 b' := by
    refine ⟨by rw [i60, X60 0 (by omega), if_pos rfl, f3], by omega, by rw [i60, X60 25 (by omega), if_neg (by omega), if_neg (by omega), if_neg (by omega), e5, f2], by omega, by omega, fun a a0 a1 => ?_⟩
    rw [f3] at a1
    rw [i60, g2 a a0 (by omega), g3 a a0 (by omega), f1 a (by omega)]
    by_cases z : a = b 0
    · refine ⟨?_, ?_, ?_⟩
      · rw [X60 _ (by omega), if_neg (c := 1 + a = 0) (by omega), if_neg (c := 1 + a = 9 + b 0) (by omega), if_pos (c := 1 + a = 1 + b 0) (by omega), if_pos z]
      · rw [X60 _ (by omega), if_neg (c := 9 + a = 0) (by omega), if_pos (c := 9 + a = 9 + b 0) (by omega), if_pos z]
      · rw [X60 _ (by omega), if_neg (c := 17 + a = 0) (by omega), if_neg (c := 17 + a = 9 + b 0) (by omega), if_neg (c := 17 + a = 1 + b 0) (by omega), z, e6 _ (by omega) (by omega)]
        exact h17
    · obtain ⟨u1, u2, u3⟩ := b6 a a0 (by omega)
      refine ⟨?_, ?_, ?_⟩
      · rw [X60 _ (by omega), if_neg (c := 1 + a = 0) (by omega), if_neg (c := 1 + a = 9 + b 0) (by omega), if_neg (c := 1 + a = 1 + b 0) (by omega), if_neg z, e6 _ (by omega) (by omega)]
        exact u1
      · rw [X60 _ (by omega), if_neg (c := 9 + a = 0) (by omega), if_neg (c := 9 + a = 9 + b 0) (by omega), if_neg (c := 9 + a = 1 + b 0) (by omega), if_neg z, e6 _ (by omega) (by omega)]
        exact u2
      · rw [X60 _ (by omega), if_neg (c := 17 + a = 0) (by omega), if_neg (c := 17 + a = 9 + b 0) (by omega), if_neg (c := 17 + a = 1 + b 0) (by omega), e6 _ (by omega) (by omega)]
        exact u3
  have pnM : PN b' := fun o o0 o1 => by
    rw [f2] at o1
    by_cases z : o < nops b
    · rw [g5 o 0 o0 z (by omega) (by omega), g5 o 1 o0 z (by omega) (by omega), g5 o 2 o0 z (by omega) (by omega)]
      exact pn o o0 z
    · obtain ⟨i, rfl⟩ : ∃ i, o = nops b + i := ⟨o - nops b, by omega⟩
      have i0 : 0 ≤ i := by omega
      have i1 : i < J := by omega
      obtain ⟨z1, -⟩ := e4 i i0 i1
      obtain ⟨-, ⟨v0, v1⟩, v2, -⟩ := y3 i i0 i1
      rw [G6 i 0 i0 i1 (by omega) (by omega), G6 i 1 i0 i1 (by omega) (by omega), G6 i 2 i0 i1 (by omega) (by omega), v0, v1]
      refine ⟨z1.1.2.1, fun k3 => ?_⟩
      rw [v2 (by omega)]
      exact (z1.2.2.1 k3).1
  refine vc_w_enacts_114 x6 (b 0) N _ ⟨d, N, cd, ⟨by omega, by omega⟩, fun Ma ea => ⟨⟨by omega, by omega⟩, fun Mb eb => ⟨⟨by decide, by decide⟩, fun Mc ec => ⟨⟨by omega, by omega⟩, ?_⟩⟩⟩⟩
  have eMc : Mc = X := by rw [ec, eb, ea, eX]
  rw [eMc, X60 (1 + b 0) (by omega), if_neg (by omega), if_neg (by omega), if_pos rfl]
  refine ⟨_, M1, c1, ⟨by omega, by omega⟩, ⟨by omega, by omega⟩, fun _ => ⟨_, M2, k1, by decide, fun _ => ⟨_, M3, k2, ⟨by omega, by omega⟩, fun _ => ⟨rfl, b', ⟨?_, ARQ_rows c3 (q3 12 (by omega)), TXL_rows c2 (q3 2 (by omega)) (q3 3 (by omega)), obM, abM, pnM, by omega⟩, f3⟩, fun z => absurd ?_ z⟩, fun z => absurd rfl z⟩, fun z => absurd rfl z⟩
  · rw [iv_row (q3 11 (by omega))]; exact c4
  · rw [abM.2.2.1]
theorem sp_w_enacts {M : am_M} {f : Int} (si : SI M b) (h5 : b 0 < 5) (f0 : 0 ≤ f) (f1 : f ≤ 1000) : ∃ M', am_call t_LAW_enacts [.ref 0, .ref 58, .ref 59, .ref 60, .ref 5000, .int (zi f)] M (some (.int (zi 1))) M' ∧ ∃ b', SI M' b' ∧ b' 0 = b 0 + 1 := by
  obtain ⟨hs, hq, ht, ob, ab, pn, h3⟩ := si
  have w := hs.1
  have w0 := w.n0
  have nn : 0 ≤ nops b := w.fo_nn (n := b 0) (Int.le_refl _)
  have abs := ab
  obtain ⟨b1, b2, b3, b4, b5, b6⟩ := ab
  have key : am_x t_LAW_enacts (0, am_ent (am_mL t_LAW_enacts) [.ref 0, .ref 58, .ref 59, .ref 60, .ref 5000, .int (zi f)], [], M) (fun rv m => rv = some (.int (zi 1)) ∧ ∃ b', SI m b' ∧ b' 0 = b 0 + 1) := by
    obtain ⟨x6, cx⟩ := sp_w_cell M f0 ⟨by omega, by omega⟩
    obtain ⟨r, cr, r0, r1⟩ := sp_w_low M x6 (n := 3) (by omega) (by decide)
    refine vc_w_enacts f M _ ⟨x6, M, cx, r, M, cr, ?_⟩
    rw [b1, b3]
    refine ⟨⟨by omega, by omega⟩, fun M0 e0 => ?_⟩
    have i60 : ∀ i, 0 ≤ i → iv M0 60 i = if i = 17 + b 0 then nops b else iv M 60 i := fun i i0 => by rw [e0, ivs _ _ (by omega) i0 ⟨by omega, by omega⟩]
    have rw0 : ∀ a, ¬ a = 60 → M0 a = M a := fun a ha => by rw [e0, zupr _ ha]
    have hs0 : BKr (iv M0 11) b := by rw [iv_row (rw0 11 (by decide))]; exact hs
    have hq0 : ARQ M0 := ARQ_rows hq (rw0 12 (by decide))
    have ob0 : OB M0 b := OB_rows ob (rw0 58 (by decide)) (rw0 59 (by decide))
    have ab0 : AB M0 b := by
      refine ⟨by rw [i60 0 (by omega), if_neg (by omega), b1], b2, by rw [i60 25 (by omega), if_neg (by omega), b3], b4, b5, fun a a0 a1 => ?_⟩
      rw [i60 _ (by omega), i60 _ (by omega), i60 _ (by omega), if_neg (by omega), if_neg (by omega), if_neg (by omega)]
      exact b6 a a0 a1
    have h17 : iv M0 60 (17 + b 0) = nops b := by rw [i60 _ (by omega), if_pos rfl]
    have eiK : iK M0 (nops b) = ia b (nops b) := sm_congr (fun o o0 o1 => by
      show (if oK M0 o = 0 then (1 : Int) else 0) = if pt b o 0 = 0 then 1 else 0
      rw [(ob0 o o0 o1).1.1])
    refine loop_up (fun j (N : am_M) => (38, [.ref 0, .ref 58, .ref 59, .ref 60, .ref 5000, .int (zi f), .int (zi x6), .int (zi (1 + r)), .int (zi (b 0)), .int (zi j)], [], N)) (1 + r) (fun j N => EI M0 b j N) ?_ ?_ 0 M0 (by omega) (by omega) ⟨[], fun _ _ => 0, TXL_rows ht (rw0 2 (by decide)) (rw0 3 (by decide)), ⟨fun _ => rfl, by show (0 : Int) ≤ _; omega⟩, fun z => by omega, fun i i0 i1 => by omega, by rw [i60 25 (by omega), if_neg (by omega), b3, Int.add_zero], fun _ _ _ => rfl, by rw [Int.add_zero, eiK]; exact b5, fun _ _ _ => ⟨rfl, rfl⟩, fun _ _ _ _ _ _ => rfl⟩
    · intro N hN
      exact vc_w_enacts_38 f x6 (1 + r) (b 0) (1 + r) N _ ⟨⟨by omega, by omega⟩, ⟨by omega, by omega⟩, fun z => by omega, fun _ => en_114 hs0 hq0 ob0 ab0 pn h3 h5 h17 (by omega) (by omega) hN⟩
    · intro j N j0 j1 hN kk
      obtain ⟨l, D, e1, e2, e3, e4, e5, e6, e7, e8, e9⟩ := hN
      have a0 : iv N 60 0 = b 0 := by rw [e6 0 (by omega) (by omega), ab0.1]
      have cells : ∀ (X : am_M) (u : Int), 0 ≤ u → u ≤ 2000 → ∃ y : Int, am_call t_LAW_cell [.ref 5000, .int (zi u)] X (some (.int (zi y))) X := fun X u u0 u1 => sp_w_cell X u0 ⟨by omega, by omega⟩
      refine vc_w_enacts_38 f x6 (1 + r) (b 0) j N _ ⟨⟨by omega, by omega⟩, ⟨by omega, by omega⟩, fun _ => ⟨fun _ => ⟨fun z => ?_, fun z => ?_⟩, fun z => by omega⟩, fun z => by omega⟩
      · have hl := e2.2
        obtain ⟨N3, c3, t3⟩ := sp_k_type (x := 59) e1 (by omega) (by omega) (by omega)
        obtain ⟨y1, cy1⟩ := cells N3 (f + 1 + 2 * j) (by omega) (by omega)
        obtain ⟨y2, cy2⟩ := cells N3 (f + 2 + 2 * j) (by omega) (by omega)
        have n60 : iv N3 60 = iv N 60 := iv_row (t3.2 60 (by decide) (by decide))
        obtain ⟨M', c4, p4⟩ := sp_w_typesOperation (k := nops b + j) y1 y2 t3.1 (by simp only [List.length_append, List.length_cons, List.length_nil]; omega) (by rw [n60]; exact e5) (by omega) (by omega) (by rw [n60, a0]; omega)
        refine ⟨_, N3, c3, ⟨by omega, by omega⟩, fun q => by omega, fun _ => ⟨y1, N3, cy1, y2, N3, cy2, _, M', c4, by decide, fun q => by omega, fun _ => kk M' ?_⟩⟩
        exact EI_step nn j0 (by omega) l D e1 e2 e3 e4 e5 e6 e7 e8 e9 (by rw [if_neg (by omega)]; exact t3) (by rw [if_neg (by omega)]; exact p4)
      · have jz : j = 0 := by omega
        have lz := e2.1 jz
        obtain ⟨y1, cy1⟩ := cells N (f + 1 + 2 * j) (by omega) (by omega)
        obtain ⟨y2, cy2⟩ := cells N (f + 2 + 2 * j) (by omega) (by omega)
        obtain ⟨M', c4, p4⟩ := sp_w_typesOperation (k := nops b + j) y1 y2 e1 (by rw [lz]; exact Nat.le_of_ble_eq_true rfl) e5 (by omega) (by omega) (by rw [a0]; omega)
        refine ⟨y1, N, cy1, y2, N, cy2, _, M', c4, by decide, fun q => by omega, fun _ => kk M' ?_⟩
        exact EI_step nn j0 (by omega) l D e1 e2 e3 e4 e5 e6 e7 e8 e9 (by rw [if_pos jz]; exact ⟨e1, fun _ _ _ => rfl⟩) (by rw [if_pos jz]; exact p4)
  obtain ⟨rv, M', h1, h2, h3'⟩ := am_call_ex ⟨Nat.le_of_ble_eq_true rfl, rfl⟩ key
  subst h2
  exact ⟨M', h1, h3'⟩
end EN
