/-! what the law types -/
set_option maxRecDepth 100000 in
theorem vc_w_types (x : Int) (M : am_M) (Q : Option Value → am_M → Prop) (hv : am_x t_LAW_types (6, [.ref 0, .long (zl x), .null, .int (zi 1), .int (zi 56), .null], [], M) Q) : am_x t_LAW_types (0, am_ent (am_mL t_LAW_types) [.ref 0, .long (zl x)], [], M) Q := by
  refine am_xn 0 (c1 := (0, [.ref 0, .long (zl x), .null, .null, .null, .null], [], M)) rfl ?_
  refine am_xn 4 (c1 := (6, [.ref 0, .long (zl x), .null, .int (zi 1), .int (zi 56), .null], [], M)) rfl ?_
  exact hv
set_option maxRecDepth 100000 in
theorem vc_w_types_6 (x1 : Int) (x3 : Int) (x4 : Int) (M : am_M) (Q : Option Value → am_M → Prop) (hv : (zr x4) ∧ ((x4 < 0 → (x3 = 0 ∨ x3 = 1) ∧ Q (some (.int (zi x3))) M) ∧ (0 ≤ x4 → (zr x3) ∧ ((x3 = 0 → am_x t_LAW_types (6, [.ref 0, .long (zl x1), .null, .int (zi 0), .int (zi (x4 + (-8))), .null], [], M) Q) ∧ (¬ x3 = 0 → ((zl2i (zland (zlshr x1 x4) 127)) = 0 → am_x t_LAW_types (6, [.ref 0, .long (zl x1), .null, .int (zi 1), .int (zi (x4 + (-8))), .null], [], M) Q) ∧ (¬ (zl2i (zland (zlshr x1 x4) 127)) = 0 → ∃ (r4 : Int) (M3 : am_M), am_call t_SB_type [.ref 0, .int (zi (zl2i (zland (zlshr x1 x4) 127)))] M (some (.int (zi r4))) M3 ∧ ((zr r4) ∧ ((0 < r4 → am_x t_LAW_types (6, [.ref 0, .long (zl x1), .null, .int (zi 1), .int (zi (x4 + (-8))), .null], [], M3) Q) ∧ (r4 ≤ 0 → am_x t_LAW_types (6, [.ref 0, .long (zl x1), .null, .int (zi 0), .int (zi (x4 + (-8))), .null], [], M3) Q))))))))) : am_x t_LAW_types (6, [.ref 0, .long (zl x1), .null, .int (zi x3), .int (zi x4), .null], [], M) Q := by
  obtain ⟨r1, hv⟩ := hv
  refine am_xn 2 (c1 := (if zi x4 < zi 0 then 52 else 11, [.ref 0, .long (zl x1), .null, .int (zi x3), .int (zi x4), .null], [], M)) rfl (am_xlt r1 (by decide) (fun h => ?_) (fun h => ?_))
  · replace hv := hv.1 h
    refine am_xn 1 (c1 := (53, [.ref 0, .long (zl x1), .null, .int (zi x3), .int (zi x4), .null], [.int (zi x3)], M)) rfl ?_
    exact am_xr (some (.int (zi x3))) ⟨rfl, rfl, .boolean, rfl, zi_nb hv.1⟩ hv.2
  · replace hv := hv.2 h
    refine am_xlbit 3 (zl x1 >>> ((zi x4).toInt64 &&& 63)) (pc := 15) (ls := [.ref 0, .long (zl x1), .null, .int (zi x3), .int (zi x4), .null]) (st := []) rfl ?_
    refine am_xn 0 (c1 := (15, [.ref 0, .long (zl x1), .null, .int (zi x3), .int (zi x4), .null], [.long (zl (zlshr x1 x4))], M)) rfl ?_
    refine am_xlbit 2 (zl (zlshr x1 x4) &&& zl 127) (pc := 19) (ls := [.ref 0, .long (zl x1), .null, .int (zi x3), .int (zi x4), .null]) (st := []) rfl ?_
    refine am_xn 0 (c1 := (19, [.ref 0, .long (zl x1), .null, .int (zi x3), .int (zi x4), .null], [.long (zl (zland (zlshr x1 x4) 127))], M)) rfl ?_
    refine am_xbit 1 ((zl (zland (zlshr x1 x4) 127)).toInt32) (pc := 20) (ls := [.ref 0, .long (zl x1), .null, .int (zi x3), .int (zi x4), .null]) (st := []) rfl ?_
    refine am_xn 0 (c1 := (20, [.ref 0, .long (zl x1), .null, .int (zi x3), .int (zi x4), .null], [.int (zi (zl2i (zland (zlshr x1 x4) 127)))], M)) rfl ?_
    obtain ⟨r2, hv⟩ := hv
    refine am_xn 3 (c1 := (if zi x3 = zi 0 then 44 else 26, [.ref 0, .long (zl x1), .null, .int (zi x3), .int (zi x4), .int (zi (zl2i (zland (zlshr x1 x4) 127)))], [], M)) rfl (am_xeq r2 (by decide) (fun h => ?_) (fun h => ?_))
    · replace hv := hv.1 h
      refine am_xn 3 (c1 := (49, [.ref 0, .long (zl x1), .null, .int (zi 0), .int (zi x4 + zi (-8)), .int (zi (zl2i (zland (zlshr x1 x4) 127)))], [], M)) rfl ?_
      rw [zi_add]
      refine am_xn 1 (c1 := (6, [.ref 0, .long (zl x1), .null, .int (zi 0), .int (zi (x4 + (-8))), .int (zi (zl2i (zland (zlshr x1 x4) 127)))], [], M)) rfl ?_
      refine am_xf 5 ?_
      exact hv
    · replace hv := hv.2 h
      refine am_xn 2 (c1 := (if zi (zl2i (zland (zlshr x1 x4) 127)) = zi 0 then 40 else 31, [.ref 0, .long (zl x1), .null, .int (zi x3), .int (zi x4), .int (zi (zl2i (zland (zlshr x1 x4) 127)))], [], M)) rfl (am_xeq (zr_toInt _) (by decide) (fun h => ?_) (fun h => ?_))
      · replace hv := hv.1 h
        refine am_xn 4 (c1 := (49, [.ref 0, .long (zl x1), .null, .int (zi 1), .int (zi x4 + zi (-8)), .int (zi (zl2i (zland (zlshr x1 x4) 127)))], [], M)) rfl ?_
        rw [zi_add]
        refine am_xn 1 (c1 := (6, [.ref 0, .long (zl x1), .null, .int (zi 1), .int (zi (x4 + (-8))), .int (zi (zl2i (zland (zlshr x1 x4) 127)))], [], M)) rfl ?_
        refine am_xf 5 ?_
        exact hv
      · replace hv := hv.2 h
        refine am_xn 2 (c1 := (34, [.ref 0, .long (zl x1), .null, .int (zi x3), .int (zi x4), .int (zi (zl2i (zland (zlshr x1 x4) 127)))], [.int (zi (zl2i (zland (zlshr x1 x4) 127))), .ref 0], M)) rfl ?_
        obtain ⟨r4, M3, hc, hv⟩ := hv
        refine am_xc t_SB_type (.invokevirtual 11) 11 (av := [.ref 0, .int (zi (zl2i (zland (zlshr x1 x4) 127)))]) (rest := []) (rv := some (.int (zi r4))) (M' := M3) rfl rfl rfl rfl (Nat.le_of_ble_eq_true rfl) (fun _ => rfl) (hc) ?_
        refine am_xn 0 (c1 := (37, [.ref 0, .long (zl x1), .null, .int (zi x3), .int (zi x4), .int (zi (zl2i (zland (zlshr x1 x4) 127)))], [.int (zi r4)], M3)) rfl ?_
        obtain ⟨r5, hv⟩ := hv
        refine am_xn 1 (c1 := (if zi 0 < zi r4 then 40 else 44, [.ref 0, .long (zl x1), .null, .int (zi x3), .int (zi x4), .int (zi (zl2i (zland (zlshr x1 x4) 127)))], [], M3)) rfl (am_xlt (by decide) r5 (fun h => ?_) (fun h => ?_))
        · replace hv := hv.1 h
          refine am_xn 4 (c1 := (49, [.ref 0, .long (zl x1), .null, .int (zi 1), .int (zi x4 + zi (-8)), .int (zi (zl2i (zland (zlshr x1 x4) 127)))], [], M3)) rfl ?_
          rw [zi_add]
          refine am_xn 1 (c1 := (6, [.ref 0, .long (zl x1), .null, .int (zi 1), .int (zi (x4 + (-8))), .int (zi (zl2i (zland (zlshr x1 x4) 127)))], [], M3)) rfl ?_
          refine am_xf 5 ?_
          exact hv
        · replace hv := hv.2 h
          refine am_xn 3 (c1 := (49, [.ref 0, .long (zl x1), .null, .int (zi 0), .int (zi x4 + zi (-8)), .int (zi (zl2i (zland (zlshr x1 x4) 127)))], [], M3)) rfl ?_
          rw [zi_add]
          refine am_xn 1 (c1 := (6, [.ref 0, .long (zl x1), .null, .int (zi 0), .int (zi (x4 + (-8))), .int (zi (zl2i (zland (zlshr x1 x4) 127)))], [], M3)) rfl ?_
          refine am_xf 5 ?_
          exact hv
set_option maxRecDepth 100000 in
theorem vc_w_typesInteger (v : Int) (M : am_M) (Q : Option Value → am_M → Prop) (hv : (zr v) ∧ ((v < 100 → (v < 10 → (0 ≤ v) ∧ (∃ (r4 : Int) (M3 : am_M), am_call t_SB_type [.ref 0, .int (zi (48 + (v % 10)))] M (some (.int (zi r4))) M3 ∧ ((zr r4) ∧ ((0 < r4 → Q (some (.int (zi 1))) M3) ∧ (r4 ≤ 0 → Q (some (.int (zi 0))) M3))))) ∧ (10 ≤ v → (0 ≤ v) ∧ ((0 ≤ (v / 10)) ∧ (∃ (r9 : Int) (M8 : am_M), am_call t_SB_type [.ref 0, .int (zi (48 + ((v / 10) % 10)))] M (some (.int (zi r9))) M8 ∧ ((zr r9) ∧ ((0 < r9 → (0 ≤ v) ∧ (∃ (r13 : Int) (M12 : am_M), am_call t_SB_type [.ref 0, .int (zi (48 + (v % 10)))] M8 (some (.int (zi r13))) M12 ∧ ((zr r13) ∧ ((0 < r13 → Q (some (.int (zi 1))) M12) ∧ (r13 ≤ 0 → Q (some (.int (zi 0))) M12))))) ∧ (r9 ≤ 0 → Q (some (.int (zi 0))) M8))))))) ∧ (100 ≤ v → (0 ≤ v) ∧ (∃ (r17 : Int) (M16 : am_M), am_call t_SB_type [.ref 0, .int (zi (48 + (v / 100)))] M (some (.int (zi r17))) M16 ∧ ((zr r17) ∧ ((0 < r17 → (0 ≤ v) ∧ ((0 ≤ (v / 10)) ∧ (∃ (r22 : Int) (M21 : am_M), am_call t_SB_type [.ref 0, .int (zi (48 + ((v / 10) % 10)))] M16 (some (.int (zi r22))) M21 ∧ ((zr r22) ∧ ((0 < r22 → (0 ≤ v) ∧ (∃ (r26 : Int) (M25 : am_M), am_call t_SB_type [.ref 0, .int (zi (48 + (v % 10)))] M21 (some (.int (zi r26))) M25 ∧ ((zr r26) ∧ ((0 < r26 → Q (some (.int (zi 1))) M25) ∧ (r26 ≤ 0 → Q (some (.int (zi 0))) M25))))) ∧ (r22 ≤ 0 → Q (some (.int (zi 0))) M21)))))) ∧ (r17 ≤ 0 → Q (some (.int (zi 0))) M16))))))) : am_x t_LAW_typesInteger (0, am_ent (am_mL t_LAW_typesInteger) [.ref 0, .int (zi v)], [], M) Q := by
  refine am_xn 0 (c1 := (0, [.ref 0, .int (zi v)], [], M)) rfl ?_
  obtain ⟨r1, hv⟩ := hv
  refine am_xn 3 (c1 := (if zi v < zi 100 then 20 else 6, [.ref 0, .int (zi v)], [], M)) rfl (am_xlt r1 (by decide) (fun h => ?_) (fun h => ?_))
  · replace hv := hv.1 h
    refine am_xn 3 (c1 := (if zi v < zi 10 then 43 else 26, [.ref 0, .int (zi v)], [], M)) rfl (am_xlt r1 (by decide) (fun h => ?_) (fun h => ?_))
    · replace hv := hv.1 h
      obtain ⟨r2, hv⟩ := hv
      refine am_xn 4 (c1 := (49, [.ref 0, .int (zi v)], [.int (zi 10), .int (zi v), .int (zi 48), .ref 0], M)) rfl ?_
      refine am_xrem rfl r2 (by decide) r1 (by decide) ?_
      refine am_xn 0 (c1 := (50, [.ref 0, .int (zi v)], [.int (zi (v % 10)), .int (zi 48), .ref 0], M)) rfl ?_
      refine am_xiadd 1 48 (v % 10) (pc := 51) (ls := [.ref 0, .int (zi v)]) (st := [.ref 0]) rfl ?_
      obtain ⟨r4, M3, hc, hv⟩ := hv
      refine am_xc t_SB_type (.invokevirtual 11) 11 (av := [.ref 0, .int (zi (48 + (v % 10)))]) (rest := []) (rv := some (.int (zi r4))) (M' := M3) rfl rfl rfl rfl (Nat.le_of_ble_eq_true rfl) (fun _ => rfl) (hc) ?_
      refine am_xn 0 (c1 := (54, [.ref 0, .int (zi v)], [.int (zi r4)], M3)) rfl ?_
      obtain ⟨r5, hv⟩ := hv
      refine am_xn 1 (c1 := (if zi 0 < zi r4 then 57 else 61, [.ref 0, .int (zi v)], [], M3)) rfl (am_xlt (by decide) r5 (fun h => ?_) (fun h => ?_))
      · replace hv := hv.1 h
        refine am_xn 2 (c1 := (62, [.ref 0, .int (zi v)], [.int (zi 1)], M3)) rfl ?_
        exact am_xr (some (.int (zi 1))) ⟨rfl, rfl, .boolean, rfl, rfl⟩ hv
      · replace hv := hv.2 h
        refine am_xn 1 (c1 := (62, [.ref 0, .int (zi v)], [.int (zi 0)], M3)) rfl ?_
        exact am_xr (some (.int (zi 0))) ⟨rfl, rfl, .boolean, rfl, rfl⟩ hv
    · replace hv := hv.2 h
      obtain ⟨r6, hv⟩ := hv
      refine am_xn 4 (c1 := (32, [.ref 0, .int (zi v)], [.int (zi 10), .int (zi v), .int (zi 48), .ref 0], M)) rfl ?_
      refine am_xdiv rfl r6 (by decide) r1 (by decide) ?_
      refine am_xn 0 (c1 := (33, [.ref 0, .int (zi v)], [.int (zi (v / 10)), .int (zi 48), .ref 0], M)) rfl ?_
      obtain ⟨r7, hv⟩ := hv
      refine am_xn 1 (c1 := (35, [.ref 0, .int (zi v)], [.int (zi 10), .int (zi (v / 10)), .int (zi 48), .ref 0], M)) rfl ?_
      refine am_xrem rfl r7 (by decide) (zr_div r6 (by decide) r1 (by decide)) (by decide) ?_
      refine am_xn 0 (c1 := (36, [.ref 0, .int (zi v)], [.int (zi ((v / 10) % 10)), .int (zi 48), .ref 0], M)) rfl ?_
      refine am_xiadd 1 48 ((v / 10) % 10) (pc := 37) (ls := [.ref 0, .int (zi v)]) (st := [.ref 0]) rfl ?_
      obtain ⟨r9, M8, hc, hv⟩ := hv
      refine am_xc t_SB_type (.invokevirtual 11) 11 (av := [.ref 0, .int (zi (48 + ((v / 10) % 10)))]) (rest := []) (rv := some (.int (zi r9))) (M' := M8) rfl rfl rfl rfl (Nat.le_of_ble_eq_true rfl) (fun _ => rfl) (hc) ?_
      refine am_xn 0 (c1 := (40, [.ref 0, .int (zi v)], [.int (zi r9)], M8)) rfl ?_
      obtain ⟨r10, hv⟩ := hv
      refine am_xn 1 (c1 := (if zi 0 < zi r9 then 43 else 61, [.ref 0, .int (zi v)], [], M8)) rfl (am_xlt (by decide) r10 (fun h => ?_) (fun h => ?_))
      · replace hv := hv.1 h
        obtain ⟨r11, hv⟩ := hv
        refine am_xn 4 (c1 := (49, [.ref 0, .int (zi v)], [.int (zi 10), .int (zi v), .int (zi 48), .ref 0], M8)) rfl ?_
        refine am_xrem rfl r11 (by decide) r1 (by decide) ?_
        refine am_xn 0 (c1 := (50, [.ref 0, .int (zi v)], [.int (zi (v % 10)), .int (zi 48), .ref 0], M8)) rfl ?_
        refine am_xiadd 1 48 (v % 10) (pc := 51) (ls := [.ref 0, .int (zi v)]) (st := [.ref 0]) rfl ?_
        obtain ⟨r13, M12, hc, hv⟩ := hv
        refine am_xc t_SB_type (.invokevirtual 11) 11 (av := [.ref 0, .int (zi (48 + (v % 10)))]) (rest := []) (rv := some (.int (zi r13))) (M' := M12) rfl rfl rfl rfl (Nat.le_of_ble_eq_true rfl) (fun _ => rfl) (hc) ?_
        refine am_xn 0 (c1 := (54, [.ref 0, .int (zi v)], [.int (zi r13)], M12)) rfl ?_
        obtain ⟨r14, hv⟩ := hv
        refine am_xn 1 (c1 := (if zi 0 < zi r13 then 57 else 61, [.ref 0, .int (zi v)], [], M12)) rfl (am_xlt (by decide) r14 (fun h => ?_) (fun h => ?_))
        · replace hv := hv.1 h
          refine am_xn 2 (c1 := (62, [.ref 0, .int (zi v)], [.int (zi 1)], M12)) rfl ?_
          exact am_xr (some (.int (zi 1))) ⟨rfl, rfl, .boolean, rfl, rfl⟩ hv
        · replace hv := hv.2 h
          refine am_xn 1 (c1 := (62, [.ref 0, .int (zi v)], [.int (zi 0)], M12)) rfl ?_
          exact am_xr (some (.int (zi 0))) ⟨rfl, rfl, .boolean, rfl, rfl⟩ hv
      · replace hv := hv.2 h
        refine am_xn 1 (c1 := (62, [.ref 0, .int (zi v)], [.int (zi 0)], M8)) rfl ?_
        exact am_xr (some (.int (zi 0))) ⟨rfl, rfl, .boolean, rfl, rfl⟩ hv
  · replace hv := hv.2 h
    obtain ⟨r15, hv⟩ := hv
    refine am_xn 4 (c1 := (12, [.ref 0, .int (zi v)], [.int (zi 100), .int (zi v), .int (zi 48), .ref 0], M)) rfl ?_
    refine am_xdiv rfl r15 (by decide) r1 (by decide) ?_
    refine am_xn 0 (c1 := (13, [.ref 0, .int (zi v)], [.int (zi (v / 100)), .int (zi 48), .ref 0], M)) rfl ?_
    refine am_xiadd 1 48 (v / 100) (pc := 14) (ls := [.ref 0, .int (zi v)]) (st := [.ref 0]) rfl ?_
    obtain ⟨r17, M16, hc, hv⟩ := hv
    refine am_xc t_SB_type (.invokevirtual 11) 11 (av := [.ref 0, .int (zi (48 + (v / 100)))]) (rest := []) (rv := some (.int (zi r17))) (M' := M16) rfl rfl rfl rfl (Nat.le_of_ble_eq_true rfl) (fun _ => rfl) (hc) ?_
    refine am_xn 0 (c1 := (17, [.ref 0, .int (zi v)], [.int (zi r17)], M16)) rfl ?_
    obtain ⟨r18, hv⟩ := hv
    refine am_xn 1 (c1 := (if zi 0 < zi r17 then 20 else 61, [.ref 0, .int (zi v)], [], M16)) rfl (am_xlt (by decide) r18 (fun h => ?_) (fun h => ?_))
    · replace hv := hv.1 h
      refine am_xn 3 (c1 := (if zi v < zi 10 then 43 else 26, [.ref 0, .int (zi v)], [], M16)) rfl (am_xlt r1 (by decide) (fun h => by clear hv; exfalso; omega) (fun h => ?_))
      obtain ⟨r19, hv⟩ := hv
      refine am_xn 4 (c1 := (32, [.ref 0, .int (zi v)], [.int (zi 10), .int (zi v), .int (zi 48), .ref 0], M16)) rfl ?_
      refine am_xdiv rfl r19 (by decide) r1 (by decide) ?_
      refine am_xn 0 (c1 := (33, [.ref 0, .int (zi v)], [.int (zi (v / 10)), .int (zi 48), .ref 0], M16)) rfl ?_
      obtain ⟨r20, hv⟩ := hv
      refine am_xn 1 (c1 := (35, [.ref 0, .int (zi v)], [.int (zi 10), .int (zi (v / 10)), .int (zi 48), .ref 0], M16)) rfl ?_
      refine am_xrem rfl r20 (by decide) (zr_div r19 (by decide) r1 (by decide)) (by decide) ?_
      refine am_xn 0 (c1 := (36, [.ref 0, .int (zi v)], [.int (zi ((v / 10) % 10)), .int (zi 48), .ref 0], M16)) rfl ?_
      refine am_xiadd 1 48 ((v / 10) % 10) (pc := 37) (ls := [.ref 0, .int (zi v)]) (st := [.ref 0]) rfl ?_
      obtain ⟨r22, M21, hc, hv⟩ := hv
      refine am_xc t_SB_type (.invokevirtual 11) 11 (av := [.ref 0, .int (zi (48 + ((v / 10) % 10)))]) (rest := []) (rv := some (.int (zi r22))) (M' := M21) rfl rfl rfl rfl (Nat.le_of_ble_eq_true rfl) (fun _ => rfl) (hc) ?_
      refine am_xn 0 (c1 := (40, [.ref 0, .int (zi v)], [.int (zi r22)], M21)) rfl ?_
      obtain ⟨r23, hv⟩ := hv
      refine am_xn 1 (c1 := (if zi 0 < zi r22 then 43 else 61, [.ref 0, .int (zi v)], [], M21)) rfl (am_xlt (by decide) r23 (fun h => ?_) (fun h => ?_))
      · replace hv := hv.1 h
        obtain ⟨r24, hv⟩ := hv
        refine am_xn 4 (c1 := (49, [.ref 0, .int (zi v)], [.int (zi 10), .int (zi v), .int (zi 48), .ref 0], M21)) rfl ?_
        refine am_xrem rfl r24 (by decide) r1 (by decide) ?_
        refine am_xn 0 (c1 := (50, [.ref 0, .int (zi v)], [.int (zi (v % 10)), .int (zi 48), .ref 0], M21)) rfl ?_
        refine am_xiadd 1 48 (v % 10) (pc := 51) (ls := [.ref 0, .int (zi v)]) (st := [.ref 0]) rfl ?_
        obtain ⟨r26, M25, hc, hv⟩ := hv
        refine am_xc t_SB_type (.invokevirtual 11) 11 (av := [.ref 0, .int (zi (48 + (v % 10)))]) (rest := []) (rv := some (.int (zi r26))) (M' := M25) rfl rfl rfl rfl (Nat.le_of_ble_eq_true rfl) (fun _ => rfl) (hc) ?_
        refine am_xn 0 (c1 := (54, [.ref 0, .int (zi v)], [.int (zi r26)], M25)) rfl ?_
        obtain ⟨r27, hv⟩ := hv
        refine am_xn 1 (c1 := (if zi 0 < zi r26 then 57 else 61, [.ref 0, .int (zi v)], [], M25)) rfl (am_xlt (by decide) r27 (fun h => ?_) (fun h => ?_))
        · replace hv := hv.1 h
          refine am_xn 2 (c1 := (62, [.ref 0, .int (zi v)], [.int (zi 1)], M25)) rfl ?_
          exact am_xr (some (.int (zi 1))) ⟨rfl, rfl, .boolean, rfl, rfl⟩ hv
        · replace hv := hv.2 h
          refine am_xn 1 (c1 := (62, [.ref 0, .int (zi v)], [.int (zi 0)], M25)) rfl ?_
          exact am_xr (some (.int (zi 0))) ⟨rfl, rfl, .boolean, rfl, rfl⟩ hv
      · replace hv := hv.2 h
        refine am_xn 1 (c1 := (62, [.ref 0, .int (zi v)], [.int (zi 0)], M21)) rfl ?_
        exact am_xr (some (.int (zi 0))) ⟨rfl, rfl, .boolean, rfl, rfl⟩ hv
    · replace hv := hv.2 h
      refine am_xn 1 (c1 := (62, [.ref 0, .int (zi v)], [.int (zi 0)], M16)) rfl ?_
      exact am_xr (some (.int (zi 0))) ⟨rfl, rfl, .boolean, rfl, rfl⟩ hv
set_option maxRecDepth 100000 in
theorem vc_w_typesNumber (c : Int) (M : am_M) (Q : Option Value → am_M → Prop) (hv : (zr c) ∧ ((0 ≤ c) ∧ ((0 ≤ (c % 729)) ∧ ((0 ≤ c) ∧ ((0 ≤ c) ∧ (∃ (r7 : Int) (M6 : am_M), am_call t_LAW_typesInteger [.ref 0, .int (zi (c / 729))] M (some (.int (zi r7))) M6 ∧ ((zr r7) ∧ ((r7 = 0 → Q (some (.int (zi 0))) M6) ∧ (¬ r7 = 0 → (((c % 729) / 27) = 0 → ((c % 27) = 0 → Q (some (.int (zi 1))) M6) ∧ (¬ (c % 27) = 0 → ∃ (r10 : Int) (M9 : am_M), am_call t_SB_type [.ref 0, .int (zi ((65 + (c % 27)) - 1))] M6 (some (.int (zi r10))) M9 ∧ ((zr r10) ∧ ((0 < r10 → Q (some (.int (zi 1))) M9) ∧ (r10 ≤ 0 → Q (some (.int (zi 0))) M9))))) ∧ (¬ ((c % 729) / 27) = 0 → ∃ (r13 : Int) (M12 : am_M), am_call t_SB_type [.ref 0, .int (zi ((65 + ((c % 729) / 27)) - 1))] M6 (some (.int (zi r13))) M12 ∧ ((zr r13) ∧ ((0 < r13 → ((c % 27) = 0 → Q (some (.int (zi 1))) M12) ∧ (¬ (c % 27) = 0 → ∃ (r16 : Int) (M15 : am_M), am_call t_SB_type [.ref 0, .int (zi ((65 + (c % 27)) - 1))] M12 (some (.int (zi r16))) M15 ∧ ((zr r16) ∧ ((0 < r16 → Q (some (.int (zi 1))) M15) ∧ (r16 ≤ 0 → Q (some (.int (zi 0))) M15))))) ∧ (r13 ≤ 0 → Q (some (.int (zi 0))) M12))))))))))))) : am_x t_LAW_typesNumber (0, am_ent (am_mL t_LAW_typesNumber) [.ref 0, .int (zi c)], [], M) Q := by
  refine am_xn 0 (c1 := (0, [.ref 0, .int (zi c), .null, .null], [], M)) rfl ?_
  obtain ⟨r1, hv⟩ := hv
  obtain ⟨r2, hv⟩ := hv
  refine am_xn 2 (c1 := (4, [.ref 0, .int (zi c), .null, .null], [.int (zi 729), .int (zi c)], M)) rfl ?_
  refine am_xrem rfl r2 (by decide) r1 (by decide) ?_
  refine am_xn 0 (c1 := (5, [.ref 0, .int (zi c), .null, .null], [.int (zi (c % 729))], M)) rfl ?_
  obtain ⟨r3, hv⟩ := hv
  refine am_xn 1 (c1 := (7, [.ref 0, .int (zi c), .null, .null], [.int (zi 27), .int (zi (c % 729))], M)) rfl ?_
  refine am_xdiv rfl r3 (by decide) (zr_rem r2 (by decide) r1 (by decide)) (by decide) ?_
  refine am_xn 0 (c1 := (8, [.ref 0, .int (zi c), .null, .null], [.int (zi ((c % 729) / 27))], M)) rfl ?_
  obtain ⟨r4, hv⟩ := hv
  refine am_xn 3 (c1 := (12, [.ref 0, .int (zi c), .int (zi ((c % 729) / 27)), .null], [.int (zi 27), .int (zi c)], M)) rfl ?_
  refine am_xrem rfl r4 (by decide) r1 (by decide) ?_
  refine am_xn 0 (c1 := (13, [.ref 0, .int (zi c), .int (zi ((c % 729) / 27)), .null], [.int (zi (c % 27))], M)) rfl ?_
  obtain ⟨r5, hv⟩ := hv
  refine am_xn 4 (c1 := (19, [.ref 0, .int (zi c), .int (zi ((c % 729) / 27)), .int (zi (c % 27))], [.int (zi 729), .int (zi c), .ref 0], M)) rfl ?_
  refine am_xdiv rfl r5 (by decide) r1 (by decide) ?_
  refine am_xn 0 (c1 := (20, [.ref 0, .int (zi c), .int (zi ((c % 729) / 27)), .int (zi (c % 27))], [.int (zi (c / 729)), .ref 0], M)) rfl ?_
  obtain ⟨r7, M6, hc, hv⟩ := hv
  refine am_xc t_LAW_typesInteger (.invokestatic 17) 17 (av := [.ref 0, .int (zi (c / 729))]) (rest := []) (rv := some (.int (zi r7))) (M' := M6) rfl rfl rfl rfl (Nat.le_of_ble_eq_true rfl) (fun h => nomatch h) (hc) ?_
  refine am_xn 0 (c1 := (23, [.ref 0, .int (zi c), .int (zi ((c % 729) / 27)), .int (zi (c % 27))], [.int (zi r7)], M6)) rfl ?_
  obtain ⟨r8, hv⟩ := hv
  refine am_xn 1 (c1 := (if zi r7 = zi 0 then 64 else 26, [.ref 0, .int (zi c), .int (zi ((c % 729) / 27)), .int (zi (c % 27))], [], M6)) rfl (am_xeq r8 (by decide) (fun h => ?_) (fun h => ?_))
  · replace hv := hv.1 h
    refine am_xn 1 (c1 := (65, [.ref 0, .int (zi c), .int (zi ((c % 729) / 27)), .int (zi (c % 27))], [.int (zi 0)], M6)) rfl ?_
    exact am_xr (some (.int (zi 0))) ⟨rfl, rfl, .boolean, rfl, rfl⟩ hv
  · replace hv := hv.2 h
    refine am_xn 2 (c1 := (if zi ((c % 729) / 27) = zi 0 then 43 else 30, [.ref 0, .int (zi c), .int (zi ((c % 729) / 27)), .int (zi (c % 27))], [], M6)) rfl (am_xeq (zr_div r3 (by decide) (zr_rem r2 (by decide) r1 (by decide)) (by decide)) (by decide) (fun h => ?_) (fun h => ?_))
    · replace hv := hv.1 h
      refine am_xn 2 (c1 := (if zi (c % 27) = zi 0 then 60 else 47, [.ref 0, .int (zi c), .int (zi ((c % 729) / 27)), .int (zi (c % 27))], [], M6)) rfl (am_xeq (zr_rem r4 (by decide) r1 (by decide)) (by decide) (fun h => ?_) (fun h => ?_))
      · replace hv := hv.1 h
        refine am_xn 2 (c1 := (65, [.ref 0, .int (zi c), .int (zi ((c % 729) / 27)), .int (zi (c % 27))], [.int (zi 1)], M6)) rfl ?_
        exact am_xr (some (.int (zi 1))) ⟨rfl, rfl, .boolean, rfl, rfl⟩ hv
      · replace hv := hv.2 h
        refine am_xiadd 4 65 (c % 27) (pc := 52) (ls := [.ref 0, .int (zi c), .int (zi ((c % 729) / 27)), .int (zi (c % 27))]) (st := [.ref 0]) rfl ?_
        refine am_xisub 2 (65 + (c % 27)) 1 (pc := 54) (ls := [.ref 0, .int (zi c), .int (zi ((c % 729) / 27)), .int (zi (c % 27))]) (st := [.ref 0]) rfl ?_
        obtain ⟨r10, M9, hc, hv⟩ := hv
        refine am_xc t_SB_type (.invokevirtual 11) 11 (av := [.ref 0, .int (zi ((65 + (c % 27)) - 1))]) (rest := []) (rv := some (.int (zi r10))) (M' := M9) rfl rfl rfl rfl (Nat.le_of_ble_eq_true rfl) (fun _ => rfl) (hc) ?_
        refine am_xn 0 (c1 := (57, [.ref 0, .int (zi c), .int (zi ((c % 729) / 27)), .int (zi (c % 27))], [.int (zi r10)], M9)) rfl ?_
        obtain ⟨r11, hv⟩ := hv
        refine am_xn 1 (c1 := (if zi 0 < zi r10 then 60 else 64, [.ref 0, .int (zi c), .int (zi ((c % 729) / 27)), .int (zi (c % 27))], [], M9)) rfl (am_xlt (by decide) r11 (fun h => ?_) (fun h => ?_))
        · replace hv := hv.1 h
          refine am_xn 2 (c1 := (65, [.ref 0, .int (zi c), .int (zi ((c % 729) / 27)), .int (zi (c % 27))], [.int (zi 1)], M9)) rfl ?_
          exact am_xr (some (.int (zi 1))) ⟨rfl, rfl, .boolean, rfl, rfl⟩ hv
        · replace hv := hv.2 h
          refine am_xn 1 (c1 := (65, [.ref 0, .int (zi c), .int (zi ((c % 729) / 27)), .int (zi (c % 27))], [.int (zi 0)], M9)) rfl ?_
          exact am_xr (some (.int (zi 0))) ⟨rfl, rfl, .boolean, rfl, rfl⟩ hv
    · replace hv := hv.2 h
      refine am_xiadd 4 65 ((c % 729) / 27) (pc := 35) (ls := [.ref 0, .int (zi c), .int (zi ((c % 729) / 27)), .int (zi (c % 27))]) (st := [.ref 0]) rfl ?_
      refine am_xisub 2 (65 + ((c % 729) / 27)) 1 (pc := 37) (ls := [.ref 0, .int (zi c), .int (zi ((c % 729) / 27)), .int (zi (c % 27))]) (st := [.ref 0]) rfl ?_
      obtain ⟨r13, M12, hc, hv⟩ := hv
      refine am_xc t_SB_type (.invokevirtual 11) 11 (av := [.ref 0, .int (zi ((65 + ((c % 729) / 27)) - 1))]) (rest := []) (rv := some (.int (zi r13))) (M' := M12) rfl rfl rfl rfl (Nat.le_of_ble_eq_true rfl) (fun _ => rfl) (hc) ?_
      refine am_xn 0 (c1 := (40, [.ref 0, .int (zi c), .int (zi ((c % 729) / 27)), .int (zi (c % 27))], [.int (zi r13)], M12)) rfl ?_
      obtain ⟨r14, hv⟩ := hv
      refine am_xn 1 (c1 := (if zi 0 < zi r13 then 43 else 64, [.ref 0, .int (zi c), .int (zi ((c % 729) / 27)), .int (zi (c % 27))], [], M12)) rfl (am_xlt (by decide) r14 (fun h => ?_) (fun h => ?_))
      · replace hv := hv.1 h
        refine am_xn 2 (c1 := (if zi (c % 27) = zi 0 then 60 else 47, [.ref 0, .int (zi c), .int (zi ((c % 729) / 27)), .int (zi (c % 27))], [], M12)) rfl (am_xeq (zr_rem r4 (by decide) r1 (by decide)) (by decide) (fun h => ?_) (fun h => ?_))
        · replace hv := hv.1 h
          refine am_xn 2 (c1 := (65, [.ref 0, .int (zi c), .int (zi ((c % 729) / 27)), .int (zi (c % 27))], [.int (zi 1)], M12)) rfl ?_
          exact am_xr (some (.int (zi 1))) ⟨rfl, rfl, .boolean, rfl, rfl⟩ hv
        · replace hv := hv.2 h
          refine am_xiadd 4 65 (c % 27) (pc := 52) (ls := [.ref 0, .int (zi c), .int (zi ((c % 729) / 27)), .int (zi (c % 27))]) (st := [.ref 0]) rfl ?_
          refine am_xisub 2 (65 + (c % 27)) 1 (pc := 54) (ls := [.ref 0, .int (zi c), .int (zi ((c % 729) / 27)), .int (zi (c % 27))]) (st := [.ref 0]) rfl ?_
          obtain ⟨r16, M15, hc, hv⟩ := hv
          refine am_xc t_SB_type (.invokevirtual 11) 11 (av := [.ref 0, .int (zi ((65 + (c % 27)) - 1))]) (rest := []) (rv := some (.int (zi r16))) (M' := M15) rfl rfl rfl rfl (Nat.le_of_ble_eq_true rfl) (fun _ => rfl) (hc) ?_
          refine am_xn 0 (c1 := (57, [.ref 0, .int (zi c), .int (zi ((c % 729) / 27)), .int (zi (c % 27))], [.int (zi r16)], M15)) rfl ?_
          obtain ⟨r17, hv⟩ := hv
          refine am_xn 1 (c1 := (if zi 0 < zi r16 then 60 else 64, [.ref 0, .int (zi c), .int (zi ((c % 729) / 27)), .int (zi (c % 27))], [], M15)) rfl (am_xlt (by decide) r17 (fun h => ?_) (fun h => ?_))
          · replace hv := hv.1 h
            refine am_xn 2 (c1 := (65, [.ref 0, .int (zi c), .int (zi ((c % 729) / 27)), .int (zi (c % 27))], [.int (zi 1)], M15)) rfl ?_
            exact am_xr (some (.int (zi 1))) ⟨rfl, rfl, .boolean, rfl, rfl⟩ hv
          · replace hv := hv.2 h
            refine am_xn 1 (c1 := (65, [.ref 0, .int (zi c), .int (zi ((c % 729) / 27)), .int (zi (c % 27))], [.int (zi 0)], M15)) rfl ?_
            exact am_xr (some (.int (zi 0))) ⟨rfl, rfl, .boolean, rfl, rfl⟩ hv
      · replace hv := hv.2 h
        refine am_xn 1 (c1 := (65, [.ref 0, .int (zi c), .int (zi ((c % 729) / 27)), .int (zi (c % 27))], [.int (zi 0)], M12)) rfl ?_
        exact am_xr (some (.int (zi 0))) ⟨rfl, rfl, .boolean, rfl, rfl⟩ hv
set_option maxRecDepth 100000 in
theorem vc_w_typesWord (w : Int) (M : am_M) (Q : Option Value → am_M → Prop) (hv : ∃ (r2 : Int) (M1 : am_M), am_call t_SB_type [.ref 0, .int (zi 32)] M (some (.int (zi r2))) M1 ∧ ((zr r2) ∧ ((0 < r2 → (zr w) ∧ ((w < 1000 → ∃ (r6 : Int) (M5 : am_M), am_call t_LAW_typesInteger [.ref 0, .int (zi w)] M1 (some (.int (zi r6))) M5 ∧ ((zr r6) ∧ ((r6 = 0 → Q (some (.int (zi 0))) M5) ∧ (¬ r6 = 0 → Q (some (.int (zi 1))) M5)))) ∧ (1000 ≤ w → ∃ (r9 : Int) (M8 : am_M), am_call t_SB_type [.ref 0, .int (zi 64)] M1 (some (.int (zi r9))) M8 ∧ ((zr r9) ∧ ((0 < r9 → ∃ (r12 : Int) (M11 : am_M), am_call t_LAW_typesNumber [.ref 0, .int (zi (w - 1000))] M8 (some (.int (zi r12))) M11 ∧ ((zr r12) ∧ ((r12 = 0 → Q (some (.int (zi 0))) M11) ∧ (¬ r12 = 0 → Q (some (.int (zi 1))) M11)))) ∧ (r9 ≤ 0 → Q (some (.int (zi 0))) M8)))))) ∧ (r2 ≤ 0 → Q (some (.int (zi 0))) M1)))) : am_x t_LAW_typesWord (0, am_ent (am_mL t_LAW_typesWord) [.ref 0, .int (zi w)], [], M) Q := by
  refine am_xn 0 (c1 := (0, [.ref 0, .int (zi w)], [], M)) rfl ?_
  refine am_xn 2 (c1 := (3, [.ref 0, .int (zi w)], [.int (zi 32), .ref 0], M)) rfl ?_
  obtain ⟨r2, M1, hc, hv⟩ := hv
  refine am_xc t_SB_type (.invokevirtual 11) 11 (av := [.ref 0, .int (zi 32)]) (rest := []) (rv := some (.int (zi r2))) (M' := M1) rfl rfl rfl rfl (Nat.le_of_ble_eq_true rfl) (fun _ => rfl) (hc) ?_
  refine am_xn 0 (c1 := (6, [.ref 0, .int (zi w)], [.int (zi r2)], M1)) rfl ?_
  obtain ⟨r3, hv⟩ := hv
  refine am_xn 1 (c1 := (if zi 0 < zi r2 then 9 else 52, [.ref 0, .int (zi w)], [], M1)) rfl (am_xlt (by decide) r3 (fun h => ?_) (fun h => ?_))
  · replace hv := hv.1 h
    obtain ⟨r4, hv⟩ := hv
    refine am_xn 3 (c1 := (if zi w < zi 1000 then 16 else 27, [.ref 0, .int (zi w)], [], M1)) rfl (am_xlt r4 (by decide) (fun h => ?_) (fun h => ?_))
    · replace hv := hv.1 h
      refine am_xn 2 (c1 := (18, [.ref 0, .int (zi w)], [.int (zi w), .ref 0], M1)) rfl ?_
      obtain ⟨r6, M5, hc, hv⟩ := hv
      refine am_xc t_LAW_typesInteger (.invokestatic 17) 17 (av := [.ref 0, .int (zi w)]) (rest := []) (rv := some (.int (zi r6))) (M' := M5) rfl rfl rfl rfl (Nat.le_of_ble_eq_true rfl) (fun h => nomatch h) (hc) ?_
      refine am_xn 0 (c1 := (21, [.ref 0, .int (zi w)], [.int (zi r6)], M5)) rfl ?_
      obtain ⟨r7, hv⟩ := hv
      refine am_xn 1 (c1 := (if zi r6 = zi 0 then 52 else 24, [.ref 0, .int (zi w)], [], M5)) rfl (am_xeq r7 (by decide) (fun h => ?_) (fun h => ?_))
      · replace hv := hv.1 h
        refine am_xn 1 (c1 := (53, [.ref 0, .int (zi w)], [.int (zi 0)], M5)) rfl ?_
        exact am_xr (some (.int (zi 0))) ⟨rfl, rfl, .boolean, rfl, rfl⟩ hv
      · replace hv := hv.2 h
        refine am_xn 3 (c1 := (53, [.ref 0, .int (zi w)], [.int (zi 1)], M5)) rfl ?_
        exact am_xr (some (.int (zi 1))) ⟨rfl, rfl, .boolean, rfl, rfl⟩ hv
    · replace hv := hv.2 h
      refine am_xn 2 (c1 := (30, [.ref 0, .int (zi w)], [.int (zi 64), .ref 0], M1)) rfl ?_
      obtain ⟨r9, M8, hc, hv⟩ := hv
      refine am_xc t_SB_type (.invokevirtual 11) 11 (av := [.ref 0, .int (zi 64)]) (rest := []) (rv := some (.int (zi r9))) (M' := M8) rfl rfl rfl rfl (Nat.le_of_ble_eq_true rfl) (fun _ => rfl) (hc) ?_
      refine am_xn 0 (c1 := (33, [.ref 0, .int (zi w)], [.int (zi r9)], M8)) rfl ?_
      obtain ⟨r10, hv⟩ := hv
      refine am_xn 1 (c1 := (if zi 0 < zi r9 then 36 else 52, [.ref 0, .int (zi w)], [], M8)) rfl (am_xlt (by decide) r10 (fun h => ?_) (fun h => ?_))
      · replace hv := hv.1 h
        refine am_xisub 4 w 1000 (pc := 42) (ls := [.ref 0, .int (zi w)]) (st := [.ref 0]) rfl ?_
        obtain ⟨r12, M11, hc, hv⟩ := hv
        refine am_xc t_LAW_typesNumber (.invokestatic 23) 23 (av := [.ref 0, .int (zi (w - 1000))]) (rest := []) (rv := some (.int (zi r12))) (M' := M11) rfl rfl rfl rfl (Nat.le_of_ble_eq_true rfl) (fun h => nomatch h) (hc) ?_
        refine am_xn 0 (c1 := (45, [.ref 0, .int (zi w)], [.int (zi r12)], M11)) rfl ?_
        obtain ⟨r13, hv⟩ := hv
        refine am_xn 1 (c1 := (if zi r12 = zi 0 then 52 else 48, [.ref 0, .int (zi w)], [], M11)) rfl (am_xeq r13 (by decide) (fun h => ?_) (fun h => ?_))
        · replace hv := hv.1 h
          refine am_xn 1 (c1 := (53, [.ref 0, .int (zi w)], [.int (zi 0)], M11)) rfl ?_
          exact am_xr (some (.int (zi 0))) ⟨rfl, rfl, .boolean, rfl, rfl⟩ hv
        · replace hv := hv.2 h
          refine am_xn 2 (c1 := (53, [.ref 0, .int (zi w)], [.int (zi 1)], M11)) rfl ?_
          exact am_xr (some (.int (zi 1))) ⟨rfl, rfl, .boolean, rfl, rfl⟩ hv
      · replace hv := hv.2 h
        refine am_xn 1 (c1 := (53, [.ref 0, .int (zi w)], [.int (zi 0)], M8)) rfl ?_
        exact am_xr (some (.int (zi 0))) ⟨rfl, rfl, .boolean, rfl, rfl⟩ hv
  · replace hv := hv.2 h
    refine am_xn 1 (c1 := (53, [.ref 0, .int (zi w)], [.int (zi 0)], M1)) rfl ?_
    exact am_xr (some (.int (zi 0))) ⟨rfl, rfl, .boolean, rfl, rfl⟩ hv
/-- a letter of a long -/
def chr (X k : Int) : Int := zl2i (zland (zlshr X k) 127)
def tyL (X : Int) : Nat → List Int
  | 0 => []
  | j + 1 => (if chr X (8 * (j : Int)) = 0 then [] else [chr X (8 * (j : Int))]) ++ tyL X j
abbrev okX (X : Int) : Prop := ∀ j : Nat, j < 8 → 0 ≤ chr X (8 * (j : Int)) ∧ chr X (8 * (j : Int)) ≤ 127
/-- the text grew by a list, and nothing else changed but the text -/
abbrev TYP (l : List Int) (M m : am_M) : Prop := TXL m l ∧ ∀ a, ¬ a = 2 → ¬ a = 3 → m a = M a
theorem TYP_t {l l' : List Int} {M M1 M2 : am_M} (h : TYP l M M1) (h2 : TYP l' M1 M2) : TYP l' M M2 := ⟨h2.1, fun a x y => (h2.2 a x y).trans (h.2 a x y)⟩
theorem ty_6 {X : Int} (hX : okX X) : ∀ (j : Nat) (M : am_M) (l : List Int) (k : Int), j ≤ 8 → k = 8 * (j : Int) - 8 → TXL M l → l.length + j ≤ 120 → am_x t_LAW_types (6, [.ref 0, .long (zl X), .null, .int (zi 1), .int (zi k), .null], [], M) (fun rv m => rv = some (.int (zi 1)) ∧ TYP (l ++ tyL X j) M m) := by
  intro j
  induction j with
  | zero =>
    intro M l k _ hk t hl
    refine vc_w_types_6 X 1 k M _ ⟨⟨by omega, by omega⟩, fun _ => ⟨Or.inr rfl, rfl, ?_⟩, fun q => by omega⟩
    unfold tyL
    rw [List.append_nil]
    exact ⟨t, fun _ _ _ => rfl⟩
  | succ j ih =>
    intro M l k hj hk t hl
    have hc := hX j (by omega)
    have e8 : 8 * (j : Int) = k := by omega
    rw [e8] at hc
    refine vc_w_types_6 X 1 k M _ ⟨⟨by omega, by omega⟩, fun q => by omega, fun _ => ⟨by decide, fun q => by omega, fun _ => ⟨fun q => ?_, fun q => ?_⟩⟩⟩
    · have h := ih M l (k + (-8)) (by omega) (by omega) t (by omega)
      have e : tyL X (j + 1) = tyL X j := by
        show (if chr X (8 * (j : Int)) = 0 then [] else [chr X (8 * (j : Int))]) ++ tyL X j = _
        rw [e8, if_pos (c := chr X k = 0) q]; rfl
      rw [e]
      exact h
    · obtain ⟨M3, c1, c2, c3⟩ := sp_k_type t hc.1 hc.2 (by omega)
      refine ⟨_, M3, c1, ⟨by omega, by omega⟩, fun _ => ?_, fun q => by omega⟩
      have h := ih M3 (l ++ [chr X k]) (k + (-8)) (by omega) (by omega) c2 (by rw [List.length_append]; show l.length + 1 + j ≤ 120; omega)
      have e : l ++ tyL X (j + 1) = l ++ [chr X k] ++ tyL X j := by
        show l ++ ((if chr X (8 * (j : Int)) = 0 then [] else [chr X (8 * (j : Int))]) ++ tyL X j) = _
        rw [e8, if_neg (c := chr X k = 0) q, List.append_assoc]
      rw [e]
      exact am_xw h (fun r m hm => ⟨hm.1, TYP_t ⟨c2, c3⟩ hm.2⟩)
theorem sp_w_types {X : Int} (hX : okX X) {M : am_M} {l : List Int} (t : TXL M l) (hl : l.length + 8 ≤ 120) : ∃ M', am_call t_LAW_types [.ref 0, .long (zl X)] M (some (.int (zi 1))) M' ∧ TYP (l ++ tyL X 8) M M' := by
  obtain ⟨rv, M', h1, h2, h3⟩ := am_call_ex ⟨Nat.le_of_ble_eq_true rfl, rfl⟩ (vc_w_types X M _ (ty_6 hX 8 M l 56 (by omega) (by omega) t hl))
  subst h2
  exact ⟨M', h1, h3⟩
theorem sp_w_typesInteger {M : am_M} {l : List Int} {v : Int} (t : TXL M l) (hl : l.length < 120) (v0 : 0 ≤ v) (v1 : v ≤ 9) : ∃ M', am_call t_LAW_typesInteger [.ref 0, .int (zi v)] M (some (.int (zi 1))) M' ∧ TYP (l ++ [48 + v]) M M' := by
  obtain ⟨M3, c1, c2⟩ := sp_k_type (x := 48 + v) t (by omega) (by omega) hl
  refine ⟨M3, am_call_of ⟨Nat.le_of_ble_eq_true rfl, rfl⟩ (vc_w_typesInteger v M _ ⟨⟨by omega, by omega⟩, fun _ => ⟨fun _ => ⟨v0, _, M3, by rw [show v % 10 = v by omega]; exact c1, ⟨by omega, by omega⟩, fun _ => ⟨rfl, rfl⟩, fun q => by omega⟩, fun q => by omega⟩, fun q => by omega⟩), c2⟩
/-- a number, typed -/
def numL (n : Int) : List Int := [48 + n / 729] ++ (if n % 729 / 27 = 0 then [] else [64 + n % 729 / 27]) ++ (if n % 27 = 0 then [] else [64 + n % 27])
theorem numL_len (n : Int) : (numL n).length ≤ 3 := by
  unfold numL
  rw [List.length_append, List.length_append]
  split <;> split <;> simp
theorem sp_w_typesNumber {M : am_M} {l : List Int} {n : Int} (t : TXL M l) (hl : l.length + 3 ≤ 120) (h : isNum n) : ∃ M', am_call t_LAW_typesNumber [.ref 0, .int (zi n)] M (some (.int (zi 1))) M' ∧ TYP (l ++ numL n) M M' := by
  have hr := isNum_r h
  obtain ⟨i, a, b, h1, h2, h3, h4, hn⟩ := h
  have e1 : n / 729 = i := by omega
  have e2 : n % 729 / 27 = a := by omega
  have e3 : n % 27 = b := by omega
  have key : am_x t_LAW_typesNumber (0, am_ent (am_mL t_LAW_typesNumber) [.ref 0, .int (zi n)], [], M) (fun rv m => rv = some (.int (zi 1)) ∧ TYP (l ++ numL n) M m) := by
    obtain ⟨M1, c1, d1⟩ := sp_w_typesInteger (v := i) t (by omega) (by omega) (by omega)
    have l1 : (l ++ [48 + i]).length = l.length + 1 := by rw [List.length_append]; rfl
    unfold numL
    refine vc_w_typesNumber n M _ ⟨⟨by omega, by omega⟩, by omega, by omega, by omega, by omega, ?_⟩
    rw [e1, e2, e3]
    refine ⟨_, M1, c1, by decide, fun q => by omega, fun _ => ⟨fun q => ⟨fun q2 => ⟨rfl, ?_⟩, fun q2 => by omega⟩, fun q => ?_⟩⟩
    · rw [if_pos q, if_pos q2, List.append_nil, List.append_nil]; exact d1
    · obtain ⟨M2, c2, d2⟩ := sp_k_type (x := 64 + a) d1.1 (by omega) (by omega) (by omega)
      have l2 : (l ++ [48 + i] ++ [64 + a]).length = l.length + 2 := by rw [List.length_append, l1]; rfl
      rw [if_neg q]
      refine ⟨_, M2, by rw [show 65 + a - 1 = 64 + a by omega]; exact c2, ⟨by omega, by omega⟩, fun _ => ⟨fun q2 => ⟨rfl, ?_⟩, fun q2 => ?_⟩, fun q2 => by omega⟩
      · rw [if_pos q2, List.append_nil, ← List.append_assoc]; exact TYP_t d1 d2
      · obtain ⟨M3, c3, d3⟩ := sp_k_type (x := 64 + b) d2.1 (by omega) (by omega) (by omega)
        rw [if_neg q2]
        refine ⟨_, M3, by rw [show 65 + b - 1 = 64 + b by omega]; exact c3, ⟨by omega, by omega⟩, fun _ => ⟨rfl, ?_⟩, fun q3 => by omega⟩
        rw [← List.append_assoc, ← List.append_assoc]
        exact TYP_t (TYP_t d1 d2) d3
  obtain ⟨rv, M', g1, g2, g3⟩ := am_call_ex ⟨Nat.le_of_ble_eq_true rfl, rfl⟩ key
  subst g2
  exact ⟨M', g1, g3⟩
/-- a word, typed -/
def wdL (w : Int) : List Int := [32] ++ (if w < 1000 then [48 + w] else [64] ++ numL (w - 1000))
theorem wdL_len (w : Int) : (wdL w).length ≤ 5 := by
  unfold wdL
  have := numL_len (w - 1000)
  by_cases h : w < 1000
  · rw [if_pos h]; exact Nat.le_of_ble_eq_true rfl
  · rw [if_neg h, List.length_append, List.length_append]
    show 1 + (1 + (numL (w - 1000)).length) ≤ 5
    omega
theorem sp_w_typesWord {M : am_M} {l : List Int} {w : Int} (t : TXL M l) (hl : l.length + 5 ≤ 120) (h : isWd w) : ∃ M', am_call t_LAW_typesWord [.ref 0, .int (zi w)] M (some (.int (zi 1))) M' ∧ TYP (l ++ wdL w) M M' := by
  have hr := isWd_r h
  have key : am_x t_LAW_typesWord (0, am_ent (am_mL t_LAW_typesWord) [.ref 0, .int (zi w)], [], M) (fun rv m => rv = some (.int (zi 1)) ∧ TYP (l ++ wdL w) M m) := by
    obtain ⟨M1, c1, d1⟩ := sp_k_type (x := 32) t (by omega) (by omega) (by omega)
    have l1 : (l ++ [32]).length = l.length + 1 := by rw [List.length_append]; rfl
    unfold wdL
    refine vc_w_typesWord w M _ ⟨_, M1, c1, ⟨by omega, by omega⟩, fun _ => ⟨⟨by omega, by omega⟩, fun q => ?_, fun q => ?_⟩, fun q => by omega⟩
    · have w9 : w ≤ 9 := by
        rcases h with h | h
        · omega
        · have := isNum_r h; omega
      obtain ⟨M2, c2, d2⟩ := sp_w_typesInteger (v := w) d1.1 (by omega) (by omega) w9
      refine ⟨_, M2, c2, by decide, fun z => by omega, fun _ => ⟨rfl, ?_⟩⟩
      rw [if_pos q, ← List.append_assoc]
      exact TYP_t d1 d2
    · have hn : isNum (w - 1000) := h.resolve_left (by omega)
      obtain ⟨M2, c2, d2⟩ := sp_k_type (x := 64) d1.1 (by omega) (by omega) (by omega)
      have l2 : (l ++ [32] ++ [64]).length = l.length + 2 := by rw [List.length_append, l1]; rfl
      obtain ⟨M3, c3, d3⟩ := sp_w_typesNumber d2.1 (by omega) hn
      refine ⟨_, M2, c2, ⟨by omega, by omega⟩, fun _ => ⟨_, M3, c3, by decide, fun z => by omega, fun _ => ⟨rfl, ?_⟩⟩, fun z => by omega⟩
      rw [if_neg (by omega), ← List.append_assoc, ← List.append_assoc]
      exact TYP_t (TYP_t d1 d2) d3
  obtain ⟨rv, M', g1, g2, g3⟩ := am_call_ex ⟨Nat.le_of_ble_eq_true rfl, rfl⟩ key
  subst g2
  exact ⟨M', g1, g3⟩
/-- how many of the first operations in the row are inserts -/
def iK (M : am_M) (k : Int) : Int := sm (fun j => if oK M j = 0 then 1 else 0) k
theorem sp_w_identity2 (M : am_M) {k : Int} (k0 : 0 ≤ k) (k2 : k ≤ 16) : am_call t_LAW_identity [.ref 58, .int (zi k)] M (some (.int (zi (iK M k)))) M := by
  refine am_call_of ⟨Nat.le_of_ble_eq_true rfl, rfl⟩ (vc_w_identity k M _ ?_)
  refine loop_up (fun i (s : Int) => (4, [.ref 58, .int (zi k), .int (zi s), .int (zi i)], [], M)) k (fun i s => s = iK M i) ?_ ?_ 0 0 (by omega) k0 rfl
  · intro s hs
    exact vc_w_identity_4 k s k M _ ⟨⟨by omega, by omega⟩, ⟨by omega, by omega⟩, fun h => by omega, fun _ => ⟨by rw [hs], rfl⟩⟩
  · intro i s i0 i1 hs kk
    have e : iK M (i + 1) = iK M i + (if oK M i = 0 then 1 else 0) := sm_s _ i0
    refine vc_w_identity_4 k s i M _ ⟨⟨by omega, by omega⟩, ⟨by omega, by omega⟩, fun _ => ⟨⟨by omega, by omega⟩, fun q => kk _ ?_, fun q => kk _ ?_⟩, fun h => by omega⟩
    · rw [e, if_pos q, hs]
    · rw [e, if_neg q, hs]
theorem ok_0 : okX 115923103347316 := by decide +kernel
theorem ty_100 : tyL 115923103347316 8 = [105, 110, 115, 101, 114, 116] := by decide +kernel
theorem ok_1 : okX 1919250540 := by decide +kernel
theorem ty_101 : tyL 1919250540 8 = [114, 101, 112, 108] := by decide +kernel
theorem ok_2 : okX 6382437 := by decide +kernel
theorem ty_102 : tyL 6382437 8 = [97, 99, 101] := by decide +kernel
theorem ok_3 : okX 125780002955628 := by decide +kernel
theorem ty_103 : tyL 125780002955628 8 = [114, 101, 112, 101, 97, 108] := by decide +kernel
theorem ok_4 : okX 8243116143596954994 := by decide +kernel
theorem ty_104 : tyL 8243116143596954994 8 = [114, 101, 110, 117, 109, 98, 101, 114] := by decide +kernel
theorem ok_5 : okX 26990 := by decide +kernel
theorem ty_105 : tyL 26990 8 = [105, 110] := by decide +kernel
theorem ok_6 : okX 544501536 := by decide +kernel
theorem ty_106 : tyL 544501536 8 = [32, 116, 111, 32] := by decide +kernel
theorem ok_7 : okX 543584114 := by decide +kernel
theorem ty_107 : tyL 543584114 8 = [32, 102, 111, 114] := by decide +kernel
theorem ok_8 : okX 544241012 := by decide +kernel
theorem ty_108 : tyL 544241012 8 = [32, 112, 117, 116] := by decide +kernel
theorem ok_9 : okX 544432502 := by decide +kernel
theorem ty_109 : tyL 544432502 8 = [32, 115, 97, 118] := by decide +kernel
theorem ok_10 : okX 6909543 := by decide +kernel
theorem ty_110 : tyL 6909543 8 = [105, 110, 103] := by decide +kernel

