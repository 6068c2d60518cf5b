/-! the reference reads an operation, an amendment -/
set_option maxRecDepth 100000 in
theorem vc_readsWords  (M : am_M) (Q : Option Value → am_M → Prop) (hv : ∃ M1, am_call t_Mo_skips [.ref 58] M none M1 ∧ (am_x t_Mo_readsWords (6, [.ref 58, .int (zi 0), .null, .null], [], M1) Q)) : am_x t_Mo_readsWords (0, am_ent (am_mL t_Mo_readsWords) [.ref 58], [], M) Q := by
  refine am_xn 0 (c1 := (0, [.ref 58, .null, .null, .null], [], M)) rfl ?_
  refine am_xn 3 (c1 := (3, [.ref 58, .int (zi 0), .null, .null], [.ref 58], M)) rfl ?_
  obtain ⟨M1, hc, hv⟩ := hv
  refine am_xc t_Mo_skips (.invokevirtual 174) 174 (av := [.ref 58]) (rest := []) (rv := none) (M' := M1) rfl rfl rfl rfl (Nat.le_of_ble_eq_true rfl) (fun _ => rfl) (hc) ?_
  refine am_xn 0 (c1 := (6, [.ref 58, .int (zi 0), .null, .null], [], M1)) rfl ?_
  exact hv
set_option maxRecDepth 100000 in
theorem vc_readsWords_6 (x1 : Int) (M : am_M) (Q : Option Value → am_M → Prop) (hv : ((iv M 58 19) = (-1) → (0 ≤ (iv M 58 18) ∧ (iv M 58 18) ≤ 1000 ∧ iv M 58 17 ≤ 120) ∧ ((isg (mtb M (iv M 58 18)) → (zr x1) ∧ ((x1 = 6 → ∃ M2, am_call t_Mo_fails [.ref 58, .int (zi (iv M 58 18))] M none M2 ∧ (Q none M2)) ∧ (¬ x1 = 6 → (0 ≤ (iv M 58 18) ∧ (iv M 58 18) ≤ 1000 ∧ iv M 58 17 ≤ 120) ∧ (((mtb M (iv M 58 18)) = 64 → ∀ M3, M3 = zup M 58 18 ((iv M 58 18) + 1) → ∃ (r5 : Int) (M4 : am_M), am_call t_Mo_readsNumber [.ref 58] M3 (some (.int (zi r5))) M4 ∧ ((0 ≤ 12 * iv M4 58 21 + (6 + x1) ∧ 12 * iv M4 58 21 + (6 + x1) < 492) ∧ (∀ M6, M6 = zup M4 74 (12 * iv M4 58 21 + (6 + x1)) (1000 + r5) → ∃ M7, am_call t_Mo_skips [.ref 58] M6 none M7 ∧ (am_x t_Mo_readsWords (6, [.ref 58, .int (zi (x1 + 1)), .null, .null], [], M7) Q)))) ∧ (¬ (mtb M (iv M 58 18)) = 64 → ∀ M8, M8 = zup M 58 18 ((iv M 58 18) + 0) → ∃ (r10 : Int) (M9 : am_M), am_call t_Mo_readsDigits [.ref 58, .int (zi 0)] M8 (some (.int (zi r10))) M9 ∧ ((0 ≤ 12 * iv M9 58 21 + (6 + x1) ∧ 12 * iv M9 58 21 + (6 + x1) < 492) ∧ (∀ M11, M11 = zup M9 74 (12 * iv M9 58 21 + (6 + x1)) r10 → ∃ M12, am_call t_Mo_skips [.ref 58] M11 none M12 ∧ (am_x t_Mo_readsWords (6, [.ref 58, .int (zi (x1 + 1)), .null, .null], [], M12) Q)))))))) ∧ (¬ (isg (mtb M (iv M 58 18))) → (0 ≤ (iv M 58 18) ∧ (iv M 58 18) ≤ 1000 ∧ iv M 58 17 ≤ 120) ∧ (((mtb M (iv M 58 18)) = 64 → (zr x1) ∧ ((x1 = 6 → ∃ M14, am_call t_Mo_fails [.ref 58, .int (zi (iv M 58 18))] M none M14 ∧ (Q none M14)) ∧ (¬ x1 = 6 → (0 ≤ (iv M 58 18) ∧ (iv M 58 18) ≤ 1000 ∧ iv M 58 17 ≤ 120) ∧ (∀ M15, M15 = zup M 58 18 ((iv M 58 18) + 1) → ∃ (r17 : Int) (M16 : am_M), am_call t_Mo_readsNumber [.ref 58] M15 (some (.int (zi r17))) M16 ∧ ((0 ≤ 12 * iv M16 58 21 + (6 + x1) ∧ 12 * iv M16 58 21 + (6 + x1) < 492) ∧ (∀ M18, M18 = zup M16 74 (12 * iv M16 58 21 + (6 + x1)) (1000 + r17) → ∃ M19, am_call t_Mo_skips [.ref 58] M18 none M19 ∧ (am_x t_Mo_readsWords (6, [.ref 58, .int (zi (x1 + 1)), .null, .null], [], M19) Q))))))) ∧ (¬ (mtb M (iv M 58 18)) = 64 → (0 ≤ 12 * iv M 58 21 + (5 : Int) ∧ 12 * iv M 58 21 + (5 : Int) < 492) ∧ (∀ M20, M20 = zup M 74 (12 * iv M 58 21 + 5) x1 → Q none M20)))))) ∧ (¬ (iv M 58 19) = (-1) → (0 ≤ 12 * iv M 58 21 + (5 : Int) ∧ 12 * iv M 58 21 + (5 : Int) < 492) ∧ (∀ M22, M22 = zup M 74 (12 * iv M 58 21 + 5) x1 → Q none M22))) : am_x t_Mo_readsWords (6, [.ref 58, .int (zi x1), .null, .null], [], M) Q := by
  refine am_xrd 2 58 19 (pc := 10) (ls := [.ref 58, .int (zi x1), .null, .null]) (st := []) rfl ?_
  refine am_xn 2 (c1 := (if zi (iv M 58 19) = zi (-1) then 14 else 130, [.ref 58, .int (zi x1), .null, .null], [], M)) rfl (am_xeq (iv_r _ _ _) (by decide) (fun h => ?_) (fun h => ?_))
  · replace hv := hv.1 h
    refine am_xrd 3 58 18 (pc := 19) (ls := [.ref 58, .int (zi x1), .null, .null]) (st := [.ref 58]) rfl ?_
    obtain ⟨g, hv⟩ := hv
    by_cases c21 : isg (mtb M (iv M 58 18))
    · replace hv := hv.1 c21
      refine am_xc t_Mo_isDigit (.invokevirtual 185) 185 (av := [.ref 58, .int (zi (iv M 58 18))]) (rest := []) (rv := some (.int (zi 1))) (M' := M) rfl rfl rfl rfl (Nat.le_of_ble_eq_true rfl) (fun _ => rfl) (by have q := sp_isDigit M (iv M 58 18) g; rwa [if_pos c21] at q) ?_
      refine am_xn 0 (c1 := (22, [.ref 58, .int (zi x1), .null, .null], [.int (zi 1)], M)) rfl ?_
      obtain ⟨r1, hv⟩ := hv
      refine am_xn 4 (c1 := (if zi x1 = zi 6 then 44 else 53, [.ref 58, .int (zi x1), .null, .null], [], M)) rfl (am_xeq r1 (by decide) (fun h => ?_) (fun h => ?_))
      · replace hv := hv.1 h
        refine am_xrd 3 58 18 (pc := 49) (ls := [.ref 58, .int (zi x1), .null, .null]) (st := [.ref 58]) rfl ?_
        obtain ⟨M2, hc, hv⟩ := hv
        refine am_xc t_Mo_fails (.invokevirtual 181) 181 (av := [.ref 58, .int (zi (iv M 58 18))]) (rest := []) (rv := none) (M' := M2) rfl rfl rfl rfl (Nat.le_of_ble_eq_true rfl) (fun _ => rfl) (hc) ?_
        refine am_xn 0 (c1 := (52, [.ref 58, .int (zi x1), .null, .null], [], M2)) rfl ?_
        exact am_xr none ⟨rfl, rfl, rfl⟩ hv
      · replace hv := hv.2 h
        refine am_xrd 3 58 18 (pc := 58) (ls := [.ref 58, .int (zi x1), .null, .null]) (st := [.ref 58]) rfl ?_
        obtain ⟨g, hv⟩ := hv
        refine am_xc t_Mo_byteAt (.invokevirtual 152) 152 (av := [.ref 58, .int (zi (iv M 58 18))]) (rest := []) (rv := some (.int (zi (mtb M (iv M 58 18))))) (M' := M) rfl rfl rfl rfl (Nat.le_of_ble_eq_true rfl) (fun _ => rfl) (sp_m_byteAt M (iv M 58 18) g) ?_
        refine am_xn 0 (c1 := (61, [.ref 58, .int (zi x1), .null, .null], [.int (zi (mtb M (iv M 58 18)))], M)) rfl ?_
        refine am_xn 2 (c1 := (if zi (mtb M (iv M 58 18)) = zi 64 then 66 else 70, [.ref 58, .int (zi x1), .null, .null], [], M)) rfl (am_xeq (mtb_r M (iv M 58 18)) (by decide) (fun h => ?_) (fun h => ?_))
        · replace hv := hv.1 h
          refine am_xrd 6 58 18 (pc := 77) (ls := [.ref 58, .int (zi x1), .int (zi 1), .null]) (st := [.ref 58]) rfl ?_
          refine am_xiadd 5 (iv M 58 18) 1 (pc := 87) (ls := [.ref 58, .int (zi x1), .int (zi 1), .null]) (st := [.ref 58]) rfl ?_
          refine am_xn 1 (c1 := (90, [.ref 58, .int (zi x1), .int (zi 1), .null], [], zup M 58 18 ((iv M 58 18) + 1))) rfl ?_
          obtain ⟨M3, eM3⟩ : ∃ m, m = zup M 58 18 ((iv M 58 18) + 1) := ⟨_, rfl⟩
          replace hv := hv M3 eM3
          rw [← eM3]
          refine am_xn 4 (c1 := (98, [.ref 58, .int (zi x1), .int (zi 1), .null], [.ref 58, .int (zi 1000)], M3)) rfl ?_
          obtain ⟨r5, M4, hc, hv⟩ := hv
          refine am_xc t_Mo_readsNumber (.invokevirtual 195) 195 (av := [.ref 58]) (rest := [.int (zi 1000)]) (rv := some (.int (zi r5))) (M' := M4) rfl rfl rfl rfl (Nat.le_of_ble_eq_true rfl) (fun _ => rfl) (hc) ?_
          refine am_xn 0 (c1 := (101, [.ref 58, .int (zi x1), .int (zi 1), .null], [.int (zi r5), .int (zi 1000)], M4)) rfl ?_
          refine am_xiadd 1 1000 r5 (pc := 102) (ls := [.ref 58, .int (zi x1), .int (zi 1), .null]) (st := []) rfl ?_
          refine am_xiadd 6 6 x1 (pc := 116) (ls := [.ref 58, .int (zi x1), .int (zi 1), .int (zi (1000 + r5))]) (st := [.ref 58]) rfl ?_
          refine am_xn 1 (c1 := (117, [.ref 58, .int (zi x1), .int (zi 1), .int (zi (1000 + r5))], [.int (zi (1000 + r5)), .int (zi (6 + x1)), .ref 58], M4)) rfl ?_
          obtain ⟨g, hv⟩ := hv
          obtain ⟨M6, eM6⟩ : ∃ m, m = zup M4 74 (12 * iv M4 58 21 + (6 + x1)) (1000 + r5) := ⟨_, rfl⟩
          replace hv := hv M6 eM6
          refine am_xc t_Mo_puts (.invokevirtual 201) 201 (av := [.ref 58, .int (zi (6 + x1)), .int (zi (1000 + r5))]) (rest := []) (rv := none) (M' := M6) rfl rfl rfl rfl (Nat.le_of_ble_eq_true rfl) (fun _ => rfl) (by rw [eM6]; exact sp_puts M4 (6 + x1) (1000 + r5) g) ?_
          refine am_xn 0 (c1 := (120, [.ref 58, .int (zi x1), .int (zi 1), .int (zi (1000 + r5))], [], M6)) rfl ?_
          refine am_xn 1 (c1 := (123, [.ref 58, .int (zi x1 + zi 1), .int (zi 1), .int (zi (1000 + r5))], [], M6)) rfl ?_
          rw [zi_add]
          refine am_xn 1 (c1 := (124, [.ref 58, .int (zi (x1 + 1)), .int (zi 1), .int (zi (1000 + r5))], [.ref 58], M6)) rfl ?_
          obtain ⟨M7, hc, hv⟩ := hv
          refine am_xc t_Mo_skips (.invokevirtual 174) 174 (av := [.ref 58]) (rest := []) (rv := none) (M' := M7) rfl rfl rfl rfl (Nat.le_of_ble_eq_true rfl) (fun _ => rfl) (hc) ?_
          refine am_xn 0 (c1 := (127, [.ref 58, .int (zi (x1 + 1)), .int (zi 1), .int (zi (1000 + r5))], [], M7)) rfl ?_
          refine am_xn 1 (c1 := (6, [.ref 58, .int (zi (x1 + 1)), .int (zi 1), .int (zi (1000 + r5))], [], M7)) rfl ?_
          refine am_xf 2 ?_
          refine am_xf 3 ?_
          exact hv
        · replace hv := hv.2 h
          refine am_xrd 5 58 18 (pc := 77) (ls := [.ref 58, .int (zi x1), .int (zi 0), .null]) (st := [.ref 58]) rfl ?_
          refine am_xiadd 4 (iv M 58 18) 0 (pc := 87) (ls := [.ref 58, .int (zi x1), .int (zi 0), .null]) (st := [.ref 58]) rfl ?_
          refine am_xn 1 (c1 := (90, [.ref 58, .int (zi x1), .int (zi 0), .null], [], zup M 58 18 ((iv M 58 18) + 0))) rfl ?_
          obtain ⟨M8, eM8⟩ : ∃ m, m = zup M 58 18 ((iv M 58 18) + 0) := ⟨_, rfl⟩
          replace hv := hv M8 eM8
          rw [← eM8]
          refine am_xn 4 (c1 := (107, [.ref 58, .int (zi x1), .int (zi 0), .null], [.int (zi 0), .ref 58], M8)) rfl ?_
          obtain ⟨r10, M9, hc, hv⟩ := hv
          refine am_xc t_Mo_readsDigits (.invokevirtual 188) 188 (av := [.ref 58, .int (zi 0)]) (rest := []) (rv := some (.int (zi r10))) (M' := M9) rfl rfl rfl rfl (Nat.le_of_ble_eq_true rfl) (fun _ => rfl) (hc) ?_
          refine am_xn 0 (c1 := (110, [.ref 58, .int (zi x1), .int (zi 0), .null], [.int (zi r10)], M9)) rfl ?_
          refine am_xiadd 5 6 x1 (pc := 116) (ls := [.ref 58, .int (zi x1), .int (zi 0), .int (zi r10)]) (st := [.ref 58]) rfl ?_
          refine am_xn 1 (c1 := (117, [.ref 58, .int (zi x1), .int (zi 0), .int (zi r10)], [.int (zi r10), .int (zi (6 + x1)), .ref 58], M9)) rfl ?_
          obtain ⟨g, hv⟩ := hv
          obtain ⟨M11, eM11⟩ : ∃ m, m = zup M9 74 (12 * iv M9 58 21 + (6 + x1)) r10 := ⟨_, rfl⟩
          replace hv := hv M11 eM11
          refine am_xc t_Mo_puts (.invokevirtual 201) 201 (av := [.ref 58, .int (zi (6 + x1)), .int (zi r10)]) (rest := []) (rv := none) (M' := M11) rfl rfl rfl rfl (Nat.le_of_ble_eq_true rfl) (fun _ => rfl) (by rw [eM11]; exact sp_puts M9 (6 + x1) r10 g) ?_
          refine am_xn 0 (c1 := (120, [.ref 58, .int (zi x1), .int (zi 0), .int (zi r10)], [], M11)) rfl ?_
          refine am_xn 1 (c1 := (123, [.ref 58, .int (zi x1 + zi 1), .int (zi 0), .int (zi r10)], [], M11)) rfl ?_
          rw [zi_add]
          refine am_xn 1 (c1 := (124, [.ref 58, .int (zi (x1 + 1)), .int (zi 0), .int (zi r10)], [.ref 58], M11)) rfl ?_
          obtain ⟨M12, hc, hv⟩ := hv
          refine am_xc t_Mo_skips (.invokevirtual 174) 174 (av := [.ref 58]) (rest := []) (rv := none) (M' := M12) rfl rfl rfl rfl (Nat.le_of_ble_eq_true rfl) (fun _ => rfl) (hc) ?_
          refine am_xn 0 (c1 := (127, [.ref 58, .int (zi (x1 + 1)), .int (zi 0), .int (zi r10)], [], M12)) rfl ?_
          refine am_xn 1 (c1 := (6, [.ref 58, .int (zi (x1 + 1)), .int (zi 0), .int (zi r10)], [], M12)) rfl ?_
          refine am_xf 2 ?_
          refine am_xf 3 ?_
          exact hv
    · replace hv := hv.2 c21
      refine am_xc t_Mo_isDigit (.invokevirtual 185) 185 (av := [.ref 58, .int (zi (iv M 58 18))]) (rest := []) (rv := some (.int (zi 0))) (M' := M) rfl rfl rfl rfl (Nat.le_of_ble_eq_true rfl) (fun _ => rfl) (by have q := sp_isDigit M (iv M 58 18) g; rwa [if_neg c21] at q) ?_
      refine am_xn 0 (c1 := (22, [.ref 58, .int (zi x1), .null, .null], [.int (zi 0)], M)) rfl ?_
      refine am_xrd 4 58 18 (pc := 30) (ls := [.ref 58, .int (zi x1), .null, .null]) (st := [.ref 58]) rfl ?_
      obtain ⟨g, hv⟩ := hv
      refine am_xc t_Mo_byteAt (.invokevirtual 152) 152 (av := [.ref 58, .int (zi (iv M 58 18))]) (rest := []) (rv := some (.int (zi (mtb M (iv M 58 18))))) (M' := M) rfl rfl rfl rfl (Nat.le_of_ble_eq_true rfl) (fun _ => rfl) (sp_m_byteAt M (iv M 58 18) g) ?_
      refine am_xn 0 (c1 := (33, [.ref 58, .int (zi x1), .null, .null], [.int (zi (mtb M (iv M 58 18)))], M)) rfl ?_
      refine am_xn 2 (c1 := (if zi (mtb M (iv M 58 18)) = zi 64 then 38 else 130, [.ref 58, .int (zi x1), .null, .null], [], M)) rfl (am_xeq (mtb_r M (iv M 58 18)) (by decide) (fun h => ?_) (fun h => ?_))
      · replace hv := hv.1 h
        obtain ⟨r13, hv⟩ := hv
        refine am_xn 3 (c1 := (if zi x1 = zi 6 then 44 else 53, [.ref 58, .int (zi x1), .null, .null], [], M)) rfl (am_xeq r13 (by decide) (fun h => ?_) (fun h => ?_))
        · replace hv := hv.1 h
          refine am_xrd 3 58 18 (pc := 49) (ls := [.ref 58, .int (zi x1), .null, .null]) (st := [.ref 58]) rfl ?_
          obtain ⟨M14, hc, hv⟩ := hv
          refine am_xc t_Mo_fails (.invokevirtual 181) 181 (av := [.ref 58, .int (zi (iv M 58 18))]) (rest := []) (rv := none) (M' := M14) rfl rfl rfl rfl (Nat.le_of_ble_eq_true rfl) (fun _ => rfl) (hc) ?_
          refine am_xn 0 (c1 := (52, [.ref 58, .int (zi x1), .null, .null], [], M14)) rfl ?_
          exact am_xr none ⟨rfl, rfl, rfl⟩ hv
        · replace hv := hv.2 h
          refine am_xrd 3 58 18 (pc := 58) (ls := [.ref 58, .int (zi x1), .null, .null]) (st := [.ref 58]) rfl ?_
          obtain ⟨g, hv⟩ := hv
          refine am_xc t_Mo_byteAt (.invokevirtual 152) 152 (av := [.ref 58, .int (zi (iv M 58 18))]) (rest := []) (rv := some (.int (zi (mtb M (iv M 58 18))))) (M' := M) rfl rfl rfl rfl (Nat.le_of_ble_eq_true rfl) (fun _ => rfl) (sp_m_byteAt M (iv M 58 18) g) ?_
          refine am_xn 0 (c1 := (61, [.ref 58, .int (zi x1), .null, .null], [.int (zi (mtb M (iv M 58 18)))], M)) rfl ?_
          refine am_xn 2 (c1 := (if zi (mtb M (iv M 58 18)) = zi 64 then 66 else 70, [.ref 58, .int (zi x1), .null, .null], [], M)) rfl (am_xeq (mtb_r M (iv M 58 18)) (by decide) (fun h => ?_) (fun h => by clear hv; exfalso; omega))
          refine am_xrd 6 58 18 (pc := 77) (ls := [.ref 58, .int (zi x1), .int (zi 1), .null]) (st := [.ref 58]) rfl ?_
          refine am_xiadd 5 (iv M 58 18) 1 (pc := 87) (ls := [.ref 58, .int (zi x1), .int (zi 1), .null]) (st := [.ref 58]) rfl ?_
          refine am_xn 1 (c1 := (90, [.ref 58, .int (zi x1), .int (zi 1), .null], [], zup M 58 18 ((iv M 58 18) + 1))) rfl ?_
          obtain ⟨M15, eM15⟩ : ∃ m, m = zup M 58 18 ((iv M 58 18) + 1) := ⟨_, rfl⟩
          replace hv := hv M15 eM15
          rw [← eM15]
          refine am_xn 4 (c1 := (98, [.ref 58, .int (zi x1), .int (zi 1), .null], [.ref 58, .int (zi 1000)], M15)) rfl ?_
          obtain ⟨r17, M16, hc, hv⟩ := hv
          refine am_xc t_Mo_readsNumber (.invokevirtual 195) 195 (av := [.ref 58]) (rest := [.int (zi 1000)]) (rv := some (.int (zi r17))) (M' := M16) rfl rfl rfl rfl (Nat.le_of_ble_eq_true rfl) (fun _ => rfl) (hc) ?_
          refine am_xn 0 (c1 := (101, [.ref 58, .int (zi x1), .int (zi 1), .null], [.int (zi r17), .int (zi 1000)], M16)) rfl ?_
          refine am_xiadd 1 1000 r17 (pc := 102) (ls := [.ref 58, .int (zi x1), .int (zi 1), .null]) (st := []) rfl ?_
          refine am_xiadd 6 6 x1 (pc := 116) (ls := [.ref 58, .int (zi x1), .int (zi 1), .int (zi (1000 + r17))]) (st := [.ref 58]) rfl ?_
          refine am_xn 1 (c1 := (117, [.ref 58, .int (zi x1), .int (zi 1), .int (zi (1000 + r17))], [.int (zi (1000 + r17)), .int (zi (6 + x1)), .ref 58], M16)) rfl ?_
          obtain ⟨g, hv⟩ := hv
          obtain ⟨M18, eM18⟩ : ∃ m, m = zup M16 74 (12 * iv M16 58 21 + (6 + x1)) (1000 + r17) := ⟨_, rfl⟩
          replace hv := hv M18 eM18
          refine am_xc t_Mo_puts (.invokevirtual 201) 201 (av := [.ref 58, .int (zi (6 + x1)), .int (zi (1000 + r17))]) (rest := []) (rv := none) (M' := M18) rfl rfl rfl rfl (Nat.le_of_ble_eq_true rfl) (fun _ => rfl) (by rw [eM18]; exact sp_puts M16 (6 + x1) (1000 + r17) g) ?_
          refine am_xn 0 (c1 := (120, [.ref 58, .int (zi x1), .int (zi 1), .int (zi (1000 + r17))], [], M18)) rfl ?_
          refine am_xn 1 (c1 := (123, [.ref 58, .int (zi x1 + zi 1), .int (zi 1), .int (zi (1000 + r17))], [], M18)) rfl ?_
          rw [zi_add]
          refine am_xn 1 (c1 := (124, [.ref 58, .int (zi (x1 + 1)), .int (zi 1), .int (zi (1000 + r17))], [.ref 58], M18)) rfl ?_
          obtain ⟨M19, hc, hv⟩ := hv
          refine am_xc t_Mo_skips (.invokevirtual 174) 174 (av := [.ref 58]) (rest := []) (rv := none) (M' := M19) rfl rfl rfl rfl (Nat.le_of_ble_eq_true rfl) (fun _ => rfl) (hc) ?_
          refine am_xn 0 (c1 := (127, [.ref 58, .int (zi (x1 + 1)), .int (zi 1), .int (zi (1000 + r17))], [], M19)) rfl ?_
          refine am_xn 1 (c1 := (6, [.ref 58, .int (zi (x1 + 1)), .int (zi 1), .int (zi (1000 + r17))], [], M19)) rfl ?_
          refine am_xf 2 ?_
          refine am_xf 3 ?_
          exact hv
      · replace hv := hv.2 h
        refine am_xn 3 (c1 := (133, [.ref 58, .int (zi x1), .null, .null], [.int (zi x1), .int (zi 5), .ref 58], M)) rfl ?_
        obtain ⟨g, hv⟩ := hv
        obtain ⟨M20, eM20⟩ : ∃ m, m = zup M 74 (12 * iv M 58 21 + 5) x1 := ⟨_, rfl⟩
        replace hv := hv M20 eM20
        refine am_xc t_Mo_puts (.invokevirtual 201) 201 (av := [.ref 58, .int (zi 5), .int (zi x1)]) (rest := []) (rv := none) (M' := M20) rfl rfl rfl rfl (Nat.le_of_ble_eq_true rfl) (fun _ => rfl) (by rw [eM20]; exact sp_puts M 5 x1 g) ?_
        refine am_xn 0 (c1 := (136, [.ref 58, .int (zi x1), .null, .null], [], M20)) rfl ?_
        exact am_xr none ⟨rfl, rfl, rfl⟩ hv
  · replace hv := hv.2 h
    refine am_xn 3 (c1 := (133, [.ref 58, .int (zi x1), .null, .null], [.int (zi x1), .int (zi 5), .ref 58], M)) rfl ?_
    obtain ⟨g, hv⟩ := hv
    obtain ⟨M22, eM22⟩ : ∃ m, m = zup M 74 (12 * iv M 58 21 + 5) x1 := ⟨_, rfl⟩
    replace hv := hv M22 eM22
    refine am_xc t_Mo_puts (.invokevirtual 201) 201 (av := [.ref 58, .int (zi 5), .int (zi x1)]) (rest := []) (rv := none) (M' := M22) rfl rfl rfl rfl (Nat.le_of_ble_eq_true rfl) (fun _ => rfl) (by rw [eM22]; exact sp_puts M 5 x1 g) ?_
    refine am_xn 0 (c1 := (136, [.ref 58, .int (zi x1), .null, .null], [], M22)) rfl ?_
    exact am_xr none ⟨rfl, rfl, rfl⟩ hv
set_option maxRecDepth 100000 in
theorem vc_readsSaving  (M : am_M) (Q : Option Value → am_M → Prop) (hv : ∃ M1, am_call t_Mo_skips [.ref 58] M none M1 ∧ (((iv M1 58 19) = (-1) → (0 ≤ (iv M1 58 18) ∧ (iv M1 58 18) ≤ 1000 ∧ iv M1 58 17 ≤ 120) ∧ ((isl (mtb M1 (iv M1 58 18)) → ∃ (r3 : Int) (M2 : am_M), am_call t_Mo_readsLetters [.ref 58] M1 (some (.long (zl r3))) M2 ∧ ((zlr r3) ∧ (((zcmp r3 639313351) = 0 → (0 ≤ 12 * iv M2 58 21 + (4 : Int) ∧ 12 * iv M2 58 21 + (4 : Int) < 492) ∧ (∀ M5, M5 = zup M2 74 (12 * iv M2 58 21 + 4) 1 → Q none M5)) ∧ (¬ (zcmp r3 639313351) = 0 → ∃ M6, am_call t_Mo_fails [.ref 58, .int (zi (iv M1 58 18))] M2 none M6 ∧ (Q none M6))))) ∧ (¬ (isl (mtb M1 (iv M1 58 18))) → Q none M1))) ∧ (¬ (iv M1 58 19) = (-1) → Q none M1))) : am_x t_Mo_readsSaving (0, am_ent (am_mL t_Mo_readsSaving) [.ref 58], [], M) Q := by
  refine am_xn 0 (c1 := (0, [.ref 58, .null], [], M)) rfl ?_
  refine am_xn 1 (c1 := (1, [.ref 58, .null], [.ref 58], M)) rfl ?_
  obtain ⟨M1, hc, hv⟩ := hv
  refine am_xc t_Mo_skips (.invokevirtual 174) 174 (av := [.ref 58]) (rest := []) (rv := none) (M' := M1) rfl rfl rfl rfl (Nat.le_of_ble_eq_true rfl) (fun _ => rfl) (hc) ?_
  refine am_xn 0 (c1 := (4, [.ref 58, .null], [], M1)) rfl ?_
  refine am_xrd 2 58 19 (pc := 8) (ls := [.ref 58, .null]) (st := []) rfl ?_
  refine am_xn 2 (c1 := (if zi (iv M1 58 19) = zi (-1) then 12 else 67, [.ref 58, .null], [], M1)) rfl (am_xeq (iv_r _ _ _) (by decide) (fun h => ?_) (fun h => ?_))
  · replace hv := hv.1 h
    refine am_xrd 3 58 18 (pc := 17) (ls := [.ref 58, .null]) (st := [.ref 58]) rfl ?_
    obtain ⟨g, hv⟩ := hv
    by_cases c7 : isl (mtb M1 (iv M1 58 18))
    · replace hv := hv.1 c7
      refine am_xc t_Mo_isSmall (.invokevirtual 161) 161 (av := [.ref 58, .int (zi (iv M1 58 18))]) (rest := []) (rv := some (.int (zi 1))) (M' := M1) rfl rfl rfl rfl (Nat.le_of_ble_eq_true rfl) (fun _ => rfl) (by have q := sp_isSmall M1 (iv M1 58 18) g; rwa [if_pos c7] at q) ?_
      refine am_xn 0 (c1 := (20, [.ref 58, .null], [.int (zi 1)], M1)) rfl ?_
      refine am_xrd 3 58 18 (pc := 27) (ls := [.ref 58, .null]) (st := []) rfl ?_
      refine am_xn 2 (c1 := (29, [.ref 58, .int (zi (iv M1 58 18))], [.ref 58], M1)) rfl ?_
      obtain ⟨r3, M2, hc, hv⟩ := hv
      refine am_xc t_Mo_readsLetters (.invokevirtual 177) 177 (av := [.ref 58]) (rest := []) (rv := some (.long (zl r3))) (M' := M2) rfl rfl rfl rfl (Nat.le_of_ble_eq_true rfl) (fun _ => rfl) (hc) ?_
      refine am_xn 0 (c1 := (32, [.ref 58, .int (zi (iv M1 58 18))], [.long (zl r3)], M2)) rfl ?_
      refine am_xn 8 (c1 := (46, [.ref 58, .int (zi (iv M1 58 18))], [.int (zi 0), .int (zi 0), .int (zi 103), .int (zi 110), .int (zi 105), .int (zi 118), .int (zi 97), .int (zi 115), .long (zl r3)], M2)) rfl ?_
      refine am_xc t_Mo_lettersOf (.invokestatic 170) 170 (av := [.int (zi 115), .int (zi 97), .int (zi 118), .int (zi 105), .int (zi 110), .int (zi 103), .int (zi 0), .int (zi 0)]) (rest := [.long (zl r3)]) (rv := some (.long (zl 639313351))) (M' := M2) rfl rfl rfl rfl (Nat.le_of_ble_eq_true rfl) (fun h => nomatch h) (sp_letters8 M2) ?_
      refine am_xn 0 (c1 := (49, [.ref 58, .int (zi (iv M1 58 18))], [.long (zl 639313351), .long (zl r3)], M2)) rfl ?_
      obtain ⟨r4, hv⟩ := hv
      refine am_xlcmp 1 r3 639313351 r4 (by decide) (pc := 50) (ls := [.ref 58, .int (zi (iv M1 58 18))]) (st := []) rfl ?_
      refine am_xn 1 (c1 := (if zi (zcmp r3 639313351) = zi 0 then 53 else 62, [.ref 58, .int (zi (iv M1 58 18))], [], M2)) rfl (am_xeq (zr_zcmp _ _) (by decide) (fun h => ?_) (fun h => ?_))
      · replace hv := hv.1 h
        refine am_xn 3 (c1 := (56, [.ref 58, .int (zi (iv M1 58 18))], [.int (zi 1), .int (zi 4), .ref 58], M2)) rfl ?_
        obtain ⟨g, hv⟩ := hv
        obtain ⟨M5, eM5⟩ : ∃ m, m = zup M2 74 (12 * iv M2 58 21 + 4) 1 := ⟨_, rfl⟩
        replace hv := hv M5 eM5
        refine am_xc t_Mo_puts (.invokevirtual 201) 201 (av := [.ref 58, .int (zi 4), .int (zi 1)]) (rest := []) (rv := none) (M' := M5) rfl rfl rfl rfl (Nat.le_of_ble_eq_true rfl) (fun _ => rfl) (by rw [eM5]; exact sp_puts M2 4 1 g) ?_
        refine am_xn 0 (c1 := (59, [.ref 58, .int (zi (iv M1 58 18))], [], M5)) rfl ?_
        refine am_xn 1 (c1 := (67, [.ref 58, .int (zi (iv M1 58 18))], [], M5)) rfl ?_
        exact am_xr none ⟨rfl, rfl, rfl⟩ hv
      · replace hv := hv.2 h
        refine am_xn 2 (c1 := (64, [.ref 58, .int (zi (iv M1 58 18))], [.int (zi (iv M1 58 18)), .ref 58], M2)) rfl ?_
        obtain ⟨M6, hc, hv⟩ := hv
        refine am_xc t_Mo_fails (.invokevirtual 181) 181 (av := [.ref 58, .int (zi (iv M1 58 18))]) (rest := []) (rv := none) (M' := M6) rfl rfl rfl rfl (Nat.le_of_ble_eq_true rfl) (fun _ => rfl) (hc) ?_
        refine am_xn 0 (c1 := (67, [.ref 58, .int (zi (iv M1 58 18))], [], M6)) rfl ?_
        exact am_xr none ⟨rfl, rfl, rfl⟩ hv
    · replace hv := hv.2 c7
      refine am_xc t_Mo_isSmall (.invokevirtual 161) 161 (av := [.ref 58, .int (zi (iv M1 58 18))]) (rest := []) (rv := some (.int (zi 0))) (M' := M1) rfl rfl rfl rfl (Nat.le_of_ble_eq_true rfl) (fun _ => rfl) (by have q := sp_isSmall M1 (iv M1 58 18) g; rwa [if_neg c7] at q) ?_
      refine am_xn 0 (c1 := (20, [.ref 58, .null], [.int (zi 0)], M1)) rfl ?_
      refine am_xn 1 (c1 := (67, [.ref 58, .null], [], M1)) rfl ?_
      exact am_xr none ⟨rfl, rfl, rfl⟩ hv
  · replace hv := hv.2 h
    exact am_xr none ⟨rfl, rfl, rfl⟩ hv
set_option maxRecDepth 100000 in
theorem vc_readsOperation  (M : am_M) (Q : Option Value → am_M → Prop) (hv : ((iv M 58 21) = 40 → ∃ M1, am_call t_Mo_fails [.ref 58, .int (zi (iv M 58 18))] M none M1 ∧ (Q none M1)) ∧ (¬ (iv M 58 21) = 40 → am_x t_Mo_readsOperation (25, [.ref 58, .int (zi (iv M 58 18)), .int (zi 0)], [], M) Q)) : am_x t_Mo_readsOperation (0, am_ent (am_mL t_Mo_readsOperation) [.ref 58], [], M) Q := by
  refine am_xn 0 (c1 := (0, [.ref 58, .null, .null], [], M)) rfl ?_
  refine am_xrd 2 58 18 (pc := 4) (ls := [.ref 58, .null, .null]) (st := []) rfl ?_
  refine am_xrd 3 58 21 (pc := 9) (ls := [.ref 58, .int (zi (iv M 58 18)), .null]) (st := []) rfl ?_
  refine am_xn 2 (c1 := (if zi (iv M 58 21) = zi 40 then 14 else 23, [.ref 58, .int (zi (iv M 58 18)), .null], [], M)) rfl (am_xeq (iv_r _ _ _) (by decide) (fun h => ?_) (fun h => ?_))
  · replace hv := hv.1 h
    refine am_xrd 3 58 18 (pc := 19) (ls := [.ref 58, .int (zi (iv M 58 18)), .null]) (st := [.ref 58]) rfl ?_
    obtain ⟨M1, hc, hv⟩ := hv
    refine am_xc t_Mo_fails (.invokevirtual 181) 181 (av := [.ref 58, .int (zi (iv M 58 18))]) (rest := []) (rv := none) (M' := M1) rfl rfl rfl rfl (Nat.le_of_ble_eq_true rfl) (fun _ => rfl) (hc) ?_
    refine am_xn 0 (c1 := (22, [.ref 58, .int (zi (iv M 58 18)), .null], [], M1)) rfl ?_
    exact am_xr none ⟨rfl, rfl, rfl⟩ hv
  · replace hv := hv.2 h
    refine am_xn 2 (c1 := (25, [.ref 58, .int (zi (iv M 58 18)), .int (zi 0)], [], M)) rfl ?_
    exact hv
set_option maxRecDepth 100000 in
theorem vc_readsOperation_25 (x1 : Int) (x2 : Int) (M : am_M) (Q : Option Value → am_M → Prop) (hv : (zr x2) ∧ ((x2 < 12 → (0 ≤ 12 * iv M 58 21 + x2 ∧ 12 * iv M 58 21 + x2 < 492) ∧ (∀ M2, M2 = zup M 74 (12 * iv M 58 21 + x2) 0 → am_x t_Mo_readsOperation (25, [.ref 58, .int (zi x1), .int (zi (x2 + 1))], [], M2) Q)) ∧ (12 ≤ x2 → ∃ (r4 : Int) (M3 : am_M), am_call t_Mo_readsLetters [.ref 58] M (some (.long (zl r4))) M3 ∧ ((zlr r4) ∧ (((kof r4) = (-1) → ∃ M5, am_call t_Mo_fails [.ref 58, .int (zi x1)] M3 none M5 ∧ (Q none M5)) ∧ (¬ (kof r4) = (-1) → (0 ≤ 12 * iv M3 58 21 + (0 : Int) ∧ 12 * iv M3 58 21 + (0 : Int) < 492) ∧ (∀ M6, M6 = zup M3 74 (12 * iv M3 58 21 + 0) (kof r4) → ∃ (r8 : Int) (M7 : am_M), am_call t_Mo_numberBehindBlanks [.ref 58] M6 (some (.int (zi r8))) M7 ∧ ((0 ≤ 12 * iv M7 58 21 + (1 : Int) ∧ 12 * iv M7 58 21 + (1 : Int) < 492) ∧ (∀ M9, M9 = zup M7 74 (12 * iv M7 58 21 + 1) r8 → ((kof r4) < 2 → ∃ M10, am_call t_Mo_readsWords [.ref 58] M9 none M10 ∧ (((kof r4) = 1 → ∃ M11, am_call t_Mo_readsSaving [.ref 58] M10 none M11 ∧ (∃ M12, am_call t_Mo_skips [.ref 58] M11 none M12 ∧ (∀ M13, M13 = zup M12 58 21 ((iv M12 58 21) + 1) → Q none M13))) ∧ (¬ (kof r4) = 1 → ∃ M14, am_call t_Mo_skips [.ref 58] M10 none M14 ∧ (∀ M15, M15 = zup M14 58 21 ((iv M14 58 21) + 1) → Q none M15)))) ∧ (2 ≤ (kof r4) → ((kof r4) = 3 → ∃ M16, am_call t_Mo_needsWord [.ref 58, .long (zl 655)] M9 none M16 ∧ (∃ (r18 : Int) (M17 : am_M), am_call t_Mo_numberBehindBlanks [.ref 58] M16 (some (.int (zi r18))) M17 ∧ ((0 ≤ 12 * iv M17 58 21 + (2 : Int) ∧ 12 * iv M17 58 21 + (2 : Int) < 492) ∧ (∀ M19, M19 = zup M17 74 (12 * iv M17 58 21 + 2) r18 → ∃ M20, am_call t_Mo_skips [.ref 58] M19 none M20 ∧ (∀ M21, M21 = zup M20 58 21 ((iv M20 58 21) + 1) → Q none M21))))) ∧ (¬ (kof r4) = 3 → ((kof r4) = 4 → ∃ M22, am_call t_Mo_needsWord [.ref 58, .long (zl 6642)] M9 none M22 ∧ (∃ (r24 : Int) (M23 : am_M), am_call t_Mo_plainBehindBlanks [.ref 58] M22 (some (.int (zi r24))) M23 ∧ ((0 ≤ 12 * iv M23 58 21 + (2 : Int) ∧ 12 * iv M23 58 21 + (2 : Int) < 492) ∧ (∀ M25, M25 = zup M23 74 (12 * iv M23 58 21 + 2) r24 → ∃ M26, am_call t_Mo_needsWord [.ref 58, .long (zl 17076)] M25 none M26 ∧ (∃ (r28 : Int) (M27 : am_M), am_call t_Mo_plainBehindBlanks [.ref 58] M26 (some (.int (zi r28))) M27 ∧ ((0 ≤ 12 * iv M27 58 21 + (3 : Int) ∧ 12 * iv M27 58 21 + (3 : Int) < 492) ∧ (∀ M29, M29 = zup M27 74 (12 * iv M27 58 21 + 3) r28 → ∃ M30, am_call t_Mo_readsSaving [.ref 58] M29 none M30 ∧ (∃ M31, am_call t_Mo_skips [.ref 58] M30 none M31 ∧ (∀ M32, M32 = zup M31 58 21 ((iv M31 58 21) + 1) → Q none M32))))))))) ∧ (¬ (kof r4) = 4 → ((kof r4) = 2 → ∃ M33, am_call t_Mo_readsSaving [.ref 58] M9 none M33 ∧ (∃ M34, am_call t_Mo_skips [.ref 58] M33 none M34 ∧ (∀ M35, M35 = zup M34 58 21 ((iv M34 58 21) + 1) → Q none M35))) ∧ (¬ (kof r4) = 2 → ∃ M36, am_call t_Mo_skips [.ref 58] M9 none M36 ∧ (∀ M37, M37 = zup M36 58 21 ((iv M36 58 21) + 1) → Q none M37)))))))))))))) : am_x t_Mo_readsOperation (25, [.ref 58, .int (zi x1), .int (zi x2)], [], M) Q := by
  obtain ⟨r1, hv⟩ := hv
  refine am_xn 3 (c1 := (if zi x2 < zi 12 then 31 else 43, [.ref 58, .int (zi x1), .int (zi x2)], [], M)) rfl (am_xlt r1 (by decide) (fun h => ?_) (fun h => ?_))
  · replace hv := hv.1 h
    refine am_xn 3 (c1 := (34, [.ref 58, .int (zi x1), .int (zi x2)], [.int (zi 0), .int (zi x2), .ref 58], M)) rfl ?_
    obtain ⟨g, hv⟩ := hv
    obtain ⟨M2, eM2⟩ : ∃ m, m = zup M 74 (12 * iv M 58 21 + x2) 0 := ⟨_, rfl⟩
    replace hv := hv M2 eM2
    refine am_xc t_Mo_puts (.invokevirtual 201) 201 (av := [.ref 58, .int (zi x2), .int (zi 0)]) (rest := []) (rv := none) (M' := M2) rfl rfl rfl rfl (Nat.le_of_ble_eq_true rfl) (fun _ => rfl) (by rw [eM2]; exact sp_puts M x2 0 g) ?_
    refine am_xn 0 (c1 := (37, [.ref 58, .int (zi x1), .int (zi x2)], [], M2)) rfl ?_
    refine am_xn 1 (c1 := (40, [.ref 58, .int (zi x1), .int (zi x2 + zi 1)], [], M2)) rfl ?_
    rw [zi_add]
    refine am_xn 1 (c1 := (25, [.ref 58, .int (zi x1), .int (zi (x2 + 1))], [], M2)) rfl ?_
    exact hv
  · replace hv := hv.2 h
    refine am_xn 1 (c1 := (44, [.ref 58, .int (zi x1), .int (zi x2)], [.ref 58], M)) rfl ?_
    obtain ⟨r4, M3, hc, hv⟩ := hv
    refine am_xc t_Mo_readsLetters (.invokevirtual 177) 177 (av := [.ref 58]) (rest := []) (rv := some (.long (zl r4))) (M' := M3) rfl rfl rfl rfl (Nat.le_of_ble_eq_true rfl) (fun _ => rfl) (hc) ?_
    refine am_xn 0 (c1 := (47, [.ref 58, .int (zi x1), .int (zi x2)], [.long (zl r4)], M3)) rfl ?_
    obtain ⟨g, hv⟩ := hv
    refine am_xc t_Mo_kindOf (.invokestatic 204) 204 (av := [.long (zl r4)]) (rest := []) (rv := some (.int (zi (kof r4)))) (M' := M3) rfl rfl rfl rfl (Nat.le_of_ble_eq_true rfl) (fun h => nomatch h) (sp_kindOf M3 r4 g) ?_
    refine am_xn 0 (c1 := (50, [.ref 58, .int (zi x1), .int (zi x2)], [.int (zi (kof r4))], M3)) rfl ?_
    refine am_xn 4 (c1 := (if zi (kof r4) = zi (-1) then 56 else 62, [.ref 58, .int (zi x1), .int (zi (kof r4))], [], M3)) rfl (am_xeq (kof_r r4) (by decide) (fun h => ?_) (fun h => ?_))
    · replace hv := hv.1 h
      refine am_xn 2 (c1 := (58, [.ref 58, .int (zi x1), .int (zi (kof r4))], [.int (zi x1), .ref 58], M3)) rfl ?_
      obtain ⟨M5, hc, hv⟩ := hv
      refine am_xc t_Mo_fails (.invokevirtual 181) 181 (av := [.ref 58, .int (zi x1)]) (rest := []) (rv := none) (M' := M5) rfl rfl rfl rfl (Nat.le_of_ble_eq_true rfl) (fun _ => rfl) (hc) ?_
      refine am_xn 0 (c1 := (61, [.ref 58, .int (zi x1), .int (zi (kof r4))], [], M5)) rfl ?_
      exact am_xr none ⟨rfl, rfl, rfl⟩ hv
    · replace hv := hv.2 h
      refine am_xn 3 (c1 := (65, [.ref 58, .int (zi x1), .int (zi (kof r4))], [.int (zi (kof r4)), .int (zi 0), .ref 58], M3)) rfl ?_
      obtain ⟨g, hv⟩ := hv
      obtain ⟨M6, eM6⟩ : ∃ m, m = zup M3 74 (12 * iv M3 58 21 + 0) (kof r4) := ⟨_, rfl⟩
      replace hv := hv M6 eM6
      refine am_xc t_Mo_puts (.invokevirtual 201) 201 (av := [.ref 58, .int (zi 0), .int (zi (kof r4))]) (rest := []) (rv := none) (M' := M6) rfl rfl rfl rfl (Nat.le_of_ble_eq_true rfl) (fun _ => rfl) (by rw [eM6]; exact sp_puts M3 0 (kof r4) g) ?_
      refine am_xn 0 (c1 := (68, [.ref 58, .int (zi x1), .int (zi (kof r4))], [], M6)) rfl ?_
      refine am_xn 3 (c1 := (71, [.ref 58, .int (zi x1), .int (zi (kof r4))], [.ref 58, .int (zi 1), .ref 58], M6)) rfl ?_
      obtain ⟨r8, M7, hc, hv⟩ := hv
      refine am_xc t_Mo_numberBehindBlanks (.invokevirtual 208) 208 (av := [.ref 58]) (rest := [.int (zi 1), .ref 58]) (rv := some (.int (zi r8))) (M' := M7) rfl rfl rfl rfl (Nat.le_of_ble_eq_true rfl) (fun _ => rfl) (hc) ?_
      refine am_xn 0 (c1 := (74, [.ref 58, .int (zi x1), .int (zi (kof r4))], [.int (zi r8), .int (zi 1), .ref 58], M7)) rfl ?_
      obtain ⟨g, hv⟩ := hv
      obtain ⟨M9, eM9⟩ : ∃ m, m = zup M7 74 (12 * iv M7 58 21 + 1) r8 := ⟨_, rfl⟩
      replace hv := hv M9 eM9
      refine am_xc t_Mo_puts (.invokevirtual 201) 201 (av := [.ref 58, .int (zi 1), .int (zi r8)]) (rest := []) (rv := none) (M' := M9) rfl rfl rfl rfl (Nat.le_of_ble_eq_true rfl) (fun _ => rfl) (by rw [eM9]; exact sp_puts M7 1 r8 g) ?_
      refine am_xn 0 (c1 := (77, [.ref 58, .int (zi x1), .int (zi (kof r4))], [], M9)) rfl ?_
      refine am_xn 3 (c1 := (if zi (kof r4) < zi 2 then 82 else 86, [.ref 58, .int (zi x1), .int (zi (kof r4))], [], M9)) rfl (am_xlt (kof_r r4) (by decide) (fun h => ?_) (fun h => ?_))
      · replace hv := hv.1 h
        refine am_xn 1 (c1 := (83, [.ref 58, .int (zi x1), .int (zi (kof r4))], [.ref 58], M9)) rfl ?_
        obtain ⟨M10, hc, hv⟩ := hv
        refine am_xc t_Mo_readsWords (.invokevirtual 211) 211 (av := [.ref 58]) (rest := []) (rv := none) (M' := M10) rfl rfl rfl rfl (Nat.le_of_ble_eq_true rfl) (fun _ => rfl) (hc) ?_
        refine am_xn 0 (c1 := (86, [.ref 58, .int (zi x1), .int (zi (kof r4))], [], M10)) rfl ?_
        refine am_xn 3 (c1 := (if zi (kof r4) = zi 3 then 91 else 117, [.ref 58, .int (zi x1), .int (zi (kof r4))], [], M10)) rfl (am_xeq (kof_r r4) (by decide) (fun h => by clear hv; exfalso; omega) (fun h => ?_))
        refine am_xn 3 (c1 := (if zi (kof r4) = zi 4 then 122 else 176, [.ref 58, .int (zi x1), .int (zi (kof r4))], [], M10)) rfl (am_xeq (kof_r r4) (by decide) (fun h => by clear hv; exfalso; omega) (fun h => ?_))
        refine am_xn 3 (c1 := (if zi (kof r4) = zi 1 then 191 else 181, [.ref 58, .int (zi x1), .int (zi (kof r4))], [], M10)) rfl (am_xeq (kof_r r4) (by decide) (fun h => ?_) (fun h => ?_))
        · replace hv := hv.1 h
          refine am_xn 1 (c1 := (192, [.ref 58, .int (zi x1), .int (zi (kof r4))], [.ref 58], M10)) rfl ?_
          obtain ⟨M11, hc, hv⟩ := hv
          refine am_xc t_Mo_readsSaving (.invokevirtual 221) 221 (av := [.ref 58]) (rest := []) (rv := none) (M' := M11) rfl rfl rfl rfl (Nat.le_of_ble_eq_true rfl) (fun _ => rfl) (hc) ?_
          refine am_xn 0 (c1 := (195, [.ref 58, .int (zi x1), .int (zi (kof r4))], [], M11)) rfl ?_
          refine am_xn 1 (c1 := (196, [.ref 58, .int (zi x1), .int (zi (kof r4))], [.ref 58], M11)) rfl ?_
          obtain ⟨M12, hc, hv⟩ := hv
          refine am_xc t_Mo_skips (.invokevirtual 174) 174 (av := [.ref 58]) (rest := []) (rv := none) (M' := M12) rfl rfl rfl rfl (Nat.le_of_ble_eq_true rfl) (fun _ => rfl) (hc) ?_
          refine am_xn 0 (c1 := (199, [.ref 58, .int (zi x1), .int (zi (kof r4))], [], M12)) rfl ?_
          refine am_xrd 3 58 21 (pc := 204) (ls := [.ref 58, .int (zi x1), .int (zi (kof r4))]) (st := [.ref 58]) rfl ?_
          refine am_xiadd 2 (iv M12 58 21) 1 (pc := 206) (ls := [.ref 58, .int (zi x1), .int (zi (kof r4))]) (st := [.ref 58]) rfl ?_
          refine am_xn 1 (c1 := (209, [.ref 58, .int (zi x1), .int (zi (kof r4))], [], zup M12 58 21 ((iv M12 58 21) + 1))) rfl ?_
          obtain ⟨M13, eM13⟩ : ∃ m, m = zup M12 58 21 ((iv M12 58 21) + 1) := ⟨_, rfl⟩
          replace hv := hv M13 eM13
          rw [← eM13]
          exact am_xr none ⟨rfl, rfl, rfl⟩ hv
        · replace hv := hv.2 h
          refine am_xn 3 (c1 := (if zi (kof r4) = zi 2 then 191 else 186, [.ref 58, .int (zi x1), .int (zi (kof r4))], [], M10)) rfl (am_xeq (kof_r r4) (by decide) (fun h => by clear hv; exfalso; omega) (fun h => ?_))
          refine am_xn 3 (c1 := (if zi (kof r4) = zi 4 then 191 else 195, [.ref 58, .int (zi x1), .int (zi (kof r4))], [], M10)) rfl (am_xeq (kof_r r4) (by decide) (fun h => by clear hv; exfalso; omega) (fun h => ?_))
          refine am_xn 1 (c1 := (196, [.ref 58, .int (zi x1), .int (zi (kof r4))], [.ref 58], M10)) rfl ?_
          obtain ⟨M14, hc, hv⟩ := hv
          refine am_xc t_Mo_skips (.invokevirtual 174) 174 (av := [.ref 58]) (rest := []) (rv := none) (M' := M14) rfl rfl rfl rfl (Nat.le_of_ble_eq_true rfl) (fun _ => rfl) (hc) ?_
          refine am_xn 0 (c1 := (199, [.ref 58, .int (zi x1), .int (zi (kof r4))], [], M14)) rfl ?_
          refine am_xrd 3 58 21 (pc := 204) (ls := [.ref 58, .int (zi x1), .int (zi (kof r4))]) (st := [.ref 58]) rfl ?_
          refine am_xiadd 2 (iv M14 58 21) 1 (pc := 206) (ls := [.ref 58, .int (zi x1), .int (zi (kof r4))]) (st := [.ref 58]) rfl ?_
          refine am_xn 1 (c1 := (209, [.ref 58, .int (zi x1), .int (zi (kof r4))], [], zup M14 58 21 ((iv M14 58 21) + 1))) rfl ?_
          obtain ⟨M15, eM15⟩ : ∃ m, m = zup M14 58 21 ((iv M14 58 21) + 1) := ⟨_, rfl⟩
          replace hv := hv M15 eM15
          rw [← eM15]
          exact am_xr none ⟨rfl, rfl, rfl⟩ hv
      · replace hv := hv.2 h
        refine am_xn 3 (c1 := (if zi (kof r4) = zi 3 then 91 else 117, [.ref 58, .int (zi x1), .int (zi (kof r4))], [], M9)) rfl (am_xeq (kof_r r4) (by decide) (fun h => ?_) (fun h => ?_))
        · replace hv := hv.1 h
          refine am_xn 9 (c1 := (102, [.ref 58, .int (zi x1), .int (zi (kof r4))], [.int (zi 0), .int (zi 0), .int (zi 0), .int (zi 0), .int (zi 0), .int (zi 0), .int (zi 111), .int (zi 116), .ref 58], M9)) rfl ?_
          refine am_xc t_Mo_lettersOf (.invokestatic 170) 170 (av := [.int (zi 116), .int (zi 111), .int (zi 0), .int (zi 0), .int (zi 0), .int (zi 0), .int (zi 0), .int (zi 0)]) (rest := [.ref 58]) (rv := some (.long (zl 655))) (M' := M9) rfl rfl rfl rfl (Nat.le_of_ble_eq_true rfl) (fun h => nomatch h) (sp_letters5 M9) ?_
          refine am_xn 0 (c1 := (105, [.ref 58, .int (zi x1), .int (zi (kof r4))], [.long (zl 655), .ref 58], M9)) rfl ?_
          obtain ⟨M16, hc, hv⟩ := hv
          refine am_xc t_Mo_needsWord (.invokevirtual 214) 214 (av := [.ref 58, .long (zl 655)]) (rest := []) (rv := none) (M' := M16) rfl rfl rfl rfl (Nat.le_of_ble_eq_true rfl) (fun _ => rfl) (hc) ?_
          refine am_xn 0 (c1 := (108, [.ref 58, .int (zi x1), .int (zi (kof r4))], [], M16)) rfl ?_
          refine am_xn 3 (c1 := (111, [.ref 58, .int (zi x1), .int (zi (kof r4))], [.ref 58, .int (zi 2), .ref 58], M16)) rfl ?_
          obtain ⟨r18, M17, hc, hv⟩ := hv
          refine am_xc t_Mo_numberBehindBlanks (.invokevirtual 208) 208 (av := [.ref 58]) (rest := [.int (zi 2), .ref 58]) (rv := some (.int (zi r18))) (M' := M17) rfl rfl rfl rfl (Nat.le_of_ble_eq_true rfl) (fun _ => rfl) (hc) ?_
          refine am_xn 0 (c1 := (114, [.ref 58, .int (zi x1), .int (zi (kof r4))], [.int (zi r18), .int (zi 2), .ref 58], M17)) rfl ?_
          obtain ⟨g, hv⟩ := hv
          obtain ⟨M19, eM19⟩ : ∃ m, m = zup M17 74 (12 * iv M17 58 21 + 2) r18 := ⟨_, rfl⟩
          replace hv := hv M19 eM19
          refine am_xc t_Mo_puts (.invokevirtual 201) 201 (av := [.ref 58, .int (zi 2), .int (zi r18)]) (rest := []) (rv := none) (M' := M19) rfl rfl rfl rfl (Nat.le_of_ble_eq_true rfl) (fun _ => rfl) (by rw [eM19]; exact sp_puts M17 2 r18 g) ?_
          refine am_xn 0 (c1 := (117, [.ref 58, .int (zi x1), .int (zi (kof r4))], [], M19)) rfl ?_
          refine am_xn 3 (c1 := (if zi (kof r4) = zi 4 then 122 else 176, [.ref 58, .int (zi x1), .int (zi (kof r4))], [], M19)) rfl (am_xeq (kof_r r4) (by decide) (fun h => by clear hv; exfalso; omega) (fun h => ?_))
          refine am_xn 3 (c1 := (if zi (kof r4) = zi 1 then 191 else 181, [.ref 58, .int (zi x1), .int (zi (kof r4))], [], M19)) rfl (am_xeq (kof_r r4) (by decide) (fun h => by clear hv; exfalso; omega) (fun h => ?_))
          refine am_xn 3 (c1 := (if zi (kof r4) = zi 2 then 191 else 186, [.ref 58, .int (zi x1), .int (zi (kof r4))], [], M19)) rfl (am_xeq (kof_r r4) (by decide) (fun h => by clear hv; exfalso; omega) (fun h => ?_))
          refine am_xn 3 (c1 := (if zi (kof r4) = zi 4 then 191 else 195, [.ref 58, .int (zi x1), .int (zi (kof r4))], [], M19)) rfl (am_xeq (kof_r r4) (by decide) (fun h => by clear hv; exfalso; omega) (fun h => ?_))
          refine am_xn 1 (c1 := (196, [.ref 58, .int (zi x1), .int (zi (kof r4))], [.ref 58], M19)) rfl ?_
          obtain ⟨M20, hc, hv⟩ := hv
          refine am_xc t_Mo_skips (.invokevirtual 174) 174 (av := [.ref 58]) (rest := []) (rv := none) (M' := M20) rfl rfl rfl rfl (Nat.le_of_ble_eq_true rfl) (fun _ => rfl) (hc) ?_
          refine am_xn 0 (c1 := (199, [.ref 58, .int (zi x1), .int (zi (kof r4))], [], M20)) rfl ?_
          refine am_xrd 3 58 21 (pc := 204) (ls := [.ref 58, .int (zi x1), .int (zi (kof r4))]) (st := [.ref 58]) rfl ?_
          refine am_xiadd 2 (iv M20 58 21) 1 (pc := 206) (ls := [.ref 58, .int (zi x1), .int (zi (kof r4))]) (st := [.ref 58]) rfl ?_
          refine am_xn 1 (c1 := (209, [.ref 58, .int (zi x1), .int (zi (kof r4))], [], zup M20 58 21 ((iv M20 58 21) + 1))) rfl ?_
          obtain ⟨M21, eM21⟩ : ∃ m, m = zup M20 58 21 ((iv M20 58 21) + 1) := ⟨_, rfl⟩
          replace hv := hv M21 eM21
          rw [← eM21]
          exact am_xr none ⟨rfl, rfl, rfl⟩ hv
        · replace hv := hv.2 h
          refine am_xn 3 (c1 := (if zi (kof r4) = zi 4 then 122 else 176, [.ref 58, .int (zi x1), .int (zi (kof r4))], [], M9)) rfl (am_xeq (kof_r r4) (by decide) (fun h => ?_) (fun h => ?_))
          · replace hv := hv.1 h
            refine am_xn 9 (c1 := (134, [.ref 58, .int (zi x1), .int (zi (kof r4))], [.int (zi 0), .int (zi 0), .int (zi 0), .int (zi 0), .int (zi 0), .int (zi 114), .int (zi 111), .int (zi 102), .ref 58], M9)) rfl ?_
            refine am_xc t_Mo_lettersOf (.invokestatic 170) 170 (av := [.int (zi 102), .int (zi 111), .int (zi 114), .int (zi 0), .int (zi 0), .int (zi 0), .int (zi 0), .int (zi 0)]) (rest := [.ref 58]) (rv := some (.long (zl 6642))) (M' := M9) rfl rfl rfl rfl (Nat.le_of_ble_eq_true rfl) (fun h => nomatch h) (sp_letters6 M9) ?_
            refine am_xn 0 (c1 := (137, [.ref 58, .int (zi x1), .int (zi (kof r4))], [.long (zl 6642), .ref 58], M9)) rfl ?_
            obtain ⟨M22, hc, hv⟩ := hv
            refine am_xc t_Mo_needsWord (.invokevirtual 214) 214 (av := [.ref 58, .long (zl 6642)]) (rest := []) (rv := none) (M' := M22) rfl rfl rfl rfl (Nat.le_of_ble_eq_true rfl) (fun _ => rfl) (hc) ?_
            refine am_xn 0 (c1 := (140, [.ref 58, .int (zi x1), .int (zi (kof r4))], [], M22)) rfl ?_
            refine am_xn 3 (c1 := (143, [.ref 58, .int (zi x1), .int (zi (kof r4))], [.ref 58, .int (zi 2), .ref 58], M22)) rfl ?_
            obtain ⟨r24, M23, hc, hv⟩ := hv
            refine am_xc t_Mo_plainBehindBlanks (.invokevirtual 218) 218 (av := [.ref 58]) (rest := [.int (zi 2), .ref 58]) (rv := some (.int (zi r24))) (M' := M23) rfl rfl rfl rfl (Nat.le_of_ble_eq_true rfl) (fun _ => rfl) (hc) ?_
            refine am_xn 0 (c1 := (146, [.ref 58, .int (zi x1), .int (zi (kof r4))], [.int (zi r24), .int (zi 2), .ref 58], M23)) rfl ?_
            obtain ⟨g, hv⟩ := hv
            obtain ⟨M25, eM25⟩ : ∃ m, m = zup M23 74 (12 * iv M23 58 21 + 2) r24 := ⟨_, rfl⟩
            replace hv := hv M25 eM25
            refine am_xc t_Mo_puts (.invokevirtual 201) 201 (av := [.ref 58, .int (zi 2), .int (zi r24)]) (rest := []) (rv := none) (M' := M25) rfl rfl rfl rfl (Nat.le_of_ble_eq_true rfl) (fun _ => rfl) (by rw [eM25]; exact sp_puts M23 2 r24 g) ?_
            refine am_xn 0 (c1 := (149, [.ref 58, .int (zi x1), .int (zi (kof r4))], [], M25)) rfl ?_
            refine am_xn 9 (c1 := (161, [.ref 58, .int (zi x1), .int (zi (kof r4))], [.int (zi 0), .int (zi 0), .int (zi 0), .int (zi 0), .int (zi 0), .int (zi 116), .int (zi 117), .int (zi 112), .ref 58], M25)) rfl ?_
            refine am_xc t_Mo_lettersOf (.invokestatic 170) 170 (av := [.int (zi 112), .int (zi 117), .int (zi 116), .int (zi 0), .int (zi 0), .int (zi 0), .int (zi 0), .int (zi 0)]) (rest := [.ref 58]) (rv := some (.long (zl 17076))) (M' := M25) rfl rfl rfl rfl (Nat.le_of_ble_eq_true rfl) (fun h => nomatch h) (sp_letters7 M25) ?_
            refine am_xn 0 (c1 := (164, [.ref 58, .int (zi x1), .int (zi (kof r4))], [.long (zl 17076), .ref 58], M25)) rfl ?_
            obtain ⟨M26, hc, hv⟩ := hv
            refine am_xc t_Mo_needsWord (.invokevirtual 214) 214 (av := [.ref 58, .long (zl 17076)]) (rest := []) (rv := none) (M' := M26) rfl rfl rfl rfl (Nat.le_of_ble_eq_true rfl) (fun _ => rfl) (hc) ?_
            refine am_xn 0 (c1 := (167, [.ref 58, .int (zi x1), .int (zi (kof r4))], [], M26)) rfl ?_
            refine am_xn 3 (c1 := (170, [.ref 58, .int (zi x1), .int (zi (kof r4))], [.ref 58, .int (zi 3), .ref 58], M26)) rfl ?_
            obtain ⟨r28, M27, hc, hv⟩ := hv
            refine am_xc t_Mo_plainBehindBlanks (.invokevirtual 218) 218 (av := [.ref 58]) (rest := [.int (zi 3), .ref 58]) (rv := some (.int (zi r28))) (M' := M27) rfl rfl rfl rfl (Nat.le_of_ble_eq_true rfl) (fun _ => rfl) (hc) ?_
            refine am_xn 0 (c1 := (173, [.ref 58, .int (zi x1), .int (zi (kof r4))], [.int (zi r28), .int (zi 3), .ref 58], M27)) rfl ?_
            obtain ⟨g, hv⟩ := hv
            obtain ⟨M29, eM29⟩ : ∃ m, m = zup M27 74 (12 * iv M27 58 21 + 3) r28 := ⟨_, rfl⟩
            replace hv := hv M29 eM29
            refine am_xc t_Mo_puts (.invokevirtual 201) 201 (av := [.ref 58, .int (zi 3), .int (zi r28)]) (rest := []) (rv := none) (M' := M29) rfl rfl rfl rfl (Nat.le_of_ble_eq_true rfl) (fun _ => rfl) (by rw [eM29]; exact sp_puts M27 3 r28 g) ?_
            refine am_xn 0 (c1 := (176, [.ref 58, .int (zi x1), .int (zi (kof r4))], [], M29)) rfl ?_
            refine am_xn 3 (c1 := (if zi (kof r4) = zi 1 then 191 else 181, [.ref 58, .int (zi x1), .int (zi (kof r4))], [], M29)) rfl (am_xeq (kof_r r4) (by decide) (fun h => by clear hv; exfalso; omega) (fun h => ?_))
            refine am_xn 3 (c1 := (if zi (kof r4) = zi 2 then 191 else 186, [.ref 58, .int (zi x1), .int (zi (kof r4))], [], M29)) rfl (am_xeq (kof_r r4) (by decide) (fun h => by clear hv; exfalso; omega) (fun h => ?_))
            refine am_xn 3 (c1 := (if zi (kof r4) = zi 4 then 191 else 195, [.ref 58, .int (zi x1), .int (zi (kof r4))], [], M29)) rfl (am_xeq (kof_r r4) (by decide) (fun h => ?_) (fun h => by clear hv; exfalso; omega))
            refine am_xn 1 (c1 := (192, [.ref 58, .int (zi x1), .int (zi (kof r4))], [.ref 58], M29)) rfl ?_
            obtain ⟨M30, hc, hv⟩ := hv
            refine am_xc t_Mo_readsSaving (.invokevirtual 221) 221 (av := [.ref 58]) (rest := []) (rv := none) (M' := M30) rfl rfl rfl rfl (Nat.le_of_ble_eq_true rfl) (fun _ => rfl) (hc) ?_
            refine am_xn 0 (c1 := (195, [.ref 58, .int (zi x1), .int (zi (kof r4))], [], M30)) rfl ?_
            refine am_xn 1 (c1 := (196, [.ref 58, .int (zi x1), .int (zi (kof r4))], [.ref 58], M30)) rfl ?_
            obtain ⟨M31, hc, hv⟩ := hv
            refine am_xc t_Mo_skips (.invokevirtual 174) 174 (av := [.ref 58]) (rest := []) (rv := none) (M' := M31) rfl rfl rfl rfl (Nat.le_of_ble_eq_true rfl) (fun _ => rfl) (hc) ?_
            refine am_xn 0 (c1 := (199, [.ref 58, .int (zi x1), .int (zi (kof r4))], [], M31)) rfl ?_
            refine am_xrd 3 58 21 (pc := 204) (ls := [.ref 58, .int (zi x1), .int (zi (kof r4))]) (st := [.ref 58]) rfl ?_
            refine am_xiadd 2 (iv M31 58 21) 1 (pc := 206) (ls := [.ref 58, .int (zi x1), .int (zi (kof r4))]) (st := [.ref 58]) rfl ?_
            refine am_xn 1 (c1 := (209, [.ref 58, .int (zi x1), .int (zi (kof r4))], [], zup M31 58 21 ((iv M31 58 21) + 1))) rfl ?_
            obtain ⟨M32, eM32⟩ : ∃ m, m = zup M31 58 21 ((iv M31 58 21) + 1) := ⟨_, rfl⟩
            replace hv := hv M32 eM32
            rw [← eM32]
            exact am_xr none ⟨rfl, rfl, rfl⟩ hv
          · replace hv := hv.2 h
            refine am_xn 3 (c1 := (if zi (kof r4) = zi 1 then 191 else 181, [.ref 58, .int (zi x1), .int (zi (kof r4))], [], M9)) rfl (am_xeq (kof_r r4) (by decide) (fun h => by clear hv; exfalso; omega) (fun h => ?_))
            refine am_xn 3 (c1 := (if zi (kof r4) = zi 2 then 191 else 186, [.ref 58, .int (zi x1), .int (zi (kof r4))], [], M9)) rfl (am_xeq (kof_r r4) (by decide) (fun h => ?_) (fun h => ?_))
            · replace hv := hv.1 h
              refine am_xn 1 (c1 := (192, [.ref 58, .int (zi x1), .int (zi (kof r4))], [.ref 58], M9)) rfl ?_
              obtain ⟨M33, hc, hv⟩ := hv
              refine am_xc t_Mo_readsSaving (.invokevirtual 221) 221 (av := [.ref 58]) (rest := []) (rv := none) (M' := M33) rfl rfl rfl rfl (Nat.le_of_ble_eq_true rfl) (fun _ => rfl) (hc) ?_
              refine am_xn 0 (c1 := (195, [.ref 58, .int (zi x1), .int (zi (kof r4))], [], M33)) rfl ?_
              refine am_xn 1 (c1 := (196, [.ref 58, .int (zi x1), .int (zi (kof r4))], [.ref 58], M33)) rfl ?_
              obtain ⟨M34, hc, hv⟩ := hv
              refine am_xc t_Mo_skips (.invokevirtual 174) 174 (av := [.ref 58]) (rest := []) (rv := none) (M' := M34) rfl rfl rfl rfl (Nat.le_of_ble_eq_true rfl) (fun _ => rfl) (hc) ?_
              refine am_xn 0 (c1 := (199, [.ref 58, .int (zi x1), .int (zi (kof r4))], [], M34)) rfl ?_
              refine am_xrd 3 58 21 (pc := 204) (ls := [.ref 58, .int (zi x1), .int (zi (kof r4))]) (st := [.ref 58]) rfl ?_
              refine am_xiadd 2 (iv M34 58 21) 1 (pc := 206) (ls := [.ref 58, .int (zi x1), .int (zi (kof r4))]) (st := [.ref 58]) rfl ?_
              refine am_xn 1 (c1 := (209, [.ref 58, .int (zi x1), .int (zi (kof r4))], [], zup M34 58 21 ((iv M34 58 21) + 1))) rfl ?_
              obtain ⟨M35, eM35⟩ : ∃ m, m = zup M34 58 21 ((iv M34 58 21) + 1) := ⟨_, rfl⟩
              replace hv := hv M35 eM35
              rw [← eM35]
              exact am_xr none ⟨rfl, rfl, rfl⟩ hv
            · replace hv := hv.2 h
              refine am_xn 3 (c1 := (if zi (kof r4) = zi 4 then 191 else 195, [.ref 58, .int (zi x1), .int (zi (kof r4))], [], M9)) rfl (am_xeq (kof_r r4) (by decide) (fun h => by clear hv; exfalso; omega) (fun h => ?_))
              refine am_xn 1 (c1 := (196, [.ref 58, .int (zi x1), .int (zi (kof r4))], [.ref 58], M9)) rfl ?_
              obtain ⟨M36, hc, hv⟩ := hv
              refine am_xc t_Mo_skips (.invokevirtual 174) 174 (av := [.ref 58]) (rest := []) (rv := none) (M' := M36) rfl rfl rfl rfl (Nat.le_of_ble_eq_true rfl) (fun _ => rfl) (hc) ?_
              refine am_xn 0 (c1 := (199, [.ref 58, .int (zi x1), .int (zi (kof r4))], [], M36)) rfl ?_
              refine am_xrd 3 58 21 (pc := 204) (ls := [.ref 58, .int (zi x1), .int (zi (kof r4))]) (st := [.ref 58]) rfl ?_
              refine am_xiadd 2 (iv M36 58 21) 1 (pc := 206) (ls := [.ref 58, .int (zi x1), .int (zi (kof r4))]) (st := [.ref 58]) rfl ?_
              refine am_xn 1 (c1 := (209, [.ref 58, .int (zi x1), .int (zi (kof r4))], [], zup M36 58 21 ((iv M36 58 21) + 1))) rfl ?_
              obtain ⟨M37, eM37⟩ : ∃ m, m = zup M36 58 21 ((iv M36 58 21) + 1) := ⟨_, rfl⟩
              replace hv := hv M37 eM37
              rw [← eM37]
              exact am_xr none ⟨rfl, rfl, rfl⟩ hv
set_option maxRecDepth 100000 in
theorem vc_readsAll  (M : am_M) (Q : Option Value → am_M → Prop) (hv : ∀ M1, M1 = zup M 58 18 0 → ∀ M2, M2 = zup M1 58 19 (-1) → ∀ M3, M3 = zup M2 58 21 0 → am_x t_Mo_readsAll (17, [.ref 58, .int (zi 1)], [], M3) Q) : am_x t_Mo_readsAll (0, am_ent (am_mL t_Mo_readsAll) [.ref 58], [], M) Q := by
  refine am_xn 0 (c1 := (0, [.ref 58, .null], [], M)) rfl ?_
  refine am_xn 3 (c1 := (5, [.ref 58, .null], [], zup M 58 18 0)) rfl ?_
  obtain ⟨M1, eM1⟩ : ∃ m, m = zup M 58 18 0 := ⟨_, rfl⟩
  replace hv := hv M1 eM1
  rw [← eM1]
  refine am_xn 3 (c1 := (10, [.ref 58, .null], [], zup M1 58 19 (-1))) rfl ?_
  obtain ⟨M2, eM2⟩ : ∃ m, m = zup M1 58 19 (-1) := ⟨_, rfl⟩
  replace hv := hv M2 eM2
  rw [← eM2]
  refine am_xn 3 (c1 := (15, [.ref 58, .null], [], zup M2 58 21 0)) rfl ?_
  obtain ⟨M3, eM3⟩ : ∃ m, m = zup M2 58 21 0 := ⟨_, rfl⟩
  replace hv := hv M3 eM3
  rw [← eM3]
  refine am_xn 2 (c1 := (17, [.ref 58, .int (zi 1)], [], M3)) rfl ?_
  exact hv
set_option maxRecDepth 100000 in
theorem vc_readsAll_17 (x1 : Int) (M : am_M) (Q : Option Value → am_M → Prop) (hv : ((iv M 58 19) = (-1) → (zr x1) ∧ ((x1 = 0 → Q none M) ∧ (¬ x1 = 0 → ∃ M2, am_call t_Mo_skips [.ref 58] M none M2 ∧ (∃ M3, am_call t_Mo_readsOperation [.ref 58] M2 none M3 ∧ ((0 ≤ (iv M3 58 18) ∧ (iv M3 58 18) ≤ 1000 ∧ iv M3 58 17 ≤ 120) ∧ (((mtb M3 (iv M3 58 18)) = 59 → ((iv M3 58 19) = (-1) → ∀ M4, M4 = zup M3 58 18 ((iv M3 58 18) + 1) → am_x t_Mo_readsAll (17, [.ref 58, .int (zi 1)], [], M4) Q) ∧ (¬ (iv M3 58 19) = (-1) → ∀ M5, M5 = zup M3 58 18 ((iv M3 58 18) + 1) → am_x t_Mo_readsAll (17, [.ref 58, .int (zi 1)], [], M5) Q)) ∧ (¬ (mtb M3 (iv M3 58 18)) = 59 → ((iv M3 58 19) = (-1) → ((iv M3 58 18) < (iv M3 58 17) → ∃ M6, am_call t_Mo_fails [.ref 58, .int (zi (iv M3 58 18))] M3 none M6 ∧ (∀ M7, M7 = zup M6 58 18 ((iv M6 58 18) + 0) → am_x t_Mo_readsAll (17, [.ref 58, .int (zi 0)], [], M7) Q)) ∧ ((iv M3 58 17) ≤ (iv M3 58 18) → ∀ M8, M8 = zup M3 58 18 ((iv M3 58 18) + 0) → am_x t_Mo_readsAll (17, [.ref 58, .int (zi 0)], [], M8) Q)) ∧ (¬ (iv M3 58 19) = (-1) → ∀ M9, M9 = zup M3 58 18 ((iv M3 58 18) + 0) → am_x t_Mo_readsAll (17, [.ref 58, .int (zi 0)], [], M9) Q)))))))) ∧ (¬ (iv M 58 19) = (-1) → Q none M)) : am_x t_Mo_readsAll (17, [.ref 58, .int (zi x1)], [], M) Q := by
  refine am_xrd 2 58 19 (pc := 21) (ls := [.ref 58, .int (zi x1)]) (st := []) rfl ?_
  refine am_xn 2 (c1 := (if zi (iv M 58 19) = zi (-1) then 25 else 108, [.ref 58, .int (zi x1)], [], M)) rfl (am_xeq (iv_r _ _ _) (by decide) (fun h => ?_) (fun h => ?_))
  · replace hv := hv.1 h
    obtain ⟨r1, hv⟩ := hv
    refine am_xn 2 (c1 := (if zi x1 = zi 0 then 108 else 29, [.ref 58, .int (zi x1)], [], M)) rfl (am_xeq r1 (by decide) (fun h => ?_) (fun h => ?_))
    · replace hv := hv.1 h
      exact am_xr none ⟨rfl, rfl, rfl⟩ hv
    · replace hv := hv.2 h
      refine am_xn 1 (c1 := (30, [.ref 58, .int (zi x1)], [.ref 58], M)) rfl ?_
      obtain ⟨M2, hc, hv⟩ := hv
      refine am_xc t_Mo_skips (.invokevirtual 174) 174 (av := [.ref 58]) (rest := []) (rv := none) (M' := M2) rfl rfl rfl rfl (Nat.le_of_ble_eq_true rfl) (fun _ => rfl) (hc) ?_
      refine am_xn 0 (c1 := (33, [.ref 58, .int (zi x1)], [], M2)) rfl ?_
      refine am_xn 1 (c1 := (34, [.ref 58, .int (zi x1)], [.ref 58], M2)) rfl ?_
      obtain ⟨M3, hc, hv⟩ := hv
      refine am_xc t_Mo_readsOperation (.invokevirtual 224) 224 (av := [.ref 58]) (rest := []) (rv := none) (M' := M3) rfl rfl rfl rfl (Nat.le_of_ble_eq_true rfl) (fun _ => rfl) (hc) ?_
      refine am_xn 0 (c1 := (37, [.ref 58, .int (zi x1)], [], M3)) rfl ?_
      refine am_xrd 3 58 18 (pc := 42) (ls := [.ref 58, .int (zi x1)]) (st := [.ref 58]) rfl ?_
      obtain ⟨g, hv⟩ := hv
      refine am_xc t_Mo_byteAt (.invokevirtual 152) 152 (av := [.ref 58, .int (zi (iv M3 58 18))]) (rest := []) (rv := some (.int (zi (mtb M3 (iv M3 58 18))))) (M' := M3) rfl rfl rfl rfl (Nat.le_of_ble_eq_true rfl) (fun _ => rfl) (sp_m_byteAt M3 (iv M3 58 18) g) ?_
      refine am_xn 0 (c1 := (45, [.ref 58, .int (zi x1)], [.int (zi (mtb M3 (iv M3 58 18)))], M3)) rfl ?_
      refine am_xn 2 (c1 := (if zi (mtb M3 (iv M3 58 18)) = zi 59 then 50 else 54, [.ref 58, .int (zi x1)], [], M3)) rfl (am_xeq (mtb_r M3 (iv M3 58 18)) (by decide) (fun h => ?_) (fun h => ?_))
      · replace hv := hv.1 h
        refine am_xrd 5 58 19 (pc := 60) (ls := [.ref 58, .int (zi 1)]) (st := []) rfl ?_
        refine am_xn 2 (c1 := (if zi (iv M3 58 19) = zi (-1) then 64 else 87, [.ref 58, .int (zi 1)], [], M3)) rfl (am_xeq (iv_r _ _ _) (by decide) (fun h => ?_) (fun h => ?_))
        · replace hv := hv.1 h
          refine am_xrd 5 58 18 (pc := 92) (ls := [.ref 58, .int (zi 1)]) (st := [.ref 58]) rfl ?_
          refine am_xiadd 5 (iv M3 58 18) 1 (pc := 102) (ls := [.ref 58, .int (zi 1)]) (st := [.ref 58]) rfl ?_
          refine am_xn 1 (c1 := (105, [.ref 58, .int (zi 1)], [], zup M3 58 18 ((iv M3 58 18) + 1))) rfl ?_
          obtain ⟨M4, eM4⟩ : ∃ m, m = zup M3 58 18 ((iv M3 58 18) + 1) := ⟨_, rfl⟩
          replace hv := hv M4 eM4
          rw [← eM4]
          refine am_xn 1 (c1 := (17, [.ref 58, .int (zi 1)], [], M4)) rfl ?_
          exact hv
        · replace hv := hv.2 h
          refine am_xrd 3 58 18 (pc := 92) (ls := [.ref 58, .int (zi 1)]) (st := [.ref 58]) rfl ?_
          refine am_xiadd 5 (iv M3 58 18) 1 (pc := 102) (ls := [.ref 58, .int (zi 1)]) (st := [.ref 58]) rfl ?_
          refine am_xn 1 (c1 := (105, [.ref 58, .int (zi 1)], [], zup M3 58 18 ((iv M3 58 18) + 1))) rfl ?_
          obtain ⟨M5, eM5⟩ : ∃ m, m = zup M3 58 18 ((iv M3 58 18) + 1) := ⟨_, rfl⟩
          replace hv := hv M5 eM5
          rw [← eM5]
          refine am_xn 1 (c1 := (17, [.ref 58, .int (zi 1)], [], M5)) rfl ?_
          exact hv
      · replace hv := hv.2 h
        refine am_xrd 4 58 19 (pc := 60) (ls := [.ref 58, .int (zi 0)]) (st := []) rfl ?_
        refine am_xn 2 (c1 := (if zi (iv M3 58 19) = zi (-1) then 64 else 87, [.ref 58, .int (zi 0)], [], M3)) rfl (am_xeq (iv_r _ _ _) (by decide) (fun h => ?_) (fun h => ?_))
        · replace hv := hv.1 h
          refine am_xrd 4 58 18 (pc := 72) (ls := [.ref 58, .int (zi 0)]) (st := []) rfl ?_
          refine am_xrd 2 58 17 (pc := 76) (ls := [.ref 58, .int (zi 0)]) (st := [.int (zi (iv M3 58 18))]) rfl ?_
          refine am_xn 1 (c1 := (if zi (iv M3 58 18) < zi (iv M3 58 17) then 79 else 87, [.ref 58, .int (zi 0)], [], M3)) rfl (am_xlt (iv_r _ _ _) (iv_r _ _ _) (fun h => ?_) (fun h => ?_))
          · replace hv := hv.1 h
            refine am_xrd 3 58 18 (pc := 84) (ls := [.ref 58, .int (zi 0)]) (st := [.ref 58]) rfl ?_
            obtain ⟨M6, hc, hv⟩ := hv
            refine am_xc t_Mo_fails (.invokevirtual 181) 181 (av := [.ref 58, .int (zi (iv M3 58 18))]) (rest := []) (rv := none) (M' := M6) rfl rfl rfl rfl (Nat.le_of_ble_eq_true rfl) (fun _ => rfl) (hc) ?_
            refine am_xn 0 (c1 := (87, [.ref 58, .int (zi 0)], [], M6)) rfl ?_
            refine am_xrd 3 58 18 (pc := 92) (ls := [.ref 58, .int (zi 0)]) (st := [.ref 58]) rfl ?_
            refine am_xiadd 4 (iv M6 58 18) 0 (pc := 102) (ls := [.ref 58, .int (zi 0)]) (st := [.ref 58]) rfl ?_
            refine am_xn 1 (c1 := (105, [.ref 58, .int (zi 0)], [], zup M6 58 18 ((iv M6 58 18) + 0))) rfl ?_
            obtain ⟨M7, eM7⟩ : ∃ m, m = zup M6 58 18 ((iv M6 58 18) + 0) := ⟨_, rfl⟩
            replace hv := hv M7 eM7
            rw [← eM7]
            refine am_xn 1 (c1 := (17, [.ref 58, .int (zi 0)], [], M7)) rfl ?_
            exact hv
          · replace hv := hv.2 h
            refine am_xrd 3 58 18 (pc := 92) (ls := [.ref 58, .int (zi 0)]) (st := [.ref 58]) rfl ?_
            refine am_xiadd 4 (iv M3 58 18) 0 (pc := 102) (ls := [.ref 58, .int (zi 0)]) (st := [.ref 58]) rfl ?_
            refine am_xn 1 (c1 := (105, [.ref 58, .int (zi 0)], [], zup M3 58 18 ((iv M3 58 18) + 0))) rfl ?_
            obtain ⟨M8, eM8⟩ : ∃ m, m = zup M3 58 18 ((iv M3 58 18) + 0) := ⟨_, rfl⟩
            replace hv := hv M8 eM8
            rw [← eM8]
            refine am_xn 1 (c1 := (17, [.ref 58, .int (zi 0)], [], M8)) rfl ?_
            exact hv
        · replace hv := hv.2 h
          refine am_xrd 3 58 18 (pc := 92) (ls := [.ref 58, .int (zi 0)]) (st := [.ref 58]) rfl ?_
          refine am_xiadd 4 (iv M3 58 18) 0 (pc := 102) (ls := [.ref 58, .int (zi 0)]) (st := [.ref 58]) rfl ?_
          refine am_xn 1 (c1 := (105, [.ref 58, .int (zi 0)], [], zup M3 58 18 ((iv M3 58 18) + 0))) rfl ?_
          obtain ⟨M9, eM9⟩ : ∃ m, m = zup M3 58 18 ((iv M3 58 18) + 0) := ⟨_, rfl⟩
          replace hv := hv M9 eM9
          rw [← eM9]
          refine am_xn 1 (c1 := (17, [.ref 58, .int (zi 0)], [], M9)) rfl ?_
          exact hv
  · replace hv := hv.2 h
    exact am_xr none ⟨rfl, rfl, rfl⟩ hv
/-- the reference at a place, that has also written into what it read -/
def C74 (M0 : am_M) (p f : Int) (M : am_M) : Prop := (∀ a, ¬ a = 58 → ¬ a = 74 → M a = M0 a) ∧ (∀ j, ¬ j = 18 → ¬ j = 19 → M 58 j = M0 58 j) ∧ iv M 58 18 = p ∧ iv M 58 19 = f
theorem C74.x {T : Int → Int} {n : Int} {M0 M : am_M} {p f : Int} (g : C74 M0 p f M) (x : XM T n M0) : XM T n M := x.row (g.1 73 (by decide) (by decide)) (g.2.1 17 (by decide) (by decide))
theorem C74.b {M0 M : am_M} {p f : Int} (g : C74 M0 p f M) : CRm M p f M := ⟨fun _ _ => rfl, fun _ _ _ => rfl, g.2.2.1, g.2.2.2⟩
theorem C74.s {M0 M M1 : am_M} {p f p1 f1 : Int} (g : C74 M0 p f M) (h : CRm M p1 f1 M1) : C74 M0 p1 f1 M1 := ⟨fun a a1 a6 => by rw [h.1 a a1, g.1 a a1 a6], fun j j1 j2 => by rw [h.2.1 j j1 j2, g.2.1 j j1 j2], h.2.2.1, h.2.2.2⟩
theorem C74.w {M0 M M1 : am_M} {p f : Int} (g : C74 M0 p f M) (h : ∀ a, ¬ a = 74 → M1 a = M a) : C74 M0 p f M1 := ⟨fun a a1 a6 => by rw [h a a6, g.1 a a1 a6], fun j j1 j2 => by rw [h 58 (by decide), g.2.1 j j1 j2], by rw [iv_row (h 58 (by decide)), g.2.2.1], by rw [iv_row (h 58 (by decide)), g.2.2.2]⟩
theorem C74.z {M0 M : am_M} {p f : Int} (g : C74 M0 p f M) : iv M 58 21 = iv M0 58 21 := iv1 (g.2.1 21 (by decide) (by decide))
def w7 (T : Int → Int) (p : Int) : Int := if wc T p = 6 then (if wI T (wq T p 6) then sk T (wq T p 6) else -1) else -1
theorem sp_saving {T : Int → Int} {n : Int} {M0 M : am_M} {p f z : Int} (x : XM T n M0) (ez : iv M0 58 21 = z) (z0 : 0 ≤ z) (z1 : z < 40) (g : C74 M0 p f M) (p0 : 0 ≤ p) (p1 : p ≤ n) : ∃ M' p', am_call t_Mo_readsSaving [.ref 58] M none M' ∧ C74 M0 p' (th f (svE T p)) M' ∧ (0 ≤ p' ∧ p' ≤ n) ∧ (f = -1 → svE T p = -1 → p' = svN T p ∧ iv M' 74 (12 * z + 4) = if isl (T (sk T p)) then 1 else iv M 74 (12 * z + 4)) ∧ ∀ j, 0 ≤ j → ¬ j = 12 * z + 4 → iv M' 74 j = iv M 74 j := by
  suffices hh : am_x t_Mo_readsSaving (0, am_ent (am_mL t_Mo_readsSaving) [.ref 58], [], M) (fun ra M' => ra = none ∧ ∃ p', C74 M0 p' (th f (svE T p)) M' ∧ (0 ≤ p' ∧ p' ≤ n) ∧ (f = -1 → svE T p = -1 → p' = svN T p ∧ iv M' 74 (12 * z + 4) = if isl (T (sk T p)) then 1 else iv M 74 (12 * z + 4)) ∧ ∀ j, 0 ≤ j → ¬ j = 12 * z + 4 → iv M' 74 j = iv M 74 j) by
    obtain ⟨ra, M', c1, c2, p', c3⟩ := am_call_ex (by exact ⟨Nat.le_of_ble_eq_true rfl, rfl⟩) hh
    subst c2
    exact ⟨M', p', c1, c3⟩
  have xn := x.2.2.1
  have r := x.2.2.skr p0 p1
  have rs := sk_sk x.2.2 p0 p1
  obtain ⟨M1, c1, d1⟩ := sp_skips (g.x x) g.b p0 p1
  have g1 := g.s d1
  have r74 : iv M1 74 = iv M 74 := iv_row (d1.1 74 (by decide))
  refine vc_readsSaving M _ ⟨M1, c1, fun q => ?_, fun q => ⟨rfl, sk T p, ?_, by omega, fun y => ?_, fun j _ _ => by rw [r74]⟩⟩
  · rw [g1.2.2.2] at q
    subst q
    have x1 := g1.x x
    rw [g1.2.2.1, x1.2.1, x1.1 (sk T p) (by omega)]
    refine ⟨by omega, fun w => ?_, fun w => ⟨rfl, sk T p, ?_, by omega, fun _ _ => ⟨?_, ?_⟩, fun j _ _ => by rw [r74]⟩⟩
    · obtain ⟨M2, c2, d2⟩ := sp_letters x1 g1.b (by omega) (by omega)
      have g2 := g1.s d2
      have rz := rv_zl x.2.2 (p := sk T p) (by omega) (by omega)
      have r742 : iv M2 74 = iv M 74 := by rw [iv_row (d2.1 74 (by decide)), r74]
      refine ⟨rv T (sk T p), M2, c2, rz.1, fun y => ?_, fun y => ?_⟩
      · rw [zcmp_0] at y
        have m := (rv_8 x.2.2 (by omega) (by omega)).mp y
        have e := re_8 x.2.2 (p := sk T p) (by omega) (by omega) m
        rw [g2.z, ez]
        refine ⟨by omega, fun M5 e5 => ⟨rfl, re T (sk T p), ?_, by omega, fun _ _ => ⟨?_, ?_⟩, fun j j0 hj => ?_⟩⟩
        · have : svE T p = -1 := by unfold svE xf8; rw [rs, if_pos w, if_pos m]
          rw [this, th_1]
          exact g2.w (fun a ha => by rw [e5, zupr _ ha])
        · unfold svN xe8; rw [rs, if_pos w, if_pos m]; exact e
        · rw [e5, ivs _ _ (by omega) (by omega) (by decide), if_pos rfl, if_pos w]
        · rw [e5, ivs _ _ (by omega) j0 (by decide), if_neg hj, r742]
      · rw [zcmp_0] at y
        have m : ¬ mt8 T (sk T p) := fun m => y ((rv_8 x.2.2 (by omega) (by omega)).mpr m)
        have es : svE T p = sk T p := by unfold svE xf8; rw [rs, if_pos w, if_neg m]
        obtain ⟨M6, c6, d6⟩ := sp_fails g2.b (k := sk T p) ⟨by omega, by omega⟩
        have g6 := g2.s d6
        refine ⟨M6, c6, rfl, re T (sk T p), by rw [es]; exact g6, by omega, fun _ y => by omega, fun j _ _ => by rw [iv_row (d6.1 74 (by decide)), r742]⟩
    · have : svE T p = -1 := by unfold svE; rw [if_neg w]
      rw [this, th_1]
      exact g1
    · unfold svN; rw [if_neg w]
    · rw [if_neg w, r74]
  · rw [g1.2.2.2] at q
    rw [th_n _ q]
    exact g1
  · rw [g1.2.2.2] at q
    exact absurd y q
theorem sp_words {T : Int → Int} {n : Int} {M0 M : am_M} {p f z : Int} (x : XM T n M0) (ez : iv M0 58 21 = z) (z0 : 0 ≤ z) (z1 : z < 40) (g : C74 M0 p f M) (p0 : 0 ≤ p) (p1 : p ≤ n) : ∃ M' p', am_call t_Mo_readsWords [.ref 58] M none M' ∧ C74 M0 p' (th f (th (wde T p) (w7 T p))) M' ∧ (0 ≤ p' ∧ p' ≤ n) ∧ (f = -1 → th (wde T p) (w7 T p) = -1 → p' = sk T (wq T p (wc T p)) ∧ iv M' 74 (12 * z + 5) = wc T p ∧ ∀ k, 0 ≤ k → k < wc T p → iv M' 74 (12 * z + (6 + k)) = wV T (wq T p k)) ∧ ∀ j, 0 ≤ j → ¬ (12 * z + 5 ≤ j ∧ j < 12 * z + 12) → iv M' 74 j = iv M 74 j := by
  suffices hh : am_x t_Mo_readsWords (0, am_ent (am_mL t_Mo_readsWords) [.ref 58], [], M) (fun ra M' => ra = none ∧ ∃ p', C74 M0 p' (th f (th (wde T p) (w7 T p))) M' ∧ (0 ≤ p' ∧ p' ≤ n) ∧ (f = -1 → th (wde T p) (w7 T p) = -1 → p' = sk T (wq T p (wc T p)) ∧ iv M' 74 (12 * z + 5) = wc T p ∧ ∀ k, 0 ≤ k → k < wc T p → iv M' 74 (12 * z + (6 + k)) = wV T (wq T p k)) ∧ ∀ j, 0 ≤ j → ¬ (12 * z + 5 ≤ j ∧ j < 12 * z + 12) → iv M' 74 j = iv M 74 j) by
    obtain ⟨ra, M', c1, c2, p', c3⟩ := am_call_ex (by exact ⟨Nat.le_of_ble_eq_true rfl, rfl⟩) hh
    subst c2
    exact ⟨M', p', c1, c3⟩
  have xn := x.2.2.1
  have r := x.2.2.skr p0 p1
  obtain ⟨M1, c1, d1⟩ := sp_skips (g.x x) g.b p0 p1
  have g1 := g.s d1
  have r74 : iv M1 74 = iv M 74 := iv_row (d1.1 74 (by decide))
  refine vc_readsWords M _ ⟨M1, c1, ?_⟩
  by_cases hf : f = -1
  · subst hf
    rw [th_o]
    refine loop_up (fun i (s : am_M) => (6, [.ref 58, .int (zi i), .null, .null], [], s)) 7 (fun i s => (∃ q f', C74 M0 q f' s ∧ (0 ≤ q ∧ q ≤ n) ∧ ((f' = -1 ∧ i ≤ 6 ∧ q = sk T (wq T p i) ∧ wcN T p (6 - i).toNat i = wc T p ∧ ∀ k, 0 ≤ k → k < i → iv s 74 (12 * z + (6 + k)) = wV T (wq T p k)) ∨ (¬ f' = -1 ∧ f' = wde T p ∧ i ≤ 6))) ∧ ∀ j, 0 ≤ j → ¬ (12 * z + 5 ≤ j ∧ j < 12 * z + 12) → iv s 74 j = iv M 74 j) ?_ ?_ 0 M1 (by omega) (by omega) ⟨⟨sk T p, -1, g1, by omega, Or.inl ⟨rfl, by omega, rfl, rfl, fun k k0 k1 => by omega⟩⟩, fun _ _ _ => by rw [r74]⟩
    · intro s ⟨⟨q, f', gs, qr, h⟩, fr⟩
      rcases h with ⟨_, h2, _⟩ | ⟨_, _, h2⟩ <;> omega
    · intro i s i0 i1 ⟨⟨q, f', gs, qr, h⟩, fr⟩ k
      have xs := gs.x x
      refine vc_readsWords_6 _ s _ ?_
      rw [gs.2.2.2]
      rcases h with ⟨h1, h2, h3, h4, h5⟩ | ⟨h1, h2, h3⟩
      · refine ⟨fun _ => ?_, fun w => absurd h1 w⟩
        subst h1
        have wr := wq_r x.2.2 p0 p1 i
        have sr := x.2.2.skr (p := wq T p i) (by omega) (by omega)
        rw [gs.2.2.1, xs.2.1, xs.1 q qr.1, gs.z, ez]
        have seven : i = 6 → wI T (wq T p i) → ∀ M2, C74 M0 q q M2 → iv M2 74 = iv s 74 → ∃ p', C74 M0 p' (th (wde T p) (w7 T p)) M2 ∧ (0 ≤ p' ∧ p' ≤ n) ∧ ((-1 : Int) = -1 → th (wde T p) (w7 T p) = -1 → p' = sk T (wq T p (wc T p)) ∧ iv M2 74 (12 * z + 5) = wc T p ∧ ∀ k, 0 ≤ k → k < wc T p → iv M2 74 (12 * z + (6 + k)) = wV T (wq T p k)) ∧ ∀ j, 0 ≤ j → ¬ (12 * z + 5 ≤ j ∧ j < 12 * z + 12) → iv M2 74 j = iv M 74 j := by
          intro e6 hw M2 g2 r2
          subst e6
          have ec : wc T p = 6 := h4.symm
          have e : th (wde T p) (w7 T p) = q := by
            unfold wde w7
            rw [if_pos ec, if_pos ec, if_pos hw, th_o, h3]
          refine ⟨q, by rw [e]; exact g2, qr, fun _ y => by rw [e] at y; omega, fun j j0 hj => by rw [r2]; exact fr j j0 hj⟩
        have stop : ¬ wI T (wq T p i) → ∀ M2, M2 = zup s 74 (12 * z + 5) i → ∃ p', C74 M0 p' (th (wde T p) (w7 T p)) M2 ∧ (0 ≤ p' ∧ p' ≤ n) ∧ ((-1 : Int) = -1 → th (wde T p) (w7 T p) = -1 → p' = sk T (wq T p (wc T p)) ∧ iv M2 74 (12 * z + 5) = wc T p ∧ ∀ k, 0 ≤ k → k < wc T p → iv M2 74 (12 * z + (6 + k)) = wV T (wq T p k)) ∧ ∀ j, 0 ≤ j → ¬ (12 * z + 5 ≤ j ∧ j < 12 * z + 12) → iv M2 74 j = iv M 74 j := by
          intro hw M2 e2
          have ec : wc T p = i := by
            by_cases e6 : i = 6
            · subst e6; exact h4.symm
            · rw [wcN_s T p (by omega), if_neg (fun y => hw y.1)] at h4
              exact h4.symm
          have e : th (wde T p) (w7 T p) = -1 := by
            unfold wde w7
            rw [ec, if_neg hw]
            by_cases e6 : i = 6
            · rw [if_pos e6, if_pos e6, th_o, ← e6, if_neg hw]
            · rw [if_neg e6, if_neg e6, th_o]
          have j2 : ∀ j, 0 ≤ j → iv M2 74 j = if j = 12 * z + 5 then i else iv s 74 j := fun j j0 => by rw [e2, ivs _ _ (by omega) j0 ⟨by omega, by omega⟩]
          refine ⟨q, by rw [e]; exact gs.w (fun a ha => by rw [e2, zupr _ ha]), qr, fun _ _ => ⟨by rw [ec, h3], ?_, fun k k0 k1 => ?_⟩, fun j j0 hj => ?_⟩
          · rw [j2 _ (by omega), if_pos rfl, ec]
          · rw [j2 _ (by omega), if_neg (by omega)]
            exact h5 k k0 (by omega)
          · rw [j2 _ j0, if_neg (by omega)]
            exact fr j j0 hj
        have word : ¬ i = 6 → wI T (wq T p i) → ∀ M6 q' e r, C74 M0 q' e M6 → (0 ≤ q' ∧ q' ≤ n) → iv M6 74 = iv s 74 → e = wE T (wq T p i) → (e = -1 → q' = wN T (wq T p i) ∧ r = wV T (wq T p i)) → zr r → (0 ≤ 12 * iv M6 58 21 + (6 + i) ∧ 12 * iv M6 58 21 + (6 + i) < 492) ∧ (∀ M8, M8 = zup M6 74 (12 * iv M6 58 21 + (6 + i)) r → ∃ M9, am_call t_Mo_skips [.ref 58] M8 none M9 ∧ am_x t_Mo_readsWords (6, [.ref 58, .int (zi (i + 1)), .null, .null], [], M9) (fun ra M' => ra = none ∧ ∃ p', C74 M0 p' (th (wde T p) (w7 T p)) M' ∧ (0 ≤ p' ∧ p' ≤ n) ∧ ((-1 : Int) = -1 → th (wde T p) (w7 T p) = -1 → p' = sk T (wq T p (wc T p)) ∧ iv M' 74 (12 * z + 5) = wc T p ∧ ∀ k, 0 ≤ k → k < wc T p → iv M' 74 (12 * z + (6 + k)) = wV T (wq T p k)) ∧ ∀ j, 0 ≤ j → ¬ (12 * z + 5 ≤ j ∧ j < 12 * z + 12) → iv M' 74 j = iv M 74 j)) := by
          intro i6 hw M6 q' e r g6 q'r r6 ee hv rz
          rw [g6.z, ez]
          refine ⟨by omega, fun M8 e8 => ?_⟩
          have g8 := g6.w (M1 := M8) (fun a ha => by rw [e8, zupr _ ha])
          have j8 : ∀ j, 0 ≤ j → iv M8 74 j = if j = 12 * z + (6 + i) then r else iv s 74 j := fun j j0 => by rw [e8, ivs _ _ (by omega) j0 rz, r6]
          obtain ⟨M9, c9, d9⟩ := sp_skips (g8.x x) g8.b q'r.1 q'r.2
          have g9 := g8.s d9
          have s9 := x.2.2.skr q'r.1 q'r.2
          have r9 : iv M9 74 = iv M8 74 := iv_row (d9.1 74 (by decide))
          rw [wcN_s T p (by omega)] at h4
          refine ⟨M9, c9, k M9 ⟨⟨sk T q', e, g9, by omega, ?_⟩, fun j j0 hj => ?_⟩⟩
          · by_cases he : e = -1
            · rw [if_pos ⟨hw, by rw [← ee]; exact he⟩] at h4
              obtain ⟨a1, a2⟩ := hv he
              refine Or.inl ⟨he, by omega, by rw [a1, wq_s T p i0], h4, fun k' k0 k1 => ?_⟩
              rw [r9, j8 _ (by omega)]
              by_cases ek : k' = i
              · rw [if_pos (by omega), a2, ek]
              · rw [if_neg (by omega)]
                exact h5 k' k0 (by omega)
            · rw [if_neg (fun y => he (by rw [ee]; exact y.2))] at h4
              refine Or.inr ⟨he, ?_, by omega⟩
              unfold wde
              rw [← h4, if_neg i6, if_pos hw, ee]
          · rw [r9, j8 _ j0, if_neg (by omega)]
            exact fr j j0 hj
        have sv : i = 6 → wI T (wq T p i) → ∃ M2, am_call t_Mo_fails [.ref 58, .int (zi q)] s none M2 ∧ ((none : Option Value) = none ∧ ∃ p', C74 M0 p' (th (wde T p) (w7 T p)) M2 ∧ (0 ≤ p' ∧ p' ≤ n) ∧ ((-1 : Int) = -1 → th (wde T p) (w7 T p) = -1 → p' = sk T (wq T p (wc T p)) ∧ iv M2 74 (12 * z + 5) = wc T p ∧ ∀ k, 0 ≤ k → k < wc T p → iv M2 74 (12 * z + (6 + k)) = wV T (wq T p k)) ∧ ∀ j, 0 ≤ j → ¬ (12 * z + 5 ≤ j ∧ j < 12 * z + 12) → iv M2 74 j = iv M 74 j) := by
          intro e6 hw
          obtain ⟨M2, c2, d2⟩ := sp_fails gs.b (k := q) ⟨by omega, by omega⟩
          rw [th_o] at d2
          exact ⟨M2, c2, rfl, seven e6 hw M2 (gs.s d2) (iv_row (d2.1 74 (by decide)))⟩
        have at64 : T q = 64 → ¬ i = 6 → ∀ M3, M3 = zup s 58 18 (q + 1) → ∃ (r : Int) (M4 : am_M), am_call t_Mo_readsNumber [.ref 58] M3 (some (.int (zi r))) M4 ∧ ((0 ≤ 12 * iv M4 58 21 + (6 + i) ∧ 12 * iv M4 58 21 + (6 + i) < 492) ∧ (∀ M8, M8 = zup M4 74 (12 * iv M4 58 21 + (6 + i)) (1000 + r) → ∃ M9, am_call t_Mo_skips [.ref 58] M8 none M9 ∧ am_x t_Mo_readsWords (6, [.ref 58, .int (zi (i + 1)), .null, .null], [], M9) (fun ra M' => ra = none ∧ ∃ p', C74 M0 p' (th (wde T p) (w7 T p)) M' ∧ (0 ≤ p' ∧ p' ≤ n) ∧ ((-1 : Int) = -1 → th (wde T p) (w7 T p) = -1 → p' = sk T (wq T p (wc T p)) ∧ iv M' 74 (12 * z + 5) = wc T p ∧ ∀ k, 0 ≤ k → k < wc T p → iv M' 74 (12 * z + (6 + k)) = wV T (wq T p k)) ∧ ∀ j, 0 ≤ j → ¬ (12 * z + 5 ≤ j ∧ j < 12 * z + 12) → iv M' 74 j = iv M 74 j))) := by
          intro e64 i6 M3 e3
          have lt := x.2.2.lt (k := q) (by omega)
          have hw : wI T (wq T p i) := Or.inl (by rw [← h3]; exact e64)
          have d3 : CRm s (q + 1) (-1) M3 := crm_p gs.b e3 ⟨by omega, by omega⟩
          have g3 := gs.s d3
          obtain ⟨M4, r4, p4, c4, d4, b1, b2, b3⟩ := sp_number (g3.x x) g3.b (by omega) (by omega)
          have g4 := g3.s d4
          refine ⟨r4, M4, c4, word i6 hw M4 p4 _ _ g4 b1 (by rw [iv_row (d4.1 74 (by decide)), iv_row (d3.1 74 (by decide))]) ?_ (fun y => ?_) ⟨by omega, by omega⟩⟩
          · unfold wE; rw [← h3, if_pos e64]
          · obtain ⟨y1, y2⟩ := b3 y
            unfold wN wV
            rw [← h3, if_pos e64, if_pos e64, y1, y2]
            exact ⟨rfl, rfl⟩
        refine ⟨by omega, fun hg => ⟨⟨by omega, by omega⟩, fun e6 => sv e6 (Or.inr (by rw [← h3]; exact hg)), fun i6 => ⟨by omega, fun e64 => at64 e64 i6, fun n64 M8 e8 => ?_⟩⟩, fun hg => ⟨by omega, fun e64 => ⟨⟨by omega, by omega⟩, fun e6 => sv e6 (Or.inl (by rw [← h3]; exact e64)), fun i6 => ⟨by omega, at64 e64 i6⟩⟩, fun n64 => ⟨by omega, fun M20 e20 => ⟨rfl, stop (fun y => y.elim (fun y => n64 (by rw [h3]; exact y)) (fun y => hg (by rw [h3]; exact y))) M20 e20⟩⟩⟩⟩
        have hw : wI T (wq T p i) := Or.inr (by rw [← h3]; exact hg)
        rw [Int.add_zero] at e8
        have d8 : CRm s q (-1) M8 := crm_p gs.b e8 ⟨by omega, by omega⟩
        have g8 := gs.s d8
        have dr := x.2.2.der qr.1 qr.2
        have vr := dg_is T q
        obtain ⟨M9, c9, d9⟩ := sp_digits (g8.x x) g8.b qr.1 qr.2 (Or.inl rfl)
        have g9 := g8.s d9
        refine ⟨dv T q, M9, c9, word i6 hw M9 (de T q) _ _ g9 (by omega) (by rw [iv_row (d9.1 74 (by decide)), iv_row (d8.1 74 (by decide))]) ?_ (fun y => ?_) ⟨by omega, by omega⟩⟩
        · unfold wE; rw [← h3, if_neg n64]
        · unfold wN wV
          rw [← h3, if_neg n64, if_neg n64]
          exact ⟨rfl, rfl⟩
      · refine ⟨fun w => absurd w h1, fun _ => ?_⟩
        rw [gs.z, ez]
        have e : th (wde T p) (w7 T p) = f' := by rw [← h2, th_n _ h1]
        refine ⟨by omega, fun M22 e22 => ⟨rfl, q, by rw [e]; exact gs.w (fun a ha => by rw [e22, zupr _ ha]), qr, fun _ y => absurd (e.symm.trans y) h1, fun j j0 hj => ?_⟩⟩
        rw [e22, ivs _ _ (by omega) j0 ⟨by omega, by omega⟩, if_neg (by omega)]
        exact fr j j0 hj
  · refine vc_readsWords_6 0 M1 _ ⟨fun q => absurd (g1.2.2.2.symm.trans q) hf, fun _ => ?_⟩
    rw [g1.z, ez]
    refine ⟨by omega, fun M22 e22 => ⟨rfl, sk T p, ?_, by omega, fun y => absurd y hf, fun j j0 hj => ?_⟩⟩
    · rw [th_n _ hf]
      exact g1.w (fun a ha => by rw [e22, zupr _ ha])
    · rw [e22, ivs _ _ (by omega) j0 (by decide), if_neg (by omega), r74]
