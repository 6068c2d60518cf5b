/-! out of the proof of whole: cbook -/
def cpt (c : Int → Int) (o w : Int) : Int := c (45 + o * 13 + w)
set_option maxRecDepth 100000 in
theorem vc_c_size  (M : am_M) (Q : Option Value → am_M → Prop) (hv : (0 ≤ (0 : Int) ∧ (0 : Int) < 1605) ∧ (Q (some (.int (zi (iv M 11 0)))) M)) : am_x t_Amd_size (0, am_ent (am_mL t_Amd_size) [.ref 9], [], M) Q := by
  refine am_xn 0 (c1 := (0, [.ref 9], [], M)) rfl ?_
  refine am_xn 3 (c1 := (5, [.ref 9], [.int (zi 0), .ref 10], M)) rfl ?_
  obtain ⟨g, hv⟩ := hv
  refine am_xc t_Row_get (.invokevirtual 20) 20 (av := [.ref 10, .int (zi 0)]) (rest := []) (rv := some (.int (zi (iv M 11 0)))) (M' := M) rfl rfl rfl rfl (Nat.le_of_ble_eq_true rfl) (fun _ => rfl) (sp_get_10 M 0 g) ?_
  refine am_xn 0 (c1 := (8, [.ref 9], [.int (zi (iv M 11 0))], M)) rfl ?_
  exact am_xr (some (.int (zi (iv M 11 0)))) ⟨rfl, rfl, .int, rfl, rfl⟩ hv
theorem sp_c_size (M : am_M) : am_call t_Amd_size [.ref 9] M (some (.int (zi (iv M 11 0)))) M := by
  refine am_call_of ⟨Nat.le_of_ble_eq_true rfl, rfl⟩ (vc_c_size M _ ?_)
  (repeat' (first | apply And.intro | intro _)) <;> (first | rfl | omega | (split <;> (first | rfl | omega)))
set_option maxRecDepth 100000 in
theorem vc_c_operations  (M : am_M) (Q : Option Value → am_M → Prop) (hv : (0 ≤ (1 : Int) ∧ (1 : Int) < 1605) ∧ (Q (some (.int (zi (iv M 11 1)))) M)) : am_x t_Amd_operations (0, am_ent (am_mL t_Amd_operations) [.ref 9], [], M) Q := by
  refine am_xn 0 (c1 := (0, [.ref 9], [], M)) rfl ?_
  refine am_xn 3 (c1 := (5, [.ref 9], [.int (zi 1), .ref 10], M)) rfl ?_
  obtain ⟨g, hv⟩ := hv
  refine am_xc t_Row_get (.invokevirtual 20) 20 (av := [.ref 10, .int (zi 1)]) (rest := []) (rv := some (.int (zi (iv M 11 1)))) (M' := M) rfl rfl rfl rfl (Nat.le_of_ble_eq_true rfl) (fun _ => rfl) (sp_get_10 M 1 g) ?_
  refine am_xn 0 (c1 := (8, [.ref 9], [.int (zi (iv M 11 1))], M)) rfl ?_
  exact am_xr (some (.int (zi (iv M 11 1)))) ⟨rfl, rfl, .int, rfl, rfl⟩ hv
theorem sp_c_operations (M : am_M) : am_call t_Amd_operations [.ref 9] M (some (.int (zi (iv M 11 1)))) M := by
  refine am_call_of ⟨Nat.le_of_ble_eq_true rfl, rfl⟩ (vc_c_operations M _ ?_)
  (repeat' (first | apply And.intro | intro _)) <;> (first | rfl | omega | (split <;> (first | rfl | omega)))
set_option maxRecDepth 100000 in
theorem vc_c_identities  (M : am_M) (Q : Option Value → am_M → Prop) (hv : (0 ≤ (2 : Int) ∧ (2 : Int) < 1605) ∧ (Q (some (.int (zi (iv M 11 2)))) M)) : am_x t_Amd_identities (0, am_ent (am_mL t_Amd_identities) [.ref 9], [], M) Q := by
  refine am_xn 0 (c1 := (0, [.ref 9], [], M)) rfl ?_
  refine am_xn 3 (c1 := (5, [.ref 9], [.int (zi 2), .ref 10], M)) rfl ?_
  obtain ⟨g, hv⟩ := hv
  refine am_xc t_Row_get (.invokevirtual 20) 20 (av := [.ref 10, .int (zi 2)]) (rest := []) (rv := some (.int (zi (iv M 11 2)))) (M' := M) rfl rfl rfl rfl (Nat.le_of_ble_eq_true rfl) (fun _ => rfl) (sp_get_10 M 2 g) ?_
  refine am_xn 0 (c1 := (8, [.ref 9], [.int (zi (iv M 11 2))], M)) rfl ?_
  exact am_xr (some (.int (zi (iv M 11 2)))) ⟨rfl, rfl, .int, rfl, rfl⟩ hv
theorem sp_c_identities (M : am_M) : am_call t_Amd_identities [.ref 9] M (some (.int (zi (iv M 11 2)))) M := by
  refine am_call_of ⟨Nat.le_of_ble_eq_true rfl, rfl⟩ (vc_c_identities M _ ?_)
  (repeat' (first | apply And.intro | intro _)) <;> (first | rfl | omega | (split <;> (first | rfl | omega)))
set_option maxRecDepth 100000 in
theorem vc_c_revoked  (M : am_M) (Q : Option Value → am_M → Prop) (hv : (0 ≤ (3 : Int) ∧ (3 : Int) < 1605) ∧ (Q (some (.int (zi (iv M 11 3)))) M)) : am_x t_Amd_revoked (0, am_ent (am_mL t_Amd_revoked) [.ref 9], [], M) Q := by
  refine am_xn 0 (c1 := (0, [.ref 9], [], M)) rfl ?_
  refine am_xn 3 (c1 := (5, [.ref 9], [.int (zi 3), .ref 10], M)) rfl ?_
  obtain ⟨g, hv⟩ := hv
  refine am_xc t_Row_get (.invokevirtual 20) 20 (av := [.ref 10, .int (zi 3)]) (rest := []) (rv := some (.int (zi (iv M 11 3)))) (M' := M) rfl rfl rfl rfl (Nat.le_of_ble_eq_true rfl) (fun _ => rfl) (sp_get_10 M 3 g) ?_
  refine am_xn 0 (c1 := (8, [.ref 9], [.int (zi (iv M 11 3))], M)) rfl ?_
  exact am_xr (some (.int (zi (iv M 11 3)))) ⟨rfl, rfl, .int, rfl, rfl⟩ hv
theorem sp_c_revoked (M : am_M) : am_call t_Amd_revoked [.ref 9] M (some (.int (zi (iv M 11 3)))) M := by
  refine am_call_of ⟨Nat.le_of_ble_eq_true rfl, rfl⟩ (vc_c_revoked M _ ?_)
  (repeat' (first | apply And.intro | intro _)) <;> (first | rfl | omega | (split <;> (first | rfl | omega)))
set_option maxRecDepth 100000 in
theorem vc_c_setRevoked (v : Int) (M : am_M) (Q : Option Value → am_M → Prop) (hv : (0 ≤ (3 : Int) ∧ (3 : Int) < 1605) ∧ (∀ M1, M1 = zup M 11 3 v → Q none M1)) : am_x t_Amd_setRevoked (0, am_ent (am_mL t_Amd_setRevoked) [.ref 9, .int (zi v)], [], M) Q := by
  refine am_xn 0 (c1 := (0, [.ref 9, .int (zi v)], [], M)) rfl ?_
  refine am_xn 4 (c1 := (6, [.ref 9, .int (zi v)], [.int (zi v), .int (zi 3), .ref 10], M)) rfl ?_
  obtain ⟨g, hv⟩ := hv
  obtain ⟨M1, eM1⟩ : ∃ m, m = zup M 11 3 v := ⟨_, rfl⟩
  replace hv := hv M1 eM1
  refine am_xc t_Row_set (.invokevirtual 24) 24 (av := [.ref 10, .int (zi 3), .int (zi v)]) (rest := []) (rv := none) (M' := M1) rfl rfl rfl rfl (Nat.le_of_ble_eq_true rfl) (fun _ => rfl) (by rw [eM1]; exact sp_set_10 M 3 v g) ?_
  refine am_xn 0 (c1 := (9, [.ref 9, .int (zi v)], [], M1)) rfl ?_
  exact am_xr none ⟨rfl, rfl, rfl⟩ hv
theorem sp_c_setRevoked (M : am_M) (v : Int) : am_call t_Amd_setRevoked [.ref 9, .int (zi v)] M (none) (zup M 11 3 v) := by
  refine am_call_of ⟨Nat.le_of_ble_eq_true rfl, rfl⟩ (vc_c_setRevoked v M _ ?_)
  (repeat' (first | apply And.intro | intro _)) <;> (first | rfl | omega | (split <;> (first | rfl | omega)))
set_option maxRecDepth 100000 in
theorem vc_c_isRevoked (a : Int) (M : am_M) (Q : Option Value → am_M → Prop) (hv : (0 ≤ (3 : Int) ∧ (3 : Int) < 1605) ∧ (((zand (zshr (iv M 11 3) a) 1) = 1 → Q (some (.int (zi 1))) M) ∧ (¬ (zand (zshr (iv M 11 3) a) 1) = 1 → Q (some (.int (zi 0))) M))) : am_x t_Amd_isRevoked (0, am_ent (am_mL t_Amd_isRevoked) [.ref 9, .int (zi a)], [], M) Q := by
  refine am_xn 0 (c1 := (0, [.ref 9, .int (zi a)], [], M)) rfl ?_
  refine am_xn 3 (c1 := (5, [.ref 9, .int (zi a)], [.int (zi 3), .ref 10], M)) rfl ?_
  obtain ⟨g, hv⟩ := hv
  refine am_xc t_Row_get (.invokevirtual 20) 20 (av := [.ref 10, .int (zi 3)]) (rest := []) (rv := some (.int (zi (iv M 11 3)))) (M' := M) rfl rfl rfl rfl (Nat.le_of_ble_eq_true rfl) (fun _ => rfl) (sp_get_10 M 3 g) ?_
  refine am_xn 0 (c1 := (8, [.ref 9, .int (zi a)], [.int (zi (iv M 11 3))], M)) rfl ?_
  refine am_xbit 2 (zi (iv M 11 3) >>> (zi a &&& 31)) (pc := 10) (ls := [.ref 9, .int (zi a)]) (st := []) rfl ?_
  refine am_xn 0 (c1 := (10, [.ref 9, .int (zi a)], [.int (zi (zshr (iv M 11 3) a))], M)) rfl ?_
  refine am_xbit 2 (zi (zshr (iv M 11 3) a) &&& zi 1) (pc := 12) (ls := [.ref 9, .int (zi a)]) (st := []) rfl ?_
  refine am_xn 0 (c1 := (12, [.ref 9, .int (zi a)], [.int (zi (zand (zshr (iv M 11 3) a) 1))], M)) rfl ?_
  refine am_xn 2 (c1 := (if zi (zand (zshr (iv M 11 3) a) 1) = zi 1 then 16 else 20, [.ref 9, .int (zi a)], [], M)) rfl (am_xeq (zr_toInt _) (by decide) (fun h => ?_) (fun h => ?_))
  · replace hv := hv.1 h
    refine am_xn 2 (c1 := (21, [.ref 9, .int (zi a)], [.int (zi 1)], M)) rfl ?_
    exact am_xr (some (.int (zi 1))) ⟨rfl, rfl, .boolean, rfl, rfl⟩ hv
  · replace hv := hv.2 h
    refine am_xn 1 (c1 := (21, [.ref 9, .int (zi a)], [.int (zi 0)], M)) rfl ?_
    exact am_xr (some (.int (zi 0))) ⟨rfl, rfl, .boolean, rfl, rfl⟩ hv
theorem sp_c_isRevoked (M : am_M) (a : Int) : am_call t_Amd_isRevoked [.ref 9, .int (zi a)] M (some (.int (zi (if zand (zshr (iv M 11 3) a) 1 = 1 then 1 else 0)))) M := by
  refine am_call_of ⟨Nat.le_of_ble_eq_true rfl, rfl⟩ (vc_c_isRevoked a M _ ?_)
  (repeat' (first | apply And.intro | intro _)) <;> (first | rfl | omega | (split <;> (first | rfl | omega)))
set_option maxRecDepth 100000 in
theorem vc_c_day (a : Int) (M : am_M) (Q : Option Value → am_M → Prop) (hv : (0 ≤ (4 + a) ∧ (4 + a) < 1605) ∧ (Q (some (.int (zi (iv M 11 (4 + a))))) M)) : am_x t_Amd_day (0, am_ent (am_mL t_Amd_day) [.ref 9, .int (zi a)], [], M) Q := by
  refine am_xn 0 (c1 := (0, [.ref 9, .int (zi a)], [], M)) rfl ?_
  refine am_xiadd 5 4 a (pc := 7) (ls := [.ref 9, .int (zi a)]) (st := [.ref 10]) rfl ?_
  obtain ⟨g, hv⟩ := hv
  refine am_xc t_Row_get (.invokevirtual 20) 20 (av := [.ref 10, .int (zi (4 + a))]) (rest := []) (rv := some (.int (zi (iv M 11 (4 + a))))) (M' := M) rfl rfl rfl rfl (Nat.le_of_ble_eq_true rfl) (fun _ => rfl) (sp_get_10 M (4 + a) g) ?_
  refine am_xn 0 (c1 := (10, [.ref 9, .int (zi a)], [.int (zi (iv M 11 (4 + a)))], M)) rfl ?_
  exact am_xr (some (.int (zi (iv M 11 (4 + a))))) ⟨rfl, rfl, .int, rfl, rfl⟩ hv
theorem sp_c_day (M : am_M) (a : Int) (g : 0 ≤ a ∧ a ≤ 20) : am_call t_Amd_day [.ref 9, .int (zi a)] M (some (.int (zi (iv M 11 (4 + a))))) M := by
  refine am_call_of ⟨Nat.le_of_ble_eq_true rfl, rfl⟩ (vc_c_day a M _ ?_)
  (repeat' (first | apply And.intro | intro _)) <;> (first | rfl | omega | (split <;> (first | rfl | omega)))
set_option maxRecDepth 100000 in
theorem vc_c_setDay (a : Int) (v : Int) (M : am_M) (Q : Option Value → am_M → Prop) (hv : (0 ≤ (4 + a) ∧ (4 + a) < 1605) ∧ (∀ M1, M1 = zup M 11 (4 + a) v → Q none M1)) : am_x t_Amd_setDay (0, am_ent (am_mL t_Amd_setDay) [.ref 9, .int (zi a), .int (zi v)], [], M) Q := by
  refine am_xn 0 (c1 := (0, [.ref 9, .int (zi a), .int (zi v)], [], M)) rfl ?_
  refine am_xiadd 5 4 a (pc := 7) (ls := [.ref 9, .int (zi a), .int (zi v)]) (st := [.ref 10]) rfl ?_
  refine am_xn 1 (c1 := (8, [.ref 9, .int (zi a), .int (zi v)], [.int (zi v), .int (zi (4 + a)), .ref 10], M)) rfl ?_
  obtain ⟨g, hv⟩ := hv
  obtain ⟨M1, eM1⟩ : ∃ m, m = zup M 11 (4 + a) v := ⟨_, rfl⟩
  replace hv := hv M1 eM1
  refine am_xc t_Row_set (.invokevirtual 24) 24 (av := [.ref 10, .int (zi (4 + a)), .int (zi v)]) (rest := []) (rv := none) (M' := M1) rfl rfl rfl rfl (Nat.le_of_ble_eq_true rfl) (fun _ => rfl) (by rw [eM1]; exact sp_set_10 M (4 + a) v g) ?_
  refine am_xn 0 (c1 := (11, [.ref 9, .int (zi a), .int (zi v)], [], M1)) rfl ?_
  exact am_xr none ⟨rfl, rfl, rfl⟩ hv
theorem sp_c_setDay (M : am_M) (a : Int) (v : Int) (g : 0 ≤ a ∧ a ≤ 20) : am_call t_Amd_setDay [.ref 9, .int (zi a), .int (zi v)] M (none) (zup M 11 (4 + a) v) := by
  refine am_call_of ⟨Nat.le_of_ble_eq_true rfl, rfl⟩ (vc_c_setDay a v M _ ?_)
  (repeat' (first | apply And.intro | intro _)) <;> (first | rfl | omega | (split <;> (first | rfl | omega)))
set_option maxRecDepth 100000 in
theorem vc_c_start (a : Int) (M : am_M) (Q : Option Value → am_M → Prop) (hv : (0 ≤ (24 + a) ∧ (24 + a) < 1605) ∧ (Q (some (.int (zi (iv M 11 (24 + a))))) M)) : am_x t_Amd_start (0, am_ent (am_mL t_Amd_start) [.ref 9, .int (zi a)], [], M) Q := by
  refine am_xn 0 (c1 := (0, [.ref 9, .int (zi a)], [], M)) rfl ?_
  refine am_xiadd 5 24 a (pc := 8) (ls := [.ref 9, .int (zi a)]) (st := [.ref 10]) rfl ?_
  obtain ⟨g, hv⟩ := hv
  refine am_xc t_Row_get (.invokevirtual 20) 20 (av := [.ref 10, .int (zi (24 + a))]) (rest := []) (rv := some (.int (zi (iv M 11 (24 + a))))) (M' := M) rfl rfl rfl rfl (Nat.le_of_ble_eq_true rfl) (fun _ => rfl) (sp_get_10 M (24 + a) g) ?_
  refine am_xn 0 (c1 := (11, [.ref 9, .int (zi a)], [.int (zi (iv M 11 (24 + a)))], M)) rfl ?_
  exact am_xr (some (.int (zi (iv M 11 (24 + a))))) ⟨rfl, rfl, .int, rfl, rfl⟩ hv
theorem sp_c_start (M : am_M) (a : Int) (g : 0 ≤ a ∧ a ≤ 20) : am_call t_Amd_start [.ref 9, .int (zi a)] M (some (.int (zi (iv M 11 (24 + a))))) M := by
  refine am_call_of ⟨Nat.le_of_ble_eq_true rfl, rfl⟩ (vc_c_start a M _ ?_)
  (repeat' (first | apply And.intro | intro _)) <;> (first | rfl | omega | (split <;> (first | rfl | omega)))
set_option maxRecDepth 100000 in
theorem vc_c_has (a : Int) (M : am_M) (Q : Option Value → am_M → Prop) (hv : zr a ∧ ((a < 0 → Q (some (.int (zi 0))) M) ∧ (0 ≤ a → (a < (iv M 11 0) → Q (some (.int (zi 1))) M) ∧ ((iv M 11 0) ≤ a → Q (some (.int (zi 0))) M)))) : am_x t_Amd_has (0, am_ent (am_mL t_Amd_has) [.ref 9, .int (zi a)], [], M) Q := by
  refine am_xn 0 (c1 := (0, [.ref 9, .int (zi a)], [], M)) rfl ?_
  obtain ⟨r1, hv⟩ := hv
  refine am_xn 2 (c1 := (if zi a < zi 0 then 16 else 4, [.ref 9, .int (zi a)], [], M)) rfl (am_xlt r1 (by decide) (fun h => ?_) (fun h => ?_))
  · replace hv := hv.1 h
    refine am_xn 1 (c1 := (17, [.ref 9, .int (zi a)], [.int (zi 0)], M)) rfl ?_
    exact am_xr (some (.int (zi 0))) ⟨rfl, rfl, .boolean, rfl, rfl⟩ hv
  · replace hv := hv.2 h
    refine am_xn 2 (c1 := (6, [.ref 9, .int (zi a)], [.ref 9, .int (zi a)], M)) rfl ?_
    refine am_xc t_Amd_size (.invokevirtual 31) 31 (av := [.ref 9]) (rest := [.int (zi a)]) (rv := some (.int (zi (iv M 11 0)))) (M' := M) rfl rfl rfl rfl (Nat.le_of_ble_eq_true rfl) (fun _ => rfl) (sp_c_size M) ?_
    refine am_xn 0 (c1 := (9, [.ref 9, .int (zi a)], [.int (zi (iv M 11 0)), .int (zi a)], M)) rfl ?_
    refine am_xn 1 (c1 := (if zi a < zi (iv M 11 0) then 12 else 16, [.ref 9, .int (zi a)], [], M)) rfl (am_xlt r1 (iv_r _ _ _) (fun h => ?_) (fun h => ?_))
    · replace hv := hv.1 h
      refine am_xn 2 (c1 := (17, [.ref 9, .int (zi a)], [.int (zi 1)], M)) rfl ?_
      exact am_xr (some (.int (zi 1))) ⟨rfl, rfl, .boolean, rfl, rfl⟩ hv
    · replace hv := hv.2 h
      refine am_xn 1 (c1 := (17, [.ref 9, .int (zi a)], [.int (zi 0)], M)) rfl ?_
      exact am_xr (some (.int (zi 0))) ⟨rfl, rfl, .boolean, rfl, rfl⟩ hv
theorem sp_c_has (M : am_M) (a : Int) (g : zr a) : am_call t_Amd_has [.ref 9, .int (zi a)] M (some (.int (zi (if 0 ≤ a ∧ a < iv M 11 0 then 1 else 0)))) M := by
  refine am_call_of ⟨Nat.le_of_ble_eq_true rfl, rfl⟩ (vc_c_has a M _ ?_)
  (repeat' (first | apply And.intro | intro _)) <;> (first | rfl | omega | (split <;> (first | rfl | omega)))
set_option maxRecDepth 100000 in
theorem vc_c_cell (o : Int) (w : Int) (M : am_M) (Q : Option Value → am_M → Prop) (hv : (0 ≤ ((45 + (o * 13)) + w) ∧ ((45 + (o * 13)) + w) < 1605) ∧ (Q (some (.int (zi (iv M 11 ((45 + (o * 13)) + w))))) M)) : am_x t_Amd_cell (0, am_ent (am_mL t_Amd_cell) [.ref 9, .int (zi o), .int (zi w)], [], M) Q := by
  refine am_xn 0 (c1 := (0, [.ref 9, .int (zi o), .int (zi w)], [], M)) rfl ?_
  refine am_ximul 6 o 13 (pc := 10) (ls := [.ref 9, .int (zi o), .int (zi w)]) (st := [.int (zi 45), .ref 10]) rfl ?_
  refine am_xiadd 1 45 (o * 13) (pc := 11) (ls := [.ref 9, .int (zi o), .int (zi w)]) (st := [.ref 10]) rfl ?_
  refine am_xiadd 2 (45 + (o * 13)) w (pc := 13) (ls := [.ref 9, .int (zi o), .int (zi w)]) (st := [.ref 10]) rfl ?_
  obtain ⟨g, hv⟩ := hv
  refine am_xc t_Row_get (.invokevirtual 20) 20 (av := [.ref 10, .int (zi ((45 + (o * 13)) + w))]) (rest := []) (rv := some (.int (zi (iv M 11 ((45 + (o * 13)) + w))))) (M' := M) rfl rfl rfl rfl (Nat.le_of_ble_eq_true rfl) (fun _ => rfl) (sp_get_10 M ((45 + (o * 13)) + w) g) ?_
  refine am_xn 0 (c1 := (16, [.ref 9, .int (zi o), .int (zi w)], [.int (zi (iv M 11 ((45 + (o * 13)) + w)))], M)) rfl ?_
  exact am_xr (some (.int (zi (iv M 11 ((45 + (o * 13)) + w))))) ⟨rfl, rfl, .int, rfl, rfl⟩ hv
theorem sp_c_cell (M : am_M) (o : Int) (w : Int) (g : 0 ≤ o ∧ o < 120 ∧ 0 ≤ w ∧ w < 13) : am_call t_Amd_cell [.ref 9, .int (zi o), .int (zi w)] M (some (.int (zi (cpt (iv M 11) o w)))) M := by
  refine am_call_of ⟨Nat.le_of_ble_eq_true rfl, rfl⟩ (vc_c_cell o w M _ ?_)
  (repeat' (first | apply And.intro | intro _)) <;> (first | rfl | omega | (split <;> (first | rfl | omega)))
set_option maxRecDepth 100000 in
theorem vc_l15_size  (M : am_M) (Q : Option Value → am_M → Prop) (hv : Q (some (.int (zi (iv M 15 9)))) M) : am_x t_Law_size (0, am_ent (am_mL t_Law_size) [.ref 15], [], M) Q := by
  refine am_xn 0 (c1 := (0, [.ref 15], [], M)) rfl ?_
  refine am_xrd 2 15 9 (pc := 4) (ls := [.ref 15]) (st := []) rfl ?_
  exact am_xr (some (.int (zi (iv M 15 9)))) ⟨rfl, rfl, .int, rfl, rfl⟩ hv
theorem sp_l15_size (M : am_M) : am_call t_Law_size [.ref 15] M (some (.int (zi (iv M 15 9)))) M := by
  refine am_call_of ⟨Nat.le_of_ble_eq_true rfl, rfl⟩ (vc_l15_size M _ ?_)
  (repeat' (first | apply And.intro | intro _)) <;> (first | rfl | omega | (split <;> (first | rfl | omega)))
set_option maxRecDepth 100000 in
theorem vc_l15_at (i : Int) (M : am_M) (Q : Option Value → am_M → Prop) (hv : (0 ≤ i ∧ i < 40) ∧ (Q (some (.int (zi (iv M 25 i)))) M)) : am_x t_Law_at (0, am_ent (am_mL t_Law_at) [.ref 15, .int (zi i)], [], M) Q := by
  refine am_xn 0 (c1 := (0, [.ref 15, .int (zi i)], [], M)) rfl ?_
  refine am_xn 3 (c1 := (5, [.ref 15, .int (zi i)], [.int (zi i), .ref 24], M)) rfl ?_
  obtain ⟨g, hv⟩ := hv
  refine am_xc t_Row_get (.invokevirtual 97) 97 (av := [.ref 24, .int (zi i)]) (rest := []) (rv := some (.int (zi (iv M 25 i)))) (M' := M) rfl rfl rfl rfl (Nat.le_of_ble_eq_true rfl) (fun _ => rfl) (sp_get_24 M i g) ?_
  refine am_xn 0 (c1 := (8, [.ref 15, .int (zi i)], [.int (zi (iv M 25 i))], M)) rfl ?_
  exact am_xr (some (.int (zi (iv M 25 i)))) ⟨rfl, rfl, .int, rfl, rfl⟩ hv
theorem sp_l15_at (M : am_M) (i : Int) (g : 0 ≤ i ∧ i < 40) : am_call t_Law_at [.ref 15, .int (zi i)] M (some (.int (zi (iv M 25 i)))) M := by
  refine am_call_of ⟨Nat.le_of_ble_eq_true rfl, rfl⟩ (vc_l15_at i M _ ?_)
  (repeat' (first | apply And.intro | intro _)) <;> (first | rfl | omega | (split <;> (first | rfl | omega)))
set_option maxRecDepth 100000 in
theorem vc_l15_code (c : Int) (M : am_M) (Q : Option Value → am_M → Prop) (hv : (0 ≤ c ∧ c < 40) ∧ (Q (some (.int (zi (iv M 17 c)))) M)) : am_x t_Law_code (0, am_ent (am_mL t_Law_code) [.ref 15, .int (zi c)], [], M) Q := by
  refine am_xn 0 (c1 := (0, [.ref 15, .int (zi c)], [], M)) rfl ?_
  refine am_xn 3 (c1 := (5, [.ref 15, .int (zi c)], [.int (zi c), .ref 16], M)) rfl ?_
  obtain ⟨g, hv⟩ := hv
  refine am_xc t_Row_get (.invokevirtual 97) 97 (av := [.ref 16, .int (zi c)]) (rest := []) (rv := some (.int (zi (iv M 17 c)))) (M' := M) rfl rfl rfl rfl (Nat.le_of_ble_eq_true rfl) (fun _ => rfl) (sp_get_16 M c g) ?_
  refine am_xn 0 (c1 := (8, [.ref 15, .int (zi c)], [.int (zi (iv M 17 c))], M)) rfl ?_
  exact am_xr (some (.int (zi (iv M 17 c)))) ⟨rfl, rfl, .int, rfl, rfl⟩ hv
theorem sp_l15_code (M : am_M) (c : Int) (g : 0 ≤ c ∧ c < 40) : am_call t_Law_code [.ref 15, .int (zi c)] M (some (.int (zi (iv M 17 c)))) M := by
  refine am_call_of ⟨Nat.le_of_ble_eq_true rfl, rfl⟩ (vc_l15_code c M _ ?_)
  (repeat' (first | apply And.intro | intro _)) <;> (first | rfl | omega | (split <;> (first | rfl | omega)))
set_option maxRecDepth 100000 in
theorem vc_l15_lastDay (c : Int) (M : am_M) (Q : Option Value → am_M → Prop) (hv : (0 ≤ c ∧ c < 40) ∧ (Q (some (.int (zi (iv M 19 c)))) M)) : am_x t_Law_lastDay (0, am_ent (am_mL t_Law_lastDay) [.ref 15, .int (zi c)], [], M) Q := by
  refine am_xn 0 (c1 := (0, [.ref 15, .int (zi c)], [], M)) rfl ?_
  refine am_xn 3 (c1 := (5, [.ref 15, .int (zi c)], [.int (zi c), .ref 18], M)) rfl ?_
  obtain ⟨g, hv⟩ := hv
  refine am_xc t_Row_get (.invokevirtual 97) 97 (av := [.ref 18, .int (zi c)]) (rest := []) (rv := some (.int (zi (iv M 19 c)))) (M' := M) rfl rfl rfl rfl (Nat.le_of_ble_eq_true rfl) (fun _ => rfl) (sp_get_18 M c g) ?_
  refine am_xn 0 (c1 := (8, [.ref 15, .int (zi c)], [.int (zi (iv M 19 c))], M)) rfl ?_
  exact am_xr (some (.int (zi (iv M 19 c)))) ⟨rfl, rfl, .int, rfl, rfl⟩ hv
theorem sp_l15_lastDay (M : am_M) (c : Int) (g : 0 ≤ c ∧ c < 40) : am_call t_Law_lastDay [.ref 15, .int (zi c)] M (some (.int (zi (iv M 19 c)))) M := by
  refine am_call_of ⟨Nat.le_of_ble_eq_true rfl, rfl⟩ (vc_l15_lastDay c M _ ?_)
  (repeat' (first | apply And.intro | intro _)) <;> (first | rfl | omega | (split <;> (first | rfl | omega)))
set_option maxRecDepth 100000 in
theorem vc_l15_length (c : Int) (M : am_M) (Q : Option Value → am_M → Prop) (hv : (0 ≤ c ∧ c < 40) ∧ (Q (some (.int (zi (iv M 21 c)))) M)) : am_x t_Law_length (0, am_ent (am_mL t_Law_length) [.ref 15, .int (zi c)], [], M) Q := by
  refine am_xn 0 (c1 := (0, [.ref 15, .int (zi c)], [], M)) rfl ?_
  refine am_xn 3 (c1 := (5, [.ref 15, .int (zi c)], [.int (zi c), .ref 20], M)) rfl ?_
  obtain ⟨g, hv⟩ := hv
  refine am_xc t_Row_get (.invokevirtual 97) 97 (av := [.ref 20, .int (zi c)]) (rest := []) (rv := some (.int (zi (iv M 21 c)))) (M' := M) rfl rfl rfl rfl (Nat.le_of_ble_eq_true rfl) (fun _ => rfl) (sp_get_20 M c g) ?_
  refine am_xn 0 (c1 := (8, [.ref 15, .int (zi c)], [.int (zi (iv M 21 c))], M)) rfl ?_
  exact am_xr (some (.int (zi (iv M 21 c)))) ⟨rfl, rfl, .int, rfl, rfl⟩ hv
theorem sp_l15_length (M : am_M) (c : Int) (g : 0 ≤ c ∧ c < 40) : am_call t_Law_length [.ref 15, .int (zi c)] M (some (.int (zi (iv M 21 c)))) M := by
  refine am_call_of ⟨Nat.le_of_ble_eq_true rfl, rfl⟩ (vc_l15_length c M _ ?_)
  (repeat' (first | apply And.intro | intro _)) <;> (first | rfl | omega | (split <;> (first | rfl | omega)))
set_option maxRecDepth 100000 in
theorem vc_l15_said (c : Int) (k : Int) (M : am_M) (Q : Option Value → am_M → Prop) (hv : (0 ≤ ((c * 6) + k) ∧ ((c * 6) + k) < 240) ∧ (Q (some (.int (zi (iv M 23 ((c * 6) + k))))) M)) : am_x t_Law_said (0, am_ent (am_mL t_Law_said) [.ref 15, .int (zi c), .int (zi k)], [], M) Q := by
  refine am_xn 0 (c1 := (0, [.ref 15, .int (zi c), .int (zi k)], [], M)) rfl ?_
  refine am_ximul 5 c 6 (pc := 8) (ls := [.ref 15, .int (zi c), .int (zi k)]) (st := [.ref 22]) rfl ?_
  refine am_xiadd 2 (c * 6) k (pc := 10) (ls := [.ref 15, .int (zi c), .int (zi k)]) (st := [.ref 22]) rfl ?_
  obtain ⟨g, hv⟩ := hv
  refine am_xc t_Row_get (.invokevirtual 97) 97 (av := [.ref 22, .int (zi ((c * 6) + k))]) (rest := []) (rv := some (.int (zi (iv M 23 ((c * 6) + k))))) (M' := M) rfl rfl rfl rfl (Nat.le_of_ble_eq_true rfl) (fun _ => rfl) (sp_get_22 M ((c * 6) + k) g) ?_
  refine am_xn 0 (c1 := (13, [.ref 15, .int (zi c), .int (zi k)], [.int (zi (iv M 23 ((c * 6) + k)))], M)) rfl ?_
  exact am_xr (some (.int (zi (iv M 23 ((c * 6) + k))))) ⟨rfl, rfl, .int, rfl, rfl⟩ hv
theorem sp_l15_said (M : am_M) (c : Int) (k : Int) (g : 0 ≤ c ∧ c < 40 ∧ 0 ≤ k ∧ k < 6) : am_call t_Law_said [.ref 15, .int (zi c), .int (zi k)] M (some (.int (zi (iv M 23 (c * 6 + k))))) M := by
  refine am_call_of ⟨Nat.le_of_ble_eq_true rfl, rfl⟩ (vc_l15_said c k M _ ?_)
  (repeat' (first | apply And.intro | intro _)) <;> (first | rfl | omega | (split <;> (first | rfl | omega)))
