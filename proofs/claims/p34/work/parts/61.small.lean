/-! the law's small methods -/
set_option maxRecDepth 100000 in
theorem vc_w_kind (k : Int) (M : am_M) (Q : Option Value → am_M → Prop) (hv : (0 ≤ k ∧ k < 16) ∧ (Q (some (.int (zi (zl2i (zlshr (lv M 58 k) 60))))) M)) : am_x t_LAW_kind (0, am_ent (am_mL t_LAW_kind) [.ref 58, .int (zi k)], [], M) Q := by
  refine am_xn 0 (c1 := (0, [.ref 58, .int (zi k)], [], M)) rfl ?_
  obtain ⟨r1, hv⟩ := hv
  refine am_xn 2 (c1 := (2, [.ref 58, .int (zi k)], [.int (zi k), .ref 58], M)) rfl ?_
  refine am_xlald rfl r1 ?_
  refine am_xn 0 (c1 := (3, [.ref 58, .int (zi k)], [.long (zl (lv M 58 k))], M)) rfl ?_
  refine am_xlbit 2 (zl (lv M 58 k) >>> ((zi 60).toInt64 &&& 63)) (pc := 6) (ls := [.ref 58, .int (zi k)]) (st := []) rfl ?_
  refine am_xn 0 (c1 := (6, [.ref 58, .int (zi k)], [.long (zl (zlshr (lv M 58 k) 60))], M)) rfl ?_
  refine am_xbit 1 ((zl (zlshr (lv M 58 k) 60)).toInt32) (pc := 7) (ls := [.ref 58, .int (zi k)]) (st := []) rfl ?_
  refine am_xn 0 (c1 := (7, [.ref 58, .int (zi k)], [.int (zi (zl2i (zlshr (lv M 58 k) 60)))], M)) rfl ?_
  exact am_xr (some (.int (zi (zl2i (zlshr (lv M 58 k) 60))))) ⟨rfl, rfl, .int, rfl, rfl⟩ hv
theorem sp_w_kind (M : am_M) (k : Int) (g : 0 ≤ k ∧ k < 16) : am_call t_LAW_kind [.ref 58, .int (zi k)] M (some (.int (zi (oK M k)))) M := by
  refine am_call_of ⟨Nat.le_of_ble_eq_true rfl, rfl⟩ (vc_w_kind k M _ ?_)
  (repeat' (first | apply And.intro | intro _)) <;> (first | rfl | omega | (split <;> (first | rfl | omega)))
set_option maxRecDepth 100000 in
theorem vc_w_code (k : Int) (M : am_M) (Q : Option Value → am_M → Prop) (hv : (0 ≤ k ∧ k < 16) ∧ (Q (some (.int (zi (zl2i (zland (zlshr (lv M 58 k) 40) 1048575))))) M)) : am_x t_LAW_code (0, am_ent (am_mL t_LAW_code) [.ref 58, .int (zi k)], [], M) Q := by
  refine am_xn 0 (c1 := (0, [.ref 58, .int (zi k)], [], M)) rfl ?_
  obtain ⟨r1, hv⟩ := hv
  refine am_xn 2 (c1 := (2, [.ref 58, .int (zi k)], [.int (zi k), .ref 58], M)) rfl ?_
  refine am_xlald rfl r1 ?_
  refine am_xn 0 (c1 := (3, [.ref 58, .int (zi k)], [.long (zl (lv M 58 k))], M)) rfl ?_
  refine am_xlbit 2 (zl (lv M 58 k) >>> ((zi 40).toInt64 &&& 63)) (pc := 6) (ls := [.ref 58, .int (zi k)]) (st := []) rfl ?_
  refine am_xn 0 (c1 := (6, [.ref 58, .int (zi k)], [.long (zl (zlshr (lv M 58 k) 40))], M)) rfl ?_
  refine am_xlbit 2 (zl (zlshr (lv M 58 k) 40) &&& zl 1048575) (pc := 10) (ls := [.ref 58, .int (zi k)]) (st := []) rfl ?_
  refine am_xn 0 (c1 := (10, [.ref 58, .int (zi k)], [.long (zl (zland (zlshr (lv M 58 k) 40) 1048575))], M)) rfl ?_
  refine am_xbit 1 ((zl (zland (zlshr (lv M 58 k) 40) 1048575)).toInt32) (pc := 11) (ls := [.ref 58, .int (zi k)]) (st := []) rfl ?_
  refine am_xn 0 (c1 := (11, [.ref 58, .int (zi k)], [.int (zi (zl2i (zland (zlshr (lv M 58 k) 40) 1048575)))], M)) rfl ?_
  exact am_xr (some (.int (zi (zl2i (zland (zlshr (lv M 58 k) 40) 1048575))))) ⟨rfl, rfl, .int, rfl, rfl⟩ hv
theorem sp_w_code (M : am_M) (k : Int) (g : 0 ≤ k ∧ k < 16) : am_call t_LAW_code [.ref 58, .int (zi k)] M (some (.int (zi (oC M k)))) M := by
  refine am_call_of ⟨Nat.le_of_ble_eq_true rfl, rfl⟩ (vc_w_code k M _ ?_)
  (repeat' (first | apply And.intro | intro _)) <;> (first | rfl | omega | (split <;> (first | rfl | omega)))
set_option maxRecDepth 100000 in
theorem vc_w_one (k : Int) (M : am_M) (Q : Option Value → am_M → Prop) (hv : (0 ≤ k ∧ k < 16) ∧ (Q (some (.int (zi (zl2i (zland (zlshr (lv M 58 k) 20) 1048575))))) M)) : am_x t_LAW_one (0, am_ent (am_mL t_LAW_one) [.ref 58, .int (zi k)], [], M) Q := by
  refine am_xn 0 (c1 := (0, [.ref 58, .int (zi k)], [], M)) rfl ?_
  obtain ⟨r1, hv⟩ := hv
  refine am_xn 2 (c1 := (2, [.ref 58, .int (zi k)], [.int (zi k), .ref 58], M)) rfl ?_
  refine am_xlald rfl r1 ?_
  refine am_xn 0 (c1 := (3, [.ref 58, .int (zi k)], [.long (zl (lv M 58 k))], M)) rfl ?_
  refine am_xlbit 2 (zl (lv M 58 k) >>> ((zi 20).toInt64 &&& 63)) (pc := 6) (ls := [.ref 58, .int (zi k)]) (st := []) rfl ?_
  refine am_xn 0 (c1 := (6, [.ref 58, .int (zi k)], [.long (zl (zlshr (lv M 58 k) 20))], M)) rfl ?_
  refine am_xlbit 2 (zl (zlshr (lv M 58 k) 20) &&& zl 1048575) (pc := 10) (ls := [.ref 58, .int (zi k)]) (st := []) rfl ?_
  refine am_xn 0 (c1 := (10, [.ref 58, .int (zi k)], [.long (zl (zland (zlshr (lv M 58 k) 20) 1048575))], M)) rfl ?_
  refine am_xbit 1 ((zl (zland (zlshr (lv M 58 k) 20) 1048575)).toInt32) (pc := 11) (ls := [.ref 58, .int (zi k)]) (st := []) rfl ?_
  refine am_xn 0 (c1 := (11, [.ref 58, .int (zi k)], [.int (zi (zl2i (zland (zlshr (lv M 58 k) 20) 1048575)))], M)) rfl ?_
  exact am_xr (some (.int (zi (zl2i (zland (zlshr (lv M 58 k) 20) 1048575))))) ⟨rfl, rfl, .int, rfl, rfl⟩ hv
theorem sp_w_one (M : am_M) (k : Int) (g : 0 ≤ k ∧ k < 16) : am_call t_LAW_one [.ref 58, .int (zi k)] M (some (.int (zi (oO M k)))) M := by
  refine am_call_of ⟨Nat.le_of_ble_eq_true rfl, rfl⟩ (vc_w_one k M _ ?_)
  (repeat' (first | apply And.intro | intro _)) <;> (first | rfl | omega | (split <;> (first | rfl | omega)))
set_option maxRecDepth 100000 in
theorem vc_w_two (k : Int) (M : am_M) (Q : Option Value → am_M → Prop) (hv : (0 ≤ k ∧ k < 16) ∧ (Q (some (.int (zi (zl2i (zland (lv M 58 k) 1048575))))) M)) : am_x t_LAW_two (0, am_ent (am_mL t_LAW_two) [.ref 58, .int (zi k)], [], M) Q := by
  refine am_xn 0 (c1 := (0, [.ref 58, .int (zi k)], [], M)) rfl ?_
  obtain ⟨r1, hv⟩ := hv
  refine am_xn 2 (c1 := (2, [.ref 58, .int (zi k)], [.int (zi k), .ref 58], M)) rfl ?_
  refine am_xlald rfl r1 ?_
  refine am_xn 0 (c1 := (3, [.ref 58, .int (zi k)], [.long (zl (lv M 58 k))], M)) rfl ?_
  refine am_xlbit 2 (zl (lv M 58 k) &&& zl 1048575) (pc := 7) (ls := [.ref 58, .int (zi k)]) (st := []) rfl ?_
  refine am_xn 0 (c1 := (7, [.ref 58, .int (zi k)], [.long (zl (zland (lv M 58 k) 1048575))], M)) rfl ?_
  refine am_xbit 1 ((zl (zland (lv M 58 k) 1048575)).toInt32) (pc := 8) (ls := [.ref 58, .int (zi k)]) (st := []) rfl ?_
  refine am_xn 0 (c1 := (8, [.ref 58, .int (zi k)], [.int (zi (zl2i (zland (lv M 58 k) 1048575)))], M)) rfl ?_
  exact am_xr (some (.int (zi (zl2i (zland (lv M 58 k) 1048575))))) ⟨rfl, rfl, .int, rfl, rfl⟩ hv
theorem sp_w_two (M : am_M) (k : Int) (g : 0 ≤ k ∧ k < 16) : am_call t_LAW_two [.ref 58, .int (zi k)] M (some (.int (zi (oT M k)))) M := by
  refine am_call_of ⟨Nat.le_of_ble_eq_true rfl, rfl⟩ (vc_w_two k M _ ?_)
  (repeat' (first | apply And.intro | intro _)) <;> (first | rfl | omega | (split <;> (first | rfl | omega)))
set_option maxRecDepth 100000 in
theorem vc_w_cell (k : Int) (M : am_M) (Q : Option Value → am_M → Prop) (hv : (zr k) ∧ ((k < (iv M 5001 0) → (0 ≤ k ∧ k < iv M 5001 0) ∧ (Q (some (.int (zi (iv M 5000 k)))) M)) ∧ ((iv M 5001 0) ≤ k → Q (some (.int (zi (1013904223 * (k + 1))))) M))) : am_x t_LAW_cell (0, am_ent (am_mL t_LAW_cell) [.ref 5000, .int (zi k)], [], M) Q := by
  refine am_xn 0 (c1 := (0, [.ref 5000, .int (zi k)], [], M)) rfl ?_
  refine am_xrd 3 5001 0 (pc := 3) (ls := [.ref 5000, .int (zi k)]) (st := [.int (zi k)]) rfl ?_
  obtain ⟨r1, hv⟩ := hv
  refine am_xn 1 (c1 := (if zi k < zi (iv M 5001 0) then 6 else 12, [.ref 5000, .int (zi k)], [], M)) rfl (am_xlt r1 (iv_r _ _ _) (fun h => ?_) (fun h => ?_))
  · replace hv := hv.1 h
    obtain ⟨r2, hv⟩ := hv
    refine am_xn 2 (c1 := (8, [.ref 5000, .int (zi k)], [.int (zi k), .ref 5000], M)) rfl ?_
    refine am_xsld rfl r2 ?_
    refine am_xn 0 (c1 := (9, [.ref 5000, .int (zi k)], [.int (zi (iv M 5000 k))], M)) rfl ?_
    refine am_xn 1 (c1 := (18, [.ref 5000, .int (zi k)], [.int (zi (iv M 5000 k))], M)) rfl ?_
    exact am_xr (some (.int (zi (iv M 5000 k)))) ⟨rfl, rfl, .int, rfl, rfl⟩ hv
  · replace hv := hv.2 h
    refine am_xiadd 4 k 1 (pc := 17) (ls := [.ref 5000, .int (zi k)]) (st := [.int (zi 1013904223)]) rfl ?_
    refine am_ximul 1 1013904223 (k + 1) (pc := 18) (ls := [.ref 5000, .int (zi k)]) (st := []) rfl ?_
    exact am_xr (some (.int (zi (1013904223 * (k + 1))))) ⟨rfl, rfl, .int, rfl, rfl⟩ hv
set_option maxRecDepth 100000 in
theorem vc_w_low (v : Int) (n : Int) (M : am_M) (Q : Option Value → am_M → Prop) (hv : (zr n) ∧ ((0 ≤ (zand v 2147483647) ∧ 0 < n) ∧ (Q (some (.int (zi ((zand v 2147483647) % n)))) M))) : am_x t_LAW_low (0, am_ent (am_mL t_LAW_low) [.int (zi v), .int (zi n)], [], M) Q := by
  refine am_xn 0 (c1 := (0, [.int (zi v), .int (zi n)], [], M)) rfl ?_
  refine am_xbit 3 (zi v &&& zi 2147483647) (pc := 4) (ls := [.int (zi v), .int (zi n)]) (st := []) rfl ?_
  refine am_xn 0 (c1 := (4, [.int (zi v), .int (zi n)], [.int (zi (zand v 2147483647))], M)) rfl ?_
  obtain ⟨r1, hv⟩ := hv
  obtain ⟨r2, hv⟩ := hv
  refine am_xn 1 (c1 := (5, [.int (zi v), .int (zi n)], [.int (zi n), .int (zi (zand v 2147483647))], M)) rfl ?_
  refine am_xrem rfl r2.1 r2.2 (zr_toInt _) r1 ?_
  refine am_xn 0 (c1 := (6, [.int (zi v), .int (zi n)], [.int (zi ((zand v 2147483647) % n))], M)) rfl ?_
  exact am_xr (some (.int (zi ((zand v 2147483647) % n)))) ⟨rfl, rfl, .int, rfl, rfl⟩ hv
set_option maxRecDepth 100000 in
theorem vc_w_identity (k : Int) (M : am_M) (Q : Option Value → am_M → Prop) (hv : am_x t_LAW_identity (4, [.ref 58, .int (zi k), .int (zi 0), .int (zi 0)], [], M) Q) : am_x t_LAW_identity (0, am_ent (am_mL t_LAW_identity) [.ref 58, .int (zi k)], [], M) Q := by
  refine am_xn 0 (c1 := (0, [.ref 58, .int (zi k), .null, .null], [], M)) rfl ?_
  refine am_xn 4 (c1 := (4, [.ref 58, .int (zi k), .int (zi 0), .int (zi 0)], [], M)) rfl ?_
  exact hv
set_option maxRecDepth 100000 in
theorem vc_w_identity_4 (x1 : Int) (x2 : Int) (x3 : Int) (M : am_M) (Q : Option Value → am_M → Prop) (hv : (zr x3) ∧ ((zr x1) ∧ ((x3 < x1 → (0 ≤ x3 ∧ x3 < 16) ∧ (((oK M x3) = 0 → am_x t_LAW_identity (4, [.ref 58, .int (zi x1), .int (zi (x2 + 1)), .int (zi (x3 + 1))], [], M) Q) ∧ (¬ (oK M x3) = 0 → am_x t_LAW_identity (4, [.ref 58, .int (zi x1), .int (zi (x2 + 0)), .int (zi (x3 + 1))], [], M) Q))) ∧ (x1 ≤ x3 → Q (some (.int (zi x2))) M)))) : am_x t_LAW_identity (4, [.ref 58, .int (zi x1), .int (zi x2), .int (zi x3)], [], M) Q := by
  obtain ⟨r1, hv⟩ := hv
  obtain ⟨r2, hv⟩ := hv
  refine am_xn 3 (c1 := (if zi x3 < zi x1 then 9 else 31, [.ref 58, .int (zi x1), .int (zi x2), .int (zi x3)], [], M)) rfl (am_xlt r1 r2 (fun h => ?_) (fun h => ?_))
  · replace hv := hv.1 h
    refine am_xn 3 (c1 := (12, [.ref 58, .int (zi x1), .int (zi x2), .int (zi x3)], [.int (zi x3), .ref 58, .int (zi x2)], M)) rfl ?_
    obtain ⟨g, hv⟩ := hv
    refine am_xc t_LAW_kind (.invokestatic 28) 28 (av := [.ref 58, .int (zi x3)]) (rest := [.int (zi x2)]) (rv := some (.int (zi (oK M x3)))) (M' := M) rfl rfl rfl rfl (Nat.le_of_ble_eq_true rfl) (fun h => nomatch h) (sp_w_kind M x3 g) ?_
    refine am_xn 0 (c1 := (15, [.ref 58, .int (zi x1), .int (zi x2), .int (zi x3)], [.int (zi (oK M x3)), .int (zi x2)], M)) rfl ?_
    refine am_xn 1 (c1 := (if zi (oK M x3) = zi 0 then 18 else 22, [.ref 58, .int (zi x1), .int (zi x2), .int (zi x3)], [.int (zi x2)], M)) rfl (am_xeq (zr_zl2i _) (by decide) (fun h => ?_) (fun h => ?_))
    · replace hv := hv.1 h
      refine am_xiadd 3 x2 1 (pc := 24) (ls := [.ref 58, .int (zi x1), .int (zi x2), .int (zi x3)]) (st := []) rfl ?_
      refine am_xn 2 (c1 := (28, [.ref 58, .int (zi x1), .int (zi (x2 + 1)), .int (zi x3 + zi 1)], [], M)) rfl ?_
      rw [zi_add]
      refine am_xn 1 (c1 := (4, [.ref 58, .int (zi x1), .int (zi (x2 + 1)), .int (zi (x3 + 1))], [], M)) rfl ?_
      exact hv
    · replace hv := hv.2 h
      refine am_xiadd 2 x2 0 (pc := 24) (ls := [.ref 58, .int (zi x1), .int (zi x2), .int (zi x3)]) (st := []) rfl ?_
      refine am_xn 2 (c1 := (28, [.ref 58, .int (zi x1), .int (zi (x2 + 0)), .int (zi x3 + zi 1)], [], M)) rfl ?_
      rw [zi_add]
      refine am_xn 1 (c1 := (4, [.ref 58, .int (zi x1), .int (zi (x2 + 0)), .int (zi (x3 + 1))], [], M)) rfl ?_
      exact hv
  · replace hv := hv.2 h
    refine am_xn 1 (c1 := (32, [.ref 58, .int (zi x1), .int (zi x2), .int (zi x3)], [.int (zi x2)], M)) rfl ?_
    exact am_xr (some (.int (zi x2))) ⟨rfl, rfl, .int, rfl, rfl⟩ hv
set_option maxRecDepth 100000 in
theorem vc_w_at (x : Int) (M : am_M) (Q : Option Value → am_M → Prop) (hv : am_x t_LAW_at (2, [.ref 61, .int (zi x), .int (zi 0)], [], M) Q) : am_x t_LAW_at (0, am_ent (am_mL t_LAW_at) [.ref 61, .int (zi x)], [], M) Q := by
  refine am_xn 0 (c1 := (0, [.ref 61, .int (zi x), .null], [], M)) rfl ?_
  refine am_xn 2 (c1 := (2, [.ref 61, .int (zi x), .int (zi 0)], [], M)) rfl ?_
  exact hv
set_option maxRecDepth 100000 in
theorem vc_w_at_2 (x1 : Int) (x2 : Int) (M : am_M) (Q : Option Value → am_M → Prop) (hv : (zr x2) ∧ ((x2 < 12 → (0 ≤ (5 * x2) ∧ (5 * x2) < 64) ∧ (((iv M 61 (5 * x2)) = 1 → (0 ≤ ((5 * x2) + 1) ∧ ((5 * x2) + 1) < 64) ∧ ((zr x1) ∧ (((iv M 61 ((5 * x2) + 1)) = x1 → Q (some (.int (zi x2))) M) ∧ (¬ (iv M 61 ((5 * x2) + 1)) = x1 → am_x t_LAW_at (2, [.ref 61, .int (zi x1), .int (zi (x2 + 1))], [], M) Q)))) ∧ (¬ (iv M 61 (5 * x2)) = 1 → am_x t_LAW_at (2, [.ref 61, .int (zi x1), .int (zi (x2 + 1))], [], M) Q))) ∧ (12 ≤ x2 → Q (some (.int (zi (-1)))) M))) : am_x t_LAW_at (2, [.ref 61, .int (zi x1), .int (zi x2)], [], M) Q := by
  obtain ⟨r1, hv⟩ := hv
  refine am_xn 3 (c1 := (if zi x2 < zi 12 then 8 else 36, [.ref 61, .int (zi x1), .int (zi x2)], [], M)) rfl (am_xlt r1 (by decide) (fun h => ?_) (fun h => ?_))
  · replace hv := hv.1 h
    refine am_ximul 4 5 x2 (pc := 12) (ls := [.ref 61, .int (zi x1), .int (zi x2)]) (st := [.ref 61]) rfl ?_
    obtain ⟨r2, hv⟩ := hv
    refine am_xald rfl rfl rfl r2 ?_
    refine am_xn 0 (c1 := (13, [.ref 61, .int (zi x1), .int (zi x2)], [.int (zi (iv M 61 (5 * x2)))], M)) rfl ?_
    refine am_xn 2 (c1 := (if zi (iv M 61 (5 * x2)) = zi 1 then 17 else 30, [.ref 61, .int (zi x1), .int (zi x2)], [], M)) rfl (am_xeq (iv_r _ _ _) (by decide) (fun h => ?_) (fun h => ?_))
    · replace hv := hv.1 h
      refine am_ximul 4 5 x2 (pc := 21) (ls := [.ref 61, .int (zi x1), .int (zi x2)]) (st := [.ref 61]) rfl ?_
      refine am_xiadd 2 (5 * x2) 1 (pc := 23) (ls := [.ref 61, .int (zi x1), .int (zi x2)]) (st := [.ref 61]) rfl ?_
      obtain ⟨r3, hv⟩ := hv
      refine am_xald rfl rfl rfl r3 ?_
      refine am_xn 0 (c1 := (24, [.ref 61, .int (zi x1), .int (zi x2)], [.int (zi (iv M 61 ((5 * x2) + 1)))], M)) rfl ?_
      obtain ⟨r4, hv⟩ := hv
      refine am_xn 2 (c1 := (if zi (iv M 61 ((5 * x2) + 1)) = zi x1 then 28 else 30, [.ref 61, .int (zi x1), .int (zi x2)], [], M)) rfl (am_xeq (iv_r _ _ _) r4 (fun h => ?_) (fun h => ?_))
      · replace hv := hv.1 h
        refine am_xn 1 (c1 := (29, [.ref 61, .int (zi x1), .int (zi x2)], [.int (zi x2)], M)) rfl ?_
        exact am_xr (some (.int (zi x2))) ⟨rfl, rfl, .int, rfl, rfl⟩ hv
      · replace hv := hv.2 h
        refine am_xn 1 (c1 := (33, [.ref 61, .int (zi x1), .int (zi x2 + zi 1)], [], M)) rfl ?_
        rw [zi_add]
        refine am_xn 1 (c1 := (2, [.ref 61, .int (zi x1), .int (zi (x2 + 1))], [], M)) rfl ?_
        exact hv
    · replace hv := hv.2 h
      refine am_xn 1 (c1 := (33, [.ref 61, .int (zi x1), .int (zi x2 + zi 1)], [], M)) rfl ?_
      rw [zi_add]
      refine am_xn 1 (c1 := (2, [.ref 61, .int (zi x1), .int (zi (x2 + 1))], [], M)) rfl ?_
      exact hv
  · replace hv := hv.2 h
    refine am_xn 1 (c1 := (37, [.ref 61, .int (zi x1), .int (zi x2)], [.int (zi (-1))], M)) rfl ?_
    exact am_xr (some (.int (zi (-1)))) ⟨rfl, rfl, .int, rfl, rfl⟩ hv
set_option maxRecDepth 100000 in
theorem vc_w_next (d : Int) (a : Int) (l : Int) (M : am_M) (Q : Option Value → am_M → Prop) (hv : am_x t_LAW_next (10, [.ref 60, .int (zi d), .int (zi a), .int (zi l), .int (zi (-1)), .int (zi ((iv M 60 0) - 1)), .null], [], M) Q) : am_x t_LAW_next (0, am_ent (am_mL t_LAW_next) [.ref 60, .int (zi d), .int (zi a), .int (zi l)], [], M) Q := by
  refine am_xn 0 (c1 := (0, [.ref 60, .int (zi d), .int (zi a), .int (zi l), .null, .null, .null], [], M)) rfl ?_
  refine am_xrd 5 60 0 (pc := 6) (ls := [.ref 60, .int (zi d), .int (zi a), .int (zi l), .int (zi (-1)), .null, .null]) (st := []) rfl ?_
  refine am_xisub 2 (iv M 60 0) 1 (pc := 8) (ls := [.ref 60, .int (zi d), .int (zi a), .int (zi l), .int (zi (-1)), .null, .null]) (st := []) rfl ?_
  refine am_xn 1 (c1 := (10, [.ref 60, .int (zi d), .int (zi a), .int (zi l), .int (zi (-1)), .int (zi ((iv M 60 0) - 1)), .null], [], M)) rfl ?_
  exact hv
set_option maxRecDepth 100000 in
theorem vc_w_next_10 (x1 : Int) (x2 : Int) (x3 : Int) (x4 : Int) (x5 : Int) (M : am_M) (Q : Option Value → am_M → Prop) (hv : (zr x5) ∧ ((x5 < 0 → Q (some (.int (zi x4))) M) ∧ (0 ≤ x5 → (0 ≤ (1 + x5) ∧ (1 + x5) < 32) ∧ ((zr x1) ∧ ((x1 < (iv M 60 (1 + x5)) → (0 ≤ (9 + x5) ∧ (9 + x5) < 32) ∧ (((iv M 60 (9 + x5)) = 0 → (0 ≤ (1 + x5) ∧ (1 + x5) < 32) ∧ ((zr x3) ∧ ((x3 < (iv M 60 (1 + x5)) → am_x t_LAW_next (10, [.ref 60, .int (zi x1), .int (zi x2), .int (zi x3), .int (zi x4), .int (zi (x5 + (-1))), .null], [], M) Q) ∧ ((iv M 60 (1 + x5)) ≤ x3 → (zr x4) ∧ ((x4 = (-1) → am_x t_LAW_next (10, [.ref 60, .int (zi x1), .int (zi x2), .int (zi x3), .int (zi x5), .int (zi (x5 + (-1))), .null], [], M) Q) ∧ (¬ x4 = (-1) → (0 ≤ (1 + x5) ∧ (1 + x5) < 32) ∧ ((0 ≤ (1 + x4) ∧ (1 + x4) < 32) ∧ (((iv M 60 (1 + x4)) < (iv M 60 (1 + x5)) → am_x t_LAW_next (10, [.ref 60, .int (zi x1), .int (zi x2), .int (zi x3), .int (zi x4), .int (zi (x5 + (-1))), .null], [], M) Q) ∧ ((iv M 60 (1 + x5)) ≤ (iv M 60 (1 + x4)) → am_x t_LAW_next (10, [.ref 60, .int (zi x1), .int (zi x2), .int (zi x3), .int (zi x5), .int (zi (x5 + (-1))), .null], [], M) Q))))))))) ∧ (¬ (iv M 60 (9 + x5)) = 0 → am_x t_LAW_next (10, [.ref 60, .int (zi x1), .int (zi x2), .int (zi x3), .int (zi x4), .int (zi (x5 + (-1))), .null], [], M) Q))) ∧ ((iv M 60 (1 + x5)) ≤ x1 → (0 ≤ (1 + x5) ∧ (1 + x5) < 32) ∧ (((iv M 60 (1 + x5)) = x1 → (zr x2) ∧ ((x2 < x5 → (0 ≤ (9 + x5) ∧ (9 + x5) < 32) ∧ (((iv M 60 (9 + x5)) = 0 → (0 ≤ (1 + x5) ∧ (1 + x5) < 32) ∧ ((zr x3) ∧ ((x3 < (iv M 60 (1 + x5)) → am_x t_LAW_next (10, [.ref 60, .int (zi x1), .int (zi x2), .int (zi x3), .int (zi x4), .int (zi (x5 + (-1))), .null], [], M) Q) ∧ ((iv M 60 (1 + x5)) ≤ x3 → (zr x4) ∧ ((x4 = (-1) → am_x t_LAW_next (10, [.ref 60, .int (zi x1), .int (zi x2), .int (zi x3), .int (zi x5), .int (zi (x5 + (-1))), .null], [], M) Q) ∧ (¬ x4 = (-1) → (0 ≤ (1 + x5) ∧ (1 + x5) < 32) ∧ ((0 ≤ (1 + x4) ∧ (1 + x4) < 32) ∧ (((iv M 60 (1 + x4)) < (iv M 60 (1 + x5)) → am_x t_LAW_next (10, [.ref 60, .int (zi x1), .int (zi x2), .int (zi x3), .int (zi x4), .int (zi (x5 + (-1))), .null], [], M) Q) ∧ ((iv M 60 (1 + x5)) ≤ (iv M 60 (1 + x4)) → am_x t_LAW_next (10, [.ref 60, .int (zi x1), .int (zi x2), .int (zi x3), .int (zi x5), .int (zi (x5 + (-1))), .null], [], M) Q))))))))) ∧ (¬ (iv M 60 (9 + x5)) = 0 → am_x t_LAW_next (10, [.ref 60, .int (zi x1), .int (zi x2), .int (zi x3), .int (zi x4), .int (zi (x5 + (-1))), .null], [], M) Q))) ∧ (x5 ≤ x2 → (0 ≤ (9 + x5) ∧ (9 + x5) < 32) ∧ (((iv M 60 (9 + x5)) = 0 → am_x t_LAW_next (10, [.ref 60, .int (zi x1), .int (zi x2), .int (zi x3), .int (zi x4), .int (zi (x5 + (-1))), .null], [], M) Q) ∧ (¬ (iv M 60 (9 + x5)) = 0 → am_x t_LAW_next (10, [.ref 60, .int (zi x1), .int (zi x2), .int (zi x3), .int (zi x4), .int (zi (x5 + (-1))), .null], [], M) Q))))) ∧ (¬ (iv M 60 (1 + x5)) = x1 → (0 ≤ (9 + x5) ∧ (9 + x5) < 32) ∧ (((iv M 60 (9 + x5)) = 0 → am_x t_LAW_next (10, [.ref 60, .int (zi x1), .int (zi x2), .int (zi x3), .int (zi x4), .int (zi (x5 + (-1))), .null], [], M) Q) ∧ (¬ (iv M 60 (9 + x5)) = 0 → am_x t_LAW_next (10, [.ref 60, .int (zi x1), .int (zi x2), .int (zi x3), .int (zi x4), .int (zi (x5 + (-1))), .null], [], M) Q)))))))))) : am_x t_LAW_next (10, [.ref 60, .int (zi x1), .int (zi x2), .int (zi x3), .int (zi x4), .int (zi x5), .null], [], M) Q := by
  obtain ⟨r1, hv⟩ := hv
  refine am_xn 2 (c1 := (if zi x5 < zi 0 then 104 else 15, [.ref 60, .int (zi x1), .int (zi x2), .int (zi x3), .int (zi x4), .int (zi x5), .null], [], M)) rfl (am_xlt r1 (by decide) (fun h => ?_) (fun h => ?_))
  · replace hv := hv.1 h
    refine am_xn 1 (c1 := (106, [.ref 60, .int (zi x1), .int (zi x2), .int (zi x3), .int (zi x4), .int (zi x5), .null], [.int (zi x4)], M)) rfl ?_
    exact am_xr (some (.int (zi x4))) ⟨rfl, rfl, .int, rfl, rfl⟩ hv
  · replace hv := hv.2 h
    refine am_xiadd 4 1 x5 (pc := 20) (ls := [.ref 60, .int (zi x1), .int (zi x2), .int (zi x3), .int (zi x4), .int (zi x5), .null]) (st := [.ref 60]) rfl ?_
    obtain ⟨r2, hv⟩ := hv
    refine am_xald rfl rfl rfl r2 ?_
    refine am_xn 0 (c1 := (21, [.ref 60, .int (zi x1), .int (zi x2), .int (zi x3), .int (zi x4), .int (zi x5), .null], [.int (zi (iv M 60 (1 + x5)))], M)) rfl ?_
    obtain ⟨r3, hv⟩ := hv
    refine am_xn 2 (c1 := (if zi x1 < zi (iv M 60 (1 + x5)) then 41 else 25, [.ref 60, .int (zi x1), .int (zi x2), .int (zi x3), .int (zi x4), .int (zi x5), .null], [], M)) rfl (am_xlt r3 (iv_r _ _ _) (fun h => ?_) (fun h => ?_))
    · replace hv := hv.1 h
      refine am_xiadd 7 9 x5 (pc := 54) (ls := [.ref 60, .int (zi x1), .int (zi x2), .int (zi x3), .int (zi x4), .int (zi x5), .int (zi 1)]) (st := [.ref 60]) rfl ?_
      obtain ⟨r4, hv⟩ := hv
      refine am_xald rfl rfl rfl r4 ?_
      refine am_xn 0 (c1 := (55, [.ref 60, .int (zi x1), .int (zi x2), .int (zi x3), .int (zi x4), .int (zi x5), .int (zi 1)], [.int (zi (iv M 60 (9 + x5)))], M)) rfl ?_
      refine am_xn 1 (c1 := (if zi (iv M 60 (9 + x5)) = zi 0 then 58 else 98, [.ref 60, .int (zi x1), .int (zi x2), .int (zi x3), .int (zi x4), .int (zi x5), .int (zi 1)], [], M)) rfl (am_xeq (iv_r _ _ _) (by decide) (fun h => ?_) (fun h => ?_))
      · replace hv := hv.1 h
        refine am_xiadd 6 1 x5 (pc := 68) (ls := [.ref 60, .int (zi x1), .int (zi x2), .int (zi x3), .int (zi x4), .int (zi x5), .int (zi 1)]) (st := [.ref 60]) rfl ?_
        obtain ⟨r5, hv⟩ := hv
        refine am_xald rfl rfl rfl r5 ?_
        refine am_xn 0 (c1 := (69, [.ref 60, .int (zi x1), .int (zi x2), .int (zi x3), .int (zi x4), .int (zi x5), .int (zi 1)], [.int (zi (iv M 60 (1 + x5)))], M)) rfl ?_
        obtain ⟨r6, hv⟩ := hv
        refine am_xn 2 (c1 := (if zi x3 < zi (iv M 60 (1 + x5)) then 98 else 73, [.ref 60, .int (zi x1), .int (zi x2), .int (zi x3), .int (zi x4), .int (zi x5), .int (zi 1)], [], M)) rfl (am_xlt r6 (iv_r _ _ _) (fun h => ?_) (fun h => ?_))
        · replace hv := hv.1 h
          refine am_xn 1 (c1 := (101, [.ref 60, .int (zi x1), .int (zi x2), .int (zi x3), .int (zi x4), .int (zi x5 + zi (-1)), .int (zi 1)], [], M)) rfl ?_
          rw [zi_add]
          refine am_xn 1 (c1 := (10, [.ref 60, .int (zi x1), .int (zi x2), .int (zi x3), .int (zi x4), .int (zi (x5 + (-1))), .int (zi 1)], [], M)) rfl ?_
          refine am_xf 6 ?_
          exact hv
        · replace hv := hv.2 h
          obtain ⟨r7, hv⟩ := hv
          refine am_xn 3 (c1 := (if zi x4 = zi (-1) then 94 else 79, [.ref 60, .int (zi x1), .int (zi x2), .int (zi x3), .int (zi x4), .int (zi x5), .int (zi 1)], [], M)) rfl (am_xeq r7 (by decide) (fun h => ?_) (fun h => ?_))
          · replace hv := hv.1 h
            refine am_xn 3 (c1 := (101, [.ref 60, .int (zi x1), .int (zi x2), .int (zi x3), .int (zi x5), .int (zi x5 + zi (-1)), .int (zi 1)], [], M)) rfl ?_
            rw [zi_add]
            refine am_xn 1 (c1 := (10, [.ref 60, .int (zi x1), .int (zi x2), .int (zi x3), .int (zi x5), .int (zi (x5 + (-1))), .int (zi 1)], [], M)) rfl ?_
            refine am_xf 6 ?_
            exact hv
          · replace hv := hv.2 h
            refine am_xiadd 4 1 x5 (pc := 84) (ls := [.ref 60, .int (zi x1), .int (zi x2), .int (zi x3), .int (zi x4), .int (zi x5), .int (zi 1)]) (st := [.ref 60]) rfl ?_
            obtain ⟨r8, hv⟩ := hv
            refine am_xald rfl rfl rfl r8 ?_
            refine am_xn 0 (c1 := (85, [.ref 60, .int (zi x1), .int (zi x2), .int (zi x3), .int (zi x4), .int (zi x5), .int (zi 1)], [.int (zi (iv M 60 (1 + x5)))], M)) rfl ?_
            refine am_xiadd 4 1 x4 (pc := 90) (ls := [.ref 60, .int (zi x1), .int (zi x2), .int (zi x3), .int (zi x4), .int (zi x5), .int (zi 1)]) (st := [.ref 60, .int (zi (iv M 60 (1 + x5)))]) rfl ?_
            obtain ⟨r9, hv⟩ := hv
            refine am_xald rfl rfl rfl r9 ?_
            refine am_xn 0 (c1 := (91, [.ref 60, .int (zi x1), .int (zi x2), .int (zi x3), .int (zi x4), .int (zi x5), .int (zi 1)], [.int (zi (iv M 60 (1 + x4))), .int (zi (iv M 60 (1 + x5)))], M)) rfl ?_
            refine am_xn 1 (c1 := (if zi (iv M 60 (1 + x4)) < zi (iv M 60 (1 + x5)) then 98 else 94, [.ref 60, .int (zi x1), .int (zi x2), .int (zi x3), .int (zi x4), .int (zi x5), .int (zi 1)], [], M)) rfl (am_xlt (iv_r _ _ _) (iv_r _ _ _) (fun h => ?_) (fun h => ?_))
            · replace hv := hv.1 h
              refine am_xn 1 (c1 := (101, [.ref 60, .int (zi x1), .int (zi x2), .int (zi x3), .int (zi x4), .int (zi x5 + zi (-1)), .int (zi 1)], [], M)) rfl ?_
              rw [zi_add]
              refine am_xn 1 (c1 := (10, [.ref 60, .int (zi x1), .int (zi x2), .int (zi x3), .int (zi x4), .int (zi (x5 + (-1))), .int (zi 1)], [], M)) rfl ?_
              refine am_xf 6 ?_
              exact hv
            · replace hv := hv.2 h
              refine am_xn 3 (c1 := (101, [.ref 60, .int (zi x1), .int (zi x2), .int (zi x3), .int (zi x5), .int (zi x5 + zi (-1)), .int (zi 1)], [], M)) rfl ?_
              rw [zi_add]
              refine am_xn 1 (c1 := (10, [.ref 60, .int (zi x1), .int (zi x2), .int (zi x3), .int (zi x5), .int (zi (x5 + (-1))), .int (zi 1)], [], M)) rfl ?_
              refine am_xf 6 ?_
              exact hv
      · replace hv := hv.2 h
        refine am_xn 1 (c1 := (101, [.ref 60, .int (zi x1), .int (zi x2), .int (zi x3), .int (zi x4), .int (zi x5 + zi (-1)), .int (zi 1)], [], M)) rfl ?_
        rw [zi_add]
        refine am_xn 1 (c1 := (10, [.ref 60, .int (zi x1), .int (zi x2), .int (zi x3), .int (zi x4), .int (zi (x5 + (-1))), .int (zi 1)], [], M)) rfl ?_
        refine am_xf 6 ?_
        exact hv
    · replace hv := hv.2 h
      refine am_xiadd 4 1 x5 (pc := 30) (ls := [.ref 60, .int (zi x1), .int (zi x2), .int (zi x3), .int (zi x4), .int (zi x5), .null]) (st := [.ref 60]) rfl ?_
      obtain ⟨r10, hv⟩ := hv
      refine am_xald rfl rfl rfl r10 ?_
      refine am_xn 0 (c1 := (31, [.ref 60, .int (zi x1), .int (zi x2), .int (zi x3), .int (zi x4), .int (zi x5), .null], [.int (zi (iv M 60 (1 + x5)))], M)) rfl ?_
      refine am_xn 2 (c1 := (if zi (iv M 60 (1 + x5)) = zi x1 then 35 else 45, [.ref 60, .int (zi x1), .int (zi x2), .int (zi x3), .int (zi x4), .int (zi x5), .null], [], M)) rfl (am_xeq (iv_r _ _ _) r3 (fun h => ?_) (fun h => ?_))
      · replace hv := hv.1 h
        obtain ⟨r11, hv⟩ := hv
        refine am_xn 3 (c1 := (if zi x2 < zi x5 then 41 else 45, [.ref 60, .int (zi x1), .int (zi x2), .int (zi x3), .int (zi x4), .int (zi x5), .null], [], M)) rfl (am_xlt r11 r1 (fun h => ?_) (fun h => ?_))
        · replace hv := hv.1 h
          refine am_xiadd 7 9 x5 (pc := 54) (ls := [.ref 60, .int (zi x1), .int (zi x2), .int (zi x3), .int (zi x4), .int (zi x5), .int (zi 1)]) (st := [.ref 60]) rfl ?_
          obtain ⟨r12, hv⟩ := hv
          refine am_xald rfl rfl rfl r12 ?_
          refine am_xn 0 (c1 := (55, [.ref 60, .int (zi x1), .int (zi x2), .int (zi x3), .int (zi x4), .int (zi x5), .int (zi 1)], [.int (zi (iv M 60 (9 + x5)))], M)) rfl ?_
          refine am_xn 1 (c1 := (if zi (iv M 60 (9 + x5)) = zi 0 then 58 else 98, [.ref 60, .int (zi x1), .int (zi x2), .int (zi x3), .int (zi x4), .int (zi x5), .int (zi 1)], [], M)) rfl (am_xeq (iv_r _ _ _) (by decide) (fun h => ?_) (fun h => ?_))
          · replace hv := hv.1 h
            refine am_xiadd 6 1 x5 (pc := 68) (ls := [.ref 60, .int (zi x1), .int (zi x2), .int (zi x3), .int (zi x4), .int (zi x5), .int (zi 1)]) (st := [.ref 60]) rfl ?_
            obtain ⟨r13, hv⟩ := hv
            refine am_xald rfl rfl rfl r13 ?_
            refine am_xn 0 (c1 := (69, [.ref 60, .int (zi x1), .int (zi x2), .int (zi x3), .int (zi x4), .int (zi x5), .int (zi 1)], [.int (zi (iv M 60 (1 + x5)))], M)) rfl ?_
            obtain ⟨r14, hv⟩ := hv
            refine am_xn 2 (c1 := (if zi x3 < zi (iv M 60 (1 + x5)) then 98 else 73, [.ref 60, .int (zi x1), .int (zi x2), .int (zi x3), .int (zi x4), .int (zi x5), .int (zi 1)], [], M)) rfl (am_xlt r14 (iv_r _ _ _) (fun h => ?_) (fun h => ?_))
            · replace hv := hv.1 h
              refine am_xn 1 (c1 := (101, [.ref 60, .int (zi x1), .int (zi x2), .int (zi x3), .int (zi x4), .int (zi x5 + zi (-1)), .int (zi 1)], [], M)) rfl ?_
              rw [zi_add]
              refine am_xn 1 (c1 := (10, [.ref 60, .int (zi x1), .int (zi x2), .int (zi x3), .int (zi x4), .int (zi (x5 + (-1))), .int (zi 1)], [], M)) rfl ?_
              refine am_xf 6 ?_
              exact hv
            · replace hv := hv.2 h
              obtain ⟨r15, hv⟩ := hv
              refine am_xn 3 (c1 := (if zi x4 = zi (-1) then 94 else 79, [.ref 60, .int (zi x1), .int (zi x2), .int (zi x3), .int (zi x4), .int (zi x5), .int (zi 1)], [], M)) rfl (am_xeq r15 (by decide) (fun h => ?_) (fun h => ?_))
              · replace hv := hv.1 h
                refine am_xn 3 (c1 := (101, [.ref 60, .int (zi x1), .int (zi x2), .int (zi x3), .int (zi x5), .int (zi x5 + zi (-1)), .int (zi 1)], [], M)) rfl ?_
                rw [zi_add]
                refine am_xn 1 (c1 := (10, [.ref 60, .int (zi x1), .int (zi x2), .int (zi x3), .int (zi x5), .int (zi (x5 + (-1))), .int (zi 1)], [], M)) rfl ?_
                refine am_xf 6 ?_
                exact hv
              · replace hv := hv.2 h
                refine am_xiadd 4 1 x5 (pc := 84) (ls := [.ref 60, .int (zi x1), .int (zi x2), .int (zi x3), .int (zi x4), .int (zi x5), .int (zi 1)]) (st := [.ref 60]) rfl ?_
                obtain ⟨r16, hv⟩ := hv
                refine am_xald rfl rfl rfl r16 ?_
                refine am_xn 0 (c1 := (85, [.ref 60, .int (zi x1), .int (zi x2), .int (zi x3), .int (zi x4), .int (zi x5), .int (zi 1)], [.int (zi (iv M 60 (1 + x5)))], M)) rfl ?_
                refine am_xiadd 4 1 x4 (pc := 90) (ls := [.ref 60, .int (zi x1), .int (zi x2), .int (zi x3), .int (zi x4), .int (zi x5), .int (zi 1)]) (st := [.ref 60, .int (zi (iv M 60 (1 + x5)))]) rfl ?_
                obtain ⟨r17, hv⟩ := hv
                refine am_xald rfl rfl rfl r17 ?_
                refine am_xn 0 (c1 := (91, [.ref 60, .int (zi x1), .int (zi x2), .int (zi x3), .int (zi x4), .int (zi x5), .int (zi 1)], [.int (zi (iv M 60 (1 + x4))), .int (zi (iv M 60 (1 + x5)))], M)) rfl ?_
                refine am_xn 1 (c1 := (if zi (iv M 60 (1 + x4)) < zi (iv M 60 (1 + x5)) then 98 else 94, [.ref 60, .int (zi x1), .int (zi x2), .int (zi x3), .int (zi x4), .int (zi x5), .int (zi 1)], [], M)) rfl (am_xlt (iv_r _ _ _) (iv_r _ _ _) (fun h => ?_) (fun h => ?_))
                · replace hv := hv.1 h
                  refine am_xn 1 (c1 := (101, [.ref 60, .int (zi x1), .int (zi x2), .int (zi x3), .int (zi x4), .int (zi x5 + zi (-1)), .int (zi 1)], [], M)) rfl ?_
                  rw [zi_add]
                  refine am_xn 1 (c1 := (10, [.ref 60, .int (zi x1), .int (zi x2), .int (zi x3), .int (zi x4), .int (zi (x5 + (-1))), .int (zi 1)], [], M)) rfl ?_
                  refine am_xf 6 ?_
                  exact hv
                · replace hv := hv.2 h
                  refine am_xn 3 (c1 := (101, [.ref 60, .int (zi x1), .int (zi x2), .int (zi x3), .int (zi x5), .int (zi x5 + zi (-1)), .int (zi 1)], [], M)) rfl ?_
                  rw [zi_add]
                  refine am_xn 1 (c1 := (10, [.ref 60, .int (zi x1), .int (zi x2), .int (zi x3), .int (zi x5), .int (zi (x5 + (-1))), .int (zi 1)], [], M)) rfl ?_
                  refine am_xf 6 ?_
                  exact hv
          · replace hv := hv.2 h
            refine am_xn 1 (c1 := (101, [.ref 60, .int (zi x1), .int (zi x2), .int (zi x3), .int (zi x4), .int (zi x5 + zi (-1)), .int (zi 1)], [], M)) rfl ?_
            rw [zi_add]
            refine am_xn 1 (c1 := (10, [.ref 60, .int (zi x1), .int (zi x2), .int (zi x3), .int (zi x4), .int (zi (x5 + (-1))), .int (zi 1)], [], M)) rfl ?_
            refine am_xf 6 ?_
            exact hv
        · replace hv := hv.2 h
          refine am_xiadd 6 9 x5 (pc := 54) (ls := [.ref 60, .int (zi x1), .int (zi x2), .int (zi x3), .int (zi x4), .int (zi x5), .int (zi 0)]) (st := [.ref 60]) rfl ?_
          obtain ⟨r18, hv⟩ := hv
          refine am_xald rfl rfl rfl r18 ?_
          refine am_xn 0 (c1 := (55, [.ref 60, .int (zi x1), .int (zi x2), .int (zi x3), .int (zi x4), .int (zi x5), .int (zi 0)], [.int (zi (iv M 60 (9 + x5)))], M)) rfl ?_
          refine am_xn 1 (c1 := (if zi (iv M 60 (9 + x5)) = zi 0 then 58 else 98, [.ref 60, .int (zi x1), .int (zi x2), .int (zi x3), .int (zi x4), .int (zi x5), .int (zi 0)], [], M)) rfl (am_xeq (iv_r _ _ _) (by decide) (fun h => ?_) (fun h => ?_))
          · replace hv := hv.1 h
            refine am_xn 3 (c1 := (101, [.ref 60, .int (zi x1), .int (zi x2), .int (zi x3), .int (zi x4), .int (zi x5 + zi (-1)), .int (zi 0)], [], M)) rfl ?_
            rw [zi_add]
            refine am_xn 1 (c1 := (10, [.ref 60, .int (zi x1), .int (zi x2), .int (zi x3), .int (zi x4), .int (zi (x5 + (-1))), .int (zi 0)], [], M)) rfl ?_
            refine am_xf 6 ?_
            exact hv
          · replace hv := hv.2 h
            refine am_xn 1 (c1 := (101, [.ref 60, .int (zi x1), .int (zi x2), .int (zi x3), .int (zi x4), .int (zi x5 + zi (-1)), .int (zi 0)], [], M)) rfl ?_
            rw [zi_add]
            refine am_xn 1 (c1 := (10, [.ref 60, .int (zi x1), .int (zi x2), .int (zi x3), .int (zi x4), .int (zi (x5 + (-1))), .int (zi 0)], [], M)) rfl ?_
            refine am_xf 6 ?_
            exact hv
      · replace hv := hv.2 h
        refine am_xiadd 6 9 x5 (pc := 54) (ls := [.ref 60, .int (zi x1), .int (zi x2), .int (zi x3), .int (zi x4), .int (zi x5), .int (zi 0)]) (st := [.ref 60]) rfl ?_
        obtain ⟨r19, hv⟩ := hv
        refine am_xald rfl rfl rfl r19 ?_
        refine am_xn 0 (c1 := (55, [.ref 60, .int (zi x1), .int (zi x2), .int (zi x3), .int (zi x4), .int (zi x5), .int (zi 0)], [.int (zi (iv M 60 (9 + x5)))], M)) rfl ?_
        refine am_xn 1 (c1 := (if zi (iv M 60 (9 + x5)) = zi 0 then 58 else 98, [.ref 60, .int (zi x1), .int (zi x2), .int (zi x3), .int (zi x4), .int (zi x5), .int (zi 0)], [], M)) rfl (am_xeq (iv_r _ _ _) (by decide) (fun h => ?_) (fun h => ?_))
        · replace hv := hv.1 h
          refine am_xn 3 (c1 := (101, [.ref 60, .int (zi x1), .int (zi x2), .int (zi x3), .int (zi x4), .int (zi x5 + zi (-1)), .int (zi 0)], [], M)) rfl ?_
          rw [zi_add]
          refine am_xn 1 (c1 := (10, [.ref 60, .int (zi x1), .int (zi x2), .int (zi x3), .int (zi x4), .int (zi (x5 + (-1))), .int (zi 0)], [], M)) rfl ?_
          refine am_xf 6 ?_
          exact hv
        · replace hv := hv.2 h
          refine am_xn 1 (c1 := (101, [.ref 60, .int (zi x1), .int (zi x2), .int (zi x3), .int (zi x4), .int (zi x5 + zi (-1)), .int (zi 0)], [], M)) rfl ?_
          rw [zi_add]
          refine am_xn 1 (c1 := (10, [.ref 60, .int (zi x1), .int (zi x2), .int (zi x3), .int (zi x4), .int (zi (x5 + (-1))), .int (zi 0)], [], M)) rfl ?_
          refine am_xf 6 ?_
          exact hv
set_option maxRecDepth 100000 in
theorem vc_w_number (x : Int) (M : am_M) (Q : Option Value → am_M → Prop) (hv : ∃ (r2 : Int) (M1 : am_M), am_call t_LAW_low [.int (zi (zshr x 3)), .int (zi 3)] M (some (.int (zi r2))) M1 ∧ ((zr r2) ∧ ((0 < r2 → ∃ (r5 : Int) (M4 : am_M), am_call t_LAW_low [.int (zi (zshr x 5)), .int (zi 4)] M1 (some (.int (zi r5))) M4 ∧ ((zr r5) ∧ ((r5 = 0 → ∃ (r8 : Int) (M7 : am_M), am_call t_LAW_low [.int (zi x), .int (zi 3)] M4 (some (.int (zi r8))) M7 ∧ (Q (some (.int (zi (((729 * (1 + r8)) + (27 * r2)) + 1)))) M7)) ∧ (¬ r5 = 0 → ∃ (r10 : Int) (M9 : am_M), am_call t_LAW_low [.int (zi x), .int (zi 3)] M4 (some (.int (zi r10))) M9 ∧ (Q (some (.int (zi (((729 * (1 + r10)) + (27 * r2)) + 0)))) M9))))) ∧ (r2 ≤ 0 → ∃ (r12 : Int) (M11 : am_M), am_call t_LAW_low [.int (zi x), .int (zi 3)] M1 (some (.int (zi r12))) M11 ∧ (Q (some (.int (zi (((729 * (1 + r12)) + (27 * r2)) + 0)))) M11))))) : am_x t_LAW_number (0, am_ent (am_mL t_LAW_number) [.int (zi x)], [], M) Q := by
  refine am_xn 0 (c1 := (0, [.int (zi x), .null, .null], [], M)) rfl ?_
  refine am_xbit 3 (zi x >>> (zi 3 &&& 31)) (pc := 3) (ls := [.int (zi x), .null, .null]) (st := []) rfl ?_
  refine am_xn 0 (c1 := (3, [.int (zi x), .null, .null], [.int (zi (zshr x 3))], M)) rfl ?_
  refine am_xn 1 (c1 := (4, [.int (zi x), .null, .null], [.int (zi 3), .int (zi (zshr x 3))], M)) rfl ?_
  obtain ⟨r2, M1, hc, hv⟩ := hv
  refine am_xc t_LAW_low (.invokestatic 57) 57 (av := [.int (zi (zshr x 3)), .int (zi 3)]) (rest := []) (rv := some (.int (zi r2))) (M' := M1) rfl rfl rfl rfl (Nat.le_of_ble_eq_true rfl) (fun h => nomatch h) (hc) ?_
  refine am_xn 0 (c1 := (7, [.int (zi x), .null, .null], [.int (zi r2)], M1)) rfl ?_
  obtain ⟨r3, hv⟩ := hv
  refine am_xn 3 (c1 := (if zi 0 < zi r2 then 12 else 26, [.int (zi x), .int (zi r2), .null], [], M1)) rfl (am_xlt (by decide) r3 (fun h => ?_) (fun h => ?_))
  · replace hv := hv.1 h
    refine am_xbit 3 (zi x >>> (zi 5 &&& 31)) (pc := 15) (ls := [.int (zi x), .int (zi r2), .null]) (st := []) rfl ?_
    refine am_xn 0 (c1 := (15, [.int (zi x), .int (zi r2), .null], [.int (zi (zshr x 5))], M1)) rfl ?_
    refine am_xn 1 (c1 := (16, [.int (zi x), .int (zi r2), .null], [.int (zi 4), .int (zi (zshr x 5))], M1)) rfl ?_
    obtain ⟨r5, M4, hc, hv⟩ := hv
    refine am_xc t_LAW_low (.invokestatic 57) 57 (av := [.int (zi (zshr x 5)), .int (zi 4)]) (rest := []) (rv := some (.int (zi r5))) (M' := M4) rfl rfl rfl rfl (Nat.le_of_ble_eq_true rfl) (fun h => nomatch h) (hc) ?_
    refine am_xn 0 (c1 := (19, [.int (zi x), .int (zi r2), .null], [.int (zi r5)], M4)) rfl ?_
    obtain ⟨r6, hv⟩ := hv
    refine am_xn 1 (c1 := (if zi r5 = zi 0 then 22 else 26, [.int (zi x), .int (zi r2), .null], [], M4)) rfl (am_xeq r6 (by decide) (fun h => ?_) (fun h => ?_))
    · replace hv := hv.1 h
      refine am_xn 7 (c1 := (34, [.int (zi x), .int (zi r2), .int (zi 1)], [.int (zi 3), .int (zi x), .int (zi 1), .int (zi 729)], M4)) rfl ?_
      obtain ⟨r8, M7, hc, hv⟩ := hv
      refine am_xc t_LAW_low (.invokestatic 57) 57 (av := [.int (zi x), .int (zi 3)]) (rest := [.int (zi 1), .int (zi 729)]) (rv := some (.int (zi r8))) (M' := M7) rfl rfl rfl rfl (Nat.le_of_ble_eq_true rfl) (fun h => nomatch h) (hc) ?_
      refine am_xn 0 (c1 := (37, [.int (zi x), .int (zi r2), .int (zi 1)], [.int (zi r8), .int (zi 1), .int (zi 729)], M7)) rfl ?_
      refine am_xiadd 1 1 r8 (pc := 38) (ls := [.int (zi x), .int (zi r2), .int (zi 1)]) (st := [.int (zi 729)]) rfl ?_
      refine am_ximul 1 729 (1 + r8) (pc := 39) (ls := [.int (zi x), .int (zi r2), .int (zi 1)]) (st := []) rfl ?_
      refine am_ximul 3 27 r2 (pc := 43) (ls := [.int (zi x), .int (zi r2), .int (zi 1)]) (st := [.int (zi (729 * (1 + r8)))]) rfl ?_
      refine am_xiadd 1 (729 * (1 + r8)) (27 * r2) (pc := 44) (ls := [.int (zi x), .int (zi r2), .int (zi 1)]) (st := []) rfl ?_
      refine am_xiadd 2 ((729 * (1 + r8)) + (27 * r2)) 1 (pc := 46) (ls := [.int (zi x), .int (zi r2), .int (zi 1)]) (st := []) rfl ?_
      exact am_xr (some (.int (zi (((729 * (1 + r8)) + (27 * r2)) + 1)))) ⟨rfl, rfl, .int, rfl, rfl⟩ hv
    · replace hv := hv.2 h
      refine am_xn 6 (c1 := (34, [.int (zi x), .int (zi r2), .int (zi 0)], [.int (zi 3), .int (zi x), .int (zi 1), .int (zi 729)], M4)) rfl ?_
      obtain ⟨r10, M9, hc, hv⟩ := hv
      refine am_xc t_LAW_low (.invokestatic 57) 57 (av := [.int (zi x), .int (zi 3)]) (rest := [.int (zi 1), .int (zi 729)]) (rv := some (.int (zi r10))) (M' := M9) rfl rfl rfl rfl (Nat.le_of_ble_eq_true rfl) (fun h => nomatch h) (hc) ?_
      refine am_xn 0 (c1 := (37, [.int (zi x), .int (zi r2), .int (zi 0)], [.int (zi r10), .int (zi 1), .int (zi 729)], M9)) rfl ?_
      refine am_xiadd 1 1 r10 (pc := 38) (ls := [.int (zi x), .int (zi r2), .int (zi 0)]) (st := [.int (zi 729)]) rfl ?_
      refine am_ximul 1 729 (1 + r10) (pc := 39) (ls := [.int (zi x), .int (zi r2), .int (zi 0)]) (st := []) rfl ?_
      refine am_ximul 3 27 r2 (pc := 43) (ls := [.int (zi x), .int (zi r2), .int (zi 0)]) (st := [.int (zi (729 * (1 + r10)))]) rfl ?_
      refine am_xiadd 1 (729 * (1 + r10)) (27 * r2) (pc := 44) (ls := [.int (zi x), .int (zi r2), .int (zi 0)]) (st := []) rfl ?_
      refine am_xiadd 2 ((729 * (1 + r10)) + (27 * r2)) 0 (pc := 46) (ls := [.int (zi x), .int (zi r2), .int (zi 0)]) (st := []) rfl ?_
      exact am_xr (some (.int (zi (((729 * (1 + r10)) + (27 * r2)) + 0)))) ⟨rfl, rfl, .int, rfl, rfl⟩ hv
  · replace hv := hv.2 h
    refine am_xn 6 (c1 := (34, [.int (zi x), .int (zi r2), .int (zi 0)], [.int (zi 3), .int (zi x), .int (zi 1), .int (zi 729)], M1)) rfl ?_
    obtain ⟨r12, M11, hc, hv⟩ := hv
    refine am_xc t_LAW_low (.invokestatic 57) 57 (av := [.int (zi x), .int (zi 3)]) (rest := [.int (zi 1), .int (zi 729)]) (rv := some (.int (zi r12))) (M' := M11) rfl rfl rfl rfl (Nat.le_of_ble_eq_true rfl) (fun h => nomatch h) (hc) ?_
    refine am_xn 0 (c1 := (37, [.int (zi x), .int (zi r2), .int (zi 0)], [.int (zi r12), .int (zi 1), .int (zi 729)], M11)) rfl ?_
    refine am_xiadd 1 1 r12 (pc := 38) (ls := [.int (zi x), .int (zi r2), .int (zi 0)]) (st := [.int (zi 729)]) rfl ?_
    refine am_ximul 1 729 (1 + r12) (pc := 39) (ls := [.int (zi x), .int (zi r2), .int (zi 0)]) (st := []) rfl ?_
    refine am_ximul 3 27 r2 (pc := 43) (ls := [.int (zi x), .int (zi r2), .int (zi 0)]) (st := [.int (zi (729 * (1 + r12)))]) rfl ?_
    refine am_xiadd 1 (729 * (1 + r12)) (27 * r2) (pc := 44) (ls := [.int (zi x), .int (zi r2), .int (zi 0)]) (st := []) rfl ?_
    refine am_xiadd 2 ((729 * (1 + r12)) + (27 * r2)) 0 (pc := 46) (ls := [.int (zi x), .int (zi r2), .int (zi 0)]) (st := []) rfl ?_
    exact am_xr (some (.int (zi (((729 * (1 + r12)) + (27 * r2)) + 0)))) ⟨rfl, rfl, .int, rfl, rfl⟩ hv
set_option maxRecDepth 100000 in
theorem vc_w_aWord (x : Int) (M : am_M) (Q : Option Value → am_M → Prop) (hv : ∃ (r2 : Int) (M1 : am_M), am_call t_LAW_low [.int (zi x), .int (zi 3)] M (some (.int (zi r2))) M1 ∧ ((zr r2) ∧ ((r2 = 0 → ∃ (r5 : Int) (M4 : am_M), am_call t_LAW_number [.int (zi (zshr x 3))] M1 (some (.int (zi r5))) M4 ∧ (Q (some (.int (zi (1000 + r5)))) M4)) ∧ (¬ r2 = 0 → ∃ (r7 : Int) (M6 : am_M), am_call t_LAW_low [.int (zi (zshr x 3)), .int (zi 4)] M1 (some (.int (zi r7))) M6 ∧ (Q (some (.int (zi r7))) M6))))) : am_x t_LAW_aWord (0, am_ent (am_mL t_LAW_aWord) [.int (zi x)], [], M) Q := by
  refine am_xn 0 (c1 := (0, [.int (zi x)], [], M)) rfl ?_
  refine am_xn 2 (c1 := (2, [.int (zi x)], [.int (zi 3), .int (zi x)], M)) rfl ?_
  obtain ⟨r2, M1, hc, hv⟩ := hv
  refine am_xc t_LAW_low (.invokestatic 57) 57 (av := [.int (zi x), .int (zi 3)]) (rest := []) (rv := some (.int (zi r2))) (M' := M1) rfl rfl rfl rfl (Nat.le_of_ble_eq_true rfl) (fun h => nomatch h) (hc) ?_
  refine am_xn 0 (c1 := (5, [.int (zi x)], [.int (zi r2)], M1)) rfl ?_
  obtain ⟨r3, hv⟩ := hv
  refine am_xn 1 (c1 := (if zi r2 = zi 0 then 8 else 21, [.int (zi x)], [], M1)) rfl (am_xeq r3 (by decide) (fun h => ?_) (fun h => ?_))
  · replace hv := hv.1 h
    refine am_xbit 4 (zi x >>> (zi 3 &&& 31)) (pc := 14) (ls := [.int (zi x)]) (st := [.int (zi 1000)]) rfl ?_
    refine am_xn 0 (c1 := (14, [.int (zi x)], [.int (zi (zshr x 3)), .int (zi 1000)], M1)) rfl ?_
    obtain ⟨r5, M4, hc, hv⟩ := hv
    refine am_xc t_LAW_number (.invokestatic 61) 61 (av := [.int (zi (zshr x 3))]) (rest := [.int (zi 1000)]) (rv := some (.int (zi r5))) (M' := M4) rfl rfl rfl rfl (Nat.le_of_ble_eq_true rfl) (fun h => nomatch h) (hc) ?_
    refine am_xn 0 (c1 := (17, [.int (zi x)], [.int (zi r5), .int (zi 1000)], M4)) rfl ?_
    refine am_xiadd 1 1000 r5 (pc := 18) (ls := [.int (zi x)]) (st := []) rfl ?_
    refine am_xn 1 (c1 := (28, [.int (zi x)], [.int (zi (1000 + r5))], M4)) rfl ?_
    exact am_xr (some (.int (zi (1000 + r5)))) ⟨rfl, rfl, .int, rfl, rfl⟩ hv
  · replace hv := hv.2 h
    refine am_xbit 3 (zi x >>> (zi 3 &&& 31)) (pc := 24) (ls := [.int (zi x)]) (st := []) rfl ?_
    refine am_xn 0 (c1 := (24, [.int (zi x)], [.int (zi (zshr x 3))], M1)) rfl ?_
    refine am_xn 1 (c1 := (25, [.int (zi x)], [.int (zi 4), .int (zi (zshr x 3))], M1)) rfl ?_
    obtain ⟨r7, M6, hc, hv⟩ := hv
    refine am_xc t_LAW_low (.invokestatic 57) 57 (av := [.int (zi (zshr x 3)), .int (zi 4)]) (rest := []) (rv := some (.int (zi r7))) (M' := M6) rfl rfl rfl rfl (Nat.le_of_ble_eq_true rfl) (fun h => nomatch h) (hc) ?_
    refine am_xn 0 (c1 := (28, [.int (zi x)], [.int (zi r7)], M6)) rfl ?_
    exact am_xr (some (.int (zi r7))) ⟨rfl, rfl, .int, rfl, rfl⟩ hv
set_option maxRecDepth 100000 in
theorem vc_w_indexOf (c : Int) (M : am_M) (Q : Option Value → am_M → Prop) (hv : am_x t_LAW_indexOf (4, [.ref 61, .int (zi c), .int (zi 0), .int (zi 0)], [], M) Q) : am_x t_LAW_indexOf (0, am_ent (am_mL t_LAW_indexOf) [.ref 61, .int (zi c)], [], M) Q := by
  refine am_xn 0 (c1 := (0, [.ref 61, .int (zi c), .null, .null], [], M)) rfl ?_
  refine am_xn 4 (c1 := (4, [.ref 61, .int (zi c), .int (zi 0), .int (zi 0)], [], M)) rfl ?_
  exact hv
set_option maxRecDepth 100000 in
theorem vc_w_indexOf_4 (x1 : Int) (x2 : Int) (x3 : Int) (M : am_M) (Q : Option Value → am_M → Prop) (hv : (zr x3) ∧ ((x3 < 12 → (0 ≤ (5 * x3) ∧ (5 * x3) < 64) ∧ (((iv M 61 (5 * x3)) = 1 → (0 ≤ ((5 * x3) + 1) ∧ ((5 * x3) + 1) < 64) ∧ ((0 ≤ ((5 * x1) + 1) ∧ ((5 * x1) + 1) < 64) ∧ (((iv M 61 ((5 * x3) + 1)) < (iv M 61 ((5 * x1) + 1)) → am_x t_LAW_indexOf (4, [.ref 61, .int (zi x1), .int (zi (x2 + 1)), .int (zi (x3 + 1))], [], M) Q) ∧ ((iv M 61 ((5 * x1) + 1)) ≤ (iv M 61 ((5 * x3) + 1)) → am_x t_LAW_indexOf (4, [.ref 61, .int (zi x1), .int (zi (x2 + 0)), .int (zi (x3 + 1))], [], M) Q)))) ∧ (¬ (iv M 61 (5 * x3)) = 1 → am_x t_LAW_indexOf (4, [.ref 61, .int (zi x1), .int (zi (x2 + 0)), .int (zi (x3 + 1))], [], M) Q))) ∧ (12 ≤ x3 → Q (some (.int (zi x2))) M))) : am_x t_LAW_indexOf (4, [.ref 61, .int (zi x1), .int (zi x2), .int (zi x3)], [], M) Q := by
  obtain ⟨r1, hv⟩ := hv
  refine am_xn 3 (c1 := (if zi x3 < zi 12 then 10 else 50, [.ref 61, .int (zi x1), .int (zi x2), .int (zi x3)], [], M)) rfl (am_xlt r1 (by decide) (fun h => ?_) (fun h => ?_))
  · replace hv := hv.1 h
    refine am_ximul 5 5 x3 (pc := 15) (ls := [.ref 61, .int (zi x1), .int (zi x2), .int (zi x3)]) (st := [.ref 61, .int (zi x2)]) rfl ?_
    obtain ⟨r2, hv⟩ := hv
    refine am_xald rfl rfl rfl r2 ?_
    refine am_xn 0 (c1 := (16, [.ref 61, .int (zi x1), .int (zi x2), .int (zi x3)], [.int (zi (iv M 61 (5 * x3))), .int (zi x2)], M)) rfl ?_
    refine am_xn 2 (c1 := (if zi (iv M 61 (5 * x3)) = zi 1 then 20 else 41, [.ref 61, .int (zi x1), .int (zi x2), .int (zi x3)], [.int (zi x2)], M)) rfl (am_xeq (iv_r _ _ _) (by decide) (fun h => ?_) (fun h => ?_))
    · replace hv := hv.1 h
      refine am_ximul 4 5 x3 (pc := 24) (ls := [.ref 61, .int (zi x1), .int (zi x2), .int (zi x3)]) (st := [.ref 61, .int (zi x2)]) rfl ?_
      refine am_xiadd 2 (5 * x3) 1 (pc := 26) (ls := [.ref 61, .int (zi x1), .int (zi x2), .int (zi x3)]) (st := [.ref 61, .int (zi x2)]) rfl ?_
      obtain ⟨r3, hv⟩ := hv
      refine am_xald rfl rfl rfl r3 ?_
      refine am_xn 0 (c1 := (27, [.ref 61, .int (zi x1), .int (zi x2), .int (zi x3)], [.int (zi (iv M 61 ((5 * x3) + 1))), .int (zi x2)], M)) rfl ?_
      refine am_ximul 4 5 x1 (pc := 31) (ls := [.ref 61, .int (zi x1), .int (zi x2), .int (zi x3)]) (st := [.ref 61, .int (zi (iv M 61 ((5 * x3) + 1))), .int (zi x2)]) rfl ?_
      refine am_xiadd 2 (5 * x1) 1 (pc := 33) (ls := [.ref 61, .int (zi x1), .int (zi x2), .int (zi x3)]) (st := [.ref 61, .int (zi (iv M 61 ((5 * x3) + 1))), .int (zi x2)]) rfl ?_
      obtain ⟨r4, hv⟩ := hv
      refine am_xald rfl rfl rfl r4 ?_
      refine am_xn 0 (c1 := (34, [.ref 61, .int (zi x1), .int (zi x2), .int (zi x3)], [.int (zi (iv M 61 ((5 * x1) + 1))), .int (zi (iv M 61 ((5 * x3) + 1))), .int (zi x2)], M)) rfl ?_
      refine am_xn 1 (c1 := (if zi (iv M 61 ((5 * x3) + 1)) < zi (iv M 61 ((5 * x1) + 1)) then 37 else 41, [.ref 61, .int (zi x1), .int (zi x2), .int (zi x3)], [.int (zi x2)], M)) rfl (am_xlt (iv_r _ _ _) (iv_r _ _ _) (fun h => ?_) (fun h => ?_))
      · replace hv := hv.1 h
        refine am_xiadd 3 x2 1 (pc := 43) (ls := [.ref 61, .int (zi x1), .int (zi x2), .int (zi x3)]) (st := []) rfl ?_
        refine am_xn 2 (c1 := (47, [.ref 61, .int (zi x1), .int (zi (x2 + 1)), .int (zi x3 + zi 1)], [], M)) rfl ?_
        rw [zi_add]
        refine am_xn 1 (c1 := (4, [.ref 61, .int (zi x1), .int (zi (x2 + 1)), .int (zi (x3 + 1))], [], M)) rfl ?_
        exact hv
      · replace hv := hv.2 h
        refine am_xiadd 2 x2 0 (pc := 43) (ls := [.ref 61, .int (zi x1), .int (zi x2), .int (zi x3)]) (st := []) rfl ?_
        refine am_xn 2 (c1 := (47, [.ref 61, .int (zi x1), .int (zi (x2 + 0)), .int (zi x3 + zi 1)], [], M)) rfl ?_
        rw [zi_add]
        refine am_xn 1 (c1 := (4, [.ref 61, .int (zi x1), .int (zi (x2 + 0)), .int (zi (x3 + 1))], [], M)) rfl ?_
        exact hv
    · replace hv := hv.2 h
      refine am_xiadd 2 x2 0 (pc := 43) (ls := [.ref 61, .int (zi x1), .int (zi x2), .int (zi x3)]) (st := []) rfl ?_
      refine am_xn 2 (c1 := (47, [.ref 61, .int (zi x1), .int (zi (x2 + 0)), .int (zi x3 + zi 1)], [], M)) rfl ?_
      rw [zi_add]
      refine am_xn 1 (c1 := (4, [.ref 61, .int (zi x1), .int (zi (x2 + 0)), .int (zi (x3 + 1))], [], M)) rfl ?_
      exact hv
  · replace hv := hv.2 h
    refine am_xn 1 (c1 := (51, [.ref 61, .int (zi x1), .int (zi x2), .int (zi x3)], [.int (zi x2)], M)) rfl ?_
    exact am_xr (some (.int (zi x2))) ⟨rfl, rfl, .int, rfl, rfl⟩ hv
set_option maxRecDepth 100000 in
theorem vc_w_toldWord (c : Int) (k : Int) (M : am_M) (Q : Option Value → am_M → Prop) (hv : (0 ≤ (((5 * c) + 3) + k) ∧ (((5 * c) + 3) + k) < 64) ∧ (((iv M 61 (((5 * c) + 3) + k)) < 2000000 → Q (some (.int (zi (iv M 61 (((5 * c) + 3) + k))))) M) ∧ (2000000 ≤ (iv M 61 (((5 * c) + 3) + k)) → (0 ≤ (5 * ((iv M 61 (((5 * c) + 3) + k)) - 2000000)) ∧ (5 * ((iv M 61 (((5 * c) + 3) + k)) - 2000000)) < 64) ∧ (((iv M 61 (5 * ((iv M 61 (((5 * c) + 3) + k)) - 2000000))) = 1 → (0 ≤ ((5 * ((iv M 61 (((5 * c) + 3) + k)) - 2000000)) + 1) ∧ ((5 * ((iv M 61 (((5 * c) + 3) + k)) - 2000000)) + 1) < 64) ∧ (Q (some (.int (zi (1000 + (iv M 61 ((5 * ((iv M 61 (((5 * c) + 3) + k)) - 2000000)) + 1)))))) M)) ∧ (¬ (iv M 61 (5 * ((iv M 61 (((5 * c) + 3) + k)) - 2000000))) = 1 → Q (some (.int (zi (-5)))) M))))) : am_x t_LAW_toldWord (0, am_ent (am_mL t_LAW_toldWord) [.ref 61, .int (zi c), .int (zi k)], [], M) Q := by
  refine am_xn 0 (c1 := (0, [.ref 61, .int (zi c), .int (zi k), .null], [], M)) rfl ?_
  refine am_ximul 4 5 c (pc := 4) (ls := [.ref 61, .int (zi c), .int (zi k), .null]) (st := [.ref 61]) rfl ?_
  refine am_xiadd 2 (5 * c) 3 (pc := 6) (ls := [.ref 61, .int (zi c), .int (zi k), .null]) (st := [.ref 61]) rfl ?_
  refine am_xiadd 2 ((5 * c) + 3) k (pc := 8) (ls := [.ref 61, .int (zi c), .int (zi k), .null]) (st := [.ref 61]) rfl ?_
  obtain ⟨r1, hv⟩ := hv
  refine am_xald rfl rfl rfl r1 ?_
  refine am_xn 0 (c1 := (9, [.ref 61, .int (zi c), .int (zi k), .null], [.int (zi (iv M 61 (((5 * c) + 3) + k)))], M)) rfl ?_
  refine am_xn 4 (c1 := (if zi (iv M 61 (((5 * c) + 3) + k)) < zi 2000000 then 16 else 20, [.ref 61, .int (zi c), .int (zi k), .int (zi (iv M 61 (((5 * c) + 3) + k)))], [], M)) rfl (am_xlt (iv_r _ _ _) (by decide) (fun h => ?_) (fun h => ?_))
  · replace hv := hv.1 h
    refine am_xn 2 (c1 := (51, [.ref 61, .int (zi c), .int (zi k), .int (zi (iv M 61 (((5 * c) + 3) + k)))], [.int (zi (iv M 61 (((5 * c) + 3) + k)))], M)) rfl ?_
    exact am_xr (some (.int (zi (iv M 61 (((5 * c) + 3) + k))))) ⟨rfl, rfl, .int, rfl, rfl⟩ hv
  · replace hv := hv.2 h
    refine am_xisub 5 (iv M 61 (((5 * c) + 3) + k)) 2000000 (pc := 26) (ls := [.ref 61, .int (zi c), .int (zi k), .int (zi (iv M 61 (((5 * c) + 3) + k)))]) (st := [.int (zi 5), .ref 61]) rfl ?_
    refine am_ximul 1 5 ((iv M 61 (((5 * c) + 3) + k)) - 2000000) (pc := 27) (ls := [.ref 61, .int (zi c), .int (zi k), .int (zi (iv M 61 (((5 * c) + 3) + k)))]) (st := [.ref 61]) rfl ?_
    obtain ⟨r2, hv⟩ := hv
    refine am_xald rfl rfl rfl r2 ?_
    refine am_xn 0 (c1 := (28, [.ref 61, .int (zi c), .int (zi k), .int (zi (iv M 61 (((5 * c) + 3) + k)))], [.int (zi (iv M 61 (5 * ((iv M 61 (((5 * c) + 3) + k)) - 2000000))))], M)) rfl ?_
    refine am_xn 2 (c1 := (if zi (iv M 61 (5 * ((iv M 61 (((5 * c) + 3) + k)) - 2000000))) = zi 1 then 32 else 49, [.ref 61, .int (zi c), .int (zi k), .int (zi (iv M 61 (((5 * c) + 3) + k)))], [], M)) rfl (am_xeq (iv_r _ _ _) (by decide) (fun h => ?_) (fun h => ?_))
    · replace hv := hv.1 h
      refine am_xisub 6 (iv M 61 (((5 * c) + 3) + k)) 2000000 (pc := 41) (ls := [.ref 61, .int (zi c), .int (zi k), .int (zi (iv M 61 (((5 * c) + 3) + k)))]) (st := [.int (zi 5), .ref 61, .int (zi 1000)]) rfl ?_
      refine am_ximul 1 5 ((iv M 61 (((5 * c) + 3) + k)) - 2000000) (pc := 42) (ls := [.ref 61, .int (zi c), .int (zi k), .int (zi (iv M 61 (((5 * c) + 3) + k)))]) (st := [.ref 61, .int (zi 1000)]) rfl ?_
      refine am_xiadd 2 (5 * ((iv M 61 (((5 * c) + 3) + k)) - 2000000)) 1 (pc := 44) (ls := [.ref 61, .int (zi c), .int (zi k), .int (zi (iv M 61 (((5 * c) + 3) + k)))]) (st := [.ref 61, .int (zi 1000)]) rfl ?_
      obtain ⟨r3, hv⟩ := hv
      refine am_xald rfl rfl rfl r3 ?_
      refine am_xn 0 (c1 := (45, [.ref 61, .int (zi c), .int (zi k), .int (zi (iv M 61 (((5 * c) + 3) + k)))], [.int (zi (iv M 61 ((5 * ((iv M 61 (((5 * c) + 3) + k)) - 2000000)) + 1))), .int (zi 1000)], M)) rfl ?_
      refine am_xiadd 1 1000 (iv M 61 ((5 * ((iv M 61 (((5 * c) + 3) + k)) - 2000000)) + 1)) (pc := 46) (ls := [.ref 61, .int (zi c), .int (zi k), .int (zi (iv M 61 (((5 * c) + 3) + k)))]) (st := []) rfl ?_
      refine am_xn 1 (c1 := (51, [.ref 61, .int (zi c), .int (zi k), .int (zi (iv M 61 (((5 * c) + 3) + k)))], [.int (zi (1000 + (iv M 61 ((5 * ((iv M 61 (((5 * c) + 3) + k)) - 2000000)) + 1))))], M)) rfl ?_
      exact am_xr (some (.int (zi (1000 + (iv M 61 ((5 * ((iv M 61 (((5 * c) + 3) + k)) - 2000000)) + 1)))))) ⟨rfl, rfl, .int, rfl, rfl⟩ hv
    · replace hv := hv.2 h
      refine am_xn 1 (c1 := (51, [.ref 61, .int (zi c), .int (zi k), .int (zi (iv M 61 (((5 * c) + 3) + k)))], [.int (zi (-5))], M)) rfl ?_
      exact am_xr (some (.int (zi (-5)))) ⟨rfl, rfl, .int, rfl, rfl⟩ hv
theorem sp_w_cell (M : am_M) {k : Int} (k0 : 0 ≤ k) (kz : zr k) : ∃ r : Int, am_call t_LAW_cell [.ref 5000, .int (zi k)] M (some (.int (zi r))) M := by
  by_cases h : k < iv M 5001 0
  · exact ⟨_, am_call_of ⟨Nat.le_of_ble_eq_true rfl, rfl⟩ (vc_w_cell k M _ ⟨kz, fun _ => ⟨⟨k0, h⟩, rfl, rfl⟩, fun q => by omega⟩)⟩
  · exact ⟨_, am_call_of ⟨Nat.le_of_ble_eq_true rfl, rfl⟩ (vc_w_cell k M _ ⟨kz, fun q => absurd q h, fun _ => ⟨rfl, rfl⟩⟩)⟩
theorem sp_w_low (M : am_M) (v : Int) {n : Int} (n0 : 0 < n) (nz : zr n) : ∃ r : Int, am_call t_LAW_low [.int (zi v), .int (zi n)] M (some (.int (zi r))) M ∧ 0 ≤ r ∧ r < n := by
  have h := zand_nn v (b := 2147483647) (by omega) (by decide)
  exact ⟨_, am_call_of ⟨Nat.le_of_ble_eq_true rfl, rfl⟩ (vc_w_low v n M _ ⟨nz, ⟨h, n0⟩, rfl, rfl⟩), Int.emod_nonneg _ (by omega), Int.emod_lt_of_pos _ n0⟩
/-- the numbers that the law types: 1 to 3, no letter, A or B, and AA or BA -/
def isNum (n : Int) : Prop := ∃ i a b : Int, (1 ≤ i ∧ i ≤ 3) ∧ (0 ≤ a ∧ a ≤ 2) ∧ (0 ≤ b ∧ b ≤ 1) ∧ (b = 1 → 1 ≤ a) ∧ n = 729 * i + 27 * a + b
def isWd (w : Int) : Prop := (0 ≤ w ∧ w ≤ 3) ∨ isNum (w - 1000)
theorem isNum_r {n : Int} (h : isNum n) : 729 ≤ n ∧ n ≤ 2300 := by
  obtain ⟨i, a, b, h1, h2, h3, h4, rfl⟩ := h
  omega
theorem isWd_r {n : Int} (h : isWd n) : 0 ≤ n ∧ n ≤ 3300 := by
  rcases h with h | h
  · omega
  · have := isNum_r h; omega
theorem sp_w_number (M : am_M) (x : Int) : ∃ r : Int, am_call t_LAW_number [.int (zi x)] M (some (.int (zi r))) M ∧ isNum r := by
  obtain ⟨r1, c1, a1, b1⟩ := sp_w_low M (zshr x 3) (n := 3) (by omega) (by decide)
  obtain ⟨r2, c2, a2, b2⟩ := sp_w_low M (zshr x 5) (n := 4) (by omega) (by decide)
  obtain ⟨r3, c3, a3, b3⟩ := sp_w_low M x (n := 3) (by omega) (by decide)
  by_cases h1 : 0 < r1
  · by_cases h2 : r2 = 0
    · exact ⟨_, am_call_of ⟨Nat.le_of_ble_eq_true rfl, rfl⟩ (vc_w_number x M _ ⟨r1, M, c1, ⟨by omega, by omega⟩, fun _ => ⟨r2, M, c2, ⟨by omega, by omega⟩, fun _ => ⟨r3, M, c3, rfl, rfl⟩, fun q => absurd h2 q⟩, fun q => by omega⟩), 1 + r3, r1, 1, by omega, by omega, by omega, fun _ => by omega, rfl⟩
    · exact ⟨_, am_call_of ⟨Nat.le_of_ble_eq_true rfl, rfl⟩ (vc_w_number x M _ ⟨r1, M, c1, ⟨by omega, by omega⟩, fun _ => ⟨r2, M, c2, ⟨by omega, by omega⟩, fun q => absurd q h2, fun _ => ⟨r3, M, c3, rfl, rfl⟩⟩, fun q => by omega⟩), 1 + r3, r1, 0, by omega, by omega, by omega, fun q => by omega, rfl⟩
  · exact ⟨_, am_call_of ⟨Nat.le_of_ble_eq_true rfl, rfl⟩ (vc_w_number x M _ ⟨r1, M, c1, ⟨by omega, by omega⟩, fun q => absurd q h1, fun _ => ⟨r3, M, c3, rfl, rfl⟩⟩), 1 + r3, r1, 0, by omega, by omega, by omega, fun q => by omega, rfl⟩
theorem sp_w_aWord (M : am_M) (x : Int) : ∃ r : Int, am_call t_LAW_aWord [.int (zi x)] M (some (.int (zi r))) M ∧ isWd r := by
  obtain ⟨r1, c1, a1, b1⟩ := sp_w_low M x (n := 3) (by omega) (by decide)
  by_cases h1 : r1 = 0
  · obtain ⟨r2, c2, a2⟩ := sp_w_number M (zshr x 3)
    exact ⟨_, am_call_of ⟨Nat.le_of_ble_eq_true rfl, rfl⟩ (vc_w_aWord x M _ ⟨r1, M, c1, ⟨by omega, by omega⟩, fun _ => ⟨r2, M, c2, rfl, rfl⟩, fun q => absurd h1 q⟩), Or.inr (by rw [show 1000 + r2 - 1000 = r2 by omega]; exact a2)⟩
  · obtain ⟨r2, c2, a2, b2⟩ := sp_w_low M (zshr x 3) (n := 4) (by omega) (by decide)
    exact ⟨_, am_call_of ⟨Nat.le_of_ble_eq_true rfl, rfl⟩ (vc_w_aWord x M _ ⟨r1, M, c1, ⟨by omega, by omega⟩, fun q => absurd q h1, fun _ => ⟨r2, M, c2, rfl, rfl⟩⟩), Or.inl ⟨a2, by omega⟩⟩
/-! the law's rows and the book -/
/-- an operation in the rows 58, 59 is the book's -/
def OBo (M : am_M) (b : Int → Int) (o : Int) : Prop :=
  (pt b o 0 = oK M o ∧ pt b o 1 = oC M o) ∧ (2 < pt b o 0 → pt b o 2 = oO M o) ∧ (pt b o 0 = 4 → pt b o 3 = oT M o) ∧ zand (iv M 59 o) 1 = pt b o 4 ∧ zand (zshr (iv M 59 o) 1) 7 = pt b o 5 ∧ pt b o 5 ≤ 2 ∧ (0 < pt b o 5 → pt b o 6 = oO M o) ∧ (1 < pt b o 5 → pt b o 7 = oT M o)
def OB (M : am_M) (b : Int → Int) : Prop := ∀ o, 0 ≤ o → o < nops b → OBo M b o
def AB (M : am_M) (b : Int → Int) : Prop := iv M 60 0 = b 0 ∧ b 0 ≤ 5 ∧ iv M 60 25 = nops b ∧ nops b ≤ 15 ∧ ia b (nops b) ≤ 12 ∧ ∀ a, 0 ≤ a → a < b 0 → iv M 60 (1 + a) = b (1 + a) ∧ iv M 60 (9 + a) = b (21 + a) ∧ iv M 60 (17 + a) = fo b a
theorem OBo_rows {M M' : am_M} {b : Int → Int} {o : Int} (h : OBo M b o) (h1 : M' 58 = M 58) (h2 : M' 59 = M 59) : OBo M' b o := by
  obtain ⟨e1, e2, e3, e4⟩ := oX_row h1 o
  unfold OBo
  rw [e1, e2, e3, e4, iv_row h2]
  exact h
theorem OB_rows {M M' : am_M} {b : Int → Int} (h : OB M b) (h1 : M' 58 = M 58) (h2 : M' 59 = M 59) : OB M' b := fun o o0 o1 => OBo_rows (h o o0 o1) h1 h2
theorem AB_rows {M M' : am_M} {b : Int → Int} (h : AB M b) (h1 : M' 60 = M 60) : AB M' b := by
  unfold AB
  rw [iv_row h1]
  exact h
theorem sp_w_identity {M : am_M} {b : Int → Int} (ob : OB M b) {k : Int} (k0 : 0 ≤ k) (k1 : k ≤ nops b) (k2 : k ≤ 16) : am_call t_LAW_identity [.ref 58, .int (zi k)] M (some (.int (zi (ia b k)))) M := by
  refine am_call_of ⟨Nat.le_of_ble_eq_true rfl, rfl⟩ (vc_w_identity k M _ ?_)
  refine loop_up (fun i (s : Int) => (4, [.ref 58, .int (zi k), .int (zi s), .int (zi i)], [], M)) k (fun i s => s = ia b i) ?_ ?_ 0 0 (by omega) k0 rfl
  · intro s hs
    exact vc_w_identity_4 k s k M _ ⟨⟨by omega, by omega⟩, ⟨by omega, by omega⟩, fun h => by omega, fun _ => ⟨by rw [hs], rfl⟩⟩
  · intro i s i0 i1 hs kk
    have e := ia_s b i0
    have e1 := (ob i i0 (by omega)).1.1
    refine vc_w_identity_4 k s i M _ ⟨⟨by omega, by omega⟩, ⟨by omega, by omega⟩, fun _ => ⟨⟨by omega, by omega⟩, fun q => kk _ ?_, fun q => kk _ ?_⟩, fun h => by omega⟩
    · rw [e, e1, if_pos q, hs]
    · rw [e, e1, if_neg q, hs]
/-! the law that is laid in the rows 61 and 64 -/
def en (x : Int) : Int := if x < 1000 then x else 2000000 + (x - 1000)
def LR (L : Lw) (M : am_M) : Prop :=
  (∀ c, 0 ≤ c → c < 12 → iv M 61 (5 * c) = if L.code c = 0 then 0 else 1) ∧
  (∀ c, 0 ≤ c → c < 12 → ¬ L.code c = 0 → iv M 61 (5 * c + 1) = L.code c ∧ iv M 61 (5 * c + 2) = L.len c ∧ L.len c ≤ 2 ∧ iv M 64 c = L.lst c ∧ ∀ k, 0 ≤ k → k < L.len c → iv M 61 (5 * c + 3 + k) = en (L.tx c k) ∧ L.tx c k < 1012) ∧
  ∀ c, 12 ≤ c → c < 40 → L.code c = 0
theorem LR_rows {L : Lw} {M M' : am_M} (h : LR L M) (h1 : M' 61 = M 61) (h2 : M' 64 = M 64) : LR L M' := by
  unfold LR
  rw [iv_row h1, iv_row h2]
  exact h
theorem LR_hold {L : Lw} {M : am_M} (lr : LR L M) {x : Int} (hx : ¬ x = 0) : hold L x < 12 := by
  by_cases h : hold L x = -1
  · omega
  · obtain ⟨h1, h2, h3⟩ := hold_cd h
    by_cases q : hold L x < 12
    · exact q
    · exact absurd ((lr.2.2 _ (by omega) h2).symm.trans h3).symm hx
theorem sp_w_at {M : am_M} {L : Lw} (v : VL L) (lr : LR L M) {x : Int} (hx : ¬ x = 0) (xz : zr x) : am_call t_LAW_at [.ref 61, .int (zi x)] M (some (.int (zi (hold L x)))) M := by
  refine am_call_of ⟨Nat.le_of_ble_eq_true rfl, rfl⟩ (vc_w_at x M _ ?_)
  refine loop_up (fun i (_ : Unit) => (2, [.ref 61, .int (zi x), .int (zi i)], [], M)) 12 (fun i _ => ∀ c, 0 ≤ c → c < i → ¬ L.code c = x) ?_ ?_ 0 () (by omega) (by omega) (fun c c0 c1 => by omega)
  · intro _ hs
    refine vc_w_at_2 x 12 M _ ⟨by decide, fun h => by omega, fun _ => ⟨?_, rfl⟩⟩
    rw [← hold_eq v hx (Or.inl ⟨rfl, fun c c0 c1 q => ?_⟩)]
    by_cases h : c < 12
    · exact hs c c0 h q
    · exact hx (q.symm.trans (lr.2.2 c (by omega) c1))
  · intro i _ i0 i1 hs kk
    have e0 := lr.1 i i0 i1
    have next : ¬ L.code i = x → am_x t_LAW_at (2, [.ref 61, .int (zi x), .int (zi (i + 1))], [], M) _ := fun q => kk () (fun c c0 c1 => by
      by_cases h : c = i
      · rw [h]; exact q
      · exact hs c c0 (by omega))
    refine vc_w_at_2 x i M _ ⟨⟨by omega, by omega⟩, fun _ => ⟨⟨by omega, by omega⟩, fun q => ⟨⟨by omega, by omega⟩, xz, ?_⟩, fun q => next (fun h => ?_)⟩, fun h => by omega⟩
    · have ni : ¬ L.code i = 0 := fun z => by rw [if_pos z] at e0; omega
      rw [(lr.2.1 i i0 i1 ni).1]
      refine ⟨fun h => ⟨?_, rfl⟩, fun h => next h⟩
      rw [hold_eq v hx (Or.inr ⟨i0, by omega, h⟩)]
    · rw [if_neg (by rw [h]; exact hx)] at e0
      exact q e0
theorem sp_w_indexOf {M : am_M} {L : Lw} (lr : LR L M) {c : Int} (c0 : 0 ≤ c) (c1 : c < 12) (n : ¬ L.code c = 0) : am_call t_LAW_indexOf [.ref 61, .int (zi c)] M (some (.int (zi (rank L c)))) M := by
  have e12 : rank L c = sm (fun k => if ¬ L.code k = 0 ∧ L.code k < L.code c then 1 else 0) 12 := by
    have h : ∀ k : Nat, sm (fun k => if ¬ L.code k = 0 ∧ L.code k < L.code c then 1 else 0) (12 + min k 28) = sm (fun k => if ¬ L.code k = 0 ∧ L.code k < L.code c then 1 else 0) 12 := by
      intro k
      induction k with
      | zero => rfl
      | succ k ih =>
        by_cases q : k < 28
        · rw [show (12 : Int) + ((min (k + 1) 28 : Nat) : Int) = 12 + ((min k 28 : Nat) : Int) + 1 by omega, sm_s _ (by omega), ih, if_neg (fun z => z.1 (lr.2.2 _ (by omega) (by omega))), Int.add_zero]
        · rw [show min (k + 1) 28 = min k 28 by omega, ih]
    exact h 28
  have ec := (lr.2.1 c c0 c1 n).1
  rw [e12]
  refine am_call_of ⟨Nat.le_of_ble_eq_true rfl, rfl⟩ (vc_w_indexOf c M _ ?_)
  refine loop_up (fun i (s : Int) => (4, [.ref 61, .int (zi c), .int (zi s), .int (zi i)], [], M)) 12 (fun i s => s = sm (fun k => if ¬ L.code k = 0 ∧ L.code k < L.code c then 1 else 0) i) ?_ ?_ 0 0 (by omega) (by omega) rfl
  · intro s hs
    exact vc_w_indexOf_4 c s 12 M _ ⟨by decide, fun h => by omega, fun _ => ⟨by rw [hs], rfl⟩⟩
  · intro i s i0 i1 hs kk
    have e := sm_s (fun k => if ¬ L.code k = 0 ∧ L.code k < L.code c then 1 else 0) i0
    have ef := lr.1 i i0 i1
    refine vc_w_indexOf_4 c s i M _ ⟨⟨by omega, by omega⟩, fun _ => ⟨⟨by omega, by omega⟩, fun q => ⟨⟨by omega, by omega⟩, ⟨by omega, by omega⟩, ?_⟩, fun q => kk _ ?_⟩, fun h => by omega⟩
    · have ni : ¬ L.code i = 0 := fun z => by rw [if_pos z] at ef; omega
      rw [(lr.2.1 i i0 i1 ni).1, ec]
      refine ⟨fun q2 => kk _ ?_, fun q2 => kk _ ?_⟩
      · rw [e, hs, if_pos ⟨ni, q2⟩]
      · rw [e, hs, if_neg (fun z => by omega)]
    · have ni : L.code i = 0 := by
        by_cases z : L.code i = 0
        · exact z
        · rw [if_neg z] at ef; exact absurd ef q
      rw [e, hs, if_neg (fun z => z.1 ni)]
theorem sp_w_toldWord {M : am_M} {L : Lw} (v : VL L) (lr : LR L M) {c k : Int} (c0 : 0 ≤ c) (c1 : c < 12) (n : ¬ L.code c = 0) (k0 : 0 ≤ k) (k1 : k < L.len c) : am_call t_LAW_toldWord [.ref 61, .int (zi c), .int (zi k)] M (some (.int (zi (tw L c k)))) M := by
  obtain ⟨f1, f2, f3, f4, f5⟩ := lr.2.1 c c0 c1 n
  obtain ⟨g1, g2⟩ := f5 k k0 k1
  have wt := v.wt c k c0 (by omega) n k0 k1
  refine am_call_of ⟨Nat.le_of_ble_eq_true rfl, rfl⟩ (vc_w_toldWord c k M _ ⟨⟨by omega, by omega⟩, ?_⟩)
  rw [g1]
  unfold en tw
  by_cases h : L.tx c k < 1000
  · rw [if_pos h, if_pos h]
    exact ⟨fun _ => ⟨rfl, rfl⟩, fun q => by omega⟩
  · rw [if_neg h, if_neg h]
    have e5 : 2000000 + (L.tx c k - 1000) - 2000000 = L.tx c k - 1000 := by omega
    rw [e5]
    have ef := lr.1 (L.tx c k - 1000) (by omega) (by omega)
    refine ⟨fun q => by omega, fun _ => ⟨⟨by omega, by omega⟩, ?_⟩⟩
    rw [ef]
    by_cases z : L.code (L.tx c k - 1000) = 0
    · rw [if_pos z, if_pos z]
      exact ⟨fun q => by omega, fun _ => ⟨rfl, rfl⟩⟩
    · rw [if_neg z, if_neg z]
      exact ⟨fun _ => ⟨⟨by omega, by omega⟩, by rw [(lr.2.1 _ (by omega) (by omega) z).1], rfl⟩, fun q => absurd rfl q⟩
/-! the next amendment -/
def nxC (M : am_M) (d a l k : Int) : Prop := iv M 60 (9 + k) = 0 ∧ (d < iv M 60 (1 + k) ∨ (iv M 60 (1 + k) = d ∧ a < k)) ∧ iv M 60 (1 + k) ≤ l
def nxI (M : am_M) (d a l n i s : Int) : Prop := (s = -1 ∧ ∀ k, i < k → k < n → ¬ nxC M d a l k) ∨ ((i < s ∧ s < n ∧ nxC M d a l s) ∧ ∀ k, i < k → k < n → nxC M d a l k → iv M 60 (1 + s) < iv M 60 (1 + k) ∨ (iv M 60 (1 + s) = iv M 60 (1 + k) ∧ s ≤ k))
theorem nx_skip {M : am_M} {d a l n i s : Int} (h : nxI M d a l n i s) (hc : ¬ nxC M d a l i) : nxI M d a l n (i + (-1)) s := by
  rcases h with ⟨h1, h2⟩ | ⟨h1, h2⟩
  · refine Or.inl ⟨h1, fun k k0 k1 => ?_⟩
    by_cases e : k = i
    · rw [e]; exact hc
    · exact h2 k (by omega) k1
  · refine Or.inr ⟨⟨by omega, h1.2⟩, fun k k0 k1 q => ?_⟩
    by_cases e : k = i
    · rw [e] at q; exact absurd q hc
    · exact h2 k (by omega) k1 q
theorem nx_keep {M : am_M} {d a l n i s : Int} (h : nxI M d a l n i s) (hs : ¬ s = -1) (hl : iv M 60 (1 + s) < iv M 60 (1 + i)) : nxI M d a l n (i + (-1)) s := by
  rcases h with ⟨h1, h2⟩ | ⟨h1, h2⟩
  · exact absurd h1 hs
  · refine Or.inr ⟨⟨by omega, h1.2⟩, fun k k0 k1 q => ?_⟩
    by_cases e : k = i
    · rw [e]; exact Or.inl hl
    · exact h2 k (by omega) k1 q
theorem nx_take {M : am_M} {d a l n i s : Int} (h : nxI M d a l n i s) (i0 : 0 ≤ i) (hn : i < n) (hc : nxC M d a l i) (hl : s = -1 ∨ iv M 60 (1 + i) ≤ iv M 60 (1 + s)) : nxI M d a l n (i + (-1)) i := by
  refine Or.inr ⟨⟨by omega, hn, hc⟩, fun k k0 k1 q => ?_⟩
  by_cases e : k = i
  · rw [e]; exact Or.inr ⟨rfl, Int.le_refl _⟩
  · rcases h with ⟨h1, h2⟩ | ⟨h1, h2⟩
    · exact absurd q (h2 k (by omega) k1)
    · have := h2 k (by omega) k1 q
      rcases hl with hl | hl
      · have := h1.1; omega
      · omega
theorem sp_w_next (M : am_M) {n d a l : Int} (e0 : iv M 60 0 = n) (n0 : 0 ≤ n) (n1 : n ≤ 8) (dz : zr d) (az : zr a) (lz : zr l) : ∃ r : Int, am_call t_LAW_next [.ref 60, .int (zi d), .int (zi a), .int (zi l)] M (some (.int (zi r))) M ∧ nxI M d a l n (-1) r := by
  have key : am_x t_LAW_next (0, am_ent (am_mL t_LAW_next) [.ref 60, .int (zi d), .int (zi a), .int (zi l)], [], M) (fun r m => ∃ r', r = some (.int (zi r')) ∧ m = M ∧ nxI M d a l n (-1) r') := by
    refine vc_w_next d a l M _ ?_
    rw [e0]
    refine loop_dn (fun i (s : Int) => (10, [.ref 60, .int (zi d), .int (zi a), .int (zi l), .int (zi s), .int (zi i), .null], [], M)) (fun i s => (i < n ∧ (s = -1 ∨ (0 ≤ s ∧ s < n))) ∧ nxI M d a l n i s) ?_ ?_ (n - 1) (-1) (by omega) ⟨⟨by omega, Or.inl rfl⟩, Or.inl ⟨rfl, fun k k0 k1 => by omega⟩⟩
    · intro s hs
      exact vc_w_next_10 d a l s (-1) M _ ⟨by decide, fun _ => ⟨s, rfl, rfl, hs.2⟩, fun q => by omega⟩
    · intro i s i0 hs kk
      obtain ⟨⟨i1, s1⟩, hx⟩ := hs
      have sk : ¬ nxC M d a l i → am_x t_LAW_next (10, [.ref 60, .int (zi d), .int (zi a), .int (zi l), .int (zi s), .int (zi (i + (-1))), .null], [], M) _ := fun q => kk s ⟨⟨by omega, s1⟩, nx_skip hx q⟩
      have kp : ¬ s = -1 → iv M 60 (1 + s) < iv M 60 (1 + i) → am_x t_LAW_next (10, [.ref 60, .int (zi d), .int (zi a), .int (zi l), .int (zi s), .int (zi (i + (-1))), .null], [], M) _ := fun q q2 => kk s ⟨⟨by omega, s1⟩, nx_keep hx q q2⟩
      have tk : nxC M d a l i → (s = -1 ∨ iv M 60 (1 + i) ≤ iv M 60 (1 + s)) → am_x t_LAW_next (10, [.ref 60, .int (zi d), .int (zi a), .int (zi l), .int (zi i), .int (zi (i + (-1))), .null], [], M) _ := fun q q2 => kk i ⟨⟨by omega, Or.inr ⟨i0, i1⟩⟩, nx_take hx i0 i1 q q2⟩
      clear kk hx
      refine vc_w_next_10 d a l s i M _ ?_
      unfold nxC at sk tk
      (repeat' (first | apply And.intro | intro _)) <;> first | omega | (exact sk (by omega)) | (exact kp (by omega) (by omega)) | (exact tk (by omega) (by omega))
  obtain ⟨rv, M', h1, r', h2, h3, h4⟩ := am_call_ex ⟨Nat.le_of_ble_eq_true rfl, rfl⟩ key
  subst h2 h3
  exact ⟨r', h1, h4⟩
