/-! out of the proof of whole: cperf -/
theorem cyf_s (b : Int → Int) (cas a : Int) (L : Lw) (n : Nat) : cyf b cas a L (n + 1) = if pt b (fo b a + n) 4 = 1 ∧ ¬ cas = -1 ∧ cas < b (1 + a) then cyf b cas a L n else ops b (cyf b cas a L n) (fo b a + n) (b (1 + a)) := rfl
/-- the class's book -/
def CB (c b : Int → Int) : Prop := c 0 = b 0 ∧ c 1 = nops b ∧ c 2 = ia b (nops b) ∧ (∀ a, 0 ≤ a → a < b 0 → c (4 + a) = b (1 + a)) ∧ (∀ a, 0 ≤ a → a ≤ b 0 → c (24 + a) = fo b a) ∧ ∀ o, 0 ≤ o → o < nops b → CO c b o
set_option maxRecDepth 100000 in
theorem vc_l15_setText (c : Int) (n : Int) (M : am_M) (Q : Option Value → am_M → Prop) (hv : (0 ≤ c ∧ c < 40) ∧ (∀ M1, M1 = zup M 21 c n → (0 ≤ (0 : Int) ∧ 0 ≤ (c * 6) ∧ 0 ≤ n ∧ (0 : Int) + n ≤ 6 ∧ (c * 6) + n ≤ 240) ∧ (∀ M2, M2 = zcp M1 33 23 0 (c * 6) n → Q none M2))) : am_x t_Law_setText (0, am_ent (am_mL t_Law_setText) [.ref 15, .int (zi c), .int (zi n)], [], M) Q := by
  refine am_xn 0 (c1 := (0, [.ref 15, .int (zi c), .int (zi n)], [], M)) rfl ?_
  refine am_xn 4 (c1 := (6, [.ref 15, .int (zi c), .int (zi n)], [.int (zi n), .int (zi c), .ref 20], M)) rfl ?_
  obtain ⟨g, hv⟩ := hv
  obtain ⟨M1, eM1⟩ : ∃ m, m = zup M 21 c n := ⟨_, rfl⟩
  replace hv := hv M1 eM1
  refine am_xc t_Row_set (.invokevirtual 90) 90 (av := [.ref 20, .int (zi c), .int (zi n)]) (rest := []) (rv := none) (M' := M1) rfl rfl rfl rfl (Nat.le_of_ble_eq_true rfl) (fun _ => rfl) (by rw [eM1]; exact sp_set_20 M c n g) ?_
  refine am_xn 0 (c1 := (9, [.ref 15, .int (zi c), .int (zi n)], [], M1)) rfl ?_
  refine am_ximul 8 c 6 (pc := 22) (ls := [.ref 15, .int (zi c), .int (zi n)]) (st := [.int (zi 0), .ref 32, .ref 22]) rfl ?_
  refine am_xn 1 (c1 := (23, [.ref 15, .int (zi c), .int (zi n)], [.int (zi n), .int (zi (c * 6)), .int (zi 0), .ref 32, .ref 22], M1)) rfl ?_
  obtain ⟨g, hv⟩ := hv
  obtain ⟨M2, eM2⟩ : ∃ m, m = zcp M1 33 23 0 (c * 6) n := ⟨_, rfl⟩
  replace hv := hv M2 eM2
  refine am_xc t_Row_take (.invokevirtual 111) 111 (av := [.ref 22, .ref 32, .int (zi 0), .int (zi (c * 6)), .int (zi n)]) (rest := []) (rv := none) (M' := M2) rfl rfl rfl rfl (Nat.le_of_ble_eq_true rfl) (fun _ => rfl) (by rw [eM2]; exact sp_take_22_32 M1 0 (c * 6) n g) ?_
  refine am_xn 0 (c1 := (26, [.ref 15, .int (zi c), .int (zi n)], [], M2)) rfl ?_
  exact am_xr none ⟨rfl, rfl, rfl⟩ hv
set_option maxRecDepth 100000 in
theorem vc_l15_change (c : Int) (w : Int) (v : Int) (M : am_M) (Q : Option Value → am_M → Prop) (hv : (0 ≤ c ∧ c < 40) ∧ (am_x t_Law_change (23, [.ref 15, .null, .int (zi w), .int (zi v), .null, .int (zi ((c * 6) + (iv M 21 c))), .int (zi (c * 6))], [], M) Q)) : am_x t_Law_change (0, am_ent (am_mL t_Law_change) [.ref 15, .int (zi c), .int (zi w), .int (zi v)], [], M) Q := by
  refine am_xn 0 (c1 := (0, [.ref 15, .int (zi c), .int (zi w), .int (zi v), .null, .null, .null], [], M)) rfl ?_
  refine am_ximul 3 c 6 (pc := 4) (ls := [.ref 15, .int (zi c), .int (zi w), .int (zi v), .null, .null, .null]) (st := []) rfl ?_
  refine am_xn 5 (c1 := (13, [.ref 15, .int (zi c), .int (zi w), .int (zi v), .int (zi (c * 6)), .null, .null], [.int (zi c), .ref 20, .int (zi (c * 6))], M)) rfl ?_
  obtain ⟨g, hv⟩ := hv
  refine am_xc t_Row_get (.invokevirtual 97) 97 (av := [.ref 20, .int (zi c)]) (rest := [.int (zi (c * 6))]) (rv := some (.int (zi (iv M 21 c)))) (M' := M) rfl rfl rfl rfl (Nat.le_of_ble_eq_true rfl) (fun _ => rfl) (sp_get_20 M c g) ?_
  refine am_xn 0 (c1 := (16, [.ref 15, .int (zi c), .int (zi w), .int (zi v), .int (zi (c * 6)), .null, .null], [.int (zi (iv M 21 c)), .int (zi (c * 6))], M)) rfl ?_
  refine am_xiadd 1 (c * 6) (iv M 21 c) (pc := 17) (ls := [.ref 15, .int (zi c), .int (zi w), .int (zi v), .int (zi (c * 6)), .null, .null]) (st := []) rfl ?_
  refine am_xn 3 (c1 := (23, [.ref 15, .int (zi c), .int (zi w), .int (zi v), .int (zi (c * 6)), .int (zi ((c * 6) + (iv M 21 c))), .int (zi (c * 6))], [], M)) rfl ?_
  refine am_xf 1 ?_
  refine am_xf 4 ?_
  exact hv
set_option maxRecDepth 100000 in
theorem vc_l15_change_23 (x2 : Int) (x3 : Int) (x5 : Int) (x6 : Int) (M : am_M) (Q : Option Value → am_M → Prop) (hv : zr x6 ∧ (zr x5 ∧ ((x6 < x5 → (0 ≤ x6 ∧ x6 < 240) ∧ (zr x2 ∧ (((iv M 23 x6) = x2 → (0 ≤ x6 ∧ x6 < 240) ∧ (∀ M4, M4 = zup M 23 x6 x3 → am_x t_Law_change (23, [.ref 15, .null, .int (zi x2), .int (zi x3), .null, .int (zi x5), .int (zi (x6 + 1))], [], M4) Q)) ∧ (¬ (iv M 23 x6) = x2 → am_x t_Law_change (23, [.ref 15, .null, .int (zi x2), .int (zi x3), .null, .int (zi x5), .int (zi (x6 + 1))], [], M) Q)))) ∧ (x5 ≤ x6 → Q none M)))) : am_x t_Law_change (23, [.ref 15, .null, .int (zi x2), .int (zi x3), .null, .int (zi x5), .int (zi x6)], [], M) Q := by
  obtain ⟨r1, hv⟩ := hv
  obtain ⟨r2, hv⟩ := hv
  refine am_xn 3 (c1 := (if zi x6 < zi x5 then 30 else 59, [.ref 15, .null, .int (zi x2), .int (zi x3), .null, .int (zi x5), .int (zi x6)], [], M)) rfl (am_xlt r1 r2 (fun h => ?_) (fun h => ?_))
  · replace hv := hv.1 h
    refine am_xn 3 (c1 := (36, [.ref 15, .null, .int (zi x2), .int (zi x3), .null, .int (zi x5), .int (zi x6)], [.int (zi x6), .ref 22], M)) rfl ?_
    obtain ⟨g, hv⟩ := hv
    refine am_xc t_Row_get (.invokevirtual 97) 97 (av := [.ref 22, .int (zi x6)]) (rest := []) (rv := some (.int (zi (iv M 23 x6)))) (M' := M) rfl rfl rfl rfl (Nat.le_of_ble_eq_true rfl) (fun _ => rfl) (sp_get_22 M x6 g) ?_
    refine am_xn 0 (c1 := (39, [.ref 15, .null, .int (zi x2), .int (zi x3), .null, .int (zi x5), .int (zi x6)], [.int (zi (iv M 23 x6))], M)) rfl ?_
    obtain ⟨r3, hv⟩ := hv
    refine am_xn 2 (c1 := (if zi (iv M 23 x6) = zi x2 then 43 else 53, [.ref 15, .null, .int (zi x2), .int (zi x3), .null, .int (zi x5), .int (zi x6)], [], M)) rfl (am_xeq (iv_r _ _ _) r3 (fun h => ?_) (fun h => ?_))
    · replace hv := hv.1 h
      refine am_xn 4 (c1 := (50, [.ref 15, .null, .int (zi x2), .int (zi x3), .null, .int (zi x5), .int (zi x6)], [.int (zi x3), .int (zi x6), .ref 22], M)) rfl ?_
      obtain ⟨g, hv⟩ := hv
      obtain ⟨M4, eM4⟩ : ∃ m, m = zup M 23 x6 x3 := ⟨_, rfl⟩
      replace hv := hv M4 eM4
      refine am_xc t_Row_set (.invokevirtual 90) 90 (av := [.ref 22, .int (zi x6), .int (zi x3)]) (rest := []) (rv := none) (M' := M4) rfl rfl rfl rfl (Nat.le_of_ble_eq_true rfl) (fun _ => rfl) (by rw [eM4]; exact sp_set_22 M x6 x3 g) ?_
      refine am_xn 0 (c1 := (53, [.ref 15, .null, .int (zi x2), .int (zi x3), .null, .int (zi x5), .int (zi x6)], [], M4)) rfl ?_
      refine am_xn 1 (c1 := (56, [.ref 15, .null, .int (zi x2), .int (zi x3), .null, .int (zi x5), .int (zi x6 + zi 1)], [], M4)) rfl ?_
      rw [zi_add]
      refine am_xn 1 (c1 := (23, [.ref 15, .null, .int (zi x2), .int (zi x3), .null, .int (zi x5), .int (zi (x6 + 1))], [], M4)) rfl ?_
      exact hv
    · replace hv := hv.2 h
      refine am_xn 1 (c1 := (56, [.ref 15, .null, .int (zi x2), .int (zi x3), .null, .int (zi x5), .int (zi x6 + zi 1)], [], M)) rfl ?_
      rw [zi_add]
      refine am_xn 1 (c1 := (23, [.ref 15, .null, .int (zi x2), .int (zi x3), .null, .int (zi x5), .int (zi (x6 + 1))], [], M)) rfl ?_
      exact hv
  · replace hv := hv.2 h
    exact am_xr none ⟨rfl, rfl, rfl⟩ hv
set_option maxRecDepth 100000 in
theorem vc_l15_perform (o : Int) (c : Int) (M : am_M) (Q : Option Value → am_M → Prop) (hv : (0 ≤ o ∧ o < 120 ∧ 0 ≤ (0 : Int) ∧ (0 : Int) < 13) ∧ (((cpt (iv M 11) o 0) = 0 → (0 ≤ o ∧ o < 120 ∧ 0 ≤ (1 : Int) ∧ (1 : Int) < 13) ∧ ((0 ≤ c ∧ c < 40) ∧ (∀ M1, M1 = zup M 17 c (cpt (iv M 11) o 1) → (0 ≤ o ∧ o < 120 ∧ 0 ≤ (5 : Int) ∧ (5 : Int) < 13) ∧ (∃ M2, am_call t_Law_setText [.ref 15, .int (zi c), .int (zi (cpt (iv M1 11) o 5))] M1 none M2 ∧ (Q none M2))))) ∧ ((cpt (iv M 11) o 0) = 1 → (0 ≤ o ∧ o < 120 ∧ 0 ≤ (5 : Int) ∧ (5 : Int) < 13) ∧ (∃ M3, am_call t_Law_setText [.ref 15, .int (zi c), .int (zi (cpt (iv M 11) o 5))] M none M3 ∧ (Q none M3))) ∧ ((cpt (iv M 11) o 0) = 2 → (0 ≤ c ∧ c < 40) ∧ (∀ M4, M4 = zup M 17 c 0 → Q none M4)) ∧ ((cpt (iv M 11) o 0) = 3 → (0 ≤ o ∧ o < 120 ∧ 0 ≤ (2 : Int) ∧ (2 : Int) < 13) ∧ ((0 ≤ c ∧ c < 40) ∧ (∀ M5, M5 = zup M 17 c (cpt (iv M 11) o 2) → Q none M5))) ∧ (¬ (cpt (iv M 11) o 0) = 0 → ¬ (cpt (iv M 11) o 0) = 1 → ¬ (cpt (iv M 11) o 0) = 2 → ¬ (cpt (iv M 11) o 0) = 3 → (0 ≤ o ∧ o < 120 ∧ 0 ≤ (2 : Int) ∧ (2 : Int) < 13) ∧ ((0 ≤ o ∧ o < 120 ∧ 0 ≤ (3 : Int) ∧ (3 : Int) < 13) ∧ (∃ M6, am_call t_Law_change [.ref 15, .int (zi c), .int (zi (cpt (iv M 11) o 2)), .int (zi (cpt (iv M 11) o 3))] M none M6 ∧ (Q none M6)))))) : am_x t_Law_perform (0, am_ent (am_mL t_Law_perform) [.ref 15, .ref 9, .int (zi o), .int (zi c)], [], M) Q := by
  refine am_xn 0 (c1 := (0, [.ref 15, .ref 9, .int (zi o), .int (zi c)], [], M)) rfl ?_
  refine am_xn 3 (c1 := (3, [.ref 15, .ref 9, .int (zi o), .int (zi c)], [.int (zi 0), .int (zi o), .ref 9], M)) rfl ?_
  obtain ⟨g, hv⟩ := hv
  refine am_xc t_Amd_cell (.invokevirtual 75) 75 (av := [.ref 9, .int (zi o), .int (zi 0)]) (rest := []) (rv := some (.int (zi (cpt (iv M 11) o 0)))) (M' := M) rfl rfl rfl rfl (Nat.le_of_ble_eq_true rfl) (fun _ => rfl) (sp_c_cell M o 0 g) ?_
  refine am_xn 0 (c1 := (6, [.ref 15, .ref 9, .int (zi o), .int (zi c)], [.int (zi (cpt (iv M 11) o 0))], M)) rfl ?_
  by_cases h0 : (cpt (iv M 11) o 0) = 0
  · replace hv := hv.1 h0
    refine am_xswt rfl 0 (by rw [h0]; rfl) 36 rfl ?_
    refine am_xn 6 (c1 := (44, [.ref 15, .ref 9, .int (zi o), .int (zi c)], [.int (zi 1), .int (zi o), .ref 9, .int (zi c), .ref 16], M)) rfl ?_
    obtain ⟨g, hv⟩ := hv
    refine am_xc t_Amd_cell (.invokevirtual 75) 75 (av := [.ref 9, .int (zi o), .int (zi 1)]) (rest := [.int (zi c), .ref 16]) (rv := some (.int (zi (cpt (iv M 11) o 1)))) (M' := M) rfl rfl rfl rfl (Nat.le_of_ble_eq_true rfl) (fun _ => rfl) (sp_c_cell M o 1 g) ?_
    refine am_xn 0 (c1 := (47, [.ref 15, .ref 9, .int (zi o), .int (zi c)], [.int (zi (cpt (iv M 11) o 1)), .int (zi c), .ref 16], M)) rfl ?_
    obtain ⟨g, hv⟩ := hv
    obtain ⟨M1, eM1⟩ : ∃ m, m = zup M 17 c (cpt (iv M 11) o 1) := ⟨_, rfl⟩
    replace hv := hv M1 eM1
    refine am_xc t_Row_set (.invokevirtual 90) 90 (av := [.ref 16, .int (zi c), .int (zi (cpt (iv M 11) o 1))]) (rest := []) (rv := none) (M' := M1) rfl rfl rfl rfl (Nat.le_of_ble_eq_true rfl) (fun _ => rfl) (by rw [eM1]; exact sp_set_16 M c (cpt (iv M 11) o 1) g) ?_
    refine am_xn 0 (c1 := (50, [.ref 15, .ref 9, .int (zi o), .int (zi c)], [], M1)) rfl ?_
    refine am_xn 5 (c1 := (55, [.ref 15, .ref 9, .int (zi o), .int (zi c)], [.int (zi 5), .int (zi o), .ref 9, .int (zi c), .ref 15], M1)) rfl ?_
    obtain ⟨g, hv⟩ := hv
    refine am_xc t_Amd_cell (.invokevirtual 75) 75 (av := [.ref 9, .int (zi o), .int (zi 5)]) (rest := [.int (zi c), .ref 15]) (rv := some (.int (zi (cpt (iv M1 11) o 5)))) (M' := M1) rfl rfl rfl rfl (Nat.le_of_ble_eq_true rfl) (fun _ => rfl) (sp_c_cell M1 o 5 g) ?_
    refine am_xn 0 (c1 := (58, [.ref 15, .ref 9, .int (zi o), .int (zi c)], [.int (zi (cpt (iv M1 11) o 5)), .int (zi c), .ref 15], M1)) rfl ?_
    obtain ⟨M2, hc, hv⟩ := hv
    refine am_xc t_Law_setText (.invokevirtual 104) 104 (av := [.ref 15, .int (zi c), .int (zi (cpt (iv M1 11) o 5))]) (rest := []) (rv := none) (M' := M2) rfl rfl rfl rfl (Nat.le_of_ble_eq_true rfl) (fun _ => rfl) (hc) ?_
    refine am_xn 0 (c1 := (61, [.ref 15, .ref 9, .int (zi o), .int (zi c)], [], M2)) rfl ?_
    refine am_xn 1 (c1 := (124, [.ref 15, .ref 9, .int (zi o), .int (zi c)], [], M2)) rfl ?_
    exact am_xr none ⟨rfl, rfl, rfl⟩ hv
  replace hv := hv.2
  by_cases h1 : (cpt (iv M 11) o 0) = 1
  · replace hv := hv.1 h1
    refine am_xswt rfl 1 (by rw [h1]; rfl) 64 rfl ?_
    refine am_xn 5 (c1 := (69, [.ref 15, .ref 9, .int (zi o), .int (zi c)], [.int (zi 5), .int (zi o), .ref 9, .int (zi c), .ref 15], M)) rfl ?_
    obtain ⟨g, hv⟩ := hv
    refine am_xc t_Amd_cell (.invokevirtual 75) 75 (av := [.ref 9, .int (zi o), .int (zi 5)]) (rest := [.int (zi c), .ref 15]) (rv := some (.int (zi (cpt (iv M 11) o 5)))) (M' := M) rfl rfl rfl rfl (Nat.le_of_ble_eq_true rfl) (fun _ => rfl) (sp_c_cell M o 5 g) ?_
    refine am_xn 0 (c1 := (72, [.ref 15, .ref 9, .int (zi o), .int (zi c)], [.int (zi (cpt (iv M 11) o 5)), .int (zi c), .ref 15], M)) rfl ?_
    obtain ⟨M3, hc, hv⟩ := hv
    refine am_xc t_Law_setText (.invokevirtual 104) 104 (av := [.ref 15, .int (zi c), .int (zi (cpt (iv M 11) o 5))]) (rest := []) (rv := none) (M' := M3) rfl rfl rfl rfl (Nat.le_of_ble_eq_true rfl) (fun _ => rfl) (hc) ?_
    refine am_xn 0 (c1 := (75, [.ref 15, .ref 9, .int (zi o), .int (zi c)], [], M3)) rfl ?_
    refine am_xn 1 (c1 := (124, [.ref 15, .ref 9, .int (zi o), .int (zi c)], [], M3)) rfl ?_
    exact am_xr none ⟨rfl, rfl, rfl⟩ hv
  replace hv := hv.2
  by_cases h2 : (cpt (iv M 11) o 0) = 2
  · replace hv := hv.1 h2
    refine am_xswt rfl 2 (by rw [h2]; rfl) 78 rfl ?_
    refine am_xn 4 (c1 := (84, [.ref 15, .ref 9, .int (zi o), .int (zi c)], [.int (zi 0), .int (zi c), .ref 16], M)) rfl ?_
    obtain ⟨g, hv⟩ := hv
    obtain ⟨M4, eM4⟩ : ∃ m, m = zup M 17 c 0 := ⟨_, rfl⟩
    replace hv := hv M4 eM4
    refine am_xc t_Row_set (.invokevirtual 90) 90 (av := [.ref 16, .int (zi c), .int (zi 0)]) (rest := []) (rv := none) (M' := M4) rfl rfl rfl rfl (Nat.le_of_ble_eq_true rfl) (fun _ => rfl) (by rw [eM4]; exact sp_set_16 M c 0 g) ?_
    refine am_xn 0 (c1 := (87, [.ref 15, .ref 9, .int (zi o), .int (zi c)], [], M4)) rfl ?_
    refine am_xn 1 (c1 := (124, [.ref 15, .ref 9, .int (zi o), .int (zi c)], [], M4)) rfl ?_
    exact am_xr none ⟨rfl, rfl, rfl⟩ hv
  replace hv := hv.2
  by_cases h3 : (cpt (iv M 11) o 0) = 3
  · replace hv := hv.1 h3
    refine am_xswt rfl 3 (by rw [h3]; rfl) 90 rfl ?_
    refine am_xn 6 (c1 := (98, [.ref 15, .ref 9, .int (zi o), .int (zi c)], [.int (zi 2), .int (zi o), .ref 9, .int (zi c), .ref 16], M)) rfl ?_
    obtain ⟨g, hv⟩ := hv
    refine am_xc t_Amd_cell (.invokevirtual 75) 75 (av := [.ref 9, .int (zi o), .int (zi 2)]) (rest := [.int (zi c), .ref 16]) (rv := some (.int (zi (cpt (iv M 11) o 2)))) (M' := M) rfl rfl rfl rfl (Nat.le_of_ble_eq_true rfl) (fun _ => rfl) (sp_c_cell M o 2 g) ?_
    refine am_xn 0 (c1 := (101, [.ref 15, .ref 9, .int (zi o), .int (zi c)], [.int (zi (cpt (iv M 11) o 2)), .int (zi c), .ref 16], M)) rfl ?_
    obtain ⟨g, hv⟩ := hv
    obtain ⟨M5, eM5⟩ : ∃ m, m = zup M 17 c (cpt (iv M 11) o 2) := ⟨_, rfl⟩
    replace hv := hv M5 eM5
    refine am_xc t_Row_set (.invokevirtual 90) 90 (av := [.ref 16, .int (zi c), .int (zi (cpt (iv M 11) o 2))]) (rest := []) (rv := none) (M' := M5) rfl rfl rfl rfl (Nat.le_of_ble_eq_true rfl) (fun _ => rfl) (by rw [eM5]; exact sp_set_16 M c (cpt (iv M 11) o 2) g) ?_
    refine am_xn 0 (c1 := (104, [.ref 15, .ref 9, .int (zi o), .int (zi c)], [], M5)) rfl ?_
    refine am_xn 1 (c1 := (124, [.ref 15, .ref 9, .int (zi o), .int (zi c)], [], M5)) rfl ?_
    exact am_xr none ⟨rfl, rfl, rfl⟩ hv
  replace hv := hv.2
  replace hv := hv h0 h1 h2 h3
  refine am_xswd rfl (iv_r _ 11 _) (by omega) 107 rfl ?_
  refine am_xn 5 (c1 := (112, [.ref 15, .ref 9, .int (zi o), .int (zi c)], [.int (zi 2), .int (zi o), .ref 9, .int (zi c), .ref 15], M)) rfl ?_
  obtain ⟨g, hv⟩ := hv
  refine am_xc t_Amd_cell (.invokevirtual 75) 75 (av := [.ref 9, .int (zi o), .int (zi 2)]) (rest := [.int (zi c), .ref 15]) (rv := some (.int (zi (cpt (iv M 11) o 2)))) (M' := M) rfl rfl rfl rfl (Nat.le_of_ble_eq_true rfl) (fun _ => rfl) (sp_c_cell M o 2 g) ?_
  refine am_xn 0 (c1 := (115, [.ref 15, .ref 9, .int (zi o), .int (zi c)], [.int (zi (cpt (iv M 11) o 2)), .int (zi c), .ref 15], M)) rfl ?_
  refine am_xn 3 (c1 := (118, [.ref 15, .ref 9, .int (zi o), .int (zi c)], [.int (zi 3), .int (zi o), .ref 9, .int (zi (cpt (iv M 11) o 2)), .int (zi c), .ref 15], M)) rfl ?_
  obtain ⟨g, hv⟩ := hv
  refine am_xc t_Amd_cell (.invokevirtual 75) 75 (av := [.ref 9, .int (zi o), .int (zi 3)]) (rest := [.int (zi (cpt (iv M 11) o 2)), .int (zi c), .ref 15]) (rv := some (.int (zi (cpt (iv M 11) o 3)))) (M' := M) rfl rfl rfl rfl (Nat.le_of_ble_eq_true rfl) (fun _ => rfl) (sp_c_cell M o 3 g) ?_
  refine am_xn 0 (c1 := (121, [.ref 15, .ref 9, .int (zi o), .int (zi c)], [.int (zi (cpt (iv M 11) o 3)), .int (zi (cpt (iv M 11) o 2)), .int (zi c), .ref 15], M)) rfl ?_
  obtain ⟨M6, hc, hv⟩ := hv
  refine am_xc t_Law_change (.invokevirtual 107) 107 (av := [.ref 15, .int (zi c), .int (zi (cpt (iv M 11) o 2)), .int (zi (cpt (iv M 11) o 3))]) (rest := []) (rv := none) (M' := M6) rfl rfl rfl rfl (Nat.le_of_ble_eq_true rfl) (fun _ => rfl) (hc) ?_
  refine am_xn 0 (c1 := (124, [.ref 15, .ref 9, .int (zi o), .int (zi c)], [], M6)) rfl ?_
  exact am_xr none ⟨rfl, rfl, rfl⟩ hv
def CFr15 (M M' : am_M) : Prop := (∀ a, ¬ a = 15 → ¬ (17 ≤ a ∧ a ≤ 33) → M' a = M a) ∧ ∀ j, ¬ j = 9 → ¬ j = 10 → M' 15 j = M 15 j
theorem CFr15_refl (M : am_M) : CFr15 M M := ⟨fun _ _ _ => rfl, fun _ _ _ => rfl⟩
theorem CFr15_trans {M M' M'' : am_M} (h : CFr15 M M') (h' : CFr15 M' M'') : CFr15 M M'' := ⟨fun a a1 a2 => (h'.1 a a1 a2).trans (h.1 a a1 a2), fun j j1 j2 => (h'.2 j j1 j2).trans (h.2 j j1 j2)⟩
theorem CFr15_row {M M' : am_M} (h : ∀ a, ¬ (17 ≤ a ∧ a ≤ 33) → M' a = M a) : CFr15 M M' := ⟨fun a _ a2 => h a a2, fun j _ _ => by rw [h 15 (by decide)]⟩
theorem CFr15_zup {M : am_M} {a : Nat} {k v : Int} (h : 17 ≤ a ∧ a ≤ 33) : CFr15 M (zup M a k v) := ⟨fun b _ b2 => zupr M (fun e => b2 (e ▸ h)), fun j _ _ => by rw [zupr M (by omega)]⟩
theorem CFr15_f {M : am_M} {k v : Int} (hk : k = 9 ∨ k = 10) : CFr15 M (zup M 15 k v) := ⟨fun b b1 _ => zupr M b1, fun j j1 j2 => by
  unfold zup am_up
  rw [if_pos rfl, if_neg (by omega)]⟩
theorem clr_row15 {L : Lw} {M M' : am_M} (r : CLR15 L M) (h : ∀ a, ¬ a = 25 → ¬ a = 33 → ¬ a = 15 → M' a = M a) (h2 : iv M' 15 10 = iv M 15 10) : CLR15 L M' := by
  unfold CLR15 at r ⊢
  rw [iv_row (h 17 (by decide) (by decide) (by decide)), iv_row (h 21 (by decide) (by decide) (by decide)), iv_row (h 19 (by decide) (by decide) (by decide)), iv_row (h 23 (by decide) (by decide) (by decide)), iv_row (h 27 (by decide) (by decide) (by decide)), iv_row (h 29 (by decide) (by decide) (by decide)), iv_row (h 31 (by decide) (by decide) (by decide)), h2]
  exact r
theorem sp_l15_setText (M : am_M) (c n : Int) (c0 : 0 ≤ c) (c1 : c < 40) (n0 : 0 ≤ n) (n1 : n ≤ 6) : am_call t_Law_setText [.ref 15, .int (zi c), .int (zi n)] M none (zcp (zup M 21 c n) 33 23 0 (c * 6) n) := by
  refine am_call_of ⟨Nat.le_of_ble_eq_true rfl, rfl⟩ (vc_l15_setText c n M _ ⟨⟨c0, c1⟩, fun M1 e1 => ⟨⟨by omega, by omega, by omega, by omega, by omega⟩, fun M2 e2 => ⟨rfl, ?_⟩⟩⟩)
  rw [e2, e1]
theorem sp_l15_change (M : am_M) (c w v : Int) (c0 : 0 ≤ c) (c1 : c < 40) (n0 : 0 ≤ iv M 21 c) (n1 : iv M 21 c ≤ 6) (wz : zr w) (vz : zr v) : ∃ M', am_call t_Law_change [.ref 15, .int (zi c), .int (zi w), .int (zi v)] M none M' ∧ (∀ a, ¬ a = 23 → M' a = M a) ∧ ∀ j, 0 ≤ j → iv M' 23 j = if c * 6 ≤ j ∧ j < c * 6 + iv M 21 c ∧ iv M 23 j = w then v else iv M 23 j := by
  suffices h : am_x t_Law_change (0, am_ent (am_mL t_Law_change) [.ref 15, .int (zi c), .int (zi w), .int (zi v)], [], M) (fun r M' => r = none ∧ (∀ a, ¬ a = 23 → M' a = M a) ∧ ∀ j, 0 ≤ j → iv M' 23 j = if c * 6 ≤ j ∧ j < c * 6 + iv M 21 c ∧ iv M 23 j = w then v else iv M 23 j) by
    obtain ⟨r, M', h1, h2, h3⟩ := am_call_ex (by exact ⟨Nat.le_of_ble_eq_true rfl, rfl⟩) h
    subst h2
    exact ⟨M', h1, h3⟩
  obtain ⟨n, hn⟩ : ∃ n, n = iv M 21 c := ⟨_, rfl⟩
  refine vc_l15_change c w v M _ ⟨⟨c0, c1⟩, ?_⟩
  rw [← hn] at n0 n1 ⊢
  refine loop_up (fun i (s : am_M) => (23, [.ref 15, .null, .int (zi w), .int (zi v), .null, .int (zi (c * 6 + n)), .int (zi i)], [], s)) (c * 6 + n) (fun i s => c * 6 ≤ i ∧ (∀ a, ¬ a = 23 → s a = M a) ∧ ∀ j, 0 ≤ j → iv s 23 j = if c * 6 ≤ j ∧ j < i ∧ iv M 23 j = w then v else iv M 23 j) ?_ ?_ (c * 6) M (by omega) (by omega) ⟨Int.le_refl _, fun _ _ => rfl, fun j hj => by rw [if_neg (by omega)]⟩
  · intro s ⟨_, s1, s2⟩
    exact vc_l15_change_23 _ _ _ _ s _ ⟨⟨by omega, by omega⟩, ⟨by omega, by omega⟩, fun h => by omega, fun _ => ⟨rfl, s1, s2⟩⟩
  · intro i s i0 i1 ⟨i2, s1, s2⟩ k
    have e : iv s 23 i = iv M 23 i := by rw [s2 i i0, if_neg (by omega)]
    refine vc_l15_change_23 _ _ _ _ s _ ⟨⟨by omega, by omega⟩, ⟨by omega, by omega⟩, fun h => ⟨⟨i0, by omega⟩, wz, fun q => ⟨⟨i0, by omega⟩, fun M4 e4 => k M4 ⟨by omega, fun a ha => by rw [e4, zupr _ ha, s1 a ha], fun j hj => ?_⟩⟩, fun q => k s ⟨by omega, s1, fun j hj => ?_⟩⟩, fun h => by omega⟩
    · rw [e] at q
      rw [e4, ivs _ _ i0 hj vz, s2 j hj]
      by_cases z : j = i
      · rw [if_pos z, if_pos ⟨by omega, by omega, by rw [z]; exact q⟩]
      · rw [if_neg z]
        by_cases u : c * 6 ≤ j ∧ j < i ∧ iv M 23 j = w
        · rw [if_pos u, if_pos ⟨u.1, by omega, u.2.2⟩]
        · rw [if_neg u, if_neg (fun y => u ⟨y.1, by omega, y.2.2⟩)]
    · rw [e] at q
      rw [s2 j hj]
      by_cases u : c * 6 ≤ j ∧ j < i ∧ iv M 23 j = w
      · rw [if_pos u, if_pos ⟨u.1, by omega, u.2.2⟩]
      · rw [if_neg u, if_neg (fun y => u ⟨y.1, by
          by_cases z : j = i
          · exact absurd (z ▸ y.2.2) q
          · omega, y.2.2⟩)]
theorem sp_l15_perform {M : am_M} {b : Int → Int} {L : Lw} {o c : Int} (co : CO (iv M 11) b o) (wo : WO (pt b o)) (g0 : 0 ≤ o) (g1 : o < 120) (c0 : 0 ≤ c) (c1 : c < 40) (hw : ∀ k, 0 ≤ k → k < pt b o 5 → iv M 33 k = wd b L o k) (hl : pt b o 0 = 4 → 0 ≤ iv M 21 c ∧ iv M 21 c ≤ 6) :
    ∃ M', am_call t_Law_perform [.ref 15, .ref 9, .int (zi o), .int (zi c)] M none M' ∧ (∀ a, ¬ a = 17 → ¬ a = 21 → ¬ a = 23 → M' a = M a) ∧
      (∀ j, 0 ≤ j → iv M' 17 j = if j = c then (if pt b o 0 = 0 then pt b o 1 else if pt b o 0 = 2 then 0 else if pt b o 0 = 3 then pt b o 2 else iv M 17 j) else iv M 17 j) ∧
      (∀ j, 0 ≤ j → iv M' 21 j = if j = c ∧ pt b o 0 < 2 then pt b o 5 else iv M 21 j) ∧
      (∀ j k, 0 ≤ j → 0 ≤ k → k < 6 → iv M' 23 (j * 6 + k) = if j = c then (if pt b o 0 < 2 then (if k < pt b o 5 then wd b L o k else iv M 23 (j * 6 + k)) else if pt b o 0 = 4 ∧ k < iv M 21 c ∧ iv M 23 (j * 6 + k) = pt b o 2 then pt b o 3 else iv M 23 (j * 6 + k)) else iv M 23 (j * 6 + k)) := by
  obtain ⟨q0, q1, q2, q3, q4, q5, q6, q7⟩ := co
  have wk := wo.kd
  have wc := wo.cd
  have ws := wo.sc
  have wf := wo.fs
  have ln := wo.ln
  suffices h : am_x t_Law_perform (0, am_ent (am_mL t_Law_perform) [.ref 15, .ref 9, .int (zi o), .int (zi c)], [], M) (fun r M' => r = none ∧ (∀ a, ¬ a = 17 → ¬ a = 21 → ¬ a = 23 → M' a = M a) ∧
      (∀ j, 0 ≤ j → iv M' 17 j = if j = c then (if pt b o 0 = 0 then pt b o 1 else if pt b o 0 = 2 then 0 else if pt b o 0 = 3 then pt b o 2 else iv M 17 j) else iv M 17 j) ∧
      (∀ j, 0 ≤ j → iv M' 21 j = if j = c ∧ pt b o 0 < 2 then pt b o 5 else iv M 21 j) ∧
      (∀ j k, 0 ≤ j → 0 ≤ k → k < 6 → iv M' 23 (j * 6 + k) = if j = c then (if pt b o 0 < 2 then (if k < pt b o 5 then wd b L o k else iv M 23 (j * 6 + k)) else if pt b o 0 = 4 ∧ k < iv M 21 c ∧ iv M 23 (j * 6 + k) = pt b o 2 then pt b o 3 else iv M 23 (j * 6 + k)) else iv M 23 (j * 6 + k))) by
    obtain ⟨r, M', h1, h2, h3⟩ := am_call_ex (by exact ⟨Nat.le_of_ble_eq_true rfl, rfl⟩) h
    subst h2
    exact ⟨M', h1, h3⟩
  /- a new text -/
  have text : ∀ S : am_M, pt b o 0 < 2 → (∀ a, ¬ a = 17 → S a = M a) → ∀ j k, 0 ≤ j → 0 ≤ k → k < 6 → iv (zcp (zup S 21 c (pt b o 5)) 33 23 0 (c * 6) (pt b o 5)) 23 (j * 6 + k) = if j = c then (if pt b o 0 < 2 then (if k < pt b o 5 then wd b L o k else iv M 23 (j * 6 + k)) else if pt b o 0 = 4 ∧ k < iv M 21 c ∧ iv M 23 (j * 6 + k) = pt b o 2 then pt b o 3 else iv M 23 (j * 6 + k)) else iv M 23 (j * 6 + k) := by
    intro S kd hS j k j0 k0 k1
    rw [iv_zcp _ _ _ _ (by omega) (by omega) ln.1 (by omega), ivr _ (by decide), ivr _ (by decide), iv_row (hS 33 (by decide)), iv_row (hS 23 (by decide)), if_pos kd]
    by_cases z : j = c
    · rw [if_pos z]
      by_cases y : k < pt b o 5
      · rw [if_pos (c := 23 = 23 ∧ _) ⟨rfl, by omega, by omega⟩, if_pos y, show 0 + (j * 6 + k - c * 6) = k by omega]
        exact hw k k0 y
      · rw [if_neg (c := 23 = 23 ∧ _) (fun u => by omega), if_neg y]
    · rw [if_neg z, if_neg (c := 23 = 23 ∧ _) (fun u => by omega)]
  have mid : ∀ S : am_M, ∀ a, ¬ a = 21 → ¬ a = 23 → zcp (zup S 21 c (pt b o 5)) 33 23 0 (c * 6) (pt b o 5) a = S a := fun S a a1 a2 => by rw [iv_zcp_r _ a2, zupr _ a1]
  have mlen : ∀ S : am_M, (∀ a, ¬ a = 17 → S a = M a) → ∀ j, 0 ≤ j → iv (zcp (zup S 21 c (pt b o 5)) 33 23 0 (c * 6) (pt b o 5)) 21 j = if j = c then pt b o 5 else iv M 21 j := fun S hS j hj => by
    rw [iv_row (iv_zcp_r _ (by decide)), ivs _ _ c0 hj ⟨by omega, by omega⟩, iv_row (hS 21 (by decide))]
  refine vc_l15_perform o c M _ ?_
  rw [q0, q1, q5, q2, q3]
  refine ⟨⟨g0, g1, by omega, by omega⟩, fun k0 => ⟨⟨g0, g1, by omega, by omega⟩, ⟨c0, c1⟩, fun M1 e1 => ⟨⟨g0, g1, by omega, by omega⟩, ?_⟩⟩, fun k1 => ⟨⟨g0, g1, by omega, by omega⟩, ?_⟩, fun k2 => ⟨⟨c0, c1⟩, fun M4 e4 => ⟨rfl, fun a a1 a2 a3 => by rw [e4, zupr _ a1], fun j hj => ?_, fun j hj => ?_, fun j k j0 k0' k1' => ?_⟩⟩, fun k3 => ⟨⟨g0, g1, by omega, by omega⟩, ⟨c0, c1⟩, fun M5 e5 => ⟨rfl, fun a a1 a2 a3 => by rw [e5, zupr _ a1], fun j hj => ?_, fun j hj => ?_, fun j k j0 k0' k1' => ?_⟩⟩, fun n0 n1 n2 n3 => ⟨⟨g0, g1, by omega, by omega⟩, ⟨g0, g1, by omega, by omega⟩, ?_⟩⟩
  · have hS : ∀ a, ¬ a = 17 → M1 a = M a := fun a ha => by rw [e1, zupr _ ha]
    rw [iv_row (hS 11 (by decide)), q5]
    refine ⟨_, sp_l15_setText M1 c (pt b o 5) c0 c1 ln.1 ln.2, rfl, fun a a1 a2 a3 => by rw [mid M1 a a2 a3, hS a a1], fun j hj => ?_, fun j hj => ?_, text M1 (by omega) hS⟩
    · rw [iv_row (mid M1 17 (by decide) (by decide)), e1, ivs _ _ c0 hj ⟨by omega, by omega⟩, if_pos k0]
    · rw [mlen M1 hS j hj]
      by_cases z : j = c
      · rw [if_pos z, if_pos ⟨z, by omega⟩]
      · rw [if_neg z, if_neg (fun y => z y.1)]
  · refine ⟨_, sp_l15_setText M c (pt b o 5) c0 c1 ln.1 ln.2, rfl, fun a a1 a2 a3 => mid M a a2 a3, fun j hj => ?_, fun j hj => ?_, text M (by omega) (fun _ _ => rfl)⟩
    · rw [iv_row (mid M 17 (by decide) (by decide)), if_neg (c := pt b o 0 = 0) (by omega), if_neg (c := pt b o 0 = 2) (by omega), if_neg (c := pt b o 0 = 3) (by omega)]
      split <;> rfl
    · rw [mlen M (fun _ _ => rfl) j hj]
      by_cases z : j = c
      · rw [if_pos z, if_pos ⟨z, by omega⟩]
      · rw [if_neg z, if_neg (fun y => z y.1)]
  · rw [e4, ivs _ _ c0 hj (by decide), if_neg (c := pt b o 0 = 0) (by omega), if_pos k2]
  · rw [e4, ivr _ (by decide), if_neg (by omega)]
  · rw [e4, ivr _ (by decide), if_neg (c := pt b o 0 < 2) (by omega), if_neg (c := pt b o 0 = 4 ∧ _) (fun y => by have := y.1; omega)]
    split <;> rfl
  · rw [if_pos (by omega)] at e5
    rw [e5, ivs _ _ c0 hj ⟨by omega, by omega⟩, if_neg (c := pt b o 0 = 0) (by omega), if_neg (c := pt b o 0 = 2) (by omega), if_pos k3]
  · rw [e5, ivr _ (by decide), if_neg (by omega)]
  · rw [e5, ivr _ (by decide), if_neg (c := pt b o 0 < 2) (by omega), if_neg (c := pt b o 0 = 4 ∧ _) (fun y => by have := y.1; omega)]
    split <;> rfl
  · have k4 : pt b o 0 = 4 := by omega
    rw [if_pos (by omega), if_pos k4]
    obtain ⟨M6, h6, s1, s2⟩ := sp_l15_change M c (pt b o 2) (pt b o 3) c0 c1 (hl k4).1 (hl k4).2 ⟨by omega, by omega⟩ ⟨by omega, by omega⟩
    refine ⟨M6, h6, rfl, fun a a1 a2 a3 => s1 a a3, fun j hj => ?_, fun j hj => ?_, fun j k j0 k0 k1 => ?_⟩
    · rw [iv_row (s1 17 (by decide)), if_neg (c := pt b o 0 = 0) (by omega), if_neg (c := pt b o 0 = 2) (by omega), if_neg (c := pt b o 0 = 3) (by omega)]
      split <;> rfl
    · rw [iv_row (s1 21 (by decide)), if_neg (by omega)]
    · have hl' := (hl k4).2
      rw [s2 _ (by omega), if_neg (c := pt b o 0 < 2) (by omega)]
      by_cases z : j = c
      · rw [if_pos z]
        by_cases y : pt b o 0 = 4 ∧ k < iv M 21 c ∧ iv M 23 (j * 6 + k) = pt b o 2
        · rw [if_pos y, if_pos ⟨by omega, by omega, y.2.2⟩]
        · rw [if_neg y, if_neg (fun u => y ⟨k4, by omega, u.2.2⟩)]
      · have nr : ¬ (c * 6 ≤ j * 6 + k ∧ j * 6 + k < c * 6 + 6) := by omega
        rw [if_neg z, if_neg (fun y => nr ⟨y.1, by have := y.2.1; omega⟩)]
