/-! out of the proof of whole: leaves -/
def zfl (M : am_M) (a n : Nat) (v : Int) : am_M := fun b j => if b = a ∧ j < n then zi v else M b j
theorem iv_zfl (M : am_M) (a n : Nat) {v : Int} (b : Nat) {j : Int} (hj : 0 ≤ j) (hv : zr v) : iv (zfl M a n v) b j = if b = a ∧ j < n then v else iv M b j := by
  unfold iv zfl
  by_cases h : b = a ∧ j < n
  · rw [if_pos ⟨h.1, by omega⟩, if_pos h, zi_toInt hv]
  · rw [if_neg (by rintro ⟨h1, h2⟩; exact h ⟨h1, by omega⟩), if_neg h]
def zi2c (a : Int) : Int := (((zi a).toUInt32 % 65536).toInt32).toInt
set_option maxRecDepth 100000 in
theorem vc_get_5 (i : Int) (M : am_M) (Q : Option Value → am_M → Prop) (hv : zr i ∧ ((i < 0 → Q (some (.int (zi 0))) M) ∧ (0 ≤ i → (i < 520 → (0 ≤ i ∧ i < 520) ∧ (Q (some (.int (zi (iv M 6 i)))) M)) ∧ (520 ≤ i → Q (some (.int (zi 0))) M)))) : am_x t_Row_get (0, am_ent (am_mL t_Row_get) [.ref 5, .int (zi i)], [], M) Q := by
  refine am_xn 0 (c1 := (0, [.ref 5, .int (zi i)], [], M)) rfl ?_
  obtain ⟨r1, hv⟩ := hv
  refine am_xn 2 (c1 := (if zi i < zi 0 then 22 else 4, [.ref 5, .int (zi i)], [], M)) rfl (am_xlt r1 (by decide) (fun h => ?_) (fun h => ?_))
  · replace hv := hv.1 h
    refine am_xn 1 (c1 := (23, [.ref 5, .int (zi i)], [.int (zi 0)], M)) rfl ?_
    exact am_xr (some (.int (zi 0))) ⟨rfl, rfl, .int, rfl, rfl⟩ hv
  · replace hv := hv.2 h
    refine am_xn 5 (c1 := (if zi i < zi 520 then 13 else 22, [.ref 5, .int (zi i)], [], M)) rfl (am_xlt r1 (by decide) (fun h => ?_) (fun h => ?_))
    · replace hv := hv.1 h
      obtain ⟨r2, hv⟩ := hv
      refine am_xn 3 (c1 := (18, [.ref 5, .int (zi i)], [.int (zi i), .ref 6], M)) rfl ?_
      refine am_xald rfl rfl rfl r2 ?_
      refine am_xn 0 (c1 := (19, [.ref 5, .int (zi i)], [.int (zi (iv M 6 i))], M)) rfl ?_
      refine am_xn 1 (c1 := (23, [.ref 5, .int (zi i)], [.int (zi (iv M 6 i))], M)) rfl ?_
      exact am_xr (some (.int (zi (iv M 6 i)))) ⟨rfl, rfl, .int, rfl, rfl⟩ hv
    · replace hv := hv.2 h
      refine am_xn 1 (c1 := (23, [.ref 5, .int (zi i)], [.int (zi 0)], M)) rfl ?_
      exact am_xr (some (.int (zi 0))) ⟨rfl, rfl, .int, rfl, rfl⟩ hv
theorem sp_get_5 (M : am_M) (i : Int) (g : 0 ≤ i ∧ i < 520) : am_call t_Row_get [.ref 5, .int (zi i)] M (some (.int (zi (iv M 6 i)))) M := by
  refine am_call_of ⟨Nat.le_of_ble_eq_true rfl, rfl⟩ (vc_get_5 i M _ ?_)
  (repeat' (first | apply And.intro | intro _)) <;> (first | rfl | omega | (split <;> (first | rfl | omega)))
set_option maxRecDepth 100000 in
theorem vc_set_5 (i : Int) (v : Int) (M : am_M) (Q : Option Value → am_M → Prop) (hv : zr i ∧ ((i < 0 → Q none M) ∧ (0 ≤ i → (i < 520 → (0 ≤ i ∧ i < 520) ∧ (∀ M2, M2 = zup M 6 i v → Q none M2)) ∧ (520 ≤ i → Q none M)))) : am_x t_Row_set (0, am_ent (am_mL t_Row_set) [.ref 5, .int (zi i), .int (zi v)], [], M) Q := by
  refine am_xn 0 (c1 := (0, [.ref 5, .int (zi i), .int (zi v)], [], M)) rfl ?_
  obtain ⟨r1, hv⟩ := hv
  refine am_xn 2 (c1 := (if zi i < zi 0 then 20 else 4, [.ref 5, .int (zi i), .int (zi v)], [], M)) rfl (am_xlt r1 (by decide) (fun h => ?_) (fun h => ?_))
  · replace hv := hv.1 h
    exact am_xr none ⟨rfl, rfl, rfl⟩ hv
  · replace hv := hv.2 h
    refine am_xn 5 (c1 := (if zi i < zi 520 then 13 else 20, [.ref 5, .int (zi i), .int (zi v)], [], M)) rfl (am_xlt r1 (by decide) (fun h => ?_) (fun h => ?_))
    · replace hv := hv.1 h
      obtain ⟨r3, hv⟩ := hv
      refine am_xn 4 (c1 := (19, [.ref 5, .int (zi i), .int (zi v)], [.int (zi v), .int (zi i), .ref 6], M)) rfl ?_
      refine am_xast rfl rfl rfl r3 ?_
      refine am_xn 0 (c1 := (20, [.ref 5, .int (zi i), .int (zi v)], [], zup M 6 i v)) rfl ?_
      obtain ⟨M2, eM2⟩ : ∃ m, m = zup M 6 i v := ⟨_, rfl⟩
      replace hv := hv M2 eM2
      rw [← eM2]
      exact am_xr none ⟨rfl, rfl, rfl⟩ hv
    · replace hv := hv.2 h
      exact am_xr none ⟨rfl, rfl, rfl⟩ hv
theorem sp_set_5 (M : am_M) (i : Int) (v : Int) (g : 0 ≤ i ∧ i < 520) : am_call t_Row_set [.ref 5, .int (zi i), .int (zi v)] M (none) (zup M 6 i v) := by
  refine am_call_of ⟨Nat.le_of_ble_eq_true rfl, rfl⟩ (vc_set_5 i v M _ ?_)
  have := g.1
  (repeat' (first | apply And.intro | intro _)) <;> (first | rfl | omega | (split <;> (first | rfl | omega)))
set_option maxRecDepth 100000 in
theorem vc_get_10 (i : Int) (M : am_M) (Q : Option Value → am_M → Prop) (hv : zr i ∧ ((i < 0 → Q (some (.int (zi 0))) M) ∧ (0 ≤ i → (i < 1605 → (0 ≤ i ∧ i < 1605) ∧ (Q (some (.int (zi (iv M 11 i)))) M)) ∧ (1605 ≤ i → Q (some (.int (zi 0))) M)))) : am_x t_Row_get (0, am_ent (am_mL t_Row_get) [.ref 10, .int (zi i)], [], M) Q := by
  refine am_xn 0 (c1 := (0, [.ref 10, .int (zi i)], [], M)) rfl ?_
  obtain ⟨r1, hv⟩ := hv
  refine am_xn 2 (c1 := (if zi i < zi 0 then 22 else 4, [.ref 10, .int (zi i)], [], M)) rfl (am_xlt r1 (by decide) (fun h => ?_) (fun h => ?_))
  · replace hv := hv.1 h
    refine am_xn 1 (c1 := (23, [.ref 10, .int (zi i)], [.int (zi 0)], M)) rfl ?_
    exact am_xr (some (.int (zi 0))) ⟨rfl, rfl, .int, rfl, rfl⟩ hv
  · replace hv := hv.2 h
    refine am_xn 5 (c1 := (if zi i < zi 1605 then 13 else 22, [.ref 10, .int (zi i)], [], M)) rfl (am_xlt r1 (by decide) (fun h => ?_) (fun h => ?_))
    · replace hv := hv.1 h
      obtain ⟨r2, hv⟩ := hv
      refine am_xn 3 (c1 := (18, [.ref 10, .int (zi i)], [.int (zi i), .ref 11], M)) rfl ?_
      refine am_xald rfl rfl rfl r2 ?_
      refine am_xn 0 (c1 := (19, [.ref 10, .int (zi i)], [.int (zi (iv M 11 i))], M)) rfl ?_
      refine am_xn 1 (c1 := (23, [.ref 10, .int (zi i)], [.int (zi (iv M 11 i))], M)) rfl ?_
      exact am_xr (some (.int (zi (iv M 11 i)))) ⟨rfl, rfl, .int, rfl, rfl⟩ hv
    · replace hv := hv.2 h
      refine am_xn 1 (c1 := (23, [.ref 10, .int (zi i)], [.int (zi 0)], M)) rfl ?_
      exact am_xr (some (.int (zi 0))) ⟨rfl, rfl, .int, rfl, rfl⟩ hv
theorem sp_get_10 (M : am_M) (i : Int) (g : 0 ≤ i ∧ i < 1605) : am_call t_Row_get [.ref 10, .int (zi i)] M (some (.int (zi (iv M 11 i)))) M := by
  refine am_call_of ⟨Nat.le_of_ble_eq_true rfl, rfl⟩ (vc_get_10 i M _ ?_)
  (repeat' (first | apply And.intro | intro _)) <;> (first | rfl | omega | (split <;> (first | rfl | omega)))
set_option maxRecDepth 100000 in
theorem vc_set_10 (i : Int) (v : Int) (M : am_M) (Q : Option Value → am_M → Prop) (hv : zr i ∧ ((i < 0 → Q none M) ∧ (0 ≤ i → (i < 1605 → (0 ≤ i ∧ i < 1605) ∧ (∀ M2, M2 = zup M 11 i v → Q none M2)) ∧ (1605 ≤ i → Q none M)))) : am_x t_Row_set (0, am_ent (am_mL t_Row_set) [.ref 10, .int (zi i), .int (zi v)], [], M) Q := by
  refine am_xn 0 (c1 := (0, [.ref 10, .int (zi i), .int (zi v)], [], M)) rfl ?_
  obtain ⟨r1, hv⟩ := hv
  refine am_xn 2 (c1 := (if zi i < zi 0 then 20 else 4, [.ref 10, .int (zi i), .int (zi v)], [], M)) rfl (am_xlt r1 (by decide) (fun h => ?_) (fun h => ?_))
  · replace hv := hv.1 h
    exact am_xr none ⟨rfl, rfl, rfl⟩ hv
  · replace hv := hv.2 h
    refine am_xn 5 (c1 := (if zi i < zi 1605 then 13 else 20, [.ref 10, .int (zi i), .int (zi v)], [], M)) rfl (am_xlt r1 (by decide) (fun h => ?_) (fun h => ?_))
    · replace hv := hv.1 h
      obtain ⟨r3, hv⟩ := hv
      refine am_xn 4 (c1 := (19, [.ref 10, .int (zi i), .int (zi v)], [.int (zi v), .int (zi i), .ref 11], M)) rfl ?_
      refine am_xast rfl rfl rfl r3 ?_
      refine am_xn 0 (c1 := (20, [.ref 10, .int (zi i), .int (zi v)], [], zup M 11 i v)) rfl ?_
      obtain ⟨M2, eM2⟩ : ∃ m, m = zup M 11 i v := ⟨_, rfl⟩
      replace hv := hv M2 eM2
      rw [← eM2]
      exact am_xr none ⟨rfl, rfl, rfl⟩ hv
    · replace hv := hv.2 h
      exact am_xr none ⟨rfl, rfl, rfl⟩ hv
theorem sp_set_10 (M : am_M) (i : Int) (v : Int) (g : 0 ≤ i ∧ i < 1605) : am_call t_Row_set [.ref 10, .int (zi i), .int (zi v)] M (none) (zup M 11 i v) := by
  refine am_call_of ⟨Nat.le_of_ble_eq_true rfl, rfl⟩ (vc_set_10 i v M _ ?_)
  have := g.1
  (repeat' (first | apply And.intro | intro _)) <;> (first | rfl | omega | (split <;> (first | rfl | omega)))
set_option maxRecDepth 100000 in
theorem vc_get_16 (i : Int) (M : am_M) (Q : Option Value → am_M → Prop) (hv : zr i ∧ ((i < 0 → Q (some (.int (zi 0))) M) ∧ (0 ≤ i → (i < 40 → (0 ≤ i ∧ i < 40) ∧ (Q (some (.int (zi (iv M 17 i)))) M)) ∧ (40 ≤ i → Q (some (.int (zi 0))) M)))) : am_x t_Row_get (0, am_ent (am_mL t_Row_get) [.ref 16, .int (zi i)], [], M) Q := by
  refine am_xn 0 (c1 := (0, [.ref 16, .int (zi i)], [], M)) rfl ?_
  obtain ⟨r1, hv⟩ := hv
  refine am_xn 2 (c1 := (if zi i < zi 0 then 22 else 4, [.ref 16, .int (zi i)], [], M)) rfl (am_xlt r1 (by decide) (fun h => ?_) (fun h => ?_))
  · replace hv := hv.1 h
    refine am_xn 1 (c1 := (23, [.ref 16, .int (zi i)], [.int (zi 0)], M)) rfl ?_
    exact am_xr (some (.int (zi 0))) ⟨rfl, rfl, .int, rfl, rfl⟩ hv
  · replace hv := hv.2 h
    refine am_xn 5 (c1 := (if zi i < zi 40 then 13 else 22, [.ref 16, .int (zi i)], [], M)) rfl (am_xlt r1 (by decide) (fun h => ?_) (fun h => ?_))
    · replace hv := hv.1 h
      obtain ⟨r2, hv⟩ := hv
      refine am_xn 3 (c1 := (18, [.ref 16, .int (zi i)], [.int (zi i), .ref 17], M)) rfl ?_
      refine am_xald rfl rfl rfl r2 ?_
      refine am_xn 0 (c1 := (19, [.ref 16, .int (zi i)], [.int (zi (iv M 17 i))], M)) rfl ?_
      refine am_xn 1 (c1 := (23, [.ref 16, .int (zi i)], [.int (zi (iv M 17 i))], M)) rfl ?_
      exact am_xr (some (.int (zi (iv M 17 i)))) ⟨rfl, rfl, .int, rfl, rfl⟩ hv
    · replace hv := hv.2 h
      refine am_xn 1 (c1 := (23, [.ref 16, .int (zi i)], [.int (zi 0)], M)) rfl ?_
      exact am_xr (some (.int (zi 0))) ⟨rfl, rfl, .int, rfl, rfl⟩ hv
theorem sp_get_16 (M : am_M) (i : Int) (g : 0 ≤ i ∧ i < 40) : am_call t_Row_get [.ref 16, .int (zi i)] M (some (.int (zi (iv M 17 i)))) M := by
  refine am_call_of ⟨Nat.le_of_ble_eq_true rfl, rfl⟩ (vc_get_16 i M _ ?_)
  (repeat' (first | apply And.intro | intro _)) <;> (first | rfl | omega | (split <;> (first | rfl | omega)))
set_option maxRecDepth 100000 in
theorem vc_set_16 (i : Int) (v : Int) (M : am_M) (Q : Option Value → am_M → Prop) (hv : zr i ∧ ((i < 0 → Q none M) ∧ (0 ≤ i → (i < 40 → (0 ≤ i ∧ i < 40) ∧ (∀ M2, M2 = zup M 17 i v → Q none M2)) ∧ (40 ≤ i → Q none M)))) : am_x t_Row_set (0, am_ent (am_mL t_Row_set) [.ref 16, .int (zi i), .int (zi v)], [], M) Q := by
  refine am_xn 0 (c1 := (0, [.ref 16, .int (zi i), .int (zi v)], [], M)) rfl ?_
  obtain ⟨r1, hv⟩ := hv
  refine am_xn 2 (c1 := (if zi i < zi 0 then 20 else 4, [.ref 16, .int (zi i), .int (zi v)], [], M)) rfl (am_xlt r1 (by decide) (fun h => ?_) (fun h => ?_))
  · replace hv := hv.1 h
    exact am_xr none ⟨rfl, rfl, rfl⟩ hv
  · replace hv := hv.2 h
    refine am_xn 5 (c1 := (if zi i < zi 40 then 13 else 20, [.ref 16, .int (zi i), .int (zi v)], [], M)) rfl (am_xlt r1 (by decide) (fun h => ?_) (fun h => ?_))
    · replace hv := hv.1 h
      obtain ⟨r3, hv⟩ := hv
      refine am_xn 4 (c1 := (19, [.ref 16, .int (zi i), .int (zi v)], [.int (zi v), .int (zi i), .ref 17], M)) rfl ?_
      refine am_xast rfl rfl rfl r3 ?_
      refine am_xn 0 (c1 := (20, [.ref 16, .int (zi i), .int (zi v)], [], zup M 17 i v)) rfl ?_
      obtain ⟨M2, eM2⟩ : ∃ m, m = zup M 17 i v := ⟨_, rfl⟩
      replace hv := hv M2 eM2
      rw [← eM2]
      exact am_xr none ⟨rfl, rfl, rfl⟩ hv
    · replace hv := hv.2 h
      exact am_xr none ⟨rfl, rfl, rfl⟩ hv
theorem sp_set_16 (M : am_M) (i : Int) (v : Int) (g : 0 ≤ i ∧ i < 40) : am_call t_Row_set [.ref 16, .int (zi i), .int (zi v)] M (none) (zup M 17 i v) := by
  refine am_call_of ⟨Nat.le_of_ble_eq_true rfl, rfl⟩ (vc_set_16 i v M _ ?_)
  have := g.1
  (repeat' (first | apply And.intro | intro _)) <;> (first | rfl | omega | (split <;> (first | rfl | omega)))
set_option maxRecDepth 100000 in
theorem vc_get_18 (i : Int) (M : am_M) (Q : Option Value → am_M → Prop) (hv : zr i ∧ ((i < 0 → Q (some (.int (zi 0))) M) ∧ (0 ≤ i → (i < 40 → (0 ≤ i ∧ i < 40) ∧ (Q (some (.int (zi (iv M 19 i)))) M)) ∧ (40 ≤ i → Q (some (.int (zi 0))) M)))) : am_x t_Row_get (0, am_ent (am_mL t_Row_get) [.ref 18, .int (zi i)], [], M) Q := by
  refine am_xn 0 (c1 := (0, [.ref 18, .int (zi i)], [], M)) rfl ?_
  obtain ⟨r1, hv⟩ := hv
  refine am_xn 2 (c1 := (if zi i < zi 0 then 22 else 4, [.ref 18, .int (zi i)], [], M)) rfl (am_xlt r1 (by decide) (fun h => ?_) (fun h => ?_))
  · replace hv := hv.1 h
    refine am_xn 1 (c1 := (23, [.ref 18, .int (zi i)], [.int (zi 0)], M)) rfl ?_
    exact am_xr (some (.int (zi 0))) ⟨rfl, rfl, .int, rfl, rfl⟩ hv
  · replace hv := hv.2 h
    refine am_xn 5 (c1 := (if zi i < zi 40 then 13 else 22, [.ref 18, .int (zi i)], [], M)) rfl (am_xlt r1 (by decide) (fun h => ?_) (fun h => ?_))
    · replace hv := hv.1 h
      obtain ⟨r2, hv⟩ := hv
      refine am_xn 3 (c1 := (18, [.ref 18, .int (zi i)], [.int (zi i), .ref 19], M)) rfl ?_
      refine am_xald rfl rfl rfl r2 ?_
      refine am_xn 0 (c1 := (19, [.ref 18, .int (zi i)], [.int (zi (iv M 19 i))], M)) rfl ?_
      refine am_xn 1 (c1 := (23, [.ref 18, .int (zi i)], [.int (zi (iv M 19 i))], M)) rfl ?_
      exact am_xr (some (.int (zi (iv M 19 i)))) ⟨rfl, rfl, .int, rfl, rfl⟩ hv
    · replace hv := hv.2 h
      refine am_xn 1 (c1 := (23, [.ref 18, .int (zi i)], [.int (zi 0)], M)) rfl ?_
      exact am_xr (some (.int (zi 0))) ⟨rfl, rfl, .int, rfl, rfl⟩ hv
theorem sp_get_18 (M : am_M) (i : Int) (g : 0 ≤ i ∧ i < 40) : am_call t_Row_get [.ref 18, .int (zi i)] M (some (.int (zi (iv M 19 i)))) M := by
  refine am_call_of ⟨Nat.le_of_ble_eq_true rfl, rfl⟩ (vc_get_18 i M _ ?_)
  (repeat' (first | apply And.intro | intro _)) <;> (first | rfl | omega | (split <;> (first | rfl | omega)))
set_option maxRecDepth 100000 in
theorem vc_set_18 (i : Int) (v : Int) (M : am_M) (Q : Option Value → am_M → Prop) (hv : zr i ∧ ((i < 0 → Q none M) ∧ (0 ≤ i → (i < 40 → (0 ≤ i ∧ i < 40) ∧ (∀ M2, M2 = zup M 19 i v → Q none M2)) ∧ (40 ≤ i → Q none M)))) : am_x t_Row_set (0, am_ent (am_mL t_Row_set) [.ref 18, .int (zi i), .int (zi v)], [], M) Q := by
  refine am_xn 0 (c1 := (0, [.ref 18, .int (zi i), .int (zi v)], [], M)) rfl ?_
  obtain ⟨r1, hv⟩ := hv
  refine am_xn 2 (c1 := (if zi i < zi 0 then 20 else 4, [.ref 18, .int (zi i), .int (zi v)], [], M)) rfl (am_xlt r1 (by decide) (fun h => ?_) (fun h => ?_))
  · replace hv := hv.1 h
    exact am_xr none ⟨rfl, rfl, rfl⟩ hv
  · replace hv := hv.2 h
    refine am_xn 5 (c1 := (if zi i < zi 40 then 13 else 20, [.ref 18, .int (zi i), .int (zi v)], [], M)) rfl (am_xlt r1 (by decide) (fun h => ?_) (fun h => ?_))
    · replace hv := hv.1 h
      obtain ⟨r3, hv⟩ := hv
      refine am_xn 4 (c1 := (19, [.ref 18, .int (zi i), .int (zi v)], [.int (zi v), .int (zi i), .ref 19], M)) rfl ?_
      refine am_xast rfl rfl rfl r3 ?_
      refine am_xn 0 (c1 := (20, [.ref 18, .int (zi i), .int (zi v)], [], zup M 19 i v)) rfl ?_
      obtain ⟨M2, eM2⟩ : ∃ m, m = zup M 19 i v := ⟨_, rfl⟩
      replace hv := hv M2 eM2
      rw [← eM2]
      exact am_xr none ⟨rfl, rfl, rfl⟩ hv
    · replace hv := hv.2 h
      exact am_xr none ⟨rfl, rfl, rfl⟩ hv
theorem sp_set_18 (M : am_M) (i : Int) (v : Int) (g : 0 ≤ i ∧ i < 40) : am_call t_Row_set [.ref 18, .int (zi i), .int (zi v)] M (none) (zup M 19 i v) := by
  refine am_call_of ⟨Nat.le_of_ble_eq_true rfl, rfl⟩ (vc_set_18 i v M _ ?_)
  have := g.1
  (repeat' (first | apply And.intro | intro _)) <;> (first | rfl | omega | (split <;> (first | rfl | omega)))
set_option maxRecDepth 100000 in
theorem vc_get_20 (i : Int) (M : am_M) (Q : Option Value → am_M → Prop) (hv : zr i ∧ ((i < 0 → Q (some (.int (zi 0))) M) ∧ (0 ≤ i → (i < 40 → (0 ≤ i ∧ i < 40) ∧ (Q (some (.int (zi (iv M 21 i)))) M)) ∧ (40 ≤ i → Q (some (.int (zi 0))) M)))) : am_x t_Row_get (0, am_ent (am_mL t_Row_get) [.ref 20, .int (zi i)], [], M) Q := by
  refine am_xn 0 (c1 := (0, [.ref 20, .int (zi i)], [], M)) rfl ?_
  obtain ⟨r1, hv⟩ := hv
  refine am_xn 2 (c1 := (if zi i < zi 0 then 22 else 4, [.ref 20, .int (zi i)], [], M)) rfl (am_xlt r1 (by decide) (fun h => ?_) (fun h => ?_))
  · replace hv := hv.1 h
    refine am_xn 1 (c1 := (23, [.ref 20, .int (zi i)], [.int (zi 0)], M)) rfl ?_
    exact am_xr (some (.int (zi 0))) ⟨rfl, rfl, .int, rfl, rfl⟩ hv
  · replace hv := hv.2 h
    refine am_xn 5 (c1 := (if zi i < zi 40 then 13 else 22, [.ref 20, .int (zi i)], [], M)) rfl (am_xlt r1 (by decide) (fun h => ?_) (fun h => ?_))
    · replace hv := hv.1 h
      obtain ⟨r2, hv⟩ := hv
      refine am_xn 3 (c1 := (18, [.ref 20, .int (zi i)], [.int (zi i), .ref 21], M)) rfl ?_
      refine am_xald rfl rfl rfl r2 ?_
      refine am_xn 0 (c1 := (19, [.ref 20, .int (zi i)], [.int (zi (iv M 21 i))], M)) rfl ?_
      refine am_xn 1 (c1 := (23, [.ref 20, .int (zi i)], [.int (zi (iv M 21 i))], M)) rfl ?_
      exact am_xr (some (.int (zi (iv M 21 i)))) ⟨rfl, rfl, .int, rfl, rfl⟩ hv
    · replace hv := hv.2 h
      refine am_xn 1 (c1 := (23, [.ref 20, .int (zi i)], [.int (zi 0)], M)) rfl ?_
      exact am_xr (some (.int (zi 0))) ⟨rfl, rfl, .int, rfl, rfl⟩ hv
theorem sp_get_20 (M : am_M) (i : Int) (g : 0 ≤ i ∧ i < 40) : am_call t_Row_get [.ref 20, .int (zi i)] M (some (.int (zi (iv M 21 i)))) M := by
  refine am_call_of ⟨Nat.le_of_ble_eq_true rfl, rfl⟩ (vc_get_20 i M _ ?_)
  (repeat' (first | apply And.intro | intro _)) <;> (first | rfl | omega | (split <;> (first | rfl | omega)))
set_option maxRecDepth 100000 in
theorem vc_set_20 (i : Int) (v : Int) (M : am_M) (Q : Option Value → am_M → Prop) (hv : zr i ∧ ((i < 0 → Q none M) ∧ (0 ≤ i → (i < 40 → (0 ≤ i ∧ i < 40) ∧ (∀ M2, M2 = zup M 21 i v → Q none M2)) ∧ (40 ≤ i → Q none M)))) : am_x t_Row_set (0, am_ent (am_mL t_Row_set) [.ref 20, .int (zi i), .int (zi v)], [], M) Q := by
  refine am_xn 0 (c1 := (0, [.ref 20, .int (zi i), .int (zi v)], [], M)) rfl ?_
  obtain ⟨r1, hv⟩ := hv
  refine am_xn 2 (c1 := (if zi i < zi 0 then 20 else 4, [.ref 20, .int (zi i), .int (zi v)], [], M)) rfl (am_xlt r1 (by decide) (fun h => ?_) (fun h => ?_))
  · replace hv := hv.1 h
    exact am_xr none ⟨rfl, rfl, rfl⟩ hv
  · replace hv := hv.2 h
    refine am_xn 5 (c1 := (if zi i < zi 40 then 13 else 20, [.ref 20, .int (zi i), .int (zi v)], [], M)) rfl (am_xlt r1 (by decide) (fun h => ?_) (fun h => ?_))
    · replace hv := hv.1 h
      obtain ⟨r3, hv⟩ := hv
      refine am_xn 4 (c1 := (19, [.ref 20, .int (zi i), .int (zi v)], [.int (zi v), .int (zi i), .ref 21], M)) rfl ?_
      refine am_xast rfl rfl rfl r3 ?_
      refine am_xn 0 (c1 := (20, [.ref 20, .int (zi i), .int (zi v)], [], zup M 21 i v)) rfl ?_
      obtain ⟨M2, eM2⟩ : ∃ m, m = zup M 21 i v := ⟨_, rfl⟩
      replace hv := hv M2 eM2
      rw [← eM2]
      exact am_xr none ⟨rfl, rfl, rfl⟩ hv
    · replace hv := hv.2 h
      exact am_xr none ⟨rfl, rfl, rfl⟩ hv
theorem sp_set_20 (M : am_M) (i : Int) (v : Int) (g : 0 ≤ i ∧ i < 40) : am_call t_Row_set [.ref 20, .int (zi i), .int (zi v)] M (none) (zup M 21 i v) := by
  refine am_call_of ⟨Nat.le_of_ble_eq_true rfl, rfl⟩ (vc_set_20 i v M _ ?_)
  have := g.1
  (repeat' (first | apply And.intro | intro _)) <;> (first | rfl | omega | (split <;> (first | rfl | omega)))
set_option maxRecDepth 100000 in
theorem vc_get_22 (i : Int) (M : am_M) (Q : Option Value → am_M → Prop) (hv : zr i ∧ ((i < 0 → Q (some (.int (zi 0))) M) ∧ (0 ≤ i → (i < 240 → (0 ≤ i ∧ i < 240) ∧ (Q (some (.int (zi (iv M 23 i)))) M)) ∧ (240 ≤ i → Q (some (.int (zi 0))) M)))) : am_x t_Row_get (0, am_ent (am_mL t_Row_get) [.ref 22, .int (zi i)], [], M) Q := by
  refine am_xn 0 (c1 := (0, [.ref 22, .int (zi i)], [], M)) rfl ?_
  obtain ⟨r1, hv⟩ := hv
  refine am_xn 2 (c1 := (if zi i < zi 0 then 22 else 4, [.ref 22, .int (zi i)], [], M)) rfl (am_xlt r1 (by decide) (fun h => ?_) (fun h => ?_))
  · replace hv := hv.1 h
    refine am_xn 1 (c1 := (23, [.ref 22, .int (zi i)], [.int (zi 0)], M)) rfl ?_
    exact am_xr (some (.int (zi 0))) ⟨rfl, rfl, .int, rfl, rfl⟩ hv
  · replace hv := hv.2 h
    refine am_xn 5 (c1 := (if zi i < zi 240 then 13 else 22, [.ref 22, .int (zi i)], [], M)) rfl (am_xlt r1 (by decide) (fun h => ?_) (fun h => ?_))
    · replace hv := hv.1 h
      obtain ⟨r2, hv⟩ := hv
      refine am_xn 3 (c1 := (18, [.ref 22, .int (zi i)], [.int (zi i), .ref 23], M)) rfl ?_
      refine am_xald rfl rfl rfl r2 ?_
      refine am_xn 0 (c1 := (19, [.ref 22, .int (zi i)], [.int (zi (iv M 23 i))], M)) rfl ?_
      refine am_xn 1 (c1 := (23, [.ref 22, .int (zi i)], [.int (zi (iv M 23 i))], M)) rfl ?_
      exact am_xr (some (.int (zi (iv M 23 i)))) ⟨rfl, rfl, .int, rfl, rfl⟩ hv
    · replace hv := hv.2 h
      refine am_xn 1 (c1 := (23, [.ref 22, .int (zi i)], [.int (zi 0)], M)) rfl ?_
      exact am_xr (some (.int (zi 0))) ⟨rfl, rfl, .int, rfl, rfl⟩ hv
theorem sp_get_22 (M : am_M) (i : Int) (g : 0 ≤ i ∧ i < 240) : am_call t_Row_get [.ref 22, .int (zi i)] M (some (.int (zi (iv M 23 i)))) M := by
  refine am_call_of ⟨Nat.le_of_ble_eq_true rfl, rfl⟩ (vc_get_22 i M _ ?_)
  (repeat' (first | apply And.intro | intro _)) <;> (first | rfl | omega | (split <;> (first | rfl | omega)))
set_option maxRecDepth 100000 in
theorem vc_set_22 (i : Int) (v : Int) (M : am_M) (Q : Option Value → am_M → Prop) (hv : zr i ∧ ((i < 0 → Q none M) ∧ (0 ≤ i → (i < 240 → (0 ≤ i ∧ i < 240) ∧ (∀ M2, M2 = zup M 23 i v → Q none M2)) ∧ (240 ≤ i → Q none M)))) : am_x t_Row_set (0, am_ent (am_mL t_Row_set) [.ref 22, .int (zi i), .int (zi v)], [], M) Q := by
  refine am_xn 0 (c1 := (0, [.ref 22, .int (zi i), .int (zi v)], [], M)) rfl ?_
  obtain ⟨r1, hv⟩ := hv
  refine am_xn 2 (c1 := (if zi i < zi 0 then 20 else 4, [.ref 22, .int (zi i), .int (zi v)], [], M)) rfl (am_xlt r1 (by decide) (fun h => ?_) (fun h => ?_))
  · replace hv := hv.1 h
    exact am_xr none ⟨rfl, rfl, rfl⟩ hv
  · replace hv := hv.2 h
    refine am_xn 5 (c1 := (if zi i < zi 240 then 13 else 20, [.ref 22, .int (zi i), .int (zi v)], [], M)) rfl (am_xlt r1 (by decide) (fun h => ?_) (fun h => ?_))
    · replace hv := hv.1 h
      obtain ⟨r3, hv⟩ := hv
      refine am_xn 4 (c1 := (19, [.ref 22, .int (zi i), .int (zi v)], [.int (zi v), .int (zi i), .ref 23], M)) rfl ?_
      refine am_xast rfl rfl rfl r3 ?_
      refine am_xn 0 (c1 := (20, [.ref 22, .int (zi i), .int (zi v)], [], zup M 23 i v)) rfl ?_
      obtain ⟨M2, eM2⟩ : ∃ m, m = zup M 23 i v := ⟨_, rfl⟩
      replace hv := hv M2 eM2
      rw [← eM2]
      exact am_xr none ⟨rfl, rfl, rfl⟩ hv
    · replace hv := hv.2 h
      exact am_xr none ⟨rfl, rfl, rfl⟩ hv
theorem sp_set_22 (M : am_M) (i : Int) (v : Int) (g : 0 ≤ i ∧ i < 240) : am_call t_Row_set [.ref 22, .int (zi i), .int (zi v)] M (none) (zup M 23 i v) := by
  refine am_call_of ⟨Nat.le_of_ble_eq_true rfl, rfl⟩ (vc_set_22 i v M _ ?_)
  have := g.1
  (repeat' (first | apply And.intro | intro _)) <;> (first | rfl | omega | (split <;> (first | rfl | omega)))
set_option maxRecDepth 100000 in
theorem vc_get_24 (i : Int) (M : am_M) (Q : Option Value → am_M → Prop) (hv : zr i ∧ ((i < 0 → Q (some (.int (zi 0))) M) ∧ (0 ≤ i → (i < 40 → (0 ≤ i ∧ i < 40) ∧ (Q (some (.int (zi (iv M 25 i)))) M)) ∧ (40 ≤ i → Q (some (.int (zi 0))) M)))) : am_x t_Row_get (0, am_ent (am_mL t_Row_get) [.ref 24, .int (zi i)], [], M) Q := by
  refine am_xn 0 (c1 := (0, [.ref 24, .int (zi i)], [], M)) rfl ?_
  obtain ⟨r1, hv⟩ := hv
  refine am_xn 2 (c1 := (if zi i < zi 0 then 22 else 4, [.ref 24, .int (zi i)], [], M)) rfl (am_xlt r1 (by decide) (fun h => ?_) (fun h => ?_))
  · replace hv := hv.1 h
    refine am_xn 1 (c1 := (23, [.ref 24, .int (zi i)], [.int (zi 0)], M)) rfl ?_
    exact am_xr (some (.int (zi 0))) ⟨rfl, rfl, .int, rfl, rfl⟩ hv
  · replace hv := hv.2 h
    refine am_xn 5 (c1 := (if zi i < zi 40 then 13 else 22, [.ref 24, .int (zi i)], [], M)) rfl (am_xlt r1 (by decide) (fun h => ?_) (fun h => ?_))
    · replace hv := hv.1 h
      obtain ⟨r2, hv⟩ := hv
      refine am_xn 3 (c1 := (18, [.ref 24, .int (zi i)], [.int (zi i), .ref 25], M)) rfl ?_
      refine am_xald rfl rfl rfl r2 ?_
      refine am_xn 0 (c1 := (19, [.ref 24, .int (zi i)], [.int (zi (iv M 25 i))], M)) rfl ?_
      refine am_xn 1 (c1 := (23, [.ref 24, .int (zi i)], [.int (zi (iv M 25 i))], M)) rfl ?_
      exact am_xr (some (.int (zi (iv M 25 i)))) ⟨rfl, rfl, .int, rfl, rfl⟩ hv
    · replace hv := hv.2 h
      refine am_xn 1 (c1 := (23, [.ref 24, .int (zi i)], [.int (zi 0)], M)) rfl ?_
      exact am_xr (some (.int (zi 0))) ⟨rfl, rfl, .int, rfl, rfl⟩ hv
theorem sp_get_24 (M : am_M) (i : Int) (g : 0 ≤ i ∧ i < 40) : am_call t_Row_get [.ref 24, .int (zi i)] M (some (.int (zi (iv M 25 i)))) M := by
  refine am_call_of ⟨Nat.le_of_ble_eq_true rfl, rfl⟩ (vc_get_24 i M _ ?_)
  (repeat' (first | apply And.intro | intro _)) <;> (first | rfl | omega | (split <;> (first | rfl | omega)))
set_option maxRecDepth 100000 in
theorem vc_set_24 (i : Int) (v : Int) (M : am_M) (Q : Option Value → am_M → Prop) (hv : zr i ∧ ((i < 0 → Q none M) ∧ (0 ≤ i → (i < 40 → (0 ≤ i ∧ i < 40) ∧ (∀ M2, M2 = zup M 25 i v → Q none M2)) ∧ (40 ≤ i → Q none M)))) : am_x t_Row_set (0, am_ent (am_mL t_Row_set) [.ref 24, .int (zi i), .int (zi v)], [], M) Q := by
  refine am_xn 0 (c1 := (0, [.ref 24, .int (zi i), .int (zi v)], [], M)) rfl ?_
  obtain ⟨r1, hv⟩ := hv
  refine am_xn 2 (c1 := (if zi i < zi 0 then 20 else 4, [.ref 24, .int (zi i), .int (zi v)], [], M)) rfl (am_xlt r1 (by decide) (fun h => ?_) (fun h => ?_))
  · replace hv := hv.1 h
    exact am_xr none ⟨rfl, rfl, rfl⟩ hv
  · replace hv := hv.2 h
    refine am_xn 5 (c1 := (if zi i < zi 40 then 13 else 20, [.ref 24, .int (zi i), .int (zi v)], [], M)) rfl (am_xlt r1 (by decide) (fun h => ?_) (fun h => ?_))
    · replace hv := hv.1 h
      obtain ⟨r3, hv⟩ := hv
      refine am_xn 4 (c1 := (19, [.ref 24, .int (zi i), .int (zi v)], [.int (zi v), .int (zi i), .ref 25], M)) rfl ?_
      refine am_xast rfl rfl rfl r3 ?_
      refine am_xn 0 (c1 := (20, [.ref 24, .int (zi i), .int (zi v)], [], zup M 25 i v)) rfl ?_
      obtain ⟨M2, eM2⟩ : ∃ m, m = zup M 25 i v := ⟨_, rfl⟩
      replace hv := hv M2 eM2
      rw [← eM2]
      exact am_xr none ⟨rfl, rfl, rfl⟩ hv
    · replace hv := hv.2 h
      exact am_xr none ⟨rfl, rfl, rfl⟩ hv
theorem sp_set_24 (M : am_M) (i : Int) (v : Int) (g : 0 ≤ i ∧ i < 40) : am_call t_Row_set [.ref 24, .int (zi i), .int (zi v)] M (none) (zup M 25 i v) := by
  refine am_call_of ⟨Nat.le_of_ble_eq_true rfl, rfl⟩ (vc_set_24 i v M _ ?_)
  have := g.1
  (repeat' (first | apply And.intro | intro _)) <;> (first | rfl | omega | (split <;> (first | rfl | omega)))
set_option maxRecDepth 100000 in
theorem vc_set_26 (i : Int) (v : Int) (M : am_M) (Q : Option Value → am_M → Prop) (hv : zr i ∧ ((i < 0 → Q none M) ∧ (0 ≤ i → (i < 120 → (0 ≤ i ∧ i < 120) ∧ (∀ M2, M2 = zup M 27 i v → Q none M2)) ∧ (120 ≤ i → Q none M)))) : am_x t_Row_set (0, am_ent (am_mL t_Row_set) [.ref 26, .int (zi i), .int (zi v)], [], M) Q := by
  refine am_xn 0 (c1 := (0, [.ref 26, .int (zi i), .int (zi v)], [], M)) rfl ?_
  obtain ⟨r1, hv⟩ := hv
  refine am_xn 2 (c1 := (if zi i < zi 0 then 20 else 4, [.ref 26, .int (zi i), .int (zi v)], [], M)) rfl (am_xlt r1 (by decide) (fun h => ?_) (fun h => ?_))
  · replace hv := hv.1 h
    exact am_xr none ⟨rfl, rfl, rfl⟩ hv
  · replace hv := hv.2 h
    refine am_xn 5 (c1 := (if zi i < zi 120 then 13 else 20, [.ref 26, .int (zi i), .int (zi v)], [], M)) rfl (am_xlt r1 (by decide) (fun h => ?_) (fun h => ?_))
    · replace hv := hv.1 h
      obtain ⟨r3, hv⟩ := hv
      refine am_xn 4 (c1 := (19, [.ref 26, .int (zi i), .int (zi v)], [.int (zi v), .int (zi i), .ref 27], M)) rfl ?_
      refine am_xast rfl rfl rfl r3 ?_
      refine am_xn 0 (c1 := (20, [.ref 26, .int (zi i), .int (zi v)], [], zup M 27 i v)) rfl ?_
      obtain ⟨M2, eM2⟩ : ∃ m, m = zup M 27 i v := ⟨_, rfl⟩
      replace hv := hv M2 eM2
      rw [← eM2]
      exact am_xr none ⟨rfl, rfl, rfl⟩ hv
    · replace hv := hv.2 h
      exact am_xr none ⟨rfl, rfl, rfl⟩ hv
theorem sp_set_26 (M : am_M) (i : Int) (v : Int) (g : 0 ≤ i ∧ i < 120) : am_call t_Row_set [.ref 26, .int (zi i), .int (zi v)] M (none) (zup M 27 i v) := by
  refine am_call_of ⟨Nat.le_of_ble_eq_true rfl, rfl⟩ (vc_set_26 i v M _ ?_)
  have := g.1
  (repeat' (first | apply And.intro | intro _)) <;> (first | rfl | omega | (split <;> (first | rfl | omega)))
set_option maxRecDepth 100000 in
theorem vc_set_28 (i : Int) (v : Int) (M : am_M) (Q : Option Value → am_M → Prop) (hv : zr i ∧ ((i < 0 → Q none M) ∧ (0 ≤ i → (i < 120 → (0 ≤ i ∧ i < 120) ∧ (∀ M2, M2 = zup M 29 i v → Q none M2)) ∧ (120 ≤ i → Q none M)))) : am_x t_Row_set (0, am_ent (am_mL t_Row_set) [.ref 28, .int (zi i), .int (zi v)], [], M) Q := by
  refine am_xn 0 (c1 := (0, [.ref 28, .int (zi i), .int (zi v)], [], M)) rfl ?_
  obtain ⟨r1, hv⟩ := hv
  refine am_xn 2 (c1 := (if zi i < zi 0 then 20 else 4, [.ref 28, .int (zi i), .int (zi v)], [], M)) rfl (am_xlt r1 (by decide) (fun h => ?_) (fun h => ?_))
  · replace hv := hv.1 h
    exact am_xr none ⟨rfl, rfl, rfl⟩ hv
  · replace hv := hv.2 h
    refine am_xn 5 (c1 := (if zi i < zi 120 then 13 else 20, [.ref 28, .int (zi i), .int (zi v)], [], M)) rfl (am_xlt r1 (by decide) (fun h => ?_) (fun h => ?_))
    · replace hv := hv.1 h
      obtain ⟨r3, hv⟩ := hv
      refine am_xn 4 (c1 := (19, [.ref 28, .int (zi i), .int (zi v)], [.int (zi v), .int (zi i), .ref 29], M)) rfl ?_
      refine am_xast rfl rfl rfl r3 ?_
      refine am_xn 0 (c1 := (20, [.ref 28, .int (zi i), .int (zi v)], [], zup M 29 i v)) rfl ?_
      obtain ⟨M2, eM2⟩ : ∃ m, m = zup M 29 i v := ⟨_, rfl⟩
      replace hv := hv M2 eM2
      rw [← eM2]
      exact am_xr none ⟨rfl, rfl, rfl⟩ hv
    · replace hv := hv.2 h
      exact am_xr none ⟨rfl, rfl, rfl⟩ hv
theorem sp_set_28 (M : am_M) (i : Int) (v : Int) (g : 0 ≤ i ∧ i < 120) : am_call t_Row_set [.ref 28, .int (zi i), .int (zi v)] M (none) (zup M 29 i v) := by
  refine am_call_of ⟨Nat.le_of_ble_eq_true rfl, rfl⟩ (vc_set_28 i v M _ ?_)
  have := g.1
  (repeat' (first | apply And.intro | intro _)) <;> (first | rfl | omega | (split <;> (first | rfl | omega)))
set_option maxRecDepth 100000 in
theorem vc_set_30 (i : Int) (v : Int) (M : am_M) (Q : Option Value → am_M → Prop) (hv : zr i ∧ ((i < 0 → Q none M) ∧ (0 ≤ i → (i < 120 → (0 ≤ i ∧ i < 120) ∧ (∀ M2, M2 = zup M 31 i v → Q none M2)) ∧ (120 ≤ i → Q none M)))) : am_x t_Row_set (0, am_ent (am_mL t_Row_set) [.ref 30, .int (zi i), .int (zi v)], [], M) Q := by
  refine am_xn 0 (c1 := (0, [.ref 30, .int (zi i), .int (zi v)], [], M)) rfl ?_
  obtain ⟨r1, hv⟩ := hv
  refine am_xn 2 (c1 := (if zi i < zi 0 then 20 else 4, [.ref 30, .int (zi i), .int (zi v)], [], M)) rfl (am_xlt r1 (by decide) (fun h => ?_) (fun h => ?_))
  · replace hv := hv.1 h
    exact am_xr none ⟨rfl, rfl, rfl⟩ hv
  · replace hv := hv.2 h
    refine am_xn 5 (c1 := (if zi i < zi 120 then 13 else 20, [.ref 30, .int (zi i), .int (zi v)], [], M)) rfl (am_xlt r1 (by decide) (fun h => ?_) (fun h => ?_))
    · replace hv := hv.1 h
      obtain ⟨r3, hv⟩ := hv
      refine am_xn 4 (c1 := (19, [.ref 30, .int (zi i), .int (zi v)], [.int (zi v), .int (zi i), .ref 31], M)) rfl ?_
      refine am_xast rfl rfl rfl r3 ?_
      refine am_xn 0 (c1 := (20, [.ref 30, .int (zi i), .int (zi v)], [], zup M 31 i v)) rfl ?_
      obtain ⟨M2, eM2⟩ : ∃ m, m = zup M 31 i v := ⟨_, rfl⟩
      replace hv := hv M2 eM2
      rw [← eM2]
      exact am_xr none ⟨rfl, rfl, rfl⟩ hv
    · replace hv := hv.2 h
      exact am_xr none ⟨rfl, rfl, rfl⟩ hv
theorem sp_set_30 (M : am_M) (i : Int) (v : Int) (g : 0 ≤ i ∧ i < 120) : am_call t_Row_set [.ref 30, .int (zi i), .int (zi v)] M (none) (zup M 31 i v) := by
  refine am_call_of ⟨Nat.le_of_ble_eq_true rfl, rfl⟩ (vc_set_30 i v M _ ?_)
  have := g.1
  (repeat' (first | apply And.intro | intro _)) <;> (first | rfl | omega | (split <;> (first | rfl | omega)))
set_option maxRecDepth 100000 in
theorem vc_set_32 (i : Int) (v : Int) (M : am_M) (Q : Option Value → am_M → Prop) (hv : zr i ∧ ((i < 0 → Q none M) ∧ (0 ≤ i → (i < 6 → (0 ≤ i ∧ i < 6) ∧ (∀ M2, M2 = zup M 33 i v → Q none M2)) ∧ (6 ≤ i → Q none M)))) : am_x t_Row_set (0, am_ent (am_mL t_Row_set) [.ref 32, .int (zi i), .int (zi v)], [], M) Q := by
  refine am_xn 0 (c1 := (0, [.ref 32, .int (zi i), .int (zi v)], [], M)) rfl ?_
  obtain ⟨r1, hv⟩ := hv
  refine am_xn 2 (c1 := (if zi i < zi 0 then 20 else 4, [.ref 32, .int (zi i), .int (zi v)], [], M)) rfl (am_xlt r1 (by decide) (fun h => ?_) (fun h => ?_))
  · replace hv := hv.1 h
    exact am_xr none ⟨rfl, rfl, rfl⟩ hv
  · replace hv := hv.2 h
    refine am_xn 5 (c1 := (if zi i < zi 6 then 13 else 20, [.ref 32, .int (zi i), .int (zi v)], [], M)) rfl (am_xlt r1 (by decide) (fun h => ?_) (fun h => ?_))
    · replace hv := hv.1 h
      obtain ⟨r3, hv⟩ := hv
      refine am_xn 4 (c1 := (19, [.ref 32, .int (zi i), .int (zi v)], [.int (zi v), .int (zi i), .ref 33], M)) rfl ?_
      refine am_xast rfl rfl rfl r3 ?_
      refine am_xn 0 (c1 := (20, [.ref 32, .int (zi i), .int (zi v)], [], zup M 33 i v)) rfl ?_
      obtain ⟨M2, eM2⟩ : ∃ m, m = zup M 33 i v := ⟨_, rfl⟩
      replace hv := hv M2 eM2
      rw [← eM2]
      exact am_xr none ⟨rfl, rfl, rfl⟩ hv
    · replace hv := hv.2 h
      exact am_xr none ⟨rfl, rfl, rfl⟩ hv
theorem sp_set_32 (M : am_M) (i : Int) (v : Int) (g : 0 ≤ i ∧ i < 6) : am_call t_Row_set [.ref 32, .int (zi i), .int (zi v)] M (none) (zup M 33 i v) := by
  refine am_call_of ⟨Nat.le_of_ble_eq_true rfl, rfl⟩ (vc_set_32 i v M _ ?_)
  have := g.1
  (repeat' (first | apply And.intro | intro _)) <;> (first | rfl | omega | (split <;> (first | rfl | omega)))
set_option maxRecDepth 100000 in
theorem vc_fill_17 (v : Int) (M : am_M) (Q : Option Value → am_M → Prop) (hv : am_x t_Arr_fill (5, [.ref 17, .int (zi v), .int (zi 0), .int (zi 40)], [], M) Q) : am_x t_Arr_fill (0, am_ent (am_mL t_Arr_fill) [.ref 17, .int (zi v)], [], M) Q := by
  refine am_xn 0 (c1 := (0, [.ref 17, .int (zi v), .null, .null], [], M)) rfl ?_
  refine am_xn 5 (c1 := (5, [.ref 17, .int (zi v), .int (zi 0), .int (zi 40)], [], M)) rfl ?_
  exact hv
set_option maxRecDepth 100000 in
theorem vc_fill_17_5 (x1 : Int) (x2 : Int) (x3 : Int) (M : am_M) (Q : Option Value → am_M → Prop) (hv : zr x2 ∧ (zr x3 ∧ ((x2 < x3 → (0 ≤ x2 ∧ x2 < 40) ∧ (∀ M3, M3 = zup M 17 x2 x1 → am_x t_Arr_fill (5, [.ref 17, .int (zi x1), .int (zi (x2 + 1)), .int (zi x3)], [], M3) Q)) ∧ (x3 ≤ x2 → Q none M)))) : am_x t_Arr_fill (5, [.ref 17, .int (zi x1), .int (zi x2), .int (zi x3)], [], M) Q := by
  obtain ⟨r1, hv⟩ := hv
  obtain ⟨r2, hv⟩ := hv
  refine am_xn 3 (c1 := (if zi x2 < zi x3 then 10 else 20, [.ref 17, .int (zi x1), .int (zi x2), .int (zi x3)], [], M)) rfl (am_xlt r1 r2 (fun h => ?_) (fun h => ?_))
  · replace hv := hv.1 h
    obtain ⟨r4, hv⟩ := hv
    refine am_xn 3 (c1 := (13, [.ref 17, .int (zi x1), .int (zi x2), .int (zi x3)], [.int (zi x1), .int (zi x2), .ref 17], M)) rfl ?_
    refine am_xast rfl rfl rfl r4 ?_
    refine am_xn 0 (c1 := (14, [.ref 17, .int (zi x1), .int (zi x2), .int (zi x3)], [], zup M 17 x2 x1)) rfl ?_
    obtain ⟨M3, eM3⟩ : ∃ m, m = zup M 17 x2 x1 := ⟨_, rfl⟩
    replace hv := hv M3 eM3
    rw [← eM3]
    refine am_xn 1 (c1 := (17, [.ref 17, .int (zi x1), .int (zi x2 + zi 1), .int (zi x3)], [], M3)) rfl ?_
    rw [zi_add]
    refine am_xn 1 (c1 := (5, [.ref 17, .int (zi x1), .int (zi (x2 + 1)), .int (zi x3)], [], M3)) rfl ?_
    exact hv
  · replace hv := hv.2 h
    exact am_xr none ⟨rfl, rfl, rfl⟩ hv
theorem fill_17_loop (M0 : am_M) (v : Int) : ∀ (k : Nat) (i : Int) (M : am_M), 0 ≤ i → i + k = 40 → (∀ b j, M b j = if b = 17 ∧ j < i.toNat then zi v else M0 b j) → am_x t_Arr_fill (5, [.ref 17, .int (zi v), .int (zi i), .int (zi 40)], [], M) (fun r m => r = none ∧ m = zfl M0 17 40 v) := by
  intro k
  induction k with
  | zero =>
    intro i M h0 h1 hM
    refine vc_fill_17_5 v i 40 M _ ⟨⟨by omega, by omega⟩, by decide, fun h => by omega, fun _ => ⟨rfl, ?_⟩⟩
    funext b j
    rw [hM, show i.toNat = 40 by omega]
    rfl
  | succ k ih =>
    intro i M h0 h1 hM
    refine vc_fill_17_5 v i 40 M _ ⟨⟨by omega, by omega⟩, by decide, fun h => ⟨⟨h0, by omega⟩, fun M2 e => ih (i + 1) M2 (by omega) (by omega) ?_⟩, fun h => by omega⟩
    intro b j
    rw [e]
    unfold zup am_up
    rw [hM]
    by_cases hb : b = 17
    · by_cases hj : j = i.toNat
      · rw [if_pos hb, if_pos hj, if_pos ⟨hb, by omega⟩]
      · rw [if_pos hb, if_neg hj]
        by_cases h2 : j < i.toNat
        · rw [if_pos ⟨hb, h2⟩, if_pos ⟨hb, by omega⟩]
        · rw [if_neg (by rintro ⟨_, q⟩; exact h2 q), if_neg (by rintro ⟨_, q⟩; omega)]
    · rw [if_neg hb, if_neg (fun q => hb q.1), if_neg (fun q => hb q.1)]
theorem sp_afill_17 (M : am_M) (v : Int) : am_call t_Arr_fill [.ref 17, .int (zi v)] M none (zfl M 17 40 v) := by
  refine am_call_of ⟨Nat.le_of_ble_eq_true rfl, rfl⟩ (vc_fill_17 v M _ ?_)
  refine fill_17_loop M v 40 0 M (by omega) (by omega) ?_
  intro b j
  rw [if_neg (by rintro ⟨_, q⟩; omega)]
set_option maxRecDepth 100000 in
theorem vc_fill_27 (v : Int) (M : am_M) (Q : Option Value → am_M → Prop) (hv : am_x t_Arr_fill (5, [.ref 27, .int (zi v), .int (zi 0), .int (zi 120)], [], M) Q) : am_x t_Arr_fill (0, am_ent (am_mL t_Arr_fill) [.ref 27, .int (zi v)], [], M) Q := by
  refine am_xn 0 (c1 := (0, [.ref 27, .int (zi v), .null, .null], [], M)) rfl ?_
  refine am_xn 5 (c1 := (5, [.ref 27, .int (zi v), .int (zi 0), .int (zi 120)], [], M)) rfl ?_
  exact hv
set_option maxRecDepth 100000 in
theorem vc_fill_27_5 (x1 : Int) (x2 : Int) (x3 : Int) (M : am_M) (Q : Option Value → am_M → Prop) (hv : zr x2 ∧ (zr x3 ∧ ((x2 < x3 → (0 ≤ x2 ∧ x2 < 120) ∧ (∀ M3, M3 = zup M 27 x2 x1 → am_x t_Arr_fill (5, [.ref 27, .int (zi x1), .int (zi (x2 + 1)), .int (zi x3)], [], M3) Q)) ∧ (x3 ≤ x2 → Q none M)))) : am_x t_Arr_fill (5, [.ref 27, .int (zi x1), .int (zi x2), .int (zi x3)], [], M) Q := by
  obtain ⟨r1, hv⟩ := hv
  obtain ⟨r2, hv⟩ := hv
  refine am_xn 3 (c1 := (if zi x2 < zi x3 then 10 else 20, [.ref 27, .int (zi x1), .int (zi x2), .int (zi x3)], [], M)) rfl (am_xlt r1 r2 (fun h => ?_) (fun h => ?_))
  · replace hv := hv.1 h
    obtain ⟨r4, hv⟩ := hv
    refine am_xn 3 (c1 := (13, [.ref 27, .int (zi x1), .int (zi x2), .int (zi x3)], [.int (zi x1), .int (zi x2), .ref 27], M)) rfl ?_
    refine am_xast rfl rfl rfl r4 ?_
    refine am_xn 0 (c1 := (14, [.ref 27, .int (zi x1), .int (zi x2), .int (zi x3)], [], zup M 27 x2 x1)) rfl ?_
    obtain ⟨M3, eM3⟩ : ∃ m, m = zup M 27 x2 x1 := ⟨_, rfl⟩
    replace hv := hv M3 eM3
    rw [← eM3]
    refine am_xn 1 (c1 := (17, [.ref 27, .int (zi x1), .int (zi x2 + zi 1), .int (zi x3)], [], M3)) rfl ?_
    rw [zi_add]
    refine am_xn 1 (c1 := (5, [.ref 27, .int (zi x1), .int (zi (x2 + 1)), .int (zi x3)], [], M3)) rfl ?_
    exact hv
  · replace hv := hv.2 h
    exact am_xr none ⟨rfl, rfl, rfl⟩ hv
theorem fill_27_loop (M0 : am_M) (v : Int) : ∀ (k : Nat) (i : Int) (M : am_M), 0 ≤ i → i + k = 120 → (∀ b j, M b j = if b = 27 ∧ j < i.toNat then zi v else M0 b j) → am_x t_Arr_fill (5, [.ref 27, .int (zi v), .int (zi i), .int (zi 120)], [], M) (fun r m => r = none ∧ m = zfl M0 27 120 v) := by
  intro k
  induction k with
  | zero =>
    intro i M h0 h1 hM
    refine vc_fill_27_5 v i 120 M _ ⟨⟨by omega, by omega⟩, by decide, fun h => by omega, fun _ => ⟨rfl, ?_⟩⟩
    funext b j
    rw [hM, show i.toNat = 120 by omega]
    rfl
  | succ k ih =>
    intro i M h0 h1 hM
    refine vc_fill_27_5 v i 120 M _ ⟨⟨by omega, by omega⟩, by decide, fun h => ⟨⟨h0, by omega⟩, fun M2 e => ih (i + 1) M2 (by omega) (by omega) ?_⟩, fun h => by omega⟩
    intro b j
    rw [e]
    unfold zup am_up
    rw [hM]
    by_cases hb : b = 27
    · by_cases hj : j = i.toNat
      · rw [if_pos hb, if_pos hj, if_pos ⟨hb, by omega⟩]
      · rw [if_pos hb, if_neg hj]
        by_cases h2 : j < i.toNat
        · rw [if_pos ⟨hb, h2⟩, if_pos ⟨hb, by omega⟩]
        · rw [if_neg (by rintro ⟨_, q⟩; exact h2 q), if_neg (by rintro ⟨_, q⟩; omega)]
    · rw [if_neg hb, if_neg (fun q => hb q.1), if_neg (fun q => hb q.1)]
theorem sp_afill_27 (M : am_M) (v : Int) : am_call t_Arr_fill [.ref 27, .int (zi v)] M none (zfl M 27 120 v) := by
  refine am_call_of ⟨Nat.le_of_ble_eq_true rfl, rfl⟩ (vc_fill_27 v M _ ?_)
  refine fill_27_loop M v 120 0 M (by omega) (by omega) ?_
  intro b j
  rw [if_neg (by rintro ⟨_, q⟩; omega)]
set_option maxRecDepth 100000 in
theorem vc_fill_29 (v : Int) (M : am_M) (Q : Option Value → am_M → Prop) (hv : am_x t_Arr_fill (5, [.ref 29, .int (zi v), .int (zi 0), .int (zi 120)], [], M) Q) : am_x t_Arr_fill (0, am_ent (am_mL t_Arr_fill) [.ref 29, .int (zi v)], [], M) Q := by
  refine am_xn 0 (c1 := (0, [.ref 29, .int (zi v), .null, .null], [], M)) rfl ?_
  refine am_xn 5 (c1 := (5, [.ref 29, .int (zi v), .int (zi 0), .int (zi 120)], [], M)) rfl ?_
  exact hv
set_option maxRecDepth 100000 in
theorem vc_fill_29_5 (x1 : Int) (x2 : Int) (x3 : Int) (M : am_M) (Q : Option Value → am_M → Prop) (hv : zr x2 ∧ (zr x3 ∧ ((x2 < x3 → (0 ≤ x2 ∧ x2 < 120) ∧ (∀ M3, M3 = zup M 29 x2 x1 → am_x t_Arr_fill (5, [.ref 29, .int (zi x1), .int (zi (x2 + 1)), .int (zi x3)], [], M3) Q)) ∧ (x3 ≤ x2 → Q none M)))) : am_x t_Arr_fill (5, [.ref 29, .int (zi x1), .int (zi x2), .int (zi x3)], [], M) Q := by
  obtain ⟨r1, hv⟩ := hv
  obtain ⟨r2, hv⟩ := hv
  refine am_xn 3 (c1 := (if zi x2 < zi x3 then 10 else 20, [.ref 29, .int (zi x1), .int (zi x2), .int (zi x3)], [], M)) rfl (am_xlt r1 r2 (fun h => ?_) (fun h => ?_))
  · replace hv := hv.1 h
    obtain ⟨r4, hv⟩ := hv
    refine am_xn 3 (c1 := (13, [.ref 29, .int (zi x1), .int (zi x2), .int (zi x3)], [.int (zi x1), .int (zi x2), .ref 29], M)) rfl ?_
    refine am_xast rfl rfl rfl r4 ?_
    refine am_xn 0 (c1 := (14, [.ref 29, .int (zi x1), .int (zi x2), .int (zi x3)], [], zup M 29 x2 x1)) rfl ?_
    obtain ⟨M3, eM3⟩ : ∃ m, m = zup M 29 x2 x1 := ⟨_, rfl⟩
    replace hv := hv M3 eM3
    rw [← eM3]
    refine am_xn 1 (c1 := (17, [.ref 29, .int (zi x1), .int (zi x2 + zi 1), .int (zi x3)], [], M3)) rfl ?_
    rw [zi_add]
    refine am_xn 1 (c1 := (5, [.ref 29, .int (zi x1), .int (zi (x2 + 1)), .int (zi x3)], [], M3)) rfl ?_
    exact hv
  · replace hv := hv.2 h
    exact am_xr none ⟨rfl, rfl, rfl⟩ hv
theorem fill_29_loop (M0 : am_M) (v : Int) : ∀ (k : Nat) (i : Int) (M : am_M), 0 ≤ i → i + k = 120 → (∀ b j, M b j = if b = 29 ∧ j < i.toNat then zi v else M0 b j) → am_x t_Arr_fill (5, [.ref 29, .int (zi v), .int (zi i), .int (zi 120)], [], M) (fun r m => r = none ∧ m = zfl M0 29 120 v) := by
  intro k
  induction k with
  | zero =>
    intro i M h0 h1 hM
    refine vc_fill_29_5 v i 120 M _ ⟨⟨by omega, by omega⟩, by decide, fun h => by omega, fun _ => ⟨rfl, ?_⟩⟩
    funext b j
    rw [hM, show i.toNat = 120 by omega]
    rfl
  | succ k ih =>
    intro i M h0 h1 hM
    refine vc_fill_29_5 v i 120 M _ ⟨⟨by omega, by omega⟩, by decide, fun h => ⟨⟨h0, by omega⟩, fun M2 e => ih (i + 1) M2 (by omega) (by omega) ?_⟩, fun h => by omega⟩
    intro b j
    rw [e]
    unfold zup am_up
    rw [hM]
    by_cases hb : b = 29
    · by_cases hj : j = i.toNat
      · rw [if_pos hb, if_pos hj, if_pos ⟨hb, by omega⟩]
      · rw [if_pos hb, if_neg hj]
        by_cases h2 : j < i.toNat
        · rw [if_pos ⟨hb, h2⟩, if_pos ⟨hb, by omega⟩]
        · rw [if_neg (by rintro ⟨_, q⟩; exact h2 q), if_neg (by rintro ⟨_, q⟩; omega)]
    · rw [if_neg hb, if_neg (fun q => hb q.1), if_neg (fun q => hb q.1)]
theorem sp_afill_29 (M : am_M) (v : Int) : am_call t_Arr_fill [.ref 29, .int (zi v)] M none (zfl M 29 120 v) := by
  refine am_call_of ⟨Nat.le_of_ble_eq_true rfl, rfl⟩ (vc_fill_29 v M _ ?_)
  refine fill_29_loop M v 120 0 M (by omega) (by omega) ?_
  intro b j
  rw [if_neg (by rintro ⟨_, q⟩; omega)]
set_option maxRecDepth 100000 in
theorem vc_rfill_16 (v : Int) (M : am_M) (Q : Option Value → am_M → Prop) (hv : ∀ M1, M1 = zfl M 17 40 v → Q none M1) : am_x t_Row_fill (0, am_ent (am_mL t_Row_fill) [.ref 16, .int (zi v)], [], M) Q := by
  refine am_xn 0 (c1 := (0, [.ref 16, .int (zi v)], [], M)) rfl ?_
  refine am_xn 3 (c1 := (5, [.ref 16, .int (zi v)], [.int (zi v), .ref 17], M)) rfl ?_
  obtain ⟨M1, eM1⟩ : ∃ m, m = zfl M 17 40 v := ⟨_, rfl⟩
  replace hv := hv M1 eM1
  refine am_xc t_Arr_fill (.invokestatic 19) 19 (av := [.ref 17, .int (zi v)]) (rest := []) (rv := none) (M' := M1) rfl rfl rfl rfl (Nat.le_of_ble_eq_true rfl) (fun h => nomatch h) (by rw [eM1]; exact sp_afill_17 M v) ?_
  refine am_xn 0 (c1 := (8, [.ref 16, .int (zi v)], [], M1)) rfl ?_
  exact am_xr none ⟨rfl, rfl, rfl⟩ hv
theorem sp_rfill_16 (M : am_M) (v : Int) : am_call t_Row_fill [.ref 16, .int (zi v)] M (none) (zfl M 17 40 v) := by
  refine am_call_of ⟨Nat.le_of_ble_eq_true rfl, rfl⟩ (vc_rfill_16 v M _ ?_)
  (repeat' (first | apply And.intro | intro _)) <;> (first | rfl | omega | (split <;> (first | rfl | omega)))
set_option maxRecDepth 100000 in
theorem vc_rfill_26 (v : Int) (M : am_M) (Q : Option Value → am_M → Prop) (hv : ∀ M1, M1 = zfl M 27 120 v → Q none M1) : am_x t_Row_fill (0, am_ent (am_mL t_Row_fill) [.ref 26, .int (zi v)], [], M) Q := by
  refine am_xn 0 (c1 := (0, [.ref 26, .int (zi v)], [], M)) rfl ?_
  refine am_xn 3 (c1 := (5, [.ref 26, .int (zi v)], [.int (zi v), .ref 27], M)) rfl ?_
  obtain ⟨M1, eM1⟩ : ∃ m, m = zfl M 27 120 v := ⟨_, rfl⟩
  replace hv := hv M1 eM1
  refine am_xc t_Arr_fill (.invokestatic 19) 19 (av := [.ref 27, .int (zi v)]) (rest := []) (rv := none) (M' := M1) rfl rfl rfl rfl (Nat.le_of_ble_eq_true rfl) (fun h => nomatch h) (by rw [eM1]; exact sp_afill_27 M v) ?_
  refine am_xn 0 (c1 := (8, [.ref 26, .int (zi v)], [], M1)) rfl ?_
  exact am_xr none ⟨rfl, rfl, rfl⟩ hv
theorem sp_rfill_26 (M : am_M) (v : Int) : am_call t_Row_fill [.ref 26, .int (zi v)] M (none) (zfl M 27 120 v) := by
  refine am_call_of ⟨Nat.le_of_ble_eq_true rfl, rfl⟩ (vc_rfill_26 v M _ ?_)
  (repeat' (first | apply And.intro | intro _)) <;> (first | rfl | omega | (split <;> (first | rfl | omega)))
set_option maxRecDepth 100000 in
theorem vc_rfill_28 (v : Int) (M : am_M) (Q : Option Value → am_M → Prop) (hv : ∀ M1, M1 = zfl M 29 120 v → Q none M1) : am_x t_Row_fill (0, am_ent (am_mL t_Row_fill) [.ref 28, .int (zi v)], [], M) Q := by
  refine am_xn 0 (c1 := (0, [.ref 28, .int (zi v)], [], M)) rfl ?_
  refine am_xn 3 (c1 := (5, [.ref 28, .int (zi v)], [.int (zi v), .ref 29], M)) rfl ?_
  obtain ⟨M1, eM1⟩ : ∃ m, m = zfl M 29 120 v := ⟨_, rfl⟩
  replace hv := hv M1 eM1
  refine am_xc t_Arr_fill (.invokestatic 19) 19 (av := [.ref 29, .int (zi v)]) (rest := []) (rv := none) (M' := M1) rfl rfl rfl rfl (Nat.le_of_ble_eq_true rfl) (fun h => nomatch h) (by rw [eM1]; exact sp_afill_29 M v) ?_
  refine am_xn 0 (c1 := (8, [.ref 28, .int (zi v)], [], M1)) rfl ?_
  exact am_xr none ⟨rfl, rfl, rfl⟩ hv
theorem sp_rfill_28 (M : am_M) (v : Int) : am_call t_Row_fill [.ref 28, .int (zi v)] M (none) (zfl M 29 120 v) := by
  refine am_call_of ⟨Nat.le_of_ble_eq_true rfl, rfl⟩ (vc_rfill_28 v M _ ?_)
  (repeat' (first | apply And.intro | intro _)) <;> (first | rfl | omega | (split <;> (first | rfl | omega)))
set_option maxRecDepth 100000 in
theorem vc_within (v : Int) (w : Int) (M : am_M) (Q : Option Value → am_M → Prop) (hv : zr v ∧ ((v < 0 → Q (some (.int (zi 0))) M) ∧ (0 ≤ v → zr w ∧ ((w < v → Q (some (.int (zi 0))) M) ∧ (v ≤ w → Q (some (.int (zi 1))) M))))) : am_x t_SB_within (0, am_ent (am_mL t_SB_within) [.int (zi v), .int (zi w)], [], M) Q := by
  refine am_xn 0 (c1 := (0, [.int (zi v), .int (zi w)], [], M)) rfl ?_
  obtain ⟨r1, hv⟩ := hv
  refine am_xn 2 (c1 := (if zi v < zi 0 then 13 else 4, [.int (zi v), .int (zi w)], [], M)) rfl (am_xlt r1 (by decide) (fun h => ?_) (fun h => ?_))
  · replace hv := hv.1 h
    refine am_xn 1 (c1 := (14, [.int (zi v), .int (zi w)], [.int (zi 0)], M)) rfl ?_
    exact am_xr (some (.int (zi 0))) ⟨rfl, rfl, .boolean, rfl, rfl⟩ hv
  · replace hv := hv.2 h
    obtain ⟨r2, hv⟩ := hv
    refine am_xn 3 (c1 := (if zi w < zi v then 13 else 9, [.int (zi v), .int (zi w)], [], M)) rfl (am_xlt r2 r1 (fun h => ?_) (fun h => ?_))
    · replace hv := hv.1 h
      refine am_xn 1 (c1 := (14, [.int (zi v), .int (zi w)], [.int (zi 0)], M)) rfl ?_
      exact am_xr (some (.int (zi 0))) ⟨rfl, rfl, .boolean, rfl, rfl⟩ hv
    · replace hv := hv.2 h
      refine am_xn 2 (c1 := (14, [.int (zi v), .int (zi w)], [.int (zi 1)], M)) rfl ?_
      exact am_xr (some (.int (zi 1))) ⟨rfl, rfl, .boolean, rfl, rfl⟩ hv
theorem sp_within (M : am_M) (v : Int) (w : Int) (g : zr v ∧ zr w) : am_call t_SB_within [.int (zi v), .int (zi w)] M (some (.int (zi (if 0 ≤ v ∧ v ≤ w then 1 else 0)))) M := by
  refine am_call_of ⟨Nat.le_of_ble_eq_true rfl, rfl⟩ (vc_within v w M _ ?_)
  obtain ⟨⟨_, _⟩, ⟨_, _⟩⟩ := g
  (repeat' (first | apply And.intro | intro _)) <;> (first | rfl | omega | (split <;> (first | rfl | omega)))
