/-! out of the proof of whole: claw -/
/-- an operation in the class's book -/
def CO (c b : Int → Int) (o : Int) : Prop := cpt c o 0 = pt b o 0 ∧ cpt c o 1 = pt b o 1 ∧ (cpt c o 2 = if 2 < pt b o 0 then pt b o 2 else -1) ∧ (cpt c o 3 = if pt b o 0 = 4 then pt b o 3 else -1) ∧ cpt c o 4 = pt b o 4 ∧ cpt c o 5 = pt b o 5 ∧ (cpt c o 6 = if pt b o 0 = 0 then ia b o else -1) ∧ ∀ k, 0 ≤ k → k < pt b o 5 → cpt c o (7 + k) = pt b o (6 + k)
theorem iv_zcp_r (M : am_M) {a0 a b : Nat} {sp dp n : Int} (h : b ≠ a) : zcp M a0 a sp dp n b = M b := by
  funext j
  unfold zcp am_cpm
  rw [if_neg h]
set_option maxRecDepth 100000 in
theorem vc_take_22_32 (s : Int) (p : Int) (n : Int) (M : am_M) (Q : Option Value → am_M → Prop) (hv : zr s ∧ ((s < 0 → Q none M) ∧ (0 ≤ s → zr n ∧ ((n < 0 → Q none M) ∧ (0 ≤ n → zr (6 - n) ∧ (((6 - n) < s → Q none M) ∧ (s ≤ (6 - n) → zr p ∧ ((p < 0 → Q none M) ∧ (0 ≤ p → zr (240 - n) ∧ (((240 - n) < p → Q none M) ∧ (p ≤ (240 - n) → (0 ≤ s ∧ 0 ≤ p ∧ 0 ≤ n ∧ s + n ≤ 6 ∧ p + n ≤ 240) ∧ (∀ M6, M6 = zcp M 33 23 s p n → Q none M6)))))))))))) : am_x t_Row_take (0, am_ent (am_mL t_Row_take) [.ref 22, .ref 32, .int (zi s), .int (zi p), .int (zi n)], [], M) Q := by
  refine am_xn 0 (c1 := (0, [.ref 22, .ref 32, .int (zi s), .int (zi p), .int (zi n), .null], [], M)) rfl ?_
  obtain ⟨r1, hv⟩ := hv
  refine am_xn 2 (c1 := (if zi s < zi 0 then 25 else 4, [.ref 22, .ref 32, .int (zi s), .int (zi p), .int (zi n), .null], [], M)) rfl (am_xlt r1 (by decide) (fun h => ?_) (fun h => ?_))
  · replace hv := hv.1 h
    refine am_xn 4 (c1 := (64, [.ref 22, .ref 32, .int (zi s), .int (zi p), .int (zi n), .int (zi 0)], [], M)) rfl ?_
    exact am_xr none ⟨rfl, rfl, rfl⟩ hv
  · replace hv := hv.2 h
    obtain ⟨r2, hv⟩ := hv
    refine am_xn 2 (c1 := (if zi n < zi 0 then 25 else 9, [.ref 22, .ref 32, .int (zi s), .int (zi p), .int (zi n), .null], [], M)) rfl (am_xlt r2 (by decide) (fun h => ?_) (fun h => ?_))
    · replace hv := hv.1 h
      refine am_xn 4 (c1 := (64, [.ref 22, .ref 32, .int (zi s), .int (zi p), .int (zi n), .int (zi 0)], [], M)) rfl ?_
      exact am_xr none ⟨rfl, rfl, rfl⟩ hv
    · replace hv := hv.2 h
      refine am_xisub 6 6 n (pc := 18) (ls := [.ref 22, .ref 32, .int (zi s), .int (zi p), .int (zi n), .null]) (st := [.int (zi s)]) rfl ?_
      obtain ⟨r3, hv⟩ := hv
      refine am_xn 1 (c1 := (if zi (6 - n) < zi s then 25 else 21, [.ref 22, .ref 32, .int (zi s), .int (zi p), .int (zi n), .null], [], M)) rfl (am_xlt r3 r1 (fun h => ?_) (fun h => ?_))
      · replace hv := hv.1 h
        refine am_xn 4 (c1 := (64, [.ref 22, .ref 32, .int (zi s), .int (zi p), .int (zi n), .int (zi 0)], [], M)) rfl ?_
        exact am_xr none ⟨rfl, rfl, rfl⟩ hv
      · replace hv := hv.2 h
        obtain ⟨r4, hv⟩ := hv
        refine am_xn 7 (c1 := (if zi p < zi 0 then 64 else 37, [.ref 22, .ref 32, .int (zi s), .int (zi p), .int (zi n), .int (zi 1)], [], M)) rfl (am_xlt r4 (by decide) (fun h => ?_) (fun h => ?_))
        · replace hv := hv.1 h
          exact am_xr none ⟨rfl, rfl, rfl⟩ hv
        · replace hv := hv.2 h
          refine am_xisub 6 240 n (pc := 46) (ls := [.ref 22, .ref 32, .int (zi s), .int (zi p), .int (zi n), .int (zi 1)]) (st := [.int (zi p)]) rfl ?_
          obtain ⟨r5, hv⟩ := hv
          refine am_xn 1 (c1 := (if zi (240 - n) < zi p then 64 else 49, [.ref 22, .ref 32, .int (zi s), .int (zi p), .int (zi n), .int (zi 1)], [], M)) rfl (am_xlt r5 r4 (fun h => ?_) (fun h => ?_))
          · replace hv := hv.1 h
            exact am_xr none ⟨rfl, rfl, rfl⟩ hv
          · replace hv := hv.2 h
            obtain ⟨r7, hv⟩ := hv
            refine am_xn 7 (c1 := (61, [.ref 22, .ref 32, .int (zi s), .int (zi p), .int (zi n), .int (zi 1)], [.int (zi n), .int (zi p), .ref 23, .int (zi s), .ref 33], M)) rfl ?_
            refine am_xacp 25 rfl rfl rfl rfl rfl rfl r7 ?_
            refine am_xn 0 (c1 := (64, [.ref 22, .ref 32, .int (zi s), .int (zi p), .int (zi n), .int (zi 1)], [], zcp M 33 23 s p n)) rfl ?_
            obtain ⟨M6, eM6⟩ : ∃ m, m = zcp M 33 23 s p n := ⟨_, rfl⟩
            replace hv := hv M6 eM6
            rw [← eM6]
            exact am_xr none ⟨rfl, rfl, rfl⟩ hv
theorem sp_take_22_32 (M : am_M) (s : Int) (p : Int) (n : Int) (g : 0 ≤ s ∧ 0 ≤ p ∧ 0 ≤ n ∧ s + n ≤ 6 ∧ p + n ≤ 240) : am_call t_Row_take [.ref 22, .ref 32, .int (zi s), .int (zi p), .int (zi n)] M (none) (zcp M 33 23 s p n) := by
  refine am_call_of ⟨Nat.le_of_ble_eq_true rfl, rfl⟩ (vc_take_22_32 s p n M _ ?_)
  (repeat' (first | apply And.intro | intro _)) <;> (first | rfl | omega | (split <;> (first | rfl | omega)))
set_option maxRecDepth 100000 in
theorem vc_take_10_5 (s : Int) (p : Int) (n : Int) (M : am_M) (Q : Option Value → am_M → Prop) (hv : zr s ∧ ((s < 0 → Q none M) ∧ (0 ≤ s → zr n ∧ ((n < 0 → Q none M) ∧ (0 ≤ n → zr (520 - n) ∧ (((520 - n) < s → Q none M) ∧ (s ≤ (520 - n) → zr p ∧ ((p < 0 → Q none M) ∧ (0 ≤ p → zr (1605 - n) ∧ (((1605 - n) < p → Q none M) ∧ (p ≤ (1605 - n) → (0 ≤ s ∧ 0 ≤ p ∧ 0 ≤ n ∧ s + n ≤ 520 ∧ p + n ≤ 1605) ∧ (∀ M6, M6 = zcp M 6 11 s p n → Q none M6)))))))))))) : am_x t_Row_take (0, am_ent (am_mL t_Row_take) [.ref 10, .ref 5, .int (zi s), .int (zi p), .int (zi n)], [], M) Q := by
  refine am_xn 0 (c1 := (0, [.ref 10, .ref 5, .int (zi s), .int (zi p), .int (zi n), .null], [], M)) rfl ?_
  obtain ⟨r1, hv⟩ := hv
  refine am_xn 2 (c1 := (if zi s < zi 0 then 25 else 4, [.ref 10, .ref 5, .int (zi s), .int (zi p), .int (zi n), .null], [], M)) rfl (am_xlt r1 (by decide) (fun h => ?_) (fun h => ?_))
  · replace hv := hv.1 h
    refine am_xn 4 (c1 := (64, [.ref 10, .ref 5, .int (zi s), .int (zi p), .int (zi n), .int (zi 0)], [], M)) rfl ?_
    exact am_xr none ⟨rfl, rfl, rfl⟩ hv
  · replace hv := hv.2 h
    obtain ⟨r2, hv⟩ := hv
    refine am_xn 2 (c1 := (if zi n < zi 0 then 25 else 9, [.ref 10, .ref 5, .int (zi s), .int (zi p), .int (zi n), .null], [], M)) rfl (am_xlt r2 (by decide) (fun h => ?_) (fun h => ?_))
    · replace hv := hv.1 h
      refine am_xn 4 (c1 := (64, [.ref 10, .ref 5, .int (zi s), .int (zi p), .int (zi n), .int (zi 0)], [], M)) rfl ?_
      exact am_xr none ⟨rfl, rfl, rfl⟩ hv
    · replace hv := hv.2 h
      refine am_xisub 6 520 n (pc := 18) (ls := [.ref 10, .ref 5, .int (zi s), .int (zi p), .int (zi n), .null]) (st := [.int (zi s)]) rfl ?_
      obtain ⟨r3, hv⟩ := hv
      refine am_xn 1 (c1 := (if zi (520 - n) < zi s then 25 else 21, [.ref 10, .ref 5, .int (zi s), .int (zi p), .int (zi n), .null], [], M)) rfl (am_xlt r3 r1 (fun h => ?_) (fun h => ?_))
      · replace hv := hv.1 h
        refine am_xn 4 (c1 := (64, [.ref 10, .ref 5, .int (zi s), .int (zi p), .int (zi n), .int (zi 0)], [], M)) rfl ?_
        exact am_xr none ⟨rfl, rfl, rfl⟩ hv
      · replace hv := hv.2 h
        obtain ⟨r4, hv⟩ := hv
        refine am_xn 7 (c1 := (if zi p < zi 0 then 64 else 37, [.ref 10, .ref 5, .int (zi s), .int (zi p), .int (zi n), .int (zi 1)], [], M)) rfl (am_xlt r4 (by decide) (fun h => ?_) (fun h => ?_))
        · replace hv := hv.1 h
          exact am_xr none ⟨rfl, rfl, rfl⟩ hv
        · replace hv := hv.2 h
          refine am_xisub 6 1605 n (pc := 46) (ls := [.ref 10, .ref 5, .int (zi s), .int (zi p), .int (zi n), .int (zi 1)]) (st := [.int (zi p)]) rfl ?_
          obtain ⟨r5, hv⟩ := hv
          refine am_xn 1 (c1 := (if zi (1605 - n) < zi p then 64 else 49, [.ref 10, .ref 5, .int (zi s), .int (zi p), .int (zi n), .int (zi 1)], [], M)) rfl (am_xlt r5 r4 (fun h => ?_) (fun h => ?_))
          · replace hv := hv.1 h
            exact am_xr none ⟨rfl, rfl, rfl⟩ hv
          · replace hv := hv.2 h
            obtain ⟨r7, hv⟩ := hv
            refine am_xn 7 (c1 := (61, [.ref 10, .ref 5, .int (zi s), .int (zi p), .int (zi n), .int (zi 1)], [.int (zi n), .int (zi p), .ref 11, .int (zi s), .ref 6], M)) rfl ?_
            refine am_xacp 25 rfl rfl rfl rfl rfl rfl r7 ?_
            refine am_xn 0 (c1 := (64, [.ref 10, .ref 5, .int (zi s), .int (zi p), .int (zi n), .int (zi 1)], [], zcp M 6 11 s p n)) rfl ?_
            obtain ⟨M6, eM6⟩ : ∃ m, m = zcp M 6 11 s p n := ⟨_, rfl⟩
            replace hv := hv M6 eM6
            rw [← eM6]
            exact am_xr none ⟨rfl, rfl, rfl⟩ hv
theorem sp_take_10_5 (M : am_M) (s : Int) (p : Int) (n : Int) (g : 0 ≤ s ∧ 0 ≤ p ∧ 0 ≤ n ∧ s + n ≤ 520 ∧ p + n ≤ 1605) : am_call t_Row_take [.ref 10, .ref 5, .int (zi s), .int (zi p), .int (zi n)] M (none) (zcp M 6 11 s p n) := by
  refine am_call_of ⟨Nat.le_of_ble_eq_true rfl, rfl⟩ (vc_take_10_5 s p n M _ ?_)
  (repeat' (first | apply And.intro | intro _)) <;> (first | rfl | omega | (split <;> (first | rfl | omega)))
set_option maxRecDepth 100000 in
theorem vc_take_13_10 (s : Int) (p : Int) (n : Int) (M : am_M) (Q : Option Value → am_M → Prop) (hv : zr s ∧ ((s < 0 → Q none M) ∧ (0 ≤ s → zr n ∧ ((n < 0 → Q none M) ∧ (0 ≤ n → zr (1605 - n) ∧ (((1605 - n) < s → Q none M) ∧ (s ≤ (1605 - n) → zr p ∧ ((p < 0 → Q none M) ∧ (0 ≤ p → zr (19260 - n) ∧ (((19260 - n) < p → Q none M) ∧ (p ≤ (19260 - n) → (0 ≤ s ∧ 0 ≤ p ∧ 0 ≤ n ∧ s + n ≤ 1605 ∧ p + n ≤ 19260) ∧ (∀ M6, M6 = zcp M 11 14 s p n → Q none M6)))))))))))) : am_x t_Row_take (0, am_ent (am_mL t_Row_take) [.ref 13, .ref 10, .int (zi s), .int (zi p), .int (zi n)], [], M) Q := by
  refine am_xn 0 (c1 := (0, [.ref 13, .ref 10, .int (zi s), .int (zi p), .int (zi n), .null], [], M)) rfl ?_
  obtain ⟨r1, hv⟩ := hv
  refine am_xn 2 (c1 := (if zi s < zi 0 then 25 else 4, [.ref 13, .ref 10, .int (zi s), .int (zi p), .int (zi n), .null], [], M)) rfl (am_xlt r1 (by decide) (fun h => ?_) (fun h => ?_))
  · replace hv := hv.1 h
    refine am_xn 4 (c1 := (64, [.ref 13, .ref 10, .int (zi s), .int (zi p), .int (zi n), .int (zi 0)], [], M)) rfl ?_
    exact am_xr none ⟨rfl, rfl, rfl⟩ hv
  · replace hv := hv.2 h
    obtain ⟨r2, hv⟩ := hv
    refine am_xn 2 (c1 := (if zi n < zi 0 then 25 else 9, [.ref 13, .ref 10, .int (zi s), .int (zi p), .int (zi n), .null], [], M)) rfl (am_xlt r2 (by decide) (fun h => ?_) (fun h => ?_))
    · replace hv := hv.1 h
      refine am_xn 4 (c1 := (64, [.ref 13, .ref 10, .int (zi s), .int (zi p), .int (zi n), .int (zi 0)], [], M)) rfl ?_
      exact am_xr none ⟨rfl, rfl, rfl⟩ hv
    · replace hv := hv.2 h
      refine am_xisub 6 1605 n (pc := 18) (ls := [.ref 13, .ref 10, .int (zi s), .int (zi p), .int (zi n), .null]) (st := [.int (zi s)]) rfl ?_
      obtain ⟨r3, hv⟩ := hv
      refine am_xn 1 (c1 := (if zi (1605 - n) < zi s then 25 else 21, [.ref 13, .ref 10, .int (zi s), .int (zi p), .int (zi n), .null], [], M)) rfl (am_xlt r3 r1 (fun h => ?_) (fun h => ?_))
      · replace hv := hv.1 h
        refine am_xn 4 (c1 := (64, [.ref 13, .ref 10, .int (zi s), .int (zi p), .int (zi n), .int (zi 0)], [], M)) rfl ?_
        exact am_xr none ⟨rfl, rfl, rfl⟩ hv
      · replace hv := hv.2 h
        obtain ⟨r4, hv⟩ := hv
        refine am_xn 7 (c1 := (if zi p < zi 0 then 64 else 37, [.ref 13, .ref 10, .int (zi s), .int (zi p), .int (zi n), .int (zi 1)], [], M)) rfl (am_xlt r4 (by decide) (fun h => ?_) (fun h => ?_))
        · replace hv := hv.1 h
          exact am_xr none ⟨rfl, rfl, rfl⟩ hv
        · replace hv := hv.2 h
          refine am_xisub 6 19260 n (pc := 46) (ls := [.ref 13, .ref 10, .int (zi s), .int (zi p), .int (zi n), .int (zi 1)]) (st := [.int (zi p)]) rfl ?_
          obtain ⟨r5, hv⟩ := hv
          refine am_xn 1 (c1 := (if zi (19260 - n) < zi p then 64 else 49, [.ref 13, .ref 10, .int (zi s), .int (zi p), .int (zi n), .int (zi 1)], [], M)) rfl (am_xlt r5 r4 (fun h => ?_) (fun h => ?_))
          · replace hv := hv.1 h
            exact am_xr none ⟨rfl, rfl, rfl⟩ hv
          · replace hv := hv.2 h
            obtain ⟨r7, hv⟩ := hv
            refine am_xn 7 (c1 := (61, [.ref 13, .ref 10, .int (zi s), .int (zi p), .int (zi n), .int (zi 1)], [.int (zi n), .int (zi p), .ref 14, .int (zi s), .ref 11], M)) rfl ?_
            refine am_xacp 25 rfl rfl rfl rfl rfl rfl r7 ?_
            refine am_xn 0 (c1 := (64, [.ref 13, .ref 10, .int (zi s), .int (zi p), .int (zi n), .int (zi 1)], [], zcp M 11 14 s p n)) rfl ?_
            obtain ⟨M6, eM6⟩ : ∃ m, m = zcp M 11 14 s p n := ⟨_, rfl⟩
            replace hv := hv M6 eM6
            rw [← eM6]
            exact am_xr none ⟨rfl, rfl, rfl⟩ hv
theorem sp_take_13_10 (M : am_M) (s : Int) (p : Int) (n : Int) (g : 0 ≤ s ∧ 0 ≤ p ∧ 0 ≤ n ∧ s + n ≤ 1605 ∧ p + n ≤ 19260) : am_call t_Row_take [.ref 13, .ref 10, .int (zi s), .int (zi p), .int (zi n)] M (none) (zcp M 11 14 s p n) := by
  refine am_call_of ⟨Nat.le_of_ble_eq_true rfl, rfl⟩ (vc_take_13_10 s p n M _ ?_)
  (repeat' (first | apply And.intro | intro _)) <;> (first | rfl | omega | (split <;> (first | rfl | omega)))
set_option maxRecDepth 100000 in
theorem vc_l15_holder (x : Int) (M : am_M) (Q : Option Value → am_M → Prop) (hv : am_x t_Law_holder (2, [.ref 15, .int (zi x), .int (zi 0)], [], M) Q) : am_x t_Law_holder (0, am_ent (am_mL t_Law_holder) [.ref 15, .int (zi x)], [], M) Q := by
  refine am_xn 0 (c1 := (0, [.ref 15, .int (zi x), .null], [], M)) rfl ?_
  refine am_xn 2 (c1 := (2, [.ref 15, .int (zi x), .int (zi 0)], [], M)) rfl ?_
  exact hv
set_option maxRecDepth 100000 in
theorem vc_l15_holder_2 (x1 : Int) (x2 : Int) (M : am_M) (Q : Option Value → am_M → Prop) (hv : zr x2 ∧ ((x2 < 40 → (0 ≤ x2 ∧ x2 < 40) ∧ (zr x1 ∧ (((iv M 17 x2) = x1 → Q (some (.int (zi x2))) M) ∧ (¬ (iv M 17 x2) = x1 → am_x t_Law_holder (2, [.ref 15, .int (zi x1), .int (zi (x2 + 1))], [], M) Q)))) ∧ (40 ≤ x2 → Q (some (.int (zi (-1)))) M))) : am_x t_Law_holder (2, [.ref 15, .int (zi x1), .int (zi x2)], [], M) Q := by
  obtain ⟨r1, hv⟩ := hv
  refine am_xn 3 (c1 := (if zi x2 < zi 40 then 8 else 28, [.ref 15, .int (zi x1), .int (zi x2)], [], M)) rfl (am_xlt r1 (by decide) (fun h => ?_) (fun h => ?_))
  · replace hv := hv.1 h
    refine am_xn 3 (c1 := (13, [.ref 15, .int (zi x1), .int (zi x2)], [.int (zi x2), .ref 16], M)) rfl ?_
    obtain ⟨g, hv⟩ := hv
    refine am_xc t_Row_get (.invokevirtual 97) 97 (av := [.ref 16, .int (zi x2)]) (rest := []) (rv := some (.int (zi (iv M 17 x2)))) (M' := M) rfl rfl rfl rfl (Nat.le_of_ble_eq_true rfl) (fun _ => rfl) (sp_get_16 M x2 g) ?_
    refine am_xn 0 (c1 := (16, [.ref 15, .int (zi x1), .int (zi x2)], [.int (zi (iv M 17 x2))], M)) rfl ?_
    obtain ⟨r2, hv⟩ := hv
    refine am_xn 2 (c1 := (if zi (iv M 17 x2) = zi x1 then 20 else 22, [.ref 15, .int (zi x1), .int (zi x2)], [], M)) rfl (am_xeq (iv_r _ _ _) r2 (fun h => ?_) (fun h => ?_))
    · replace hv := hv.1 h
      refine am_xn 1 (c1 := (21, [.ref 15, .int (zi x1), .int (zi x2)], [.int (zi x2)], M)) rfl ?_
      exact am_xr (some (.int (zi x2))) ⟨rfl, rfl, .int, rfl, rfl⟩ hv
    · replace hv := hv.2 h
      refine am_xn 1 (c1 := (25, [.ref 15, .int (zi x1), .int (zi x2 + zi 1)], [], M)) rfl ?_
      rw [zi_add]
      refine am_xn 1 (c1 := (2, [.ref 15, .int (zi x1), .int (zi (x2 + 1))], [], M)) rfl ?_
      exact hv
  · replace hv := hv.2 h
    refine am_xn 1 (c1 := (29, [.ref 15, .int (zi x1), .int (zi x2)], [.int (zi (-1))], M)) rfl ?_
    exact am_xr (some (.int (zi (-1)))) ⟨rfl, rfl, .int, rfl, rfl⟩ hv
set_option maxRecDepth 100000 in
theorem vc_l15_resolves (o : Int) (M : am_M) (Q : Option Value → am_M → Prop) (hv : am_x t_Law_resolves (2, [.ref 15, .ref 9, .int (zi o), .int (zi 0), .null, .null], [], M) Q) : am_x t_Law_resolves (0, am_ent (am_mL t_Law_resolves) [.ref 15, .ref 9, .int (zi o)], [], M) Q := by
  refine am_xn 0 (c1 := (0, [.ref 15, .ref 9, .int (zi o), .null, .null, .null], [], M)) rfl ?_
  refine am_xn 2 (c1 := (2, [.ref 15, .ref 9, .int (zi o), .int (zi 0), .null, .null], [], M)) rfl ?_
  exact hv
set_option maxRecDepth 100000 in
theorem vc_l15_resolves_2 (x2 : Int) (x3 : Int) (M : am_M) (Q : Option Value → am_M → Prop) (hv : (0 ≤ x2 ∧ x2 < 120 ∧ 0 ≤ (5 : Int) ∧ (5 : Int) < 13) ∧ (zr x3 ∧ ((x3 < (cpt (iv M 11) x2 5) → (0 ≤ x2 ∧ x2 < 120 ∧ 0 ≤ (7 + x3) ∧ (7 + x3) < 13) ∧ (((cpt (iv M 11) x2 (7 + x3)) < 1000 → (0 ≤ x3 ∧ x3 < 6) ∧ (∀ M2, M2 = zup M 33 x3 (cpt (iv M 11) x2 (7 + x3)) → am_x t_Law_resolves (2, [.ref 15, .ref 9, .int (zi x2), .int (zi (x3 + 1)), .null, .null], [], M2) Q)) ∧ (1000 ≤ (cpt (iv M 11) x2 (7 + x3)) → ∃ (r4 : Int) (M3 : am_M), am_call t_Law_holder [.ref 15, .int (zi ((cpt (iv M 11) x2 (7 + x3)) - 1000))] M (some (.int (zi r4))) M3 ∧ (zr r4 ∧ ((r4 = (-1) → Q (some (.int (zi 0))) M3) ∧ (¬ r4 = (-1) → (0 ≤ x3 ∧ x3 < 6) ∧ (∀ M6, M6 = zup M3 33 x3 (1000 + r4) → am_x t_Law_resolves (2, [.ref 15, .ref 9, .int (zi x2), .int (zi (x3 + 1)), .null, .null], [], M6) Q))))))) ∧ ((cpt (iv M 11) x2 5) ≤ x3 → Q (some (.int (zi 1))) M)))) : am_x t_Law_resolves (2, [.ref 15, .ref 9, .int (zi x2), .int (zi x3), .null, .null], [], M) Q := by
  refine am_xn 4 (c1 := (6, [.ref 15, .ref 9, .int (zi x2), .int (zi x3), .null, .null], [.int (zi 5), .int (zi x2), .ref 9, .int (zi x3)], M)) rfl ?_
  obtain ⟨g, hv⟩ := hv
  refine am_xc t_Amd_cell (.invokevirtual 75) 75 (av := [.ref 9, .int (zi x2), .int (zi 5)]) (rest := [.int (zi x3)]) (rv := some (.int (zi (cpt (iv M 11) x2 5)))) (M' := M) rfl rfl rfl rfl (Nat.le_of_ble_eq_true rfl) (fun _ => rfl) (sp_c_cell M x2 5 g) ?_
  refine am_xn 0 (c1 := (9, [.ref 15, .ref 9, .int (zi x2), .int (zi x3), .null, .null], [.int (zi (cpt (iv M 11) x2 5)), .int (zi x3)], M)) rfl ?_
  obtain ⟨r1, hv⟩ := hv
  refine am_xn 1 (c1 := (if zi x3 < zi (cpt (iv M 11) x2 5) then 12 else 75, [.ref 15, .ref 9, .int (zi x2), .int (zi x3), .null, .null], [], M)) rfl (am_xlt r1 (iv_r _ 11 _) (fun h => ?_) (fun h => ?_))
  · replace hv := hv.1 h
    refine am_xiadd 5 7 x3 (pc := 18) (ls := [.ref 15, .ref 9, .int (zi x2), .int (zi x3), .null, .null]) (st := [.int (zi x2), .ref 9]) rfl ?_
    obtain ⟨g, hv⟩ := hv
    refine am_xc t_Amd_cell (.invokevirtual 75) 75 (av := [.ref 9, .int (zi x2), .int (zi (7 + x3))]) (rest := []) (rv := some (.int (zi (cpt (iv M 11) x2 (7 + x3))))) (M' := M) rfl rfl rfl rfl (Nat.le_of_ble_eq_true rfl) (fun _ => rfl) (sp_c_cell M x2 (7 + x3) g) ?_
    refine am_xn 0 (c1 := (21, [.ref 15, .ref 9, .int (zi x2), .int (zi x3), .null, .null], [.int (zi (cpt (iv M 11) x2 (7 + x3)))], M)) rfl ?_
    refine am_xn 4 (c1 := (if zi (cpt (iv M 11) x2 (7 + x3)) < zi 1000 then 59 else 31, [.ref 15, .ref 9, .int (zi x2), .int (zi x3), .int (zi (cpt (iv M 11) x2 (7 + x3))), .null], [], M)) rfl (am_xlt (iv_r _ 11 _) (by decide) (fun h => ?_) (fun h => ?_))
    · replace hv := hv.1 h
      refine am_xn 4 (c1 := (66, [.ref 15, .ref 9, .int (zi x2), .int (zi x3), .int (zi (cpt (iv M 11) x2 (7 + x3))), .null], [.int (zi (cpt (iv M 11) x2 (7 + x3))), .int (zi x3), .ref 32], M)) rfl ?_
      obtain ⟨g, hv⟩ := hv
      obtain ⟨M2, eM2⟩ : ∃ m, m = zup M 33 x3 (cpt (iv M 11) x2 (7 + x3)) := ⟨_, rfl⟩
      replace hv := hv M2 eM2
      refine am_xc t_Row_set (.invokevirtual 90) 90 (av := [.ref 32, .int (zi x3), .int (zi (cpt (iv M 11) x2 (7 + x3)))]) (rest := []) (rv := none) (M' := M2) rfl rfl rfl rfl (Nat.le_of_ble_eq_true rfl) (fun _ => rfl) (by rw [eM2]; exact sp_set_32 M x3 (cpt (iv M 11) x2 (7 + x3)) g) ?_
      refine am_xn 0 (c1 := (69, [.ref 15, .ref 9, .int (zi x2), .int (zi x3), .int (zi (cpt (iv M 11) x2 (7 + x3))), .null], [], M2)) rfl ?_
      refine am_xn 1 (c1 := (72, [.ref 15, .ref 9, .int (zi x2), .int (zi x3 + zi 1), .int (zi (cpt (iv M 11) x2 (7 + x3))), .null], [], M2)) rfl ?_
      rw [zi_add]
      refine am_xn 1 (c1 := (2, [.ref 15, .ref 9, .int (zi x2), .int (zi (x3 + 1)), .int (zi (cpt (iv M 11) x2 (7 + x3))), .null], [], M2)) rfl ?_
      refine am_xf 4 ?_
      exact hv
    · replace hv := hv.2 h
      refine am_xisub 4 (cpt (iv M 11) x2 (7 + x3)) 1000 (pc := 38) (ls := [.ref 15, .ref 9, .int (zi x2), .int (zi x3), .int (zi (cpt (iv M 11) x2 (7 + x3))), .null]) (st := [.ref 15]) rfl ?_
      obtain ⟨r4, M3, hc, hv⟩ := hv
      refine am_xc t_Law_holder (.invokevirtual 79) 79 (av := [.ref 15, .int (zi ((cpt (iv M 11) x2 (7 + x3)) - 1000))]) (rest := []) (rv := some (.int (zi r4))) (M' := M3) rfl rfl rfl rfl (Nat.le_of_ble_eq_true rfl) (fun _ => rfl) (hc) ?_
      refine am_xn 0 (c1 := (41, [.ref 15, .ref 9, .int (zi x2), .int (zi x3), .int (zi (cpt (iv M 11) x2 (7 + x3))), .null], [.int (zi r4)], M3)) rfl ?_
      obtain ⟨r5, hv⟩ := hv
      refine am_xn 4 (c1 := (if zi r4 = zi (-1) then 49 else 51, [.ref 15, .ref 9, .int (zi x2), .int (zi x3), .int (zi (cpt (iv M 11) x2 (7 + x3))), .int (zi r4)], [], M3)) rfl (am_xeq r5 (by decide) (fun h => ?_) (fun h => ?_))
      · replace hv := hv.1 h
        refine am_xn 1 (c1 := (50, [.ref 15, .ref 9, .int (zi x2), .int (zi x3), .int (zi (cpt (iv M 11) x2 (7 + x3))), .int (zi r4)], [.int (zi 0)], M3)) rfl ?_
        exact am_xr (some (.int (zi 0))) ⟨rfl, rfl, .boolean, rfl, rfl⟩ hv
      · replace hv := hv.2 h
        refine am_xiadd 3 1000 r4 (pc := 57) (ls := [.ref 15, .ref 9, .int (zi x2), .int (zi x3), .int (zi (cpt (iv M 11) x2 (7 + x3))), .int (zi r4)]) (st := []) rfl ?_
        refine am_xn 5 (c1 := (66, [.ref 15, .ref 9, .int (zi x2), .int (zi x3), .int (zi (1000 + r4)), .int (zi r4)], [.int (zi (1000 + r4)), .int (zi x3), .ref 32], M3)) rfl ?_
        obtain ⟨g, hv⟩ := hv
        obtain ⟨M6, eM6⟩ : ∃ m, m = zup M3 33 x3 (1000 + r4) := ⟨_, rfl⟩
        replace hv := hv M6 eM6
        refine am_xc t_Row_set (.invokevirtual 90) 90 (av := [.ref 32, .int (zi x3), .int (zi (1000 + r4))]) (rest := []) (rv := none) (M' := M6) rfl rfl rfl rfl (Nat.le_of_ble_eq_true rfl) (fun _ => rfl) (by rw [eM6]; exact sp_set_32 M3 x3 (1000 + r4) g) ?_
        refine am_xn 0 (c1 := (69, [.ref 15, .ref 9, .int (zi x2), .int (zi x3), .int (zi (1000 + r4)), .int (zi r4)], [], M6)) rfl ?_
        refine am_xn 1 (c1 := (72, [.ref 15, .ref 9, .int (zi x2), .int (zi x3 + zi 1), .int (zi (1000 + r4)), .int (zi r4)], [], M6)) rfl ?_
        rw [zi_add]
        refine am_xn 1 (c1 := (2, [.ref 15, .ref 9, .int (zi x2), .int (zi (x3 + 1)), .int (zi (1000 + r4)), .int (zi r4)], [], M6)) rfl ?_
        refine am_xf 4 ?_
        refine am_xf 5 ?_
        exact hv
  · replace hv := hv.2 h
    refine am_xn 1 (c1 := (76, [.ref 15, .ref 9, .int (zi x2), .int (zi x3), .null, .null], [.int (zi 1)], M)) rfl ?_
    exact am_xr (some (.int (zi 1))) ⟨rfl, rfl, .boolean, rfl, rfl⟩ hv
set_option maxRecDepth 100000 in
theorem vc_l15_reason (o : Int) (c : Int) (q : Int) (M : am_M) (Q : Option Value → am_M → Prop) (hv : (0 ≤ o ∧ o < 120 ∧ 0 ≤ (0 : Int) ∧ (0 : Int) < 13) ∧ (((cpt (iv M 11) o 0) = 0 → zr c ∧ ((c = (-1) → zr q ∧ ((q = 0 → Q (some (.int (zi 4))) M) ∧ (¬ q = 0 → Q (some (.int (zi 0))) M))) ∧ (¬ c = (-1) → Q (some (.int (zi 2))) M))) ∧ (¬ (cpt (iv M 11) o 0) = 0 → zr c ∧ ((c = (-1) → Q (some (.int (zi 1))) M) ∧ (¬ c = (-1) → ((cpt (iv M 11) o 0) = 3 → (0 ≤ o ∧ o < 120 ∧ 0 ≤ (2 : Int) ∧ (2 : Int) < 13) ∧ (∃ (r5 : Int) (M4 : am_M), am_call t_Law_holder [.ref 15, .int (zi (cpt (iv M 11) o 2))] M (some (.int (zi r5))) M4 ∧ (zr r5 ∧ ((r5 = (-1) → zr q ∧ ((q = 0 → Q (some (.int (zi 4))) M4) ∧ (¬ q = 0 → Q (some (.int (zi 0))) M4))) ∧ (¬ r5 = (-1) → Q (some (.int (zi 2))) M4))))) ∧ (¬ (cpt (iv M 11) o 0) = 3 → ((cpt (iv M 11) o 0) = 4 → (0 ≤ o ∧ o < 120 ∧ 0 ≤ (2 : Int) ∧ (2 : Int) < 13) ∧ (∃ (r9 : Int) (M8 : am_M), am_call t_Law_contains [.ref 15, .int (zi c), .int (zi (cpt (iv M 11) o 2))] M (some (.int (zi r9))) M8 ∧ (zr r9 ∧ ((r9 = 0 → Q (some (.int (zi 3))) M8) ∧ (¬ r9 = 0 → zr q ∧ ((q = 0 → Q (some (.int (zi 4))) M8) ∧ (¬ q = 0 → Q (some (.int (zi 0))) M8))))))) ∧ (¬ (cpt (iv M 11) o 0) = 4 → zr q ∧ ((q = 0 → Q (some (.int (zi 4))) M) ∧ (¬ q = 0 → Q (some (.int (zi 0))) M))))))))) : am_x t_Law_reason (0, am_ent (am_mL t_Law_reason) [.ref 15, .ref 9, .int (zi o), .int (zi c), .int (zi q)], [], M) Q := by
  refine am_xn 0 (c1 := (0, [.ref 15, .ref 9, .int (zi o), .int (zi c), .int (zi q), .null], [], M)) rfl ?_
  refine am_xn 3 (c1 := (3, [.ref 15, .ref 9, .int (zi o), .int (zi c), .int (zi q), .null], [.int (zi 0), .int (zi o), .ref 9], M)) rfl ?_
  obtain ⟨g, hv⟩ := hv
  refine am_xc t_Amd_cell (.invokevirtual 75) 75 (av := [.ref 9, .int (zi o), .int (zi 0)]) (rest := []) (rv := some (.int (zi (cpt (iv M 11) o 0)))) (M' := M) rfl rfl rfl rfl (Nat.le_of_ble_eq_true rfl) (fun _ => rfl) (sp_c_cell M o 0 g) ?_
  refine am_xn 0 (c1 := (6, [.ref 15, .ref 9, .int (zi o), .int (zi c), .int (zi q), .null], [.int (zi (cpt (iv M 11) o 0))], M)) rfl ?_
  refine am_xn 3 (c1 := (if zi (cpt (iv M 11) o 0) = zi 0 then 20 else 13, [.ref 15, .ref 9, .int (zi o), .int (zi c), .int (zi q), .int (zi (cpt (iv M 11) o 0))], [], M)) rfl (am_xeq (iv_r _ 11 _) (by decide) (fun h => ?_) (fun h => ?_))
  · replace hv := hv.1 h
    refine am_xn 2 (c1 := (if zi (cpt (iv M 11) o 0) = zi 0 then 25 else 32, [.ref 15, .ref 9, .int (zi o), .int (zi c), .int (zi q), .int (zi (cpt (iv M 11) o 0))], [], M)) rfl (am_xeq (iv_r _ 11 _) (by decide) (fun h => ?_) (fun h => by clear hv; exfalso; omega))
    obtain ⟨r1, hv⟩ := hv
    refine am_xn 3 (c1 := (if zi c = zi (-1) then 32 else 30, [.ref 15, .ref 9, .int (zi o), .int (zi c), .int (zi q), .int (zi (cpt (iv M 11) o 0))], [], M)) rfl (am_xeq r1 (by decide) (fun h => ?_) (fun h => ?_))
    · replace hv := hv.1 h
      refine am_xn 3 (c1 := (if zi (cpt (iv M 11) o 0) = zi 3 then 38 else 54, [.ref 15, .ref 9, .int (zi o), .int (zi c), .int (zi q), .int (zi (cpt (iv M 11) o 0))], [], M)) rfl (am_xeq (iv_r _ 11 _) (by decide) (fun h => by clear hv; exfalso; omega) (fun h => ?_))
      refine am_xn 3 (c1 := (if zi (cpt (iv M 11) o 0) = zi 4 then 60 else 76, [.ref 15, .ref 9, .int (zi o), .int (zi c), .int (zi q), .int (zi (cpt (iv M 11) o 0))], [], M)) rfl (am_xeq (iv_r _ 11 _) (by decide) (fun h => by clear hv; exfalso; omega) (fun h => ?_))
      obtain ⟨r2, hv⟩ := hv
      refine am_xn 2 (c1 := (if zi q = zi 0 then 85 else 81, [.ref 15, .ref 9, .int (zi o), .int (zi c), .int (zi q), .int (zi (cpt (iv M 11) o 0))], [], M)) rfl (am_xeq r2 (by decide) (fun h => ?_) (fun h => ?_))
      · replace hv := hv.1 h
        refine am_xn 1 (c1 := (86, [.ref 15, .ref 9, .int (zi o), .int (zi c), .int (zi q), .int (zi (cpt (iv M 11) o 0))], [.int (zi 4)], M)) rfl ?_
        exact am_xr (some (.int (zi 4))) ⟨rfl, rfl, .int, rfl, rfl⟩ hv
      · replace hv := hv.2 h
        refine am_xn 2 (c1 := (86, [.ref 15, .ref 9, .int (zi o), .int (zi c), .int (zi q), .int (zi (cpt (iv M 11) o 0))], [.int (zi 0)], M)) rfl ?_
        exact am_xr (some (.int (zi 0))) ⟨rfl, rfl, .int, rfl, rfl⟩ hv
    · replace hv := hv.2 h
      refine am_xn 1 (c1 := (31, [.ref 15, .ref 9, .int (zi o), .int (zi c), .int (zi q), .int (zi (cpt (iv M 11) o 0))], [.int (zi 2)], M)) rfl ?_
      exact am_xr (some (.int (zi 2))) ⟨rfl, rfl, .int, rfl, rfl⟩ hv
  · replace hv := hv.2 h
    obtain ⟨r3, hv⟩ := hv
    refine am_xn 3 (c1 := (if zi c = zi (-1) then 18 else 20, [.ref 15, .ref 9, .int (zi o), .int (zi c), .int (zi q), .int (zi (cpt (iv M 11) o 0))], [], M)) rfl (am_xeq r3 (by decide) (fun h => ?_) (fun h => ?_))
    · replace hv := hv.1 h
      refine am_xn 1 (c1 := (19, [.ref 15, .ref 9, .int (zi o), .int (zi c), .int (zi q), .int (zi (cpt (iv M 11) o 0))], [.int (zi 1)], M)) rfl ?_
      exact am_xr (some (.int (zi 1))) ⟨rfl, rfl, .int, rfl, rfl⟩ hv
    · replace hv := hv.2 h
      refine am_xn 2 (c1 := (if zi (cpt (iv M 11) o 0) = zi 0 then 25 else 32, [.ref 15, .ref 9, .int (zi o), .int (zi c), .int (zi q), .int (zi (cpt (iv M 11) o 0))], [], M)) rfl (am_xeq (iv_r _ 11 _) (by decide) (fun h => by clear hv; exfalso; omega) (fun h => ?_))
      refine am_xn 3 (c1 := (if zi (cpt (iv M 11) o 0) = zi 3 then 38 else 54, [.ref 15, .ref 9, .int (zi o), .int (zi c), .int (zi q), .int (zi (cpt (iv M 11) o 0))], [], M)) rfl (am_xeq (iv_r _ 11 _) (by decide) (fun h => ?_) (fun h => ?_))
      · replace hv := hv.1 h
        refine am_xn 4 (c1 := (42, [.ref 15, .ref 9, .int (zi o), .int (zi c), .int (zi q), .int (zi (cpt (iv M 11) o 0))], [.int (zi 2), .int (zi o), .ref 9, .ref 15], M)) rfl ?_
        obtain ⟨g, hv⟩ := hv
        refine am_xc t_Amd_cell (.invokevirtual 75) 75 (av := [.ref 9, .int (zi o), .int (zi 2)]) (rest := [.ref 15]) (rv := some (.int (zi (cpt (iv M 11) o 2)))) (M' := M) rfl rfl rfl rfl (Nat.le_of_ble_eq_true rfl) (fun _ => rfl) (sp_c_cell M o 2 g) ?_
        refine am_xn 0 (c1 := (45, [.ref 15, .ref 9, .int (zi o), .int (zi c), .int (zi q), .int (zi (cpt (iv M 11) o 0))], [.int (zi (cpt (iv M 11) o 2)), .ref 15], M)) rfl ?_
        obtain ⟨r5, M4, hc, hv⟩ := hv
        refine am_xc t_Law_holder (.invokevirtual 79) 79 (av := [.ref 15, .int (zi (cpt (iv M 11) o 2))]) (rest := []) (rv := some (.int (zi r5))) (M' := M4) rfl rfl rfl rfl (Nat.le_of_ble_eq_true rfl) (fun _ => rfl) (hc) ?_
        refine am_xn 0 (c1 := (48, [.ref 15, .ref 9, .int (zi o), .int (zi c), .int (zi q), .int (zi (cpt (iv M 11) o 0))], [.int (zi r5)], M4)) rfl ?_
        obtain ⟨r6, hv⟩ := hv
        refine am_xn 2 (c1 := (if zi r5 = zi (-1) then 54 else 52, [.ref 15, .ref 9, .int (zi o), .int (zi c), .int (zi q), .int (zi (cpt (iv M 11) o 0))], [], M4)) rfl (am_xeq r6 (by decide) (fun h => ?_) (fun h => ?_))
        · replace hv := hv.1 h
          refine am_xn 3 (c1 := (if zi (cpt (iv M 11) o 0) = zi 4 then 60 else 76, [.ref 15, .ref 9, .int (zi o), .int (zi c), .int (zi q), .int (zi (cpt (iv M 11) o 0))], [], M4)) rfl (am_xeq (iv_r _ 11 _) (by decide) (fun h => by clear hv; exfalso; omega) (fun h => ?_))
          obtain ⟨r7, hv⟩ := hv
          refine am_xn 2 (c1 := (if zi q = zi 0 then 85 else 81, [.ref 15, .ref 9, .int (zi o), .int (zi c), .int (zi q), .int (zi (cpt (iv M 11) o 0))], [], M4)) rfl (am_xeq r7 (by decide) (fun h => ?_) (fun h => ?_))
          · replace hv := hv.1 h
            refine am_xn 1 (c1 := (86, [.ref 15, .ref 9, .int (zi o), .int (zi c), .int (zi q), .int (zi (cpt (iv M 11) o 0))], [.int (zi 4)], M4)) rfl ?_
            exact am_xr (some (.int (zi 4))) ⟨rfl, rfl, .int, rfl, rfl⟩ hv
          · replace hv := hv.2 h
            refine am_xn 2 (c1 := (86, [.ref 15, .ref 9, .int (zi o), .int (zi c), .int (zi q), .int (zi (cpt (iv M 11) o 0))], [.int (zi 0)], M4)) rfl ?_
            exact am_xr (some (.int (zi 0))) ⟨rfl, rfl, .int, rfl, rfl⟩ hv
        · replace hv := hv.2 h
          refine am_xn 1 (c1 := (53, [.ref 15, .ref 9, .int (zi o), .int (zi c), .int (zi q), .int (zi (cpt (iv M 11) o 0))], [.int (zi 2)], M4)) rfl ?_
          exact am_xr (some (.int (zi 2))) ⟨rfl, rfl, .int, rfl, rfl⟩ hv
      · replace hv := hv.2 h
        refine am_xn 3 (c1 := (if zi (cpt (iv M 11) o 0) = zi 4 then 60 else 76, [.ref 15, .ref 9, .int (zi o), .int (zi c), .int (zi q), .int (zi (cpt (iv M 11) o 0))], [], M)) rfl (am_xeq (iv_r _ 11 _) (by decide) (fun h => ?_) (fun h => ?_))
        · replace hv := hv.1 h
          refine am_xn 5 (c1 := (65, [.ref 15, .ref 9, .int (zi o), .int (zi c), .int (zi q), .int (zi (cpt (iv M 11) o 0))], [.int (zi 2), .int (zi o), .ref 9, .int (zi c), .ref 15], M)) rfl ?_
          obtain ⟨g, hv⟩ := hv
          refine am_xc t_Amd_cell (.invokevirtual 75) 75 (av := [.ref 9, .int (zi o), .int (zi 2)]) (rest := [.int (zi c), .ref 15]) (rv := some (.int (zi (cpt (iv M 11) o 2)))) (M' := M) rfl rfl rfl rfl (Nat.le_of_ble_eq_true rfl) (fun _ => rfl) (sp_c_cell M o 2 g) ?_
          refine am_xn 0 (c1 := (68, [.ref 15, .ref 9, .int (zi o), .int (zi c), .int (zi q), .int (zi (cpt (iv M 11) o 0))], [.int (zi (cpt (iv M 11) o 2)), .int (zi c), .ref 15], M)) rfl ?_
          obtain ⟨r9, M8, hc, hv⟩ := hv
          refine am_xc t_Law_contains (.invokevirtual 100) 100 (av := [.ref 15, .int (zi c), .int (zi (cpt (iv M 11) o 2))]) (rest := []) (rv := some (.int (zi r9))) (M' := M8) rfl rfl rfl rfl (Nat.le_of_ble_eq_true rfl) (fun _ => rfl) (hc) ?_
          refine am_xn 0 (c1 := (71, [.ref 15, .ref 9, .int (zi o), .int (zi c), .int (zi q), .int (zi (cpt (iv M 11) o 0))], [.int (zi r9)], M8)) rfl ?_
          obtain ⟨r10, hv⟩ := hv
          refine am_xn 1 (c1 := (if zi r9 = zi 0 then 74 else 76, [.ref 15, .ref 9, .int (zi o), .int (zi c), .int (zi q), .int (zi (cpt (iv M 11) o 0))], [], M8)) rfl (am_xeq r10 (by decide) (fun h => ?_) (fun h => ?_))
          · replace hv := hv.1 h
            refine am_xn 1 (c1 := (75, [.ref 15, .ref 9, .int (zi o), .int (zi c), .int (zi q), .int (zi (cpt (iv M 11) o 0))], [.int (zi 3)], M8)) rfl ?_
            exact am_xr (some (.int (zi 3))) ⟨rfl, rfl, .int, rfl, rfl⟩ hv
          · replace hv := hv.2 h
            obtain ⟨r11, hv⟩ := hv
            refine am_xn 2 (c1 := (if zi q = zi 0 then 85 else 81, [.ref 15, .ref 9, .int (zi o), .int (zi c), .int (zi q), .int (zi (cpt (iv M 11) o 0))], [], M8)) rfl (am_xeq r11 (by decide) (fun h => ?_) (fun h => ?_))
            · replace hv := hv.1 h
              refine am_xn 1 (c1 := (86, [.ref 15, .ref 9, .int (zi o), .int (zi c), .int (zi q), .int (zi (cpt (iv M 11) o 0))], [.int (zi 4)], M8)) rfl ?_
              exact am_xr (some (.int (zi 4))) ⟨rfl, rfl, .int, rfl, rfl⟩ hv
            · replace hv := hv.2 h
              refine am_xn 2 (c1 := (86, [.ref 15, .ref 9, .int (zi o), .int (zi c), .int (zi q), .int (zi (cpt (iv M 11) o 0))], [.int (zi 0)], M8)) rfl ?_
              exact am_xr (some (.int (zi 0))) ⟨rfl, rfl, .int, rfl, rfl⟩ hv
        · replace hv := hv.2 h
          obtain ⟨r12, hv⟩ := hv
          refine am_xn 2 (c1 := (if zi q = zi 0 then 85 else 81, [.ref 15, .ref 9, .int (zi o), .int (zi c), .int (zi q), .int (zi (cpt (iv M 11) o 0))], [], M)) rfl (am_xeq r12 (by decide) (fun h => ?_) (fun h => ?_))
          · replace hv := hv.1 h
            refine am_xn 1 (c1 := (86, [.ref 15, .ref 9, .int (zi o), .int (zi c), .int (zi q), .int (zi (cpt (iv M 11) o 0))], [.int (zi 4)], M)) rfl ?_
            exact am_xr (some (.int (zi 4))) ⟨rfl, rfl, .int, rfl, rfl⟩ hv
          · replace hv := hv.2 h
            refine am_xn 2 (c1 := (86, [.ref 15, .ref 9, .int (zi o), .int (zi c), .int (zi q), .int (zi (cpt (iv M 11) o 0))], [.int (zi 0)], M)) rfl ?_
            exact am_xr (some (.int (zi 0))) ⟨rfl, rfl, .int, rfl, rfl⟩ hv
set_option maxRecDepth 100000 in
theorem vc_l15_contains (c : Int) (w : Int) (M : am_M) (Q : Option Value → am_M → Prop) (hv : (0 ≤ c ∧ c < 40) ∧ (am_x t_Law_contains (20, [.ref 15, .null, .int (zi w), .null, .int (zi ((c * 6) + (iv M 21 c))), .int (zi (c * 6))], [], M) Q)) : am_x t_Law_contains (0, am_ent (am_mL t_Law_contains) [.ref 15, .int (zi c), .int (zi w)], [], M) Q := by
  refine am_xn 0 (c1 := (0, [.ref 15, .int (zi c), .int (zi w), .null, .null, .null], [], M)) rfl ?_
  refine am_ximul 3 c 6 (pc := 4) (ls := [.ref 15, .int (zi c), .int (zi w), .null, .null, .null]) (st := []) rfl ?_
  refine am_xn 5 (c1 := (11, [.ref 15, .int (zi c), .int (zi w), .int (zi (c * 6)), .null, .null], [.int (zi c), .ref 20, .int (zi (c * 6))], M)) rfl ?_
  obtain ⟨g, hv⟩ := hv
  refine am_xc t_Row_get (.invokevirtual 97) 97 (av := [.ref 20, .int (zi c)]) (rest := [.int (zi (c * 6))]) (rv := some (.int (zi (iv M 21 c)))) (M' := M) rfl rfl rfl rfl (Nat.le_of_ble_eq_true rfl) (fun _ => rfl) (sp_get_20 M c g) ?_
  refine am_xn 0 (c1 := (14, [.ref 15, .int (zi c), .int (zi w), .int (zi (c * 6)), .null, .null], [.int (zi (iv M 21 c)), .int (zi (c * 6))], M)) rfl ?_
  refine am_xiadd 1 (c * 6) (iv M 21 c) (pc := 15) (ls := [.ref 15, .int (zi c), .int (zi w), .int (zi (c * 6)), .null, .null]) (st := []) rfl ?_
  refine am_xn 3 (c1 := (20, [.ref 15, .int (zi c), .int (zi w), .int (zi (c * 6)), .int (zi ((c * 6) + (iv M 21 c))), .int (zi (c * 6))], [], M)) rfl ?_
  refine am_xf 1 ?_
  refine am_xf 3 ?_
  exact hv
set_option maxRecDepth 100000 in
theorem vc_l15_contains_20 (x2 : Int) (x4 : Int) (x5 : Int) (M : am_M) (Q : Option Value → am_M → Prop) (hv : zr x5 ∧ (zr x4 ∧ ((x5 < x4 → (0 ≤ x5 ∧ x5 < 240) ∧ (zr x2 ∧ (((iv M 23 x5) = x2 → Q (some (.int (zi 1))) M) ∧ (¬ (iv M 23 x5) = x2 → am_x t_Law_contains (20, [.ref 15, .null, .int (zi x2), .null, .int (zi x4), .int (zi (x5 + 1))], [], M) Q)))) ∧ (x4 ≤ x5 → Q (some (.int (zi 0))) M)))) : am_x t_Law_contains (20, [.ref 15, .null, .int (zi x2), .null, .int (zi x4), .int (zi x5)], [], M) Q := by
  obtain ⟨r1, hv⟩ := hv
  obtain ⟨r2, hv⟩ := hv
  refine am_xn 3 (c1 := (if zi x5 < zi x4 then 27 else 48, [.ref 15, .null, .int (zi x2), .null, .int (zi x4), .int (zi x5)], [], M)) rfl (am_xlt r1 r2 (fun h => ?_) (fun h => ?_))
  · replace hv := hv.1 h
    refine am_xn 3 (c1 := (33, [.ref 15, .null, .int (zi x2), .null, .int (zi x4), .int (zi x5)], [.int (zi x5), .ref 22], M)) rfl ?_
    obtain ⟨g, hv⟩ := hv
    refine am_xc t_Row_get (.invokevirtual 97) 97 (av := [.ref 22, .int (zi x5)]) (rest := []) (rv := some (.int (zi (iv M 23 x5)))) (M' := M) rfl rfl rfl rfl (Nat.le_of_ble_eq_true rfl) (fun _ => rfl) (sp_get_22 M x5 g) ?_
    refine am_xn 0 (c1 := (36, [.ref 15, .null, .int (zi x2), .null, .int (zi x4), .int (zi x5)], [.int (zi (iv M 23 x5))], M)) rfl ?_
    obtain ⟨r3, hv⟩ := hv
    refine am_xn 2 (c1 := (if zi (iv M 23 x5) = zi x2 then 40 else 42, [.ref 15, .null, .int (zi x2), .null, .int (zi x4), .int (zi x5)], [], M)) rfl (am_xeq (iv_r _ _ _) r3 (fun h => ?_) (fun h => ?_))
    · replace hv := hv.1 h
      refine am_xn 1 (c1 := (41, [.ref 15, .null, .int (zi x2), .null, .int (zi x4), .int (zi x5)], [.int (zi 1)], M)) rfl ?_
      exact am_xr (some (.int (zi 1))) ⟨rfl, rfl, .boolean, rfl, rfl⟩ hv
    · replace hv := hv.2 h
      refine am_xn 1 (c1 := (45, [.ref 15, .null, .int (zi x2), .null, .int (zi x4), .int (zi x5 + zi 1)], [], M)) rfl ?_
      rw [zi_add]
      refine am_xn 1 (c1 := (20, [.ref 15, .null, .int (zi x2), .null, .int (zi x4), .int (zi (x5 + 1))], [], M)) rfl ?_
      exact hv
  · replace hv := hv.2 h
    refine am_xn 1 (c1 := (49, [.ref 15, .null, .int (zi x2), .null, .int (zi x4), .int (zi x5)], [.int (zi 0)], M)) rfl ?_
    exact am_xr (some (.int (zi 0))) ⟨rfl, rfl, .boolean, rfl, rfl⟩ hv
def CLR15 (L : Lw) (M : am_M) : Prop :=
  (∀ c, 0 ≤ c → c < 40 → iv M 17 c = L.code c) ∧
  (∀ c, 0 ≤ c → c < 40 → ¬ L.code c = 0 → iv M 21 c = L.len c ∧ iv M 19 c = L.lst c ∧ ∀ k, 0 ≤ k → k < L.len c → iv M 23 (c * 6 + k) = L.tx c k) ∧
  (∀ o, 0 ≤ o → o < 120 → (iv M 27 o = if L.rs o = -1 then 5 else L.rs o) ∧ iv M 29 o = L.af o) ∧
  iv M 15 10 = L.ef.length ∧ (∀ i : Nat, i < L.ef.length → iv M 31 i = L.ef.getD i 0)
theorem sp_l15_holder {L : Lw} {M : am_M} (v : VL L) (r : CLR15 L M) {x : Int} (hx : ¬ x = 0) (xz : zr x) : am_call t_Law_holder [.ref 15, .int (zi x)] M (some (.int (zi (hold L x)))) M := by
  refine am_call_of ⟨Nat.le_of_ble_eq_true rfl, rfl⟩ (vc_l15_holder x M _ ?_)
  refine loop_up (fun i (s : Int) => (2, [.ref 15, .int (zi x), .int (zi i)], [], M)) 40 (fun i s => ∀ c, 0 ≤ c → c < i → ¬ L.code c = x) ?_ ?_ 0 0 (by omega) (by omega) (fun c c0 c1 => by omega)
  · intro s hs
    refine vc_l15_holder_2 _ _ M _ ⟨by decide, fun h => by omega, fun _ => ⟨?_, rfl⟩⟩
    rw [hold_eq v hx (Or.inl ⟨rfl, hs⟩)]
  · intro i s i0 i1 hs k
    refine vc_l15_holder_2 _ _ M _ ⟨⟨by omega, by omega⟩, fun h => ⟨⟨i0, i1⟩, xz, fun q => ⟨?_, rfl⟩, fun q => k s (fun c c0 c1 => ?_)⟩, fun h => by omega⟩
    · rw [r.1 i i0 i1] at q
      rw [hold_eq v hx (Or.inr ⟨i0, i1, q⟩)]
    · rw [r.1 i i0 i1] at q
      by_cases e : c = i
      · rw [e]; exact q
      · exact hs c c0 (by omega)
theorem sp_l15_contains {L : Lw} {M : am_M} (v : VL L) (r : CLR15 L M) {c x : Int} (c0 : 0 ≤ c) (c1 : c < 40) (n : ¬ L.code c = 0) (xz : zr x) : am_call t_Law_contains [.ref 15, .int (zi c), .int (zi x)] M (some (.int (zi (bz (has L c x))))) M := by
  obtain ⟨e1, _, e3⟩ := r.2.1 c c0 c1 n
  have ln := v.ln c c0 c1 n
  refine am_call_of ⟨Nat.le_of_ble_eq_true rfl, rfl⟩ (vc_l15_contains c x M _ ⟨⟨c0, c1⟩, ?_⟩)
  rw [e1]
  refine loop_up (fun i (s : Int) => (20, [.ref 15, .null, .int (zi x), .null, .int (zi (c * 6 + L.len c)), .int (zi i)], [], M)) (c * 6 + L.len c) (fun i s => c * 6 ≤ i ∧ ∀ k, 0 ≤ k → k < i - c * 6 → ¬ L.tx c k = x) ?_ ?_ (c * 6) 0 (by omega) (by omega) ⟨Int.le_refl _, fun k k0 k1 => by omega⟩
  · intro s ⟨_, hs⟩
    refine vc_l15_contains_20 _ _ _ M _ ⟨⟨by omega, by omega⟩, ⟨by omega, by omega⟩, fun h => by omega, fun _ => ⟨?_, rfl⟩⟩
    have : bz (has L c x) = 0 := bz_f (by rintro ⟨k, k0, k1, k2⟩; exact hs k k0 (by omega) k2)
    rw [this]
  · intro i s i0 i1 ⟨i2, hs⟩ k
    have et := e3 (i - c * 6) (by omega) (by omega)
    rw [show c * 6 + (i - c * 6) = i by omega] at et
    refine vc_l15_contains_20 _ _ _ M _ ⟨⟨by omega, by omega⟩, ⟨by omega, by omega⟩, fun h => ⟨⟨i0, by omega⟩, xz, fun q => ⟨?_, rfl⟩, fun q => k s ⟨by omega, fun j j0 j1 => ?_⟩⟩, fun h => by omega⟩
    · have : bz (has L c x) = 1 := bz_t ⟨i - c * 6, by omega, by omega, by rw [← et]; exact q⟩
      rw [this]
    · rw [et] at q
      by_cases e : j = i - c * 6
      · rw [e]; exact q
      · exact hs j j0 (by omega)
theorem sp_l15_resolves {L : Lw} {M : am_M} {b : Int → Int} {o : Int} (v : VL L) (r : CLR15 L M) (co : CO (iv M 11) b o) (wo : WO (pt b o)) (g0 : 0 ≤ o) (g1 : o < 120) :
    ∃ M', am_call t_Law_resolves [.ref 15, .ref 9, .int (zi o)] M (some (.int (zi (bz (rfd b L o))))) M' ∧ (∀ a, ¬ a = 33 → M' a = M a) ∧ (rfd b L o → ∀ k, 0 ≤ k → k < pt b o 5 → iv M' 33 k = wd b L o k) := by
  suffices h : am_x t_Law_resolves (0, am_ent (am_mL t_Law_resolves) [.ref 15, .ref 9, .int (zi o)], [], M) (fun r M' => r = some (.int (zi (bz (rfd b L o)))) ∧ (∀ a, ¬ a = 33 → M' a = M a) ∧ (rfd b L o → ∀ k, 0 ≤ k → k < pt b o 5 → iv M' 33 k = wd b L o k)) by
    obtain ⟨r, M', h1, h2, h3⟩ := am_call_ex (by exact ⟨Nat.le_of_ble_eq_true rfl, rfl⟩) h
    subst h2
    exact ⟨M', h1, h3⟩
  obtain ⟨q0, q1, q2, q3, q4, q5, q6, q7⟩ := co
  have ln := wo.ln
  have ww := wo.wd
  refine vc_l15_resolves o M _ ?_
  refine loop_up (fun i (s : am_M) => (2, [.ref 15, .ref 9, .int (zi o), .int (zi i), .null, .null], [], s)) (pt b o 5) (fun i s => (∀ a, ¬ a = 33 → s a = M a) ∧ (∀ k, 0 ≤ k → k < i → pt b o (6 + k) < 1000 ∨ ¬ hold L (pt b o (6 + k) - 1000) = -1) ∧ ∀ k, 0 ≤ k → k < i → iv s 33 k = wd b L o k) ?_ ?_ 0 M (by omega) ln.1 ⟨fun _ _ => rfl, fun k k0 k1 => by omega, fun k k0 k1 => by omega⟩
  · intro s ⟨s1, s2, s3⟩
    have s11 := iv_row (s1 11 (by decide))
    refine vc_l15_resolves_2 _ _ s _ ⟨⟨g0, g1, by omega, by omega⟩, ⟨by omega, by omega⟩, fun h => by rw [s11, q5] at h; omega, fun _ => ⟨?_, s1, fun _ => s3⟩⟩
    have : bz (rfd b L o) = 1 := bz_t s2
    rw [this]
  · intro i s i0 i1 ⟨s1, s2, s3⟩ k
    have s11 := iv_row (s1 11 (by decide))
    have w1 := ww i i0 i1
    have cr : CLR15 L s := by
      unfold CLR15 at r ⊢
      rw [iv_row (s1 17 (by decide)), iv_row (s1 21 (by decide)), iv_row (s1 19 (by decide)), iv_row (s1 23 (by decide)), iv_row (s1 27 (by decide)), iv_row (s1 29 (by decide)), iv_row (s1 15 (by decide)), iv_row (s1 31 (by decide))]
      exact r
    have step : ∀ M2, M2 = zup s 33 i (wd b L o i) → (pt b o (6 + i) < 1000 ∨ ¬ hold L (pt b o (6 + i) - 1000) = -1) → (∀ a, ¬ a = 33 → M2 a = M a) ∧ (∀ k, 0 ≤ k → k < i + 1 → pt b o (6 + k) < 1000 ∨ ¬ hold L (pt b o (6 + k) - 1000) = -1) ∧ ∀ k, 0 ≤ k → k < i + 1 → iv M2 33 k = wd b L o k := by
      intro M2 e2 hq
      have wz : zr (wd b L o i) := by
        unfold wd
        have := hold_rg L (pt b o (6 + i) - 1000)
        split <;> omega
      refine ⟨fun a ha => by rw [e2, zupr _ ha, s1 a ha], fun k k0 k1 => ?_, fun k k0 k1 => ?_⟩
      · by_cases e : k = i
        · rw [e]; exact hq
        · exact s2 k k0 (by omega)
      · rw [e2, ivs _ _ i0 k0 wz]
        by_cases e : k = i
        · rw [if_pos e, e]
        · rw [if_neg e]; exact s3 k k0 (by omega)
    refine vc_l15_resolves_2 _ _ s _ ⟨⟨g0, g1, by omega, by omega⟩, ⟨by omega, by omega⟩, fun h => ⟨⟨g0, g1, by omega, by omega⟩, ?_⟩, fun h => by rw [s11, q5] at h; omega⟩
    rw [s11, q7 i i0 i1]
    refine ⟨fun q => ⟨⟨i0, by omega⟩, fun M2 e2 => k M2 (step M2 (by rw [e2, wd, if_pos q]) (Or.inl q))⟩, fun q => ⟨_, s, sp_l15_holder v cr (x := pt b o (6 + i) - 1000) (by omega) ⟨by omega, by omega⟩, ?_, fun z => ⟨?_, s1, fun rf => ?_⟩, fun z => ⟨⟨i0, by omega⟩, fun M6 e6 => k M6 (step M6 (by rw [e6, wd, if_neg (by omega)]) (Or.inr z))⟩⟩⟩
    · have := hold_rg L (pt b o (6 + i) - 1000)
      exact ⟨by omega, by omega⟩
    · have : bz (rfd b L o) = 0 := bz_f (fun y => by rcases y i i0 i1 with u | u; · omega
                                                     · exact u z)
      rw [this]
    · rcases rf i i0 i1 with u | u
      · omega
      · exact absurd z u
theorem sp_l15_reason {L : Lw} {M : am_M} {b : Int → Int} {o : Int} (v : VL L) (r : CLR15 L M) (co : CO (iv M 11) b o) (wo : WO (pt b o)) (g0 : 0 ≤ o) (g1 : o < 120) :
    am_call t_Law_reason [.ref 15, .ref 9, .int (zi o), .int (zi (hold L (pt b o 1))), .int (zi (bz (rfd b L o)))] M (some (.int (zi (rsn b L o)))) M := by
  obtain ⟨q0, q1, q2, q3, q4, q5, q6, q7⟩ := co
  have wk := wo.kd
  have wc := wo.cd
  have hr := hold_rg L (pt b o 1)
  have hz : zr (hold L (pt b o 1)) := ⟨by omega, by omega⟩
  have bzz : zr (bz (rfd b L o)) := by rcases bz_01 (rfd b L o) with e | e <;> (rw [e]; decide)
  refine am_call_of ⟨Nat.le_of_ble_eq_true rfl, rfl⟩ (vc_l15_reason o _ _ M _ ?_)
  rw [q0]
  have y : ∀ n, rsn b L o = n → (some (Value.int (zi n)) = some (.int (zi (rsn b L o))) ∧ M = M) := fun n h => ⟨by rw [h], rfl⟩
  have last : ¬ (¬ pt b o 0 = 0 ∧ hold L (pt b o 1) = -1) → ¬ ((pt b o 0 = 0 ∧ ¬ hold L (pt b o 1) = -1) ∨ (pt b o 0 = 3 ∧ ¬ hold L (pt b o 2) = -1)) → ¬ (pt b o 0 = 4 ∧ ¬ has L (hold L (pt b o 1)) (pt b o 2)) → (bz (rfd b L o) = 0 → rsn b L o = 4) ∧ (¬ bz (rfd b L o) = 0 → rsn b L o = 0) := by
    intro a1 a2 a3
    unfold rsn
    rw [if_neg a1, if_neg a2, if_neg a3]
    constructor
    · intro z
      by_cases u : rfd b L o
      · rw [bz_t u] at z; omega
      · exact if_pos u
    · intro z
      by_cases u : rfd b L o
      · exact if_neg (fun w => w u)
      · exact absurd (bz_f u) z
  refine ⟨⟨g0, g1, by omega, by omega⟩, fun k0 => ⟨hz, fun e => ?_, fun e => y 2 ?_⟩, fun k0 => ⟨hz, fun e => y 1 (if_pos ⟨k0, e⟩), fun e => ⟨fun k3 => ⟨⟨g0, g1, by omega, by omega⟩, ?_⟩, fun k3 => ⟨fun k4 => ⟨⟨g0, g1, by omega, by omega⟩, ?_⟩, fun k4 => ?_⟩⟩⟩⟩
  · have l := last (fun z => z.1 k0) (by omega) (fun z => by have := z.1; omega)
    exact ⟨bzz, fun z => y 4 (l.1 z), fun z => y 0 (l.2 z)⟩
  · unfold rsn
    rw [if_neg (fun z => z.1 k0), if_pos (Or.inl ⟨k0, e⟩)]
  · have f3 := wo.f3 k3
    have fs := wo.fs
    rw [q2, if_pos (by omega)]
    have hr2 := hold_rg L (pt b o 2)
    refine ⟨_, M, sp_l15_holder v r (x := pt b o 2) (by omega) ⟨by omega, by omega⟩, ⟨by omega, by omega⟩, fun z => ?_, fun z => y 2 ?_⟩
    · have l := last (fun z => e z.2) (by omega) (fun z => by have := z.1; omega)
      exact ⟨bzz, fun z => y 4 (l.1 z), fun z => y 0 (l.2 z)⟩
    · unfold rsn
      rw [if_neg (fun z => e z.2), if_pos (Or.inr ⟨k3, z⟩)]
  · have f4 := wo.f4 k4
    have fs := wo.fs
    have hc := hold_cd e
    rw [q2, if_pos (by omega)]
    refine ⟨_, M, sp_l15_contains v r (x := pt b o 2) hc.1 hc.2.1 (by omega) ⟨by omega, by omega⟩, ?_, fun z => y 3 ?_, fun z => ?_⟩
    · rcases bz_01 (has L (hold L (pt b o 1)) (pt b o 2)) with u | u <;> (rw [u]; decide)
    · unfold rsn
      rw [if_neg (fun z => e z.2), if_neg (by omega)]
      exact if_pos ⟨k4, fun u => by rw [bz_t u] at z; omega⟩
    · have l := last (fun z => e z.2) (by omega) (fun u => by rw [bz_f u.2] at z; exact z rfl)
      exact ⟨bzz, fun z => y 4 (l.1 z), fun z => y 0 (l.2 z)⟩
  · have l := last (fun z => e z.2) (by omega) (fun z => k4 z.1)
    exact ⟨bzz, fun z => y 4 (l.1 z), fun z => y 0 (l.2 z)⟩
