/-! histories, fewest revocations -/
/-- the k-th of a list with a property; none: -1 -/
noncomputable def kth (p : Int → Prop) : List Int → Int → Int
  | [], _ => -1
  | x :: l, k => @ite _ (p x) (Classical.propDecidable _) (if k = 0 then x else kth p l (k - 1)) (kth p l k)
theorem kth_t {p : Int → Prop} {x : Int} {l : List Int} {k : Int} (h : p x) : kth p (x :: l) k = if k = 0 then x else kth p l (k - 1) := if_pos h
theorem kth_f {p : Int → Prop} {x : Int} {l : List Int} {k : Int} (h : ¬ p x) : kth p (x :: l) k = kth p l k := if_neg h
theorem kth_filter (p q : Int → Prop) (d : Int → Bool) (hd : ∀ x, d x = true ↔ q x) : ∀ (l : List Int) (k : Int), kth p (l.filter d) k = kth (fun x => q x ∧ p x) l k := by
  intro l
  induction l with
  | nil => intro k; rfl
  | cons x l ih =>
    intro k
    by_cases hq : q x
    · rw [List.filter_cons_of_pos ((hd x).mpr hq)]
      by_cases hp : p x
      · rw [kth_t hp, kth_t (p := fun x => q x ∧ p x) ⟨hq, hp⟩, ih]
      · rw [kth_f hp, kth_f (p := fun x => q x ∧ p x) (fun z => hp z.2), ih]
    · rw [List.filter_cons_of_neg (fun z => hq ((hd x).mp z)), kth_f (p := fun x => q x ∧ p x) (fun z => hq z.1), ih]
theorem kth_mem (p : Int → Prop) : ∀ (l : List Int) (k : Int), kth p l k = -1 ∨ kth p l k ∈ l := by
  intro l
  induction l with
  | nil => intro k; exact Or.inl rfl
  | cons x l ih =>
    intro k
    by_cases hp : p x
    · rw [kth_t hp]
      split
      · exact Or.inr (List.mem_cons_self ..)
      · exact (ih (k - 1)).imp id (fun h => List.mem_cons_of_mem _ h)
    · rw [kth_f hp]
      exact (ih k).imp id (fun h => List.mem_cons_of_mem _ h)
theorem drop_s {l : List Int} {i : Nat} (h : i < l.length) : l.drop i = l.getD i 0 :: l.drop (i + 1) := by
  rw [List.drop_eq_getElem_cons h, List.getD_eq_getElem?_getD, List.getElem?_eq_getElem h]
  rfl
theorem getD_mem {l : List Int} {i : Nat} (h : i < l.length) : l.getD i 0 ∈ l := by
  rw [List.getD_eq_getElem?_getD, List.getElem?_eq_getElem h]
  exact List.getElem_mem h
noncomputable def hop (b : Int → Int) (x k : Int) : Int := kth (fun o => (lw b 9999 (-1)).rs o = 0 ∧ (lw b 9999 (-1)).af o = x) (lw b 9999 (-1)).sq k
noncomputable def hsv (b : Int → Int) (x k y : Int) : Int := if hop b x k = -1 then -1 else if y = 0 then b (1 + amo b (hop b x k)) else if y = 1 then pt b (hop b x k) 0 else amo b (hop b x k)
theorem lw_J {b : Int → Int} (w : WB b) : (∀ o, o ∈ (lw b 9999 (-1)).sq → 0 ≤ o ∧ o < nops b) ∧ (lw b 9999 (-1)).ef = (lw b 9999 (-1)).sq.filter (fun o => decide ((lw b 9999 (-1)).rs o = 0)) ∧ (lw b 9999 (-1)).sq.length ≤ 120 := by
  obtain ⟨j, h⟩ := con_is (off := rvk b) (day := 9999) (cas := -1) w
  exact ⟨fun o ho => ⟨(j.2.2.1 o ho).1, (j.2.2.1 o ho).2.1⟩, j.2.2.2, h⟩
set_option maxRecDepth 100000 in
theorem vc_effectOn (x : Int) (k : Int) (M : am_M) (Q : Option Value → am_M → Prop) (hv : am_x t_Law_effectOn (5, [.ref 15, .int (zi x), .int (zi k), .int (zi 0), .int (zi 0), .null], [], M) Q) : am_x t_Law_effectOn (0, am_ent (am_mL t_Law_effectOn) [.ref 15, .int (zi x), .int (zi k)], [], M) Q := by
  refine am_xn 0 (c1 := (0, [.ref 15, .int (zi x), .int (zi k), .null, .null, .null], [], M)) rfl ?_
  refine am_xn 4 (c1 := (5, [.ref 15, .int (zi x), .int (zi k), .int (zi 0), .int (zi 0), .null], [], M)) rfl ?_
  exact hv
set_option maxRecDepth 100000 in
theorem vc_effectOn_5 (x1 : Int) (x2 : Int) (x3 : Int) (x4 : Int) (M : am_M) (Q : Option Value → am_M → Prop) (hv : (zr x4) ∧ ((x4 < (iv M 15 10) → (0 ≤ x4 ∧ x4 < 120) ∧ ((0 ≤ (iv M 31 x4) ∧ (iv M 31 x4) < 120) ∧ ((zr x1) ∧ (((iv M 29 (iv M 31 x4)) = x1 → (zr x3) ∧ ((zr x2) ∧ ((x3 = x2 → Q (some (.int (zi (iv M 31 x4)))) M) ∧ (¬ x3 = x2 → am_x t_Law_effectOn (5, [.ref 15, .int (zi x1), .int (zi x2), .int (zi (x3 + 1)), .int (zi (x4 + 1)), .null], [], M) Q)))) ∧ (¬ (iv M 29 (iv M 31 x4)) = x1 → am_x t_Law_effectOn (5, [.ref 15, .int (zi x1), .int (zi x2), .int (zi x3), .int (zi (x4 + 1)), .null], [], M) Q))))) ∧ ((iv M 15 10) ≤ x4 → Q (some (.int (zi (-1)))) M))) : am_x t_Law_effectOn (5, [.ref 15, .int (zi x1), .int (zi x2), .int (zi x3), .int (zi x4), .null], [], M) Q := by
  refine am_xrd 3 15 10 (pc := 11) (ls := [.ref 15, .int (zi x1), .int (zi x2), .int (zi x3), .int (zi x4), .null]) (st := [.int (zi x4)]) rfl ?_
  obtain ⟨r1, hv⟩ := hv
  refine am_xn 1 (c1 := (if zi x4 < zi (iv M 15 10) then 14 else 52, [.ref 15, .int (zi x1), .int (zi x2), .int (zi x3), .int (zi x4), .null], [], M)) rfl (am_xlt r1 (iv_r _ _ _) (fun h => ?_) (fun h => ?_))
  · replace hv := hv.1 h
    refine am_xn 3 (c1 := (20, [.ref 15, .int (zi x1), .int (zi x2), .int (zi x3), .int (zi x4), .null], [.int (zi x4), .ref 30], M)) rfl ?_
    obtain ⟨g, hv⟩ := hv
    refine am_xc t_Row_get (.invokevirtual 97) 97 (av := [.ref 30, .int (zi x4)]) (rest := []) (rv := some (.int (zi (iv M 31 x4)))) (M' := M) rfl rfl rfl rfl (Nat.le_of_ble_eq_true rfl) (fun _ => rfl) (sp_get_30 M x4 g) ?_
    refine am_xn 0 (c1 := (23, [.ref 15, .int (zi x1), .int (zi x2), .int (zi x3), .int (zi x4), .null], [.int (zi (iv M 31 x4))], M)) rfl ?_
    refine am_xn 3 (c1 := (28, [.ref 15, .int (zi x1), .int (zi x2), .int (zi x3), .int (zi x4), .int (zi (iv M 31 x4))], [.int (zi (iv M 31 x4)), .ref 15], M)) rfl ?_
    obtain ⟨g, hv⟩ := hv
    refine am_xc t_Law_affected (.invokevirtual 132) 132 (av := [.ref 15, .int (zi (iv M 31 x4))]) (rest := []) (rv := some (.int (zi (iv M 29 (iv M 31 x4))))) (M' := M) rfl rfl rfl rfl (Nat.le_of_ble_eq_true rfl) (fun _ => rfl) (sp_l15_affected M (iv M 31 x4) g) ?_
    refine am_xn 0 (c1 := (31, [.ref 15, .int (zi x1), .int (zi x2), .int (zi x3), .int (zi x4), .int (zi (iv M 31 x4))], [.int (zi (iv M 29 (iv M 31 x4)))], M)) rfl ?_
    obtain ⟨r2, hv⟩ := hv
    refine am_xn 2 (c1 := (if zi (iv M 29 (iv M 31 x4)) = zi x1 then 35 else 46, [.ref 15, .int (zi x1), .int (zi x2), .int (zi x3), .int (zi x4), .int (zi (iv M 31 x4))], [], M)) rfl (am_xeq (iv_r _ _ _) r2 (fun h => ?_) (fun h => ?_))
    · replace hv := hv.1 h
      obtain ⟨r3, hv⟩ := hv
      obtain ⟨r4, hv⟩ := hv
      refine am_xn 3 (c1 := (if zi x3 = zi x2 then 40 else 43, [.ref 15, .int (zi x1), .int (zi x2), .int (zi x3), .int (zi x4), .int (zi (iv M 31 x4))], [], M)) rfl (am_xeq r3 r4 (fun h => ?_) (fun h => ?_))
      · replace hv := hv.1 h
        refine am_xn 1 (c1 := (42, [.ref 15, .int (zi x1), .int (zi x2), .int (zi x3), .int (zi x4), .int (zi (iv M 31 x4))], [.int (zi (iv M 31 x4))], M)) rfl ?_
        exact am_xr (some (.int (zi (iv M 31 x4)))) ⟨rfl, rfl, .int, rfl, rfl⟩ hv
      · replace hv := hv.2 h
        refine am_xn 1 (c1 := (46, [.ref 15, .int (zi x1), .int (zi x2), .int (zi x3 + zi 1), .int (zi x4), .int (zi (iv M 31 x4))], [], M)) rfl ?_
        rw [zi_add]
        refine am_xn 1 (c1 := (49, [.ref 15, .int (zi x1), .int (zi x2), .int (zi (x3 + 1)), .int (zi x4 + zi 1), .int (zi (iv M 31 x4))], [], M)) rfl ?_
        rw [zi_add]
        refine am_xn 1 (c1 := (5, [.ref 15, .int (zi x1), .int (zi x2), .int (zi (x3 + 1)), .int (zi (x4 + 1)), .int (zi (iv M 31 x4))], [], M)) rfl ?_
        refine am_xf 5 ?_
        exact hv
    · replace hv := hv.2 h
      refine am_xn 1 (c1 := (49, [.ref 15, .int (zi x1), .int (zi x2), .int (zi x3), .int (zi x4 + zi 1), .int (zi (iv M 31 x4))], [], M)) rfl ?_
      rw [zi_add]
      refine am_xn 1 (c1 := (5, [.ref 15, .int (zi x1), .int (zi x2), .int (zi x3), .int (zi (x4 + 1)), .int (zi (iv M 31 x4))], [], M)) rfl ?_
      refine am_xf 5 ?_
      exact hv
  · replace hv := hv.2 h
    refine am_xn 1 (c1 := (53, [.ref 15, .int (zi x1), .int (zi x2), .int (zi x3), .int (zi x4), .null], [.int (zi (-1))], M)) rfl ?_
    exact am_xr (some (.int (zi (-1)))) ⟨rfl, rfl, .int, rfl, rfl⟩ hv
set_option maxRecDepth 100000 in
theorem vc_c_history (x : Int) (k : Int) (w : Int) (M : am_M) (Q : Option Value → am_M → Prop) (hv : (zr x) ∧ ((0 ≤ x ∧ x < iv M 11 2 → (zr k) ∧ ((k < 0 → Q (some (.int (zi (-2)))) M) ∧ (0 ≤ k → (zr w ∧ zr (2 : Int)) ∧ ((0 ≤ w ∧ w ≤ 2 → ∃ M2, am_call t_SB_consolidateFully [.ref 0] M none M2 ∧ (∃ (r4 : Int) (M3 : am_M), am_call t_Law_effectOn [.ref 15, .int (zi x), .int (zi k)] M2 (some (.int (zi r4))) M3 ∧ ((zr r4) ∧ ((r4 = (-1) → Q (some (.int (zi (-1)))) M3) ∧ (¬ r4 = (-1) → ∃ (r7 : Int) (M6 : am_M), am_call t_Amd_amendmentOf [.ref 9, .int (zi r4)] M3 (some (.int (zi r7))) M6 ∧ ((zr w) ∧ ((w = 0 → (0 ≤ r7 ∧ r7 ≤ 20) ∧ (Q (some (.int (zi (iv M6 11 (4 + r7))))) M6)) ∧ (w = 1 → (0 ≤ r4 ∧ r4 < 120 ∧ 0 ≤ (0 : Int) ∧ (0 : Int) < 13) ∧ (Q (some (.int (zi (cpt (iv M6 11) r4 0)))) M6)) ∧ (¬ w = 0 → ¬ w = 1 → Q (some (.int (zi r7))) M6)))))))) ∧ (¬ (0 ≤ w ∧ w ≤ 2) → Q (some (.int (zi (-2)))) M))))) ∧ (¬ (0 ≤ x ∧ x < iv M 11 2) → Q (some (.int (zi (-2)))) M))) : am_x t_SB_history (0, am_ent (am_mL t_SB_history) [.ref 0, .int (zi x), .int (zi k), .int (zi w)], [], M) Q := by
  refine am_xn 0 (c1 := (0, [.ref 0, .int (zi x), .int (zi k), .int (zi w), .null, .null], [], M)) rfl ?_
  refine am_xn 2 (c1 := (2, [.ref 0, .int (zi x), .int (zi k), .int (zi w), .null, .null], [.int (zi x), .ref 0], M)) rfl ?_
  obtain ⟨g, hv⟩ := hv
  by_cases c10 : 0 ≤ x ∧ x < iv M 11 2
  · replace hv := hv.1 c10
    refine am_xc t_SB_isIdentity (.invokevirtual 208) 208 (av := [.ref 0, .int (zi x)]) (rest := []) (rv := some (.int (zi 1))) (M' := M) rfl rfl rfl rfl (Nat.le_of_ble_eq_true rfl) (fun _ => rfl) (by have q := sp_c_isIdentity M x g; rwa [if_pos c10] at q) ?_
    refine am_xn 0 (c1 := (5, [.ref 0, .int (zi x), .int (zi k), .int (zi w), .null, .null], [.int (zi 1)], M)) rfl ?_
    obtain ⟨r1, hv⟩ := hv
    refine am_xn 3 (c1 := (if zi k < zi 0 then 20 else 12, [.ref 0, .int (zi x), .int (zi k), .int (zi w), .null, .null], [], M)) rfl (am_xlt r1 (by decide) (fun h => ?_) (fun h => ?_))
    · replace hv := hv.1 h
      refine am_xn 1 (c1 := (22, [.ref 0, .int (zi x), .int (zi k), .int (zi w), .null, .null], [.int (zi (-2))], M)) rfl ?_
      exact am_xr (some (.int (zi (-2)))) ⟨rfl, rfl, .int, rfl, rfl⟩ hv
    · replace hv := hv.2 h
      refine am_xn 2 (c1 := (14, [.ref 0, .int (zi x), .int (zi k), .int (zi w), .null, .null], [.int (zi 2), .int (zi w)], M)) rfl ?_
      obtain ⟨g, hv⟩ := hv
      by_cases c9 : 0 ≤ w ∧ w ≤ 2
      · replace hv := hv.1 c9
        refine am_xc t_SB_within (.invokestatic 56) 56 (av := [.int (zi w), .int (zi 2)]) (rest := []) (rv := some (.int (zi 1))) (M' := M) rfl rfl rfl rfl (Nat.le_of_ble_eq_true rfl) (fun h => nomatch h) (by have q := sp_within M w 2 g; rwa [if_pos c9] at q) ?_
        refine am_xn 0 (c1 := (17, [.ref 0, .int (zi x), .int (zi k), .int (zi w), .null, .null], [.int (zi 1)], M)) rfl ?_
        refine am_xn 2 (c1 := (24, [.ref 0, .int (zi x), .int (zi k), .int (zi w), .null, .null], [.ref 0], M)) rfl ?_
        obtain ⟨M2, hc, hv⟩ := hv
        refine am_xc t_SB_consolidateFully (.invokevirtual 128) 128 (av := [.ref 0]) (rest := []) (rv := none) (M' := M2) rfl rfl rfl rfl (Nat.le_of_ble_eq_true rfl) (fun _ => rfl) (hc) ?_
        refine am_xn 0 (c1 := (27, [.ref 0, .int (zi x), .int (zi k), .int (zi w), .null, .null], [], M2)) rfl ?_
        refine am_xn 4 (c1 := (33, [.ref 0, .int (zi x), .int (zi k), .int (zi w), .null, .null], [.int (zi k), .int (zi x), .ref 15], M2)) rfl ?_
        obtain ⟨r4, M3, hc, hv⟩ := hv
        refine am_xc t_Law_effectOn (.invokevirtual 211) 211 (av := [.ref 15, .int (zi x), .int (zi k)]) (rest := []) (rv := some (.int (zi r4))) (M' := M3) rfl rfl rfl rfl (Nat.le_of_ble_eq_true rfl) (fun _ => rfl) (hc) ?_
        refine am_xn 0 (c1 := (36, [.ref 0, .int (zi x), .int (zi k), .int (zi w), .null, .null], [.int (zi r4)], M3)) rfl ?_
        obtain ⟨r5, hv⟩ := hv
        refine am_xn 4 (c1 := (if zi r4 = zi (-1) then 44 else 46, [.ref 0, .int (zi x), .int (zi k), .int (zi w), .int (zi r4), .null], [], M3)) rfl (am_xeq r5 (by decide) (fun h => ?_) (fun h => ?_))
        · replace hv := hv.1 h
          refine am_xn 1 (c1 := (45, [.ref 0, .int (zi x), .int (zi k), .int (zi w), .int (zi r4), .null], [.int (zi (-1))], M3)) rfl ?_
          exact am_xr (some (.int (zi (-1)))) ⟨rfl, rfl, .int, rfl, rfl⟩ hv
        · replace hv := hv.2 h
          refine am_xn 3 (c1 := (52, [.ref 0, .int (zi x), .int (zi k), .int (zi w), .int (zi r4), .null], [.int (zi r4), .ref 9], M3)) rfl ?_
          obtain ⟨r7, M6, hc, hv⟩ := hv
          refine am_xc t_Amd_amendmentOf (.invokevirtual 214) 214 (av := [.ref 9, .int (zi r4)]) (rest := []) (rv := some (.int (zi r7))) (M' := M6) rfl rfl rfl rfl (Nat.le_of_ble_eq_true rfl) (fun _ => rfl) (hc) ?_
          refine am_xn 0 (c1 := (55, [.ref 0, .int (zi x), .int (zi k), .int (zi w), .int (zi r4), .null], [.int (zi r7)], M6)) rfl ?_
          obtain ⟨r8, hv⟩ := hv
          refine am_xn 2 (c1 := (58, [.ref 0, .int (zi x), .int (zi k), .int (zi w), .int (zi r4), .int (zi r7)], [.int (zi w)], M6)) rfl ?_
          by_cases h0 : w = 0
          · replace hv := hv.1 h0
            refine am_xswl rfl 0 (by rw [h0]; rfl) 84 rfl ?_
            refine am_xn 3 (c1 := (90, [.ref 0, .int (zi x), .int (zi k), .int (zi w), .int (zi r4), .int (zi r7)], [.int (zi r7), .ref 9], M6)) rfl ?_
            obtain ⟨g, hv⟩ := hv
            refine am_xc t_Amd_day (.invokevirtual 112) 112 (av := [.ref 9, .int (zi r7)]) (rest := []) (rv := some (.int (zi (iv M6 11 (4 + r7))))) (M' := M6) rfl rfl rfl rfl (Nat.le_of_ble_eq_true rfl) (fun _ => rfl) (sp_c_day M6 r7 g) ?_
            refine am_xn 0 (c1 := (93, [.ref 0, .int (zi x), .int (zi k), .int (zi w), .int (zi r4), .int (zi r7)], [.int (zi (iv M6 11 (4 + r7)))], M6)) rfl ?_
            exact am_xr (some (.int (zi (iv M6 11 (4 + r7))))) ⟨rfl, rfl, .int, rfl, rfl⟩ hv
          replace hv := hv.2
          by_cases h1 : w = 1
          · replace hv := hv.1 h1
            refine am_xswl rfl 1 (by rw [h1]; rfl) 94 rfl ?_
            refine am_xn 4 (c1 := (101, [.ref 0, .int (zi x), .int (zi k), .int (zi w), .int (zi r4), .int (zi r7)], [.int (zi 0), .int (zi r4), .ref 9], M6)) rfl ?_
            obtain ⟨g, hv⟩ := hv
            refine am_xc t_Amd_cell (.invokevirtual 156) 156 (av := [.ref 9, .int (zi r4), .int (zi 0)]) (rest := []) (rv := some (.int (zi (cpt (iv M6 11) r4 0)))) (M' := M6) rfl rfl rfl rfl (Nat.le_of_ble_eq_true rfl) (fun _ => rfl) (sp_c_cell M6 r4 0 g) ?_
            refine am_xn 0 (c1 := (104, [.ref 0, .int (zi x), .int (zi k), .int (zi w), .int (zi r4), .int (zi r7)], [.int (zi (cpt (iv M6 11) r4 0))], M6)) rfl ?_
            exact am_xr (some (.int (zi (cpt (iv M6 11) r4 0)))) ⟨rfl, rfl, .int, rfl, rfl⟩ hv
          replace hv := hv.2
          replace hv := hv h0 h1
          refine am_xswld rfl r8 (fun q hq => by simp at hq; rcases hq with rfl | rfl <;> assumption) 105 rfl ?_
          refine am_xn 1 (c1 := (107, [.ref 0, .int (zi x), .int (zi k), .int (zi w), .int (zi r4), .int (zi r7)], [.int (zi r7)], M6)) rfl ?_
          exact am_xr (some (.int (zi r7))) ⟨rfl, rfl, .int, rfl, rfl⟩ hv
      · replace hv := hv.2 c9
        refine am_xc t_SB_within (.invokestatic 56) 56 (av := [.int (zi w), .int (zi 2)]) (rest := []) (rv := some (.int (zi 0))) (M' := M) rfl rfl rfl rfl (Nat.le_of_ble_eq_true rfl) (fun h => nomatch h) (by have q := sp_within M w 2 g; rwa [if_neg c9] at q) ?_
        refine am_xn 0 (c1 := (17, [.ref 0, .int (zi x), .int (zi k), .int (zi w), .null, .null], [.int (zi 0)], M)) rfl ?_
        refine am_xn 2 (c1 := (22, [.ref 0, .int (zi x), .int (zi k), .int (zi w), .null, .null], [.int (zi (-2))], M)) rfl ?_
        exact am_xr (some (.int (zi (-2)))) ⟨rfl, rfl, .int, rfl, rfl⟩ hv
  · replace hv := hv.2 c10
    refine am_xc t_SB_isIdentity (.invokevirtual 208) 208 (av := [.ref 0, .int (zi x)]) (rest := []) (rv := some (.int (zi 0))) (M' := M) rfl rfl rfl rfl (Nat.le_of_ble_eq_true rfl) (fun _ => rfl) (by have q := sp_c_isIdentity M x g; rwa [if_neg c10] at q) ?_
    refine am_xn 0 (c1 := (5, [.ref 0, .int (zi x), .int (zi k), .int (zi w), .null, .null], [.int (zi 0)], M)) rfl ?_
    refine am_xn 2 (c1 := (22, [.ref 0, .int (zi x), .int (zi k), .int (zi w), .null, .null], [.int (zi (-2))], M)) rfl ?_
    exact am_xr (some (.int (zi (-2)))) ⟨rfl, rfl, .int, rfl, rfl⟩ hv
set_option maxRecDepth 100000 in
theorem vc_m_history (x : Int) (k : Int) (w : Int) (M : am_M) (Q : Option Value → am_M → Prop) (hv : (zr x ∧ iv M 59 0 ≤ 20 ∧ 0 ≤ nops (iv M 59) ∧ nops (iv M 59) ≤ 120) ∧ ((0 ≤ x ∧ x < ia (iv M 59) (nops (iv M 59)) → (zr k) ∧ ((k < 0 → Q (some (.int (zi (-2)))) M) ∧ (0 ≤ k → (zr w ∧ zr (0 : Int) ∧ zr (2 : Int)) ∧ ((0 ≤ w ∧ w ≤ 2 → ∃ M2, am_call t_Mo_fullLaw [.ref 58] M none M2 ∧ (am_x t_Mo_history (34, [.ref 58, .int (zi x), .null, .int (zi w), .int (zi k), .int (zi 0), .null, .null], [], M2) Q)) ∧ (¬ (0 ≤ w ∧ w ≤ 2) → Q (some (.int (zi (-2)))) M))))) ∧ (¬ (0 ≤ x ∧ x < ia (iv M 59) (nops (iv M 59))) → Q (some (.int (zi (-2)))) M))) : am_x t_Mo_history (0, am_ent (am_mL t_Mo_history) [.ref 58, .int (zi x), .int (zi k), .int (zi w)], [], M) Q := by
  refine am_xn 0 (c1 := (0, [.ref 58, .int (zi x), .int (zi k), .int (zi w), .null, .null, .null, .null], [], M)) rfl ?_
  refine am_xn 2 (c1 := (2, [.ref 58, .int (zi x), .int (zi k), .int (zi w), .null, .null, .null, .null], [.int (zi x), .ref 58], M)) rfl ?_
  obtain ⟨g, hv⟩ := hv
  by_cases c4 : 0 ≤ x ∧ x < ia (iv M 59) (nops (iv M 59))
  · replace hv := hv.1 c4
    refine am_xc t_Mo_isIdentity (.invokevirtual 287) 287 (av := [.ref 58, .int (zi x)]) (rest := []) (rv := some (.int (zi 1))) (M' := M) rfl rfl rfl rfl (Nat.le_of_ble_eq_true rfl) (fun _ => rfl) (by have q := sp_isIdentity M x g; rwa [if_pos c4] at q) ?_
    refine am_xn 0 (c1 := (5, [.ref 58, .int (zi x), .int (zi k), .int (zi w), .null, .null, .null, .null], [.int (zi 1)], M)) rfl ?_
    obtain ⟨r1, hv⟩ := hv
    refine am_xn 3 (c1 := (if zi k < zi 0 then 21 else 12, [.ref 58, .int (zi x), .int (zi k), .int (zi w), .null, .null, .null, .null], [], M)) rfl (am_xlt r1 (by decide) (fun h => ?_) (fun h => ?_))
    · replace hv := hv.1 h
      refine am_xn 1 (c1 := (23, [.ref 58, .int (zi x), .int (zi k), .int (zi w), .null, .null, .null, .null], [.int (zi (-2))], M)) rfl ?_
      exact am_xr (some (.int (zi (-2)))) ⟨rfl, rfl, .int, rfl, rfl⟩ hv
    · replace hv := hv.2 h
      refine am_xn 3 (c1 := (15, [.ref 58, .int (zi x), .int (zi k), .int (zi w), .null, .null, .null, .null], [.int (zi 2), .int (zi 0), .int (zi w)], M)) rfl ?_
      obtain ⟨g, hv⟩ := hv
      by_cases c3 : 0 ≤ w ∧ w ≤ 2
      · replace hv := hv.1 c3
        refine am_xc t_Mo_in (.invokestatic 76) 76 (av := [.int (zi w), .int (zi 0), .int (zi 2)]) (rest := []) (rv := some (.int (zi 1))) (M' := M) rfl rfl rfl rfl (Nat.le_of_ble_eq_true rfl) (fun h => nomatch h) (by have q := sp_in M w 0 2 g; rwa [if_pos c3] at q) ?_
        refine am_xn 0 (c1 := (18, [.ref 58, .int (zi x), .int (zi k), .int (zi w), .null, .null, .null, .null], [.int (zi 1)], M)) rfl ?_
        refine am_xn 2 (c1 := (25, [.ref 58, .int (zi x), .int (zi k), .int (zi w), .null, .null, .null, .null], [.ref 58], M)) rfl ?_
        obtain ⟨M2, hc, hv⟩ := hv
        refine am_xc t_Mo_fullLaw (.invokevirtual 242) 242 (av := [.ref 58]) (rest := []) (rv := none) (M' := M2) rfl rfl rfl rfl (Nat.le_of_ble_eq_true rfl) (fun _ => rfl) (hc) ?_
        refine am_xn 0 (c1 := (28, [.ref 58, .int (zi x), .int (zi k), .int (zi w), .null, .null, .null, .null], [], M2)) rfl ?_
        refine am_xn 4 (c1 := (34, [.ref 58, .int (zi x), .int (zi k), .int (zi w), .int (zi k), .int (zi 0), .null, .null], [], M2)) rfl ?_
        refine am_xf 2 ?_
        exact hv
      · replace hv := hv.2 c3
        refine am_xc t_Mo_in (.invokestatic 76) 76 (av := [.int (zi w), .int (zi 0), .int (zi 2)]) (rest := []) (rv := some (.int (zi 0))) (M' := M) rfl rfl rfl rfl (Nat.le_of_ble_eq_true rfl) (fun h => nomatch h) (by have q := sp_in M w 0 2 g; rwa [if_neg c3] at q) ?_
        refine am_xn 0 (c1 := (18, [.ref 58, .int (zi x), .int (zi k), .int (zi w), .null, .null, .null, .null], [.int (zi 0)], M)) rfl ?_
        refine am_xn 2 (c1 := (23, [.ref 58, .int (zi x), .int (zi k), .int (zi w), .null, .null, .null, .null], [.int (zi (-2))], M)) rfl ?_
        exact am_xr (some (.int (zi (-2)))) ⟨rfl, rfl, .int, rfl, rfl⟩ hv
  · replace hv := hv.2 c4
    refine am_xc t_Mo_isIdentity (.invokevirtual 287) 287 (av := [.ref 58, .int (zi x)]) (rest := []) (rv := some (.int (zi 0))) (M' := M) rfl rfl rfl rfl (Nat.le_of_ble_eq_true rfl) (fun _ => rfl) (by have q := sp_isIdentity M x g; rwa [if_neg c4] at q) ?_
    refine am_xn 0 (c1 := (5, [.ref 58, .int (zi x), .int (zi k), .int (zi w), .null, .null, .null, .null], [.int (zi 0)], M)) rfl ?_
    refine am_xn 2 (c1 := (23, [.ref 58, .int (zi x), .int (zi k), .int (zi w), .null, .null, .null, .null], [.int (zi (-2))], M)) rfl ?_
    exact am_xr (some (.int (zi (-2)))) ⟨rfl, rfl, .int, rfl, rfl⟩ hv
set_option maxRecDepth 100000 in
theorem vc_m_history_34 (x1 : Int) (x3 : Int) (x4 : Int) (x5 : Int) (M : am_M) (Q : Option Value → am_M → Prop) (hv : (zr x5) ∧ ((x5 < (iv M 58 14) → (0 ≤ x5 ∧ x5 < 120) ∧ ((0 ≤ (iv M 71 x5) ∧ (iv M 71 x5) < 120) ∧ (((iv M 69 (iv M 71 x5)) = 0 → (0 ≤ (iv M 71 x5) ∧ (iv M 71 x5) < 120) ∧ ((zr x1) ∧ (((iv M 70 (iv M 71 x5)) = x1 → (zr x4) ∧ ((x4 = 0 → (WB (iv M 59) ∧ 0 ≤ (iv M 71 x5) ∧ (iv M 71 x5) < nops (iv M 59)) ∧ ((zr x3) ∧ ((x3 = 0 → (0 ≤ (1 + (amo (iv M 59) (iv M 71 x5))) ∧ (1 + (amo (iv M 59) (iv M 71 x5))) < 1501) ∧ (Q (some (.int (zi (iv M 59 (1 + (amo (iv M 59) (iv M 71 x5))))))) M)) ∧ (¬ x3 = 0 → (x3 = 1 → (0 ≤ (iv M 71 x5) ∧ (iv M 71 x5) < 120 ∧ 0 ≤ (0 : Int) ∧ (0 : Int) < 12) ∧ (Q (some (.int (zi (pt (iv M 59) (iv M 71 x5) 0)))) M)) ∧ (¬ x3 = 1 → Q (some (.int (zi (amo (iv M 59) (iv M 71 x5))))) M))))) ∧ (¬ x4 = 0 → am_x t_Mo_history (34, [.ref 58, .int (zi x1), .null, .int (zi x3), .int (zi (x4 + (-1))), .int (zi (x5 + 1)), .null, .null], [], M) Q))) ∧ (¬ (iv M 70 (iv M 71 x5)) = x1 → am_x t_Mo_history (34, [.ref 58, .int (zi x1), .null, .int (zi x3), .int (zi x4), .int (zi (x5 + 1)), .null, .null], [], M) Q)))) ∧ (¬ (iv M 69 (iv M 71 x5)) = 0 → am_x t_Mo_history (34, [.ref 58, .int (zi x1), .null, .int (zi x3), .int (zi x4), .int (zi (x5 + 1)), .null, .null], [], M) Q)))) ∧ ((iv M 58 14) ≤ x5 → Q (some (.int (zi (-1)))) M))) : am_x t_Mo_history (34, [.ref 58, .int (zi x1), .null, .int (zi x3), .int (zi x4), .int (zi x5), .null, .null], [], M) Q := by
  refine am_xrd 3 58 14 (pc := 40) (ls := [.ref 58, .int (zi x1), .null, .int (zi x3), .int (zi x4), .int (zi x5), .null, .null]) (st := [.int (zi x5)]) rfl ?_
  obtain ⟨r1, hv⟩ := hv
  refine am_xn 1 (c1 := (if zi x5 < zi (iv M 58 14) then 43 else 129, [.ref 58, .int (zi x1), .null, .int (zi x3), .int (zi x4), .int (zi x5), .null, .null], [], M)) rfl (am_xlt r1 (iv_r _ _ _) (fun h => ?_) (fun h => ?_))
  · replace hv := hv.1 h
    obtain ⟨r2, hv⟩ := hv
    refine am_xn 3 (c1 := (49, [.ref 58, .int (zi x1), .null, .int (zi x3), .int (zi x4), .int (zi x5), .null, .null], [.int (zi x5), .ref 71], M)) rfl ?_
    refine am_xald rfl rfl rfl r2 ?_
    refine am_xn 0 (c1 := (50, [.ref 58, .int (zi x1), .null, .int (zi x3), .int (zi x4), .int (zi x5), .null, .null], [.int (zi (iv M 71 x5))], M)) rfl ?_
    obtain ⟨r3, hv⟩ := hv
    refine am_xn 4 (c1 := (58, [.ref 58, .int (zi x1), .null, .int (zi x3), .int (zi x4), .int (zi x5), .int (zi (iv M 71 x5)), .null], [.int (zi (iv M 71 x5)), .ref 69], M)) rfl ?_
    refine am_xald rfl rfl rfl r3 ?_
    refine am_xn 0 (c1 := (59, [.ref 58, .int (zi x1), .null, .int (zi x3), .int (zi x4), .int (zi x5), .int (zi (iv M 71 x5)), .null], [.int (zi (iv M 69 (iv M 71 x5)))], M)) rfl ?_
    refine am_xn 1 (c1 := (if zi (iv M 69 (iv M 71 x5)) = zi 0 then 62 else 123, [.ref 58, .int (zi x1), .null, .int (zi x3), .int (zi x4), .int (zi x5), .int (zi (iv M 71 x5)), .null], [], M)) rfl (am_xeq (iv_r _ _ _) (by decide) (fun h => ?_) (fun h => ?_))
    · replace hv := hv.1 h
      obtain ⟨r4, hv⟩ := hv
      refine am_xn 3 (c1 := (68, [.ref 58, .int (zi x1), .null, .int (zi x3), .int (zi x4), .int (zi x5), .int (zi (iv M 71 x5)), .null], [.int (zi (iv M 71 x5)), .ref 70], M)) rfl ?_
      refine am_xald rfl rfl rfl r4 ?_
      refine am_xn 0 (c1 := (69, [.ref 58, .int (zi x1), .null, .int (zi x3), .int (zi x4), .int (zi x5), .int (zi (iv M 71 x5)), .null], [.int (zi (iv M 70 (iv M 71 x5)))], M)) rfl ?_
      obtain ⟨r5, hv⟩ := hv
      refine am_xn 2 (c1 := (if zi (iv M 70 (iv M 71 x5)) = zi x1 then 73 else 123, [.ref 58, .int (zi x1), .null, .int (zi x3), .int (zi x4), .int (zi x5), .int (zi (iv M 71 x5)), .null], [], M)) rfl (am_xeq (iv_r _ _ _) r5 (fun h => ?_) (fun h => ?_))
      · replace hv := hv.1 h
        obtain ⟨r6, hv⟩ := hv
        refine am_xn 2 (c1 := (if zi x4 = zi 0 then 78 else 120, [.ref 58, .int (zi x1), .null, .int (zi x3), .int (zi x4), .int (zi x5), .int (zi (iv M 71 x5)), .null], [], M)) rfl (am_xeq r6 (by decide) (fun h => ?_) (fun h => ?_))
        · replace hv := hv.1 h
          refine am_xn 2 (c1 := (81, [.ref 58, .int (zi x1), .null, .int (zi x3), .int (zi x4), .int (zi x5), .int (zi (iv M 71 x5)), .null], [.int (zi (iv M 71 x5)), .ref 58], M)) rfl ?_
          obtain ⟨g, hv⟩ := hv
          refine am_xc t_Mo_amendmentOf (.invokevirtual 143) 143 (av := [.ref 58, .int (zi (iv M 71 x5))]) (rest := []) (rv := some (.int (zi (amo (iv M 59) (iv M 71 x5))))) (M' := M) rfl rfl rfl rfl (Nat.le_of_ble_eq_true rfl) (fun _ => rfl) (sp_amendmentOf M (iv M 71 x5) g) ?_
          refine am_xn 0 (c1 := (84, [.ref 58, .int (zi x1), .null, .int (zi x3), .int (zi x4), .int (zi x5), .int (zi (iv M 71 x5)), .null], [.int (zi (amo (iv M 59) (iv M 71 x5)))], M)) rfl ?_
          obtain ⟨r7, hv⟩ := hv
          refine am_xn 3 (c1 := (if zi x3 = zi 0 then 90 else 102, [.ref 58, .int (zi x1), .null, .int (zi x3), .int (zi x4), .int (zi x5), .int (zi (iv M 71 x5)), .int (zi (amo (iv M 59) (iv M 71 x5)))], [], M)) rfl (am_xeq r7 (by decide) (fun h => ?_) (fun h => ?_))
          · replace hv := hv.1 h
            refine am_xiadd 5 1 (amo (iv M 59) (iv M 71 x5)) (pc := 98) (ls := [.ref 58, .int (zi x1), .null, .int (zi x3), .int (zi x4), .int (zi x5), .int (zi (iv M 71 x5)), .int (zi (amo (iv M 59) (iv M 71 x5)))]) (st := [.ref 59]) rfl ?_
            obtain ⟨r8, hv⟩ := hv
            refine am_xald rfl rfl rfl r8 ?_
            refine am_xn 0 (c1 := (99, [.ref 58, .int (zi x1), .null, .int (zi x3), .int (zi x4), .int (zi x5), .int (zi (iv M 71 x5)), .int (zi (amo (iv M 59) (iv M 71 x5)))], [.int (zi (iv M 59 (1 + (amo (iv M 59) (iv M 71 x5)))))], M)) rfl ?_
            refine am_xn 1 (c1 := (119, [.ref 58, .int (zi x1), .null, .int (zi x3), .int (zi x4), .int (zi x5), .int (zi (iv M 71 x5)), .int (zi (amo (iv M 59) (iv M 71 x5)))], [.int (zi (iv M 59 (1 + (amo (iv M 59) (iv M 71 x5)))))], M)) rfl ?_
            exact am_xr (some (.int (zi (iv M 59 (1 + (amo (iv M 59) (iv M 71 x5))))))) ⟨rfl, rfl, .int, rfl, rfl⟩ hv
          · replace hv := hv.2 h
            refine am_xn 3 (c1 := (if zi x3 = zi 1 then 107 else 117, [.ref 58, .int (zi x1), .null, .int (zi x3), .int (zi x4), .int (zi x5), .int (zi (iv M 71 x5)), .int (zi (amo (iv M 59) (iv M 71 x5)))], [], M)) rfl (am_xeq r7 (by decide) (fun h => ?_) (fun h => ?_))
            · replace hv := hv.1 h
              refine am_xn 3 (c1 := (111, [.ref 58, .int (zi x1), .null, .int (zi x3), .int (zi x4), .int (zi x5), .int (zi (iv M 71 x5)), .int (zi (amo (iv M 59) (iv M 71 x5)))], [.int (zi 0), .int (zi (iv M 71 x5)), .ref 58], M)) rfl ?_
              obtain ⟨g, hv⟩ := hv
              refine am_xc t_Mo_part (.invokevirtual 85) 85 (av := [.ref 58, .int (zi (iv M 71 x5)), .int (zi 0)]) (rest := []) (rv := some (.int (zi (pt (iv M 59) (iv M 71 x5) 0)))) (M' := M) rfl rfl rfl rfl (Nat.le_of_ble_eq_true rfl) (fun _ => rfl) (sp_part M (iv M 71 x5) 0 g) ?_
              refine am_xn 0 (c1 := (114, [.ref 58, .int (zi x1), .null, .int (zi x3), .int (zi x4), .int (zi x5), .int (zi (iv M 71 x5)), .int (zi (amo (iv M 59) (iv M 71 x5)))], [.int (zi (pt (iv M 59) (iv M 71 x5) 0))], M)) rfl ?_
              refine am_xn 1 (c1 := (119, [.ref 58, .int (zi x1), .null, .int (zi x3), .int (zi x4), .int (zi x5), .int (zi (iv M 71 x5)), .int (zi (amo (iv M 59) (iv M 71 x5)))], [.int (zi (pt (iv M 59) (iv M 71 x5) 0))], M)) rfl ?_
              exact am_xr (some (.int (zi (pt (iv M 59) (iv M 71 x5) 0)))) ⟨rfl, rfl, .int, rfl, rfl⟩ hv
            · replace hv := hv.2 h
              refine am_xn 1 (c1 := (119, [.ref 58, .int (zi x1), .null, .int (zi x3), .int (zi x4), .int (zi x5), .int (zi (iv M 71 x5)), .int (zi (amo (iv M 59) (iv M 71 x5)))], [.int (zi (amo (iv M 59) (iv M 71 x5)))], M)) rfl ?_
              exact am_xr (some (.int (zi (amo (iv M 59) (iv M 71 x5))))) ⟨rfl, rfl, .int, rfl, rfl⟩ hv
        · replace hv := hv.2 h
          refine am_xn 1 (c1 := (123, [.ref 58, .int (zi x1), .null, .int (zi x3), .int (zi x4 + zi (-1)), .int (zi x5), .int (zi (iv M 71 x5)), .null], [], M)) rfl ?_
          rw [zi_add]
          refine am_xn 1 (c1 := (126, [.ref 58, .int (zi x1), .null, .int (zi x3), .int (zi (x4 + (-1))), .int (zi x5 + zi 1), .int (zi (iv M 71 x5)), .null], [], M)) rfl ?_
          rw [zi_add]
          refine am_xn 1 (c1 := (34, [.ref 58, .int (zi x1), .null, .int (zi x3), .int (zi (x4 + (-1))), .int (zi (x5 + 1)), .int (zi (iv M 71 x5)), .null], [], M)) rfl ?_
          refine am_xf 6 ?_
          exact hv
      · replace hv := hv.2 h
        refine am_xn 1 (c1 := (126, [.ref 58, .int (zi x1), .null, .int (zi x3), .int (zi x4), .int (zi x5 + zi 1), .int (zi (iv M 71 x5)), .null], [], M)) rfl ?_
        rw [zi_add]
        refine am_xn 1 (c1 := (34, [.ref 58, .int (zi x1), .null, .int (zi x3), .int (zi x4), .int (zi (x5 + 1)), .int (zi (iv M 71 x5)), .null], [], M)) rfl ?_
        refine am_xf 6 ?_
        exact hv
    · replace hv := hv.2 h
      refine am_xn 1 (c1 := (126, [.ref 58, .int (zi x1), .null, .int (zi x3), .int (zi x4), .int (zi x5 + zi 1), .int (zi (iv M 71 x5)), .null], [], M)) rfl ?_
      rw [zi_add]
      refine am_xn 1 (c1 := (34, [.ref 58, .int (zi x1), .null, .int (zi x3), .int (zi x4), .int (zi (x5 + 1)), .int (zi (iv M 71 x5)), .null], [], M)) rfl ?_
      refine am_xf 6 ?_
      exact hv
  · replace hv := hv.2 h
    refine am_xn 1 (c1 := (130, [.ref 58, .int (zi x1), .null, .int (zi x3), .int (zi x4), .int (zi x5), .null, .null], [.int (zi (-1))], M)) rfl ?_
    exact am_xr (some (.int (zi (-1)))) ⟨rfl, rfl, .int, rfl, rfl⟩ hv
set_option maxRecDepth 100000 in
theorem vc_c_fewest (d : Int) (x : Int) (M : am_M) (Q : Option Value → am_M → Prop) (hv : (zr d ∧ zr (9999 : Int)) ∧ ((0 ≤ d ∧ d ≤ 9999 → (zr x ∧ zr (999 : Int)) ∧ ((0 ≤ x ∧ x ≤ 999 → ∃ (r2 : Int) (M1 : am_M), am_call t_SB_vanishes [.ref 0, .int (zi d), .int (zi x), .int (zi 0)] M (some (.int (zi r2))) M1 ∧ ((zr r2) ∧ ((r2 = 0 → am_x t_SB_fewestRevocations (37, [.ref 0, .int (zi d), .int (zi x), .int (zi 0), .null, .null], [], M1) Q) ∧ (¬ r2 = 0 → Q (some (.int (zi 0))) M1)))) ∧ (¬ (0 ≤ x ∧ x ≤ 999) → Q (some (.int (zi (-2)))) M))) ∧ (¬ (0 ≤ d ∧ d ≤ 9999) → Q (some (.int (zi (-2)))) M))) : am_x t_SB_fewestRevocations (0, am_ent (am_mL t_SB_fewestRevocations) [.ref 0, .int (zi d), .int (zi x)], [], M) Q := by
  refine am_xn 0 (c1 := (0, [.ref 0, .int (zi d), .int (zi x), .null, .null, .null], [], M)) rfl ?_
  refine am_xn 2 (c1 := (4, [.ref 0, .int (zi d), .int (zi x), .null, .null, .null], [.int (zi 9999), .int (zi d)], M)) rfl ?_
  obtain ⟨g, hv⟩ := hv
  by_cases c5 : 0 ≤ d ∧ d ≤ 9999
  · replace hv := hv.1 c5
    refine am_xc t_SB_within (.invokestatic 56) 56 (av := [.int (zi d), .int (zi 9999)]) (rest := []) (rv := some (.int (zi 1))) (M' := M) rfl rfl rfl rfl (Nat.le_of_ble_eq_true rfl) (fun h => nomatch h) (by have q := sp_within M d 9999 g; rwa [if_pos c5] at q) ?_
    refine am_xn 0 (c1 := (7, [.ref 0, .int (zi d), .int (zi x), .null, .null, .null], [.int (zi 1)], M)) rfl ?_
    refine am_xn 3 (c1 := (14, [.ref 0, .int (zi d), .int (zi x), .null, .null, .null], [.int (zi 999), .int (zi x)], M)) rfl ?_
    obtain ⟨g, hv⟩ := hv
    by_cases c4 : 0 ≤ x ∧ x ≤ 999
    · replace hv := hv.1 c4
      refine am_xc t_SB_within (.invokestatic 56) 56 (av := [.int (zi x), .int (zi 999)]) (rest := []) (rv := some (.int (zi 1))) (M' := M) rfl rfl rfl rfl (Nat.le_of_ble_eq_true rfl) (fun h => nomatch h) (by have q := sp_within M x 999 g; rwa [if_pos c4] at q) ?_
      refine am_xn 0 (c1 := (17, [.ref 0, .int (zi d), .int (zi x), .null, .null, .null], [.int (zi 1)], M)) rfl ?_
      refine am_xn 5 (c1 := (27, [.ref 0, .int (zi d), .int (zi x), .null, .null, .null], [.int (zi 0), .int (zi x), .int (zi d), .ref 0], M)) rfl ?_
      obtain ⟨r2, M1, hc, hv⟩ := hv
      refine am_xc t_SB_vanishes (.invokevirtual 266) 266 (av := [.ref 0, .int (zi d), .int (zi x), .int (zi 0)]) (rest := []) (rv := some (.int (zi r2))) (M' := M1) rfl rfl rfl rfl (Nat.le_of_ble_eq_true rfl) (fun _ => rfl) (hc) ?_
      refine am_xn 0 (c1 := (30, [.ref 0, .int (zi d), .int (zi x), .null, .null, .null], [.int (zi r2)], M1)) rfl ?_
      obtain ⟨r3, hv⟩ := hv
      refine am_xn 1 (c1 := (if zi r2 = zi 0 then 35 else 33, [.ref 0, .int (zi d), .int (zi x), .null, .null, .null], [], M1)) rfl (am_xeq r3 (by decide) (fun h => ?_) (fun h => ?_))
      · replace hv := hv.1 h
        refine am_xn 2 (c1 := (37, [.ref 0, .int (zi d), .int (zi x), .int (zi 0), .null, .null], [], M1)) rfl ?_
        exact hv
      · replace hv := hv.2 h
        refine am_xn 1 (c1 := (34, [.ref 0, .int (zi d), .int (zi x), .null, .null, .null], [.int (zi 0)], M1)) rfl ?_
        exact am_xr (some (.int (zi 0))) ⟨rfl, rfl, .int, rfl, rfl⟩ hv
    · replace hv := hv.2 c4
      refine am_xc t_SB_within (.invokestatic 56) 56 (av := [.int (zi x), .int (zi 999)]) (rest := []) (rv := some (.int (zi 0))) (M' := M) rfl rfl rfl rfl (Nat.le_of_ble_eq_true rfl) (fun h => nomatch h) (by have q := sp_within M x 999 g; rwa [if_neg c4] at q) ?_
      refine am_xn 0 (c1 := (17, [.ref 0, .int (zi d), .int (zi x), .null, .null, .null], [.int (zi 0)], M)) rfl ?_
      refine am_xn 2 (c1 := (22, [.ref 0, .int (zi d), .int (zi x), .null, .null, .null], [.int (zi (-2))], M)) rfl ?_
      exact am_xr (some (.int (zi (-2)))) ⟨rfl, rfl, .int, rfl, rfl⟩ hv
  · replace hv := hv.2 c5
    refine am_xc t_SB_within (.invokestatic 56) 56 (av := [.int (zi d), .int (zi 9999)]) (rest := []) (rv := some (.int (zi 0))) (M' := M) rfl rfl rfl rfl (Nat.le_of_ble_eq_true rfl) (fun h => nomatch h) (by have q := sp_within M d 9999 g; rwa [if_neg c5] at q) ?_
    refine am_xn 0 (c1 := (7, [.ref 0, .int (zi d), .int (zi x), .null, .null, .null], [.int (zi 0)], M)) rfl ?_
    refine am_xn 2 (c1 := (22, [.ref 0, .int (zi d), .int (zi x), .null, .null, .null], [.int (zi (-2))], M)) rfl ?_
    exact am_xr (some (.int (zi (-2)))) ⟨rfl, rfl, .int, rfl, rfl⟩ hv
set_option maxRecDepth 100000 in
theorem vc_c_fewest_37 (x1 : Int) (x2 : Int) (x3 : Int) (M : am_M) (Q : Option Value → am_M → Prop) (hv : (zr x3) ∧ ((x3 < (iv M 11 0) → ∃ (r3 : Int) (M2 : am_M), am_call t_SB_isCarriedOut [.ref 0, .int (zi x3), .int (zi x1)] M (some (.int (zi r3))) M2 ∧ ((zr r3) ∧ ((r3 = 0 → am_x t_SB_fewestRevocations (37, [.ref 0, .int (zi x1), .int (zi x2), .int (zi (x3 + 1)), .null, .null], [], M2) Q) ∧ (¬ r3 = 0 → ∃ (r6 : Int) (M5 : am_M), am_call t_SB_vanishes [.ref 0, .int (zi x1), .int (zi x2), .int (zi (zshl 1 x3))] M2 (some (.int (zi r6))) M5 ∧ ((zr r6) ∧ ((r6 = 0 → am_x t_SB_fewestRevocations (37, [.ref 0, .int (zi x1), .int (zi x2), .int (zi (x3 + 1)), .null, .null], [], M5) Q) ∧ (¬ r6 = 0 → Q (some (.int (zi (zshl 1 x3)))) M5))))))) ∧ ((iv M 11 0) ≤ x3 → am_x t_SB_fewestRevocations (81, [.ref 0, .int (zi x1), .int (zi x2), .int (zi 1), .null, .null], [], M) Q))) : am_x t_SB_fewestRevocations (37, [.ref 0, .int (zi x1), .int (zi x2), .int (zi x3), .null, .null], [], M) Q := by
  refine am_xn 3 (c1 := (42, [.ref 0, .int (zi x1), .int (zi x2), .int (zi x3), .null, .null], [.ref 9, .int (zi x3)], M)) rfl ?_
  refine am_xc t_Amd_size (.invokevirtual 96) 96 (av := [.ref 9]) (rest := [.int (zi x3)]) (rv := some (.int (zi (iv M 11 0)))) (M' := M) rfl rfl rfl rfl (Nat.le_of_ble_eq_true rfl) (fun _ => rfl) (sp_c_size M) ?_
  refine am_xn 0 (c1 := (45, [.ref 0, .int (zi x1), .int (zi x2), .int (zi x3), .null, .null], [.int (zi (iv M 11 0)), .int (zi x3)], M)) rfl ?_
  obtain ⟨r1, hv⟩ := hv
  refine am_xn 1 (c1 := (if zi x3 < zi (iv M 11 0) then 48 else 79, [.ref 0, .int (zi x1), .int (zi x2), .int (zi x3), .null, .null], [], M)) rfl (am_xlt r1 (iv_r _ _ _) (fun h => ?_) (fun h => ?_))
  · replace hv := hv.1 h
    refine am_xn 3 (c1 := (51, [.ref 0, .int (zi x1), .int (zi x2), .int (zi x3), .null, .null], [.int (zi x1), .int (zi x3), .ref 0], M)) rfl ?_
    obtain ⟨r3, M2, hc, hv⟩ := hv
    refine am_xc t_SB_isCarriedOut (.invokevirtual 270) 270 (av := [.ref 0, .int (zi x3), .int (zi x1)]) (rest := []) (rv := some (.int (zi r3))) (M' := M2) rfl rfl rfl rfl (Nat.le_of_ble_eq_true rfl) (fun _ => rfl) (hc) ?_
    refine am_xn 0 (c1 := (54, [.ref 0, .int (zi x1), .int (zi x2), .int (zi x3), .null, .null], [.int (zi r3)], M2)) rfl ?_
    obtain ⟨r4, hv⟩ := hv
    refine am_xn 1 (c1 := (if zi r3 = zi 0 then 73 else 57, [.ref 0, .int (zi x1), .int (zi x2), .int (zi x3), .null, .null], [], M2)) rfl (am_xeq r4 (by decide) (fun h => ?_) (fun h => ?_))
    · replace hv := hv.1 h
      refine am_xn 1 (c1 := (76, [.ref 0, .int (zi x1), .int (zi x2), .int (zi x3 + zi 1), .null, .null], [], M2)) rfl ?_
      rw [zi_add]
      refine am_xn 1 (c1 := (37, [.ref 0, .int (zi x1), .int (zi x2), .int (zi (x3 + 1)), .null, .null], [], M2)) rfl ?_
      exact hv
    · replace hv := hv.2 h
      refine am_xbit 6 (zi 1 <<< (zi x3 &&& 31)) (pc := 63) (ls := [.ref 0, .int (zi x1), .int (zi x2), .int (zi x3), .null, .null]) (st := [.int (zi x2), .int (zi x1), .ref 0]) rfl ?_
      refine am_xn 0 (c1 := (63, [.ref 0, .int (zi x1), .int (zi x2), .int (zi x3), .null, .null], [.int (zi (zshl 1 x3)), .int (zi x2), .int (zi x1), .ref 0], M2)) rfl ?_
      obtain ⟨r6, M5, hc, hv⟩ := hv
      refine am_xc t_SB_vanishes (.invokevirtual 266) 266 (av := [.ref 0, .int (zi x1), .int (zi x2), .int (zi (zshl 1 x3))]) (rest := []) (rv := some (.int (zi r6))) (M' := M5) rfl rfl rfl rfl (Nat.le_of_ble_eq_true rfl) (fun _ => rfl) (hc) ?_
      refine am_xn 0 (c1 := (66, [.ref 0, .int (zi x1), .int (zi x2), .int (zi x3), .null, .null], [.int (zi r6)], M5)) rfl ?_
      obtain ⟨r7, hv⟩ := hv
      refine am_xn 1 (c1 := (if zi r6 = zi 0 then 73 else 69, [.ref 0, .int (zi x1), .int (zi x2), .int (zi x3), .null, .null], [], M5)) rfl (am_xeq r7 (by decide) (fun h => ?_) (fun h => ?_))
      · replace hv := hv.1 h
        refine am_xn 1 (c1 := (76, [.ref 0, .int (zi x1), .int (zi x2), .int (zi x3 + zi 1), .null, .null], [], M5)) rfl ?_
        rw [zi_add]
        refine am_xn 1 (c1 := (37, [.ref 0, .int (zi x1), .int (zi x2), .int (zi (x3 + 1)), .null, .null], [], M5)) rfl ?_
        exact hv
      · replace hv := hv.2 h
        refine am_xbit 3 (zi 1 <<< (zi x3 &&& 31)) (pc := 72) (ls := [.ref 0, .int (zi x1), .int (zi x2), .int (zi x3), .null, .null]) (st := []) rfl ?_
        refine am_xn 0 (c1 := (72, [.ref 0, .int (zi x1), .int (zi x2), .int (zi x3), .null, .null], [.int (zi (zshl 1 x3))], M5)) rfl ?_
        exact am_xr (some (.int (zi (zshl 1 x3)))) ⟨rfl, rfl, .int, rfl, rfl⟩ hv
  · replace hv := hv.2 h
    refine am_xn 2 (c1 := (81, [.ref 0, .int (zi x1), .int (zi x2), .int (zi 1), .null, .null], [], M)) rfl ?_
    exact hv
set_option maxRecDepth 100000 in
theorem vc_c_fewest_81 (x1 : Int) (x2 : Int) (x3 : Int) (M : am_M) (Q : Option Value → am_M → Prop) (hv : (zr x3) ∧ ((x3 < (iv M 11 0) → am_x t_SB_fewestRevocations (95, [.ref 0, .int (zi x1), .int (zi x2), .int (zi x3), .int (zi 0), .null], [], M) Q) ∧ ((iv M 11 0) ≤ x3 → Q (some (.int (zi (-1)))) M))) : am_x t_SB_fewestRevocations (81, [.ref 0, .int (zi x1), .int (zi x2), .int (zi x3), .null, .null], [], M) Q := by
  refine am_xn 3 (c1 := (86, [.ref 0, .int (zi x1), .int (zi x2), .int (zi x3), .null, .null], [.ref 9, .int (zi x3)], M)) rfl ?_
  refine am_xc t_Amd_size (.invokevirtual 96) 96 (av := [.ref 9]) (rest := [.int (zi x3)]) (rv := some (.int (zi (iv M 11 0)))) (M' := M) rfl rfl rfl rfl (Nat.le_of_ble_eq_true rfl) (fun _ => rfl) (sp_c_size M) ?_
  refine am_xn 0 (c1 := (89, [.ref 0, .int (zi x1), .int (zi x2), .int (zi x3), .null, .null], [.int (zi (iv M 11 0)), .int (zi x3)], M)) rfl ?_
  obtain ⟨r1, hv⟩ := hv
  refine am_xn 1 (c1 := (if zi x3 < zi (iv M 11 0) then 92 else 156, [.ref 0, .int (zi x1), .int (zi x2), .int (zi x3), .null, .null], [], M)) rfl (am_xlt r1 (iv_r _ _ _) (fun h => ?_) (fun h => ?_))
  · replace hv := hv.1 h
    refine am_xn 2 (c1 := (95, [.ref 0, .int (zi x1), .int (zi x2), .int (zi x3), .int (zi 0), .null], [], M)) rfl ?_
    exact hv
  · replace hv := hv.2 h
    refine am_xn 1 (c1 := (157, [.ref 0, .int (zi x1), .int (zi x2), .int (zi x3), .null, .null], [.int (zi (-1))], M)) rfl ?_
    exact am_xr (some (.int (zi (-1)))) ⟨rfl, rfl, .int, rfl, rfl⟩ hv
set_option maxRecDepth 100000 in
theorem vc_c_fewest_95 (x1 : Int) (x2 : Int) (x3 : Int) (x4 : Int) (M : am_M) (Q : Option Value → am_M → Prop) (hv : (zr x4) ∧ ((zr x3) ∧ ((x4 < x3 → ∃ (r4 : Int) (M3 : am_M), am_call t_SB_isCarriedOut [.ref 0, .int (zi x3), .int (zi x1)] M (some (.int (zi r4))) M3 ∧ ((zr r4) ∧ ((r4 = 0 → am_x t_SB_fewestRevocations (95, [.ref 0, .int (zi x1), .int (zi x2), .int (zi x3), .int (zi (x4 + 1)), .null], [], M3) Q) ∧ (¬ r4 = 0 → ∃ (r7 : Int) (M6 : am_M), am_call t_SB_isCarriedOut [.ref 0, .int (zi x4), .int (zi x1)] M3 (some (.int (zi r7))) M6 ∧ ((zr r7) ∧ ((r7 = 0 → am_x t_SB_fewestRevocations (95, [.ref 0, .int (zi x1), .int (zi x2), .int (zi x3), .int (zi (x4 + 1)), .null], [], M6) Q) ∧ (¬ r7 = 0 → ∃ (r10 : Int) (M9 : am_M), am_call t_SB_vanishes [.ref 0, .int (zi x1), .int (zi x2), .int (zi (zor (zshl 1 x3) (zshl 1 x4)))] M6 (some (.int (zi r10))) M9 ∧ ((zr r10) ∧ ((r10 = 0 → am_x t_SB_fewestRevocations (95, [.ref 0, .int (zi x1), .int (zi x2), .int (zi x3), .int (zi (x4 + 1)), .null], [], M9) Q) ∧ (¬ r10 = 0 → Q (some (.int (zi (zor (zshl 1 x3) (zshl 1 x4))))) M9)))))))))) ∧ (x3 ≤ x4 → am_x t_SB_fewestRevocations (81, [.ref 0, .int (zi x1), .int (zi x2), .int (zi (x3 + 1)), .null, .null], [], M) Q)))) : am_x t_SB_fewestRevocations (95, [.ref 0, .int (zi x1), .int (zi x2), .int (zi x3), .int (zi x4), .null], [], M) Q := by
  obtain ⟨r1, hv⟩ := hv
  obtain ⟨r2, hv⟩ := hv
  refine am_xn 3 (c1 := (if zi x4 < zi x3 then 101 else 150, [.ref 0, .int (zi x1), .int (zi x2), .int (zi x3), .int (zi x4), .null], [], M)) rfl (am_xlt r1 r2 (fun h => ?_) (fun h => ?_))
  · replace hv := hv.1 h
    refine am_xbit 3 (zi 1 <<< (zi x3 &&& 31)) (pc := 104) (ls := [.ref 0, .int (zi x1), .int (zi x2), .int (zi x3), .int (zi x4), .null]) (st := []) rfl ?_
    refine am_xn 0 (c1 := (104, [.ref 0, .int (zi x1), .int (zi x2), .int (zi x3), .int (zi x4), .null], [.int (zi (zshl 1 x3))], M)) rfl ?_
    refine am_xbit 3 (zi 1 <<< (zi x4 &&& 31)) (pc := 108) (ls := [.ref 0, .int (zi x1), .int (zi x2), .int (zi x3), .int (zi x4), .null]) (st := [.int (zi (zshl 1 x3))]) rfl ?_
    refine am_xn 0 (c1 := (108, [.ref 0, .int (zi x1), .int (zi x2), .int (zi x3), .int (zi x4), .null], [.int (zi (zshl 1 x4)), .int (zi (zshl 1 x3))], M)) rfl ?_
    refine am_xbit 1 (zi (zshl 1 x3) ||| zi (zshl 1 x4)) (pc := 109) (ls := [.ref 0, .int (zi x1), .int (zi x2), .int (zi x3), .int (zi x4), .null]) (st := []) rfl ?_
    refine am_xn 0 (c1 := (109, [.ref 0, .int (zi x1), .int (zi x2), .int (zi x3), .int (zi x4), .null], [.int (zi (zor (zshl 1 x3) (zshl 1 x4)))], M)) rfl ?_
    refine am_xn 4 (c1 := (114, [.ref 0, .int (zi x1), .int (zi x2), .int (zi x3), .int (zi x4), .int (zi (zor (zshl 1 x3) (zshl 1 x4)))], [.int (zi x1), .int (zi x3), .ref 0], M)) rfl ?_
    obtain ⟨r4, M3, hc, hv⟩ := hv
    refine am_xc t_SB_isCarriedOut (.invokevirtual 270) 270 (av := [.ref 0, .int (zi x3), .int (zi x1)]) (rest := []) (rv := some (.int (zi r4))) (M' := M3) rfl rfl rfl rfl (Nat.le_of_ble_eq_true rfl) (fun _ => rfl) (hc) ?_
    refine am_xn 0 (c1 := (117, [.ref 0, .int (zi x1), .int (zi x2), .int (zi x3), .int (zi x4), .int (zi (zor (zshl 1 x3) (zshl 1 x4)))], [.int (zi r4)], M3)) rfl ?_
    obtain ⟨r5, hv⟩ := hv
    refine am_xn 1 (c1 := (if zi r4 = zi 0 then 144 else 120, [.ref 0, .int (zi x1), .int (zi x2), .int (zi x3), .int (zi x4), .int (zi (zor (zshl 1 x3) (zshl 1 x4)))], [], M3)) rfl (am_xeq r5 (by decide) (fun h => ?_) (fun h => ?_))
    · replace hv := hv.1 h
      refine am_xn 1 (c1 := (147, [.ref 0, .int (zi x1), .int (zi x2), .int (zi x3), .int (zi x4 + zi 1), .int (zi (zor (zshl 1 x3) (zshl 1 x4)))], [], M3)) rfl ?_
      rw [zi_add]
      refine am_xn 1 (c1 := (95, [.ref 0, .int (zi x1), .int (zi x2), .int (zi x3), .int (zi (x4 + 1)), .int (zi (zor (zshl 1 x3) (zshl 1 x4)))], [], M3)) rfl ?_
      refine am_xf 5 ?_
      exact hv
    · replace hv := hv.2 h
      refine am_xn 3 (c1 := (124, [.ref 0, .int (zi x1), .int (zi x2), .int (zi x3), .int (zi x4), .int (zi (zor (zshl 1 x3) (zshl 1 x4)))], [.int (zi x1), .int (zi x4), .ref 0], M3)) rfl ?_
      obtain ⟨r7, M6, hc, hv⟩ := hv
      refine am_xc t_SB_isCarriedOut (.invokevirtual 270) 270 (av := [.ref 0, .int (zi x4), .int (zi x1)]) (rest := []) (rv := some (.int (zi r7))) (M' := M6) rfl rfl rfl rfl (Nat.le_of_ble_eq_true rfl) (fun _ => rfl) (hc) ?_
      refine am_xn 0 (c1 := (127, [.ref 0, .int (zi x1), .int (zi x2), .int (zi x3), .int (zi x4), .int (zi (zor (zshl 1 x3) (zshl 1 x4)))], [.int (zi r7)], M6)) rfl ?_
      obtain ⟨r8, hv⟩ := hv
      refine am_xn 1 (c1 := (if zi r7 = zi 0 then 144 else 130, [.ref 0, .int (zi x1), .int (zi x2), .int (zi x3), .int (zi x4), .int (zi (zor (zshl 1 x3) (zshl 1 x4)))], [], M6)) rfl (am_xeq r8 (by decide) (fun h => ?_) (fun h => ?_))
      · replace hv := hv.1 h
        refine am_xn 1 (c1 := (147, [.ref 0, .int (zi x1), .int (zi x2), .int (zi x3), .int (zi x4 + zi 1), .int (zi (zor (zshl 1 x3) (zshl 1 x4)))], [], M6)) rfl ?_
        rw [zi_add]
        refine am_xn 1 (c1 := (95, [.ref 0, .int (zi x1), .int (zi x2), .int (zi x3), .int (zi (x4 + 1)), .int (zi (zor (zshl 1 x3) (zshl 1 x4)))], [], M6)) rfl ?_
        refine am_xf 5 ?_
        exact hv
      · replace hv := hv.2 h
        refine am_xn 4 (c1 := (135, [.ref 0, .int (zi x1), .int (zi x2), .int (zi x3), .int (zi x4), .int (zi (zor (zshl 1 x3) (zshl 1 x4)))], [.int (zi (zor (zshl 1 x3) (zshl 1 x4))), .int (zi x2), .int (zi x1), .ref 0], M6)) rfl ?_
        obtain ⟨r10, M9, hc, hv⟩ := hv
        refine am_xc t_SB_vanishes (.invokevirtual 266) 266 (av := [.ref 0, .int (zi x1), .int (zi x2), .int (zi (zor (zshl 1 x3) (zshl 1 x4)))]) (rest := []) (rv := some (.int (zi r10))) (M' := M9) rfl rfl rfl rfl (Nat.le_of_ble_eq_true rfl) (fun _ => rfl) (hc) ?_
        refine am_xn 0 (c1 := (138, [.ref 0, .int (zi x1), .int (zi x2), .int (zi x3), .int (zi x4), .int (zi (zor (zshl 1 x3) (zshl 1 x4)))], [.int (zi r10)], M9)) rfl ?_
        obtain ⟨r11, hv⟩ := hv
        refine am_xn 1 (c1 := (if zi r10 = zi 0 then 144 else 141, [.ref 0, .int (zi x1), .int (zi x2), .int (zi x3), .int (zi x4), .int (zi (zor (zshl 1 x3) (zshl 1 x4)))], [], M9)) rfl (am_xeq r11 (by decide) (fun h => ?_) (fun h => ?_))
        · replace hv := hv.1 h
          refine am_xn 1 (c1 := (147, [.ref 0, .int (zi x1), .int (zi x2), .int (zi x3), .int (zi x4 + zi 1), .int (zi (zor (zshl 1 x3) (zshl 1 x4)))], [], M9)) rfl ?_
          rw [zi_add]
          refine am_xn 1 (c1 := (95, [.ref 0, .int (zi x1), .int (zi x2), .int (zi x3), .int (zi (x4 + 1)), .int (zi (zor (zshl 1 x3) (zshl 1 x4)))], [], M9)) rfl ?_
          refine am_xf 5 ?_
          exact hv
        · replace hv := hv.2 h
          refine am_xn 1 (c1 := (143, [.ref 0, .int (zi x1), .int (zi x2), .int (zi x3), .int (zi x4), .int (zi (zor (zshl 1 x3) (zshl 1 x4)))], [.int (zi (zor (zshl 1 x3) (zshl 1 x4)))], M9)) rfl ?_
          exact am_xr (some (.int (zi (zor (zshl 1 x3) (zshl 1 x4))))) ⟨rfl, rfl, .int, rfl, rfl⟩ hv
  · replace hv := hv.2 h
    refine am_xn 1 (c1 := (153, [.ref 0, .int (zi x1), .int (zi x2), .int (zi x3 + zi 1), .int (zi x4), .null], [], M)) rfl ?_
    rw [zi_add]
    refine am_xn 1 (c1 := (81, [.ref 0, .int (zi x1), .int (zi x2), .int (zi (x3 + 1)), .int (zi x4), .null], [], M)) rfl ?_
    refine am_xf 4 ?_
    exact hv
set_option maxRecDepth 100000 in
theorem vc_vanishes (d : Int) (x : Int) (s : Int) (M : am_M) (Q : Option Value → am_M → Prop) (hv : ∃ M1, am_call t_Law_consolidate [.ref 15, .ref 9, .int (zi d), .int (zi (-1)), .int (zi (zor (iv M 11 3) s))] M none M1 ∧ (∃ (r3 : Int) (M2 : am_M), am_call t_Law_clausesWith [.ref 15, .int (zi x)] M1 (some (.int (zi r3))) M2 ∧ ((zr r3) ∧ ((r3 = 0 → Q (some (.int (zi 1))) M2) ∧ (¬ r3 = 0 → Q (some (.int (zi 0))) M2))))) : am_x t_SB_vanishes (0, am_ent (am_mL t_SB_vanishes) [.ref 0, .int (zi d), .int (zi x), .int (zi s)], [], M) Q := by
  refine am_xn 0 (c1 := (0, [.ref 0, .int (zi d), .int (zi x), .int (zi s)], [], M)) rfl ?_
  refine am_xn 8 (c1 := (14, [.ref 0, .int (zi d), .int (zi x), .int (zi s)], [.ref 9, .int (zi (-1)), .int (zi d), .ref 9, .ref 15], M)) rfl ?_
  refine am_xc t_Amd_revoked (.invokevirtual 106) 106 (av := [.ref 9]) (rest := [.int (zi (-1)), .int (zi d), .ref 9, .ref 15]) (rv := some (.int (zi (iv M 11 3)))) (M' := M) rfl rfl rfl rfl (Nat.le_of_ble_eq_true rfl) (fun _ => rfl) (sp_c_revoked M) ?_
  refine am_xn 0 (c1 := (17, [.ref 0, .int (zi d), .int (zi x), .int (zi s)], [.int (zi (iv M 11 3)), .int (zi (-1)), .int (zi d), .ref 9, .ref 15], M)) rfl ?_
  refine am_xbit 2 (zi (iv M 11 3) ||| zi s) (pc := 19) (ls := [.ref 0, .int (zi d), .int (zi x), .int (zi s)]) (st := [.int (zi (-1)), .int (zi d), .ref 9, .ref 15]) rfl ?_
  refine am_xn 0 (c1 := (19, [.ref 0, .int (zi d), .int (zi x), .int (zi s)], [.int (zi (zor (iv M 11 3) s)), .int (zi (-1)), .int (zi d), .ref 9, .ref 15], M)) rfl ?_
  obtain ⟨M1, hc, hv⟩ := hv
  refine am_xc t_Law_consolidate (.invokevirtual 217) 217 (av := [.ref 15, .ref 9, .int (zi d), .int (zi (-1)), .int (zi (zor (iv M 11 3) s))]) (rest := []) (rv := none) (M' := M1) rfl rfl rfl rfl (Nat.le_of_ble_eq_true rfl) (fun _ => rfl) (hc) ?_
  refine am_xn 0 (c1 := (22, [.ref 0, .int (zi d), .int (zi x), .int (zi s)], [], M1)) rfl ?_
  refine am_xn 3 (c1 := (27, [.ref 0, .int (zi d), .int (zi x), .int (zi s)], [.int (zi x), .ref 15], M1)) rfl ?_
  obtain ⟨r3, M2, hc, hv⟩ := hv
  refine am_xc t_Law_clausesWith (.invokevirtual 227) 227 (av := [.ref 15, .int (zi x)]) (rest := []) (rv := some (.int (zi r3))) (M' := M2) rfl rfl rfl rfl (Nat.le_of_ble_eq_true rfl) (fun _ => rfl) (hc) ?_
  refine am_xn 0 (c1 := (30, [.ref 0, .int (zi d), .int (zi x), .int (zi s)], [.int (zi r3)], M2)) rfl ?_
  obtain ⟨r4, hv⟩ := hv
  refine am_xn 1 (c1 := (if zi r3 = zi 0 then 33 else 37, [.ref 0, .int (zi d), .int (zi x), .int (zi s)], [], M2)) rfl (am_xeq r4 (by decide) (fun h => ?_) (fun h => ?_))
  · replace hv := hv.1 h
    refine am_xn 2 (c1 := (38, [.ref 0, .int (zi d), .int (zi x), .int (zi s)], [.int (zi 1)], M2)) rfl ?_
    exact am_xr (some (.int (zi 1))) ⟨rfl, rfl, .boolean, rfl, rfl⟩ hv
  · replace hv := hv.2 h
    refine am_xn 1 (c1 := (38, [.ref 0, .int (zi d), .int (zi x), .int (zi s)], [.int (zi 0)], M2)) rfl ?_
    exact am_xr (some (.int (zi 0))) ⟨rfl, rfl, .boolean, rfl, rfl⟩ hv
set_option maxRecDepth 100000 in
theorem vc_isCarriedOut (a : Int) (d : Int) (M : am_M) (Q : Option Value → am_M → Prop) (hv : (zand (zshr (iv M 11 3) a) 1 = 1 → Q (some (.int (zi 0))) M) ∧ (¬ (zand (zshr (iv M 11 3) a) 1 = 1) → (0 ≤ a ∧ a ≤ 20) ∧ ((zr d) ∧ ((d < (iv M 11 (4 + a)) → Q (some (.int (zi 0))) M) ∧ ((iv M 11 (4 + a)) ≤ d → Q (some (.int (zi 1))) M))))) : am_x t_SB_isCarriedOut (0, am_ent (am_mL t_SB_isCarriedOut) [.ref 0, .int (zi a), .int (zi d)], [], M) Q := by
  refine am_xn 0 (c1 := (0, [.ref 0, .int (zi a), .int (zi d)], [], M)) rfl ?_
  refine am_xn 3 (c1 := (5, [.ref 0, .int (zi a), .int (zi d)], [.int (zi a), .ref 9], M)) rfl ?_
  by_cases c2 : zand (zshr (iv M 11 3) a) 1 = 1
  · replace hv := hv.1 c2
    refine am_xc t_Amd_isRevoked (.invokevirtual 103) 103 (av := [.ref 9, .int (zi a)]) (rest := []) (rv := some (.int (zi 1))) (M' := M) rfl rfl rfl rfl (Nat.le_of_ble_eq_true rfl) (fun _ => rfl) (by have q := sp_c_isRevoked M a; rwa [if_pos c2] at q) ?_
    refine am_xn 0 (c1 := (8, [.ref 0, .int (zi a), .int (zi d)], [.int (zi 1)], M)) rfl ?_
    refine am_xn 2 (c1 := (28, [.ref 0, .int (zi a), .int (zi d)], [.int (zi 0)], M)) rfl ?_
    exact am_xr (some (.int (zi 0))) ⟨rfl, rfl, .boolean, rfl, rfl⟩ hv
  · replace hv := hv.2 c2
    refine am_xc t_Amd_isRevoked (.invokevirtual 103) 103 (av := [.ref 9, .int (zi a)]) (rest := []) (rv := some (.int (zi 0))) (M' := M) rfl rfl rfl rfl (Nat.le_of_ble_eq_true rfl) (fun _ => rfl) (by have q := sp_c_isRevoked M a; rwa [if_neg c2] at q) ?_
    refine am_xn 0 (c1 := (8, [.ref 0, .int (zi a), .int (zi d)], [.int (zi 0)], M)) rfl ?_
    refine am_xn 4 (c1 := (16, [.ref 0, .int (zi a), .int (zi d)], [.int (zi a), .ref 9], M)) rfl ?_
    obtain ⟨g, hv⟩ := hv
    refine am_xc t_Amd_day (.invokevirtual 112) 112 (av := [.ref 9, .int (zi a)]) (rest := []) (rv := some (.int (zi (iv M 11 (4 + a))))) (M' := M) rfl rfl rfl rfl (Nat.le_of_ble_eq_true rfl) (fun _ => rfl) (sp_c_day M a g) ?_
    refine am_xn 0 (c1 := (19, [.ref 0, .int (zi a), .int (zi d)], [.int (zi (iv M 11 (4 + a)))], M)) rfl ?_
    obtain ⟨r1, hv⟩ := hv
    refine am_xn 2 (c1 := (if zi d < zi (iv M 11 (4 + a)) then 27 else 23, [.ref 0, .int (zi a), .int (zi d)], [], M)) rfl (am_xlt r1 (iv_r _ _ _) (fun h => ?_) (fun h => ?_))
    · replace hv := hv.1 h
      refine am_xn 1 (c1 := (28, [.ref 0, .int (zi a), .int (zi d)], [.int (zi 0)], M)) rfl ?_
      exact am_xr (some (.int (zi 0))) ⟨rfl, rfl, .boolean, rfl, rfl⟩ hv
    · replace hv := hv.2 h
      refine am_xn 2 (c1 := (28, [.ref 0, .int (zi a), .int (zi d)], [.int (zi 1)], M)) rfl ?_
      exact am_xr (some (.int (zi 1))) ⟨rfl, rfl, .boolean, rfl, rfl⟩ hv
set_option maxRecDepth 100000 in
theorem vc_m_fewest (d : Int) (x : Int) (M : am_M) (Q : Option Value → am_M → Prop) (hv : (zr d) ∧ ((0 ≤ d ∧ d ≤ 9999 → (zr x ∧ zr (0 : Int) ∧ zr (999 : Int)) ∧ ((0 ≤ x ∧ x ≤ 999 → ∃ M1, am_call t_Mo_laws [.ref 58, .int (zi d), .int (zi (-1))] M none M1 ∧ (∃ (r3 : Int) (M2 : am_M), am_call t_Mo_withWord [.ref 58, .int (zi x)] M1 (some (.int (zi r3))) M2 ∧ ((zr r3) ∧ ((r3 = 0 → Q (some (.int (zi 0))) M2) ∧ (¬ r3 = 0 → am_x t_Mo_fewestRevocations (39, [.ref 58, .int (zi d), .int (zi x), .int (zi 0), .null], [], M2) Q))))) ∧ (¬ (0 ≤ x ∧ x ≤ 999) → Q (some (.int (zi (-2)))) M))) ∧ (¬ (0 ≤ d ∧ d ≤ 9999) → Q (some (.int (zi (-2)))) M))) : am_x t_Mo_fewestRevocations (0, am_ent (am_mL t_Mo_fewestRevocations) [.ref 58, .int (zi d), .int (zi x)], [], M) Q := by
  refine am_xn 0 (c1 := (0, [.ref 58, .int (zi d), .int (zi x), .null, .null], [], M)) rfl ?_
  refine am_xn 1 (c1 := (1, [.ref 58, .int (zi d), .int (zi x), .null, .null], [.int (zi d)], M)) rfl ?_
  obtain ⟨g, hv⟩ := hv
  by_cases c6 : 0 ≤ d ∧ d ≤ 9999
  · replace hv := hv.1 c6
    refine am_xc t_Mo_isDay (.invokestatic 80) 80 (av := [.int (zi d)]) (rest := []) (rv := some (.int (zi 1))) (M' := M) rfl rfl rfl rfl (Nat.le_of_ble_eq_true rfl) (fun h => nomatch h) (by have q := sp_isDay M d g; rwa [if_pos c6] at q) ?_
    refine am_xn 0 (c1 := (4, [.ref 58, .int (zi d), .int (zi x), .null, .null], [.int (zi 1)], M)) rfl ?_
    refine am_xn 4 (c1 := (12, [.ref 58, .int (zi d), .int (zi x), .null, .null], [.int (zi 999), .int (zi 0), .int (zi x)], M)) rfl ?_
    obtain ⟨g, hv⟩ := hv
    by_cases c5 : 0 ≤ x ∧ x ≤ 999
    · replace hv := hv.1 c5
      refine am_xc t_Mo_in (.invokestatic 76) 76 (av := [.int (zi x), .int (zi 0), .int (zi 999)]) (rest := []) (rv := some (.int (zi 1))) (M' := M) rfl rfl rfl rfl (Nat.le_of_ble_eq_true rfl) (fun h => nomatch h) (by have q := sp_in M x 0 999 g; rwa [if_pos c5] at q) ?_
      refine am_xn 0 (c1 := (15, [.ref 58, .int (zi d), .int (zi x), .null, .null], [.int (zi 1)], M)) rfl ?_
      refine am_xn 4 (c1 := (24, [.ref 58, .int (zi d), .int (zi x), .null, .null], [.int (zi (-1)), .int (zi d), .ref 58], M)) rfl ?_
      obtain ⟨M1, hc, hv⟩ := hv
      refine am_xc t_Mo_laws (.invokevirtual 140) 140 (av := [.ref 58, .int (zi d), .int (zi (-1))]) (rest := []) (rv := none) (M' := M1) rfl rfl rfl rfl (Nat.le_of_ble_eq_true rfl) (fun _ => rfl) (hc) ?_
      refine am_xn 0 (c1 := (27, [.ref 58, .int (zi d), .int (zi x), .null, .null], [], M1)) rfl ?_
      refine am_xn 2 (c1 := (29, [.ref 58, .int (zi d), .int (zi x), .null, .null], [.int (zi x), .ref 58], M1)) rfl ?_
      obtain ⟨r3, M2, hc, hv⟩ := hv
      refine am_xc t_Mo_withWord (.invokevirtual 296) 296 (av := [.ref 58, .int (zi x)]) (rest := []) (rv := some (.int (zi r3))) (M' := M2) rfl rfl rfl rfl (Nat.le_of_ble_eq_true rfl) (fun _ => rfl) (hc) ?_
      refine am_xn 0 (c1 := (32, [.ref 58, .int (zi d), .int (zi x), .null, .null], [.int (zi r3)], M2)) rfl ?_
      obtain ⟨r4, hv⟩ := hv
      refine am_xn 1 (c1 := (if zi r3 = zi 0 then 35 else 37, [.ref 58, .int (zi d), .int (zi x), .null, .null], [], M2)) rfl (am_xeq r4 (by decide) (fun h => ?_) (fun h => ?_))
      · replace hv := hv.1 h
        refine am_xn 1 (c1 := (36, [.ref 58, .int (zi d), .int (zi x), .null, .null], [.int (zi 0)], M2)) rfl ?_
        exact am_xr (some (.int (zi 0))) ⟨rfl, rfl, .int, rfl, rfl⟩ hv
      · replace hv := hv.2 h
        refine am_xn 2 (c1 := (39, [.ref 58, .int (zi d), .int (zi x), .int (zi 0), .null], [], M2)) rfl ?_
        exact hv
    · replace hv := hv.2 c5
      refine am_xc t_Mo_in (.invokestatic 76) 76 (av := [.int (zi x), .int (zi 0), .int (zi 999)]) (rest := []) (rv := some (.int (zi 0))) (M' := M) rfl rfl rfl rfl (Nat.le_of_ble_eq_true rfl) (fun h => nomatch h) (by have q := sp_in M x 0 999 g; rwa [if_neg c5] at q) ?_
      refine am_xn 0 (c1 := (15, [.ref 58, .int (zi d), .int (zi x), .null, .null], [.int (zi 0)], M)) rfl ?_
      refine am_xn 2 (c1 := (20, [.ref 58, .int (zi d), .int (zi x), .null, .null], [.int (zi (-2))], M)) rfl ?_
      exact am_xr (some (.int (zi (-2)))) ⟨rfl, rfl, .int, rfl, rfl⟩ hv
  · replace hv := hv.2 c6
    refine am_xc t_Mo_isDay (.invokestatic 80) 80 (av := [.int (zi d)]) (rest := []) (rv := some (.int (zi 0))) (M' := M) rfl rfl rfl rfl (Nat.le_of_ble_eq_true rfl) (fun h => nomatch h) (by have q := sp_isDay M d g; rwa [if_neg c6] at q) ?_
    refine am_xn 0 (c1 := (4, [.ref 58, .int (zi d), .int (zi x), .null, .null], [.int (zi 0)], M)) rfl ?_
    refine am_xn 2 (c1 := (20, [.ref 58, .int (zi d), .int (zi x), .null, .null], [.int (zi (-2))], M)) rfl ?_
    exact am_xr (some (.int (zi (-2)))) ⟨rfl, rfl, .int, rfl, rfl⟩ hv
set_option maxRecDepth 100000 in
theorem vc_m_fewest_39 (x1 : Int) (x2 : Int) (x3 : Int) (M : am_M) (Q : Option Value → am_M → Prop) (hv : (zr x3) ∧ ((x3 < (iv M 59 0) → ∃ (r3 : Int) (M2 : am_M), am_call t_Mo_isGone [.ref 58, .int (zi x1), .int (zi x2), .int (zi x3), .int (zi x3)] M (some (.int (zi r3))) M2 ∧ ((zr r3) ∧ ((r3 = 0 → am_x t_Mo_fewestRevocations (39, [.ref 58, .int (zi x1), .int (zi x2), .int (zi (x3 + 1)), .null], [], M2) Q) ∧ (¬ r3 = 0 → Q (some (.int (zi (zshl 1 x3)))) M2)))) ∧ ((iv M 59 0) ≤ x3 → am_x t_Mo_fewestRevocations (72, [.ref 58, .int (zi x1), .int (zi x2), .int (zi 1), .null], [], M) Q))) : am_x t_Mo_fewestRevocations (39, [.ref 58, .int (zi x1), .int (zi x2), .int (zi x3), .null], [], M) Q := by
  refine am_xrd 5 59 0 (pc := 46) (ls := [.ref 58, .int (zi x1), .int (zi x2), .int (zi x3), .null]) (st := [.int (zi x3)]) rfl ?_
  obtain ⟨r1, hv⟩ := hv
  refine am_xn 1 (c1 := (if zi x3 < zi (iv M 59 0) then 49 else 70, [.ref 58, .int (zi x1), .int (zi x2), .int (zi x3), .null], [], M)) rfl (am_xlt r1 (iv_r _ _ _) (fun h => ?_) (fun h => ?_))
  · replace hv := hv.1 h
    refine am_xn 5 (c1 := (54, [.ref 58, .int (zi x1), .int (zi x2), .int (zi x3), .null], [.int (zi x3), .int (zi x3), .int (zi x2), .int (zi x1), .ref 58], M)) rfl ?_
    obtain ⟨r3, M2, hc, hv⟩ := hv
    refine am_xc t_Mo_isGone (.invokevirtual 311) 311 (av := [.ref 58, .int (zi x1), .int (zi x2), .int (zi x3), .int (zi x3)]) (rest := []) (rv := some (.int (zi r3))) (M' := M2) rfl rfl rfl rfl (Nat.le_of_ble_eq_true rfl) (fun _ => rfl) (hc) ?_
    refine am_xn 0 (c1 := (57, [.ref 58, .int (zi x1), .int (zi x2), .int (zi x3), .null], [.int (zi r3)], M2)) rfl ?_
    obtain ⟨r4, hv⟩ := hv
    refine am_xn 1 (c1 := (if zi r3 = zi 0 then 64 else 60, [.ref 58, .int (zi x1), .int (zi x2), .int (zi x3), .null], [], M2)) rfl (am_xeq r4 (by decide) (fun h => ?_) (fun h => ?_))
    · replace hv := hv.1 h
      refine am_xn 1 (c1 := (67, [.ref 58, .int (zi x1), .int (zi x2), .int (zi x3 + zi 1), .null], [], M2)) rfl ?_
      rw [zi_add]
      refine am_xn 1 (c1 := (39, [.ref 58, .int (zi x1), .int (zi x2), .int (zi (x3 + 1)), .null], [], M2)) rfl ?_
      exact hv
    · replace hv := hv.2 h
      refine am_xbit 3 (zi 1 <<< (zi x3 &&& 31)) (pc := 63) (ls := [.ref 58, .int (zi x1), .int (zi x2), .int (zi x3), .null]) (st := []) rfl ?_
      refine am_xn 0 (c1 := (63, [.ref 58, .int (zi x1), .int (zi x2), .int (zi x3), .null], [.int (zi (zshl 1 x3))], M2)) rfl ?_
      exact am_xr (some (.int (zi (zshl 1 x3)))) ⟨rfl, rfl, .int, rfl, rfl⟩ hv
  · replace hv := hv.2 h
    refine am_xn 2 (c1 := (72, [.ref 58, .int (zi x1), .int (zi x2), .int (zi 1), .null], [], M)) rfl ?_
    exact hv
set_option maxRecDepth 100000 in
theorem vc_m_fewest_72 (x1 : Int) (x2 : Int) (x3 : Int) (M : am_M) (Q : Option Value → am_M → Prop) (hv : (zr x3) ∧ ((x3 < (iv M 59 0) → am_x t_Mo_fewestRevocations (85, [.ref 58, .int (zi x1), .int (zi x2), .int (zi x3), .int (zi 0)], [], M) Q) ∧ ((iv M 59 0) ≤ x3 → Q (some (.int (zi (-1)))) M))) : am_x t_Mo_fewestRevocations (72, [.ref 58, .int (zi x1), .int (zi x2), .int (zi x3), .null], [], M) Q := by
  refine am_xrd 5 59 0 (pc := 79) (ls := [.ref 58, .int (zi x1), .int (zi x2), .int (zi x3), .null]) (st := [.int (zi x3)]) rfl ?_
  obtain ⟨r1, hv⟩ := hv
  refine am_xn 1 (c1 := (if zi x3 < zi (iv M 59 0) then 82 else 124, [.ref 58, .int (zi x1), .int (zi x2), .int (zi x3), .null], [], M)) rfl (am_xlt r1 (iv_r _ _ _) (fun h => ?_) (fun h => ?_))
  · replace hv := hv.1 h
    refine am_xn 2 (c1 := (85, [.ref 58, .int (zi x1), .int (zi x2), .int (zi x3), .int (zi 0)], [], M)) rfl ?_
    exact hv
  · replace hv := hv.2 h
    refine am_xn 1 (c1 := (125, [.ref 58, .int (zi x1), .int (zi x2), .int (zi x3), .null], [.int (zi (-1))], M)) rfl ?_
    exact am_xr (some (.int (zi (-1)))) ⟨rfl, rfl, .int, rfl, rfl⟩ hv
set_option maxRecDepth 100000 in
theorem vc_m_fewest_85 (x1 : Int) (x2 : Int) (x3 : Int) (x4 : Int) (M : am_M) (Q : Option Value → am_M → Prop) (hv : (zr x4) ∧ ((zr x3) ∧ ((x4 < x3 → ∃ (r4 : Int) (M3 : am_M), am_call t_Mo_isGone [.ref 58, .int (zi x1), .int (zi x2), .int (zi x4), .int (zi x3)] M (some (.int (zi r4))) M3 ∧ ((zr r4) ∧ ((r4 = 0 → am_x t_Mo_fewestRevocations (85, [.ref 58, .int (zi x1), .int (zi x2), .int (zi x3), .int (zi (x4 + 1))], [], M3) Q) ∧ (¬ r4 = 0 → Q (some (.int (zi (zor (zshl 1 x4) (zshl 1 x3))))) M3)))) ∧ (x3 ≤ x4 → am_x t_Mo_fewestRevocations (72, [.ref 58, .int (zi x1), .int (zi x2), .int (zi (x3 + 1)), .null], [], M) Q)))) : am_x t_Mo_fewestRevocations (85, [.ref 58, .int (zi x1), .int (zi x2), .int (zi x3), .int (zi x4)], [], M) Q := by
  obtain ⟨r1, hv⟩ := hv
  obtain ⟨r2, hv⟩ := hv
  refine am_xn 3 (c1 := (if zi x4 < zi x3 then 91 else 118, [.ref 58, .int (zi x1), .int (zi x2), .int (zi x3), .int (zi x4)], [], M)) rfl (am_xlt r1 r2 (fun h => ?_) (fun h => ?_))
  · replace hv := hv.1 h
    refine am_xn 5 (c1 := (97, [.ref 58, .int (zi x1), .int (zi x2), .int (zi x3), .int (zi x4)], [.int (zi x3), .int (zi x4), .int (zi x2), .int (zi x1), .ref 58], M)) rfl ?_
    obtain ⟨r4, M3, hc, hv⟩ := hv
    refine am_xc t_Mo_isGone (.invokevirtual 311) 311 (av := [.ref 58, .int (zi x1), .int (zi x2), .int (zi x4), .int (zi x3)]) (rest := []) (rv := some (.int (zi r4))) (M' := M3) rfl rfl rfl rfl (Nat.le_of_ble_eq_true rfl) (fun _ => rfl) (hc) ?_
    refine am_xn 0 (c1 := (100, [.ref 58, .int (zi x1), .int (zi x2), .int (zi x3), .int (zi x4)], [.int (zi r4)], M3)) rfl ?_
    obtain ⟨r5, hv⟩ := hv
    refine am_xn 1 (c1 := (if zi r4 = zi 0 then 112 else 103, [.ref 58, .int (zi x1), .int (zi x2), .int (zi x3), .int (zi x4)], [], M3)) rfl (am_xeq r5 (by decide) (fun h => ?_) (fun h => ?_))
    · replace hv := hv.1 h
      refine am_xn 1 (c1 := (115, [.ref 58, .int (zi x1), .int (zi x2), .int (zi x3), .int (zi x4 + zi 1)], [], M3)) rfl ?_
      rw [zi_add]
      refine am_xn 1 (c1 := (85, [.ref 58, .int (zi x1), .int (zi x2), .int (zi x3), .int (zi (x4 + 1))], [], M3)) rfl ?_
      exact hv
    · replace hv := hv.2 h
      refine am_xbit 3 (zi 1 <<< (zi x4 &&& 31)) (pc := 107) (ls := [.ref 58, .int (zi x1), .int (zi x2), .int (zi x3), .int (zi x4)]) (st := []) rfl ?_
      refine am_xn 0 (c1 := (107, [.ref 58, .int (zi x1), .int (zi x2), .int (zi x3), .int (zi x4)], [.int (zi (zshl 1 x4))], M3)) rfl ?_
      refine am_xbit 3 (zi 1 <<< (zi x3 &&& 31)) (pc := 110) (ls := [.ref 58, .int (zi x1), .int (zi x2), .int (zi x3), .int (zi x4)]) (st := [.int (zi (zshl 1 x4))]) rfl ?_
      refine am_xn 0 (c1 := (110, [.ref 58, .int (zi x1), .int (zi x2), .int (zi x3), .int (zi x4)], [.int (zi (zshl 1 x3)), .int (zi (zshl 1 x4))], M3)) rfl ?_
      refine am_xbit 1 (zi (zshl 1 x4) ||| zi (zshl 1 x3)) (pc := 111) (ls := [.ref 58, .int (zi x1), .int (zi x2), .int (zi x3), .int (zi x4)]) (st := []) rfl ?_
      refine am_xn 0 (c1 := (111, [.ref 58, .int (zi x1), .int (zi x2), .int (zi x3), .int (zi x4)], [.int (zi (zor (zshl 1 x4) (zshl 1 x3)))], M3)) rfl ?_
      exact am_xr (some (.int (zi (zor (zshl 1 x4) (zshl 1 x3))))) ⟨rfl, rfl, .int, rfl, rfl⟩ hv
  · replace hv := hv.2 h
    refine am_xn 1 (c1 := (121, [.ref 58, .int (zi x1), .int (zi x2), .int (zi x3 + zi 1), .int (zi x4)], [], M)) rfl ?_
    rw [zi_add]
    refine am_xn 1 (c1 := (72, [.ref 58, .int (zi x1), .int (zi x2), .int (zi (x3 + 1)), .int (zi x4)], [], M)) rfl ?_
    refine am_xf 4 ?_
    exact hv
set_option maxRecDepth 100000 in
theorem vc_isGone (d : Int) (x : Int) (a : Int) (b : Int) (M : am_M) (Q : Option Value → am_M → Prop) (hv : ∀ M1, M1 = zcp M 59 63 21 0 20 → (0 ≤ a ∧ a < 20) ∧ (((iv M1 63 a) = 1 → Q (some (.int (zi 0))) M1) ∧ (¬ (iv M1 63 a) = 1 → (0 ≤ b ∧ b < 20) ∧ (((iv M1 63 b) = 1 → Q (some (.int (zi 0))) M1) ∧ (¬ (iv M1 63 b) = 1 → (0 ≤ a ∧ a < 20) ∧ (∀ M4, M4 = zup M1 63 a 1 → (0 ≤ b ∧ b < 20) ∧ (∀ M6, M6 = zup M4 63 b 1 → ∃ M8, am_call t_Mo_consolidates [.ref 58, .int (zi d), .int (zi (-1))] M6 none M8 ∧ (∃ (r10 : Int) (M9 : am_M), am_call t_Mo_withWord [.ref 58, .int (zi x)] M8 (some (.int (zi r10))) M9 ∧ ((zr r10) ∧ ((r10 = 0 → Q (some (.int (zi 1))) M9) ∧ (¬ r10 = 0 → Q (some (.int (zi 0))) M9))))))))))) : am_x t_Mo_isGone (0, am_ent (am_mL t_Mo_isGone) [.ref 58, .int (zi d), .int (zi x), .int (zi a), .int (zi b)], [], M) Q := by
  refine am_xn 0 (c1 := (0, [.ref 58, .int (zi d), .int (zi x), .int (zi a), .int (zi b)], [], M)) rfl ?_
  refine am_xn 1 (c1 := (1, [.ref 58, .int (zi d), .int (zi x), .int (zi a), .int (zi b)], [.ref 58], M)) rfl ?_
  obtain ⟨M1, eM1⟩ : ∃ m, m = zcp M 59 63 21 0 20 := ⟨_, rfl⟩
  replace hv := hv M1 eM1
  refine am_xc t_Mo_offAsRevoked (.invokevirtual 134) 134 (av := [.ref 58]) (rest := []) (rv := none) (M' := M1) rfl rfl rfl rfl (Nat.le_of_ble_eq_true rfl) (fun _ => rfl) (by rw [eM1]; exact sp_offAsRevoked M) ?_
  refine am_xn 0 (c1 := (4, [.ref 58, .int (zi d), .int (zi x), .int (zi a), .int (zi b)], [], M1)) rfl ?_
  obtain ⟨r2, hv⟩ := hv
  refine am_xn 3 (c1 := (9, [.ref 58, .int (zi d), .int (zi x), .int (zi a), .int (zi b)], [.int (zi a), .ref 63], M1)) rfl ?_
  refine am_xald rfl rfl rfl r2 ?_
  refine am_xn 0 (c1 := (10, [.ref 58, .int (zi d), .int (zi x), .int (zi a), .int (zi b)], [.int (zi (iv M1 63 a))], M1)) rfl ?_
  refine am_xn 2 (c1 := (if zi (iv M1 63 a) = zi 1 then 25 else 14, [.ref 58, .int (zi d), .int (zi x), .int (zi a), .int (zi b)], [], M1)) rfl (am_xeq (iv_r _ _ _) (by decide) (fun h => ?_) (fun h => ?_))
  · replace hv := hv.1 h
    refine am_xn 1 (c1 := (26, [.ref 58, .int (zi d), .int (zi x), .int (zi a), .int (zi b)], [.int (zi 0)], M1)) rfl ?_
    exact am_xr (some (.int (zi 0))) ⟨rfl, rfl, .boolean, rfl, rfl⟩ hv
  · replace hv := hv.2 h
    obtain ⟨r3, hv⟩ := hv
    refine am_xn 3 (c1 := (20, [.ref 58, .int (zi d), .int (zi x), .int (zi a), .int (zi b)], [.int (zi b), .ref 63], M1)) rfl ?_
    refine am_xald rfl rfl rfl r3 ?_
    refine am_xn 0 (c1 := (21, [.ref 58, .int (zi d), .int (zi x), .int (zi a), .int (zi b)], [.int (zi (iv M1 63 b))], M1)) rfl ?_
    refine am_xn 2 (c1 := (if zi (iv M1 63 b) = zi 1 then 25 else 27, [.ref 58, .int (zi d), .int (zi x), .int (zi a), .int (zi b)], [], M1)) rfl (am_xeq (iv_r _ _ _) (by decide) (fun h => ?_) (fun h => ?_))
    · replace hv := hv.1 h
      refine am_xn 1 (c1 := (26, [.ref 58, .int (zi d), .int (zi x), .int (zi a), .int (zi b)], [.int (zi 0)], M1)) rfl ?_
      exact am_xr (some (.int (zi 0))) ⟨rfl, rfl, .boolean, rfl, rfl⟩ hv
    · replace hv := hv.2 h
      obtain ⟨r5, hv⟩ := hv
      refine am_xn 4 (c1 := (33, [.ref 58, .int (zi d), .int (zi x), .int (zi a), .int (zi b)], [.int (zi 1), .int (zi a), .ref 63], M1)) rfl ?_
      refine am_xast rfl rfl rfl r5 ?_
      refine am_xn 0 (c1 := (34, [.ref 58, .int (zi d), .int (zi x), .int (zi a), .int (zi b)], [], zup M1 63 a 1)) rfl ?_
      obtain ⟨M4, eM4⟩ : ∃ m, m = zup M1 63 a 1 := ⟨_, rfl⟩
      replace hv := hv M4 eM4
      rw [← eM4]
      obtain ⟨r7, hv⟩ := hv
      refine am_xn 4 (c1 := (41, [.ref 58, .int (zi d), .int (zi x), .int (zi a), .int (zi b)], [.int (zi 1), .int (zi b), .ref 63], M4)) rfl ?_
      refine am_xast rfl rfl rfl r7 ?_
      refine am_xn 0 (c1 := (42, [.ref 58, .int (zi d), .int (zi x), .int (zi a), .int (zi b)], [], zup M4 63 b 1)) rfl ?_
      obtain ⟨M6, eM6⟩ : ∃ m, m = zup M4 63 b 1 := ⟨_, rfl⟩
      replace hv := hv M6 eM6
      rw [← eM6]
      refine am_xn 3 (c1 := (45, [.ref 58, .int (zi d), .int (zi x), .int (zi a), .int (zi b)], [.int (zi (-1)), .int (zi d), .ref 58], M6)) rfl ?_
      obtain ⟨M8, hc, hv⟩ := hv
      refine am_xc t_Mo_consolidates (.invokevirtual 137) 137 (av := [.ref 58, .int (zi d), .int (zi (-1))]) (rest := []) (rv := none) (M' := M8) rfl rfl rfl rfl (Nat.le_of_ble_eq_true rfl) (fun _ => rfl) (hc) ?_
      refine am_xn 0 (c1 := (48, [.ref 58, .int (zi d), .int (zi x), .int (zi a), .int (zi b)], [], M8)) rfl ?_
      refine am_xn 2 (c1 := (50, [.ref 58, .int (zi d), .int (zi x), .int (zi a), .int (zi b)], [.int (zi x), .ref 58], M8)) rfl ?_
      obtain ⟨r10, M9, hc, hv⟩ := hv
      refine am_xc t_Mo_withWord (.invokevirtual 296) 296 (av := [.ref 58, .int (zi x)]) (rest := []) (rv := some (.int (zi r10))) (M' := M9) rfl rfl rfl rfl (Nat.le_of_ble_eq_true rfl) (fun _ => rfl) (hc) ?_
      refine am_xn 0 (c1 := (53, [.ref 58, .int (zi d), .int (zi x), .int (zi a), .int (zi b)], [.int (zi r10)], M9)) rfl ?_
      obtain ⟨r11, hv⟩ := hv
      refine am_xn 1 (c1 := (if zi r10 = zi 0 then 56 else 60, [.ref 58, .int (zi d), .int (zi x), .int (zi a), .int (zi b)], [], M9)) rfl (am_xeq r11 (by decide) (fun h => ?_) (fun h => ?_))
      · replace hv := hv.1 h
        refine am_xn 2 (c1 := (61, [.ref 58, .int (zi d), .int (zi x), .int (zi a), .int (zi b)], [.int (zi 1)], M9)) rfl ?_
        exact am_xr (some (.int (zi 1))) ⟨rfl, rfl, .boolean, rfl, rfl⟩ hv
      · replace hv := hv.2 h
        refine am_xn 1 (c1 := (61, [.ref 58, .int (zi d), .int (zi x), .int (zi a), .int (zi b)], [.int (zi 0)], M9)) rfl ?_
        exact am_xr (some (.int (zi 0))) ⟨rfl, rfl, .boolean, rfl, rfl⟩ hv
theorem sp_effectOn {M : am_M} {b : Int → Int} (w : WB b) (r : CLR15 (lw b 9999 (-1)) M) {x k : Int} (xz : zr x) (k0 : 0 ≤ k) (kz : zr k) : am_call t_Law_effectOn [.ref 15, .int (zi x), .int (zi k)] M (some (.int (zi (hop b x k)))) M := by
  obtain ⟨j1, j2, j3⟩ := lw_J w
  have wt := w.tot
  have el : (lw b 9999 (-1)).ef.length ≤ 120 := by rw [j2]; exact Nat.le_trans (List.length_filter_le ..) j3
  have hk : hop b x k = kth (fun o => (lw b 9999 (-1)).af o = x) (lw b 9999 (-1)).ef k := by
    rw [j2, kth_filter _ (fun o => (lw b 9999 (-1)).rs o = 0) _ (fun o => decide_eq_true_iff)]
    rfl
  refine am_call_of ⟨Nat.le_of_ble_eq_true rfl, rfl⟩ (vc_effectOn x k M _ ?_)
  refine loop_up (fun i (s : Int) => (5, [.ref 15, .int (zi x), .int (zi k), .int (zi s), .int (zi i), .null], [], M)) ((lw b 9999 (-1)).ef.length : Nat) (fun i s => 0 ≤ s ∧ s ≤ k ∧ hop b x k = kth (fun o => (lw b 9999 (-1)).af o = x) ((lw b 9999 (-1)).ef.drop i.toNat) (k - s)) ?_ ?_ 0 0 (by omega) (by omega) ⟨by omega, k0, by rw [hk, Int.sub_zero]; rfl⟩
  · intro s ⟨_, _, hs⟩
    refine vc_effectOn_5 _ _ _ _ M _ ⟨⟨by omega, by omega⟩, fun q => by rw [r.2.2.2.1] at q; omega, fun _ => ⟨?_, rfl⟩⟩
    rw [hs, List.drop_of_length_le (by omega)]
    rfl
  · intro i s i0 i1 ⟨s0, s1, hs⟩ kk
    obtain ⟨n, rfl⟩ : ∃ n : Nat, i = n := ⟨i.toNat, by omega⟩
    have hn : n < (lw b 9999 (-1)).ef.length := by omega
    have hm := getD_mem hn
    have hmm : (lw b 9999 (-1)).ef.getD n 0 ∈ (lw b 9999 (-1)).sq := by
      rw [j2] at hm
      have := (List.mem_filter.mp hm).1
      rw [← j2] at this
      exact this
    have rg := j1 _ hmm
    rw [Int.toNat_natCast, drop_s hn] at hs
    refine vc_effectOn_5 _ _ _ _ M _ ⟨⟨by omega, by omega⟩, fun _ => ⟨⟨by omega, by omega⟩, ?_⟩, fun q => by rw [r.2.2.2.1] at q; omega⟩
    rw [r.2.2.2.2 n hn, (r.2.2.1 _ rg.1 (by omega)).2]
    refine ⟨⟨rg.1, by omega⟩, xz, fun q => ⟨⟨by omega, by omega⟩, kz, fun q2 => ⟨?_, rfl⟩, fun q2 => kk (s + 1) ⟨by omega, by omega, ?_⟩⟩, fun q => kk s ⟨s0, s1, ?_⟩⟩
    · rw [kth_t (p := fun o => (lw b 9999 (-1)).af o = x) q, if_pos (by omega)] at hs
      rw [hs]
    · rw [kth_t (p := fun o => (lw b 9999 (-1)).af o = x) q, if_neg (by omega)] at hs
      rw [hs, show k - (s + 1) = k - s - 1 by omega]
      rfl
    · rw [kth_f (p := fun o => (lw b 9999 (-1)).af o = x) q] at hs
      exact hs
theorem q_history {M : am_M} (s : CSt M) {x k y : Int} (xz : zr x) (kz : zr k) (yz : zr y) : QRY t_SB_history t_Mo_history [.ref 0, .int (zi x), .int (zi k), .int (zi y)] [.ref 58, .int (zi x), .int (zi k), .int (zi y)] M := by
  obtain ⟨w, cb⟩ := s
  have w1 := w.n1
  have wt := w.tot
  have n0 : 0 ≤ nops (iv M 59) := w.fo_nn (n := iv M 59 0) (Int.le_refl _)
  obtain ⟨j1, j2, j3⟩ := lw_J w
  by_cases hl : (0 ≤ x ∧ x < ia (iv M 59) (nops (iv M 59))) ∧ 0 ≤ k ∧ (0 ≤ y ∧ y ≤ 2)
  · obtain ⟨h1, h2, h3⟩ := hl
    have hr : hop (iv M 59) x k = -1 ∨ (0 ≤ hop (iv M 59) x k ∧ hop (iv M 59) x k < nops (iv M 59)) := (kth_mem _ _ k).imp id (fun h => j1 _ h)
    refine qry (hsv (iv M 59) x k y) ⟨Nat.le_of_ble_eq_true rfl, rfl⟩ ⟨Nat.le_of_ble_eq_true rfl, rfl⟩ ?_ (fun M1 hs => ?_)
    · obtain ⟨M4, h4, fr, r4, od⟩ := sp_c_consolidateFully M w cb
      have cb4 : CBR (iv M4 11) (iv M 59) := by rw [iv_row (fr.1 11 (by decide) (by decide))]; exact cb
      refine vc_c_history x k y M _ ⟨xz, fun _ => ⟨kz, fun q => by omega, fun _ => ⟨⟨yz, by decide⟩, fun _ => ⟨M4, h4, _, M4, sp_effectOn w r4 xz h2 kz, ⟨by omega, by omega⟩, fun q => ⟨by rw [hsv, if_pos q], CQ_15 fr⟩, fun q => ?_⟩, fun q => absurd h3 q⟩⟩, fun q => absurd (by rw [cb.1.2.2.1]; exact h1) q⟩
      have hr := hr.resolve_left q
      have ao := amo_ex w hr.1 hr.2
      refine ⟨_, M4, sp_c_amendmentOf w cb4 hr.1 hr.2, yz, fun z => ⟨⟨ao.1, by omega⟩, ?_, CQ_15 fr⟩, fun z => ⟨⟨hr.1, by omega, by omega, by omega⟩, ?_, CQ_15 fr⟩, fun z z' => ⟨?_, CQ_15 fr⟩⟩
      · rw [hsv, if_neg q, if_pos z, cb4.1.2.2.2.1 _ ao.1 ao.2.1]
      · rw [hsv, if_neg q, if_neg (by omega), if_pos z, (cb4.1.2.2.2.2.2 _ hr.1 hr.2).1]
      · rw [hsv, if_neg q, if_neg z, if_neg z']
    · have g59 : iv M1 59 = iv M 59 := iv_row (hs 59 (by decide))
      obtain ⟨M2, m1, m2, m3⟩ := ms_full hs w
      have e59 : iv M2 59 = iv M 59 := (iv_row (m2.1 59 (by decide) (by decide))).trans g59
      refine vc_m_history x k y M1 _ ⟨⟨xz, by rw [g59]; exact w1, by rw [g59]; exact n0, by rw [g59]; exact wt⟩, fun _ => ⟨kz, fun q => by omega, fun _ => ⟨⟨yz, by decide, by decide⟩, fun _ => ⟨M2, m1, ?_⟩, fun q => absurd h3 q⟩⟩, fun q => absurd (by rw [g59]; exact h1) q⟩
      refine loop_up (fun i (s : Int) => (34, [.ref 58, .int (zi x), .null, .int (zi y), .int (zi s), .int (zi i), .null, .null], [], M2)) ((lw (iv M 59) 9999 (-1)).sq.length : Nat) (fun i s => 0 ≤ s ∧ s ≤ k ∧ hop (iv M 59) x k = kth (fun o => (lw (iv M 59) 9999 (-1)).rs o = 0 ∧ (lw (iv M 59) 9999 (-1)).af o = x) ((lw (iv M 59) 9999 (-1)).sq.drop i.toNat) s) ?_ ?_ 0 k (by omega) (by omega) ⟨h2, Int.le_refl _, rfl⟩
      · intro s ⟨_, _, hs⟩
        refine vc_m_history_34 _ _ _ _ M2 _ ⟨⟨by omega, by omega⟩, fun q => by rw [m3.2.2.2.1] at q; omega, fun _ => ⟨?_, MqF_lf m2⟩⟩
        have : hop (iv M 59) x k = -1 := by
          rw [hs, List.drop_of_length_le (by omega)]; rfl
        rw [hsv, if_pos this]
      · intro i s i0 i1 ⟨s0, s1, hs⟩ kk
        obtain ⟨n, rfl⟩ : ∃ n : Nat, i = n := ⟨i.toNat, by omega⟩
        have hn : n < (lw (iv M 59) 9999 (-1)).sq.length := by omega
        have rg := j1 _ (getD_mem hn)
        have ao := amo_ex w rg.1 rg.2
        rw [Int.toNat_natCast, drop_s hn] at hs
        refine vc_m_history_34 _ _ _ _ M2 _ ⟨⟨by omega, by omega⟩, fun _ => ⟨⟨by omega, by omega⟩, ?_⟩, fun q => by rw [m3.2.2.2.1] at q; omega⟩
        rw [m3.2.2.2.2 n hn, (m3.2.2.1 _ rg.1 (by omega)).1, (m3.2.2.1 _ rg.1 (by omega)).2, e59]
        refine ⟨⟨rg.1, by omega⟩, fun q => ⟨⟨rg.1, by omega⟩, xz, fun q2 => ⟨⟨by omega, by omega⟩, fun q3 => ⟨⟨w, rg.1, rg.2⟩, ?_⟩, fun q3 => kk (s + (-1)) ⟨by omega, by omega, ?_⟩⟩, fun q2 => kk s ⟨s0, s1, ?_⟩⟩, fun q => kk s ⟨s0, s1, ?_⟩⟩
        · rw [kth_t (p := fun o => (lw (iv M 59) 9999 (-1)).rs o = 0 ∧ (lw (iv M 59) 9999 (-1)).af o = x) ⟨q, q2⟩, if_pos q3] at hs
          have nz : ¬ hop (iv M 59) x k = -1 := by omega
          unfold hsv
          rw [if_neg nz, hs]
          exact ⟨yz, fun z => ⟨⟨by omega, by omega⟩, by rw [if_pos z], MqF_lf m2⟩, fun z => ⟨fun z' => ⟨⟨rg.1, by omega, by omega, by omega⟩, by rw [if_neg z, if_pos z'], MqF_lf m2⟩, fun z' => ⟨by rw [if_neg z, if_neg z'], MqF_lf m2⟩⟩⟩
        · rw [kth_t (p := fun o => (lw (iv M 59) 9999 (-1)).rs o = 0 ∧ (lw (iv M 59) 9999 (-1)).af o = x) ⟨q, q2⟩, if_neg q3] at hs
          rw [hs, show s + (-1) = s - 1 by omega]
          rfl
        · rw [kth_f (p := fun o => (lw (iv M 59) 9999 (-1)).rs o = 0 ∧ (lw (iv M 59) 9999 (-1)).af o = x) (fun z => q2 z.2)] at hs
          exact hs
        · rw [kth_f (p := fun o => (lw (iv M 59) 9999 (-1)).rs o = 0 ∧ (lw (iv M 59) 9999 (-1)).af o = x) (fun z => q z.1)] at hs
          exact hs
  · refine qry (-2) ⟨Nat.le_of_ble_eq_true rfl, rfl⟩ ⟨Nat.le_of_ble_eq_true rfl, rfl⟩ (vc_c_history x k y M _ ⟨xz, fun q => ⟨kz, fun _ => ⟨rfl, CQ_refl M⟩, fun q2 => ⟨⟨yz, by decide⟩, fun q3 => absurd ⟨by rw [cb.1.2.2.1] at q; exact q, q2, q3⟩ hl, fun _ => ⟨rfl, CQ_refl M⟩⟩⟩, fun _ => ⟨rfl, CQ_refl M⟩⟩) (fun M1 hs => ?_)
    have g59 : iv M1 59 = iv M 59 := iv_row (hs 59 (by decide))
    exact vc_m_history x k y M1 _ ⟨⟨xz, by rw [g59]; exact w1, by rw [g59]; exact n0, by rw [g59]; exact wt⟩, fun q => ⟨kz, fun _ => ⟨rfl, MqF_refl M1⟩, fun q2 => ⟨⟨yz, by decide, by decide⟩, fun q3 => absurd ⟨by rw [g59] at q; exact q, q2, q3⟩ hl, fun _ => ⟨rfl, MqF_refl M1⟩⟩⟩, fun _ => ⟨rfl, MqF_refl M1⟩⟩
/-- without two amendments -/
def goff (b : Int → Int) (x y : Int) : Int → Int := fun a => if a = x ∨ a = y then 1 else b (21 + a)
noncomputable def gon (b : Int → Int) (day x y z : Int) : Prop := (b (21 + x) = 0 ∧ b (21 + y) = 0) ∧ wwd (con b (goff b x y) day (-1)) z = 0
theorem sp_isGone {M : am_M} (w : WB (iv M 59)) {d z x y : Int} (dz : zr d) (zz : zr z) (x0 : 0 ≤ x) (x1 : x < iv M 59 0) (y0 : 0 ≤ y) (y1 : y < iv M 59 0) : ∃ M', am_call t_Mo_isGone [.ref 58, .int (zi d), .int (zi z), .int (zi x), .int (zi y)] M (some (.int (zi (bz (gon (iv M 59) d x y z))))) M' ∧ MqF M M' := by
  have w1 := w.n1
  have rx := w.rev x x0 x1
  have ry := w.rev y y0 y1
  suffices h : am_x t_Mo_isGone (0, am_ent (am_mL t_Mo_isGone) [.ref 58, .int (zi d), .int (zi z), .int (zi x), .int (zi y)], [], M) (fun r M' => r = some (.int (zi (bz (gon (iv M 59) d x y z)))) ∧ MqF M M') by
    obtain ⟨r, M', h1, h2, h3⟩ := am_call_ex (by exact ⟨Nat.le_of_ble_eq_true rfl, rfl⟩) h
    subst h2
    exact ⟨M', h1, h3⟩
  refine vc_isGone d z x y M _ (fun M1 e1 => ?_)
  have e63 : ∀ j, 0 ≤ j → j < 20 → iv M1 63 j = iv M 59 (21 + j) := fun j a0 a1 => by
    rw [e1, iv_zcp M 59 63 63 (by decide) (by decide) (by decide) a0, if_pos ⟨rfl, a0, by omega⟩, Int.sub_zero]
  have f1 : MqF M M1 := by rw [e1]; exact ⟨fun a ha => iv_zcp_r M (by omega), fun j hj => by rw [iv_zcp_r M (by decide)]⟩
  rw [e63 x x0 (by omega), e63 y y0 (by omega)]
  refine ⟨⟨x0, by omega⟩, fun q => ⟨by rw [bz_f (fun u => by have := u.1.1; omega)], f1⟩, fun q => ⟨⟨y0, by omega⟩, fun q2 => ⟨by rw [bz_f (fun u => by have := u.1.2; omega)], f1⟩, fun q2 => ⟨⟨x0, by omega⟩, fun M4 e4 => ⟨⟨y0, by omega⟩, fun M6 e6 => ?_⟩⟩⟩⟩
  have h59 : iv M6 59 = iv M 59 := by rw [e6, ivr _ (by decide), e4, ivr _ (by decide), e1, iv_row (iv_zcp_r M (by decide))]
  have r63 : ∀ j, 0 ≤ j → j < 20 → iv M6 63 j = goff (iv M 59) x y j := fun j j0 j1 => by
    rw [e6, ivs _ _ y0 j0 (by decide), e4, ivs _ _ x0 j0 (by decide), e63 j j0 j1]
    unfold goff
    by_cases u : j = y
    · rw [if_pos u, if_pos (Or.inr u)]
    · rw [if_neg u]
      by_cases v : j = x
      · rw [if_pos v, if_pos (Or.inl v)]
      · rw [if_neg v, if_neg (fun z => z.elim v u)]
  obtain ⟨M8, c1, c2, c3⟩ := sp_consolidates M6 d (-1) (by rw [h59]; exact w) dz (by decide)
  rw [h59, con_congr (off' := goff (iv M 59) x y) (fun j j0 j1 => r63 j j0 (by omega)) d (-1)] at c3
  have vk : VL (con (iv M 59) (goff (iv M 59) x y) d (-1)) := (con_is w).1.1
  have fin : MqF M M8 := MqF_trans (MqF_trans f1 ⟨fun a ha => by rw [e6, zupr _ (by omega), e4, zupr _ (by omega)], fun j hj => by rw [e6, zupr _ (by decide), e4, zupr _ (by decide)]⟩) (MqF_of c2)
  have wr : zr (wwd (con (iv M 59) (goff (iv M 59) x y) d (-1)) z) := by
    have a1 := sm_nn (fun c => if (con (iv M 59) (goff (iv M 59) x y) d (-1)).code c = 0 then 0 else bz (has (con (iv M 59) (goff (iv M 59) x y) d (-1)) c z)) 40 (fun i _ _ => by
      split
      · omega
      · rcases bz_01 (has (con (iv M 59) (goff (iv M 59) x y) d (-1)) i z) with u | u <;> omega)
    have a2 := sm_le (fun c => if (con (iv M 59) (goff (iv M 59) x y) d (-1)).code c = 0 then 0 else bz (has (con (iv M 59) (goff (iv M 59) x y) d (-1)) c z)) (fun k => if k < 40 then 1 else 0) 40 (fun i _ h => by
      show (if _ then (0 : Int) else bz _) ≤ if _ then (1 : Int) else 0
      rw [if_pos h]
      split
      · omega
      · rcases bz_01 (has (con (iv M 59) (goff (iv M 59) x y) d (-1)) i z) with u | u <;> omega)
    rw [sm_lt 40 40 (by omega) (by omega)] at a2
    exact ⟨by unfold wwd; omega, by unfold wwd; omega⟩
  exact ⟨M8, c1, _, M8, sp_withWord vk c3 zz, wr, fun u => ⟨by rw [bz_t ⟨⟨by omega, by omega⟩, u⟩], fin⟩, fun u => ⟨by rw [bz_f (fun v => u v.2)], fin⟩⟩
theorem wwd_zr (L : Lw) (z : Int) : zr (wwd L z) := by
  have a1 := sm_nn (fun c => if L.code c = 0 then 0 else bz (has L c z)) 40 (fun i _ _ => by
    split
    · omega
    · rcases bz_01 (has L i z) with u | u <;> omega)
  have a2 := sm_le (fun c => if L.code c = 0 then 0 else bz (has L c z)) (fun k => if k < 40 then 1 else 0) 40 (fun i _ h => by
    show (if _ then (0 : Int) else bz _) ≤ if _ then (1 : Int) else 0
    rw [if_pos h]
    split
    · omega
    · rcases bz_01 (has L i z) with u | u <;> omega)
  rw [sm_lt 40 40 (by omega) (by omega)] at a2
  exact ⟨by unfold wwd; omega, by unfold wwd; omega⟩
