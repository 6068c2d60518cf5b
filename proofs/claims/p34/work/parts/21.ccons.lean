/-! out of the proof of whole: ccons -/
theorem getD_app {l : List Int} {o : Int} {i : Nat} (hi : i < l.length + 1) : (l ++ [o]).getD i 0 = if i = l.length then o else l.getD i 0 := by
  by_cases q : i = l.length
  · rw [if_pos q, List.getD_eq_getElem?_getD, List.getElem?_append_right (by omega), q, Nat.sub_self]
    rfl
  · rw [if_neg q, List.getD_eq_getElem?_getD, List.getD_eq_getElem?_getD, List.getElem?_append_left (by omega)]
theorem JL_ef {b : Int → Int} {D : Int → Prop} {L : Lw} (j : JL b D L) : L.ef.length ≤ L.sq.length := by
  rw [j.2.2.2]
  exact List.length_filter_le ..
/-- clauses in force, among the first ones -/
def frc (L : Lw) (m : Int) : Int := sm (fun c => if L.code c = 0 then 0 else 1) m
theorem frc_s (L : Lw) {m : Int} (h : 0 ≤ m) : frc L (m + 1) = frc L m + if L.code m = 0 then 0 else 1 := sm_s _ h
theorem frc_rg (L : Lw) {m : Int} (h : 0 ≤ m) : 0 ≤ frc L m ∧ frc L m ≤ m := by
  obtain ⟨k, rfl⟩ : ∃ k : Nat, m = k := ⟨m.toNat, by omega⟩
  clear h
  induction k with
  | zero => exact ⟨Int.le_refl _, Int.le_refl _⟩
  | succ k ih =>
    have e := frc_s L (m := k) (by omega)
    show 0 ≤ frc L ((k : Int) + 1) ∧ frc L ((k : Int) + 1) ≤ (k : Int) + 1
    split at e <;> omega
def ORD (L : Lw) (f : Int → Int) (m n : Int) : Prop := n = frc L m ∧ (∀ i, 0 ≤ i → i < n → 0 ≤ f i ∧ f i < m ∧ ¬ L.code (f i) = 0) ∧ (∀ i j, 0 ≤ i → i < j → j < n → L.code (f i) < L.code (f j)) ∧ (∀ c, 0 ≤ c → c < m → ¬ L.code c = 0 → ∃ i, 0 ≤ i ∧ i < n ∧ f i = c)
theorem ORD_skip {L : Lw} {f : Int → Int} {m n : Int} (h : ORD L f m n) (hm : 0 ≤ m) (hc : L.code m = 0) : ORD L f (m + 1) n := by
  obtain ⟨h1, h2, h3, h4⟩ := h
  refine ⟨by rw [frc_s L hm, if_pos hc]; omega, fun i i0 i1 => ?_, h3, fun c c0 c1 n => ?_⟩
  · have := h2 i i0 i1
    exact ⟨this.1, by omega, this.2.2⟩
  · by_cases e : c = m
    · rw [e] at n; exact absurd hc n
    · exact h4 c c0 (by omega) n
theorem ORD_put {L : Lw} (v : VL L) {f g : Int → Int} {m n p : Int} (h : ORD L f m n) (hm : 0 ≤ m) (m40 : m < 40) (hc : ¬ L.code m = 0) (p0 : 0 ≤ p) (p1 : p ≤ n) (h1 : p = 0 ∨ L.code (f (p - 1)) ≤ L.code m) (h2 : ∀ j, p ≤ j → j < n → L.code m < L.code (f j))
    (g1 : ∀ j, 0 ≤ j → j < p → g j = f j) (g2 : g p = m) (g3 : ∀ j, p < j → j ≤ n → g j = f (j - 1)) : ORD L g (m + 1) (n + 1) := by
  obtain ⟨q1, q2, q3, q4⟩ := h
  have low : ∀ j, 0 ≤ j → j < p → L.code (f j) < L.code m := by
    intro j j0 j1
    have z := q2 j j0 (by omega)
    have ne : ¬ L.code (f j) = L.code m := fun e => by
      have := v.un (f j) m z.1 (by omega) hm m40 e z.2.2
      omega
    rcases h1 with e | e
    · omega
    · by_cases y : j = p - 1
      · rw [y] at ne ⊢; omega
      · have := q3 j (p - 1) j0 (by omega) (by omega); omega
  refine ⟨by rw [frc_s L hm, if_neg hc]; omega, fun i i0 i1 => ?_, fun i j i0 ij j1 => ?_, fun c c0 c1 n' => ?_⟩
  · by_cases a : i < p
    · have := q2 i i0 (by omega); rw [g1 i i0 a]; exact ⟨this.1, by omega, this.2.2⟩
    · by_cases e : i = p
      · rw [e, g2]; exact ⟨hm, by omega, hc⟩
      · have := q2 (i - 1) (by omega) (by omega); rw [g3 i (by omega) (by omega)]; exact ⟨this.1, by omega, this.2.2⟩
  · by_cases a : j < p
    · rw [g1 i i0 (by omega), g1 j (by omega) a]; exact q3 i j i0 ij (by omega)
    · by_cases e : j = p
      · rw [e, g2, g1 i i0 (by omega)]; exact low i i0 (by omega)
      · rw [g3 j (by omega) (by omega)]
        by_cases a2 : i < p
        · rw [g1 i i0 a2]
          by_cases e3 : i = j - 1
          · omega
          · exact q3 i (j - 1) i0 (by omega) (by omega)
        · by_cases e2 : i = p
          · rw [e2, g2]; exact h2 (j - 1) (by omega) (by omega)
          · rw [g3 i (by omega) (by omega)]; exact q3 (i - 1) (j - 1) (by omega) (by omega) (by omega)
  · by_cases e : c = m
    · exact ⟨p, p0, by omega, by rw [g2, e]⟩
    · obtain ⟨i, i0, i1, i2⟩ := q4 c c0 (by omega) n'
      by_cases a : i < p
      · exact ⟨i, i0, by omega, by rw [g1 i i0 a, i2]⟩
      · exact ⟨i + 1, by omega, by omega, by rw [g3 (i + 1) (by omega) (by omega), show i + 1 - 1 = i by omega, i2]⟩
set_option maxRecDepth 100000 in
theorem vc_nextKey (d : Int) (rv : Int) (l : Int) (M : am_M) (Q : Option Value → am_M → Prop) (hv : am_x t_Law_nextKey (6, [.ref 9, .int (zi d), .int (zi rv), .int (zi l), .int (zi (-1)), .int (zi 0), .null, .null], [], M) Q) : am_x t_Law_nextKey (0, am_ent (am_mL t_Law_nextKey) [.ref 9, .int (zi d), .int (zi rv), .int (zi l)], [], M) Q := by
  refine am_xn 0 (c1 := (0, [.ref 9, .int (zi d), .int (zi rv), .int (zi l), .null, .null, .null, .null], [], M)) rfl ?_
  refine am_xn 4 (c1 := (6, [.ref 9, .int (zi d), .int (zi rv), .int (zi l), .int (zi (-1)), .int (zi 0), .null, .null], [], M)) rfl ?_
  exact hv
set_option maxRecDepth 100000 in
theorem vc_nextKey_6 (x1 : Int) (x2 : Int) (x3 : Int) (x4 : Int) (x5 : Int) (M : am_M) (Q : Option Value → am_M → Prop) (hv : zr x5 ∧ ((x5 < (iv M 11 0) → (0 ≤ x5 ∧ x5 ≤ 20) ∧ (((zand (zshr x2 x5) 1) = 0 → (0 ≤ x5 ∧ x5 ≤ 20) ∧ (zr x1 ∧ ((x1 < (iv M 11 (4 + x5)) → am_x t_Law_nextKey (6, [.ref 9, .int (zi x1), .int (zi x2), .int (zi x3), .int (zi x4), .int (zi (x5 + 1)), .null, .null], [], M) Q) ∧ ((iv M 11 (4 + x5)) ≤ x1 → zr x3 ∧ (zr (((iv M 11 (4 + x5)) * 20) + x5) ∧ ((x3 < (((iv M 11 (4 + x5)) * 20) + x5) → zr x4 ∧ ((x4 = (-1) → am_x t_Law_nextKey (6, [.ref 9, .int (zi x1), .int (zi x2), .int (zi x3), .int (zi (((iv M 11 (4 + x5)) * 20) + x5)), .int (zi (x5 + 1)), .null, .null], [], M) Q) ∧ (¬ x4 = (-1) → ((((iv M 11 (4 + x5)) * 20) + x5) < x4 → am_x t_Law_nextKey (6, [.ref 9, .int (zi x1), .int (zi x2), .int (zi x3), .int (zi (((iv M 11 (4 + x5)) * 20) + x5)), .int (zi (x5 + 1)), .null, .null], [], M) Q) ∧ (x4 ≤ (((iv M 11 (4 + x5)) * 20) + x5) → am_x t_Law_nextKey (6, [.ref 9, .int (zi x1), .int (zi x2), .int (zi x3), .int (zi x4), .int (zi (x5 + 1)), .null, .null], [], M) Q)))) ∧ ((((iv M 11 (4 + x5)) * 20) + x5) ≤ x3 → am_x t_Law_nextKey (6, [.ref 9, .int (zi x1), .int (zi x2), .int (zi x3), .int (zi x4), .int (zi (x5 + 1)), .null, .null], [], M) Q))))))) ∧ (¬ (zand (zshr x2 x5) 1) = 0 → am_x t_Law_nextKey (6, [.ref 9, .int (zi x1), .int (zi x2), .int (zi x3), .int (zi x4), .int (zi (x5 + 1)), .null, .null], [], M) Q))) ∧ ((iv M 11 0) ≤ x5 → Q (some (.int (zi x4))) M))) : am_x t_Law_nextKey (6, [.ref 9, .int (zi x1), .int (zi x2), .int (zi x3), .int (zi x4), .int (zi x5), .null, .null], [], M) Q := by
  refine am_xn 2 (c1 := (9, [.ref 9, .int (zi x1), .int (zi x2), .int (zi x3), .int (zi x4), .int (zi x5), .null, .null], [.ref 9, .int (zi x5)], M)) rfl ?_
  refine am_xc t_Amd_size (.invokevirtual 62) 62 (av := [.ref 9]) (rest := [.int (zi x5)]) (rv := some (.int (zi (iv M 11 0)))) (M' := M) rfl rfl rfl rfl (Nat.le_of_ble_eq_true rfl) (fun _ => rfl) (sp_c_size M) ?_
  refine am_xn 0 (c1 := (12, [.ref 9, .int (zi x1), .int (zi x2), .int (zi x3), .int (zi x4), .int (zi x5), .null, .null], [.int (zi (iv M 11 0)), .int (zi x5)], M)) rfl ?_
  obtain ⟨r1, hv⟩ := hv
  refine am_xn 1 (c1 := (if zi x5 < zi (iv M 11 0) then 15 else 89, [.ref 9, .int (zi x1), .int (zi x2), .int (zi x3), .int (zi x4), .int (zi x5), .null, .null], [], M)) rfl (am_xlt r1 (iv_r _ _ _) (fun h => ?_) (fun h => ?_))
  · replace hv := hv.1 h
    refine am_xn 2 (c1 := (18, [.ref 9, .int (zi x1), .int (zi x2), .int (zi x3), .int (zi x4), .int (zi x5), .null, .null], [.int (zi x5), .ref 9], M)) rfl ?_
    obtain ⟨g, hv⟩ := hv
    refine am_xc t_Amd_day (.invokevirtual 68) 68 (av := [.ref 9, .int (zi x5)]) (rest := []) (rv := some (.int (zi (iv M 11 (4 + x5))))) (M' := M) rfl rfl rfl rfl (Nat.le_of_ble_eq_true rfl) (fun _ => rfl) (sp_c_day M x5 g) ?_
    refine am_xn 0 (c1 := (21, [.ref 9, .int (zi x1), .int (zi x2), .int (zi x3), .int (zi x4), .int (zi x5), .null, .null], [.int (zi (iv M 11 (4 + x5)))], M)) rfl ?_
    refine am_ximul 2 (iv M 11 (4 + x5)) 20 (pc := 24) (ls := [.ref 9, .int (zi x1), .int (zi x2), .int (zi x3), .int (zi x4), .int (zi x5), .null, .null]) (st := []) rfl ?_
    refine am_xiadd 2 ((iv M 11 (4 + x5)) * 20) x5 (pc := 27) (ls := [.ref 9, .int (zi x1), .int (zi x2), .int (zi x3), .int (zi x4), .int (zi x5), .null, .null]) (st := []) rfl ?_
    refine am_xbit 4 (zi x2 >>> (zi x5 &&& 31)) (pc := 33) (ls := [.ref 9, .int (zi x1), .int (zi x2), .int (zi x3), .int (zi x4), .int (zi x5), .int (zi (((iv M 11 (4 + x5)) * 20) + x5)), .null]) (st := []) rfl ?_
    refine am_xn 0 (c1 := (33, [.ref 9, .int (zi x1), .int (zi x2), .int (zi x3), .int (zi x4), .int (zi x5), .int (zi (((iv M 11 (4 + x5)) * 20) + x5)), .null], [.int (zi (zshr x2 x5))], M)) rfl ?_
    refine am_xbit 2 (zi (zshr x2 x5) &&& zi 1) (pc := 35) (ls := [.ref 9, .int (zi x1), .int (zi x2), .int (zi x3), .int (zi x4), .int (zi x5), .int (zi (((iv M 11 (4 + x5)) * 20) + x5)), .null]) (st := []) rfl ?_
    refine am_xn 0 (c1 := (35, [.ref 9, .int (zi x1), .int (zi x2), .int (zi x3), .int (zi x4), .int (zi x5), .int (zi (((iv M 11 (4 + x5)) * 20) + x5)), .null], [.int (zi (zand (zshr x2 x5) 1))], M)) rfl ?_
    refine am_xn 1 (c1 := (if zi (zand (zshr x2 x5) 1) = zi 0 then 38 else 52, [.ref 9, .int (zi x1), .int (zi x2), .int (zi x3), .int (zi x4), .int (zi x5), .int (zi (((iv M 11 (4 + x5)) * 20) + x5)), .null], [], M)) rfl (am_xeq (zr_toInt _) (by decide) (fun h => ?_) (fun h => ?_))
    · replace hv := hv.1 h
      refine am_xn 2 (c1 := (41, [.ref 9, .int (zi x1), .int (zi x2), .int (zi x3), .int (zi x4), .int (zi x5), .int (zi (((iv M 11 (4 + x5)) * 20) + x5)), .null], [.int (zi x5), .ref 9], M)) rfl ?_
      obtain ⟨g, hv⟩ := hv
      refine am_xc t_Amd_day (.invokevirtual 68) 68 (av := [.ref 9, .int (zi x5)]) (rest := []) (rv := some (.int (zi (iv M 11 (4 + x5))))) (M' := M) rfl rfl rfl rfl (Nat.le_of_ble_eq_true rfl) (fun _ => rfl) (sp_c_day M x5 g) ?_
      refine am_xn 0 (c1 := (44, [.ref 9, .int (zi x1), .int (zi x2), .int (zi x3), .int (zi x4), .int (zi x5), .int (zi (((iv M 11 (4 + x5)) * 20) + x5)), .null], [.int (zi (iv M 11 (4 + x5)))], M)) rfl ?_
      obtain ⟨r2, hv⟩ := hv
      refine am_xn 2 (c1 := (if zi x1 < zi (iv M 11 (4 + x5)) then 52 else 48, [.ref 9, .int (zi x1), .int (zi x2), .int (zi x3), .int (zi x4), .int (zi x5), .int (zi (((iv M 11 (4 + x5)) * 20) + x5)), .null], [], M)) rfl (am_xlt r2 (iv_r _ _ _) (fun h => ?_) (fun h => ?_))
      · replace hv := hv.1 h
        refine am_xn 5 (c1 := (86, [.ref 9, .int (zi x1), .int (zi x2), .int (zi x3), .int (zi x4), .int (zi x5 + zi 1), .int (zi (((iv M 11 (4 + x5)) * 20) + x5)), .int (zi 0)], [], M)) rfl ?_
        rw [zi_add]
        refine am_xn 1 (c1 := (6, [.ref 9, .int (zi x1), .int (zi x2), .int (zi x3), .int (zi x4), .int (zi (x5 + 1)), .int (zi (((iv M 11 (4 + x5)) * 20) + x5)), .int (zi 0)], [], M)) rfl ?_
        refine am_xf 6 ?_
        refine am_xf 7 ?_
        exact hv
      · replace hv := hv.2 h
        obtain ⟨r3, hv⟩ := hv
        obtain ⟨r4, hv⟩ := hv
        refine am_xn 8 (c1 := (if zi x3 < zi (((iv M 11 (4 + x5)) * 20) + x5) then 66 else 83, [.ref 9, .int (zi x1), .int (zi x2), .int (zi x3), .int (zi x4), .int (zi x5), .int (zi (((iv M 11 (4 + x5)) * 20) + x5)), .int (zi 1)], [], M)) rfl (am_xlt r3 r4 (fun h => ?_) (fun h => ?_))
        · replace hv := hv.1 h
          obtain ⟨r5, hv⟩ := hv
          refine am_xn 3 (c1 := (if zi x4 = zi (-1) then 79 else 72, [.ref 9, .int (zi x1), .int (zi x2), .int (zi x3), .int (zi x4), .int (zi x5), .int (zi (((iv M 11 (4 + x5)) * 20) + x5)), .int (zi 1)], [], M)) rfl (am_xeq r5 (by decide) (fun h => ?_) (fun h => ?_))
          · replace hv := hv.1 h
            refine am_xn 3 (c1 := (86, [.ref 9, .int (zi x1), .int (zi x2), .int (zi x3), .int (zi (((iv M 11 (4 + x5)) * 20) + x5)), .int (zi x5 + zi 1), .int (zi (((iv M 11 (4 + x5)) * 20) + x5)), .int (zi 1)], [], M)) rfl ?_
            rw [zi_add]
            refine am_xn 1 (c1 := (6, [.ref 9, .int (zi x1), .int (zi x2), .int (zi x3), .int (zi (((iv M 11 (4 + x5)) * 20) + x5)), .int (zi (x5 + 1)), .int (zi (((iv M 11 (4 + x5)) * 20) + x5)), .int (zi 1)], [], M)) rfl ?_
            refine am_xf 6 ?_
            refine am_xf 7 ?_
            exact hv
          · replace hv := hv.2 h
            refine am_xn 3 (c1 := (if zi (((iv M 11 (4 + x5)) * 20) + x5) < zi x4 then 79 else 83, [.ref 9, .int (zi x1), .int (zi x2), .int (zi x3), .int (zi x4), .int (zi x5), .int (zi (((iv M 11 (4 + x5)) * 20) + x5)), .int (zi 1)], [], M)) rfl (am_xlt r4 r5 (fun h => ?_) (fun h => ?_))
            · replace hv := hv.1 h
              refine am_xn 3 (c1 := (86, [.ref 9, .int (zi x1), .int (zi x2), .int (zi x3), .int (zi (((iv M 11 (4 + x5)) * 20) + x5)), .int (zi x5 + zi 1), .int (zi (((iv M 11 (4 + x5)) * 20) + x5)), .int (zi 1)], [], M)) rfl ?_
              rw [zi_add]
              refine am_xn 1 (c1 := (6, [.ref 9, .int (zi x1), .int (zi x2), .int (zi x3), .int (zi (((iv M 11 (4 + x5)) * 20) + x5)), .int (zi (x5 + 1)), .int (zi (((iv M 11 (4 + x5)) * 20) + x5)), .int (zi 1)], [], M)) rfl ?_
              refine am_xf 6 ?_
              refine am_xf 7 ?_
              exact hv
            · replace hv := hv.2 h
              refine am_xn 1 (c1 := (86, [.ref 9, .int (zi x1), .int (zi x2), .int (zi x3), .int (zi x4), .int (zi x5 + zi 1), .int (zi (((iv M 11 (4 + x5)) * 20) + x5)), .int (zi 1)], [], M)) rfl ?_
              rw [zi_add]
              refine am_xn 1 (c1 := (6, [.ref 9, .int (zi x1), .int (zi x2), .int (zi x3), .int (zi x4), .int (zi (x5 + 1)), .int (zi (((iv M 11 (4 + x5)) * 20) + x5)), .int (zi 1)], [], M)) rfl ?_
              refine am_xf 6 ?_
              refine am_xf 7 ?_
              exact hv
        · replace hv := hv.2 h
          refine am_xn 1 (c1 := (86, [.ref 9, .int (zi x1), .int (zi x2), .int (zi x3), .int (zi x4), .int (zi x5 + zi 1), .int (zi (((iv M 11 (4 + x5)) * 20) + x5)), .int (zi 1)], [], M)) rfl ?_
          rw [zi_add]
          refine am_xn 1 (c1 := (6, [.ref 9, .int (zi x1), .int (zi x2), .int (zi x3), .int (zi x4), .int (zi (x5 + 1)), .int (zi (((iv M 11 (4 + x5)) * 20) + x5)), .int (zi 1)], [], M)) rfl ?_
          refine am_xf 6 ?_
          refine am_xf 7 ?_
          exact hv
    · replace hv := hv.2 h
      refine am_xn 5 (c1 := (86, [.ref 9, .int (zi x1), .int (zi x2), .int (zi x3), .int (zi x4), .int (zi x5 + zi 1), .int (zi (((iv M 11 (4 + x5)) * 20) + x5)), .int (zi 0)], [], M)) rfl ?_
      rw [zi_add]
      refine am_xn 1 (c1 := (6, [.ref 9, .int (zi x1), .int (zi x2), .int (zi x3), .int (zi x4), .int (zi (x5 + 1)), .int (zi (((iv M 11 (4 + x5)) * 20) + x5)), .int (zi 0)], [], M)) rfl ?_
      refine am_xf 6 ?_
      refine am_xf 7 ?_
      exact hv
  · replace hv := hv.2 h
    refine am_xn 1 (c1 := (91, [.ref 9, .int (zi x1), .int (zi x2), .int (zi x3), .int (zi x4), .int (zi x5), .null, .null], [.int (zi x4)], M)) rfl ?_
    exact am_xr (some (.int (zi x4))) ⟨rfl, rfl, .int, rfl, rfl⟩ hv
theorem sp_nextKey (M : am_M) {b off : Int → Int} (w : WB b) (cb : CB (iv M 11) b) (day rv last : Int) (hl : -1 ≤ last) (lz : zr last) (dz : zr day) (ho : ∀ a, 0 ≤ a → a < b 0 → (zand (zshr rv a) 1 = 0 ↔ off a = 0)) :
    am_call t_Law_nextKey [.ref 9, .int (zi day), .int (zi rv), .int (zi last)] M (some (.int (zi (nk b off day last)))) M := by
  have w0 := w.n0
  have w1 := w.n1
  refine am_call_of ⟨Nat.le_of_ble_eq_true rfl, rfl⟩ (vc_nextKey day rv last M _ ?_)
  refine loop_up (fun i (s : Int) => (6, [.ref 9, .int (zi day), .int (zi rv), .int (zi last), .int (zi s), .int (zi i), .null, .null], [], M)) (b 0) (fun i s => s = nkf b off day last i.toNat) ?_ ?_ 0 (-1) (by omega) w0 rfl
  · intro s hs
    refine vc_nextKey_6 _ _ _ _ _ M _ ⟨⟨by omega, by omega⟩, fun h => by rw [cb.1] at h; omega, fun _ => ⟨by rw [hs]; rfl, rfl⟩⟩
  · intro i s i0 i1 hs k
    have e : nkf b off day last (i + 1).toNat = if du b off day i ∧ last < ky b i ∧ (s = -1 ∨ ky b i < s) then ky b i else s := by
      rw [show (i + 1).toNat = i.toNat + 1 by omega, nkf, show ((i.toNat : Nat) : Int) = i by omega, ← hs]
    have kn := w.ky_nn i0 i1
    have sz : zr s := by
      rcases nkf_is (b := b) (off := off) (day := day) hl i.toNat with ⟨h1, _⟩ | ⟨a, a0, a1, a2, _⟩
      · rw [hs, h1]; decide
      · have := w.ky_nn a0 (by omega)
        rw [hs, a2]; exact ⟨by omega, by omega⟩
    have ek : iv M 11 (4 + i) * 20 + i = ky b i := by rw [cb.2.2.2.1 i i0 i1]; rfl
    have hoi := ho i i0 i1
    refine vc_nextKey_6 _ _ _ _ _ M _ ⟨⟨by omega, by omega⟩, fun h => ⟨⟨i0, by omega⟩, ?_⟩, fun h => by rw [cb.1] at h; omega⟩
    rw [ek, cb.2.2.2.1 i i0 i1]
    refine ⟨fun q => ⟨⟨i0, by omega⟩, dz, fun q2 => k _ ?_, fun q2 => ⟨lz, ⟨by omega, by omega⟩, fun q3 => ⟨sz, fun q4 => k _ ?_, fun q4 => ⟨fun q5 => k _ ?_, fun q5 => k _ ?_⟩⟩, fun q3 => k _ ?_⟩⟩, fun q => k _ ?_⟩
    · rw [e, if_neg (fun z => by have := z.1.2; omega)]
    · rw [e, if_pos ⟨⟨hoi.mp q, q2⟩, q3, Or.inl q4⟩]
    · rw [e, if_pos ⟨⟨hoi.mp q, q2⟩, q3, Or.inr q5⟩]
    · rw [e, if_neg (fun z => by rcases z.2.2 with u | u <;> omega)]
    · rw [e, if_neg (fun z => by have := z.2.1; omega)]
    · rw [e, if_neg (fun z => q (hoi.mpr z.1.1))]
set_option maxRecDepth 100000 in
theorem vc_l15_carryOut (a : Int) (e : Int) (M : am_M) (Q : Option Value → am_M → Prop) (hv : (0 ≤ a ∧ a ≤ 20) ∧ (zr e ∧ ((e = (-1) → (0 ≤ (a + 1) ∧ (a + 1) ≤ 20) ∧ ((0 ≤ a ∧ a ≤ 20) ∧ (am_x t_Law_carryOut (41, [.ref 15, .ref 9, .null, .null, .int (zi (iv M 11 (4 + a))), .int (zi 0), .int (zi (iv M 11 (24 + (a + 1)))), .int (zi (iv M 11 (24 + a))), .null, .null, .null], [], M) Q))) ∧ (¬ e = (-1) → (e < (iv M 11 (4 + a)) → (0 ≤ (a + 1) ∧ (a + 1) ≤ 20) ∧ ((0 ≤ a ∧ a ≤ 20) ∧ (am_x t_Law_carryOut (41, [.ref 15, .ref 9, .null, .null, .int (zi (iv M 11 (4 + a))), .int (zi 1), .int (zi (iv M 11 (24 + (a + 1)))), .int (zi (iv M 11 (24 + a))), .null, .null, .null], [], M) Q))) ∧ ((iv M 11 (4 + a)) ≤ e → (0 ≤ (a + 1) ∧ (a + 1) ≤ 20) ∧ ((0 ≤ a ∧ a ≤ 20) ∧ (am_x t_Law_carryOut (41, [.ref 15, .ref 9, .null, .null, .int (zi (iv M 11 (4 + a))), .int (zi 0), .int (zi (iv M 11 (24 + (a + 1)))), .int (zi (iv M 11 (24 + a))), .null, .null, .null], [], M) Q))))))) : am_x t_Law_carryOut (0, am_ent (am_mL t_Law_carryOut) [.ref 15, .ref 9, .int (zi a), .int (zi e)], [], M) Q := by
  refine am_xn 0 (c1 := (0, [.ref 15, .ref 9, .int (zi a), .int (zi e), .null, .null, .null, .null, .null, .null, .null], [], M)) rfl ?_
  refine am_xn 2 (c1 := (2, [.ref 15, .ref 9, .int (zi a), .int (zi e), .null, .null, .null, .null, .null, .null, .null], [.int (zi a), .ref 9], M)) rfl ?_
  obtain ⟨g, hv⟩ := hv
  refine am_xc t_Amd_day (.invokevirtual 68) 68 (av := [.ref 9, .int (zi a)]) (rest := []) (rv := some (.int (zi (iv M 11 (4 + a))))) (M' := M) rfl rfl rfl rfl (Nat.le_of_ble_eq_true rfl) (fun _ => rfl) (sp_c_day M a g) ?_
  refine am_xn 0 (c1 := (5, [.ref 15, .ref 9, .int (zi a), .int (zi e), .null, .null, .null, .null, .null, .null, .null], [.int (zi (iv M 11 (4 + a)))], M)) rfl ?_
  obtain ⟨r1, hv⟩ := hv
  refine am_xn 4 (c1 := (if zi e = zi (-1) then 22 else 12, [.ref 15, .ref 9, .int (zi a), .int (zi e), .int (zi (iv M 11 (4 + a))), .null, .null, .null, .null, .null, .null], [], M)) rfl (am_xeq r1 (by decide) (fun h => ?_) (fun h => ?_))
  · replace hv := hv.1 h
    refine am_xiadd 6 a 1 (pc := 29) (ls := [.ref 15, .ref 9, .int (zi a), .int (zi e), .int (zi (iv M 11 (4 + a))), .int (zi 0), .null, .null, .null, .null, .null]) (st := [.ref 9]) rfl ?_
    obtain ⟨g, hv⟩ := hv
    refine am_xc t_Amd_start (.invokevirtual 72) 72 (av := [.ref 9, .int (zi (a + 1))]) (rest := []) (rv := some (.int (zi (iv M 11 (24 + (a + 1)))))) (M' := M) rfl rfl rfl rfl (Nat.le_of_ble_eq_true rfl) (fun _ => rfl) (sp_c_start M (a + 1) g) ?_
    refine am_xn 0 (c1 := (32, [.ref 15, .ref 9, .int (zi a), .int (zi e), .int (zi (iv M 11 (4 + a))), .int (zi 0), .null, .null, .null, .null, .null], [.int (zi (iv M 11 (24 + (a + 1))))], M)) rfl ?_
    refine am_xn 3 (c1 := (36, [.ref 15, .ref 9, .int (zi a), .int (zi e), .int (zi (iv M 11 (4 + a))), .int (zi 0), .int (zi (iv M 11 (24 + (a + 1)))), .null, .null, .null, .null], [.int (zi a), .ref 9], M)) rfl ?_
    obtain ⟨g, hv⟩ := hv
    refine am_xc t_Amd_start (.invokevirtual 72) 72 (av := [.ref 9, .int (zi a)]) (rest := []) (rv := some (.int (zi (iv M 11 (24 + a))))) (M' := M) rfl rfl rfl rfl (Nat.le_of_ble_eq_true rfl) (fun _ => rfl) (sp_c_start M a g) ?_
    refine am_xn 0 (c1 := (39, [.ref 15, .ref 9, .int (zi a), .int (zi e), .int (zi (iv M 11 (4 + a))), .int (zi 0), .int (zi (iv M 11 (24 + (a + 1)))), .null, .null, .null, .null], [.int (zi (iv M 11 (24 + a)))], M)) rfl ?_
    refine am_xn 1 (c1 := (41, [.ref 15, .ref 9, .int (zi a), .int (zi e), .int (zi (iv M 11 (4 + a))), .int (zi 0), .int (zi (iv M 11 (24 + (a + 1)))), .int (zi (iv M 11 (24 + a))), .null, .null, .null], [], M)) rfl ?_
    refine am_xf 2 ?_
    refine am_xf 3 ?_
    exact hv
  · replace hv := hv.2 h
    refine am_xn 3 (c1 := (if zi e < zi (iv M 11 (4 + a)) then 18 else 22, [.ref 15, .ref 9, .int (zi a), .int (zi e), .int (zi (iv M 11 (4 + a))), .null, .null, .null, .null, .null, .null], [], M)) rfl (am_xlt r1 (iv_r _ _ _) (fun h => ?_) (fun h => ?_))
    · replace hv := hv.1 h
      refine am_xiadd 7 a 1 (pc := 29) (ls := [.ref 15, .ref 9, .int (zi a), .int (zi e), .int (zi (iv M 11 (4 + a))), .int (zi 1), .null, .null, .null, .null, .null]) (st := [.ref 9]) rfl ?_
      obtain ⟨g, hv⟩ := hv
      refine am_xc t_Amd_start (.invokevirtual 72) 72 (av := [.ref 9, .int (zi (a + 1))]) (rest := []) (rv := some (.int (zi (iv M 11 (24 + (a + 1)))))) (M' := M) rfl rfl rfl rfl (Nat.le_of_ble_eq_true rfl) (fun _ => rfl) (sp_c_start M (a + 1) g) ?_
      refine am_xn 0 (c1 := (32, [.ref 15, .ref 9, .int (zi a), .int (zi e), .int (zi (iv M 11 (4 + a))), .int (zi 1), .null, .null, .null, .null, .null], [.int (zi (iv M 11 (24 + (a + 1))))], M)) rfl ?_
      refine am_xn 3 (c1 := (36, [.ref 15, .ref 9, .int (zi a), .int (zi e), .int (zi (iv M 11 (4 + a))), .int (zi 1), .int (zi (iv M 11 (24 + (a + 1)))), .null, .null, .null, .null], [.int (zi a), .ref 9], M)) rfl ?_
      obtain ⟨g, hv⟩ := hv
      refine am_xc t_Amd_start (.invokevirtual 72) 72 (av := [.ref 9, .int (zi a)]) (rest := []) (rv := some (.int (zi (iv M 11 (24 + a))))) (M' := M) rfl rfl rfl rfl (Nat.le_of_ble_eq_true rfl) (fun _ => rfl) (sp_c_start M a g) ?_
      refine am_xn 0 (c1 := (39, [.ref 15, .ref 9, .int (zi a), .int (zi e), .int (zi (iv M 11 (4 + a))), .int (zi 1), .int (zi (iv M 11 (24 + (a + 1)))), .null, .null, .null, .null], [.int (zi (iv M 11 (24 + a)))], M)) rfl ?_
      refine am_xn 1 (c1 := (41, [.ref 15, .ref 9, .int (zi a), .int (zi e), .int (zi (iv M 11 (4 + a))), .int (zi 1), .int (zi (iv M 11 (24 + (a + 1)))), .int (zi (iv M 11 (24 + a))), .null, .null, .null], [], M)) rfl ?_
      refine am_xf 2 ?_
      refine am_xf 3 ?_
      exact hv
    · replace hv := hv.2 h
      refine am_xiadd 6 a 1 (pc := 29) (ls := [.ref 15, .ref 9, .int (zi a), .int (zi e), .int (zi (iv M 11 (4 + a))), .int (zi 0), .null, .null, .null, .null, .null]) (st := [.ref 9]) rfl ?_
      obtain ⟨g, hv⟩ := hv
      refine am_xc t_Amd_start (.invokevirtual 72) 72 (av := [.ref 9, .int (zi (a + 1))]) (rest := []) (rv := some (.int (zi (iv M 11 (24 + (a + 1)))))) (M' := M) rfl rfl rfl rfl (Nat.le_of_ble_eq_true rfl) (fun _ => rfl) (sp_c_start M (a + 1) g) ?_
      refine am_xn 0 (c1 := (32, [.ref 15, .ref 9, .int (zi a), .int (zi e), .int (zi (iv M 11 (4 + a))), .int (zi 0), .null, .null, .null, .null, .null], [.int (zi (iv M 11 (24 + (a + 1))))], M)) rfl ?_
      refine am_xn 3 (c1 := (36, [.ref 15, .ref 9, .int (zi a), .int (zi e), .int (zi (iv M 11 (4 + a))), .int (zi 0), .int (zi (iv M 11 (24 + (a + 1)))), .null, .null, .null, .null], [.int (zi a), .ref 9], M)) rfl ?_
      obtain ⟨g, hv⟩ := hv
      refine am_xc t_Amd_start (.invokevirtual 72) 72 (av := [.ref 9, .int (zi a)]) (rest := []) (rv := some (.int (zi (iv M 11 (24 + a))))) (M' := M) rfl rfl rfl rfl (Nat.le_of_ble_eq_true rfl) (fun _ => rfl) (sp_c_start M a g) ?_
      refine am_xn 0 (c1 := (39, [.ref 15, .ref 9, .int (zi a), .int (zi e), .int (zi (iv M 11 (4 + a))), .int (zi 0), .int (zi (iv M 11 (24 + (a + 1)))), .null, .null, .null, .null], [.int (zi (iv M 11 (24 + a)))], M)) rfl ?_
      refine am_xn 1 (c1 := (41, [.ref 15, .ref 9, .int (zi a), .int (zi e), .int (zi (iv M 11 (4 + a))), .int (zi 0), .int (zi (iv M 11 (24 + (a + 1)))), .int (zi (iv M 11 (24 + a))), .null, .null, .null], [], M)) rfl ?_
      refine am_xf 2 ?_
      refine am_xf 3 ?_
      exact hv
set_option maxRecDepth 100000 in
theorem vc_l15_carryOut_41 (x4 : Int) (x5 : Int) (x6 : Int) (x7 : Int) (M : am_M) (Q : Option Value → am_M → Prop) (hv : zr x7 ∧ (zr x6 ∧ ((x7 < x6 → zr x5 ∧ ((x5 = 0 → am_x t_Law_carryOut (67, [.ref 15, .ref 9, .null, .null, .int (zi x4), .int (zi x5), .int (zi x6), .int (zi x7), .null, .null, .null], [], M) Q) ∧ (¬ x5 = 0 → (0 ≤ x7 ∧ x7 < 120 ∧ 0 ≤ (4 : Int) ∧ (4 : Int) < 13) ∧ (((cpt (iv M 11) x7 4) = 1 → am_x t_Law_carryOut (193, [.ref 15, .ref 9, .null, .null, .int (zi x4), .int (zi x5), .int (zi x6), .int (zi x7), .null, .null, .null], [], M) Q) ∧ (¬ (cpt (iv M 11) x7 4) = 1 → am_x t_Law_carryOut (67, [.ref 15, .ref 9, .null, .null, .int (zi x4), .int (zi x5), .int (zi x6), .int (zi x7), .null, .null, .null], [], M) Q))))) ∧ (x6 ≤ x7 → Q none M)))) : am_x t_Law_carryOut (41, [.ref 15, .ref 9, .null, .null, .int (zi x4), .int (zi x5), .int (zi x6), .int (zi x7), .null, .null, .null], [], M) Q := by
  obtain ⟨r1, hv⟩ := hv
  obtain ⟨r2, hv⟩ := hv
  refine am_xn 3 (c1 := (if zi x7 < zi x6 then 48 else 199, [.ref 15, .ref 9, .null, .null, .int (zi x4), .int (zi x5), .int (zi x6), .int (zi x7), .null, .null, .null], [], M)) rfl (am_xlt r1 r2 (fun h => ?_) (fun h => ?_))
  · replace hv := hv.1 h
    obtain ⟨r3, hv⟩ := hv
    refine am_xn 2 (c1 := (if zi x5 = zi 0 then 67 else 53, [.ref 15, .ref 9, .null, .null, .int (zi x4), .int (zi x5), .int (zi x6), .int (zi x7), .null, .null, .null], [], M)) rfl (am_xeq r3 (by decide) (fun h => ?_) (fun h => ?_))
    · replace hv := hv.1 h
      exact hv
    · replace hv := hv.2 h
      refine am_xn 3 (c1 := (57, [.ref 15, .ref 9, .null, .null, .int (zi x4), .int (zi x5), .int (zi x6), .int (zi x7), .null, .null, .null], [.int (zi 4), .int (zi x7), .ref 9], M)) rfl ?_
      obtain ⟨g, hv⟩ := hv
      refine am_xc t_Amd_cell (.invokevirtual 75) 75 (av := [.ref 9, .int (zi x7), .int (zi 4)]) (rest := []) (rv := some (.int (zi (cpt (iv M 11) x7 4)))) (M' := M) rfl rfl rfl rfl (Nat.le_of_ble_eq_true rfl) (fun _ => rfl) (sp_c_cell M x7 4 g) ?_
      refine am_xn 0 (c1 := (60, [.ref 15, .ref 9, .null, .null, .int (zi x4), .int (zi x5), .int (zi x6), .int (zi x7), .null, .null, .null], [.int (zi (cpt (iv M 11) x7 4))], M)) rfl ?_
      refine am_xn 2 (c1 := (if zi (cpt (iv M 11) x7 4) = zi 1 then 64 else 67, [.ref 15, .ref 9, .null, .null, .int (zi x4), .int (zi x5), .int (zi x6), .int (zi x7), .null, .null, .null], [], M)) rfl (am_xeq (iv_r _ 11 _) (by decide) (fun h => ?_) (fun h => ?_))
      · replace hv := hv.1 h
        refine am_xn 1 (c1 := (193, [.ref 15, .ref 9, .null, .null, .int (zi x4), .int (zi x5), .int (zi x6), .int (zi x7), .null, .null, .null], [], M)) rfl ?_
        exact hv
      · replace hv := hv.2 h
        exact hv
  · replace hv := hv.2 h
    exact am_xr none ⟨rfl, rfl, rfl⟩ hv
set_option maxRecDepth 100000 in
theorem vc_l15_carryOut_67 (x4 : Int) (x5 : Int) (x6 : Int) (x7 : Int) (M : am_M) (Q : Option Value → am_M → Prop) (hv : (0 ≤ x7 ∧ x7 < 120 ∧ 0 ≤ (1 : Int) ∧ (1 : Int) < 13) ∧ (∃ (r2 : Int) (M1 : am_M), am_call t_Law_holder [.ref 15, .int (zi (cpt (iv M 11) x7 1))] M (some (.int (zi r2))) M1 ∧ (∃ (r4 : Int) (M3 : am_M), am_call t_Law_resolves [.ref 15, .ref 9, .int (zi x7)] M1 (some (.int (zi r4))) M3 ∧ (∃ (r6 : Int) (M5 : am_M), am_call t_Law_reason [.ref 15, .ref 9, .int (zi x7), .int (zi r2), .int (zi r4)] M3 (some (.int (zi r6))) M5 ∧ ((0 ≤ x7 ∧ x7 < 120) ∧ (∀ M7, M7 = zup M5 27 x7 r6 → zr r6 ∧ ((r6 = 0 → (0 ≤ x7 ∧ x7 < 120 ∧ 0 ≤ (0 : Int) ∧ (0 : Int) < 13) ∧ (((cpt (iv M7 11) x7 0) = 0 → (0 ≤ x7 ∧ x7 < 120 ∧ 0 ≤ (6 : Int) ∧ (6 : Int) < 13) ∧ (am_x t_Law_carryOut (139, [.ref 15, .ref 9, .null, .null, .int (zi x4), .int (zi x5), .int (zi x6), .int (zi x7), .null, .null, .int (zi (cpt (iv M7 11) x7 6))], [], M7) Q)) ∧ (¬ (cpt (iv M7 11) x7 0) = 0 → am_x t_Law_carryOut (139, [.ref 15, .ref 9, .null, .null, .int (zi x4), .int (zi x5), .int (zi x6), .int (zi x7), .null, .null, .int (zi r2)], [], M7) Q))) ∧ (¬ r6 = 0 → am_x t_Law_carryOut (193, [.ref 15, .ref 9, .null, .null, .int (zi x4), .int (zi x5), .int (zi x6), .int (zi x7), .null, .null, .null], [], M7) Q)))))))) : am_x t_Law_carryOut (67, [.ref 15, .ref 9, .null, .null, .int (zi x4), .int (zi x5), .int (zi x6), .int (zi x7), .null, .null, .null], [], M) Q := by
  refine am_xn 4 (c1 := (72, [.ref 15, .ref 9, .null, .null, .int (zi x4), .int (zi x5), .int (zi x6), .int (zi x7), .null, .null, .null], [.int (zi 1), .int (zi x7), .ref 9, .ref 15], M)) rfl ?_
  obtain ⟨g, hv⟩ := hv
  refine am_xc t_Amd_cell (.invokevirtual 75) 75 (av := [.ref 9, .int (zi x7), .int (zi 1)]) (rest := [.ref 15]) (rv := some (.int (zi (cpt (iv M 11) x7 1)))) (M' := M) rfl rfl rfl rfl (Nat.le_of_ble_eq_true rfl) (fun _ => rfl) (sp_c_cell M x7 1 g) ?_
  refine am_xn 0 (c1 := (75, [.ref 15, .ref 9, .null, .null, .int (zi x4), .int (zi x5), .int (zi x6), .int (zi x7), .null, .null, .null], [.int (zi (cpt (iv M 11) x7 1)), .ref 15], M)) rfl ?_
  obtain ⟨r2, M1, hc, hv⟩ := hv
  refine am_xc t_Law_holder (.invokevirtual 79) 79 (av := [.ref 15, .int (zi (cpt (iv M 11) x7 1))]) (rest := []) (rv := some (.int (zi r2))) (M' := M1) rfl rfl rfl rfl (Nat.le_of_ble_eq_true rfl) (fun _ => rfl) (hc) ?_
  refine am_xn 0 (c1 := (78, [.ref 15, .ref 9, .null, .null, .int (zi x4), .int (zi x5), .int (zi x6), .int (zi x7), .null, .null, .null], [.int (zi r2)], M1)) rfl ?_
  refine am_xn 8 (c1 := (90, [.ref 15, .ref 9, .null, .null, .int (zi x4), .int (zi x5), .int (zi x6), .int (zi x7), .int (zi r2), .null, .null], [.int (zi x7), .ref 9, .ref 15, .int (zi r2), .int (zi x7), .ref 9, .ref 15], M1)) rfl ?_
  obtain ⟨r4, M3, hc, hv⟩ := hv
  refine am_xc t_Law_resolves (.invokevirtual 82) 82 (av := [.ref 15, .ref 9, .int (zi x7)]) (rest := [.int (zi r2), .int (zi x7), .ref 9, .ref 15]) (rv := some (.int (zi r4))) (M' := M3) rfl rfl rfl rfl (Nat.le_of_ble_eq_true rfl) (fun _ => rfl) (hc) ?_
  refine am_xn 0 (c1 := (93, [.ref 15, .ref 9, .null, .null, .int (zi x4), .int (zi x5), .int (zi x6), .int (zi x7), .int (zi r2), .null, .null], [.int (zi r4), .int (zi r2), .int (zi x7), .ref 9, .ref 15], M3)) rfl ?_
  obtain ⟨r6, M5, hc, hv⟩ := hv
  refine am_xc t_Law_reason (.invokevirtual 86) 86 (av := [.ref 15, .ref 9, .int (zi x7), .int (zi r2), .int (zi r4)]) (rest := []) (rv := some (.int (zi r6))) (M' := M5) rfl rfl rfl rfl (Nat.le_of_ble_eq_true rfl) (fun _ => rfl) (hc) ?_
  refine am_xn 0 (c1 := (96, [.ref 15, .ref 9, .null, .null, .int (zi x4), .int (zi x5), .int (zi x6), .int (zi x7), .int (zi r2), .null, .null], [.int (zi r6)], M5)) rfl ?_
  refine am_xn 5 (c1 := (106, [.ref 15, .ref 9, .null, .null, .int (zi x4), .int (zi x5), .int (zi x6), .int (zi x7), .int (zi r2), .int (zi r6), .null], [.int (zi r6), .int (zi x7), .ref 26], M5)) rfl ?_
  obtain ⟨g, hv⟩ := hv
  obtain ⟨M7, eM7⟩ : ∃ m, m = zup M5 27 x7 r6 := ⟨_, rfl⟩
  replace hv := hv M7 eM7
  refine am_xc t_Row_set (.invokevirtual 90) 90 (av := [.ref 26, .int (zi x7), .int (zi r6)]) (rest := []) (rv := none) (M' := M7) rfl rfl rfl rfl (Nat.le_of_ble_eq_true rfl) (fun _ => rfl) (by rw [eM7]; exact sp_set_26 M5 x7 r6 g) ?_
  refine am_xn 0 (c1 := (109, [.ref 15, .ref 9, .null, .null, .int (zi x4), .int (zi x5), .int (zi x6), .int (zi x7), .int (zi r2), .int (zi r6), .null], [], M7)) rfl ?_
  obtain ⟨r8, hv⟩ := hv
  refine am_xn 2 (c1 := (if zi r6 = zi 0 then 114 else 193, [.ref 15, .ref 9, .null, .null, .int (zi x4), .int (zi x5), .int (zi x6), .int (zi x7), .int (zi r2), .int (zi r6), .null], [], M7)) rfl (am_xeq r8 (by decide) (fun h => ?_) (fun h => ?_))
  · replace hv := hv.1 h
    refine am_xn 3 (c1 := (118, [.ref 15, .ref 9, .null, .null, .int (zi x4), .int (zi x5), .int (zi x6), .int (zi x7), .int (zi r2), .int (zi r6), .null], [.int (zi 0), .int (zi x7), .ref 9], M7)) rfl ?_
    obtain ⟨g, hv⟩ := hv
    refine am_xc t_Amd_cell (.invokevirtual 75) 75 (av := [.ref 9, .int (zi x7), .int (zi 0)]) (rest := []) (rv := some (.int (zi (cpt (iv M7 11) x7 0)))) (M' := M7) rfl rfl rfl rfl (Nat.le_of_ble_eq_true rfl) (fun _ => rfl) (sp_c_cell M7 x7 0 g) ?_
    refine am_xn 0 (c1 := (121, [.ref 15, .ref 9, .null, .null, .int (zi x4), .int (zi x5), .int (zi x6), .int (zi x7), .int (zi r2), .int (zi r6), .null], [.int (zi (cpt (iv M7 11) x7 0))], M7)) rfl ?_
    refine am_xn 1 (c1 := (if zi (cpt (iv M7 11) x7 0) = zi 0 then 124 else 135, [.ref 15, .ref 9, .null, .null, .int (zi x4), .int (zi x5), .int (zi x6), .int (zi x7), .int (zi r2), .int (zi r6), .null], [], M7)) rfl (am_xeq (iv_r _ 11 _) (by decide) (fun h => ?_) (fun h => ?_))
    · replace hv := hv.1 h
      refine am_xn 3 (c1 := (129, [.ref 15, .ref 9, .null, .null, .int (zi x4), .int (zi x5), .int (zi x6), .int (zi x7), .int (zi r2), .int (zi r6), .null], [.int (zi 6), .int (zi x7), .ref 9], M7)) rfl ?_
      obtain ⟨g, hv⟩ := hv
      refine am_xc t_Amd_cell (.invokevirtual 75) 75 (av := [.ref 9, .int (zi x7), .int (zi 6)]) (rest := []) (rv := some (.int (zi (cpt (iv M7 11) x7 6)))) (M' := M7) rfl rfl rfl rfl (Nat.le_of_ble_eq_true rfl) (fun _ => rfl) (sp_c_cell M7 x7 6 g) ?_
      refine am_xn 0 (c1 := (132, [.ref 15, .ref 9, .null, .null, .int (zi x4), .int (zi x5), .int (zi x6), .int (zi x7), .int (zi r2), .int (zi r6), .null], [.int (zi (cpt (iv M7 11) x7 6))], M7)) rfl ?_
      refine am_xn 2 (c1 := (139, [.ref 15, .ref 9, .null, .null, .int (zi x4), .int (zi x5), .int (zi x6), .int (zi x7), .int (zi r2), .int (zi r6), .int (zi (cpt (iv M7 11) x7 6))], [], M7)) rfl ?_
      refine am_xf 8 ?_
      refine am_xf 9 ?_
      exact hv
    · replace hv := hv.2 h
      refine am_xn 2 (c1 := (139, [.ref 15, .ref 9, .null, .null, .int (zi x4), .int (zi x5), .int (zi x6), .int (zi x7), .int (zi r2), .int (zi r6), .int (zi r2)], [], M7)) rfl ?_
      refine am_xf 8 ?_
      refine am_xf 9 ?_
      exact hv
  · replace hv := hv.2 h
    refine am_xf 8 ?_
    refine am_xf 9 ?_
    exact hv
set_option maxRecDepth 100000 in
theorem vc_l15_carryOut_193 (x4 : Int) (x5 : Int) (x6 : Int) (x7 : Int) (M : am_M) (Q : Option Value → am_M → Prop) (hv : am_x t_Law_carryOut (41, [.ref 15, .ref 9, .null, .null, .int (zi x4), .int (zi x5), .int (zi x6), .int (zi (x7 + 1)), .null, .null, .null], [], M) Q) : am_x t_Law_carryOut (193, [.ref 15, .ref 9, .null, .null, .int (zi x4), .int (zi x5), .int (zi x6), .int (zi x7), .null, .null, .null], [], M) Q := by
  refine am_xn 1 (c1 := (196, [.ref 15, .ref 9, .null, .null, .int (zi x4), .int (zi x5), .int (zi x6), .int (zi x7 + zi 1), .null, .null, .null], [], M)) rfl ?_
  rw [zi_add]
  refine am_xn 1 (c1 := (41, [.ref 15, .ref 9, .null, .null, .int (zi x4), .int (zi x5), .int (zi x6), .int (zi (x7 + 1)), .null, .null, .null], [], M)) rfl ?_
  exact hv
set_option maxRecDepth 100000 in
theorem vc_l15_carryOut_139 (x4 : Int) (x5 : Int) (x6 : Int) (x7 : Int) (x10 : Int) (M : am_M) (Q : Option Value → am_M → Prop) (hv : ∃ M1, am_call t_Law_perform [.ref 15, .ref 9, .int (zi x7), .int (zi x10)] M none M1 ∧ ((0 ≤ x10 ∧ x10 < 40) ∧ (∀ M2, M2 = zup M1 19 x10 x4 → (0 ≤ x7 ∧ x7 < 120) ∧ (∀ M3, M3 = zup M2 29 x7 x10 → (0 ≤ (iv M3 15 10) ∧ (iv M3 15 10) < 120) ∧ (∀ M4, M4 = zup M3 31 (iv M3 15 10) x7 → ∀ M5, M5 = zup M4 15 10 ((iv M4 15 10) + 1) → am_x t_Law_carryOut (193, [.ref 15, .ref 9, .null, .null, .int (zi x4), .int (zi x5), .int (zi x6), .int (zi x7), .null, .null, .null], [], M5) Q))))) : am_x t_Law_carryOut (139, [.ref 15, .ref 9, .null, .null, .int (zi x4), .int (zi x5), .int (zi x6), .int (zi x7), .null, .null, .int (zi x10)], [], M) Q := by
  refine am_xn 4 (c1 := (145, [.ref 15, .ref 9, .null, .null, .int (zi x4), .int (zi x5), .int (zi x6), .int (zi x7), .null, .null, .int (zi x10)], [.int (zi x10), .int (zi x7), .ref 9, .ref 15], M)) rfl ?_
  obtain ⟨M1, hc, hv⟩ := hv
  refine am_xc t_Law_perform (.invokevirtual 94) 94 (av := [.ref 15, .ref 9, .int (zi x7), .int (zi x10)]) (rest := []) (rv := none) (M' := M1) rfl rfl rfl rfl (Nat.le_of_ble_eq_true rfl) (fun _ => rfl) (hc) ?_
  refine am_xn 0 (c1 := (148, [.ref 15, .ref 9, .null, .null, .int (zi x4), .int (zi x5), .int (zi x6), .int (zi x7), .null, .null, .int (zi x10)], [], M1)) rfl ?_
  refine am_xn 4 (c1 := (156, [.ref 15, .ref 9, .null, .null, .int (zi x4), .int (zi x5), .int (zi x6), .int (zi x7), .null, .null, .int (zi x10)], [.int (zi x4), .int (zi x10), .ref 18], M1)) rfl ?_
  obtain ⟨g, hv⟩ := hv
  obtain ⟨M2, eM2⟩ : ∃ m, m = zup M1 19 x10 x4 := ⟨_, rfl⟩
  replace hv := hv M2 eM2
  refine am_xc t_Row_set (.invokevirtual 90) 90 (av := [.ref 18, .int (zi x10), .int (zi x4)]) (rest := []) (rv := none) (M' := M2) rfl rfl rfl rfl (Nat.le_of_ble_eq_true rfl) (fun _ => rfl) (by rw [eM2]; exact sp_set_18 M1 x10 x4 g) ?_
  refine am_xn 0 (c1 := (159, [.ref 15, .ref 9, .null, .null, .int (zi x4), .int (zi x5), .int (zi x6), .int (zi x7), .null, .null, .int (zi x10)], [], M2)) rfl ?_
  refine am_xn 4 (c1 := (167, [.ref 15, .ref 9, .null, .null, .int (zi x4), .int (zi x5), .int (zi x6), .int (zi x7), .null, .null, .int (zi x10)], [.int (zi x10), .int (zi x7), .ref 28], M2)) rfl ?_
  obtain ⟨g, hv⟩ := hv
  obtain ⟨M3, eM3⟩ : ∃ m, m = zup M2 29 x7 x10 := ⟨_, rfl⟩
  replace hv := hv M3 eM3
  refine am_xc t_Row_set (.invokevirtual 90) 90 (av := [.ref 28, .int (zi x7), .int (zi x10)]) (rest := []) (rv := none) (M' := M3) rfl rfl rfl rfl (Nat.le_of_ble_eq_true rfl) (fun _ => rfl) (by rw [eM3]; exact sp_set_28 M2 x7 x10 g) ?_
  refine am_xn 0 (c1 := (170, [.ref 15, .ref 9, .null, .null, .int (zi x4), .int (zi x5), .int (zi x6), .int (zi x7), .null, .null, .int (zi x10)], [], M3)) rfl ?_
  refine am_xrd 4 15 10 (pc := 178) (ls := [.ref 15, .ref 9, .null, .null, .int (zi x4), .int (zi x5), .int (zi x6), .int (zi x7), .null, .null, .int (zi x10)]) (st := [.ref 30]) rfl ?_
  refine am_xn 1 (c1 := (180, [.ref 15, .ref 9, .null, .null, .int (zi x4), .int (zi x5), .int (zi x6), .int (zi x7), .null, .null, .int (zi x10)], [.int (zi x7), .int (zi (iv M3 15 10)), .ref 30], M3)) rfl ?_
  obtain ⟨g, hv⟩ := hv
  obtain ⟨M4, eM4⟩ : ∃ m, m = zup M3 31 (iv M3 15 10) x7 := ⟨_, rfl⟩
  replace hv := hv M4 eM4
  refine am_xc t_Row_set (.invokevirtual 90) 90 (av := [.ref 30, .int (zi (iv M3 15 10)), .int (zi x7)]) (rest := []) (rv := none) (M' := M4) rfl rfl rfl rfl (Nat.le_of_ble_eq_true rfl) (fun _ => rfl) (by rw [eM4]; exact sp_set_30 M3 (iv M3 15 10) x7 g) ?_
  refine am_xn 0 (c1 := (183, [.ref 15, .ref 9, .null, .null, .int (zi x4), .int (zi x5), .int (zi x6), .int (zi x7), .null, .null, .int (zi x10)], [], M4)) rfl ?_
  refine am_xrd 3 15 10 (pc := 188) (ls := [.ref 15, .ref 9, .null, .null, .int (zi x4), .int (zi x5), .int (zi x6), .int (zi x7), .null, .null, .int (zi x10)]) (st := [.ref 15]) rfl ?_
  refine am_xiadd 2 (iv M4 15 10) 1 (pc := 190) (ls := [.ref 15, .ref 9, .null, .null, .int (zi x4), .int (zi x5), .int (zi x6), .int (zi x7), .null, .null, .int (zi x10)]) (st := [.ref 15]) rfl ?_
  refine am_xn 1 (c1 := (193, [.ref 15, .ref 9, .null, .null, .int (zi x4), .int (zi x5), .int (zi x6), .int (zi x7), .null, .null, .int (zi x10)], [], zup M4 15 10 ((iv M4 15 10) + 1))) rfl ?_
  obtain ⟨M5, eM5⟩ : ∃ m, m = zup M4 15 10 ((iv M4 15 10) + 1) := ⟨_, rfl⟩
  replace hv := hv M5 eM5
  rw [← eM5]
  refine am_xf 10 ?_
  exact hv
set_option maxRecDepth 100000 in
theorem vc_l15_arrange  (M : am_M) (Q : Option Value → am_M → Prop) (hv : ∀ M1, M1 = zup M 15 9 0 → am_x t_Law_arrange (7, [.ref 15, .int (zi 0), .null, .null], [], M1) Q) : am_x t_Law_arrange (0, am_ent (am_mL t_Law_arrange) [.ref 15], [], M) Q := by
  refine am_xn 0 (c1 := (0, [.ref 15, .null, .null, .null], [], M)) rfl ?_
  refine am_xn 3 (c1 := (5, [.ref 15, .null, .null, .null], [], zup M 15 9 0)) rfl ?_
  obtain ⟨M1, eM1⟩ : ∃ m, m = zup M 15 9 0 := ⟨_, rfl⟩
  replace hv := hv M1 eM1
  rw [← eM1]
  refine am_xn 2 (c1 := (7, [.ref 15, .int (zi 0), .null, .null], [], M1)) rfl ?_
  exact hv
set_option maxRecDepth 100000 in
theorem vc_l15_arrange_7 (x1 : Int) (M : am_M) (Q : Option Value → am_M → Prop) (hv : zr x1 ∧ ((x1 < 40 → (0 ≤ x1 ∧ x1 < 40) ∧ (((iv M 17 x1) = 0 → am_x t_Law_arrange (7, [.ref 15, .int (zi (x1 + 1)), .null, .null], [], M) Q) ∧ (¬ (iv M 17 x1) = 0 → am_x t_Law_arrange (31, [.ref 15, .int (zi x1), .int (zi (iv M 17 x1)), .int (zi (iv M 15 9))], [], M) Q))) ∧ (40 ≤ x1 → Q none M))) : am_x t_Law_arrange (7, [.ref 15, .int (zi x1), .null, .null], [], M) Q := by
  obtain ⟨r1, hv⟩ := hv
  refine am_xn 3 (c1 := (if zi x1 < zi 40 then 13 else 105, [.ref 15, .int (zi x1), .null, .null], [], M)) rfl (am_xlt r1 (by decide) (fun h => ?_) (fun h => ?_))
  · replace hv := hv.1 h
    refine am_xn 3 (c1 := (18, [.ref 15, .int (zi x1), .null, .null], [.int (zi x1), .ref 16], M)) rfl ?_
    obtain ⟨g, hv⟩ := hv
    refine am_xc t_Row_get (.invokevirtual 97) 97 (av := [.ref 16, .int (zi x1)]) (rest := []) (rv := some (.int (zi (iv M 17 x1)))) (M' := M) rfl rfl rfl rfl (Nat.le_of_ble_eq_true rfl) (fun _ => rfl) (sp_get_16 M x1 g) ?_
    refine am_xn 0 (c1 := (21, [.ref 15, .int (zi x1), .null, .null], [.int (zi (iv M 17 x1))], M)) rfl ?_
    refine am_xn 3 (c1 := (if zi (iv M 17 x1) = zi 0 then 99 else 26, [.ref 15, .int (zi x1), .int (zi (iv M 17 x1)), .null], [], M)) rfl (am_xeq (iv_r _ _ _) (by decide) (fun h => ?_) (fun h => ?_))
    · replace hv := hv.1 h
      refine am_xn 1 (c1 := (102, [.ref 15, .int (zi x1 + zi 1), .int (zi (iv M 17 x1)), .null], [], M)) rfl ?_
      rw [zi_add]
      refine am_xn 1 (c1 := (7, [.ref 15, .int (zi (x1 + 1)), .int (zi (iv M 17 x1)), .null], [], M)) rfl ?_
      refine am_xf 2 ?_
      exact hv
    · replace hv := hv.2 h
      refine am_xrd 2 15 9 (pc := 30) (ls := [.ref 15, .int (zi x1), .int (zi (iv M 17 x1)), .null]) (st := []) rfl ?_
      refine am_xn 1 (c1 := (31, [.ref 15, .int (zi x1), .int (zi (iv M 17 x1)), .int (zi (iv M 15 9))], [], M)) rfl ?_
      exact hv
  · replace hv := hv.2 h
    exact am_xr none ⟨rfl, rfl, rfl⟩ hv
set_option maxRecDepth 100000 in
theorem vc_l15_arrange_31 (x1 : Int) (x2 : Int) (x3 : Int) (M : am_M) (Q : Option Value → am_M → Prop) (hv : zr x3 ∧ ((0 < x3 → (0 ≤ (x3 - 1) ∧ (x3 - 1) < 40) ∧ ((0 ≤ (iv M 25 (x3 - 1)) ∧ (iv M 25 (x3 - 1)) < 40) ∧ (zr x2 ∧ ((x2 < (iv M 17 (iv M 25 (x3 - 1))) → (0 ≤ (x3 - 1) ∧ (x3 - 1) < 40) ∧ ((0 ≤ x3 ∧ x3 < 40) ∧ (∀ M3, M3 = zup M 25 x3 (iv M 25 (x3 - 1)) → am_x t_Law_arrange (31, [.ref 15, .int (zi x1), .int (zi x2), .int (zi (x3 + (-1)))], [], M3) Q))) ∧ ((iv M 17 (iv M 25 (x3 - 1))) ≤ x2 → (0 ≤ x3 ∧ x3 < 40) ∧ (∀ M4, M4 = zup M 25 x3 x1 → ∀ M5, M5 = zup M4 15 9 ((iv M4 15 9) + 1) → am_x t_Law_arrange (7, [.ref 15, .int (zi (x1 + 1)), .null, .null], [], M5) Q)))))) ∧ (x3 ≤ 0 → (0 ≤ x3 ∧ x3 < 40) ∧ (∀ M6, M6 = zup M 25 x3 x1 → ∀ M7, M7 = zup M6 15 9 ((iv M6 15 9) + 1) → am_x t_Law_arrange (7, [.ref 15, .int (zi (x1 + 1)), .null, .null], [], M7) Q)))) : am_x t_Law_arrange (31, [.ref 15, .int (zi x1), .int (zi x2), .int (zi x3)], [], M) Q := by
  obtain ⟨r1, hv⟩ := hv
  refine am_xn 2 (c1 := (if zi 0 < zi x3 then 35 else 80, [.ref 15, .int (zi x1), .int (zi x2), .int (zi x3)], [], M)) rfl (am_xlt (by decide) r1 (fun h => ?_) (fun h => ?_))
  · replace hv := hv.1 h
    refine am_xisub 7 x3 1 (pc := 46) (ls := [.ref 15, .int (zi x1), .int (zi x2), .int (zi x3)]) (st := [.ref 24, .ref 16]) rfl ?_
    obtain ⟨g, hv⟩ := hv
    refine am_xc t_Row_get (.invokevirtual 97) 97 (av := [.ref 24, .int (zi (x3 - 1))]) (rest := [.ref 16]) (rv := some (.int (zi (iv M 25 (x3 - 1))))) (M' := M) rfl rfl rfl rfl (Nat.le_of_ble_eq_true rfl) (fun _ => rfl) (sp_get_24 M (x3 - 1) g) ?_
    refine am_xn 0 (c1 := (49, [.ref 15, .int (zi x1), .int (zi x2), .int (zi x3)], [.int (zi (iv M 25 (x3 - 1))), .ref 16], M)) rfl ?_
    obtain ⟨g, hv⟩ := hv
    refine am_xc t_Row_get (.invokevirtual 97) 97 (av := [.ref 16, .int (zi (iv M 25 (x3 - 1)))]) (rest := []) (rv := some (.int (zi (iv M 17 (iv M 25 (x3 - 1)))))) (M' := M) rfl rfl rfl rfl (Nat.le_of_ble_eq_true rfl) (fun _ => rfl) (sp_get_16 M (iv M 25 (x3 - 1)) g) ?_
    refine am_xn 0 (c1 := (52, [.ref 15, .int (zi x1), .int (zi x2), .int (zi x3)], [.int (zi (iv M 17 (iv M 25 (x3 - 1))))], M)) rfl ?_
    obtain ⟨r2, hv⟩ := hv
    refine am_xn 2 (c1 := (if zi x2 < zi (iv M 17 (iv M 25 (x3 - 1))) then 56 else 80, [.ref 15, .int (zi x1), .int (zi x2), .int (zi x3)], [], M)) rfl (am_xlt r2 (iv_r _ _ _) (fun h => ?_) (fun h => ?_))
    · replace hv := hv.1 h
      refine am_xisub 8 x3 1 (pc := 68) (ls := [.ref 15, .int (zi x1), .int (zi x2), .int (zi x3)]) (st := [.ref 24, .int (zi x3), .ref 24]) rfl ?_
      obtain ⟨g, hv⟩ := hv
      refine am_xc t_Row_get (.invokevirtual 97) 97 (av := [.ref 24, .int (zi (x3 - 1))]) (rest := [.int (zi x3), .ref 24]) (rv := some (.int (zi (iv M 25 (x3 - 1))))) (M' := M) rfl rfl rfl rfl (Nat.le_of_ble_eq_true rfl) (fun _ => rfl) (sp_get_24 M (x3 - 1) g) ?_
      refine am_xn 0 (c1 := (71, [.ref 15, .int (zi x1), .int (zi x2), .int (zi x3)], [.int (zi (iv M 25 (x3 - 1))), .int (zi x3), .ref 24], M)) rfl ?_
      obtain ⟨g, hv⟩ := hv
      obtain ⟨M3, eM3⟩ : ∃ m, m = zup M 25 x3 (iv M 25 (x3 - 1)) := ⟨_, rfl⟩
      replace hv := hv M3 eM3
      refine am_xc t_Row_set (.invokevirtual 90) 90 (av := [.ref 24, .int (zi x3), .int (zi (iv M 25 (x3 - 1)))]) (rest := []) (rv := none) (M' := M3) rfl rfl rfl rfl (Nat.le_of_ble_eq_true rfl) (fun _ => rfl) (by rw [eM3]; exact sp_set_24 M x3 (iv M 25 (x3 - 1)) g) ?_
      refine am_xn 0 (c1 := (74, [.ref 15, .int (zi x1), .int (zi x2), .int (zi x3)], [], M3)) rfl ?_
      refine am_xn 1 (c1 := (77, [.ref 15, .int (zi x1), .int (zi x2), .int (zi x3 + zi (-1))], [], M3)) rfl ?_
      rw [zi_add]
      refine am_xn 1 (c1 := (31, [.ref 15, .int (zi x1), .int (zi x2), .int (zi (x3 + (-1)))], [], M3)) rfl ?_
      exact hv
    · replace hv := hv.2 h
      refine am_xn 4 (c1 := (86, [.ref 15, .int (zi x1), .int (zi x2), .int (zi x3)], [.int (zi x1), .int (zi x3), .ref 24], M)) rfl ?_
      obtain ⟨g, hv⟩ := hv
      obtain ⟨M4, eM4⟩ : ∃ m, m = zup M 25 x3 x1 := ⟨_, rfl⟩
      replace hv := hv M4 eM4
      refine am_xc t_Row_set (.invokevirtual 90) 90 (av := [.ref 24, .int (zi x3), .int (zi x1)]) (rest := []) (rv := none) (M' := M4) rfl rfl rfl rfl (Nat.le_of_ble_eq_true rfl) (fun _ => rfl) (by rw [eM4]; exact sp_set_24 M x3 x1 g) ?_
      refine am_xn 0 (c1 := (89, [.ref 15, .int (zi x1), .int (zi x2), .int (zi x3)], [], M4)) rfl ?_
      refine am_xrd 3 15 9 (pc := 94) (ls := [.ref 15, .int (zi x1), .int (zi x2), .int (zi x3)]) (st := [.ref 15]) rfl ?_
      refine am_xiadd 2 (iv M4 15 9) 1 (pc := 96) (ls := [.ref 15, .int (zi x1), .int (zi x2), .int (zi x3)]) (st := [.ref 15]) rfl ?_
      refine am_xn 1 (c1 := (99, [.ref 15, .int (zi x1), .int (zi x2), .int (zi x3)], [], zup M4 15 9 ((iv M4 15 9) + 1))) rfl ?_
      obtain ⟨M5, eM5⟩ : ∃ m, m = zup M4 15 9 ((iv M4 15 9) + 1) := ⟨_, rfl⟩
      replace hv := hv M5 eM5
      rw [← eM5]
      refine am_xn 1 (c1 := (102, [.ref 15, .int (zi x1 + zi 1), .int (zi x2), .int (zi x3)], [], M5)) rfl ?_
      rw [zi_add]
      refine am_xn 1 (c1 := (7, [.ref 15, .int (zi (x1 + 1)), .int (zi x2), .int (zi x3)], [], M5)) rfl ?_
      refine am_xf 2 ?_
      refine am_xf 3 ?_
      exact hv
  · replace hv := hv.2 h
    refine am_xn 4 (c1 := (86, [.ref 15, .int (zi x1), .int (zi x2), .int (zi x3)], [.int (zi x1), .int (zi x3), .ref 24], M)) rfl ?_
    obtain ⟨g, hv⟩ := hv
    obtain ⟨M6, eM6⟩ : ∃ m, m = zup M 25 x3 x1 := ⟨_, rfl⟩
    replace hv := hv M6 eM6
    refine am_xc t_Row_set (.invokevirtual 90) 90 (av := [.ref 24, .int (zi x3), .int (zi x1)]) (rest := []) (rv := none) (M' := M6) rfl rfl rfl rfl (Nat.le_of_ble_eq_true rfl) (fun _ => rfl) (by rw [eM6]; exact sp_set_24 M x3 x1 g) ?_
    refine am_xn 0 (c1 := (89, [.ref 15, .int (zi x1), .int (zi x2), .int (zi x3)], [], M6)) rfl ?_
    refine am_xrd 3 15 9 (pc := 94) (ls := [.ref 15, .int (zi x1), .int (zi x2), .int (zi x3)]) (st := [.ref 15]) rfl ?_
    refine am_xiadd 2 (iv M6 15 9) 1 (pc := 96) (ls := [.ref 15, .int (zi x1), .int (zi x2), .int (zi x3)]) (st := [.ref 15]) rfl ?_
    refine am_xn 1 (c1 := (99, [.ref 15, .int (zi x1), .int (zi x2), .int (zi x3)], [], zup M6 15 9 ((iv M6 15 9) + 1))) rfl ?_
    obtain ⟨M7, eM7⟩ : ∃ m, m = zup M6 15 9 ((iv M6 15 9) + 1) := ⟨_, rfl⟩
    replace hv := hv M7 eM7
    rw [← eM7]
    refine am_xn 1 (c1 := (102, [.ref 15, .int (zi x1 + zi 1), .int (zi x2), .int (zi x3)], [], M7)) rfl ?_
    rw [zi_add]
    refine am_xn 1 (c1 := (7, [.ref 15, .int (zi (x1 + 1)), .int (zi x2), .int (zi x3)], [], M7)) rfl ?_
    refine am_xf 2 ?_
    refine am_xf 3 ?_
    exact hv
set_option maxRecDepth 100000 in
theorem vc_l15_consolidate (d : Int) (e : Int) (rv : Int) (M : am_M) (Q : Option Value → am_M → Prop) (hv : ∀ M1, M1 = zfl M 17 40 0 → ∀ M2, M2 = zfl M1 27 120 5 → ∀ M3, M3 = zfl M2 29 120 (-1) → ∀ M4, M4 = zup M3 15 10 0 → ∃ (r6 : Int) (M5 : am_M), am_call t_Law_nextKey [.ref 9, .int (zi d), .int (zi rv), .int (zi (-1))] M4 (some (.int (zi r6))) M5 ∧ (am_x t_Law_consolidate (42, [.ref 15, .ref 9, .int (zi d), .int (zi e), .int (zi rv), .int (zi r6), .int (zi 0)], [], M5) Q)) : am_x t_Law_consolidate (0, am_ent (am_mL t_Law_consolidate) [.ref 15, .ref 9, .int (zi d), .int (zi e), .int (zi rv)], [], M) Q := by
  refine am_xn 0 (c1 := (0, [.ref 15, .ref 9, .int (zi d), .int (zi e), .int (zi rv), .null, .null], [], M)) rfl ?_
  refine am_xn 3 (c1 := (5, [.ref 15, .ref 9, .int (zi d), .int (zi e), .int (zi rv), .null, .null], [.int (zi 0), .ref 16], M)) rfl ?_
  obtain ⟨M1, eM1⟩ : ∃ m, m = zfl M 17 40 0 := ⟨_, rfl⟩
  replace hv := hv M1 eM1
  refine am_xc t_Row_fill (.invokevirtual 44) 44 (av := [.ref 16, .int (zi 0)]) (rest := []) (rv := none) (M' := M1) rfl rfl rfl rfl (Nat.le_of_ble_eq_true rfl) (fun _ => rfl) (by rw [eM1]; exact sp_rfill_16 M 0) ?_
  refine am_xn 0 (c1 := (8, [.ref 15, .ref 9, .int (zi d), .int (zi e), .int (zi rv), .null, .null], [], M1)) rfl ?_
  refine am_xn 3 (c1 := (13, [.ref 15, .ref 9, .int (zi d), .int (zi e), .int (zi rv), .null, .null], [.int (zi 5), .ref 26], M1)) rfl ?_
  obtain ⟨M2, eM2⟩ : ∃ m, m = zfl M1 27 120 5 := ⟨_, rfl⟩
  replace hv := hv M2 eM2
  refine am_xc t_Row_fill (.invokevirtual 44) 44 (av := [.ref 26, .int (zi 5)]) (rest := []) (rv := none) (M' := M2) rfl rfl rfl rfl (Nat.le_of_ble_eq_true rfl) (fun _ => rfl) (by rw [eM2]; exact sp_rfill_26 M1 5) ?_
  refine am_xn 0 (c1 := (16, [.ref 15, .ref 9, .int (zi d), .int (zi e), .int (zi rv), .null, .null], [], M2)) rfl ?_
  refine am_xn 3 (c1 := (21, [.ref 15, .ref 9, .int (zi d), .int (zi e), .int (zi rv), .null, .null], [.int (zi (-1)), .ref 28], M2)) rfl ?_
  obtain ⟨M3, eM3⟩ : ∃ m, m = zfl M2 29 120 (-1) := ⟨_, rfl⟩
  replace hv := hv M3 eM3
  refine am_xc t_Row_fill (.invokevirtual 44) 44 (av := [.ref 28, .int (zi (-1))]) (rest := []) (rv := none) (M' := M3) rfl rfl rfl rfl (Nat.le_of_ble_eq_true rfl) (fun _ => rfl) (by rw [eM3]; exact sp_rfill_28 M2 (-1)) ?_
  refine am_xn 0 (c1 := (24, [.ref 15, .ref 9, .int (zi d), .int (zi e), .int (zi rv), .null, .null], [], M3)) rfl ?_
  refine am_xn 3 (c1 := (29, [.ref 15, .ref 9, .int (zi d), .int (zi e), .int (zi rv), .null, .null], [], zup M3 15 10 0)) rfl ?_
  obtain ⟨M4, eM4⟩ : ∃ m, m = zup M3 15 10 0 := ⟨_, rfl⟩
  replace hv := hv M4 eM4
  rw [← eM4]
  refine am_xn 4 (c1 := (34, [.ref 15, .ref 9, .int (zi d), .int (zi e), .int (zi rv), .null, .null], [.int (zi (-1)), .int (zi rv), .int (zi d), .ref 9], M4)) rfl ?_
  obtain ⟨r6, M5, hc, hv⟩ := hv
  refine am_xc t_Law_nextKey (.invokestatic 51) 51 (av := [.ref 9, .int (zi d), .int (zi rv), .int (zi (-1))]) (rest := []) (rv := some (.int (zi r6))) (M' := M5) rfl rfl rfl rfl (Nat.le_of_ble_eq_true rfl) (fun h => nomatch h) (hc) ?_
  refine am_xn 0 (c1 := (37, [.ref 15, .ref 9, .int (zi d), .int (zi e), .int (zi rv), .null, .null], [.int (zi r6)], M5)) rfl ?_
  refine am_xn 3 (c1 := (42, [.ref 15, .ref 9, .int (zi d), .int (zi e), .int (zi rv), .int (zi r6), .int (zi 0)], [], M5)) rfl ?_
  exact hv
set_option maxRecDepth 100000 in
theorem vc_l15_consolidate_42 (x2 : Int) (x3 : Int) (x4 : Int) (x5 : Int) (x6 : Int) (M : am_M) (Q : Option Value → am_M → Prop) (hv : zr x6 ∧ ((x6 < 20 → zr x5 ∧ ((x5 = (-1) → ∃ M3, am_call t_Law_arrange [.ref 15] M none M3 ∧ (Q none M3)) ∧ (¬ x5 = (-1) → 0 ≤ x5 ∧ (∃ M5, am_call t_Law_carryOut [.ref 15, .ref 9, .int (zi (x5 % 20)), .int (zi x3)] M none M5 ∧ (∃ (r7 : Int) (M6 : am_M), am_call t_Law_nextKey [.ref 9, .int (zi x2), .int (zi x4), .int (zi x5)] M5 (some (.int (zi r7))) M6 ∧ (am_x t_Law_consolidate (42, [.ref 15, .ref 9, .int (zi x2), .int (zi x3), .int (zi x4), .int (zi r7), .int (zi (x6 + 1))], [], M6) Q)))))) ∧ (20 ≤ x6 → ∃ M8, am_call t_Law_arrange [.ref 15] M none M8 ∧ (Q none M8)))) : am_x t_Law_consolidate (42, [.ref 15, .ref 9, .int (zi x2), .int (zi x3), .int (zi x4), .int (zi x5), .int (zi x6)], [], M) Q := by
  obtain ⟨r1, hv⟩ := hv
  refine am_xn 3 (c1 := (if zi x6 < zi 20 then 49 else 83, [.ref 15, .ref 9, .int (zi x2), .int (zi x3), .int (zi x4), .int (zi x5), .int (zi x6)], [], M)) rfl (am_xlt r1 (by decide) (fun h => ?_) (fun h => ?_))
  · replace hv := hv.1 h
    obtain ⟨r2, hv⟩ := hv
    refine am_xn 3 (c1 := (if zi x5 = zi (-1) then 83 else 55, [.ref 15, .ref 9, .int (zi x2), .int (zi x3), .int (zi x4), .int (zi x5), .int (zi x6)], [], M)) rfl (am_xeq r2 (by decide) (fun h => ?_) (fun h => ?_))
    · replace hv := hv.1 h
      refine am_xn 1 (c1 := (84, [.ref 15, .ref 9, .int (zi x2), .int (zi x3), .int (zi x4), .int (zi x5), .int (zi x6)], [.ref 15], M)) rfl ?_
      obtain ⟨M3, hc, hv⟩ := hv
      refine am_xc t_Law_arrange (.invokevirtual 59) 59 (av := [.ref 15]) (rest := []) (rv := none) (M' := M3) rfl rfl rfl rfl (Nat.le_of_ble_eq_true rfl) (fun _ => rfl) (hc) ?_
      refine am_xn 0 (c1 := (87, [.ref 15, .ref 9, .int (zi x2), .int (zi x3), .int (zi x4), .int (zi x5), .int (zi x6)], [], M3)) rfl ?_
      exact am_xr none ⟨rfl, rfl, rfl⟩ hv
    · replace hv := hv.2 h
      obtain ⟨r4, hv⟩ := hv
      refine am_xn 4 (c1 := (61, [.ref 15, .ref 9, .int (zi x2), .int (zi x3), .int (zi x4), .int (zi x5), .int (zi x6)], [.int (zi 20), .int (zi x5), .ref 9, .ref 15], M)) rfl ?_
      refine am_xrem rfl r4 (by decide) r2 (by decide) ?_
      refine am_xn 0 (c1 := (62, [.ref 15, .ref 9, .int (zi x2), .int (zi x3), .int (zi x4), .int (zi x5), .int (zi x6)], [.int (zi (x5 % 20)), .ref 9, .ref 15], M)) rfl ?_
      refine am_xn 1 (c1 := (63, [.ref 15, .ref 9, .int (zi x2), .int (zi x3), .int (zi x4), .int (zi x5), .int (zi x6)], [.int (zi x3), .int (zi (x5 % 20)), .ref 9, .ref 15], M)) rfl ?_
      obtain ⟨M5, hc, hv⟩ := hv
      refine am_xc t_Law_carryOut (.invokevirtual 55) 55 (av := [.ref 15, .ref 9, .int (zi (x5 % 20)), .int (zi x3)]) (rest := []) (rv := none) (M' := M5) rfl rfl rfl rfl (Nat.le_of_ble_eq_true rfl) (fun _ => rfl) (hc) ?_
      refine am_xn 0 (c1 := (66, [.ref 15, .ref 9, .int (zi x2), .int (zi x3), .int (zi x4), .int (zi x5), .int (zi x6)], [], M5)) rfl ?_
      refine am_xn 4 (c1 := (72, [.ref 15, .ref 9, .int (zi x2), .int (zi x3), .int (zi x4), .int (zi x5), .int (zi x6)], [.int (zi x5), .int (zi x4), .int (zi x2), .ref 9], M5)) rfl ?_
      obtain ⟨r7, M6, hc, hv⟩ := hv
      refine am_xc t_Law_nextKey (.invokestatic 51) 51 (av := [.ref 9, .int (zi x2), .int (zi x4), .int (zi x5)]) (rest := []) (rv := some (.int (zi r7))) (M' := M6) rfl rfl rfl rfl (Nat.le_of_ble_eq_true rfl) (fun h => nomatch h) (hc) ?_
      refine am_xn 0 (c1 := (75, [.ref 15, .ref 9, .int (zi x2), .int (zi x3), .int (zi x4), .int (zi x5), .int (zi x6)], [.int (zi r7)], M6)) rfl ?_
      refine am_xn 2 (c1 := (80, [.ref 15, .ref 9, .int (zi x2), .int (zi x3), .int (zi x4), .int (zi r7), .int (zi x6 + zi 1)], [], M6)) rfl ?_
      rw [zi_add]
      refine am_xn 1 (c1 := (42, [.ref 15, .ref 9, .int (zi x2), .int (zi x3), .int (zi x4), .int (zi r7), .int (zi (x6 + 1))], [], M6)) rfl ?_
      exact hv
  · replace hv := hv.2 h
    refine am_xn 1 (c1 := (84, [.ref 15, .ref 9, .int (zi x2), .int (zi x3), .int (zi x4), .int (zi x5), .int (zi x6)], [.ref 15], M)) rfl ?_
    obtain ⟨M8, hc, hv⟩ := hv
    refine am_xc t_Law_arrange (.invokevirtual 59) 59 (av := [.ref 15]) (rest := []) (rv := none) (M' := M8) rfl rfl rfl rfl (Nat.le_of_ble_eq_true rfl) (fun _ => rfl) (hc) ?_
    refine am_xn 0 (c1 := (87, [.ref 15, .ref 9, .int (zi x2), .int (zi x3), .int (zi x4), .int (zi x5), .int (zi x6)], [], M8)) rfl ?_
    exact am_xr none ⟨rfl, rfl, rfl⟩ hv
theorem clr_eff15 {L : Lw} {M M' : am_M} {b : Int → Int} (w : WB b) (v : VL L) (r : CLR15 L M) {o day c : Int} (g0 : 0 ≤ o) (g1 : o < nops b) (c0 : 0 ≤ c) (c1 : c < 40) (hc : ¬ pt b o 0 = 0 → L.code c = pt b o 1) (hs : L.ef.length < 120)
    (r1 : ∀ j, 0 ≤ j → j < 40 → iv M' 17 j = if j = c then (if pt b o 0 = 0 then pt b o 1 else if pt b o 0 = 2 then 0 else if pt b o 0 = 3 then pt b o 2 else iv M 17 j) else iv M 17 j)
    (r2 : ∀ j, 0 ≤ j → j < 40 → iv M' 21 j = if j = c ∧ pt b o 0 < 2 then pt b o 5 else iv M 21 j)
    (r3 : ∀ j k, 0 ≤ j → j < 40 → 0 ≤ k → k < 6 → iv M' 23 (j * 6 + k) = if j = c then (if pt b o 0 < 2 then (if k < pt b o 5 then wd b L o k else iv M 23 (j * 6 + k)) else if pt b o 0 = 4 ∧ k < iv M 21 c ∧ iv M 23 (j * 6 + k) = pt b o 2 then pt b o 3 else iv M 23 (j * 6 + k)) else iv M 23 (j * 6 + k))
    (r4 : ∀ j, 0 ≤ j → j < 40 → iv M' 19 j = if j = c then day else iv M 19 j)
    (r5 : ∀ j, 0 ≤ j → j < 120 → iv M' 27 j = if j = o then 0 else iv M 27 j)
    (r6 : ∀ j, 0 ≤ j → j < 120 → iv M' 29 j = if j = o then c else iv M 29 j)
    (r7 : ∀ j, 0 ≤ j → j < 120 → iv M' 31 j = if j = (L.ef.length : Int) then o else iv M 31 j)
    (r8 : iv M' 15 10 = L.ef.length + 1) : CLR15 (eff b L o day c) M' := by
  have wo := w.op o g0 g1
  have wk := wo.kd
  have wc := wo.cd
  refine ⟨fun j j0 j1 => ?_, fun j j0 j1 n => ?_, fun j j0 j1 => ?_, ?_, fun i hi => ?_⟩
  · rw [r1 j j0 j1, eff_code, r.1 j j0 j1]
    by_cases hj : j = c
    · rw [if_pos hj, if_pos hj, hj]
    · rw [if_neg hj, if_neg hj]
  · rw [eff_code] at n
    have key : ¬ pt b o 0 = 0 ∨ ¬ j = c → ¬ L.code j = 0 := by
      intro q
      by_cases hj : j = c
      · rw [hj, hc (q.resolve_right (fun z => z hj))]; omega
      · rw [if_neg hj] at n; exact n
    refine ⟨?_, ?_, fun k k0 k1 => ?_⟩
    · rw [r2 j j0 j1, eff_len]
      by_cases hj : j = c ∧ pt b o 0 < 2
      · rw [if_pos hj, if_pos hj]
      · rw [if_neg hj, if_neg hj]
        exact (r.2.1 j j0 j1 (key (by omega))).1
    · rw [r4 j j0 j1, eff_lst]
      by_cases hj : j = c
      · rw [if_pos hj, if_pos hj]
      · rw [if_neg hj, if_neg hj]
        exact (r.2.1 j j0 j1 (key (Or.inr hj))).2.1
    · rw [eff_len] at k1
      rw [eff_tx]
      by_cases hj : j = c
      · by_cases kd : pt b o 0 < 2
        · rw [if_pos ⟨hj, kd⟩] at k1
          have := wo.ln
          rw [r3 j k j0 j1 k0 (by omega), if_pos hj, if_pos hj, if_pos kd, if_pos kd, if_pos k1]
        · have nz := key (Or.inl (by omega))
          rw [if_neg (fun z => kd z.2)] at k1
          have := v.ln j j0 j1 nz
          obtain ⟨f2, _, f4⟩ := r.2.1 j j0 j1 nz
          rw [r3 j k j0 j1 k0 (by omega), if_pos hj, if_pos hj, if_neg kd, if_neg kd, f4 k k0 k1]
          rw [← hj]
          by_cases z : pt b o 0 = 4 ∧ L.tx j k = pt b o 2
          · rw [if_pos z, if_pos ⟨z.1, by omega, z.2⟩]
          · rw [if_neg z, if_neg (fun y => z ⟨y.1, y.2.2⟩)]
      · have nz := key (Or.inr hj)
        rw [if_neg (fun z => hj z.1)] at k1
        have := v.ln j j0 j1 nz
        rw [r3 j k j0 j1 k0 (by omega), if_neg hj, if_neg hj]
        exact (r.2.1 j j0 j1 nz).2.2 k k0 k1
  · rw [r5 j j0 j1, r6 j j0 j1]
    have e := r.2.2.1 j j0 j1
    show (_ = if (if j = o then 0 else L.rs j) = -1 then 5 else (if j = o then 0 else L.rs j)) ∧ _ = (if j = o then c else L.af j)
    rw [e.1, e.2]
    by_cases z : j = o
    · rw [if_pos z, if_pos z, if_pos z, if_neg (by omega)]; exact ⟨rfl, rfl⟩
    · rw [if_neg z, if_neg z, if_neg z]; exact ⟨rfl, rfl⟩
  · rw [r8]
    show _ = (((L.ef ++ [o]).length : Nat) : Int)
    rw [List.length_append]
    rfl
  · have hi : i < (L.ef ++ [o]).length := hi
    rw [List.length_append] at hi
    have hi : i < L.ef.length + 1 := hi
    show _ = (L.ef ++ [o]).getD i 0
    rw [r7 i (by omega) (by omega), getD_app hi]
    by_cases q : i = L.ef.length
    · rw [if_pos q, if_pos (by omega)]
    · rw [if_neg q, if_neg (by omega), r.2.2.2.2 i (by omega)]
theorem l15_op {L : Lw} {M : am_M} {b : Int → Int} {o day x5 x6 : Int} {Q : Option Value → am_M → Prop} (w : WB b) (cb : CB (iv M 11) b) (v : VL L) (r : CLR15 L M) (g0 : 0 ≤ o) (g1 : o < nops b) (hd : 0 ≤ day ∧ day ≤ 9999) (hf : L.rs o = -1) (hs : L.ef.length < 120)
    (k : ∀ M', CFr15 M M' → CLR15 (ops b L o day) M' → am_x t_Law_carryOut (41, [.ref 15, .ref 9, .null, .null, .int (zi day), .int (zi x5), .int (zi x6), .int (zi (o + 1)), .null, .null, .null], [], M') Q) :
    am_x t_Law_carryOut (67, [.ref 15, .ref 9, .null, .null, .int (zi day), .int (zi x5), .int (zi x6), .int (zi o), .null, .null, .null], [], M) Q := by
  have wo := w.op o g0 g1
  have wk := wo.kd
  have wc := wo.cd
  have wt := w.tot
  have co := cb.2.2.2.2.2 o g0 g1
  have dz : zr day := ⟨by omega, by omega⟩
  have oz : zr o := ⟨by omega, by omega⟩
  have hrg := hold_rg L (pt b o 1)
  have rr := rsn_rg b L o
  have af0 : L.af o = -1 := by
    rcases v.af o with q | q
    · exact q.1
    · have := q.2.2; omega
  obtain ⟨M3, h3, s1, s2⟩ := sp_l15_resolves v r co wo g0 (by omega)
  have r3 : CLR15 L M3 := clr_row15 r (fun a _ a2 _ => s1 a a2) (by rw [iv_row (s1 15 (by decide))])
  have s11 : iv M3 11 = iv M 11 := iv_row (s1 11 (by decide))
  refine vc_l15_carryOut_67 _ _ _ _ M _ ⟨⟨g0, by omega, by omega, by omega⟩, _, M, by rw [co.2.1]; exact sp_l15_holder v r (x := pt b o 1) (by omega) ⟨by omega, by omega⟩, _, M3, h3, _, M3, sp_l15_reason v r3 (by rw [s11]; exact co) wo g0 (by omega), ⟨g0, by omega⟩, fun M7 e7 => ?_⟩
  have f7 : CFr15 M M7 := by
    rw [e7]
    exact CFr15_trans (CFr15_row (fun a ha => s1 a (by omega))) (CFr15_zup (by decide))
  have m7 : ∀ a, ¬ a = 27 → ¬ a = 33 → M7 a = M a := fun a a1 a2 => by rw [e7, zupr _ a1, s1 a a2]
  have st7 : ∀ j, 0 ≤ j → iv M7 27 j = if j = o then rsn b L o else iv M 27 j := fun j hj => by rw [e7, ivs _ _ g0 hj ⟨by omega, by omega⟩, iv_row (s1 27 (by decide))]
  have b7 : iv M7 11 = iv M 11 := iv_row (m7 11 (by decide) (by decide))
  refine ⟨⟨by omega, by omega⟩, fun q => ?_, fun q => vc_l15_carryOut_193 _ _ _ _ M7 _ (k M7 f7 ?_)⟩
  · obtain ⟨x1, x2, x3, x4, x5'⟩ := rsn_0 q
    have res7 : ∀ k, 0 ≤ k → k < pt b o 5 → iv M7 33 k = wd b L o k := fun k k0 k1 => by rw [e7, ivr _ (by decide), s2 x5' k k0 k1]
    have fin : ∀ c, 0 ≤ c → c < 40 → (¬ pt b o 0 = 0 → L.code c = pt b o 1) → c = (if pt b o 0 = 0 then ia b o else hold L (pt b o 1)) → am_x t_Law_carryOut (139, [.ref 15, .ref 9, .null, .null, .int (zi day), .int (zi x5), .int (zi x6), .int (zi o), .null, .null, .int (zi c)], [], M7) Q := by
      intro c c0 c1 hc ec
      obtain ⟨M1, h1, p1, p2, p3, p4⟩ := sp_l15_perform (M := M7) (L := L) (b := b) (o := o) (c := c) (by rw [b7]; exact co) wo g0 (by omega) c0 c1 res7 (fun k4 => by
        have n : ¬ L.code c = 0 := by rw [hc (by omega)]; omega
        rw [iv_row (m7 21 (by decide) (by decide)), (r.2.1 c c0 c1 n).1]
        exact v.ln c c0 c1 n)
      refine vc_l15_carryOut_139 _ _ _ _ _ M7 _ ⟨M1, h1, ⟨c0, c1⟩, fun M2 e2 => ⟨⟨g0, by omega⟩, fun M3' e3 => ?_⟩⟩
      have ne : iv M3' 15 10 = L.ef.length := by rw [e3, ivr _ (by decide), e2, ivr _ (by decide), iv_row (p1 15 (by decide) (by decide) (by decide)), iv_row (m7 15 (by decide) (by decide)), r.2.2.2.1]
      rw [ne]
      refine ⟨⟨by omega, by omega⟩, fun M4 e4 => ?_⟩
      have ne4 : iv M4 15 10 = L.ef.length := by rw [e4, ivr _ (by decide), ne]
      rw [ne4]
      intro M5 e5
      have cz : zr c := ⟨by omega, by omega⟩
      refine vc_l15_carryOut_193 _ _ _ _ M5 _ (k M5 ?_ ?_)
      · rw [e5, e4, e3, e2]
        exact CFr15_trans (CFr15_trans (CFr15_trans (CFr15_trans (CFr15_trans f7 (CFr15_row (fun a ha => p1 a (by omega) (by omega) (by omega)))) (CFr15_zup (by decide))) (CFr15_zup (by decide))) (CFr15_zup (by decide))) (CFr15_f (Or.inr rfl))
      · unfold ops
        rw [if_pos q, ← ec]
        have g : ∀ a, ¬ a = 15 → ¬ a = 31 → ¬ a = 29 → ¬ a = 19 → M5 a = M1 a := fun a a1 a2 a3 a4 => by rw [e5, zupr _ a1, e4, zupr _ a2, e3, zupr _ a3, e2, zupr _ a4]
        refine clr_eff15 w v r g0 g1 c0 c1 hc hs (fun j j0 j1 => ?_) (fun j j0 j1 => ?_) (fun j kk j0 j1 k0 k1 => ?_) (fun j j0 j1 => ?_) (fun j j0 j1 => ?_) (fun j j0 j1 => ?_) (fun j j0 j1 => ?_) ?_
        · rw [iv_row (g 17 (by decide) (by decide) (by decide) (by decide)), p2 j j0, iv_row (m7 17 (by decide) (by decide))]
        · rw [iv_row (g 21 (by decide) (by decide) (by decide) (by decide)), p3 j j0, iv_row (m7 21 (by decide) (by decide))]
        · rw [iv_row (g 23 (by decide) (by decide) (by decide) (by decide)), p4 j kk j0 k0 k1, iv_row (m7 23 (by decide) (by decide)), iv_row (m7 21 (by decide) (by decide))]
        · rw [e5, ivr _ (by decide), e4, ivr _ (by decide), e3, ivr _ (by decide), e2, ivs _ _ c0 j0 dz, iv_row (p1 19 (by decide) (by decide) (by decide)), iv_row (m7 19 (by decide) (by decide))]
        · rw [iv_row (g 27 (by decide) (by decide) (by decide) (by decide)), iv_row (p1 27 (by decide) (by decide) (by decide)), st7 j j0, q]
        · rw [e5, ivr _ (by decide), e4, ivr _ (by decide), e3, ivs _ _ g0 j0 cz, e2, ivr _ (by decide), iv_row (p1 29 (by decide) (by decide) (by decide)), iv_row (m7 29 (by decide) (by decide))]
        · rw [e5, ivr _ (by decide), e4, ivs _ _ (by omega) j0 oz, e3, ivr _ (by decide), e2, ivr _ (by decide), iv_row (p1 31 (by decide) (by decide) (by decide)), iv_row (m7 31 (by decide) (by decide))]
        · rw [e5, ivs _ _ (by decide) (by decide) ⟨by omega, by omega⟩, if_pos rfl]
    rw [b7, co.1]
    refine ⟨⟨g0, by omega, by omega, by omega⟩, fun k0 => ⟨⟨g0, by omega, by omega, by omega⟩, ?_⟩, fun k0 => ?_⟩
    · have := w.ia_lt g0 g1 k0
      rw [co.2.2.2.2.2.2.1, if_pos k0]
      exact fin _ this.1 this.2 (fun z => absurd k0 z) (if_pos k0).symm
    · have := hold_cd (x1 k0)
      exact fin _ this.1 this.2.1 (fun _ => this.2.2) (if_neg k0).symm
  · unfold ops
    rw [if_neg q]
    refine ⟨fun c c0 c1 => ?_, fun c c0 c1 n => ?_, fun j j0 j1 => ?_, ?_, fun i hi => ?_⟩
    · rw [iv_row (m7 17 (by decide) (by decide))]; exact r.1 c c0 c1
    · rw [iv_row (m7 21 (by decide) (by decide)), iv_row (m7 19 (by decide) (by decide)), iv_row (m7 23 (by decide) (by decide))]; exact r.2.1 c c0 c1 n
    · rw [st7 j j0, iv_row (m7 29 (by decide) (by decide)), (r.2.2.1 j j0 j1).1, (r.2.2.1 j j0 j1).2]
      show (_ = if (if j = o then rsn b L o else L.rs j) = -1 then 5 else (if j = o then rsn b L o else L.rs j)) ∧ L.af j = if j = o then -1 else L.af j
      by_cases z : j = o
      · rw [if_pos z, if_pos z, if_pos z, if_neg (by omega), z]; exact ⟨rfl, af0⟩
      · rw [if_neg z, if_neg z, if_neg z]; exact ⟨rfl, rfl⟩
    · rw [iv_row (m7 15 (by decide) (by decide))]; exact r.2.2.2.1
    · rw [iv_row (m7 31 (by decide) (by decide))]; exact r.2.2.2.2 i hi
theorem sp_l15_carryOut {L : Lw} {M : am_M} {b off : Int → Int} {day cas last a : Int} (w : WB b) (cb : CB (iv M 11) b) (ez : zr cas) (j : KL b off day cas last L) (r : CLR15 L M) (a0 : 0 ≤ a) (a1 : a < b 0) (a3 : du b off day a) (a4 : last < ky b a) :
    ∃ M', am_call t_Law_carryOut [.ref 15, .ref 9, .int (zi a), .int (zi cas)] M none M' ∧ CFr15 M M' ∧ CLR15 (cy b cas a L) M' := by
  suffices h : am_x t_Law_carryOut (0, am_ent (am_mL t_Law_carryOut) [.ref 15, .ref 9, .int (zi a), .int (zi cas)], [], M) (fun r M' => r = none ∧ CFr15 M M' ∧ CLR15 (cy b cas a L) M') by
    obtain ⟨r, M', h1, h2, h3⟩ := am_call_ex (by exact ⟨Nat.le_of_ble_eq_true rfl, rfl⟩) h
    subst h2
    exact ⟨M', h1, h3⟩
  have w1 := w.n1
  have wt := w.tot
  have wd := w.day a a0 a1
  have ws := w.sz a a0 a1
  have f0 := w.fo_nn (n := a) (by omega)
  have f1 := fo_s b a0
  have f2 := w.fo_le (n := a + 1) (by omega) (by omega)
  have d1 := cb.2.2.2.1 a a0 a1
  have d2 := cb.2.2.2.2.1 a a0 (by omega)
  have d3 := cb.2.2.2.2.1 (a + 1) (by omega) (by omega)
  /- all operations, with the class's look at the case -/
  have run : ∀ x5 : Int, (x5 = 0 ∨ x5 = 1) → (x5 = 1 ↔ (¬ cas = -1 ∧ cas < b (1 + a))) → am_x t_Law_carryOut (41, [.ref 15, .ref 9, .null, .null, .int (zi (b (1 + a))), .int (zi x5), .int (zi (fo b (a + 1))), .int (zi (fo b a)), .null, .null, .null], [], M) (fun r M' => r = none ∧ CFr15 M M' ∧ CLR15 (cy b cas a L) M') := by
    intro x5 hx hx2
    refine loop_up (fun i (s : am_M) => (41, [.ref 15, .ref 9, .null, .null, .int (zi (b (1 + a))), .int (zi x5), .int (zi (fo b (a + 1))), .int (zi i), .null, .null, .null], [], s)) (fo b (a + 1)) (fun i s => fo b a ≤ i ∧ CFr15 M s ∧ CLR15 (cyf b cas a L (i - fo b a).toNat) s) ?_ ?_ (fo b a) M f0 (by omega) ⟨Int.le_refl _, CFr15_refl M, by rw [Int.sub_self]; exact r⟩
    · intro s ⟨_, s1, s2⟩
      refine vc_l15_carryOut_41 _ _ _ _ s _ ⟨⟨by omega, by omega⟩, ⟨by omega, by omega⟩, fun h => by omega, fun _ => ⟨rfl, s1, ?_⟩⟩
      rw [show fo b (a + 1) - fo b a = b (41 + a) by omega] at s2
      exact s2
    · intro i s i0 i1 ⟨i2, s1, s2⟩ k
      have s11 : iv s 11 = iv M 11 := iv_row (s1.1 11 (by decide) (by decide))
      obtain ⟨n, hn⟩ : ∃ n : Nat, n = (i - fo b a).toNat := ⟨_, rfl⟩
      rw [← hn] at s2
      have ek : (i + 1 - fo b a).toNat = n + 1 := by omega
      have ei : fo b a + (n : Int) = i := by omega
      have jn := cyf_KL w j a0 a1 a4 n (by omega)
      have hf : (cyf b cas a L n).rs i = -1 := by
        by_cases q : (cyf b cas a L n).rs i = -1
        · exact q
        · rcases (jn.1.2.1 i i0 (by omega)).mp q with ⟨a', y0, y1, y2, y3, y4, y5, y6⟩ | ⟨y1, y2, _⟩
          · have := am_of w y0 y1 y2 y3 a0 a1 (by omega) (by omega)
            subst this
            omega
          · omega
      have hs := cyf_lt w j a0 a1 a3 a4 n (by omega)
      have hs2 := JL_ef jn.1
      have co := cb.2.2.2.2.2 i i0 (by omega)
      have yes : ¬ (pt b i 4 = 1 ∧ ¬ cas = -1 ∧ cas < b (1 + a)) → am_x t_Law_carryOut (67, [.ref 15, .ref 9, .null, .null, .int (zi (b (1 + a))), .int (zi x5), .int (zi (fo b (a + 1))), .int (zi i), .null, .null, .null], [], s) _ := fun q => l15_op w (by rw [s11]; exact cb) jn.1.1 s2 i0 (by omega) wd hf (by omega) (fun M' c1 c2 => k M' ⟨by omega, CFr15_trans s1 c1, by rw [ek, cyf_s, if_neg (by rw [ei]; exact q), ei]; exact c2⟩)
      have no : (pt b i 4 = 1 ∧ ¬ cas = -1 ∧ cas < b (1 + a)) → am_x t_Law_carryOut (193, [.ref 15, .ref 9, .null, .null, .int (zi (b (1 + a))), .int (zi x5), .int (zi (fo b (a + 1))), .int (zi i), .null, .null, .null], [], s) _ := fun q => vc_l15_carryOut_193 _ _ _ _ s _ (k s ⟨by omega, s1, by rw [ek, cyf_s, if_pos (by rw [ei]; exact q)]; exact s2⟩)
      refine vc_l15_carryOut_41 _ _ _ _ s _ ⟨⟨by omega, by omega⟩, ⟨by omega, by omega⟩, fun h => ⟨by rcases hx with e | e <;> (rw [e]; decide), fun q => yes (fun z => by have := hx2.mpr z.2; omega), fun q => ⟨⟨i0, by omega, by omega, by omega⟩, ?_⟩⟩, fun h => by omega⟩
      rw [s11, co.2.2.2.2.1]
      exact ⟨fun q2 => no ⟨q2, hx2.mp (by omega)⟩, fun q2 => yes (fun z => q2 z.1)⟩
  refine vc_l15_carryOut a cas M _ ⟨⟨a0, by omega⟩, ez, ?_⟩
  rw [d1, d2, d3]
  exact ⟨fun q => ⟨⟨by omega, by omega⟩, ⟨a0, by omega⟩, run 0 (Or.inl rfl) ⟨fun z => by omega, fun z => absurd q z.1⟩⟩, fun q => ⟨fun q2 => ⟨⟨by omega, by omega⟩, ⟨a0, by omega⟩, run 1 (Or.inr rfl) ⟨fun _ => ⟨q, q2⟩, fun _ => rfl⟩⟩, fun q2 => ⟨⟨by omega, by omega⟩, ⟨a0, by omega⟩, run 0 (Or.inl rfl) ⟨fun z => by omega, fun z => by have := z.2; omega⟩⟩⟩⟩
theorem sp_l15_arrange {L : Lw} (M : am_M) (v : VL L) (r : CLR15 L M) : ∃ M', am_call t_Law_arrange [.ref 15] M none M' ∧ CFr15 M M' ∧ CLR15 L M' ∧ ORD L (iv M' 25) 40 (iv M' 15 9) := by
  suffices h : am_x t_Law_arrange (0, am_ent (am_mL t_Law_arrange) [.ref 15], [], M) (fun rv M' => rv = none ∧ (∀ a, ¬ a = 15 → ¬ a = 25 → M' a = M a) ∧ (∀ j, ¬ j = 9 → M' 15 j = M 15 j) ∧ ORD L (iv M' 25) 40 (iv M' 15 9)) by
    obtain ⟨rv, M', h1, h2, h3, h4, h5⟩ := am_call_ex (by exact ⟨Nat.le_of_ble_eq_true rfl, rfl⟩) h
    subst h2
    exact ⟨M', h1, ⟨fun a a1 a2 => h3 a a1 (by omega), fun j j1 _ => h4 j j1⟩, clr_row15 r (fun a a1 _ a3 => h3 a a3 a1) (by unfold iv; rw [h4 _ (by decide)]), h5⟩
  refine vc_l15_arrange M _ (fun M1 e1 => ?_)
  have f9 : ∀ (S : am_M) (x : Int) (j : Nat), ¬ j = 9 → zup S 15 9 x 15 j = S 15 j := fun S x j hj => by
    unfold zup am_up
    rw [if_pos rfl, if_neg (by omega)]
  refine loop_up (fun i (s : am_M) => (7, [.ref 15, .int (zi i), .null, .null], [], s)) 40 (fun i s => (∀ a, ¬ a = 15 → ¬ a = 25 → s a = M a) ∧ (∀ j, ¬ j = 9 → s 15 j = M 15 j) ∧ ORD L (iv s 25) i (iv s 15 9)) ?_ ?_ 0 M1 (by omega) (by omega) ⟨fun a a1 a2 => by rw [e1, zupr _ a1], fun j hj => by rw [e1, f9 M 0 j hj], ?_⟩
  · intro s ⟨s1, s2, s3⟩
    exact vc_l15_arrange_7 _ s _ ⟨by decide, fun h => by omega, fun _ => ⟨rfl, s1, s2, s3⟩⟩
  · intro i s i0 i1 ⟨s1, s2, s3⟩ k
    have ec : ∀ c, 0 ≤ c → c < 40 → iv s 17 c = L.code c := fun c c0 c1 => by rw [iv_row (s1 17 (by decide) (by decide)), r.1 c c0 c1]
    refine vc_l15_arrange_7 _ s _ ⟨⟨by omega, by omega⟩, fun h => ⟨⟨i0, i1⟩, fun q => k s ⟨s1, s2, ORD_skip s3 i0 (by rw [← ec i i0 i1]; exact q)⟩, fun q => ?_⟩, fun h => by omega⟩
    rw [ec i i0 i1] at q ⊢
    obtain ⟨n, hn⟩ : ∃ n, n = iv s 15 9 := ⟨_, rfl⟩
    have hn1 : n = frc L i := hn.trans s3.1
    have hr := frc_rg L i0
    have hci := v.rg i i0 i1
    rw [← hn] at s3 ⊢
    refine loop_dn (fun p (s' : am_M) => (31, [.ref 15, .int (zi i), .int (zi (L.code i)), .int (zi p)], [], s')) (fun p s' => 0 ≤ p ∧ p ≤ n ∧ (∀ a, ¬ a = 25 → s' a = s a) ∧ (∀ j, 0 ≤ j → j < p → iv s' 25 j = iv s 25 j) ∧ (∀ j, p < j → j ≤ n → iv s' 25 j = iv s 25 (j - 1)) ∧ ∀ j, p ≤ j → j < n → L.code i < L.code (iv s 25 j)) ?_ ?_ n s (by omega) ⟨by omega, by omega, fun _ _ => rfl, fun _ _ _ => rfl, fun j j0 j1 => by omega, fun j j0 j1 => by omega⟩
    · intro s' ⟨p0, _⟩
      omega
    · intro p s' p0 ⟨_, p1, t1, t2, t3, t4⟩ kk
      /- the clause is put here -/
      have put : p = 0 ∨ L.code (iv s 25 (p - 1)) ≤ L.code i → (0 ≤ p ∧ p < 40) ∧ (∀ M4, M4 = zup s' 25 p i → ∀ M5, M5 = zup M4 15 9 (iv M4 15 9 + 1) → am_x t_Law_arrange (7, [.ref 15, .int (zi (i + 1)), .null, .null], [], M5) (fun rv M' => rv = none ∧ (∀ a, ¬ a = 15 → ¬ a = 25 → M' a = M a) ∧ (∀ j, ¬ j = 9 → M' 15 j = M 15 j) ∧ ORD L (iv M' 25) 40 (iv M' 15 9))) := by
        intro hq
        refine ⟨⟨p0, by omega⟩, fun M4 e4 M5 e5 => k M5 ⟨fun a a1 a2 => by rw [e5, zupr _ a1, e4, zupr _ a2, t1 a a2, s1 a a1 a2], fun j hj => by rw [e5, f9 M4 _ j hj, e4, zupr _ (by decide), t1 15 (by decide), s2 j hj], ?_⟩⟩
        have n4 : iv M4 15 9 = n := by rw [e4, ivr _ (by decide), iv_row (t1 15 (by decide)), hn]
        have n5 : iv M5 15 9 = n + 1 := by rw [e5, ivs _ _ (by decide) (by decide) (by rw [n4]; exact ⟨by omega, by omega⟩), if_pos rfl, n4]
        rw [n5]
        have g : ∀ j, 0 ≤ j → iv M5 25 j = if j = p then i else iv s' 25 j := fun j hj => by rw [e5, ivr _ (by decide), e4, ivs _ _ p0 hj ⟨by omega, by omega⟩]
        exact ORD_put v s3 i0 i1 q p0 p1 hq t4 (fun j j0 j1 => by rw [g j j0, if_neg (by omega), t2 j j0 j1]) (by rw [g p p0, if_pos rfl]) (fun j j0 j1 => by rw [g j (by omega), if_neg (by omega), t3 j j0 j1])
      refine vc_l15_arrange_31 _ _ _ s' _ ⟨⟨by omega, by omega⟩, fun h => ?_, fun h => put (Or.inl (by omega))⟩
      have e25 := t2 (p - 1) (by omega) (by omega)
      have o25 := s3.2.1 (p - 1) (by omega) (by omega)
      rw [e25, iv_row (t1 17 (by decide)), ec _ o25.1 (by omega)]
      refine ⟨⟨by omega, by omega⟩, ⟨o25.1, by omega⟩, ⟨by omega, by omega⟩, fun q2 => ⟨⟨by omega, by omega⟩, ⟨p0, by omega⟩, fun M3 e3 => kk M3 ⟨by omega, by omega, fun a ha => by rw [e3, zupr _ ha, t1 a ha], fun j j0 j1 => ?_, fun j j0 j1 => ?_, fun j j0 j1 => ?_⟩⟩, fun q2 => put (Or.inr q2)⟩
      · rw [e3, ivs _ _ p0 j0 ⟨by omega, by omega⟩, if_neg (by omega), t2 j j0 (by omega)]
      · rw [e3, ivs _ _ p0 (by omega) ⟨by omega, by omega⟩]
        by_cases z : j = p
        · rw [if_pos z, z]
        · rw [if_neg z, t3 j (by omega) j1]
      · by_cases z : j = p + (-1)
        · rw [z]; exact q2
        · exact t4 j (by omega) j1
  · have z : iv M1 15 9 = 0 := by rw [e1, ivs _ _ (by decide) (by decide) (by decide), if_pos rfl]
    rw [z]
    exact ⟨rfl, fun i i0 i1 => by omega, fun i j i0 ij j1 => by omega, fun c c0 c1 => by omega⟩
theorem sp_l15_consolidate (M : am_M) {b off : Int → Int} (w : WB b) (cb : CB (iv M 11) b) (day cas rv : Int) (dz : zr day) (ez : zr cas) (ho : ∀ a, 0 ≤ a → a < b 0 → (zand (zshr rv a) 1 = 0 ↔ off a = 0)) :
    ∃ M', am_call t_Law_consolidate [.ref 15, .ref 9, .int (zi day), .int (zi cas), .int (zi rv)] M none M' ∧ CFr15 M M' ∧ CLR15 (con b off day cas) M' ∧ ORD (con b off day cas) (iv M' 25) 40 (iv M' 15 9) := by
  suffices h : am_x t_Law_consolidate (0, am_ent (am_mL t_Law_consolidate) [.ref 15, .ref 9, .int (zi day), .int (zi cas), .int (zi rv)], [], M) (fun rv M' => rv = none ∧ CFr15 M M' ∧ CLR15 (con b off day cas) M' ∧ ORD (con b off day cas) (iv M' 25) 40 (iv M' 15 9)) by
    obtain ⟨r, M', h1, h2, h3⟩ := am_call_ex (by exact ⟨Nat.le_of_ble_eq_true rfl, rfl⟩) h
    subst h2
    exact ⟨M', h1, h3⟩
  have vcon := (con_is (off := off) (day := day) (cas := cas) w).1.1
  refine vc_l15_consolidate day cas rv M _ (fun M1 e1 M2 e2 M3 e3 M4 e4 => ?_)
  have zfr : ∀ (S : am_M) (a n : Nat) (x : Int) (c : Nat), c ≠ a → zfl S a n x c = S c := fun S a n x c hc => by
    funext j
    unfold zfl
    rw [if_neg (fun q => hc q.1)]
  have f4 : CFr15 M M4 := by
    have a1 : CFr15 M M3 := CFr15_row (fun a ha => by rw [e3, zfr _ _ _ _ _ (by omega), e2, zfr _ _ _ _ _ (by omega), e1, zfr _ _ _ _ _ (by omega)])
    rw [e4]
    exact CFr15_trans a1 (CFr15_f (Or.inr rfl))
  have r4 : CLR15 L0 M4 := by
    refine ⟨fun c c0 c1 => ?_, fun c _ _ n => absurd rfl n, fun o o0 o1 => ⟨?_, ?_⟩, ?_, fun i hi => absurd hi (Nat.not_lt_zero i)⟩
    · rw [e4, ivr _ (by decide), e3, iv_row (zfr _ _ _ _ _ (by decide)), e2, iv_row (zfr _ _ _ _ _ (by decide)), e1, iv_zfl _ _ _ _ c0 (by decide), if_pos ⟨rfl, by omega⟩]; rfl
    · rw [e4, ivr _ (by decide), e3, iv_row (zfr _ _ _ _ _ (by decide)), e2, iv_zfl _ _ _ _ o0 (by decide), if_pos ⟨rfl, by omega⟩]
      exact (if_pos rfl).symm
    · rw [e4, ivr _ (by decide), e3, iv_zfl _ _ _ _ o0 (by decide), if_pos ⟨rfl, by omega⟩]; rfl
    · rw [e4, ivs _ _ (by decide) (by decide) (by decide), if_pos rfl]; rfl
  have cb4 : CB (iv M4 11) b := by rw [iv_row (f4.1 11 (by decide) (by decide))]; exact cb
  refine ⟨_, M4, sp_nextKey M4 w cb4 day rv (-1) (by omega) (by decide) dz ho, ?_⟩
  have loop : ∀ (f : Nat) (last : Int) (L : Lw) (S : am_M) (i : Int), -1 ≤ last → last ≤ 199999 → CFr15 M S → KL b off day cas last L → CLR15 L S → rem b off day last ≤ f → i + f = 20 → 0 ≤ i → crf b off day cas f last L = con b off day cas →
      am_x t_Law_consolidate (42, [.ref 15, .ref 9, .int (zi day), .int (zi cas), .int (zi rv), .int (zi (nk b off day last)), .int (zi i)], [], S) (fun rv M' => rv = none ∧ CFr15 M M' ∧ CLR15 (con b off day cas) M' ∧ ORD (con b off day cas) (iv M' 25) 40 (iv M' 15 9)) := by
    intro f
    induction f with
    | zero =>
      intro last L S i hl hl2 fr j r hr hi i0 hc
      have hc : L = con b off day cas := hc
      subst hc
      obtain ⟨M', m1, m2, m3, m4⟩ := sp_l15_arrange S vcon r
      exact vc_l15_consolidate_42 _ _ _ _ _ S _ ⟨⟨by omega, by omega⟩, fun h => by omega, fun _ => ⟨M', m1, rfl, CFr15_trans fr m2, m3, m4⟩⟩
    | succ f ih =>
      intro last L S i hl hl2 fr j r hr hi i0 hc
      have cbs : CB (iv S 11) b := by rw [iv_row (fr.1 11 (by decide) (by decide))]; exact cb
      unfold crf at hc
      rcases nk_is (b := b) (off := off) (day := day) hl with ⟨e1, e2⟩ | ⟨a, a0, a1, a2, a3, a4, a5⟩
      · rw [if_pos e1] at hc
        subst hc
        obtain ⟨M', m1, m2, m3, m4⟩ := sp_l15_arrange S vcon r
        rw [e1]
        exact vc_l15_consolidate_42 _ _ _ _ _ S _ ⟨⟨by omega, by omega⟩, fun _ => ⟨by decide, fun _ => ⟨M', m1, rfl, CFr15_trans fr m2, m3, m4⟩, fun z => absurd rfl z⟩, fun h => by omega⟩
      · have kn := w.ky_nn a0 a1
        rw [if_neg (by omega), a2, kn.2.2.1] at hc
        rw [a2]
        obtain ⟨M5, m1, m2, m3⟩ := sp_l15_carryOut w cbs ez j r a0 a1 a3 a4
        have f5 := CFr15_trans fr m2
        refine vc_l15_consolidate_42 _ _ _ _ _ S _ ⟨⟨by omega, by omega⟩, fun _ => ⟨⟨by omega, by omega⟩, fun z => by omega, fun _ => ⟨kn.1, M5, by rw [kn.2.2.1]; exact m1, _, M5, sp_nextKey M5 w (by rw [iv_row (f5.1 11 (by decide) (by decide))]; exact cb) day rv (ky b a) (by omega) ⟨by omega, by omega⟩ dz ho, ?_⟩⟩, fun h => by omega⟩
        exact ih (ky b a) _ M5 (i + 1) (by omega) kn.2.1 f5 (cy_KL w j a0 a1 a3 a4 a5) m3 (by have := rem_dec w a0 a1 a3 a4; omega) (by omega) (by omega) hc
  exact loop 20 (-1) L0 M4 0 (by omega) (by omega) f4 (KL_0 w) r4 (rem_le w) (by omega) (by omega) rfl
