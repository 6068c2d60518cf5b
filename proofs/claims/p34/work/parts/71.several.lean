/-! a text of several operations is read as they were meant -/
abbrev RD (T : Int → Int) (D : Int → Int → Int) (i : Int) : Prop := (sk T (oS T i) = oS T i ∧ opE T (oS T i) = -1) ∧ OF T (oS T i) (D i 0) (D i 1) (D i 2) (D i 3) (D i 4) (D i 5)
/-- the text is that of j operations D -/
def PR (l : List Int) (j : Int) (D : Int → Int → Int) : Prop := ∀ T, AT T 0 l → enC (T l.length) → (l.length : Int) ≤ 120 → (∀ i, 0 ≤ i → i < j → RD T D i ∧ (i < j - 1 → T (sk T (opN T (oS T i))) = 59)) ∧ sk T (opN T (oS T (j - 1))) = l.length
theorem PR_1 {D : Int → Int → Int} (r : opR (D 0 0) (D 0 1) (D 0 2) (D 0 3) (D 0 4) (D 0 5)) : PR (opL (D 0 0) (D 0 1) (D 0 2) (D 0 3) (D 0 4) (D 0 5)) 1 D := by
  intro T h c hl
  have e0 : oS T 0 = 0 := rfl
  obtain ⟨g1, g2, g3, g4⟩ := op_at (p := 0) r h (by rw [Int.zero_add]; exact hl) (by rw [Int.zero_add]; exact c)
  rw [Int.zero_add] at g3
  refine ⟨fun i i0 i1 => ?_, by rw [show (1 : Int) - 1 = 0 by omega, e0]; exact g3⟩
  have : i = 0 := by omega
  subst this
  unfold RD
  rw [e0]
  exact ⟨⟨⟨g1, g2⟩, g4⟩, fun z => by omega⟩
theorem PR_s {l : List Int} {j : Int} {D : Int → Int → Int} (hj : 1 ≤ j) (p : PR l j D) (r : opR (D j 0) (D j 1) (D j 2) (D j 3) (D j 4) (D j 5)) : PR (l ++ [59] ++ opL (D j 0) (D j 1) (D j 2) (D j 3) (D j 4) (D j 5)) (j + 1) D := by
  intro T h c hl
  have el : ((l ++ [59] ++ opL (D j 0) (D j 1) (D j 2) (D j 3) (D j 4) (D j 5)).length : Int) = l.length + 1 + (opL (D j 0) (D j 1) (D j 2) (D j 3) (D j 4) (D j 5)).length := by
    simp only [List.length_append, List.length_cons, List.length_nil]
    omega
  rw [el] at c hl ⊢
  have h1 := AT_l (AT_l h)
  have h2 : T l.length = 59 := by
    have := AT_0 (AT_r (AT_l h))
    rwa [Int.zero_add] at this
  have h3 : AT T (l.length + 1) (opL (D j 0) (D j 1) (D j 2) (D j 3) (D j 4) (D j 5)) := by
    have := AT_r h
    have e0 : (0 : Int) + ((l ++ [59]).length : Int) = l.length + 1 := by
      simp only [List.length_append, List.length_cons, List.length_nil]
      omega
    rw [e0] at this
    exact this
  obtain ⟨p1, p2⟩ := p T h1 (Or.inl h2) (by omega)
  have q1 := (p1 (j - 1) (by omega) (by omega)).1.1.1
  have es : oS T j = l.length + 1 := by
    have := oS_s T (i := j - 1) (by omega)
    rw [show j - 1 + 1 = j by omega, q1, p2] at this
    exact this
  obtain ⟨g1, g2, g3, g4⟩ := op_at r h3 (by omega) c
  refine ⟨fun i i0 i1 => ?_, by rw [show j + 1 - 1 = j by omega, es]; exact g3⟩
  by_cases q : i = j
  · subst q
    unfold RD
    rw [es]
    exact ⟨⟨⟨g1, g2⟩, g4⟩, fun z => by omega⟩
  · refine ⟨(p1 i i0 (by omega)).1, fun _ => ?_⟩
    by_cases z : i < j - 1
    · exact (p1 i i0 (by omega)).2 z
    · rw [show i = j - 1 by omega, p2, h2]
theorem pr_am {l : List Int} {j : Int} {D : Int → Int → Int} {T : Int → Int} (j0 : 1 ≤ j) (j1 : j ≤ 40) (p : PR l j D) (h : AT T 0 l) (c : T l.length = -1) (hl : (l.length : Int) ≤ 120) : (amE T l.length = -1 ∧ amC T l.length = j) ∧ ∀ i, 0 ≤ i → i < j → RD T D i := by
  obtain ⟨p1, p2⟩ := p T h (Or.inr c) hl
  refine ⟨?_, fun i i0 i1 => (p1 i i0 i1).1⟩
  have key : ∀ (k : Nat) (i : Int), 0 ≤ i → i + k + 1 = j → amN T l.length (40 - i).toNat i = (-1, j) := by
    intro k
    induction k with
    | zero =>
      intro i i0 hk
      have ei : i = j - 1 := by omega
      obtain ⟨⟨q1, q2⟩, -⟩ := (p1 i i0 (by omega)).1
      have q3 : sk T (opN T (oS T i)) = l.length := by rw [ei]; exact p2
      have e1 : itE T l.length (oS T i) = -1 := by
        unfold itE smE
        rw [q1, q2, q3, c, if_neg (by omega), if_neg (by omega)]
        rfl
      rw [amN_s T _ (by omega), e1, if_neg (fun z => z rfl), if_neg (by unfold isM; rw [q1, q3, c]; omega), show i + 1 = j by omega]
    | succ k ih =>
      intro i i0 hk
      obtain ⟨⟨⟨q1, q2⟩, -⟩, q3⟩ := p1 i i0 (by omega)
      have q3 := q3 (by omega)
      have e1 : itE T l.length (oS T i) = -1 := by
        unfold itE smE
        rw [q1, q2, if_pos q3]
        rfl
      rw [amN_s T _ (by omega), e1, if_neg (fun z => z rfl), if_pos (by unfold isM; rw [q1, q3])]
      exact ih (i + 1) (by omega) (by omega)
  have := key (j - 1).toNat 0 (by omega) (by omega)
  unfold amE amC
  rw [show (40 : Nat) = (40 - 0 : Int).toNat from rfl, this]
  exact ⟨rfl, rfl⟩
theorem txl_X {M : am_M} {l : List Int} (t : TXL M l) : XT (tb M) l.length M ∧ AT (tb M) 0 l ∧ tb M l.length = -1 := by
  obtain ⟨⟨t1, t2⟩, t3⟩ := t
  have hv : ∀ (i : Nat) (x : Int), l[i]? = some x → tb M i = x ∧ 0 ≤ x ∧ x ≤ 127 := fun i x hi => by
    have hb := (List.getElem?_eq_some_iff.mp hi).1
    obtain ⟨a1, a2⟩ := t3 i x hi
    unfold tb
    rw [if_pos ⟨⟨by omega, by omega⟩, by omega⟩]
    exact ⟨a1, a2⟩
  have hz : ∀ k : Int, l.length ≤ k → tb M k = -1 := fun k hk => by
    unfold tb
    rw [if_neg (by omega)]
  refine ⟨⟨rfl, t1, ⟨by omega, by omega⟩, fun k k0 k1 => ?_, hz⟩, fun i x hi => by rw [Int.zero_add]; exact (hv i x hi).1, hz _ (Int.le_refl _)⟩
  obtain ⟨i, rfl⟩ : ∃ i : Nat, k = i := ⟨k.toNat, by omega⟩
  have := hv i _ (List.getElem?_eq_getElem (show i < l.length by omega))
  rw [this.1]
  exact this.2
