/-! out of the proof of whole: base -/
noncomputable def bz (P : Prop) : Int := @ite _ P (Classical.propDecidable P) 1 0
theorem bz_t {P : Prop} (h : P) : bz P = 1 := if_pos h
theorem bz_f {P : Prop} (h : ¬ P) : bz P = 0 := if_neg h
theorem bz_01 (P : Prop) : bz P = 0 ∨ bz P = 1 := by
  by_cases h : P
  · exact Or.inr (bz_t h)
  · exact Or.inl (bz_f h)
theorem loop_up {t : am_T} {Q : Option Value → am_M → Prop} {α : Type} (C : Int → α → am_C) (n : Int) (I : Int → α → Prop) (done : ∀ s, I n s → am_x t (C n s) Q) (step : ∀ i s, 0 ≤ i → i < n → I i s → (∀ s', I (i + 1) s' → am_x t (C (i + 1) s') Q) → am_x t (C i s) Q) : ∀ i s, 0 ≤ i → i ≤ n → I i s → am_x t (C i s) Q := by
  have key : ∀ k : Nat, ∀ i s, 0 ≤ i → i + k = n → I i s → am_x t (C i s) Q := by
    intro k
    induction k with
    | zero => intro i s h0 h1 hi; have e : i = n := by omega
              subst e; exact done s hi
    | succ k ih => intro i s h0 h1 hi; exact step i s h0 (by omega) hi (fun s' h' => ih (i + 1) s' (by omega) (by omega) h')
  intro i s h0 h1 hi
  exact key (n - i).toNat i s h0 (by omega) hi
abbrev isCd (v : Int) : Prop := 729 ≤ v ∧ v < 729000 ∧ (v % 729 % 27 = 0 ∨ 27 ≤ v % 729)
theorem zupr (M : am_M) {a : Nat} {k v : Int} {b : Nat} (h : b ≠ a) : zup M a k v b = M b := by
  funext j
  unfold zup am_up
  rw [if_neg h]
theorem iv_row {M M' : am_M} {a : Nat} (h : M' a = M a) : iv M' a = iv M a := by
  funext j
  unfold iv
  rw [h]
theorem ivr (M : am_M) {a : Nat} {k v : Int} {b : Nat} (h : b ≠ a) : iv (zup M a k v) b = iv M b := iv_row (zupr M h)
theorem ivs (M : am_M) (a : Nat) {k v : Int} {j : Int} (hk : 0 ≤ k) (hj : 0 ≤ j) (hv : zr v) : iv (zup M a k v) a j = if j = k then v else iv M a j := by
  rw [iv_zup M a a hk hj hv]
  by_cases h : j = k
  · rw [if_pos ⟨rfl, h⟩, if_pos h]
  · rw [if_neg (fun q => h q.2), if_neg h]
theorem am_call_ex {t : am_T} {av : List Value} {M : am_M} {Q : Option Value → am_M → Prop} (h0 : (am_sl1 av).length ≤ am_mL t ∧ av.length = am_ar t) (h : am_x t (0, am_ent (am_mL t) av, [], M) Q) : ∃ rv M', am_call t av M rv M' ∧ Q rv M' := by
  obtain ⟨d, k, c', r, h1, h2, h3⟩ := h
  exact ⟨r, c'.2.2.2, ⟨d + 1, h0, k, c', h1, h2, rfl⟩, h3⟩
theorem loop_dn {t : am_T} {Q : Option Value → am_M → Prop} {α : Type} (C : Int → α → am_C) (I : Int → α → Prop) (done : ∀ s, I (-1) s → am_x t (C (-1) s) Q) (step : ∀ i s, 0 ≤ i → I i s → (∀ s', I (i + (-1)) s' → am_x t (C (i + (-1)) s') Q) → am_x t (C i s) Q) : ∀ i s, -1 ≤ i → I i s → am_x t (C i s) Q := by
  have key : ∀ (k : Nat) (i : Int) (s : α), -1 ≤ i → i + 1 = (k : Int) → I i s → am_x t (C i s) Q := by
    intro k
    induction k with
    | zero => intro i s h0 h1 hi; have e : i = -1 := by omega
              subst e; exact done s hi
    | succ k ih => intro i s h0 h1 hi; exact step i s (by omega) hi (fun s' h' => ih (i + (-1)) s' (by omega) (by omega) h')
  intro i s h0 hi
  exact key (i + 1).toNat i s h0 (by omega) hi
