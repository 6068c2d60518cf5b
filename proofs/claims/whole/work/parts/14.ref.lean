/-! the reference: its book and its law, by what the memory holds -/
noncomputable def bz (P : Prop) : Int := @ite _ P (Classical.propDecidable P) 1 0
theorem bz_t {P : Prop} (h : P) : bz P = 1 := if_pos h
theorem bz_f {P : Prop} (h : ¬ P) : bz P = 0 := if_neg h
theorem bz_01 (P : Prop) : bz P = 0 ∨ bz P = 1 := by
  by_cases h : P
  · exact Or.inr (bz_t h)
  · exact Or.inl (bz_f h)
theorem loop_up {t : am_T} {Q : Option Value → am_M → Prop} {α : Type} (C : Int → α → am_C) (n : Int) (I : Int → α → Prop) (done : ∀ s, I n s → am_x t (C n s) Q) (step : ∀ i s, 0 ≤ i → i < n → I i s → (∀ s', I (i + 1) s' → am_x t (C (i + 1) s') Q) → am_x t (C i s) Q) : ∀ i s, 0 ≤ i → i ≤ n → I i s → am_x t (C i s) Q := by
  have key : ∀ k : Nat, ∀ i s, 0 ≤ i → i + k = n → I i s → am_x t (C i s) Q := by
    intro k
    induction k with
    | zero => intro i s h0 h1 hi; have e : i = n := by omega
              subst e; exact done s hi
    | succ k ih => intro i s h0 h1 hi; exact step i s h0 (by omega) hi (fun s' h' => ih (i + 1) s' (by omega) (by omega) h')
  intro i s h0 h1 hi
  exact key (n - i).toNat i s h0 (by omega) hi
abbrev isCd (v : Int) : Prop := 729 ≤ v ∧ v < 729000 ∧ (v % 729 % 27 = 0 ∨ 27 ≤ v % 729)
def lstf (p : Int → Bool) : Nat → Int
  | 0 => -1
  | k + 1 => bif p k then k else lstf p k
theorem lstf_is (p : Int → Bool) : ∀ k : Nat, (lstf p k = -1 ∧ ∀ c : Int, 0 ≤ c → c < k → p c = false) ∨ (0 ≤ lstf p k ∧ lstf p k < k ∧ p (lstf p k) = true) := by
  intro k
  induction k with
  | zero => exact Or.inl ⟨rfl, fun c h0 h1 => by omega⟩
  | succ k ih =>
    unfold lstf
    cases hp : p k with
    | true => exact Or.inr ⟨by show (0 : Int) ≤ k; omega, by show (k : Int) < (k + 1 : Nat); omega, hp⟩
    | false =>
      rcases ih with ⟨h1, h2⟩ | ⟨h1, h2, h3⟩
      · refine Or.inl ⟨h1, fun c h0 h4 => ?_⟩
        by_cases e : c = k
        · rw [e]; exact hp
        · exact h2 c h0 (by omega)
      · exact Or.inr ⟨h1, by show lstf p k < _; omega, h3⟩
def mwc (M : am_M) (x : Int) : Int := lstf (fun c => decide (iv M 64 c = 1 ∧ iv M 65 c = x)) 40
theorem mwc_zr (M : am_M) (x : Int) : zr (mwc M x) := by
  rcases lstf_is (fun c => decide (iv M 64 c = 1 ∧ iv M 65 c = x)) 40 with ⟨h, _⟩ | ⟨h1, h2, _⟩
  · unfold mwc; omega
  · unfold mwc; omega
def mhw (M : am_M) (c w : Int) : Prop := ∃ k, 0 ≤ k ∧ k < iv M 66 c ∧ iv M 67 (6 * c + k) = w
def mrf (M : am_M) (o : Int) : Prop := ∀ k, 0 ≤ k → k < pt (iv M 59) o 5 → pt (iv M 59) o (6 + k) < 1000 ∨ ¬ mwc M (pt (iv M 59) o (6 + k) - 1000) = -1
noncomputable def mro (M : am_M) (o c : Int) : Int :=
  if 0 < pt (iv M 59) o 0 ∧ c = -1 then 1
  else if (pt (iv M 59) o 0 = 0 ∧ ¬ c = -1) ∨ (pt (iv M 59) o 0 = 3 ∧ ¬ mwc M (pt (iv M 59) o 2) = -1) then 2
  else @ite _ (pt (iv M 59) o 0 = 4 ∧ ¬ mhw M c (pt (iv M 59) o 2)) (Classical.propDecidable _) 3
    (@ite _ (pt (iv M 59) o 0 < 2 ∧ ¬ mrf M o) (Classical.propDecidable _) 4 0)
theorem mro_zr (M : am_M) (o c : Int) : zr (mro M o c) := by
  unfold mro
  repeat' split
  all_goals decide
theorem zcp_0 (M : am_M) (a0 a : Nat) (sp dp : Int) : zcp M a0 a sp dp 0 = M := by
  funext b j
  unfold zcp am_cpm va_cpy
  by_cases hb : b = a
  · rw [if_pos hb, if_neg (by omega), hb]
  · rw [if_neg hb]
theorem zcp_s (M : am_M) (a0 a : Nat) (sp dp i : Int) (ha : a0 ≠ a) (h0 : 0 ≤ sp) (h1 : 0 ≤ dp) (h2 : 0 ≤ i) : zup (zcp M a0 a sp dp i) a (dp + i) (iv (zcp M a0 a sp dp i) a0 (sp + i)) = zcp M a0 a sp dp (i + 1) := by
  funext b j
  unfold zup am_up
  rw [zi_iv]
  unfold zcp am_cpm va_cpy
  by_cases hb : b = a
  · rw [if_pos hb, if_pos hb, if_neg ha, if_pos hb]
    by_cases hj : j = (dp + i).toNat
    · rw [if_pos hj, if_pos (by omega)]
      congr 1
      omega
    · rw [if_neg hj]
      by_cases hq : dp.toNat ≤ j ∧ j < dp.toNat + i.toNat
      · rw [if_pos hq, if_pos (by omega)]
      · rw [if_neg hq, if_neg (by omega)]
  · rw [if_neg hb, if_neg hb, if_neg hb]
set_option maxRecDepth 100000 in
theorem vc_isDay (v : Int) (M : am_M) (Q : Option Value → am_M → Prop) (hv : (zr v ∧ zr (0 : Int) ∧ zr (9999 : Int)) ∧ ((0 ≤ v ∧ v ≤ 9999 → Q (some (.int (zi 1))) M) ∧ (¬ (0 ≤ v ∧ v ≤ 9999) → Q (some (.int (zi 0))) M))) : am_x t_Mo_isDay (0, am_ent (am_mL t_Mo_isDay) [.int (zi v)], [], M) Q := by
  refine am_xn 0 (c1 := (0, [.int (zi v)], [], M)) rfl ?_
  refine am_xn 3 (c1 := (5, [.int (zi v)], [.int (zi 9999), .int (zi 0), .int (zi v)], M)) rfl ?_
  obtain ⟨g, hv⟩ := hv
  by_cases c1 : 0 ≤ v ∧ v ≤ 9999
  · replace hv := hv.1 c1
    refine am_xc t_Mo_in (.invokestatic 76) 76 (av := [.int (zi v), .int (zi 0), .int (zi 9999)]) (rest := []) (rv := some (.int (zi 1))) (M' := M) rfl rfl rfl rfl (Nat.le_of_ble_eq_true rfl) (fun h => nomatch h) (by have q := sp_in M v 0 9999 g; rwa [if_pos c1] at q) ?_
    refine am_xn 0 (c1 := (8, [.int (zi v)], [.int (zi 1)], M)) rfl ?_
    exact am_xr (some (.int (zi 1))) ⟨rfl, rfl, .boolean, rfl, rfl⟩ hv
  · replace hv := hv.2 c1
    refine am_xc t_Mo_in (.invokestatic 76) 76 (av := [.int (zi v), .int (zi 0), .int (zi 9999)]) (rest := []) (rv := some (.int (zi 0))) (M' := M) rfl rfl rfl rfl (Nat.le_of_ble_eq_true rfl) (fun h => nomatch h) (by have q := sp_in M v 0 9999 g; rwa [if_neg c1] at q) ?_
    refine am_xn 0 (c1 := (8, [.int (zi v)], [.int (zi 0)], M)) rfl ?_
    exact am_xr (some (.int (zi 0))) ⟨rfl, rfl, .boolean, rfl, rfl⟩ hv
theorem sp_isDay (M : am_M) (v : Int) (g : zr v) : am_call t_Mo_isDay [.int (zi v)] M (some (.int (zi (if 0 ≤ v ∧ v ≤ 9999 then 1 else 0)))) M := by
  refine am_call_of ⟨Nat.le_of_ble_eq_true rfl, rfl⟩ (vc_isDay v M _ ?_)
  obtain ⟨_, _⟩ := g
  (repeat' (first | apply And.intro | intro _)) <;> (first | rfl | omega | (split <;> (first | rfl | omega)))
set_option maxRecDepth 100000 in
theorem vc_isCase (v : Int) (M : am_M) (Q : Option Value → am_M → Prop) (hv : zr v ∧ ((v = (-1) → Q (some (.int (zi 1))) M) ∧ (¬ v = (-1) → (zr v) ∧ ((0 ≤ v ∧ v ≤ 9999 → Q (some (.int (zi 1))) M) ∧ (¬ (0 ≤ v ∧ v ≤ 9999) → Q (some (.int (zi 0))) M))))) : am_x t_Mo_isCase (0, am_ent (am_mL t_Mo_isCase) [.int (zi v)], [], M) Q := by
  refine am_xn 0 (c1 := (0, [.int (zi v)], [], M)) rfl ?_
  obtain ⟨r1, hv⟩ := hv
  refine am_xn 3 (c1 := (if zi v = zi (-1) then 12 else 5, [.int (zi v)], [], M)) rfl (am_xeq r1 (by decide) (fun h => ?_) (fun h => ?_))
  · replace hv := hv.1 h
    refine am_xn 2 (c1 := (17, [.int (zi v)], [.int (zi 1)], M)) rfl ?_
    exact am_xr (some (.int (zi 1))) ⟨rfl, rfl, .boolean, rfl, rfl⟩ hv
  · replace hv := hv.2 h
    refine am_xn 1 (c1 := (6, [.int (zi v)], [.int (zi v)], M)) rfl ?_
    obtain ⟨g, hv⟩ := hv
    by_cases c2 : 0 ≤ v ∧ v ≤ 9999
    · replace hv := hv.1 c2
      refine am_xc t_Mo_isDay (.invokestatic 80) 80 (av := [.int (zi v)]) (rest := []) (rv := some (.int (zi 1))) (M' := M) rfl rfl rfl rfl (Nat.le_of_ble_eq_true rfl) (fun h => nomatch h) (by have q := sp_isDay M v g; rwa [if_pos c2] at q) ?_
      refine am_xn 0 (c1 := (9, [.int (zi v)], [.int (zi 1)], M)) rfl ?_
      refine am_xn 3 (c1 := (17, [.int (zi v)], [.int (zi 1)], M)) rfl ?_
      exact am_xr (some (.int (zi 1))) ⟨rfl, rfl, .boolean, rfl, rfl⟩ hv
    · replace hv := hv.2 c2
      refine am_xc t_Mo_isDay (.invokestatic 80) 80 (av := [.int (zi v)]) (rest := []) (rv := some (.int (zi 0))) (M' := M) rfl rfl rfl rfl (Nat.le_of_ble_eq_true rfl) (fun h => nomatch h) (by have q := sp_isDay M v g; rwa [if_neg c2] at q) ?_
      refine am_xn 0 (c1 := (9, [.int (zi v)], [.int (zi 0)], M)) rfl ?_
      refine am_xn 2 (c1 := (17, [.int (zi v)], [.int (zi 0)], M)) rfl ?_
      exact am_xr (some (.int (zi 0))) ⟨rfl, rfl, .boolean, rfl, rfl⟩ hv
theorem sp_isCase (M : am_M) (v : Int) (g : zr v) : am_call t_Mo_isCase [.int (zi v)] M (some (.int (zi (if v = -1 ∨ (0 ≤ v ∧ v ≤ 9999) then 1 else 0)))) M := by
  refine am_call_of ⟨Nat.le_of_ble_eq_true rfl, rfl⟩ (vc_isCase v M _ ?_)
  obtain ⟨_, _⟩ := g
  (repeat' (first | apply And.intro | intro _)) <;> (first | rfl | omega | (split <;> (first | rfl | omega)))
set_option maxRecDepth 100000 in
theorem vc_isCode (v : Int) (M : am_M) (Q : Option Value → am_M → Prop) (hv : zr v ∧ ((v < 729 → Q (some (.int (zi 0))) M) ∧ (729 ≤ v → (v < 729000 → ((Int.tmod (Int.tmod v 729) 27) = 0 → Q (some (.int (zi 1))) M) ∧ (¬ (Int.tmod (Int.tmod v 729) 27) = 0 → ((Int.tmod v 729) < 27 → Q (some (.int (zi 0))) M) ∧ (27 ≤ (Int.tmod v 729) → Q (some (.int (zi 1))) M))) ∧ (729000 ≤ v → Q (some (.int (zi 0))) M)))) : am_x t_Mo_isCode (0, am_ent (am_mL t_Mo_isCode) [.int (zi v)], [], M) Q := by
  refine am_xn 0 (c1 := (0, [.int (zi v), .null], [], M)) rfl ?_
  obtain ⟨r1, hv⟩ := hv
  refine am_xn 2 (c1 := (4, [.int (zi v), .null], [.int (zi 729), .int (zi v)], M)) rfl ?_
  refine am_xtrem rfl (by decide) r1 ?_
  refine am_xn 0 (c1 := (5, [.int (zi v), .null], [.int (zi (Int.tmod v 729))], M)) rfl ?_
  refine am_xn 4 (c1 := (if zi v < zi 729 then 36 else 13, [.int (zi v), .int (zi (Int.tmod v 729))], [], M)) rfl (am_xlt r1 (by decide) (fun h => ?_) (fun h => ?_))
  · replace hv := hv.1 h
    refine am_xn 1 (c1 := (37, [.int (zi v), .int (zi (Int.tmod v 729))], [.int (zi 0)], M)) rfl ?_
    exact am_xr (some (.int (zi 0))) ⟨rfl, rfl, .boolean, rfl, rfl⟩ hv
  · replace hv := hv.2 h
    refine am_xn 3 (c1 := (if zi v < zi 729000 then 19 else 36, [.int (zi v), .int (zi (Int.tmod v 729))], [], M)) rfl (am_xlt r1 (by decide) (fun h => ?_) (fun h => ?_))
    · replace hv := hv.1 h
      refine am_xn 2 (c1 := (22, [.int (zi v), .int (zi (Int.tmod v 729))], [.int (zi 27), .int (zi (Int.tmod v 729))], M)) rfl ?_
      refine am_xtrem rfl (by decide) (zr_trem (by decide) r1) ?_
      refine am_xn 0 (c1 := (23, [.int (zi v), .int (zi (Int.tmod v 729))], [.int (zi (Int.tmod (Int.tmod v 729) 27))], M)) rfl ?_
      refine am_xn 1 (c1 := (if zi (Int.tmod (Int.tmod v 729) 27) = zi 0 then 32 else 26, [.int (zi v), .int (zi (Int.tmod v 729))], [], M)) rfl (am_xeq (zr_trem (by decide) (zr_trem (by decide) r1)) (by decide) (fun h => ?_) (fun h => ?_))
      · replace hv := hv.1 h
        refine am_xn 2 (c1 := (37, [.int (zi v), .int (zi (Int.tmod v 729))], [.int (zi 1)], M)) rfl ?_
        exact am_xr (some (.int (zi 1))) ⟨rfl, rfl, .boolean, rfl, rfl⟩ hv
      · replace hv := hv.2 h
        refine am_xn 3 (c1 := (if zi (Int.tmod v 729) < zi 27 then 36 else 32, [.int (zi v), .int (zi (Int.tmod v 729))], [], M)) rfl (am_xlt (zr_trem (by decide) r1) (by decide) (fun h => ?_) (fun h => ?_))
        · replace hv := hv.1 h
          refine am_xn 1 (c1 := (37, [.int (zi v), .int (zi (Int.tmod v 729))], [.int (zi 0)], M)) rfl ?_
          exact am_xr (some (.int (zi 0))) ⟨rfl, rfl, .boolean, rfl, rfl⟩ hv
        · replace hv := hv.2 h
          refine am_xn 2 (c1 := (37, [.int (zi v), .int (zi (Int.tmod v 729))], [.int (zi 1)], M)) rfl ?_
          exact am_xr (some (.int (zi 1))) ⟨rfl, rfl, .boolean, rfl, rfl⟩ hv
    · replace hv := hv.2 h
      refine am_xn 1 (c1 := (37, [.int (zi v), .int (zi (Int.tmod v 729))], [.int (zi 0)], M)) rfl ?_
      exact am_xr (some (.int (zi 0))) ⟨rfl, rfl, .boolean, rfl, rfl⟩ hv
theorem sp_isCode (M : am_M) (v : Int) (g : zr v) : am_call t_Mo_isCode [.int (zi v)] M (some (.int (zi (if isCd v then 1 else 0)))) M := by
  refine am_call_of ⟨Nat.le_of_ble_eq_true rfl, rfl⟩ (vc_isCode v M _ ?_)
  obtain ⟨_, _⟩ := g
  have e : 0 ≤ v → Int.tmod v 729 = v % 729 := fun h => Int.tmod_eq_emod_of_nonneg h
  have e2 : 0 ≤ v → Int.tmod (Int.tmod v 729) 27 = v % 729 % 27 := fun h => by rw [e h]; exact Int.tmod_eq_emod_of_nonneg (Int.emod_nonneg v (by decide))
  (repeat' (first | apply And.intro | intro _)) <;> (first | rfl | omega | (split <;> (first | rfl | omega)))
set_option maxRecDepth 100000 in
theorem vc_isAmendment (v : Int) (M : am_M) (Q : Option Value → am_M → Prop) (hv : (zr v ∧ zr (0 : Int) ∧ zr ((iv M 59 0) - 1)) ∧ ((0 ≤ v ∧ v ≤ ((iv M 59 0) - 1) → Q (some (.int (zi 1))) M) ∧ (¬ (0 ≤ v ∧ v ≤ ((iv M 59 0) - 1)) → Q (some (.int (zi 0))) M))) : am_x t_Mo_isAmendment (0, am_ent (am_mL t_Mo_isAmendment) [.ref 58, .int (zi v)], [], M) Q := by
  refine am_xn 0 (c1 := (0, [.ref 58, .int (zi v)], [], M)) rfl ?_
  refine am_xrd 6 59 0 (pc := 8) (ls := [.ref 58, .int (zi v)]) (st := [.int (zi 0), .int (zi v)]) rfl ?_
  refine am_xisub 2 (iv M 59 0) 1 (pc := 10) (ls := [.ref 58, .int (zi v)]) (st := [.int (zi 0), .int (zi v)]) rfl ?_
  obtain ⟨g, hv⟩ := hv
  by_cases c1 : 0 ≤ v ∧ v ≤ ((iv M 59 0) - 1)
  · replace hv := hv.1 c1
    refine am_xc t_Mo_in (.invokestatic 76) 76 (av := [.int (zi v), .int (zi 0), .int (zi ((iv M 59 0) - 1))]) (rest := []) (rv := some (.int (zi 1))) (M' := M) rfl rfl rfl rfl (Nat.le_of_ble_eq_true rfl) (fun h => nomatch h) (by have q := sp_in M v 0 ((iv M 59 0) - 1) g; rwa [if_pos c1] at q) ?_
    refine am_xn 0 (c1 := (13, [.ref 58, .int (zi v)], [.int (zi 1)], M)) rfl ?_
    exact am_xr (some (.int (zi 1))) ⟨rfl, rfl, .boolean, rfl, rfl⟩ hv
  · replace hv := hv.2 c1
    refine am_xc t_Mo_in (.invokestatic 76) 76 (av := [.int (zi v), .int (zi 0), .int (zi ((iv M 59 0) - 1))]) (rest := []) (rv := some (.int (zi 0))) (M' := M) rfl rfl rfl rfl (Nat.le_of_ble_eq_true rfl) (fun h => nomatch h) (by have q := sp_in M v 0 ((iv M 59 0) - 1) g; rwa [if_neg c1] at q) ?_
    refine am_xn 0 (c1 := (13, [.ref 58, .int (zi v)], [.int (zi 0)], M)) rfl ?_
    exact am_xr (some (.int (zi 0))) ⟨rfl, rfl, .boolean, rfl, rfl⟩ hv
theorem sp_isAmendment (M : am_M) (v : Int) (g : zr v ∧ 0 ≤ iv M 59 0) : am_call t_Mo_isAmendment [.ref 58, .int (zi v)] M (some (.int (zi (if 0 ≤ v ∧ v < iv M 59 0 then 1 else 0)))) M := by
  refine am_call_of ⟨Nat.le_of_ble_eq_true rfl, rfl⟩ (vc_isAmendment v M _ ?_)
  obtain ⟨⟨_, _⟩, _⟩ := g
  have := (iv_r M 59 0).2
  (repeat' (first | apply And.intro | intro _)) <;> (first | rfl | omega | (split <;> (first | rfl | omega)))
set_option maxRecDepth 100000 in
theorem vc_operations  (M : am_M) (Q : Option Value → am_M → Prop) (hv : am_x t_Mo_operations (4, [.ref 58, .int (zi 0), .int (zi 0)], [], M) Q) : am_x t_Mo_operations (0, am_ent (am_mL t_Mo_operations) [.ref 58], [], M) Q := by
  refine am_xn 0 (c1 := (0, [.ref 58, .null, .null], [], M)) rfl ?_
  refine am_xn 4 (c1 := (4, [.ref 58, .int (zi 0), .int (zi 0)], [], M)) rfl ?_
  exact hv
set_option maxRecDepth 100000 in
theorem vc_operations_4 (x1 : Int) (x2 : Int) (M : am_M) (Q : Option Value → am_M → Prop) (hv : zr x2 ∧ ((x2 < (iv M 59 0) → (0 ≤ (41 + x2) ∧ (41 + x2) < 1501) ∧ (am_x t_Mo_operations (4, [.ref 58, .int (zi (x1 + (iv M 59 (41 + x2)))), .int (zi (x2 + 1))], [], M) Q)) ∧ ((iv M 59 0) ≤ x2 → Q (some (.int (zi x1))) M))) : am_x t_Mo_operations (4, [.ref 58, .int (zi x1), .int (zi x2)], [], M) Q := by
  refine am_xrd 5 59 0 (pc := 11) (ls := [.ref 58, .int (zi x1), .int (zi x2)]) (st := [.int (zi x2)]) rfl ?_
  obtain ⟨r1, hv⟩ := hv
  refine am_xn 1 (c1 := (if zi x2 < zi (iv M 59 0) then 14 else 32, [.ref 58, .int (zi x1), .int (zi x2)], [], M)) rfl (am_xlt r1 (iv_r _ _ _) (fun h => ?_) (fun h => ?_))
  · replace hv := hv.1 h
    refine am_xiadd 6 41 x2 (pc := 23) (ls := [.ref 58, .int (zi x1), .int (zi x2)]) (st := [.ref 59, .int (zi x1)]) rfl ?_
    obtain ⟨r2, hv⟩ := hv
    refine am_xald rfl rfl rfl r2 ?_
    refine am_xn 0 (c1 := (24, [.ref 58, .int (zi x1), .int (zi x2)], [.int (zi (iv M 59 (41 + x2))), .int (zi x1)], M)) rfl ?_
    refine am_xiadd 1 x1 (iv M 59 (41 + x2)) (pc := 25) (ls := [.ref 58, .int (zi x1), .int (zi x2)]) (st := []) rfl ?_
    refine am_xn 2 (c1 := (29, [.ref 58, .int (zi (x1 + (iv M 59 (41 + x2)))), .int (zi x2 + zi 1)], [], M)) rfl ?_
    rw [zi_add]
    refine am_xn 1 (c1 := (4, [.ref 58, .int (zi (x1 + (iv M 59 (41 + x2)))), .int (zi (x2 + 1))], [], M)) rfl ?_
    exact hv
  · replace hv := hv.2 h
    refine am_xn 1 (c1 := (33, [.ref 58, .int (zi x1), .int (zi x2)], [.int (zi x1)], M)) rfl ?_
    exact am_xr (some (.int (zi x1))) ⟨rfl, rfl, .int, rfl, rfl⟩ hv
theorem sp_operations (M : am_M) (g : iv M 59 0 ≤ 20) : am_call t_Mo_operations [.ref 58] M (some (.int (zi (nops (iv M 59))))) M := by
  refine am_call_of ⟨Nat.le_of_ble_eq_true rfl, rfl⟩ (vc_operations M _ ?_)
  by_cases hn : 0 ≤ iv M 59 0
  · refine loop_up (fun i (s : Int) => (4, [.ref 58, .int (zi s), .int (zi i)], [], M)) (iv M 59 0) (fun i s => s = fo (iv M 59) i) ?_ ?_ 0 0 (by omega) hn rfl
    · intro s hs
      exact vc_operations_4 _ _ M _ ⟨iv_r _ _ _, fun h => by omega, fun _ => ⟨by rw [hs]; rfl, rfl⟩⟩
    · intro i s h0 h1 hs k
      exact vc_operations_4 _ _ M _ ⟨⟨by omega, by omega⟩, fun h => ⟨⟨by omega, by omega⟩, k _ (by rw [hs, fo_s _ h0])⟩, fun h => by omega⟩
  · refine vc_operations_4 _ _ M _ ⟨by decide, fun h => by omega, fun _ => ⟨?_, rfl⟩⟩
    have : nops (iv M 59) = 0 := sm_neg _ (by omega)
    rw [this]
set_option maxRecDepth 100000 in
theorem vc_firstOf (a : Int) (M : am_M) (Q : Option Value → am_M → Prop) (hv : am_x t_Mo_firstOf (4, [.ref 58, .int (zi a), .int (zi 0), .int (zi 0)], [], M) Q) : am_x t_Mo_firstOf (0, am_ent (am_mL t_Mo_firstOf) [.ref 58, .int (zi a)], [], M) Q := by
  refine am_xn 0 (c1 := (0, [.ref 58, .int (zi a), .null, .null], [], M)) rfl ?_
  refine am_xn 4 (c1 := (4, [.ref 58, .int (zi a), .int (zi 0), .int (zi 0)], [], M)) rfl ?_
  exact hv
set_option maxRecDepth 100000 in
theorem vc_firstOf_4 (x1 : Int) (x2 : Int) (x3 : Int) (M : am_M) (Q : Option Value → am_M → Prop) (hv : zr x3 ∧ (zr x1 ∧ ((x3 < x1 → (0 ≤ (41 + x3) ∧ (41 + x3) < 1501) ∧ (am_x t_Mo_firstOf (4, [.ref 58, .int (zi x1), .int (zi (x2 + (iv M 59 (41 + x3)))), .int (zi (x3 + 1))], [], M) Q)) ∧ (x1 ≤ x3 → Q (some (.int (zi x2))) M)))) : am_x t_Mo_firstOf (4, [.ref 58, .int (zi x1), .int (zi x2), .int (zi x3)], [], M) Q := by
  obtain ⟨r1, hv⟩ := hv
  obtain ⟨r2, hv⟩ := hv
  refine am_xn 3 (c1 := (if zi x3 < zi x1 then 9 else 27, [.ref 58, .int (zi x1), .int (zi x2), .int (zi x3)], [], M)) rfl (am_xlt r1 r2 (fun h => ?_) (fun h => ?_))
  · replace hv := hv.1 h
    refine am_xiadd 6 41 x3 (pc := 18) (ls := [.ref 58, .int (zi x1), .int (zi x2), .int (zi x3)]) (st := [.ref 59, .int (zi x2)]) rfl ?_
    obtain ⟨r3, hv⟩ := hv
    refine am_xald rfl rfl rfl r3 ?_
    refine am_xn 0 (c1 := (19, [.ref 58, .int (zi x1), .int (zi x2), .int (zi x3)], [.int (zi (iv M 59 (41 + x3))), .int (zi x2)], M)) rfl ?_
    refine am_xiadd 1 x2 (iv M 59 (41 + x3)) (pc := 20) (ls := [.ref 58, .int (zi x1), .int (zi x2), .int (zi x3)]) (st := []) rfl ?_
    refine am_xn 2 (c1 := (24, [.ref 58, .int (zi x1), .int (zi (x2 + (iv M 59 (41 + x3)))), .int (zi x3 + zi 1)], [], M)) rfl ?_
    rw [zi_add]
    refine am_xn 1 (c1 := (4, [.ref 58, .int (zi x1), .int (zi (x2 + (iv M 59 (41 + x3)))), .int (zi (x3 + 1))], [], M)) rfl ?_
    exact hv
  · replace hv := hv.2 h
    refine am_xn 1 (c1 := (28, [.ref 58, .int (zi x1), .int (zi x2), .int (zi x3)], [.int (zi x2)], M)) rfl ?_
    exact am_xr (some (.int (zi x2))) ⟨rfl, rfl, .int, rfl, rfl⟩ hv
theorem sp_firstOf (M : am_M) (a : Int) (g : 0 ≤ a ∧ a ≤ 20) : am_call t_Mo_firstOf [.ref 58, .int (zi a)] M (some (.int (zi (fo (iv M 59) a)))) M := by
  refine am_call_of ⟨Nat.le_of_ble_eq_true rfl, rfl⟩ (vc_firstOf a M _ ?_)
  refine loop_up (fun i (s : Int) => (4, [.ref 58, .int (zi a), .int (zi s), .int (zi i)], [], M)) a (fun i s => s = fo (iv M 59) i) ?_ ?_ 0 0 (by omega) g.1 rfl
  · intro s hs
    exact vc_firstOf_4 _ _ _ M _ ⟨⟨by omega, by omega⟩, ⟨by omega, by omega⟩, fun h => by omega, fun _ => ⟨by rw [hs], rfl⟩⟩
  · intro i s h0 h1 hs k
    exact vc_firstOf_4 _ _ _ M _ ⟨⟨by omega, by omega⟩, ⟨by omega, by omega⟩, fun h => ⟨⟨by omega, by omega⟩, k _ (by rw [hs, fo_s _ h0])⟩, fun h => by omega⟩
set_option maxRecDepth 100000 in
theorem vc_part (o : Int) (w : Int) (M : am_M) (Q : Option Value → am_M → Prop) (hv : (0 ≤ ((61 + (12 * o)) + w) ∧ ((61 + (12 * o)) + w) < 1501) ∧ (Q (some (.int (zi (iv M 59 ((61 + (12 * o)) + w))))) M)) : am_x t_Mo_part (0, am_ent (am_mL t_Mo_part) [.ref 58, .int (zi o), .int (zi w)], [], M) Q := by
  refine am_xn 0 (c1 := (0, [.ref 58, .int (zi o), .int (zi w)], [], M)) rfl ?_
  refine am_ximul 6 12 o (pc := 10) (ls := [.ref 58, .int (zi o), .int (zi w)]) (st := [.int (zi 61), .ref 59]) rfl ?_
  refine am_xiadd 1 61 (12 * o) (pc := 11) (ls := [.ref 58, .int (zi o), .int (zi w)]) (st := [.ref 59]) rfl ?_
  refine am_xiadd 2 (61 + (12 * o)) w (pc := 13) (ls := [.ref 58, .int (zi o), .int (zi w)]) (st := [.ref 59]) rfl ?_
  obtain ⟨r1, hv⟩ := hv
  refine am_xald rfl rfl rfl r1 ?_
  refine am_xn 0 (c1 := (14, [.ref 58, .int (zi o), .int (zi w)], [.int (zi (iv M 59 ((61 + (12 * o)) + w)))], M)) rfl ?_
  exact am_xr (some (.int (zi (iv M 59 ((61 + (12 * o)) + w))))) ⟨rfl, rfl, .int, rfl, rfl⟩ hv
theorem sp_part (M : am_M) (o : Int) (w : Int) (g : 0 ≤ o ∧ o < 120 ∧ 0 ≤ w ∧ w < 12) : am_call t_Mo_part [.ref 58, .int (zi o), .int (zi w)] M (some (.int (zi (pt (iv M 59) o w)))) M := by
  refine am_call_of ⟨Nat.le_of_ble_eq_true rfl, rfl⟩ (vc_part o w M _ ?_)
  exact ⟨⟨by omega, by omega⟩, rfl, rfl⟩
def amo (b : Int → Int) (o : Int) : Int := sm (fun a => if fo b (a + 1) ≤ o then 1 else 0) (b 0)
theorem amo_of {b : Int → Int} (w : WB b) {a o : Int} (h0 : 0 ≤ a) (h1 : a < b 0) (h2 : fo b a ≤ o) (h3 : o < fo b (a + 1)) : amo b o = a := by
  unfold amo
  have h4 : ∀ k : Nat, (k : Int) ≤ b 0 → sm (fun a => if fo b (a + 1) ≤ o then 1 else 0) k = if (k : Int) ≤ a then (k : Int) else a := by
    intro k
    induction k with
    | zero => intro _; rw [if_pos (by omega)]; rfl
    | succ k ih =>
      intro hk
      have ih := ih (by omega)
      show sm _ ((k : Int) + 1) = _
      rw [sm_s _ (by omega), ih]
      show (if (k : Int) ≤ a then (k : Int) else a) + (if fo b (k + 1) ≤ o then 1 else 0) = _
      by_cases hl : (k : Int) < a
      · have := w.fo_mono (m := k + 1) (n := a) (by omega) (by omega) (by omega)
        rw [if_pos (by omega), if_pos (by omega), if_pos (by omega)]; omega
      · have := w.fo_mono (m := a + 1) (n := k + 1) (by omega) (by omega) (by omega)
        rw [if_neg (show ¬ fo b (k + 1) ≤ o by omega)]
        by_cases e : (k : Int) = a
        · rw [if_pos (by omega), if_neg (by omega)]; omega
        · rw [if_neg (by omega), if_neg (by omega)]; omega
  have h5 := h4 (b 0).toNat (by omega)
  rw [show (((b 0).toNat : Nat) : Int) = b 0 by omega, if_neg (by omega)] at h5
  exact h5
theorem amo_ex {b : Int → Int} (w : WB b) {o : Int} (h0 : 0 ≤ o) (h1 : o < nops b) : 0 ≤ amo b o ∧ amo b o < b 0 ∧ fo b (amo b o) ≤ o ∧ o < fo b (amo b o + 1) := by
  have : ∀ k : Nat, (k : Int) ≤ b 0 → o < fo b k → ∃ a, 0 ≤ a ∧ a < b 0 ∧ fo b a ≤ o ∧ o < fo b (a + 1) := by
    intro k
    induction k with
    | zero => intro _ h; have : fo b 0 = 0 := rfl
              have h : o < fo b 0 := h
              omega
    | succ k ih =>
      intro hk h
      by_cases q : o < fo b k
      · exact ih (by omega) q
      · exact ⟨k, by omega, by omega, by omega, h⟩
  have w0 := w.n0
  obtain ⟨a, a0, a1, a2, a3⟩ := this (b 0).toNat (by omega) (by rw [show (((b 0).toNat : Nat) : Int) = b 0 by omega]; exact h1)
  rw [amo_of w a0 a1 a2 a3]
  exact ⟨a0, a1, a2, a3⟩
theorem amo_rg {b : Int → Int} (w : WB b) (o : Int) : 0 ≤ amo b o ∧ amo b o ≤ 20 := by
  have h1 := sm_le (fun a => if fo b (a + 1) ≤ o then 1 else 0) (fun _ => 1) (b 0) (fun i _ _ => by show (if _ then (1 : Int) else 0) ≤ 1; split <;> omega)
  have h2 : ∀ k : Nat, zsum (fun _ => 1) k = k := by
    intro k
    induction k with
    | zero => rfl
    | succ k ih => show zsum _ k + 1 = _; omega
  have h4 : sm (fun _ => 1) (b 0) = ((b 0).toNat : Nat) := h2 (b 0).toNat
  have h3 := sm_nn (fun a => if fo b (a + 1) ≤ o then 1 else 0) (b 0) (fun i _ _ => by split <;> omega)
  have := w.n1
  have := w.n0
  unfold amo
  omega
set_option maxRecDepth 100000 in
theorem vc_amendmentOf (o : Int) (M : am_M) (Q : Option Value → am_M → Prop) (hv : am_x t_Mo_amendmentOf (4, [.ref 58, .null, .int (zi 0), .int (zi o)], [], M) Q) : am_x t_Mo_amendmentOf (0, am_ent (am_mL t_Mo_amendmentOf) [.ref 58, .int (zi o)], [], M) Q := by
  refine am_xn 0 (c1 := (0, [.ref 58, .int (zi o), .null, .null], [], M)) rfl ?_
  refine am_xn 4 (c1 := (4, [.ref 58, .int (zi o), .int (zi 0), .int (zi o)], [], M)) rfl ?_
  refine am_xf 1 ?_
  exact hv
set_option maxRecDepth 100000 in
theorem vc_amendmentOf_4 (x2 : Int) (x3 : Int) (M : am_M) (Q : Option Value → am_M → Prop) (hv : (0 ≤ (41 + x2) ∧ (41 + x2) < 1501) ∧ (zr x3 ∧ ((x3 < (iv M 59 (41 + x2)) → Q (some (.int (zi x2))) M) ∧ ((iv M 59 (41 + x2)) ≤ x3 → (0 ≤ (41 + x2) ∧ (41 + x2) < 1501) ∧ (am_x t_Mo_amendmentOf (4, [.ref 58, .null, .int (zi (x2 + 1)), .int (zi (x3 - (iv M 59 (41 + x2))))], [], M) Q))))) : am_x t_Mo_amendmentOf (4, [.ref 58, .null, .int (zi x2), .int (zi x3)], [], M) Q := by
  refine am_xiadd 6 41 x2 (pc := 13) (ls := [.ref 58, .null, .int (zi x2), .int (zi x3)]) (st := [.ref 59, .int (zi x3)]) rfl ?_
  obtain ⟨r1, hv⟩ := hv
  refine am_xald rfl rfl rfl r1 ?_
  refine am_xn 0 (c1 := (14, [.ref 58, .null, .int (zi x2), .int (zi x3)], [.int (zi (iv M 59 (41 + x2))), .int (zi x3)], M)) rfl ?_
  obtain ⟨r2, hv⟩ := hv
  refine am_xn 1 (c1 := (if zi x3 < zi (iv M 59 (41 + x2)) then 35 else 17, [.ref 58, .null, .int (zi x2), .int (zi x3)], [], M)) rfl (am_xlt r2 (iv_r _ _ _) (fun h => ?_) (fun h => ?_))
  · replace hv := hv.1 h
    refine am_xn 1 (c1 := (36, [.ref 58, .null, .int (zi x2), .int (zi x3)], [.int (zi x2)], M)) rfl ?_
    exact am_xr (some (.int (zi x2))) ⟨rfl, rfl, .int, rfl, rfl⟩ hv
  · replace hv := hv.2 h
    refine am_xiadd 6 41 x2 (pc := 26) (ls := [.ref 58, .null, .int (zi x2), .int (zi x3)]) (st := [.ref 59, .int (zi x3)]) rfl ?_
    obtain ⟨r3, hv⟩ := hv
    refine am_xald rfl rfl rfl r3 ?_
    refine am_xn 0 (c1 := (27, [.ref 58, .null, .int (zi x2), .int (zi x3)], [.int (zi (iv M 59 (41 + x2))), .int (zi x3)], M)) rfl ?_
    refine am_xisub 1 x3 (iv M 59 (41 + x2)) (pc := 28) (ls := [.ref 58, .null, .int (zi x2), .int (zi x3)]) (st := []) rfl ?_
    refine am_xn 2 (c1 := (32, [.ref 58, .null, .int (zi x2 + zi 1), .int (zi (x3 - (iv M 59 (41 + x2))))], [], M)) rfl ?_
    rw [zi_add]
    refine am_xn 1 (c1 := (4, [.ref 58, .null, .int (zi (x2 + 1)), .int (zi (x3 - (iv M 59 (41 + x2))))], [], M)) rfl ?_
    exact hv
theorem sp_amendmentOf (M : am_M) (o : Int) (g : WB (iv M 59) ∧ 0 ≤ o ∧ o < nops (iv M 59)) : am_call t_Mo_amendmentOf [.ref 58, .int (zi o)] M (some (.int (zi (amo (iv M 59) o)))) M := by
  obtain ⟨w, g0, g1⟩ := g
  obtain ⟨a0, a1, a2, a3⟩ := amo_ex w g0 g1
  have w1 := w.n1
  have wt := w.tot
  refine am_call_of ⟨Nat.le_of_ble_eq_true rfl, rfl⟩ (vc_amendmentOf o M _ ?_)
  refine loop_up (fun i (s : Int) => (4, [.ref 58, .null, .int (zi i), .int (zi s)], [], M)) (amo (iv M 59) o) (fun i s => s = o - fo (iv M 59) i) ?_ ?_ 0 o (by omega) a0 (by show o = o - 0; omega)
  · intro s hs
    have f := fo_s (iv M 59) a0
    have := w.fo_nn (n := amo (iv M 59) o) (by omega)
    exact vc_amendmentOf_4 _ _ M _ ⟨⟨by omega, by omega⟩, ⟨by omega, by omega⟩, fun _ => ⟨rfl, rfl⟩, fun h => by omega⟩
  · intro i s h0 h1 hs k
    have f := fo_s (iv M 59) h0
    have f2 := w.fo_mono (m := i + 1) (n := amo (iv M 59) o) (by omega) (by omega) (by omega)
    have := w.fo_nn (n := i) (by omega)
    have := w.sz i h0 (by omega)
    exact vc_amendmentOf_4 _ _ M _ ⟨⟨by omega, by omega⟩, ⟨by omega, by omega⟩, fun h => by omega, fun h => ⟨⟨by omega, by omega⟩, k _ (by omega)⟩⟩
set_option maxRecDepth 100000 in
theorem vc_identitiesAhead (o : Int) (M : am_M) (Q : Option Value → am_M → Prop) (hv : am_x t_Mo_identitiesAhead (4, [.ref 58, .int (zi o), .int (zi 0), .int (zi 0)], [], M) Q) : am_x t_Mo_identitiesAhead (0, am_ent (am_mL t_Mo_identitiesAhead) [.ref 58, .int (zi o)], [], M) Q := by
  refine am_xn 0 (c1 := (0, [.ref 58, .int (zi o), .null, .null], [], M)) rfl ?_
  refine am_xn 4 (c1 := (4, [.ref 58, .int (zi o), .int (zi 0), .int (zi 0)], [], M)) rfl ?_
  exact hv
set_option maxRecDepth 100000 in
theorem vc_identitiesAhead_4 (x1 : Int) (x2 : Int) (x3 : Int) (M : am_M) (Q : Option Value → am_M → Prop) (hv : zr x3 ∧ (zr x1 ∧ ((x3 < x1 → (0 ≤ x3 ∧ x3 < 120 ∧ 0 ≤ (0 : Int) ∧ (0 : Int) < 12) ∧ (((pt (iv M 59) x3 0) = 0 → am_x t_Mo_identitiesAhead (4, [.ref 58, .int (zi x1), .int (zi (x2 + 1)), .int (zi (x3 + 1))], [], M) Q) ∧ (¬ (pt (iv M 59) x3 0) = 0 → am_x t_Mo_identitiesAhead (4, [.ref 58, .int (zi x1), .int (zi (x2 + 0)), .int (zi (x3 + 1))], [], M) Q))) ∧ (x1 ≤ x3 → Q (some (.int (zi x2))) M)))) : am_x t_Mo_identitiesAhead (4, [.ref 58, .int (zi x1), .int (zi x2), .int (zi x3)], [], M) Q := by
  obtain ⟨r1, hv⟩ := hv
  obtain ⟨r2, hv⟩ := hv
  refine am_xn 3 (c1 := (if zi x3 < zi x1 then 9 else 32, [.ref 58, .int (zi x1), .int (zi x2), .int (zi x3)], [], M)) rfl (am_xlt r1 r2 (fun h => ?_) (fun h => ?_))
  · replace hv := hv.1 h
    refine am_xn 4 (c1 := (13, [.ref 58, .int (zi x1), .int (zi x2), .int (zi x3)], [.int (zi 0), .int (zi x3), .ref 58, .int (zi x2)], M)) rfl ?_
    obtain ⟨g, hv⟩ := hv
    refine am_xc t_Mo_part (.invokevirtual 85) 85 (av := [.ref 58, .int (zi x3), .int (zi 0)]) (rest := [.int (zi x2)]) (rv := some (.int (zi (pt (iv M 59) x3 0)))) (M' := M) rfl rfl rfl rfl (Nat.le_of_ble_eq_true rfl) (fun _ => rfl) (sp_part M x3 0 g) ?_
    refine am_xn 0 (c1 := (16, [.ref 58, .int (zi x1), .int (zi x2), .int (zi x3)], [.int (zi (pt (iv M 59) x3 0)), .int (zi x2)], M)) rfl ?_
    refine am_xn 1 (c1 := (if zi (pt (iv M 59) x3 0) = zi 0 then 19 else 23, [.ref 58, .int (zi x1), .int (zi x2), .int (zi x3)], [.int (zi x2)], M)) rfl (am_xeq (iv_r _ 59 _) (by decide) (fun h => ?_) (fun h => ?_))
    · replace hv := hv.1 h
      refine am_xiadd 3 x2 1 (pc := 25) (ls := [.ref 58, .int (zi x1), .int (zi x2), .int (zi x3)]) (st := []) rfl ?_
      refine am_xn 2 (c1 := (29, [.ref 58, .int (zi x1), .int (zi (x2 + 1)), .int (zi x3 + zi 1)], [], M)) rfl ?_
      rw [zi_add]
      refine am_xn 1 (c1 := (4, [.ref 58, .int (zi x1), .int (zi (x2 + 1)), .int (zi (x3 + 1))], [], M)) rfl ?_
      exact hv
    · replace hv := hv.2 h
      refine am_xiadd 2 x2 0 (pc := 25) (ls := [.ref 58, .int (zi x1), .int (zi x2), .int (zi x3)]) (st := []) rfl ?_
      refine am_xn 2 (c1 := (29, [.ref 58, .int (zi x1), .int (zi (x2 + 0)), .int (zi x3 + zi 1)], [], M)) rfl ?_
      rw [zi_add]
      refine am_xn 1 (c1 := (4, [.ref 58, .int (zi x1), .int (zi (x2 + 0)), .int (zi (x3 + 1))], [], M)) rfl ?_
      exact hv
  · replace hv := hv.2 h
    refine am_xn 1 (c1 := (33, [.ref 58, .int (zi x1), .int (zi x2), .int (zi x3)], [.int (zi x2)], M)) rfl ?_
    exact am_xr (some (.int (zi x2))) ⟨rfl, rfl, .int, rfl, rfl⟩ hv
theorem sp_identitiesAhead (M : am_M) (o : Int) (g : 0 ≤ o ∧ o ≤ 120) : am_call t_Mo_identitiesAhead [.ref 58, .int (zi o)] M (some (.int (zi (ia (iv M 59) o)))) M := by
  refine am_call_of ⟨Nat.le_of_ble_eq_true rfl, rfl⟩ (vc_identitiesAhead o M _ ?_)
  refine loop_up (fun i (s : Int) => (4, [.ref 58, .int (zi o), .int (zi s), .int (zi i)], [], M)) o (fun i s => s = ia (iv M 59) i) ?_ ?_ 0 0 (by omega) g.1 rfl
  · intro s hs
    exact vc_identitiesAhead_4 _ _ _ M _ ⟨⟨by omega, by omega⟩, ⟨by omega, by omega⟩, fun h => by omega, fun _ => ⟨by rw [hs], rfl⟩⟩
  · intro i s h0 h1 hs k
    exact vc_identitiesAhead_4 _ _ _ M _ ⟨⟨by omega, by omega⟩, ⟨by omega, by omega⟩, fun h => ⟨⟨by omega, by omega, by omega, by omega⟩, fun q => k _ (by rw [hs, ia_s _ h0, if_pos q]), fun q => k _ (by rw [hs, ia_s _ h0, if_neg q])⟩, fun h => by omega⟩
set_option maxRecDepth 100000 in
theorem vc_identities  (M : am_M) (Q : Option Value → am_M → Prop) (hv : (iv M 59 0 ≤ 20) ∧ ((0 ≤ (nops (iv M 59)) ∧ (nops (iv M 59)) ≤ 120) ∧ (Q (some (.int (zi (ia (iv M 59) (nops (iv M 59)))))) M))) : am_x t_Mo_identities (0, am_ent (am_mL t_Mo_identities) [.ref 58], [], M) Q := by
  refine am_xn 0 (c1 := (0, [.ref 58], [], M)) rfl ?_
  refine am_xn 2 (c1 := (2, [.ref 58], [.ref 58, .ref 58], M)) rfl ?_
  obtain ⟨g, hv⟩ := hv
  refine am_xc t_Mo_operations (.invokevirtual 89) 89 (av := [.ref 58]) (rest := [.ref 58]) (rv := some (.int (zi (nops (iv M 59))))) (M' := M) rfl rfl rfl rfl (Nat.le_of_ble_eq_true rfl) (fun _ => rfl) (sp_operations M g) ?_
  refine am_xn 0 (c1 := (5, [.ref 58], [.int (zi (nops (iv M 59))), .ref 58], M)) rfl ?_
  obtain ⟨g, hv⟩ := hv
  refine am_xc t_Mo_identitiesAhead (.invokevirtual 93) 93 (av := [.ref 58, .int (zi (nops (iv M 59)))]) (rest := []) (rv := some (.int (zi (ia (iv M 59) (nops (iv M 59)))))) (M' := M) rfl rfl rfl rfl (Nat.le_of_ble_eq_true rfl) (fun _ => rfl) (sp_identitiesAhead M (nops (iv M 59)) g) ?_
  refine am_xn 0 (c1 := (8, [.ref 58], [.int (zi (ia (iv M 59) (nops (iv M 59))))], M)) rfl ?_
  exact am_xr (some (.int (zi (ia (iv M 59) (nops (iv M 59)))))) ⟨rfl, rfl, .int, rfl, rfl⟩ hv
theorem sp_identities (M : am_M) (g : iv M 59 0 ≤ 20 ∧ 0 ≤ nops (iv M 59) ∧ nops (iv M 59) ≤ 120) : am_call t_Mo_identities [.ref 58] M (some (.int (zi (ia (iv M 59) (nops (iv M 59)))))) M := by
  refine am_call_of ⟨Nat.le_of_ble_eq_true rfl, rfl⟩ (vc_identities M _ ?_)
  exact ⟨g.1, g.2, rfl, rfl⟩
set_option maxRecDepth 100000 in
theorem vc_isIdentity (v : Int) (M : am_M) (Q : Option Value → am_M → Prop) (hv : (iv M 59 0 ≤ 20 ∧ 0 ≤ nops (iv M 59) ∧ nops (iv M 59) ≤ 120) ∧ ((zr v ∧ zr (0 : Int) ∧ zr ((ia (iv M 59) (nops (iv M 59))) - 1)) ∧ ((0 ≤ v ∧ v ≤ ((ia (iv M 59) (nops (iv M 59))) - 1) → Q (some (.int (zi 1))) M) ∧ (¬ (0 ≤ v ∧ v ≤ ((ia (iv M 59) (nops (iv M 59))) - 1)) → Q (some (.int (zi 0))) M)))) : am_x t_Mo_isIdentity (0, am_ent (am_mL t_Mo_isIdentity) [.ref 58, .int (zi v)], [], M) Q := by
  refine am_xn 0 (c1 := (0, [.ref 58, .int (zi v)], [], M)) rfl ?_
  refine am_xn 3 (c1 := (3, [.ref 58, .int (zi v)], [.ref 58, .int (zi 0), .int (zi v)], M)) rfl ?_
  obtain ⟨g, hv⟩ := hv
  refine am_xc t_Mo_identities (.invokevirtual 97) 97 (av := [.ref 58]) (rest := [.int (zi 0), .int (zi v)]) (rv := some (.int (zi (ia (iv M 59) (nops (iv M 59)))))) (M' := M) rfl rfl rfl rfl (Nat.le_of_ble_eq_true rfl) (fun _ => rfl) (sp_identities M g) ?_
  refine am_xn 0 (c1 := (6, [.ref 58, .int (zi v)], [.int (zi (ia (iv M 59) (nops (iv M 59)))), .int (zi 0), .int (zi v)], M)) rfl ?_
  refine am_xisub 2 (ia (iv M 59) (nops (iv M 59))) 1 (pc := 8) (ls := [.ref 58, .int (zi v)]) (st := [.int (zi 0), .int (zi v)]) rfl ?_
  obtain ⟨g, hv⟩ := hv
  by_cases c1 : 0 ≤ v ∧ v ≤ ((ia (iv M 59) (nops (iv M 59))) - 1)
  · replace hv := hv.1 c1
    refine am_xc t_Mo_in (.invokestatic 76) 76 (av := [.int (zi v), .int (zi 0), .int (zi ((ia (iv M 59) (nops (iv M 59))) - 1))]) (rest := []) (rv := some (.int (zi 1))) (M' := M) rfl rfl rfl rfl (Nat.le_of_ble_eq_true rfl) (fun h => nomatch h) (by have q := sp_in M v 0 ((ia (iv M 59) (nops (iv M 59))) - 1) g; rwa [if_pos c1] at q) ?_
    refine am_xn 0 (c1 := (11, [.ref 58, .int (zi v)], [.int (zi 1)], M)) rfl ?_
    exact am_xr (some (.int (zi 1))) ⟨rfl, rfl, .boolean, rfl, rfl⟩ hv
  · replace hv := hv.2 c1
    refine am_xc t_Mo_in (.invokestatic 76) 76 (av := [.int (zi v), .int (zi 0), .int (zi ((ia (iv M 59) (nops (iv M 59))) - 1))]) (rest := []) (rv := some (.int (zi 0))) (M' := M) rfl rfl rfl rfl (Nat.le_of_ble_eq_true rfl) (fun h => nomatch h) (by have q := sp_in M v 0 ((ia (iv M 59) (nops (iv M 59))) - 1) g; rwa [if_neg c1] at q) ?_
    refine am_xn 0 (c1 := (11, [.ref 58, .int (zi v)], [.int (zi 0)], M)) rfl ?_
    exact am_xr (some (.int (zi 0))) ⟨rfl, rfl, .boolean, rfl, rfl⟩ hv
theorem sp_isIdentity (M : am_M) (v : Int) (g : zr v ∧ iv M 59 0 ≤ 20 ∧ 0 ≤ nops (iv M 59) ∧ nops (iv M 59) ≤ 120) : am_call t_Mo_isIdentity [.ref 58, .int (zi v)] M (some (.int (zi (if 0 ≤ v ∧ v < ia (iv M 59) (nops (iv M 59)) then 1 else 0)))) M := by
  have h1 := ia_nn (iv M 59) (nops (iv M 59))
  have h2 := ia_le (iv M 59) (nops (iv M 59)) g.2.2.1
  obtain ⟨⟨_, _⟩, g1⟩ := g
  refine am_call_of ⟨Nat.le_of_ble_eq_true rfl, rfl⟩ (vc_isIdentity v M _ ?_)
  refine ⟨g1, ?_⟩
  (repeat' (first | apply And.intro | intro _)) <;> (first | rfl | omega | (split <;> (first | rfl | omega)))
set_option maxRecDepth 100000 in
theorem vc_offAsRevoked  (M : am_M) (Q : Option Value → am_M → Prop) (hv : am_x t_Mo_offAsRevoked (2, [.ref 58, .int (zi 0)], [], M) Q) : am_x t_Mo_offAsRevoked (0, am_ent (am_mL t_Mo_offAsRevoked) [.ref 58], [], M) Q := by
  refine am_xn 0 (c1 := (0, [.ref 58, .null], [], M)) rfl ?_
  refine am_xn 2 (c1 := (2, [.ref 58, .int (zi 0)], [], M)) rfl ?_
  exact hv
set_option maxRecDepth 100000 in
theorem vc_offAsRevoked_2 (x1 : Int) (M : am_M) (Q : Option Value → am_M → Prop) (hv : zr x1 ∧ ((x1 < 20 → (0 ≤ (21 + x1) ∧ (21 + x1) < 1501) ∧ ((0 ≤ x1 ∧ x1 < 20) ∧ (∀ M3, M3 = zup M 63 x1 (iv M 59 (21 + x1)) → am_x t_Mo_offAsRevoked (2, [.ref 58, .int (zi (x1 + 1))], [], M3) Q))) ∧ (20 ≤ x1 → Q none M))) : am_x t_Mo_offAsRevoked (2, [.ref 58, .int (zi x1)], [], M) Q := by
  obtain ⟨r1, hv⟩ := hv
  refine am_xn 3 (c1 := (if zi x1 < zi 20 then 8 else 29, [.ref 58, .int (zi x1)], [], M)) rfl (am_xlt r1 (by decide) (fun h => ?_) (fun h => ?_))
  · replace hv := hv.1 h
    refine am_xiadd 8 21 x1 (pc := 21) (ls := [.ref 58, .int (zi x1)]) (st := [.ref 59, .int (zi x1), .ref 63]) rfl ?_
    obtain ⟨r2, hv⟩ := hv
    refine am_xald rfl rfl rfl r2 ?_
    refine am_xn 0 (c1 := (22, [.ref 58, .int (zi x1)], [.int (zi (iv M 59 (21 + x1))), .int (zi x1), .ref 63], M)) rfl ?_
    obtain ⟨r4, hv⟩ := hv
    refine am_xast rfl rfl rfl r4 ?_
    refine am_xn 0 (c1 := (23, [.ref 58, .int (zi x1)], [], zup M 63 x1 (iv M 59 (21 + x1)))) rfl ?_
    obtain ⟨M3, eM3⟩ : ∃ m, m = zup M 63 x1 (iv M 59 (21 + x1)) := ⟨_, rfl⟩
    replace hv := hv M3 eM3
    rw [← eM3]
    refine am_xn 1 (c1 := (26, [.ref 58, .int (zi x1 + zi 1)], [], M3)) rfl ?_
    rw [zi_add]
    refine am_xn 1 (c1 := (2, [.ref 58, .int (zi (x1 + 1))], [], M3)) rfl ?_
    exact hv
  · replace hv := hv.2 h
    exact am_xr none ⟨rfl, rfl, rfl⟩ hv
theorem sp_offAsRevoked (M : am_M) : am_call t_Mo_offAsRevoked [.ref 58] M (none) (zcp M 59 63 21 0 20) := by
  refine am_call_of ⟨Nat.le_of_ble_eq_true rfl, rfl⟩ (vc_offAsRevoked M _ ?_)
  refine loop_up (fun i (s : am_M) => (2, [.ref 58, .int (zi i)], [], s)) 20 (fun i s => s = zcp M 59 63 21 0 i) ?_ ?_ 0 M (by omega) (by omega) ?_
  · intro s hs
    exact vc_offAsRevoked_2 _ s _ ⟨by decide, fun h => by omega, fun _ => ⟨rfl, hs⟩⟩
  · intro i s h0 h1 hs k
    refine vc_offAsRevoked_2 _ s _ ⟨⟨by omega, by omega⟩, fun h => ⟨⟨by omega, by omega⟩, ⟨by omega, by omega⟩, fun M3 e => k M3 ?_⟩, fun h => by omega⟩
    rw [e, hs]
    have z := zcp_s M 59 63 21 0 i (by decide) (by omega) (by omega) h0
    rwa [Int.zero_add] at z
  · exact (zcp_0 M 59 63 21 0).symm
set_option maxRecDepth 100000 in
theorem vc_withCode (x : Int) (M : am_M) (Q : Option Value → am_M → Prop) (hv : am_x t_Mo_withCode (4, [.ref 58, .int (zi x), .int (zi (-1)), .int (zi 0)], [], M) Q) : am_x t_Mo_withCode (0, am_ent (am_mL t_Mo_withCode) [.ref 58, .int (zi x)], [], M) Q := by
  refine am_xn 0 (c1 := (0, [.ref 58, .int (zi x), .null, .null], [], M)) rfl ?_
  refine am_xn 4 (c1 := (4, [.ref 58, .int (zi x), .int (zi (-1)), .int (zi 0)], [], M)) rfl ?_
  exact hv
set_option maxRecDepth 100000 in
theorem vc_withCode_4 (x1 : Int) (x2 : Int) (x3 : Int) (M : am_M) (Q : Option Value → am_M → Prop) (hv : zr x3 ∧ ((x3 < 40 → (0 ≤ x3 ∧ x3 < 40) ∧ (((iv M 64 x3) = 1 → (0 ≤ x3 ∧ x3 < 40) ∧ (zr x1 ∧ (((iv M 65 x3) = x1 → am_x t_Mo_withCode (4, [.ref 58, .int (zi x1), .int (zi x3), .int (zi (x3 + 1))], [], M) Q) ∧ (¬ (iv M 65 x3) = x1 → am_x t_Mo_withCode (4, [.ref 58, .int (zi x1), .int (zi x2), .int (zi (x3 + 1))], [], M) Q)))) ∧ (¬ (iv M 64 x3) = 1 → am_x t_Mo_withCode (4, [.ref 58, .int (zi x1), .int (zi x2), .int (zi (x3 + 1))], [], M) Q))) ∧ (40 ≤ x3 → Q (some (.int (zi x2))) M))) : am_x t_Mo_withCode (4, [.ref 58, .int (zi x1), .int (zi x2), .int (zi x3)], [], M) Q := by
  obtain ⟨r1, hv⟩ := hv
  refine am_xn 3 (c1 := (if zi x3 < zi 40 then 10 else 42, [.ref 58, .int (zi x1), .int (zi x2), .int (zi x3)], [], M)) rfl (am_xlt r1 (by decide) (fun h => ?_) (fun h => ?_))
  · replace hv := hv.1 h
    obtain ⟨r2, hv⟩ := hv
    refine am_xn 3 (c1 := (15, [.ref 58, .int (zi x1), .int (zi x2), .int (zi x3)], [.int (zi x3), .ref 64], M)) rfl ?_
    refine am_xald rfl rfl rfl r2 ?_
    refine am_xn 0 (c1 := (16, [.ref 58, .int (zi x1), .int (zi x2), .int (zi x3)], [.int (zi (iv M 64 x3))], M)) rfl ?_
    refine am_xn 2 (c1 := (if zi (iv M 64 x3) = zi 1 then 20 else 34, [.ref 58, .int (zi x1), .int (zi x2), .int (zi x3)], [], M)) rfl (am_xeq (iv_r _ _ _) (by decide) (fun h => ?_) (fun h => ?_))
    · replace hv := hv.1 h
      obtain ⟨r3, hv⟩ := hv
      refine am_xn 3 (c1 := (25, [.ref 58, .int (zi x1), .int (zi x2), .int (zi x3)], [.int (zi x3), .ref 65], M)) rfl ?_
      refine am_xald rfl rfl rfl r3 ?_
      refine am_xn 0 (c1 := (26, [.ref 58, .int (zi x1), .int (zi x2), .int (zi x3)], [.int (zi (iv M 65 x3))], M)) rfl ?_
      obtain ⟨r4, hv⟩ := hv
      refine am_xn 2 (c1 := (if zi (iv M 65 x3) = zi x1 then 30 else 34, [.ref 58, .int (zi x1), .int (zi x2), .int (zi x3)], [], M)) rfl (am_xeq (iv_r _ _ _) r4 (fun h => ?_) (fun h => ?_))
      · replace hv := hv.1 h
        refine am_xn 4 (c1 := (39, [.ref 58, .int (zi x1), .int (zi x3), .int (zi x3 + zi 1)], [], M)) rfl ?_
        rw [zi_add]
        refine am_xn 1 (c1 := (4, [.ref 58, .int (zi x1), .int (zi x3), .int (zi (x3 + 1))], [], M)) rfl ?_
        exact hv
      · replace hv := hv.2 h
        refine am_xn 3 (c1 := (39, [.ref 58, .int (zi x1), .int (zi x2), .int (zi x3 + zi 1)], [], M)) rfl ?_
        rw [zi_add]
        refine am_xn 1 (c1 := (4, [.ref 58, .int (zi x1), .int (zi x2), .int (zi (x3 + 1))], [], M)) rfl ?_
        exact hv
    · replace hv := hv.2 h
      refine am_xn 3 (c1 := (39, [.ref 58, .int (zi x1), .int (zi x2), .int (zi x3 + zi 1)], [], M)) rfl ?_
      rw [zi_add]
      refine am_xn 1 (c1 := (4, [.ref 58, .int (zi x1), .int (zi x2), .int (zi (x3 + 1))], [], M)) rfl ?_
      exact hv
  · replace hv := hv.2 h
    refine am_xn 1 (c1 := (43, [.ref 58, .int (zi x1), .int (zi x2), .int (zi x3)], [.int (zi x2)], M)) rfl ?_
    exact am_xr (some (.int (zi x2))) ⟨rfl, rfl, .int, rfl, rfl⟩ hv
theorem sp_withCode (M : am_M) (x : Int) (g : zr x) : am_call t_Mo_withCode [.ref 58, .int (zi x)] M (some (.int (zi (mwc M x)))) M := by
  refine am_call_of ⟨Nat.le_of_ble_eq_true rfl, rfl⟩ (vc_withCode x M _ ?_)
  refine loop_up (fun i (s : Int) => (4, [.ref 58, .int (zi x), .int (zi s), .int (zi i)], [], M)) 40 (fun i s => s = lstf (fun c => decide (iv M 64 c = 1 ∧ iv M 65 c = x)) i.toNat) ?_ ?_ 0 (-1) (by omega) (by omega) rfl
  · intro s hs
    exact vc_withCode_4 _ _ _ M _ ⟨by decide, fun h => by omega, fun _ => ⟨by rw [hs]; rfl, rfl⟩⟩
  · intro i s h0 h1 hs k
    have e : lstf (fun c => decide (iv M 64 c = 1 ∧ iv M 65 c = x)) (i + 1).toNat = if iv M 64 i = 1 ∧ iv M 65 i = x then i else s := by
      rw [show (i + 1).toNat = i.toNat + 1 by omega, lstf, show ((i.toNat : Nat) : Int) = i by omega, hs]
      by_cases q : iv M 64 i = 1 ∧ iv M 65 i = x
      · rw [if_pos q, decide_eq_true q]; rfl
      · rw [if_neg q, decide_eq_false q]; rfl
    refine vc_withCode_4 _ _ _ M _ ⟨⟨by omega, by omega⟩, fun h => ⟨⟨by omega, by omega⟩, fun q => ⟨⟨by omega, by omega⟩, g, fun q2 => k _ ?_, fun q2 => k _ ?_⟩, fun q => k _ ?_⟩, fun h => by omega⟩
    · rw [e, if_pos ⟨q, q2⟩]
    · rw [e, if_neg (fun z => q2 z.2)]
    · rw [e, if_neg (fun z => q z.1)]
set_option maxRecDepth 100000 in
theorem vc_hasWord (c : Int) (w : Int) (M : am_M) (Q : Option Value → am_M → Prop) (hv : am_x t_Mo_hasWord (5, [.ref 58, .int (zi c), .int (zi w), .int (zi 0), .int (zi 0)], [], M) Q) : am_x t_Mo_hasWord (0, am_ent (am_mL t_Mo_hasWord) [.ref 58, .int (zi c), .int (zi w)], [], M) Q := by
  refine am_xn 0 (c1 := (0, [.ref 58, .int (zi c), .int (zi w), .null, .null], [], M)) rfl ?_
  refine am_xn 4 (c1 := (5, [.ref 58, .int (zi c), .int (zi w), .int (zi 0), .int (zi 0)], [], M)) rfl ?_
  exact hv
set_option maxRecDepth 100000 in
theorem vc_hasWord_5 (x1 : Int) (x2 : Int) (x3 : Int) (x4 : Int) (M : am_M) (Q : Option Value → am_M → Prop) (hv : (0 ≤ x1 ∧ x1 < 40) ∧ (zr x4 ∧ ((x4 < (iv M 66 x1) → zr x3 ∧ ((x3 = 0 → (0 ≤ ((6 * x1) + x4) ∧ ((6 * x1) + x4) < 240) ∧ (zr x2 ∧ (((iv M 67 ((6 * x1) + x4)) = x2 → am_x t_Mo_hasWord (5, [.ref 58, .int (zi x1), .int (zi x2), .int (zi 1), .int (zi (x4 + 1))], [], M) Q) ∧ (¬ (iv M 67 ((6 * x1) + x4)) = x2 → am_x t_Mo_hasWord (5, [.ref 58, .int (zi x1), .int (zi x2), .int (zi 0), .int (zi (x4 + 1))], [], M) Q)))) ∧ (¬ x3 = 0 → am_x t_Mo_hasWord (5, [.ref 58, .int (zi x1), .int (zi x2), .int (zi 1), .int (zi (x4 + 1))], [], M) Q))) ∧ ((iv M 66 x1) ≤ x4 → (x3 = 0 ∨ x3 = 1) ∧ Q (some (.int (zi x3))) M)))) : am_x t_Mo_hasWord (5, [.ref 58, .int (zi x1), .int (zi x2), .int (zi x3), .int (zi x4)], [], M) Q := by
  obtain ⟨r1, hv⟩ := hv
  refine am_xn 4 (c1 := (12, [.ref 58, .int (zi x1), .int (zi x2), .int (zi x3), .int (zi x4)], [.int (zi x1), .ref 66, .int (zi x4)], M)) rfl ?_
  refine am_xald rfl rfl rfl r1 ?_
  refine am_xn 0 (c1 := (13, [.ref 58, .int (zi x1), .int (zi x2), .int (zi x3), .int (zi x4)], [.int (zi (iv M 66 x1)), .int (zi x4)], M)) rfl ?_
  obtain ⟨r2, hv⟩ := hv
  refine am_xn 1 (c1 := (if zi x4 < zi (iv M 66 x1) then 16 else 48, [.ref 58, .int (zi x1), .int (zi x2), .int (zi x3), .int (zi x4)], [], M)) rfl (am_xlt r2 (iv_r _ _ _) (fun h => ?_) (fun h => ?_))
  · replace hv := hv.1 h
    obtain ⟨r3, hv⟩ := hv
    refine am_xn 2 (c1 := (if zi x3 = zi 0 then 20 else 36, [.ref 58, .int (zi x1), .int (zi x2), .int (zi x3), .int (zi x4)], [], M)) rfl (am_xeq r3 (by decide) (fun h => ?_) (fun h => ?_))
    · replace hv := hv.1 h
      refine am_ximul 5 6 x1 (pc := 28) (ls := [.ref 58, .int (zi x1), .int (zi x2), .int (zi x3), .int (zi x4)]) (st := [.ref 67]) rfl ?_
      refine am_xiadd 2 (6 * x1) x4 (pc := 31) (ls := [.ref 58, .int (zi x1), .int (zi x2), .int (zi x3), .int (zi x4)]) (st := [.ref 67]) rfl ?_
      obtain ⟨r4, hv⟩ := hv
      refine am_xald rfl rfl rfl r4 ?_
      refine am_xn 0 (c1 := (32, [.ref 58, .int (zi x1), .int (zi x2), .int (zi x3), .int (zi x4)], [.int (zi (iv M 67 ((6 * x1) + x4)))], M)) rfl ?_
      obtain ⟨r5, hv⟩ := hv
      refine am_xn 2 (c1 := (if zi (iv M 67 ((6 * x1) + x4)) = zi x2 then 36 else 40, [.ref 58, .int (zi x1), .int (zi x2), .int (zi x3), .int (zi x4)], [], M)) rfl (am_xeq (iv_r _ _ _) r5 (fun h => ?_) (fun h => ?_))
      · replace hv := hv.1 h
        refine am_xn 4 (c1 := (45, [.ref 58, .int (zi x1), .int (zi x2), .int (zi 1), .int (zi x4 + zi 1)], [], M)) rfl ?_
        rw [zi_add]
        refine am_xn 1 (c1 := (5, [.ref 58, .int (zi x1), .int (zi x2), .int (zi 1), .int (zi (x4 + 1))], [], M)) rfl ?_
        exact hv
      · replace hv := hv.2 h
        refine am_xn 3 (c1 := (45, [.ref 58, .int (zi x1), .int (zi x2), .int (zi 0), .int (zi x4 + zi 1)], [], M)) rfl ?_
        rw [zi_add]
        refine am_xn 1 (c1 := (5, [.ref 58, .int (zi x1), .int (zi x2), .int (zi 0), .int (zi (x4 + 1))], [], M)) rfl ?_
        exact hv
    · replace hv := hv.2 h
      refine am_xn 4 (c1 := (45, [.ref 58, .int (zi x1), .int (zi x2), .int (zi 1), .int (zi x4 + zi 1)], [], M)) rfl ?_
      rw [zi_add]
      refine am_xn 1 (c1 := (5, [.ref 58, .int (zi x1), .int (zi x2), .int (zi 1), .int (zi (x4 + 1))], [], M)) rfl ?_
      exact hv
  · replace hv := hv.2 h
    refine am_xn 1 (c1 := (49, [.ref 58, .int (zi x1), .int (zi x2), .int (zi x3), .int (zi x4)], [.int (zi x3)], M)) rfl ?_
    exact am_xr (some (.int (zi x3))) ⟨rfl, rfl, .boolean, rfl, zi_nb hv.1⟩ hv.2
theorem sp_hasWord (M : am_M) (c : Int) (w : Int) (g : 0 ≤ c ∧ c < 40 ∧ iv M 66 c ≤ 6 ∧ zr w) : am_call t_Mo_hasWord [.ref 58, .int (zi c), .int (zi w)] M (some (.int (zi (bz (mhw M c w))))) M := by
  obtain ⟨g0, g1, g2, g3⟩ := g
  refine am_call_of ⟨Nat.le_of_ble_eq_true rfl, rfl⟩ (vc_hasWord c w M _ ?_)
  by_cases hn : 0 ≤ iv M 66 c
  · refine loop_up (fun i (s : Int) => (5, [.ref 58, .int (zi c), .int (zi w), .int (zi s), .int (zi i)], [], M)) (iv M 66 c) (fun i s => s = bz (∃ k, 0 ≤ k ∧ k < i ∧ iv M 67 (6 * c + k) = w)) ?_ ?_ 0 0 (by omega) hn ?_
    · intro s hs
      exact vc_hasWord_5 _ _ _ _ M _ ⟨⟨g0, g1⟩, iv_r _ _ _, fun h => by omega, fun _ => ⟨by rw [hs]; exact bz_01 _, by rw [hs]; rfl, rfl⟩⟩
    · intro i s h0 h1 hs k
      have hz := bz_01 (∃ k, 0 ≤ k ∧ k < i ∧ iv M 67 (6 * c + k) = w)
      rw [← hs] at hz
      refine vc_hasWord_5 _ _ _ _ M _ ⟨⟨g0, g1⟩, ⟨by omega, by omega⟩, fun h => ⟨⟨by omega, by omega⟩, fun q => ⟨⟨by omega, by omega⟩, g3, fun q2 => k _ ?_, fun q2 => k _ ?_⟩, fun q => k _ ?_⟩, fun h => by omega⟩
      · exact (bz_t ⟨i, h0, by omega, q2⟩).symm
      · refine (bz_f ?_).symm
        rintro ⟨j, j0, j1, j2⟩
        by_cases e : j = i
        · subst e; exact q2 j2
        · have : s = 1 := by rw [hs]; exact bz_t ⟨j, j0, by omega, j2⟩
          omega
      · refine (bz_t ?_).symm
        by_cases z : ∃ k, 0 ≤ k ∧ k < i ∧ iv M 67 (6 * c + k) = w
        · obtain ⟨j, j0, j1, j2⟩ := z
          exact ⟨j, j0, by omega, j2⟩
        · rw [bz_f z] at hs; exact absurd hs q
    · refine (bz_f ?_).symm
      rintro ⟨j, j0, j1, _⟩
      omega
  · refine vc_hasWord_5 _ _ _ _ M _ ⟨⟨g0, g1⟩, by decide, fun h => by omega, fun _ => ⟨Or.inl rfl, ?_, rfl⟩⟩
    have : bz (mhw M c w) = 0 := bz_f (by rintro ⟨j, j0, j1, _⟩; omega)
    rw [this]
set_option maxRecDepth 100000 in
theorem vc_areReferred (o : Int) (M : am_M) (Q : Option Value → am_M → Prop) (hv : am_x t_Mo_areReferred (4, [.ref 58, .int (zi o), .int (zi 1), .int (zi 0), .null], [], M) Q) : am_x t_Mo_areReferred (0, am_ent (am_mL t_Mo_areReferred) [.ref 58, .int (zi o)], [], M) Q := by
  refine am_xn 0 (c1 := (0, [.ref 58, .int (zi o), .null, .null, .null], [], M)) rfl ?_
  refine am_xn 4 (c1 := (4, [.ref 58, .int (zi o), .int (zi 1), .int (zi 0), .null], [], M)) rfl ?_
  exact hv
set_option maxRecDepth 100000 in
theorem vc_areReferred_4 (x1 : Int) (x2 : Int) (x3 : Int) (M : am_M) (Q : Option Value → am_M → Prop) (hv : (0 ≤ x1 ∧ x1 < 120 ∧ 0 ≤ (5 : Int) ∧ (5 : Int) < 12) ∧ (zr x3 ∧ ((x3 < (pt (iv M 59) x1 5) → (0 ≤ x1 ∧ x1 < 120 ∧ 0 ≤ (6 + x3) ∧ (6 + x3) < 12) ∧ (zr x2 ∧ ((x2 = 0 → am_x t_Mo_areReferred (4, [.ref 58, .int (zi x1), .int (zi 0), .int (zi (x3 + 1)), .null], [], M) Q) ∧ (¬ x2 = 0 → ((pt (iv M 59) x1 (6 + x3)) < 1000 → am_x t_Mo_areReferred (4, [.ref 58, .int (zi x1), .int (zi 1), .int (zi (x3 + 1)), .null], [], M) Q) ∧ (1000 ≤ (pt (iv M 59) x1 (6 + x3)) → (zr ((pt (iv M 59) x1 (6 + x3)) - 1000)) ∧ (((mwc M ((pt (iv M 59) x1 (6 + x3)) - 1000)) = (-1) → am_x t_Mo_areReferred (4, [.ref 58, .int (zi x1), .int (zi 0), .int (zi (x3 + 1)), .null], [], M) Q) ∧ (¬ (mwc M ((pt (iv M 59) x1 (6 + x3)) - 1000)) = (-1) → am_x t_Mo_areReferred (4, [.ref 58, .int (zi x1), .int (zi 1), .int (zi (x3 + 1)), .null], [], M) Q))))))) ∧ ((pt (iv M 59) x1 5) ≤ x3 → (x2 = 0 ∨ x2 = 1) ∧ Q (some (.int (zi x2))) M)))) : am_x t_Mo_areReferred (4, [.ref 58, .int (zi x1), .int (zi x2), .int (zi x3), .null], [], M) Q := by
  refine am_xn 4 (c1 := (8, [.ref 58, .int (zi x1), .int (zi x2), .int (zi x3), .null], [.int (zi 5), .int (zi x1), .ref 58, .int (zi x3)], M)) rfl ?_
  obtain ⟨g, hv⟩ := hv
  refine am_xc t_Mo_part (.invokevirtual 85) 85 (av := [.ref 58, .int (zi x1), .int (zi 5)]) (rest := [.int (zi x3)]) (rv := some (.int (zi (pt (iv M 59) x1 5)))) (M' := M) rfl rfl rfl rfl (Nat.le_of_ble_eq_true rfl) (fun _ => rfl) (sp_part M x1 5 g) ?_
  refine am_xn 0 (c1 := (11, [.ref 58, .int (zi x1), .int (zi x2), .int (zi x3), .null], [.int (zi (pt (iv M 59) x1 5)), .int (zi x3)], M)) rfl ?_
  obtain ⟨r1, hv⟩ := hv
  refine am_xn 1 (c1 := (if zi x3 < zi (pt (iv M 59) x1 5) then 14 else 63, [.ref 58, .int (zi x1), .int (zi x2), .int (zi x3), .null], [], M)) rfl (am_xlt r1 (iv_r _ 59 _) (fun h => ?_) (fun h => ?_))
  · replace hv := hv.1 h
    refine am_xiadd 5 6 x3 (pc := 20) (ls := [.ref 58, .int (zi x1), .int (zi x2), .int (zi x3), .null]) (st := [.int (zi x1), .ref 58]) rfl ?_
    obtain ⟨g, hv⟩ := hv
    refine am_xc t_Mo_part (.invokevirtual 85) 85 (av := [.ref 58, .int (zi x1), .int (zi (6 + x3))]) (rest := []) (rv := some (.int (zi (pt (iv M 59) x1 (6 + x3))))) (M' := M) rfl rfl rfl rfl (Nat.le_of_ble_eq_true rfl) (fun _ => rfl) (sp_part M x1 (6 + x3) g) ?_
    refine am_xn 0 (c1 := (23, [.ref 58, .int (zi x1), .int (zi x2), .int (zi x3), .null], [.int (zi (pt (iv M 59) x1 (6 + x3)))], M)) rfl ?_
    obtain ⟨r2, hv⟩ := hv
    refine am_xn 3 (c1 := (if zi x2 = zi 0 then 55 else 29, [.ref 58, .int (zi x1), .int (zi x2), .int (zi x3), .int (zi (pt (iv M 59) x1 (6 + x3)))], [], M)) rfl (am_xeq r2 (by decide) (fun h => ?_) (fun h => ?_))
    · replace hv := hv.1 h
      refine am_xn 3 (c1 := (60, [.ref 58, .int (zi x1), .int (zi 0), .int (zi x3 + zi 1), .int (zi (pt (iv M 59) x1 (6 + x3)))], [], M)) rfl ?_
      rw [zi_add]
      refine am_xn 1 (c1 := (4, [.ref 58, .int (zi x1), .int (zi 0), .int (zi (x3 + 1)), .int (zi (pt (iv M 59) x1 (6 + x3)))], [], M)) rfl ?_
      refine am_xf 4 ?_
      exact hv
    · replace hv := hv.2 h
      refine am_xn 3 (c1 := (if zi (pt (iv M 59) x1 (6 + x3)) < zi 1000 then 51 else 37, [.ref 58, .int (zi x1), .int (zi x2), .int (zi x3), .int (zi (pt (iv M 59) x1 (6 + x3)))], [], M)) rfl (am_xlt (iv_r _ 59 _) (by decide) (fun h => ?_) (fun h => ?_))
      · replace hv := hv.1 h
        refine am_xn 4 (c1 := (60, [.ref 58, .int (zi x1), .int (zi 1), .int (zi x3 + zi 1), .int (zi (pt (iv M 59) x1 (6 + x3)))], [], M)) rfl ?_
        rw [zi_add]
        refine am_xn 1 (c1 := (4, [.ref 58, .int (zi x1), .int (zi 1), .int (zi (x3 + 1)), .int (zi (pt (iv M 59) x1 (6 + x3)))], [], M)) rfl ?_
        refine am_xf 4 ?_
        exact hv
      · replace hv := hv.2 h
        refine am_xisub 4 (pt (iv M 59) x1 (6 + x3)) 1000 (pc := 44) (ls := [.ref 58, .int (zi x1), .int (zi x2), .int (zi x3), .int (zi (pt (iv M 59) x1 (6 + x3)))]) (st := [.ref 58]) rfl ?_
        obtain ⟨g, hv⟩ := hv
        refine am_xc t_Mo_withCode (.invokevirtual 104) 104 (av := [.ref 58, .int (zi ((pt (iv M 59) x1 (6 + x3)) - 1000))]) (rest := []) (rv := some (.int (zi (mwc M ((pt (iv M 59) x1 (6 + x3)) - 1000))))) (M' := M) rfl rfl rfl rfl (Nat.le_of_ble_eq_true rfl) (fun _ => rfl) (sp_withCode M ((pt (iv M 59) x1 (6 + x3)) - 1000) g) ?_
        refine am_xn 0 (c1 := (47, [.ref 58, .int (zi x1), .int (zi x2), .int (zi x3), .int (zi (pt (iv M 59) x1 (6 + x3)))], [.int (zi (mwc M ((pt (iv M 59) x1 (6 + x3)) - 1000)))], M)) rfl ?_
        refine am_xn 2 (c1 := (if zi (mwc M ((pt (iv M 59) x1 (6 + x3)) - 1000)) = zi (-1) then 55 else 51, [.ref 58, .int (zi x1), .int (zi x2), .int (zi x3), .int (zi (pt (iv M 59) x1 (6 + x3)))], [], M)) rfl (am_xeq (mwc_zr _ _) (by decide) (fun h => ?_) (fun h => ?_))
        · replace hv := hv.1 h
          refine am_xn 3 (c1 := (60, [.ref 58, .int (zi x1), .int (zi 0), .int (zi x3 + zi 1), .int (zi (pt (iv M 59) x1 (6 + x3)))], [], M)) rfl ?_
          rw [zi_add]
          refine am_xn 1 (c1 := (4, [.ref 58, .int (zi x1), .int (zi 0), .int (zi (x3 + 1)), .int (zi (pt (iv M 59) x1 (6 + x3)))], [], M)) rfl ?_
          refine am_xf 4 ?_
          exact hv
        · replace hv := hv.2 h
          refine am_xn 4 (c1 := (60, [.ref 58, .int (zi x1), .int (zi 1), .int (zi x3 + zi 1), .int (zi (pt (iv M 59) x1 (6 + x3)))], [], M)) rfl ?_
          rw [zi_add]
          refine am_xn 1 (c1 := (4, [.ref 58, .int (zi x1), .int (zi 1), .int (zi (x3 + 1)), .int (zi (pt (iv M 59) x1 (6 + x3)))], [], M)) rfl ?_
          refine am_xf 4 ?_
          exact hv
  · replace hv := hv.2 h
    refine am_xn 1 (c1 := (64, [.ref 58, .int (zi x1), .int (zi x2), .int (zi x3), .null], [.int (zi x2)], M)) rfl ?_
    exact am_xr (some (.int (zi x2))) ⟨rfl, rfl, .boolean, rfl, zi_nb hv.1⟩ hv.2
theorem sp_areReferred (M : am_M) (o : Int) (g : 0 ≤ o ∧ o < 120 ∧ pt (iv M 59) o 5 ≤ 6) : am_call t_Mo_areReferred [.ref 58, .int (zi o)] M (some (.int (zi (bz (mrf M o))))) M := by
  obtain ⟨g0, g1, g2⟩ := g
  refine am_call_of ⟨Nat.le_of_ble_eq_true rfl, rfl⟩ (vc_areReferred o M _ ?_)
  obtain ⟨p, hp⟩ : ∃ p : Int → Prop, p = fun k => pt (iv M 59) o (6 + k) < 1000 ∨ ¬ mwc M (pt (iv M 59) o (6 + k) - 1000) = -1 := ⟨_, rfl⟩
  by_cases hn : 0 ≤ pt (iv M 59) o 5
  · refine loop_up (fun i (s : Int) => (4, [.ref 58, .int (zi o), .int (zi s), .int (zi i), .null], [], M)) (pt (iv M 59) o 5) (fun i s => s = bz (∀ k, 0 ≤ k → k < i → p k)) ?_ ?_ 0 1 (by omega) hn ?_
    · intro s hs
      exact vc_areReferred_4 _ _ _ M _ ⟨⟨g0, g1, by omega, by omega⟩, iv_r _ 59 _, fun h => by omega, fun _ => ⟨by rw [hs]; exact bz_01 _, by rw [hs, hp]; rfl, rfl⟩⟩
    · intro i s h0 h1 hs k
      have hz := bz_01 (∀ k, 0 ≤ k → k < i → p k)
      rw [← hs] at hz
      have no : s = 0 → 0 = bz (∀ k, 0 ≤ k → k < i + 1 → p k) := by
        intro q
        refine (bz_f fun z => ?_).symm
        have : s = 1 := by rw [hs]; exact bz_t (fun k k0 k1 => z k k0 (by omega))
        omega
      have bad : ¬ p i → 0 = bz (∀ k, 0 ≤ k → k < i + 1 → p k) := fun q => (bz_f fun z => q (z i h0 (by omega))).symm
      have good : ¬ s = 0 → p i → 1 = bz (∀ k, 0 ≤ k → k < i + 1 → p k) := by
        intro q q2
        refine (bz_t fun k k0 k1 => ?_).symm
        by_cases e : k = i
        · rw [e]; exact q2
        · by_cases z : ∀ k, 0 ≤ k → k < i → p k
          · exact z k k0 (by omega)
          · rw [bz_f z] at hs; exact absurd hs q
      have hx := iv_r M 59 (61 + 12 * o + (6 + i))
      have hx : zr (pt (iv M 59) o (6 + i)) := hx
      exact vc_areReferred_4 _ _ _ M _ ⟨⟨g0, g1, by omega, by omega⟩, ⟨by omega, by omega⟩, fun h => ⟨⟨g0, g1, by omega, by omega⟩, ⟨by omega, by omega⟩, fun q => k _ (no q), fun q => ⟨fun q2 => k _ (good q (by rw [hp]; exact Or.inl q2)), fun q2 => ⟨⟨by omega, by omega⟩, fun q3 => k _ (bad (by rw [hp]; exact fun z => z.elim (fun z => by omega) (fun z => z q3))), fun q3 => k _ (good q (by rw [hp]; exact Or.inr q3))⟩⟩⟩, fun h => by omega⟩
    · exact (bz_t (fun j j0 j1 => by omega)).symm
  · refine vc_areReferred_4 _ _ _ M _ ⟨⟨g0, g1, by omega, by omega⟩, by decide, fun h => by omega, fun _ => ⟨Or.inr rfl, ?_, rfl⟩⟩
    have : bz (mrf M o) = 1 := bz_t (fun j j0 j1 => by omega)
    rw [this]
set_option maxRecDepth 100000 in
theorem vc_reasonOf (o : Int) (c : Int) (M : am_M) (Q : Option Value → am_M → Prop) (hv : (0 ≤ o ∧ o < 120 ∧ 0 ≤ (0 : Int) ∧ (0 : Int) < 12) ∧ ((0 < (pt (iv M 59) o 0) → zr c ∧ ((c = (-1) → Q (some (.int (zi 1))) M) ∧ (¬ c = (-1) → ((pt (iv M 59) o 0) = 3 → (0 ≤ o ∧ o < 120 ∧ 0 ≤ (2 : Int) ∧ (2 : Int) < 12) ∧ ((zr (pt (iv M 59) o 2)) ∧ (((mwc M (pt (iv M 59) o 2)) = (-1) → Q (some (.int (zi 0))) M) ∧ (¬ (mwc M (pt (iv M 59) o 2)) = (-1) → Q (some (.int (zi 2))) M)))) ∧ (¬ (pt (iv M 59) o 0) = 3 → ((pt (iv M 59) o 0) = 4 → (0 ≤ o ∧ o < 120 ∧ 0 ≤ (2 : Int) ∧ (2 : Int) < 12) ∧ ((0 ≤ c ∧ c < 40 ∧ iv M 66 c ≤ 6 ∧ zr (pt (iv M 59) o 2)) ∧ ((mhw M c (pt (iv M 59) o 2) → Q (some (.int (zi 0))) M) ∧ (¬ (mhw M c (pt (iv M 59) o 2)) → Q (some (.int (zi 3))) M)))) ∧ (¬ (pt (iv M 59) o 0) = 4 → ((pt (iv M 59) o 0) < 2 → (0 ≤ o ∧ o < 120 ∧ pt (iv M 59) o 5 ≤ 6) ∧ ((mrf M o → Q (some (.int (zi 0))) M) ∧ (¬ (mrf M o) → Q (some (.int (zi 4))) M))) ∧ (2 ≤ (pt (iv M 59) o 0) → Q (some (.int (zi 0))) M)))))) ∧ ((pt (iv M 59) o 0) ≤ 0 → ((pt (iv M 59) o 0) = 0 → zr c ∧ ((c = (-1) → (0 ≤ o ∧ o < 120 ∧ pt (iv M 59) o 5 ≤ 6) ∧ ((mrf M o → Q (some (.int (zi 0))) M) ∧ (¬ (mrf M o) → Q (some (.int (zi 4))) M))) ∧ (¬ c = (-1) → Q (some (.int (zi 2))) M))) ∧ (¬ (pt (iv M 59) o 0) = 0 → (0 ≤ o ∧ o < 120 ∧ pt (iv M 59) o 5 ≤ 6) ∧ ((mrf M o → Q (some (.int (zi 0))) M) ∧ (¬ (mrf M o) → Q (some (.int (zi 4))) M)))))) : am_x t_Mo_reasonOf (0, am_ent (am_mL t_Mo_reasonOf) [.ref 58, .int (zi o), .int (zi c)], [], M) Q := by
  refine am_xn 0 (c1 := (0, [.ref 58, .int (zi o), .int (zi c), .null], [], M)) rfl ?_
  refine am_xn 3 (c1 := (3, [.ref 58, .int (zi o), .int (zi c), .null], [.int (zi 0), .int (zi o), .ref 58], M)) rfl ?_
  obtain ⟨g, hv⟩ := hv
  refine am_xc t_Mo_part (.invokevirtual 85) 85 (av := [.ref 58, .int (zi o), .int (zi 0)]) (rest := []) (rv := some (.int (zi (pt (iv M 59) o 0)))) (M' := M) rfl rfl rfl rfl (Nat.le_of_ble_eq_true rfl) (fun _ => rfl) (sp_part M o 0 g) ?_
  refine am_xn 0 (c1 := (6, [.ref 58, .int (zi o), .int (zi c), .null], [.int (zi (pt (iv M 59) o 0))], M)) rfl ?_
  refine am_xn 3 (c1 := (if zi 0 < zi (pt (iv M 59) o 0) then 11 else 18, [.ref 58, .int (zi o), .int (zi c), .int (zi (pt (iv M 59) o 0))], [], M)) rfl (am_xlt (by decide) (iv_r _ 59 _) (fun h => ?_) (fun h => ?_))
  · replace hv := hv.1 h
    obtain ⟨r1, hv⟩ := hv
    refine am_xn 3 (c1 := (if zi c = zi (-1) then 16 else 18, [.ref 58, .int (zi o), .int (zi c), .int (zi (pt (iv M 59) o 0))], [], M)) rfl (am_xeq r1 (by decide) (fun h => ?_) (fun h => ?_))
    · replace hv := hv.1 h
      refine am_xn 1 (c1 := (17, [.ref 58, .int (zi o), .int (zi c), .int (zi (pt (iv M 59) o 0))], [.int (zi 1)], M)) rfl ?_
      exact am_xr (some (.int (zi 1))) ⟨rfl, rfl, .int, rfl, rfl⟩ hv
    · replace hv := hv.2 h
      refine am_xn 2 (c1 := (if zi (pt (iv M 59) o 0) = zi 0 then 22 else 27, [.ref 58, .int (zi o), .int (zi c), .int (zi (pt (iv M 59) o 0))], [], M)) rfl (am_xeq (iv_r _ 59 _) (by decide) (fun h => by exfalso; omega) (fun h => ?_))
      refine am_xn 3 (c1 := (if zi (pt (iv M 59) o 0) = zi 3 then 32 else 48, [.ref 58, .int (zi o), .int (zi c), .int (zi (pt (iv M 59) o 0))], [], M)) rfl (am_xeq (iv_r _ 59 _) (by decide) (fun h => ?_) (fun h => ?_))
      · replace hv := hv.1 h
        refine am_xn 4 (c1 := (36, [.ref 58, .int (zi o), .int (zi c), .int (zi (pt (iv M 59) o 0))], [.int (zi 2), .int (zi o), .ref 58, .ref 58], M)) rfl ?_
        obtain ⟨g, hv⟩ := hv
        refine am_xc t_Mo_part (.invokevirtual 85) 85 (av := [.ref 58, .int (zi o), .int (zi 2)]) (rest := [.ref 58]) (rv := some (.int (zi (pt (iv M 59) o 2)))) (M' := M) rfl rfl rfl rfl (Nat.le_of_ble_eq_true rfl) (fun _ => rfl) (sp_part M o 2 g) ?_
        refine am_xn 0 (c1 := (39, [.ref 58, .int (zi o), .int (zi c), .int (zi (pt (iv M 59) o 0))], [.int (zi (pt (iv M 59) o 2)), .ref 58], M)) rfl ?_
        obtain ⟨g, hv⟩ := hv
        refine am_xc t_Mo_withCode (.invokevirtual 104) 104 (av := [.ref 58, .int (zi (pt (iv M 59) o 2))]) (rest := []) (rv := some (.int (zi (mwc M (pt (iv M 59) o 2))))) (M' := M) rfl rfl rfl rfl (Nat.le_of_ble_eq_true rfl) (fun _ => rfl) (sp_withCode M (pt (iv M 59) o 2) g) ?_
        refine am_xn 0 (c1 := (42, [.ref 58, .int (zi o), .int (zi c), .int (zi (pt (iv M 59) o 0))], [.int (zi (mwc M (pt (iv M 59) o 2)))], M)) rfl ?_
        refine am_xn 2 (c1 := (if zi (mwc M (pt (iv M 59) o 2)) = zi (-1) then 48 else 46, [.ref 58, .int (zi o), .int (zi c), .int (zi (pt (iv M 59) o 0))], [], M)) rfl (am_xeq (mwc_zr _ _) (by decide) (fun h => ?_) (fun h => ?_))
        · replace hv := hv.1 h
          refine am_xn 3 (c1 := (if zi (pt (iv M 59) o 0) = zi 4 then 53 else 69, [.ref 58, .int (zi o), .int (zi c), .int (zi (pt (iv M 59) o 0))], [], M)) rfl (am_xeq (iv_r _ 59 _) (by decide) (fun h => by exfalso; omega) (fun h => ?_))
          refine am_xn 3 (c1 := (if zi (pt (iv M 59) o 0) < zi 2 then 74 else 86, [.ref 58, .int (zi o), .int (zi c), .int (zi (pt (iv M 59) o 0))], [], M)) rfl (am_xlt (iv_r _ 59 _) (by decide) (fun h => by exfalso; omega) (fun h => ?_))
          refine am_xn 1 (c1 := (87, [.ref 58, .int (zi o), .int (zi c), .int (zi (pt (iv M 59) o 0))], [.int (zi 0)], M)) rfl ?_
          exact am_xr (some (.int (zi 0))) ⟨rfl, rfl, .int, rfl, rfl⟩ hv
        · replace hv := hv.2 h
          refine am_xn 1 (c1 := (47, [.ref 58, .int (zi o), .int (zi c), .int (zi (pt (iv M 59) o 0))], [.int (zi 2)], M)) rfl ?_
          exact am_xr (some (.int (zi 2))) ⟨rfl, rfl, .int, rfl, rfl⟩ hv
      · replace hv := hv.2 h
        refine am_xn 3 (c1 := (if zi (pt (iv M 59) o 0) = zi 4 then 53 else 69, [.ref 58, .int (zi o), .int (zi c), .int (zi (pt (iv M 59) o 0))], [], M)) rfl (am_xeq (iv_r _ 59 _) (by decide) (fun h => ?_) (fun h => ?_))
        · replace hv := hv.1 h
          refine am_xn 5 (c1 := (58, [.ref 58, .int (zi o), .int (zi c), .int (zi (pt (iv M 59) o 0))], [.int (zi 2), .int (zi o), .ref 58, .int (zi c), .ref 58], M)) rfl ?_
          obtain ⟨g, hv⟩ := hv
          refine am_xc t_Mo_part (.invokevirtual 85) 85 (av := [.ref 58, .int (zi o), .int (zi 2)]) (rest := [.int (zi c), .ref 58]) (rv := some (.int (zi (pt (iv M 59) o 2)))) (M' := M) rfl rfl rfl rfl (Nat.le_of_ble_eq_true rfl) (fun _ => rfl) (sp_part M o 2 g) ?_
          refine am_xn 0 (c1 := (61, [.ref 58, .int (zi o), .int (zi c), .int (zi (pt (iv M 59) o 0))], [.int (zi (pt (iv M 59) o 2)), .int (zi c), .ref 58], M)) rfl ?_
          obtain ⟨g, hv⟩ := hv
          by_cases c2 : mhw M c (pt (iv M 59) o 2)
          · replace hv := hv.1 c2
            refine am_xc t_Mo_hasWord (.invokevirtual 107) 107 (av := [.ref 58, .int (zi c), .int (zi (pt (iv M 59) o 2))]) (rest := []) (rv := some (.int (zi 1))) (M' := M) rfl rfl rfl rfl (Nat.le_of_ble_eq_true rfl) (fun _ => rfl) (by have q := sp_hasWord M c (pt (iv M 59) o 2) g; rwa [bz_t c2] at q) ?_
            refine am_xn 0 (c1 := (64, [.ref 58, .int (zi o), .int (zi c), .int (zi (pt (iv M 59) o 0))], [.int (zi 1)], M)) rfl ?_
            refine am_xn 4 (c1 := (if zi (pt (iv M 59) o 0) < zi 2 then 74 else 86, [.ref 58, .int (zi o), .int (zi c), .int (zi (pt (iv M 59) o 0))], [], M)) rfl (am_xlt (iv_r _ 59 _) (by decide) (fun h => by exfalso; omega) (fun h => ?_))
            refine am_xn 1 (c1 := (87, [.ref 58, .int (zi o), .int (zi c), .int (zi (pt (iv M 59) o 0))], [.int (zi 0)], M)) rfl ?_
            exact am_xr (some (.int (zi 0))) ⟨rfl, rfl, .int, rfl, rfl⟩ hv
          · replace hv := hv.2 c2
            refine am_xc t_Mo_hasWord (.invokevirtual 107) 107 (av := [.ref 58, .int (zi c), .int (zi (pt (iv M 59) o 2))]) (rest := []) (rv := some (.int (zi 0))) (M' := M) rfl rfl rfl rfl (Nat.le_of_ble_eq_true rfl) (fun _ => rfl) (by have q := sp_hasWord M c (pt (iv M 59) o 2) g; rwa [bz_f c2] at q) ?_
            refine am_xn 0 (c1 := (64, [.ref 58, .int (zi o), .int (zi c), .int (zi (pt (iv M 59) o 0))], [.int (zi 0)], M)) rfl ?_
            refine am_xn 2 (c1 := (68, [.ref 58, .int (zi o), .int (zi c), .int (zi (pt (iv M 59) o 0))], [.int (zi 3)], M)) rfl ?_
            exact am_xr (some (.int (zi 3))) ⟨rfl, rfl, .int, rfl, rfl⟩ hv
        · replace hv := hv.2 h
          refine am_xn 3 (c1 := (if zi (pt (iv M 59) o 0) < zi 2 then 74 else 86, [.ref 58, .int (zi o), .int (zi c), .int (zi (pt (iv M 59) o 0))], [], M)) rfl (am_xlt (iv_r _ 59 _) (by decide) (fun h => ?_) (fun h => ?_))
          · replace hv := hv.1 h
            refine am_xn 2 (c1 := (76, [.ref 58, .int (zi o), .int (zi c), .int (zi (pt (iv M 59) o 0))], [.int (zi o), .ref 58], M)) rfl ?_
            obtain ⟨g, hv⟩ := hv
            by_cases c3 : mrf M o
            · replace hv := hv.1 c3
              refine am_xc t_Mo_areReferred (.invokevirtual 111) 111 (av := [.ref 58, .int (zi o)]) (rest := []) (rv := some (.int (zi 1))) (M' := M) rfl rfl rfl rfl (Nat.le_of_ble_eq_true rfl) (fun _ => rfl) (by have q := sp_areReferred M o g; rwa [bz_t c3] at q) ?_
              refine am_xn 0 (c1 := (79, [.ref 58, .int (zi o), .int (zi c), .int (zi (pt (iv M 59) o 0))], [.int (zi 1)], M)) rfl ?_
              refine am_xn 2 (c1 := (87, [.ref 58, .int (zi o), .int (zi c), .int (zi (pt (iv M 59) o 0))], [.int (zi 0)], M)) rfl ?_
              exact am_xr (some (.int (zi 0))) ⟨rfl, rfl, .int, rfl, rfl⟩ hv
            · replace hv := hv.2 c3
              refine am_xc t_Mo_areReferred (.invokevirtual 111) 111 (av := [.ref 58, .int (zi o)]) (rest := []) (rv := some (.int (zi 0))) (M' := M) rfl rfl rfl rfl (Nat.le_of_ble_eq_true rfl) (fun _ => rfl) (by have q := sp_areReferred M o g; rwa [bz_f c3] at q) ?_
              refine am_xn 0 (c1 := (79, [.ref 58, .int (zi o), .int (zi c), .int (zi (pt (iv M 59) o 0))], [.int (zi 0)], M)) rfl ?_
              refine am_xn 3 (c1 := (87, [.ref 58, .int (zi o), .int (zi c), .int (zi (pt (iv M 59) o 0))], [.int (zi 4)], M)) rfl ?_
              exact am_xr (some (.int (zi 4))) ⟨rfl, rfl, .int, rfl, rfl⟩ hv
          · replace hv := hv.2 h
            refine am_xn 1 (c1 := (87, [.ref 58, .int (zi o), .int (zi c), .int (zi (pt (iv M 59) o 0))], [.int (zi 0)], M)) rfl ?_
            exact am_xr (some (.int (zi 0))) ⟨rfl, rfl, .int, rfl, rfl⟩ hv
  · replace hv := hv.2 h
    refine am_xn 2 (c1 := (if zi (pt (iv M 59) o 0) = zi 0 then 22 else 27, [.ref 58, .int (zi o), .int (zi c), .int (zi (pt (iv M 59) o 0))], [], M)) rfl (am_xeq (iv_r _ 59 _) (by decide) (fun h => ?_) (fun h => ?_))
    · replace hv := hv.1 h
      obtain ⟨r4, hv⟩ := hv
      refine am_xn 3 (c1 := (if zi c = zi (-1) then 27 else 46, [.ref 58, .int (zi o), .int (zi c), .int (zi (pt (iv M 59) o 0))], [], M)) rfl (am_xeq r4 (by decide) (fun h => ?_) (fun h => ?_))
      · replace hv := hv.1 h
        refine am_xn 3 (c1 := (if zi (pt (iv M 59) o 0) = zi 3 then 32 else 48, [.ref 58, .int (zi o), .int (zi c), .int (zi (pt (iv M 59) o 0))], [], M)) rfl (am_xeq (iv_r _ 59 _) (by decide) (fun h => by exfalso; omega) (fun h => ?_))
        refine am_xn 3 (c1 := (if zi (pt (iv M 59) o 0) = zi 4 then 53 else 69, [.ref 58, .int (zi o), .int (zi c), .int (zi (pt (iv M 59) o 0))], [], M)) rfl (am_xeq (iv_r _ 59 _) (by decide) (fun h => by exfalso; omega) (fun h => ?_))
        refine am_xn 3 (c1 := (if zi (pt (iv M 59) o 0) < zi 2 then 74 else 86, [.ref 58, .int (zi o), .int (zi c), .int (zi (pt (iv M 59) o 0))], [], M)) rfl (am_xlt (iv_r _ 59 _) (by decide) (fun h => ?_) (fun h => by exfalso; omega))
        refine am_xn 2 (c1 := (76, [.ref 58, .int (zi o), .int (zi c), .int (zi (pt (iv M 59) o 0))], [.int (zi o), .ref 58], M)) rfl ?_
        obtain ⟨g, hv⟩ := hv
        by_cases c5 : mrf M o
        · replace hv := hv.1 c5
          refine am_xc t_Mo_areReferred (.invokevirtual 111) 111 (av := [.ref 58, .int (zi o)]) (rest := []) (rv := some (.int (zi 1))) (M' := M) rfl rfl rfl rfl (Nat.le_of_ble_eq_true rfl) (fun _ => rfl) (by have q := sp_areReferred M o g; rwa [bz_t c5] at q) ?_
          refine am_xn 0 (c1 := (79, [.ref 58, .int (zi o), .int (zi c), .int (zi (pt (iv M 59) o 0))], [.int (zi 1)], M)) rfl ?_
          refine am_xn 2 (c1 := (87, [.ref 58, .int (zi o), .int (zi c), .int (zi (pt (iv M 59) o 0))], [.int (zi 0)], M)) rfl ?_
          exact am_xr (some (.int (zi 0))) ⟨rfl, rfl, .int, rfl, rfl⟩ hv
        · replace hv := hv.2 c5
          refine am_xc t_Mo_areReferred (.invokevirtual 111) 111 (av := [.ref 58, .int (zi o)]) (rest := []) (rv := some (.int (zi 0))) (M' := M) rfl rfl rfl rfl (Nat.le_of_ble_eq_true rfl) (fun _ => rfl) (by have q := sp_areReferred M o g; rwa [bz_f c5] at q) ?_
          refine am_xn 0 (c1 := (79, [.ref 58, .int (zi o), .int (zi c), .int (zi (pt (iv M 59) o 0))], [.int (zi 0)], M)) rfl ?_
          refine am_xn 3 (c1 := (87, [.ref 58, .int (zi o), .int (zi c), .int (zi (pt (iv M 59) o 0))], [.int (zi 4)], M)) rfl ?_
          exact am_xr (some (.int (zi 4))) ⟨rfl, rfl, .int, rfl, rfl⟩ hv
      · replace hv := hv.2 h
        refine am_xn 1 (c1 := (47, [.ref 58, .int (zi o), .int (zi c), .int (zi (pt (iv M 59) o 0))], [.int (zi 2)], M)) rfl ?_
        exact am_xr (some (.int (zi 2))) ⟨rfl, rfl, .int, rfl, rfl⟩ hv
    · replace hv := hv.2 h
      refine am_xn 3 (c1 := (if zi (pt (iv M 59) o 0) = zi 3 then 32 else 48, [.ref 58, .int (zi o), .int (zi c), .int (zi (pt (iv M 59) o 0))], [], M)) rfl (am_xeq (iv_r _ 59 _) (by decide) (fun h => by exfalso; omega) (fun h => ?_))
      refine am_xn 3 (c1 := (if zi (pt (iv M 59) o 0) = zi 4 then 53 else 69, [.ref 58, .int (zi o), .int (zi c), .int (zi (pt (iv M 59) o 0))], [], M)) rfl (am_xeq (iv_r _ 59 _) (by decide) (fun h => by exfalso; omega) (fun h => ?_))
      refine am_xn 3 (c1 := (if zi (pt (iv M 59) o 0) < zi 2 then 74 else 86, [.ref 58, .int (zi o), .int (zi c), .int (zi (pt (iv M 59) o 0))], [], M)) rfl (am_xlt (iv_r _ 59 _) (by decide) (fun h => ?_) (fun h => by exfalso; omega))
      refine am_xn 2 (c1 := (76, [.ref 58, .int (zi o), .int (zi c), .int (zi (pt (iv M 59) o 0))], [.int (zi o), .ref 58], M)) rfl ?_
      obtain ⟨g, hv⟩ := hv
      by_cases c6 : mrf M o
      · replace hv := hv.1 c6
        refine am_xc t_Mo_areReferred (.invokevirtual 111) 111 (av := [.ref 58, .int (zi o)]) (rest := []) (rv := some (.int (zi 1))) (M' := M) rfl rfl rfl rfl (Nat.le_of_ble_eq_true rfl) (fun _ => rfl) (by have q := sp_areReferred M o g; rwa [bz_t c6] at q) ?_
        refine am_xn 0 (c1 := (79, [.ref 58, .int (zi o), .int (zi c), .int (zi (pt (iv M 59) o 0))], [.int (zi 1)], M)) rfl ?_
        refine am_xn 2 (c1 := (87, [.ref 58, .int (zi o), .int (zi c), .int (zi (pt (iv M 59) o 0))], [.int (zi 0)], M)) rfl ?_
        exact am_xr (some (.int (zi 0))) ⟨rfl, rfl, .int, rfl, rfl⟩ hv
      · replace hv := hv.2 c6
        refine am_xc t_Mo_areReferred (.invokevirtual 111) 111 (av := [.ref 58, .int (zi o)]) (rest := []) (rv := some (.int (zi 0))) (M' := M) rfl rfl rfl rfl (Nat.le_of_ble_eq_true rfl) (fun _ => rfl) (by have q := sp_areReferred M o g; rwa [bz_f c6] at q) ?_
        refine am_xn 0 (c1 := (79, [.ref 58, .int (zi o), .int (zi c), .int (zi (pt (iv M 59) o 0))], [.int (zi 0)], M)) rfl ?_
        refine am_xn 3 (c1 := (87, [.ref 58, .int (zi o), .int (zi c), .int (zi (pt (iv M 59) o 0))], [.int (zi 4)], M)) rfl ?_
        exact am_xr (some (.int (zi 4))) ⟨rfl, rfl, .int, rfl, rfl⟩ hv
theorem sp_reasonOf (M : am_M) (o : Int) (c : Int) (g : 0 ≤ o ∧ o < 120 ∧ 0 ≤ pt (iv M 59) o 0 ∧ pt (iv M 59) o 5 ≤ 6 ∧ -1 ≤ c ∧ c < 40 ∧ (0 ≤ c → iv M 66 c ≤ 6)) : am_call t_Mo_reasonOf [.ref 58, .int (zi o), .int (zi c)] M (some (.int (zi (mro M o c)))) M := by
  obtain ⟨g0, g1, g2, g3, g4, g5, g6⟩ := g
  refine am_call_of ⟨Nat.le_of_ble_eq_true rfl, rfl⟩ (vc_reasonOf o c M _ ?_)
  have v : ∀ n, mro M o c = n → (some (Value.int (zi n)) = some (.int (zi (mro M o c))) ∧ M = M) := fun n h => ⟨by rw [h], rfl⟩
  refine ⟨⟨g0, g1, by omega, by omega⟩, fun h => ⟨⟨by omega, by omega⟩, fun q => v 1 (if_pos ⟨h, q⟩), fun q => ⟨fun k3 => ⟨⟨g0, g1, by omega, by omega⟩, iv_r _ 59 _, fun z => v 0 ?_, fun z => v 2 ?_⟩, fun k3 => ⟨fun k4 => ⟨⟨g0, g1, by omega, by omega⟩, ⟨by omega, g5, g6 (by omega), iv_r _ 59 _⟩, fun z => v 0 ?_, fun z => v 3 ?_⟩, fun k4 => ⟨fun k2 => ⟨⟨g0, g1, g3⟩, fun z => v 0 ?_, fun z => v 4 ?_⟩, fun k2 => v 0 ?_⟩⟩⟩⟩, fun h => ⟨fun k0 => ⟨⟨by omega, by omega⟩, fun q => ⟨⟨g0, g1, g3⟩, fun z => v 0 ?_, fun z => v 4 ?_⟩, fun q => v 2 ?_⟩, fun k0 => absurd (by omega) k0⟩⟩
  · unfold mro
    rw [if_neg (by omega), if_neg (by omega), if_neg (fun w => by have := w.1; omega), if_neg (fun w => by have := w.1; omega)]
  · unfold mro
    rw [if_neg (by omega), if_pos (by omega)]
  · unfold mro
    rw [if_neg (by omega), if_neg (by omega), if_neg (fun w => w.2 z), if_neg (fun w => by have := w.1; omega)]
  · unfold mro
    rw [if_neg (by omega), if_neg (by omega), if_pos ⟨k4, z⟩]
  · unfold mro
    rw [if_neg (by omega), if_neg (by omega), if_neg (fun w => by have := w.1; omega), if_neg (fun w => w.2 z)]
  · unfold mro
    rw [if_neg (by omega), if_neg (by omega), if_neg (fun w => by have := w.1; omega), if_pos ⟨k2, z⟩]
  · unfold mro
    rw [if_neg (by omega), if_neg (by omega), if_neg (fun w => by have := w.1; omega), if_neg (fun w => by have := w.1; omega)]
  · unfold mro
    rw [if_neg (by omega), if_neg (by omega), if_neg (fun w => by have := w.1; omega), if_neg (fun w => w.2 z)]
  · unfold mro
    rw [if_neg (by omega), if_neg (by omega), if_neg (fun w => by have := w.1; omega), if_pos ⟨by omega, z⟩]
  · unfold mro
    rw [if_neg (by omega), if_pos (by omega)]
