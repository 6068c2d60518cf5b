/-! no call changes the script -/
theorem am_up_other {M : am_M} {b a k : Nat} {x : Int32} (h : ¬ a = b) : am_up M b k x a = M a := by
  funext j
  unfold am_up
  rw [if_neg h]
theorem am_is_keep {a b : Nat} {i x : Int32} {M M' : am_M} (ha : am_LL[a]? = none) (h : am_is b i x M = some M') : M' a = M a := by
  have hab : ¬ a = b := fun e => by
    subst e
    unfold am_is am_al at h
    rw [ha] at h
    cases h
  unfold am_is at h
  split at h
  · split at h
    · cases h
    · cases h; exact am_up_other hab
  · cases h
theorem am_pf_keep {a b ow idx : Nat} {v : Value} {M M' : am_M} (ha : am_LL[a]? = none) (h : am_pf ow idx b v M = some M') : M' a = M a := by
  have hab : ¬ a = b := fun e => by
    subst e
    unfold am_pf at h
    rw [ha] at h
    split at h <;> cases h
  unfold am_pf at h
  split at h
  · split at h
    · rename_i cj fs hl
      cases hb : Nat.beq _ cj with
      | false => rw [hb] at h; cases h
      | true =>
        rw [hb] at h
        simp only [cond_true] at h
        split at h
        · cases h; exact am_up_other hab
        · cases h; exact (am_up_other hab).trans (am_up_other hab)
        · split at h
          · cases h; exact am_up_other hab
          · cases h
        · cases h
    · cases h
  · cases h
set_option maxHeartbeats 4000000 in
theorem am_ex_keep {a ow n pc : Nat} {i : Instr} {ls st : List Value} {M : am_M} {c : am_C} (ha : am_LL[a]? = none) (h : am_ex ow i n pc ls st M = some c) : c.2.2.2 a = M a := by
  unfold am_ex at h
  split at h
  all_goals first
    | (cases h; rfl)
    | (cases h; done)
    | ((repeat' split at h) <;> first
        | (cases h; rfl)
        | (cases h; done)
        | (obtain ⟨l, _, e⟩ := Option.map_eq_some_iff.mp h; cases e; rfl)
        | (cases h; apply am_pf_keep ha; assumption)
        | (cases h; apply am_is_keep ha; assumption)
        | (revert h; cases (Nat.beq _ _) <;> intro h <;> first
            | (cases h; rfl)
            | (cases h; done)
            | (simp only [cond_true, cond_false] at h; (repeat' split at h) <;> first | (cases h; rfl) | (cases h; done))))
theorem am_go_keep {a : Nat} (ha : am_LL[a]? = none) {R : am_Rn} (hR : ∀ t av M rv M', R t av M rv M' → M' a = M a) (t : am_T) : ∀ (k : Nat) (c c' : am_C), am_go R t k c c' → c'.2.2.2 a = c.2.2.2 a := by
  intro k
  induction k with
  | zero => intro c c' hg; have hg : c = c' := hg; rw [hg]
  | succ k ih =>
    intro c c' hg
    obtain ⟨c1, h1, h2⟩ := hg
    refine (ih c1 c' h2).trans ?_
    rcases h1 with h1 | h1 | h1
    · unfold am_step at h1
      split at h1
      · exact am_ex_keep ha h1
      · cases h1
    · rcases h1 with ⟨k0, a0, a1, n0, n1, sp, dp, n, _, _, _, _, hl, _, _, _, _, _, e⟩ | ⟨k0, x, y, st, _, _, _, _, e⟩ | ⟨ls', _, _, e⟩
      · rw [e]
        have hab : ¬ a = a1 := fun e => by
          subst e
          unfold am_al at hl
          rw [ha] at hl
          cases hl
        funext j
        show am_cpm c.2.2.2 a0 a1 _ _ _ a j = _
        unfold am_cpm
        rw [if_neg hab]
      · rw [e]
      · rw [e]
    · obtain ⟨i, k0, t', av, rest, rv, M', _, _, _, _, _, _, h6, e⟩ := h1
      rw [e]
      exact hR _ _ _ _ _ h6
theorem am_run_keep {a : Nat} (ha : am_LL[a]? = none) : ∀ (d : Nat) (t : am_T) (av : List Value) (M : am_M) (rv : Option Value) (M' : am_M), am_run d t av M rv M' → M' a = M a := by
  intro d
  induction d with
  | zero => intro t av M rv M' h; exact h.elim
  | succ d ih =>
    intro t av M rv M' h
    obtain ⟨_, k, c, h1, _, h3⟩ := h
    rw [← h3]
    exact am_go_keep ha ih t k _ _ h1
theorem am_call_keep {a : Nat} (ha : am_LL[a]? = none) {t : am_T} {av : List Value} {M : am_M} {rv : Option Value} {M' : am_M} (h : am_call t av M rv M') : M' a = M a := by
  obtain ⟨d, h⟩ := h
  exact am_run_keep ha d t av M rv M' h
theorem LL5000 : am_LL[5000]? = none := by decide +kernel
theorem LL5001 : am_LL[5001]? = none := by decide +kernel
theorem wzl (x : Int) : zl (zl x).toInt = zl x := zl_of _
theorem wzl_r (x : Int) : zlr (zl x).toInt := by
  have h1 := Int64.le_toInt (zl x)
  have h2 := Int64.toInt_lt (zl x)
  constructor <;> omega
/-! the law -/
set_option maxRecDepth 100000 in
theorem vc_LAW_18 (x3 : Int) (M : am_M) (Q : Option Value → am_M → Prop) (hv : (zr ((iv M 5001 0) - 5)) ∧ ((zr x3) ∧ ((((iv M 5001 0) - 5) < x3 → Q (some (.int (zi 1))) M) ∧ (x3 ≤ ((iv M 5001 0) - 5) → (0 ≤ x3 ∧ x3 < iv M 5001 0) ∧ (((zand (iv M 5000 x3) 31) = 0 → am_x t_LAW_law (172, [.ref 5000, .ref 0, .ref 58, .int (zi x3)], [], M) Q) ∧ ((zand (iv M 5000 x3) 31) = 1 → am_x t_LAW_law (195, [.ref 5000, .ref 0, .ref 58, .int (zi x3)], [], M) Q) ∧ ((zand (iv M 5000 x3) 31) = 2 → am_x t_LAW_law (208, [.ref 5000, .ref 0, .ref 58, .int (zi x3)], [], M) Q) ∧ ((zand (iv M 5000 x3) 31) = 3 → am_x t_LAW_law (231, [.ref 5000, .ref 0, .ref 58, .int (zi x3)], [], M) Q) ∧ ((zand (iv M 5000 x3) 31) = 4 → am_x t_LAW_law (280, [.ref 5000, .ref 0, .ref 58, .int (zi x3)], [], M) Q) ∧ ((zand (iv M 5000 x3) 31) = 5 → am_x t_LAW_law (313, [.ref 5000, .ref 0, .ref 58, .int (zi x3)], [], M) Q) ∧ ((zand (iv M 5000 x3) 31) = 6 → am_x t_LAW_law (326, [.ref 5000, .ref 0, .ref 58, .int (zi x3)], [], M) Q) ∧ ((zand (iv M 5000 x3) 31) = 7 → am_x t_LAW_law (339, [.ref 5000, .ref 0, .ref 58, .int (zi x3)], [], M) Q) ∧ ((zand (iv M 5000 x3) 31) = 8 → am_x t_LAW_law (372, [.ref 5000, .ref 0, .ref 58, .int (zi x3)], [], M) Q) ∧ ((zand (iv M 5000 x3) 31) = 9 → am_x t_LAW_law (415, [.ref 5000, .ref 0, .ref 58, .int (zi x3)], [], M) Q) ∧ ((zand (iv M 5000 x3) 31) = 10 → am_x t_LAW_law (458, [.ref 5000, .ref 0, .ref 58, .int (zi x3)], [], M) Q) ∧ ((zand (iv M 5000 x3) 31) = 11 → am_x t_LAW_law (491, [.ref 5000, .ref 0, .ref 58, .int (zi x3)], [], M) Q) ∧ ((zand (iv M 5000 x3) 31) = 12 → am_x t_LAW_law (544, [.ref 5000, .ref 0, .ref 58, .int (zi x3)], [], M) Q) ∧ ((zand (iv M 5000 x3) 31) = 13 → am_x t_LAW_law (597, [.ref 5000, .ref 0, .ref 58, .int (zi x3)], [], M) Q) ∧ ((zand (iv M 5000 x3) 31) = 14 → am_x t_LAW_law (640, [.ref 5000, .ref 0, .ref 58, .int (zi x3)], [], M) Q) ∧ ((zand (iv M 5000 x3) 31) = 15 → am_x t_LAW_law (673, [.ref 5000, .ref 0, .ref 58, .int (zi x3)], [], M) Q) ∧ ((zand (iv M 5000 x3) 31) = 16 → am_x t_LAW_law (696, [.ref 5000, .ref 0, .ref 58, .int (zi x3)], [], M) Q) ∧ ((zand (iv M 5000 x3) 31) = 17 → am_x t_LAW_law (739, [.ref 5000, .ref 0, .ref 58, .int (zi x3)], [], M) Q) ∧ ((zand (iv M 5000 x3) 31) = 18 → am_x t_LAW_law (782, [.ref 5000, .ref 0, .ref 58, .int (zi x3)], [], M) Q) ∧ ((zand (iv M 5000 x3) 31) = 19 → am_x t_LAW_law (815, [.ref 5000, .ref 0, .ref 58, .int (zi x3)], [], M) Q) ∧ ((zand (iv M 5000 x3) 31) = 20 → am_x t_LAW_law (848, [.ref 5000, .ref 0, .ref 58, .int (zi x3)], [], M) Q) ∧ ((zand (iv M 5000 x3) 31) = 21 → am_x t_LAW_law (891, [.ref 5000, .ref 0, .ref 58, .int (zi x3)], [], M) Q) ∧ ((zand (iv M 5000 x3) 31) = 22 → am_x t_LAW_law (914, [.ref 5000, .ref 0, .ref 58, .int (zi x3)], [], M) Q) ∧ ((zand (iv M 5000 x3) 31) = 23 → am_x t_LAW_law (947, [.ref 5000, .ref 0, .ref 58, .int (zi x3)], [], M) Q) ∧ ((zand (iv M 5000 x3) 31) = 24 → am_x t_LAW_law (980, [.ref 5000, .ref 0, .ref 58, .int (zi x3)], [], M) Q) ∧ ((zand (iv M 5000 x3) 31) = 25 → am_x t_LAW_law (1013, [.ref 5000, .ref 0, .ref 58, .int (zi x3)], [], M) Q) ∧ ((zand (iv M 5000 x3) 31) = 26 → am_x t_LAW_law (1046, [.ref 5000, .ref 0, .ref 58, .int (zi x3)], [], M) Q) ∧ ((zand (iv M 5000 x3) 31) = 27 → am_x t_LAW_law (1069, [.ref 5000, .ref 0, .ref 58, .int (zi x3)], [], M) Q) ∧ ((zand (iv M 5000 x3) 31) = 28 → am_x t_LAW_law (1092, [.ref 5000, .ref 0, .ref 58, .int (zi x3)], [], M) Q) ∧ ((zand (iv M 5000 x3) 31) = 29 → am_x t_LAW_law (1115, [.ref 5000, .ref 0, .ref 58, .int (zi x3)], [], M) Q) ∧ ((zand (iv M 5000 x3) 31) = 30 → am_x t_LAW_law (1138, [.ref 5000, .ref 0, .ref 58, .int (zi x3)], [], M) Q) ∧ (¬ (zand (iv M 5000 x3) 31) = 0 → ¬ (zand (iv M 5000 x3) 31) = 1 → ¬ (zand (iv M 5000 x3) 31) = 2 → ¬ (zand (iv M 5000 x3) 31) = 3 → ¬ (zand (iv M 5000 x3) 31) = 4 → ¬ (zand (iv M 5000 x3) 31) = 5 → ¬ (zand (iv M 5000 x3) 31) = 6 → ¬ (zand (iv M 5000 x3) 31) = 7 → ¬ (zand (iv M 5000 x3) 31) = 8 → ¬ (zand (iv M 5000 x3) 31) = 9 → ¬ (zand (iv M 5000 x3) 31) = 10 → ¬ (zand (iv M 5000 x3) 31) = 11 → ¬ (zand (iv M 5000 x3) 31) = 12 → ¬ (zand (iv M 5000 x3) 31) = 13 → ¬ (zand (iv M 5000 x3) 31) = 14 → ¬ (zand (iv M 5000 x3) 31) = 15 → ¬ (zand (iv M 5000 x3) 31) = 16 → ¬ (zand (iv M 5000 x3) 31) = 17 → ¬ (zand (iv M 5000 x3) 31) = 18 → ¬ (zand (iv M 5000 x3) 31) = 19 → ¬ (zand (iv M 5000 x3) 31) = 20 → ¬ (zand (iv M 5000 x3) 31) = 21 → ¬ (zand (iv M 5000 x3) 31) = 22 → ¬ (zand (iv M 5000 x3) 31) = 23 → ¬ (zand (iv M 5000 x3) 31) = 24 → ¬ (zand (iv M 5000 x3) 31) = 25 → ¬ (zand (iv M 5000 x3) 31) = 26 → ¬ (zand (iv M 5000 x3) 31) = 27 → ¬ (zand (iv M 5000 x3) 31) = 28 → ¬ (zand (iv M 5000 x3) 31) = 29 → ¬ (zand (iv M 5000 x3) 31) = 30 → am_x t_LAW_law (1152, [.ref 5000, .ref 0, .ref 58, .int (zi x3)], [], M) Q)))))) : am_x t_LAW_law (18, [.ref 5000, .ref 0, .ref 58, .int (zi x3)], [], M) Q := by
  refine am_xrd 3 5001 0 (pc := 21) (ls := [.ref 5000, .ref 0, .ref 58, .int (zi x3)]) (st := [.int (zi x3)]) rfl ?_
  refine am_xisub 2 (iv M 5001 0) 5 (pc := 23) (ls := [.ref 5000, .ref 0, .ref 58, .int (zi x3)]) (st := [.int (zi x3)]) rfl ?_
  obtain ⟨r1, hv⟩ := hv
  obtain ⟨r2, hv⟩ := hv
  refine am_xn 1 (c1 := (if zi ((iv M 5001 0) - 5) < zi x3 then 1158 else 26, [.ref 5000, .ref 0, .ref 58, .int (zi x3)], [], M)) rfl (am_xlt r1 r2 (fun h => ?_) (fun h => ?_))
  · replace hv := hv.1 h
    refine am_xn 1 (c1 := (1159, [.ref 5000, .ref 0, .ref 58, .int (zi x3)], [.int (zi 1)], M)) rfl ?_
    exact am_xr (some (.int (zi 1))) ⟨rfl, rfl, .boolean, rfl, rfl⟩ hv
  · replace hv := hv.2 h
    obtain ⟨r3, hv⟩ := hv
    refine am_xn 2 (c1 := (28, [.ref 5000, .ref 0, .ref 58, .int (zi x3)], [.int (zi x3), .ref 5000], M)) rfl ?_
    refine am_xsld rfl r3 ?_
    refine am_xn 0 (c1 := (29, [.ref 5000, .ref 0, .ref 58, .int (zi x3)], [.int (zi (iv M 5000 x3))], M)) rfl ?_
    refine am_xbit 2 (zi (iv M 5000 x3) &&& zi 31) (pc := 32) (ls := [.ref 5000, .ref 0, .ref 58, .int (zi x3)]) (st := []) rfl ?_
    refine am_xn 0 (c1 := (32, [.ref 5000, .ref 0, .ref 58, .int (zi x3)], [.int (zi (zand (iv M 5000 x3) 31))], M)) rfl ?_
    by_cases h0 : (zand (iv M 5000 x3) 31) = 0
    · replace hv := hv.1 h0
      refine am_xswt rfl 0 (by rw [h0]; rfl) 172 rfl ?_
      exact hv
    replace hv := hv.2
    by_cases h1 : (zand (iv M 5000 x3) 31) = 1
    · replace hv := hv.1 h1
      refine am_xswt rfl 1 (by rw [h1]; rfl) 195 rfl ?_
      exact hv
    replace hv := hv.2
    by_cases h2 : (zand (iv M 5000 x3) 31) = 2
    · replace hv := hv.1 h2
      refine am_xswt rfl 2 (by rw [h2]; rfl) 208 rfl ?_
      exact hv
    replace hv := hv.2
    by_cases h3 : (zand (iv M 5000 x3) 31) = 3
    · replace hv := hv.1 h3
      refine am_xswt rfl 3 (by rw [h3]; rfl) 231 rfl ?_
      exact hv
    replace hv := hv.2
    by_cases h4 : (zand (iv M 5000 x3) 31) = 4
    · replace hv := hv.1 h4
      refine am_xswt rfl 4 (by rw [h4]; rfl) 280 rfl ?_
      exact hv
    replace hv := hv.2
    by_cases h5 : (zand (iv M 5000 x3) 31) = 5
    · replace hv := hv.1 h5
      refine am_xswt rfl 5 (by rw [h5]; rfl) 313 rfl ?_
      exact hv
    replace hv := hv.2
    by_cases h6 : (zand (iv M 5000 x3) 31) = 6
    · replace hv := hv.1 h6
      refine am_xswt rfl 6 (by rw [h6]; rfl) 326 rfl ?_
      exact hv
    replace hv := hv.2
    by_cases h7 : (zand (iv M 5000 x3) 31) = 7
    · replace hv := hv.1 h7
      refine am_xswt rfl 7 (by rw [h7]; rfl) 339 rfl ?_
      exact hv
    replace hv := hv.2
    by_cases h8 : (zand (iv M 5000 x3) 31) = 8
    · replace hv := hv.1 h8
      refine am_xswt rfl 8 (by rw [h8]; rfl) 372 rfl ?_
      exact hv
    replace hv := hv.2
    by_cases h9 : (zand (iv M 5000 x3) 31) = 9
    · replace hv := hv.1 h9
      refine am_xswt rfl 9 (by rw [h9]; rfl) 415 rfl ?_
      exact hv
    replace hv := hv.2
    by_cases h10 : (zand (iv M 5000 x3) 31) = 10
    · replace hv := hv.1 h10
      refine am_xswt rfl 10 (by rw [h10]; rfl) 458 rfl ?_
      exact hv
    replace hv := hv.2
    by_cases h11 : (zand (iv M 5000 x3) 31) = 11
    · replace hv := hv.1 h11
      refine am_xswt rfl 11 (by rw [h11]; rfl) 491 rfl ?_
      exact hv
    replace hv := hv.2
    by_cases h12 : (zand (iv M 5000 x3) 31) = 12
    · replace hv := hv.1 h12
      refine am_xswt rfl 12 (by rw [h12]; rfl) 544 rfl ?_
      exact hv
    replace hv := hv.2
    by_cases h13 : (zand (iv M 5000 x3) 31) = 13
    · replace hv := hv.1 h13
      refine am_xswt rfl 13 (by rw [h13]; rfl) 597 rfl ?_
      exact hv
    replace hv := hv.2
    by_cases h14 : (zand (iv M 5000 x3) 31) = 14
    · replace hv := hv.1 h14
      refine am_xswt rfl 14 (by rw [h14]; rfl) 640 rfl ?_
      exact hv
    replace hv := hv.2
    by_cases h15 : (zand (iv M 5000 x3) 31) = 15
    · replace hv := hv.1 h15
      refine am_xswt rfl 15 (by rw [h15]; rfl) 673 rfl ?_
      exact hv
    replace hv := hv.2
    by_cases h16 : (zand (iv M 5000 x3) 31) = 16
    · replace hv := hv.1 h16
      refine am_xswt rfl 16 (by rw [h16]; rfl) 696 rfl ?_
      exact hv
    replace hv := hv.2
    by_cases h17 : (zand (iv M 5000 x3) 31) = 17
    · replace hv := hv.1 h17
      refine am_xswt rfl 17 (by rw [h17]; rfl) 739 rfl ?_
      exact hv
    replace hv := hv.2
    by_cases h18 : (zand (iv M 5000 x3) 31) = 18
    · replace hv := hv.1 h18
      refine am_xswt rfl 18 (by rw [h18]; rfl) 782 rfl ?_
      exact hv
    replace hv := hv.2
    by_cases h19 : (zand (iv M 5000 x3) 31) = 19
    · replace hv := hv.1 h19
      refine am_xswt rfl 19 (by rw [h19]; rfl) 815 rfl ?_
      exact hv
    replace hv := hv.2
    by_cases h20 : (zand (iv M 5000 x3) 31) = 20
    · replace hv := hv.1 h20
      refine am_xswt rfl 20 (by rw [h20]; rfl) 848 rfl ?_
      exact hv
    replace hv := hv.2
    by_cases h21 : (zand (iv M 5000 x3) 31) = 21
    · replace hv := hv.1 h21
      refine am_xswt rfl 21 (by rw [h21]; rfl) 891 rfl ?_
      exact hv
    replace hv := hv.2
    by_cases h22 : (zand (iv M 5000 x3) 31) = 22
    · replace hv := hv.1 h22
      refine am_xswt rfl 22 (by rw [h22]; rfl) 914 rfl ?_
      exact hv
    replace hv := hv.2
    by_cases h23 : (zand (iv M 5000 x3) 31) = 23
    · replace hv := hv.1 h23
      refine am_xswt rfl 23 (by rw [h23]; rfl) 947 rfl ?_
      exact hv
    replace hv := hv.2
    by_cases h24 : (zand (iv M 5000 x3) 31) = 24
    · replace hv := hv.1 h24
      refine am_xswt rfl 24 (by rw [h24]; rfl) 980 rfl ?_
      exact hv
    replace hv := hv.2
    by_cases h25 : (zand (iv M 5000 x3) 31) = 25
    · replace hv := hv.1 h25
      refine am_xswt rfl 25 (by rw [h25]; rfl) 1013 rfl ?_
      exact hv
    replace hv := hv.2
    by_cases h26 : (zand (iv M 5000 x3) 31) = 26
    · replace hv := hv.1 h26
      refine am_xswt rfl 26 (by rw [h26]; rfl) 1046 rfl ?_
      exact hv
    replace hv := hv.2
    by_cases h27 : (zand (iv M 5000 x3) 31) = 27
    · replace hv := hv.1 h27
      refine am_xswt rfl 27 (by rw [h27]; rfl) 1069 rfl ?_
      exact hv
    replace hv := hv.2
    by_cases h28 : (zand (iv M 5000 x3) 31) = 28
    · replace hv := hv.1 h28
      refine am_xswt rfl 28 (by rw [h28]; rfl) 1092 rfl ?_
      exact hv
    replace hv := hv.2
    by_cases h29 : (zand (iv M 5000 x3) 31) = 29
    · replace hv := hv.1 h29
      refine am_xswt rfl 29 (by rw [h29]; rfl) 1115 rfl ?_
      exact hv
    replace hv := hv.2
    by_cases h30 : (zand (iv M 5000 x3) 31) = 30
    · replace hv := hv.1 h30
      refine am_xswt rfl 30 (by rw [h30]; rfl) 1138 rfl ?_
      exact hv
    replace hv := hv.2
    replace hv := hv h0 h1 h2 h3 h4 h5 h6 h7 h8 h9 h10 h11 h12 h13 h14 h15 h16 h17 h18 h19 h20 h21 h22 h23 h24 h25 h26 h27 h28 h29 h30
    refine am_xswd rfl (zr_toInt _) (by omega) 1152 rfl ?_
    exact hv
set_option maxRecDepth 100000 in
theorem vc_LAW_172 (x3 : Int) (M : am_M) (Q : Option Value → am_M → Prop) (hv : (0 ≤ (x3 + 1) ∧ (x3 + 1) < iv M 5001 0) ∧ (∃ (r3 : Int) (M2 : am_M), am_call t_SB_type [.ref 0, .int (zi (iv M 5000 (x3 + 1)))] M (some (.int (zi r3))) M2 ∧ ((0 ≤ (x3 + 1) ∧ (x3 + 1) < iv M2 5001 0) ∧ (∃ (r6 : Int) (M5 : am_M), am_call t_Mo_type [.ref 58, .int (zi (iv M2 5000 (x3 + 1)))] M2 (some (.int (zi r6))) M5 ∧ ((zr r3) ∧ ((zr r6) ∧ ((r3 = r6 → am_x t_LAW_law (1152, [.ref 5000, .ref 0, .ref 58, .int (zi x3)], [], M5) Q) ∧ (¬ r3 = r6 → Q (some (.int (zi 0))) M5)))))))) : am_x t_LAW_law (172, [.ref 5000, .ref 0, .ref 58, .int (zi x3)], [], M) Q := by
  refine am_xiadd 5 x3 1 (pc := 177) (ls := [.ref 5000, .ref 0, .ref 58, .int (zi x3)]) (st := [.ref 5000, .ref 0]) rfl ?_
  obtain ⟨r1, hv⟩ := hv
  refine am_xsld rfl r1 ?_
  refine am_xn 0 (c1 := (178, [.ref 5000, .ref 0, .ref 58, .int (zi x3)], [.int (zi (iv M 5000 (x3 + 1))), .ref 0], M)) rfl ?_
  obtain ⟨r3, M2, hc, hv⟩ := hv
  refine am_xc t_SB_type (.invokevirtual 13) 13 (av := [.ref 0, .int (zi (iv M 5000 (x3 + 1)))]) (rest := []) (rv := some (.int (zi r3))) (M' := M2) rfl rfl rfl rfl (Nat.le_of_ble_eq_true rfl) (fun _ => rfl) (hc) ?_
  refine am_xn 0 (c1 := (181, [.ref 5000, .ref 0, .ref 58, .int (zi x3)], [.int (zi r3)], M2)) rfl ?_
  refine am_xiadd 5 x3 1 (pc := 186) (ls := [.ref 5000, .ref 0, .ref 58, .int (zi x3)]) (st := [.ref 5000, .ref 58, .int (zi r3)]) rfl ?_
  obtain ⟨r4, hv⟩ := hv
  refine am_xsld rfl r4 ?_
  refine am_xn 0 (c1 := (187, [.ref 5000, .ref 0, .ref 58, .int (zi x3)], [.int (zi (iv M2 5000 (x3 + 1))), .ref 58, .int (zi r3)], M2)) rfl ?_
  obtain ⟨r6, M5, hc, hv⟩ := hv
  refine am_xc t_Mo_type (.invokevirtual 17) 17 (av := [.ref 58, .int (zi (iv M2 5000 (x3 + 1)))]) (rest := [.int (zi r3)]) (rv := some (.int (zi r6))) (M' := M5) rfl rfl rfl rfl (Nat.le_of_ble_eq_true rfl) (fun _ => rfl) (hc) ?_
  refine am_xn 0 (c1 := (190, [.ref 5000, .ref 0, .ref 58, .int (zi x3)], [.int (zi r6), .int (zi r3)], M5)) rfl ?_
  obtain ⟨r7, hv⟩ := hv
  obtain ⟨r8, hv⟩ := hv
  refine am_xn 1 (c1 := (if zi r3 = zi r6 then 1152 else 193, [.ref 5000, .ref 0, .ref 58, .int (zi x3)], [], M5)) rfl (am_xeq r7 r8 (fun h => ?_) (fun h => ?_))
  · replace hv := hv.1 h
    exact hv
  · replace hv := hv.2 h
    refine am_xn 1 (c1 := (194, [.ref 5000, .ref 0, .ref 58, .int (zi x3)], [.int (zi 0)], M5)) rfl ?_
    exact am_xr (some (.int (zi 0))) ⟨rfl, rfl, .boolean, rfl, rfl⟩ hv
set_option maxRecDepth 100000 in
theorem vc_LAW_195 (x3 : Int) (M : am_M) (Q : Option Value → am_M → Prop) (hv : ∃ (r2 : Int) (M1 : am_M), am_call t_SB_clear [.ref 0] M (some (.int (zi r2))) M1 ∧ (∃ (r4 : Int) (M3 : am_M), am_call t_Mo_clear [.ref 58] M1 (some (.int (zi r4))) M3 ∧ ((zr r2) ∧ ((zr r4) ∧ ((r2 = r4 → am_x t_LAW_law (1152, [.ref 5000, .ref 0, .ref 58, .int (zi x3)], [], M3) Q) ∧ (¬ r2 = r4 → Q (some (.int (zi 0))) M3)))))) : am_x t_LAW_law (195, [.ref 5000, .ref 0, .ref 58, .int (zi x3)], [], M) Q := by
  refine am_xn 1 (c1 := (196, [.ref 5000, .ref 0, .ref 58, .int (zi x3)], [.ref 0], M)) rfl ?_
  obtain ⟨r2, M1, hc, hv⟩ := hv
  refine am_xc t_SB_clear (.invokevirtual 18) 18 (av := [.ref 0]) (rest := []) (rv := some (.int (zi r2))) (M' := M1) rfl rfl rfl rfl (Nat.le_of_ble_eq_true rfl) (fun _ => rfl) (hc) ?_
  refine am_xn 0 (c1 := (199, [.ref 5000, .ref 0, .ref 58, .int (zi x3)], [.int (zi r2)], M1)) rfl ?_
  refine am_xn 1 (c1 := (200, [.ref 5000, .ref 0, .ref 58, .int (zi x3)], [.ref 58, .int (zi r2)], M1)) rfl ?_
  obtain ⟨r4, M3, hc, hv⟩ := hv
  refine am_xc t_Mo_clear (.invokevirtual 22) 22 (av := [.ref 58]) (rest := [.int (zi r2)]) (rv := some (.int (zi r4))) (M' := M3) rfl rfl rfl rfl (Nat.le_of_ble_eq_true rfl) (fun _ => rfl) (hc) ?_
  refine am_xn 0 (c1 := (203, [.ref 5000, .ref 0, .ref 58, .int (zi x3)], [.int (zi r4), .int (zi r2)], M3)) rfl ?_
  obtain ⟨r5, hv⟩ := hv
  obtain ⟨r6, hv⟩ := hv
  refine am_xn 1 (c1 := (if zi r2 = zi r4 then 1152 else 206, [.ref 5000, .ref 0, .ref 58, .int (zi x3)], [], M3)) rfl (am_xeq r5 r6 (fun h => ?_) (fun h => ?_))
  · replace hv := hv.1 h
    exact hv
  · replace hv := hv.2 h
    refine am_xn 1 (c1 := (207, [.ref 5000, .ref 0, .ref 58, .int (zi x3)], [.int (zi 0)], M3)) rfl ?_
    exact am_xr (some (.int (zi 0))) ⟨rfl, rfl, .boolean, rfl, rfl⟩ hv
set_option maxRecDepth 100000 in
theorem vc_LAW_208 (x3 : Int) (M : am_M) (Q : Option Value → am_M → Prop) (hv : (0 ≤ (x3 + 1) ∧ (x3 + 1) < iv M 5001 0) ∧ (∃ (r3 : Int) (M2 : am_M), am_call t_SB_enact [.ref 0, .int (zi (iv M 5000 (x3 + 1)))] M (some (.int (zi r3))) M2 ∧ ((0 ≤ (x3 + 1) ∧ (x3 + 1) < iv M2 5001 0) ∧ (∃ (r6 : Int) (M5 : am_M), am_call t_Mo_enact [.ref 58, .int (zi (iv M2 5000 (x3 + 1)))] M2 (some (.int (zi r6))) M5 ∧ ((zr r3) ∧ ((zr r6) ∧ ((r3 = r6 → am_x t_LAW_law (1152, [.ref 5000, .ref 0, .ref 58, .int (zi x3)], [], M5) Q) ∧ (¬ r3 = r6 → Q (some (.int (zi 0))) M5)))))))) : am_x t_LAW_law (208, [.ref 5000, .ref 0, .ref 58, .int (zi x3)], [], M) Q := by
  refine am_xiadd 5 x3 1 (pc := 213) (ls := [.ref 5000, .ref 0, .ref 58, .int (zi x3)]) (st := [.ref 5000, .ref 0]) rfl ?_
  obtain ⟨r1, hv⟩ := hv
  refine am_xsld rfl r1 ?_
  refine am_xn 0 (c1 := (214, [.ref 5000, .ref 0, .ref 58, .int (zi x3)], [.int (zi (iv M 5000 (x3 + 1))), .ref 0], M)) rfl ?_
  obtain ⟨r3, M2, hc, hv⟩ := hv
  refine am_xc t_SB_enact (.invokevirtual 23) 23 (av := [.ref 0, .int (zi (iv M 5000 (x3 + 1)))]) (rest := []) (rv := some (.int (zi r3))) (M' := M2) rfl rfl rfl rfl (Nat.le_of_ble_eq_true rfl) (fun _ => rfl) (hc) ?_
  refine am_xn 0 (c1 := (217, [.ref 5000, .ref 0, .ref 58, .int (zi x3)], [.int (zi r3)], M2)) rfl ?_
  refine am_xiadd 5 x3 1 (pc := 222) (ls := [.ref 5000, .ref 0, .ref 58, .int (zi x3)]) (st := [.ref 5000, .ref 58, .int (zi r3)]) rfl ?_
  obtain ⟨r4, hv⟩ := hv
  refine am_xsld rfl r4 ?_
  refine am_xn 0 (c1 := (223, [.ref 5000, .ref 0, .ref 58, .int (zi x3)], [.int (zi (iv M2 5000 (x3 + 1))), .ref 58, .int (zi r3)], M2)) rfl ?_
  obtain ⟨r6, M5, hc, hv⟩ := hv
  refine am_xc t_Mo_enact (.invokevirtual 26) 26 (av := [.ref 58, .int (zi (iv M2 5000 (x3 + 1)))]) (rest := [.int (zi r3)]) (rv := some (.int (zi r6))) (M' := M5) rfl rfl rfl rfl (Nat.le_of_ble_eq_true rfl) (fun _ => rfl) (hc) ?_
  refine am_xn 0 (c1 := (226, [.ref 5000, .ref 0, .ref 58, .int (zi x3)], [.int (zi r6), .int (zi r3)], M5)) rfl ?_
  obtain ⟨r7, hv⟩ := hv
  obtain ⟨r8, hv⟩ := hv
  refine am_xn 1 (c1 := (if zi r3 = zi r6 then 1152 else 229, [.ref 5000, .ref 0, .ref 58, .int (zi x3)], [], M5)) rfl (am_xeq r7 r8 (fun h => ?_) (fun h => ?_))
  · replace hv := hv.1 h
    exact hv
  · replace hv := hv.2 h
    refine am_xn 1 (c1 := (230, [.ref 5000, .ref 0, .ref 58, .int (zi x3)], [.int (zi 0)], M5)) rfl ?_
    exact am_xr (some (.int (zi 0))) ⟨rfl, rfl, .boolean, rfl, rfl⟩ hv
set_option maxRecDepth 100000 in
theorem vc_LAW_231 (x3 : Int) (M : am_M) (Q : Option Value → am_M → Prop) (hv : (0 ≤ (x3 + 1) ∧ (x3 + 1) < iv M 5001 0) ∧ ((0 ≤ (x3 + 2) ∧ (x3 + 2) < iv M 5001 0) ∧ (((iv M 5000 (x3 + 2)) = 0 → ∃ (r4 : Int) (M3 : am_M), am_call t_SB_revoke [.ref 0, .int (zi (iv M 5000 (x3 + 1))), .int (zi 0)] M (some (.int (zi r4))) M3 ∧ ((0 ≤ (x3 + 1) ∧ (x3 + 1) < iv M3 5001 0) ∧ ((0 ≤ (x3 + 2) ∧ (x3 + 2) < iv M3 5001 0) ∧ (((iv M3 5000 (x3 + 2)) = 0 → ∃ (r8 : Int) (M7 : am_M), am_call t_Mo_revoke [.ref 58, .int (zi (iv M3 5000 (x3 + 1))), .int (zi 0)] M3 (some (.int (zi r8))) M7 ∧ ((zr r4) ∧ ((zr r8) ∧ ((r4 = r8 → am_x t_LAW_law (1152, [.ref 5000, .ref 0, .ref 58, .int (zi x3)], [], M7) Q) ∧ (¬ r4 = r8 → Q (some (.int (zi 0))) M7))))) ∧ (¬ (iv M3 5000 (x3 + 2)) = 0 → ∃ (r12 : Int) (M11 : am_M), am_call t_Mo_revoke [.ref 58, .int (zi (iv M3 5000 (x3 + 1))), .int (zi 1)] M3 (some (.int (zi r12))) M11 ∧ ((zr r4) ∧ ((zr r12) ∧ ((r4 = r12 → am_x t_LAW_law (1152, [.ref 5000, .ref 0, .ref 58, .int (zi x3)], [], M11) Q) ∧ (¬ r4 = r12 → Q (some (.int (zi 0))) M11))))))))) ∧ (¬ (iv M 5000 (x3 + 2)) = 0 → ∃ (r16 : Int) (M15 : am_M), am_call t_SB_revoke [.ref 0, .int (zi (iv M 5000 (x3 + 1))), .int (zi 1)] M (some (.int (zi r16))) M15 ∧ ((0 ≤ (x3 + 1) ∧ (x3 + 1) < iv M15 5001 0) ∧ ((0 ≤ (x3 + 2) ∧ (x3 + 2) < iv M15 5001 0) ∧ (((iv M15 5000 (x3 + 2)) = 0 → ∃ (r20 : Int) (M19 : am_M), am_call t_Mo_revoke [.ref 58, .int (zi (iv M15 5000 (x3 + 1))), .int (zi 0)] M15 (some (.int (zi r20))) M19 ∧ ((zr r16) ∧ ((zr r20) ∧ ((r16 = r20 → am_x t_LAW_law (1152, [.ref 5000, .ref 0, .ref 58, .int (zi x3)], [], M19) Q) ∧ (¬ r16 = r20 → Q (some (.int (zi 0))) M19))))) ∧ (¬ (iv M15 5000 (x3 + 2)) = 0 → ∃ (r24 : Int) (M23 : am_M), am_call t_Mo_revoke [.ref 58, .int (zi (iv M15 5000 (x3 + 1))), .int (zi 1)] M15 (some (.int (zi r24))) M23 ∧ ((zr r16) ∧ ((zr r24) ∧ ((r16 = r24 → am_x t_LAW_law (1152, [.ref 5000, .ref 0, .ref 58, .int (zi x3)], [], M23) Q) ∧ (¬ r16 = r24 → Q (some (.int (zi 0))) M23)))))))))))) : am_x t_LAW_law (231, [.ref 5000, .ref 0, .ref 58, .int (zi x3)], [], M) Q := by
  refine am_xiadd 5 x3 1 (pc := 236) (ls := [.ref 5000, .ref 0, .ref 58, .int (zi x3)]) (st := [.ref 5000, .ref 0]) rfl ?_
  obtain ⟨r1, hv⟩ := hv
  refine am_xsld rfl r1 ?_
  refine am_xn 0 (c1 := (237, [.ref 5000, .ref 0, .ref 58, .int (zi x3)], [.int (zi (iv M 5000 (x3 + 1))), .ref 0], M)) rfl ?_
  refine am_xiadd 4 x3 2 (pc := 241) (ls := [.ref 5000, .ref 0, .ref 58, .int (zi x3)]) (st := [.ref 5000, .int (zi (iv M 5000 (x3 + 1))), .ref 0]) rfl ?_
  obtain ⟨r2, hv⟩ := hv
  refine am_xsld rfl r2 ?_
  refine am_xn 0 (c1 := (242, [.ref 5000, .ref 0, .ref 58, .int (zi x3)], [.int (zi (iv M 5000 (x3 + 2))), .int (zi (iv M 5000 (x3 + 1))), .ref 0], M)) rfl ?_
  refine am_xn 1 (c1 := (if zi (iv M 5000 (x3 + 2)) = zi 0 then 249 else 245, [.ref 5000, .ref 0, .ref 58, .int (zi x3)], [.int (zi (iv M 5000 (x3 + 1))), .ref 0], M)) rfl (am_xeq (iv_r _ _ _) (by decide) (fun h => ?_) (fun h => ?_))
  · replace hv := hv.1 h
    refine am_xn 1 (c1 := (250, [.ref 5000, .ref 0, .ref 58, .int (zi x3)], [.int (zi 0), .int (zi (iv M 5000 (x3 + 1))), .ref 0], M)) rfl ?_
    obtain ⟨r4, M3, hc, hv⟩ := hv
    refine am_xc t_SB_revoke (.invokevirtual 27) 27 (av := [.ref 0, .int (zi (iv M 5000 (x3 + 1))), .int (zi 0)]) (rest := []) (rv := some (.int (zi r4))) (M' := M3) rfl rfl rfl rfl (Nat.le_of_ble_eq_true rfl) (fun _ => rfl) (hc) ?_
    refine am_xn 0 (c1 := (253, [.ref 5000, .ref 0, .ref 58, .int (zi x3)], [.int (zi r4)], M3)) rfl ?_
    refine am_xiadd 5 x3 1 (pc := 258) (ls := [.ref 5000, .ref 0, .ref 58, .int (zi x3)]) (st := [.ref 5000, .ref 58, .int (zi r4)]) rfl ?_
    obtain ⟨r5, hv⟩ := hv
    refine am_xsld rfl r5 ?_
    refine am_xn 0 (c1 := (259, [.ref 5000, .ref 0, .ref 58, .int (zi x3)], [.int (zi (iv M3 5000 (x3 + 1))), .ref 58, .int (zi r4)], M3)) rfl ?_
    refine am_xiadd 4 x3 2 (pc := 263) (ls := [.ref 5000, .ref 0, .ref 58, .int (zi x3)]) (st := [.ref 5000, .int (zi (iv M3 5000 (x3 + 1))), .ref 58, .int (zi r4)]) rfl ?_
    obtain ⟨r6, hv⟩ := hv
    refine am_xsld rfl r6 ?_
    refine am_xn 0 (c1 := (264, [.ref 5000, .ref 0, .ref 58, .int (zi x3)], [.int (zi (iv M3 5000 (x3 + 2))), .int (zi (iv M3 5000 (x3 + 1))), .ref 58, .int (zi r4)], M3)) rfl ?_
    refine am_xn 1 (c1 := (if zi (iv M3 5000 (x3 + 2)) = zi 0 then 271 else 267, [.ref 5000, .ref 0, .ref 58, .int (zi x3)], [.int (zi (iv M3 5000 (x3 + 1))), .ref 58, .int (zi r4)], M3)) rfl (am_xeq (iv_r _ _ _) (by decide) (fun h => ?_) (fun h => ?_))
    · replace hv := hv.1 h
      refine am_xn 1 (c1 := (272, [.ref 5000, .ref 0, .ref 58, .int (zi x3)], [.int (zi 0), .int (zi (iv M3 5000 (x3 + 1))), .ref 58, .int (zi r4)], M3)) rfl ?_
      obtain ⟨r8, M7, hc, hv⟩ := hv
      refine am_xc t_Mo_revoke (.invokevirtual 31) 31 (av := [.ref 58, .int (zi (iv M3 5000 (x3 + 1))), .int (zi 0)]) (rest := [.int (zi r4)]) (rv := some (.int (zi r8))) (M' := M7) rfl rfl rfl rfl (Nat.le_of_ble_eq_true rfl) (fun _ => rfl) (hc) ?_
      refine am_xn 0 (c1 := (275, [.ref 5000, .ref 0, .ref 58, .int (zi x3)], [.int (zi r8), .int (zi r4)], M7)) rfl ?_
      obtain ⟨r9, hv⟩ := hv
      obtain ⟨r10, hv⟩ := hv
      refine am_xn 1 (c1 := (if zi r4 = zi r8 then 1152 else 278, [.ref 5000, .ref 0, .ref 58, .int (zi x3)], [], M7)) rfl (am_xeq r9 r10 (fun h => ?_) (fun h => ?_))
      · replace hv := hv.1 h
        exact hv
      · replace hv := hv.2 h
        refine am_xn 1 (c1 := (279, [.ref 5000, .ref 0, .ref 58, .int (zi x3)], [.int (zi 0)], M7)) rfl ?_
        exact am_xr (some (.int (zi 0))) ⟨rfl, rfl, .boolean, rfl, rfl⟩ hv
    · replace hv := hv.2 h
      refine am_xn 2 (c1 := (272, [.ref 5000, .ref 0, .ref 58, .int (zi x3)], [.int (zi 1), .int (zi (iv M3 5000 (x3 + 1))), .ref 58, .int (zi r4)], M3)) rfl ?_
      obtain ⟨r12, M11, hc, hv⟩ := hv
      refine am_xc t_Mo_revoke (.invokevirtual 31) 31 (av := [.ref 58, .int (zi (iv M3 5000 (x3 + 1))), .int (zi 1)]) (rest := [.int (zi r4)]) (rv := some (.int (zi r12))) (M' := M11) rfl rfl rfl rfl (Nat.le_of_ble_eq_true rfl) (fun _ => rfl) (hc) ?_
      refine am_xn 0 (c1 := (275, [.ref 5000, .ref 0, .ref 58, .int (zi x3)], [.int (zi r12), .int (zi r4)], M11)) rfl ?_
      obtain ⟨r13, hv⟩ := hv
      obtain ⟨r14, hv⟩ := hv
      refine am_xn 1 (c1 := (if zi r4 = zi r12 then 1152 else 278, [.ref 5000, .ref 0, .ref 58, .int (zi x3)], [], M11)) rfl (am_xeq r13 r14 (fun h => ?_) (fun h => ?_))
      · replace hv := hv.1 h
        exact hv
      · replace hv := hv.2 h
        refine am_xn 1 (c1 := (279, [.ref 5000, .ref 0, .ref 58, .int (zi x3)], [.int (zi 0)], M11)) rfl ?_
        exact am_xr (some (.int (zi 0))) ⟨rfl, rfl, .boolean, rfl, rfl⟩ hv
  · replace hv := hv.2 h
    refine am_xn 2 (c1 := (250, [.ref 5000, .ref 0, .ref 58, .int (zi x3)], [.int (zi 1), .int (zi (iv M 5000 (x3 + 1))), .ref 0], M)) rfl ?_
    obtain ⟨r16, M15, hc, hv⟩ := hv
    refine am_xc t_SB_revoke (.invokevirtual 27) 27 (av := [.ref 0, .int (zi (iv M 5000 (x3 + 1))), .int (zi 1)]) (rest := []) (rv := some (.int (zi r16))) (M' := M15) rfl rfl rfl rfl (Nat.le_of_ble_eq_true rfl) (fun _ => rfl) (hc) ?_
    refine am_xn 0 (c1 := (253, [.ref 5000, .ref 0, .ref 58, .int (zi x3)], [.int (zi r16)], M15)) rfl ?_
    refine am_xiadd 5 x3 1 (pc := 258) (ls := [.ref 5000, .ref 0, .ref 58, .int (zi x3)]) (st := [.ref 5000, .ref 58, .int (zi r16)]) rfl ?_
    obtain ⟨r17, hv⟩ := hv
    refine am_xsld rfl r17 ?_
    refine am_xn 0 (c1 := (259, [.ref 5000, .ref 0, .ref 58, .int (zi x3)], [.int (zi (iv M15 5000 (x3 + 1))), .ref 58, .int (zi r16)], M15)) rfl ?_
    refine am_xiadd 4 x3 2 (pc := 263) (ls := [.ref 5000, .ref 0, .ref 58, .int (zi x3)]) (st := [.ref 5000, .int (zi (iv M15 5000 (x3 + 1))), .ref 58, .int (zi r16)]) rfl ?_
    obtain ⟨r18, hv⟩ := hv
    refine am_xsld rfl r18 ?_
    refine am_xn 0 (c1 := (264, [.ref 5000, .ref 0, .ref 58, .int (zi x3)], [.int (zi (iv M15 5000 (x3 + 2))), .int (zi (iv M15 5000 (x3 + 1))), .ref 58, .int (zi r16)], M15)) rfl ?_
    refine am_xn 1 (c1 := (if zi (iv M15 5000 (x3 + 2)) = zi 0 then 271 else 267, [.ref 5000, .ref 0, .ref 58, .int (zi x3)], [.int (zi (iv M15 5000 (x3 + 1))), .ref 58, .int (zi r16)], M15)) rfl (am_xeq (iv_r _ _ _) (by decide) (fun h => ?_) (fun h => ?_))
    · replace hv := hv.1 h
      refine am_xn 1 (c1 := (272, [.ref 5000, .ref 0, .ref 58, .int (zi x3)], [.int (zi 0), .int (zi (iv M15 5000 (x3 + 1))), .ref 58, .int (zi r16)], M15)) rfl ?_
      obtain ⟨r20, M19, hc, hv⟩ := hv
      refine am_xc t_Mo_revoke (.invokevirtual 31) 31 (av := [.ref 58, .int (zi (iv M15 5000 (x3 + 1))), .int (zi 0)]) (rest := [.int (zi r16)]) (rv := some (.int (zi r20))) (M' := M19) rfl rfl rfl rfl (Nat.le_of_ble_eq_true rfl) (fun _ => rfl) (hc) ?_
      refine am_xn 0 (c1 := (275, [.ref 5000, .ref 0, .ref 58, .int (zi x3)], [.int (zi r20), .int (zi r16)], M19)) rfl ?_
      obtain ⟨r21, hv⟩ := hv
      obtain ⟨r22, hv⟩ := hv
      refine am_xn 1 (c1 := (if zi r16 = zi r20 then 1152 else 278, [.ref 5000, .ref 0, .ref 58, .int (zi x3)], [], M19)) rfl (am_xeq r21 r22 (fun h => ?_) (fun h => ?_))
      · replace hv := hv.1 h
        exact hv
      · replace hv := hv.2 h
        refine am_xn 1 (c1 := (279, [.ref 5000, .ref 0, .ref 58, .int (zi x3)], [.int (zi 0)], M19)) rfl ?_
        exact am_xr (some (.int (zi 0))) ⟨rfl, rfl, .boolean, rfl, rfl⟩ hv
    · replace hv := hv.2 h
      refine am_xn 2 (c1 := (272, [.ref 5000, .ref 0, .ref 58, .int (zi x3)], [.int (zi 1), .int (zi (iv M15 5000 (x3 + 1))), .ref 58, .int (zi r16)], M15)) rfl ?_
      obtain ⟨r24, M23, hc, hv⟩ := hv
      refine am_xc t_Mo_revoke (.invokevirtual 31) 31 (av := [.ref 58, .int (zi (iv M15 5000 (x3 + 1))), .int (zi 1)]) (rest := [.int (zi r16)]) (rv := some (.int (zi r24))) (M' := M23) rfl rfl rfl rfl (Nat.le_of_ble_eq_true rfl) (fun _ => rfl) (hc) ?_
      refine am_xn 0 (c1 := (275, [.ref 5000, .ref 0, .ref 58, .int (zi x3)], [.int (zi r24), .int (zi r16)], M23)) rfl ?_
      obtain ⟨r25, hv⟩ := hv
      obtain ⟨r26, hv⟩ := hv
      refine am_xn 1 (c1 := (if zi r16 = zi r24 then 1152 else 278, [.ref 5000, .ref 0, .ref 58, .int (zi x3)], [], M23)) rfl (am_xeq r25 r26 (fun h => ?_) (fun h => ?_))
      · replace hv := hv.1 h
        exact hv
      · replace hv := hv.2 h
        refine am_xn 1 (c1 := (279, [.ref 5000, .ref 0, .ref 58, .int (zi x3)], [.int (zi 0)], M23)) rfl ?_
        exact am_xr (some (.int (zi 0))) ⟨rfl, rfl, .boolean, rfl, rfl⟩ hv
set_option maxRecDepth 100000 in
theorem vc_LAW_280 (x3 : Int) (M : am_M) (Q : Option Value → am_M → Prop) (hv : (0 ≤ (x3 + 1) ∧ (x3 + 1) < iv M 5001 0) ∧ ((0 ≤ (x3 + 2) ∧ (x3 + 2) < iv M 5001 0) ∧ (∃ (r4 : Int) (M3 : am_M), am_call t_SB_commence [.ref 0, .int (zi (iv M 5000 (x3 + 1))), .int (zi (iv M 5000 (x3 + 2)))] M (some (.int (zi r4))) M3 ∧ ((0 ≤ (x3 + 1) ∧ (x3 + 1) < iv M3 5001 0) ∧ ((0 ≤ (x3 + 2) ∧ (x3 + 2) < iv M3 5001 0) ∧ (∃ (r8 : Int) (M7 : am_M), am_call t_Mo_commence [.ref 58, .int (zi (iv M3 5000 (x3 + 1))), .int (zi (iv M3 5000 (x3 + 2)))] M3 (some (.int (zi r8))) M7 ∧ ((zr r4) ∧ ((zr r8) ∧ ((r4 = r8 → am_x t_LAW_law (1152, [.ref 5000, .ref 0, .ref 58, .int (zi x3)], [], M7) Q) ∧ (¬ r4 = r8 → Q (some (.int (zi 0))) M7)))))))))) : am_x t_LAW_law (280, [.ref 5000, .ref 0, .ref 58, .int (zi x3)], [], M) Q := by
  refine am_xiadd 5 x3 1 (pc := 285) (ls := [.ref 5000, .ref 0, .ref 58, .int (zi x3)]) (st := [.ref 5000, .ref 0]) rfl ?_
  obtain ⟨r1, hv⟩ := hv
  refine am_xsld rfl r1 ?_
  refine am_xn 0 (c1 := (286, [.ref 5000, .ref 0, .ref 58, .int (zi x3)], [.int (zi (iv M 5000 (x3 + 1))), .ref 0], M)) rfl ?_
  refine am_xiadd 4 x3 2 (pc := 290) (ls := [.ref 5000, .ref 0, .ref 58, .int (zi x3)]) (st := [.ref 5000, .int (zi (iv M 5000 (x3 + 1))), .ref 0]) rfl ?_
  obtain ⟨r2, hv⟩ := hv
  refine am_xsld rfl r2 ?_
  refine am_xn 0 (c1 := (291, [.ref 5000, .ref 0, .ref 58, .int (zi x3)], [.int (zi (iv M 5000 (x3 + 2))), .int (zi (iv M 5000 (x3 + 1))), .ref 0], M)) rfl ?_
  obtain ⟨r4, M3, hc, hv⟩ := hv
  refine am_xc t_SB_commence (.invokevirtual 32) 32 (av := [.ref 0, .int (zi (iv M 5000 (x3 + 1))), .int (zi (iv M 5000 (x3 + 2)))]) (rest := []) (rv := some (.int (zi r4))) (M' := M3) rfl rfl rfl rfl (Nat.le_of_ble_eq_true rfl) (fun _ => rfl) (hc) ?_
  refine am_xn 0 (c1 := (294, [.ref 5000, .ref 0, .ref 58, .int (zi x3)], [.int (zi r4)], M3)) rfl ?_
  refine am_xiadd 5 x3 1 (pc := 299) (ls := [.ref 5000, .ref 0, .ref 58, .int (zi x3)]) (st := [.ref 5000, .ref 58, .int (zi r4)]) rfl ?_
  obtain ⟨r5, hv⟩ := hv
  refine am_xsld rfl r5 ?_
  refine am_xn 0 (c1 := (300, [.ref 5000, .ref 0, .ref 58, .int (zi x3)], [.int (zi (iv M3 5000 (x3 + 1))), .ref 58, .int (zi r4)], M3)) rfl ?_
  refine am_xiadd 4 x3 2 (pc := 304) (ls := [.ref 5000, .ref 0, .ref 58, .int (zi x3)]) (st := [.ref 5000, .int (zi (iv M3 5000 (x3 + 1))), .ref 58, .int (zi r4)]) rfl ?_
  obtain ⟨r6, hv⟩ := hv
  refine am_xsld rfl r6 ?_
  refine am_xn 0 (c1 := (305, [.ref 5000, .ref 0, .ref 58, .int (zi x3)], [.int (zi (iv M3 5000 (x3 + 2))), .int (zi (iv M3 5000 (x3 + 1))), .ref 58, .int (zi r4)], M3)) rfl ?_
  obtain ⟨r8, M7, hc, hv⟩ := hv
  refine am_xc t_Mo_commence (.invokevirtual 36) 36 (av := [.ref 58, .int (zi (iv M3 5000 (x3 + 1))), .int (zi (iv M3 5000 (x3 + 2)))]) (rest := [.int (zi r4)]) (rv := some (.int (zi r8))) (M' := M7) rfl rfl rfl rfl (Nat.le_of_ble_eq_true rfl) (fun _ => rfl) (hc) ?_
  refine am_xn 0 (c1 := (308, [.ref 5000, .ref 0, .ref 58, .int (zi x3)], [.int (zi r8), .int (zi r4)], M7)) rfl ?_
  obtain ⟨r9, hv⟩ := hv
  obtain ⟨r10, hv⟩ := hv
  refine am_xn 1 (c1 := (if zi r4 = zi r8 then 1152 else 311, [.ref 5000, .ref 0, .ref 58, .int (zi x3)], [], M7)) rfl (am_xeq r9 r10 (fun h => ?_) (fun h => ?_))
  · replace hv := hv.1 h
    exact hv
  · replace hv := hv.2 h
    refine am_xn 1 (c1 := (312, [.ref 5000, .ref 0, .ref 58, .int (zi x3)], [.int (zi 0)], M7)) rfl ?_
    exact am_xr (some (.int (zi 0))) ⟨rfl, rfl, .boolean, rfl, rfl⟩ hv
set_option maxRecDepth 100000 in
theorem vc_LAW_313 (x3 : Int) (M : am_M) (Q : Option Value → am_M → Prop) (hv : ∃ (r2 : Int) (M1 : am_M), am_call t_SB_withdraw [.ref 0] M (some (.int (zi r2))) M1 ∧ (∃ (r4 : Int) (M3 : am_M), am_call t_Mo_withdraw [.ref 58] M1 (some (.int (zi r4))) M3 ∧ ((zr r2) ∧ ((zr r4) ∧ ((r2 = r4 → am_x t_LAW_law (1152, [.ref 5000, .ref 0, .ref 58, .int (zi x3)], [], M3) Q) ∧ (¬ r2 = r4 → Q (some (.int (zi 0))) M3)))))) : am_x t_LAW_law (313, [.ref 5000, .ref 0, .ref 58, .int (zi x3)], [], M) Q := by
  refine am_xn 1 (c1 := (314, [.ref 5000, .ref 0, .ref 58, .int (zi x3)], [.ref 0], M)) rfl ?_
  obtain ⟨r2, M1, hc, hv⟩ := hv
  refine am_xc t_SB_withdraw (.invokevirtual 37) 37 (av := [.ref 0]) (rest := []) (rv := some (.int (zi r2))) (M' := M1) rfl rfl rfl rfl (Nat.le_of_ble_eq_true rfl) (fun _ => rfl) (hc) ?_
  refine am_xn 0 (c1 := (317, [.ref 5000, .ref 0, .ref 58, .int (zi x3)], [.int (zi r2)], M1)) rfl ?_
  refine am_xn 1 (c1 := (318, [.ref 5000, .ref 0, .ref 58, .int (zi x3)], [.ref 58, .int (zi r2)], M1)) rfl ?_
  obtain ⟨r4, M3, hc, hv⟩ := hv
  refine am_xc t_Mo_withdraw (.invokevirtual 40) 40 (av := [.ref 58]) (rest := [.int (zi r2)]) (rv := some (.int (zi r4))) (M' := M3) rfl rfl rfl rfl (Nat.le_of_ble_eq_true rfl) (fun _ => rfl) (hc) ?_
  refine am_xn 0 (c1 := (321, [.ref 5000, .ref 0, .ref 58, .int (zi x3)], [.int (zi r4), .int (zi r2)], M3)) rfl ?_
  obtain ⟨r5, hv⟩ := hv
  obtain ⟨r6, hv⟩ := hv
  refine am_xn 1 (c1 := (if zi r2 = zi r4 then 1152 else 324, [.ref 5000, .ref 0, .ref 58, .int (zi x3)], [], M3)) rfl (am_xeq r5 r6 (fun h => ?_) (fun h => ?_))
  · replace hv := hv.1 h
    exact hv
  · replace hv := hv.2 h
    refine am_xn 1 (c1 := (325, [.ref 5000, .ref 0, .ref 58, .int (zi x3)], [.int (zi 0)], M3)) rfl ?_
    exact am_xr (some (.int (zi 0))) ⟨rfl, rfl, .boolean, rfl, rfl⟩ hv
set_option maxRecDepth 100000 in
theorem vc_LAW_326 (x3 : Int) (M : am_M) (Q : Option Value → am_M → Prop) (hv : ∃ (r2 : Int) (M1 : am_M), am_call t_SB_undo [.ref 0] M (some (.int (zi r2))) M1 ∧ (∃ (r4 : Int) (M3 : am_M), am_call t_Mo_undo [.ref 58] M1 (some (.int (zi r4))) M3 ∧ ((zr r2) ∧ ((zr r4) ∧ ((r2 = r4 → am_x t_LAW_law (1152, [.ref 5000, .ref 0, .ref 58, .int (zi x3)], [], M3) Q) ∧ (¬ r2 = r4 → Q (some (.int (zi 0))) M3)))))) : am_x t_LAW_law (326, [.ref 5000, .ref 0, .ref 58, .int (zi x3)], [], M) Q := by
  refine am_xn 1 (c1 := (327, [.ref 5000, .ref 0, .ref 58, .int (zi x3)], [.ref 0], M)) rfl ?_
  obtain ⟨r2, M1, hc, hv⟩ := hv
  refine am_xc t_SB_undo (.invokevirtual 41) 41 (av := [.ref 0]) (rest := []) (rv := some (.int (zi r2))) (M' := M1) rfl rfl rfl rfl (Nat.le_of_ble_eq_true rfl) (fun _ => rfl) (hc) ?_
  refine am_xn 0 (c1 := (330, [.ref 5000, .ref 0, .ref 58, .int (zi x3)], [.int (zi r2)], M1)) rfl ?_
  refine am_xn 1 (c1 := (331, [.ref 5000, .ref 0, .ref 58, .int (zi x3)], [.ref 58, .int (zi r2)], M1)) rfl ?_
  obtain ⟨r4, M3, hc, hv⟩ := hv
  refine am_xc t_Mo_undo (.invokevirtual 44) 44 (av := [.ref 58]) (rest := [.int (zi r2)]) (rv := some (.int (zi r4))) (M' := M3) rfl rfl rfl rfl (Nat.le_of_ble_eq_true rfl) (fun _ => rfl) (hc) ?_
  refine am_xn 0 (c1 := (334, [.ref 5000, .ref 0, .ref 58, .int (zi x3)], [.int (zi r4), .int (zi r2)], M3)) rfl ?_
  obtain ⟨r5, hv⟩ := hv
  obtain ⟨r6, hv⟩ := hv
  refine am_xn 1 (c1 := (if zi r2 = zi r4 then 1152 else 337, [.ref 5000, .ref 0, .ref 58, .int (zi x3)], [], M3)) rfl (am_xeq r5 r6 (fun h => ?_) (fun h => ?_))
  · replace hv := hv.1 h
    exact hv
  · replace hv := hv.2 h
    refine am_xn 1 (c1 := (338, [.ref 5000, .ref 0, .ref 58, .int (zi x3)], [.int (zi 0)], M3)) rfl ?_
    exact am_xr (some (.int (zi 0))) ⟨rfl, rfl, .boolean, rfl, rfl⟩ hv
set_option maxRecDepth 100000 in
theorem vc_LAW_339 (x3 : Int) (M : am_M) (Q : Option Value → am_M → Prop) (hv : (0 ≤ (x3 + 1) ∧ (x3 + 1) < iv M 5001 0) ∧ ((0 ≤ (x3 + 2) ∧ (x3 + 2) < iv M 5001 0) ∧ (∃ (r4 : Int) (M3 : am_M), am_call t_SB_amendment [.ref 0, .int (zi (iv M 5000 (x3 + 1))), .int (zi (iv M 5000 (x3 + 2)))] M (some (.int (zi r4))) M3 ∧ ((0 ≤ (x3 + 1) ∧ (x3 + 1) < iv M3 5001 0) ∧ ((0 ≤ (x3 + 2) ∧ (x3 + 2) < iv M3 5001 0) ∧ (∃ (r8 : Int) (M7 : am_M), am_call t_Mo_amendment [.ref 58, .int (zi (iv M3 5000 (x3 + 1))), .int (zi (iv M3 5000 (x3 + 2)))] M3 (some (.int (zi r8))) M7 ∧ ((zr r4) ∧ ((zr r8) ∧ ((r4 = r8 → am_x t_LAW_law (1152, [.ref 5000, .ref 0, .ref 58, .int (zi x3)], [], M7) Q) ∧ (¬ r4 = r8 → Q (some (.int (zi 0))) M7)))))))))) : am_x t_LAW_law (339, [.ref 5000, .ref 0, .ref 58, .int (zi x3)], [], M) Q := by
  refine am_xiadd 5 x3 1 (pc := 344) (ls := [.ref 5000, .ref 0, .ref 58, .int (zi x3)]) (st := [.ref 5000, .ref 0]) rfl ?_
  obtain ⟨r1, hv⟩ := hv
  refine am_xsld rfl r1 ?_
  refine am_xn 0 (c1 := (345, [.ref 5000, .ref 0, .ref 58, .int (zi x3)], [.int (zi (iv M 5000 (x3 + 1))), .ref 0], M)) rfl ?_
  refine am_xiadd 4 x3 2 (pc := 349) (ls := [.ref 5000, .ref 0, .ref 58, .int (zi x3)]) (st := [.ref 5000, .int (zi (iv M 5000 (x3 + 1))), .ref 0]) rfl ?_
  obtain ⟨r2, hv⟩ := hv
  refine am_xsld rfl r2 ?_
  refine am_xn 0 (c1 := (350, [.ref 5000, .ref 0, .ref 58, .int (zi x3)], [.int (zi (iv M 5000 (x3 + 2))), .int (zi (iv M 5000 (x3 + 1))), .ref 0], M)) rfl ?_
  obtain ⟨r4, M3, hc, hv⟩ := hv
  refine am_xc t_SB_amendment (.invokevirtual 45) 45 (av := [.ref 0, .int (zi (iv M 5000 (x3 + 1))), .int (zi (iv M 5000 (x3 + 2)))]) (rest := []) (rv := some (.int (zi r4))) (M' := M3) rfl rfl rfl rfl (Nat.le_of_ble_eq_true rfl) (fun _ => rfl) (hc) ?_
  refine am_xn 0 (c1 := (353, [.ref 5000, .ref 0, .ref 58, .int (zi x3)], [.int (zi r4)], M3)) rfl ?_
  refine am_xiadd 5 x3 1 (pc := 358) (ls := [.ref 5000, .ref 0, .ref 58, .int (zi x3)]) (st := [.ref 5000, .ref 58, .int (zi r4)]) rfl ?_
  obtain ⟨r5, hv⟩ := hv
  refine am_xsld rfl r5 ?_
  refine am_xn 0 (c1 := (359, [.ref 5000, .ref 0, .ref 58, .int (zi x3)], [.int (zi (iv M3 5000 (x3 + 1))), .ref 58, .int (zi r4)], M3)) rfl ?_
  refine am_xiadd 4 x3 2 (pc := 363) (ls := [.ref 5000, .ref 0, .ref 58, .int (zi x3)]) (st := [.ref 5000, .int (zi (iv M3 5000 (x3 + 1))), .ref 58, .int (zi r4)]) rfl ?_
  obtain ⟨r6, hv⟩ := hv
  refine am_xsld rfl r6 ?_
  refine am_xn 0 (c1 := (364, [.ref 5000, .ref 0, .ref 58, .int (zi x3)], [.int (zi (iv M3 5000 (x3 + 2))), .int (zi (iv M3 5000 (x3 + 1))), .ref 58, .int (zi r4)], M3)) rfl ?_
  obtain ⟨r8, M7, hc, hv⟩ := hv
  refine am_xc t_Mo_amendment (.invokevirtual 48) 48 (av := [.ref 58, .int (zi (iv M3 5000 (x3 + 1))), .int (zi (iv M3 5000 (x3 + 2)))]) (rest := [.int (zi r4)]) (rv := some (.int (zi r8))) (M' := M7) rfl rfl rfl rfl (Nat.le_of_ble_eq_true rfl) (fun _ => rfl) (hc) ?_
  refine am_xn 0 (c1 := (367, [.ref 5000, .ref 0, .ref 58, .int (zi x3)], [.int (zi r8), .int (zi r4)], M7)) rfl ?_
  obtain ⟨r9, hv⟩ := hv
  obtain ⟨r10, hv⟩ := hv
  refine am_xn 1 (c1 := (if zi r4 = zi r8 then 1152 else 370, [.ref 5000, .ref 0, .ref 58, .int (zi x3)], [], M7)) rfl (am_xeq r9 r10 (fun h => ?_) (fun h => ?_))
  · replace hv := hv.1 h
    exact hv
  · replace hv := hv.2 h
    refine am_xn 1 (c1 := (371, [.ref 5000, .ref 0, .ref 58, .int (zi x3)], [.int (zi 0)], M7)) rfl ?_
    exact am_xr (some (.int (zi 0))) ⟨rfl, rfl, .boolean, rfl, rfl⟩ hv
set_option maxRecDepth 100000 in
theorem vc_LAW_372 (x3 : Int) (M : am_M) (Q : Option Value → am_M → Prop) (hv : (0 ≤ (x3 + 1) ∧ (x3 + 1) < iv M 5001 0) ∧ ((0 ≤ (x3 + 2) ∧ (x3 + 2) < iv M 5001 0) ∧ ((0 ≤ (x3 + 3) ∧ (x3 + 3) < iv M 5001 0) ∧ (∃ (r5 : Int) (M4 : am_M), am_call t_SB_operation [.ref 0, .int (zi (iv M 5000 (x3 + 1))), .int (zi (iv M 5000 (x3 + 2))), .int (zi (iv M 5000 (x3 + 3)))] M (some (.int (zi r5))) M4 ∧ ((0 ≤ (x3 + 1) ∧ (x3 + 1) < iv M4 5001 0) ∧ ((0 ≤ (x3 + 2) ∧ (x3 + 2) < iv M4 5001 0) ∧ ((0 ≤ (x3 + 3) ∧ (x3 + 3) < iv M4 5001 0) ∧ (∃ (r10 : Int) (M9 : am_M), am_call t_Mo_operation [.ref 58, .int (zi (iv M4 5000 (x3 + 1))), .int (zi (iv M4 5000 (x3 + 2))), .int (zi (iv M4 5000 (x3 + 3)))] M4 (some (.int (zi r10))) M9 ∧ ((zr r5) ∧ ((zr r10) ∧ ((r5 = r10 → am_x t_LAW_law (1152, [.ref 5000, .ref 0, .ref 58, .int (zi x3)], [], M9) Q) ∧ (¬ r5 = r10 → Q (some (.int (zi 0))) M9)))))))))))) : am_x t_LAW_law (372, [.ref 5000, .ref 0, .ref 58, .int (zi x3)], [], M) Q := by
  refine am_xiadd 5 x3 1 (pc := 377) (ls := [.ref 5000, .ref 0, .ref 58, .int (zi x3)]) (st := [.ref 5000, .ref 0]) rfl ?_
  obtain ⟨r1, hv⟩ := hv
  refine am_xsld rfl r1 ?_
  refine am_xn 0 (c1 := (378, [.ref 5000, .ref 0, .ref 58, .int (zi x3)], [.int (zi (iv M 5000 (x3 + 1))), .ref 0], M)) rfl ?_
  refine am_xiadd 4 x3 2 (pc := 382) (ls := [.ref 5000, .ref 0, .ref 58, .int (zi x3)]) (st := [.ref 5000, .int (zi (iv M 5000 (x3 + 1))), .ref 0]) rfl ?_
  obtain ⟨r2, hv⟩ := hv
  refine am_xsld rfl r2 ?_
  refine am_xn 0 (c1 := (383, [.ref 5000, .ref 0, .ref 58, .int (zi x3)], [.int (zi (iv M 5000 (x3 + 2))), .int (zi (iv M 5000 (x3 + 1))), .ref 0], M)) rfl ?_
  refine am_xiadd 4 x3 3 (pc := 387) (ls := [.ref 5000, .ref 0, .ref 58, .int (zi x3)]) (st := [.ref 5000, .int (zi (iv M 5000 (x3 + 2))), .int (zi (iv M 5000 (x3 + 1))), .ref 0]) rfl ?_
  obtain ⟨r3, hv⟩ := hv
  refine am_xsld rfl r3 ?_
  refine am_xn 0 (c1 := (388, [.ref 5000, .ref 0, .ref 58, .int (zi x3)], [.int (zi (iv M 5000 (x3 + 3))), .int (zi (iv M 5000 (x3 + 2))), .int (zi (iv M 5000 (x3 + 1))), .ref 0], M)) rfl ?_
  obtain ⟨r5, M4, hc, hv⟩ := hv
  refine am_xc t_SB_operation (.invokevirtual 49) 49 (av := [.ref 0, .int (zi (iv M 5000 (x3 + 1))), .int (zi (iv M 5000 (x3 + 2))), .int (zi (iv M 5000 (x3 + 3)))]) (rest := []) (rv := some (.int (zi r5))) (M' := M4) rfl rfl rfl rfl (Nat.le_of_ble_eq_true rfl) (fun _ => rfl) (hc) ?_
  refine am_xn 0 (c1 := (391, [.ref 5000, .ref 0, .ref 58, .int (zi x3)], [.int (zi r5)], M4)) rfl ?_
  refine am_xiadd 5 x3 1 (pc := 396) (ls := [.ref 5000, .ref 0, .ref 58, .int (zi x3)]) (st := [.ref 5000, .ref 58, .int (zi r5)]) rfl ?_
  obtain ⟨r6, hv⟩ := hv
  refine am_xsld rfl r6 ?_
  refine am_xn 0 (c1 := (397, [.ref 5000, .ref 0, .ref 58, .int (zi x3)], [.int (zi (iv M4 5000 (x3 + 1))), .ref 58, .int (zi r5)], M4)) rfl ?_
  refine am_xiadd 4 x3 2 (pc := 401) (ls := [.ref 5000, .ref 0, .ref 58, .int (zi x3)]) (st := [.ref 5000, .int (zi (iv M4 5000 (x3 + 1))), .ref 58, .int (zi r5)]) rfl ?_
  obtain ⟨r7, hv⟩ := hv
  refine am_xsld rfl r7 ?_
  refine am_xn 0 (c1 := (402, [.ref 5000, .ref 0, .ref 58, .int (zi x3)], [.int (zi (iv M4 5000 (x3 + 2))), .int (zi (iv M4 5000 (x3 + 1))), .ref 58, .int (zi r5)], M4)) rfl ?_
  refine am_xiadd 4 x3 3 (pc := 406) (ls := [.ref 5000, .ref 0, .ref 58, .int (zi x3)]) (st := [.ref 5000, .int (zi (iv M4 5000 (x3 + 2))), .int (zi (iv M4 5000 (x3 + 1))), .ref 58, .int (zi r5)]) rfl ?_
  obtain ⟨r8, hv⟩ := hv
  refine am_xsld rfl r8 ?_
  refine am_xn 0 (c1 := (407, [.ref 5000, .ref 0, .ref 58, .int (zi x3)], [.int (zi (iv M4 5000 (x3 + 3))), .int (zi (iv M4 5000 (x3 + 2))), .int (zi (iv M4 5000 (x3 + 1))), .ref 58, .int (zi r5)], M4)) rfl ?_
  obtain ⟨r10, M9, hc, hv⟩ := hv
  refine am_xc t_Mo_operation (.invokevirtual 53) 53 (av := [.ref 58, .int (zi (iv M4 5000 (x3 + 1))), .int (zi (iv M4 5000 (x3 + 2))), .int (zi (iv M4 5000 (x3 + 3)))]) (rest := [.int (zi r5)]) (rv := some (.int (zi r10))) (M' := M9) rfl rfl rfl rfl (Nat.le_of_ble_eq_true rfl) (fun _ => rfl) (hc) ?_
  refine am_xn 0 (c1 := (410, [.ref 5000, .ref 0, .ref 58, .int (zi x3)], [.int (zi r10), .int (zi r5)], M9)) rfl ?_
  obtain ⟨r11, hv⟩ := hv
  obtain ⟨r12, hv⟩ := hv
  refine am_xn 1 (c1 := (if zi r5 = zi r10 then 1152 else 413, [.ref 5000, .ref 0, .ref 58, .int (zi x3)], [], M9)) rfl (am_xeq r11 r12 (fun h => ?_) (fun h => ?_))
  · replace hv := hv.1 h
    exact hv
  · replace hv := hv.2 h
    refine am_xn 1 (c1 := (414, [.ref 5000, .ref 0, .ref 58, .int (zi x3)], [.int (zi 0)], M9)) rfl ?_
    exact am_xr (some (.int (zi 0))) ⟨rfl, rfl, .boolean, rfl, rfl⟩ hv
set_option maxRecDepth 100000 in
theorem vc_LAW_415 (x3 : Int) (M : am_M) (Q : Option Value → am_M → Prop) (hv : (0 ≤ (x3 + 1) ∧ (x3 + 1) < iv M 5001 0) ∧ ((0 ≤ (x3 + 2) ∧ (x3 + 2) < iv M 5001 0) ∧ ((0 ≤ (x3 + 3) ∧ (x3 + 3) < iv M 5001 0) ∧ (∃ (r5 : Int) (M4 : am_M), am_call t_SB_word [.ref 0, .int (zi (iv M 5000 (x3 + 1))), .int (zi (iv M 5000 (x3 + 2))), .int (zi (iv M 5000 (x3 + 3)))] M (some (.int (zi r5))) M4 ∧ ((0 ≤ (x3 + 1) ∧ (x3 + 1) < iv M4 5001 0) ∧ ((0 ≤ (x3 + 2) ∧ (x3 + 2) < iv M4 5001 0) ∧ ((0 ≤ (x3 + 3) ∧ (x3 + 3) < iv M4 5001 0) ∧ (∃ (r10 : Int) (M9 : am_M), am_call t_Mo_word [.ref 58, .int (zi (iv M4 5000 (x3 + 1))), .int (zi (iv M4 5000 (x3 + 2))), .int (zi (iv M4 5000 (x3 + 3)))] M4 (some (.int (zi r10))) M9 ∧ ((zr r5) ∧ ((zr r10) ∧ ((r5 = r10 → am_x t_LAW_law (1152, [.ref 5000, .ref 0, .ref 58, .int (zi x3)], [], M9) Q) ∧ (¬ r5 = r10 → Q (some (.int (zi 0))) M9)))))))))))) : am_x t_LAW_law (415, [.ref 5000, .ref 0, .ref 58, .int (zi x3)], [], M) Q := by
  refine am_xiadd 5 x3 1 (pc := 420) (ls := [.ref 5000, .ref 0, .ref 58, .int (zi x3)]) (st := [.ref 5000, .ref 0]) rfl ?_
  obtain ⟨r1, hv⟩ := hv
  refine am_xsld rfl r1 ?_
  refine am_xn 0 (c1 := (421, [.ref 5000, .ref 0, .ref 58, .int (zi x3)], [.int (zi (iv M 5000 (x3 + 1))), .ref 0], M)) rfl ?_
  refine am_xiadd 4 x3 2 (pc := 425) (ls := [.ref 5000, .ref 0, .ref 58, .int (zi x3)]) (st := [.ref 5000, .int (zi (iv M 5000 (x3 + 1))), .ref 0]) rfl ?_
  obtain ⟨r2, hv⟩ := hv
  refine am_xsld rfl r2 ?_
  refine am_xn 0 (c1 := (426, [.ref 5000, .ref 0, .ref 58, .int (zi x3)], [.int (zi (iv M 5000 (x3 + 2))), .int (zi (iv M 5000 (x3 + 1))), .ref 0], M)) rfl ?_
  refine am_xiadd 4 x3 3 (pc := 430) (ls := [.ref 5000, .ref 0, .ref 58, .int (zi x3)]) (st := [.ref 5000, .int (zi (iv M 5000 (x3 + 2))), .int (zi (iv M 5000 (x3 + 1))), .ref 0]) rfl ?_
  obtain ⟨r3, hv⟩ := hv
  refine am_xsld rfl r3 ?_
  refine am_xn 0 (c1 := (431, [.ref 5000, .ref 0, .ref 58, .int (zi x3)], [.int (zi (iv M 5000 (x3 + 3))), .int (zi (iv M 5000 (x3 + 2))), .int (zi (iv M 5000 (x3 + 1))), .ref 0], M)) rfl ?_
  obtain ⟨r5, M4, hc, hv⟩ := hv
  refine am_xc t_SB_word (.invokevirtual 54) 54 (av := [.ref 0, .int (zi (iv M 5000 (x3 + 1))), .int (zi (iv M 5000 (x3 + 2))), .int (zi (iv M 5000 (x3 + 3)))]) (rest := []) (rv := some (.int (zi r5))) (M' := M4) rfl rfl rfl rfl (Nat.le_of_ble_eq_true rfl) (fun _ => rfl) (hc) ?_
  refine am_xn 0 (c1 := (434, [.ref 5000, .ref 0, .ref 58, .int (zi x3)], [.int (zi r5)], M4)) rfl ?_
  refine am_xiadd 5 x3 1 (pc := 439) (ls := [.ref 5000, .ref 0, .ref 58, .int (zi x3)]) (st := [.ref 5000, .ref 58, .int (zi r5)]) rfl ?_
  obtain ⟨r6, hv⟩ := hv
  refine am_xsld rfl r6 ?_
  refine am_xn 0 (c1 := (440, [.ref 5000, .ref 0, .ref 58, .int (zi x3)], [.int (zi (iv M4 5000 (x3 + 1))), .ref 58, .int (zi r5)], M4)) rfl ?_
  refine am_xiadd 4 x3 2 (pc := 444) (ls := [.ref 5000, .ref 0, .ref 58, .int (zi x3)]) (st := [.ref 5000, .int (zi (iv M4 5000 (x3 + 1))), .ref 58, .int (zi r5)]) rfl ?_
  obtain ⟨r7, hv⟩ := hv
  refine am_xsld rfl r7 ?_
  refine am_xn 0 (c1 := (445, [.ref 5000, .ref 0, .ref 58, .int (zi x3)], [.int (zi (iv M4 5000 (x3 + 2))), .int (zi (iv M4 5000 (x3 + 1))), .ref 58, .int (zi r5)], M4)) rfl ?_
  refine am_xiadd 4 x3 3 (pc := 449) (ls := [.ref 5000, .ref 0, .ref 58, .int (zi x3)]) (st := [.ref 5000, .int (zi (iv M4 5000 (x3 + 2))), .int (zi (iv M4 5000 (x3 + 1))), .ref 58, .int (zi r5)]) rfl ?_
  obtain ⟨r8, hv⟩ := hv
  refine am_xsld rfl r8 ?_
  refine am_xn 0 (c1 := (450, [.ref 5000, .ref 0, .ref 58, .int (zi x3)], [.int (zi (iv M4 5000 (x3 + 3))), .int (zi (iv M4 5000 (x3 + 2))), .int (zi (iv M4 5000 (x3 + 1))), .ref 58, .int (zi r5)], M4)) rfl ?_
  obtain ⟨r10, M9, hc, hv⟩ := hv
  refine am_xc t_Mo_word (.invokevirtual 57) 57 (av := [.ref 58, .int (zi (iv M4 5000 (x3 + 1))), .int (zi (iv M4 5000 (x3 + 2))), .int (zi (iv M4 5000 (x3 + 3)))]) (rest := [.int (zi r5)]) (rv := some (.int (zi r10))) (M' := M9) rfl rfl rfl rfl (Nat.le_of_ble_eq_true rfl) (fun _ => rfl) (hc) ?_
  refine am_xn 0 (c1 := (453, [.ref 5000, .ref 0, .ref 58, .int (zi x3)], [.int (zi r10), .int (zi r5)], M9)) rfl ?_
  obtain ⟨r11, hv⟩ := hv
  obtain ⟨r12, hv⟩ := hv
  refine am_xn 1 (c1 := (if zi r5 = zi r10 then 1152 else 456, [.ref 5000, .ref 0, .ref 58, .int (zi x3)], [], M9)) rfl (am_xeq r11 r12 (fun h => ?_) (fun h => ?_))
  · replace hv := hv.1 h
    exact hv
  · replace hv := hv.2 h
    refine am_xn 1 (c1 := (457, [.ref 5000, .ref 0, .ref 58, .int (zi x3)], [.int (zi 0)], M9)) rfl ?_
    exact am_xr (some (.int (zi 0))) ⟨rfl, rfl, .boolean, rfl, rfl⟩ hv
set_option maxRecDepth 100000 in
theorem vc_LAW_458 (x3 : Int) (M : am_M) (Q : Option Value → am_M → Prop) (hv : (0 ≤ (x3 + 1) ∧ (x3 + 1) < iv M 5001 0) ∧ ((0 ≤ (x3 + 2) ∧ (x3 + 2) < iv M 5001 0) ∧ (∃ (r4 : Int) (M3 : am_M), am_call t_SB_clauses [.ref 0, .int (zi (iv M 5000 (x3 + 1))), .int (zi (iv M 5000 (x3 + 2)))] M (some (.int (zi r4))) M3 ∧ ((0 ≤ (x3 + 1) ∧ (x3 + 1) < iv M3 5001 0) ∧ ((0 ≤ (x3 + 2) ∧ (x3 + 2) < iv M3 5001 0) ∧ (∃ (r8 : Int) (M7 : am_M), am_call t_Mo_clauses [.ref 58, .int (zi (iv M3 5000 (x3 + 1))), .int (zi (iv M3 5000 (x3 + 2)))] M3 (some (.int (zi r8))) M7 ∧ ((zr r4) ∧ ((zr r8) ∧ ((r4 = r8 → am_x t_LAW_law (1152, [.ref 5000, .ref 0, .ref 58, .int (zi x3)], [], M7) Q) ∧ (¬ r4 = r8 → Q (some (.int (zi 0))) M7)))))))))) : am_x t_LAW_law (458, [.ref 5000, .ref 0, .ref 58, .int (zi x3)], [], M) Q := by
  refine am_xiadd 5 x3 1 (pc := 463) (ls := [.ref 5000, .ref 0, .ref 58, .int (zi x3)]) (st := [.ref 5000, .ref 0]) rfl ?_
  obtain ⟨r1, hv⟩ := hv
  refine am_xsld rfl r1 ?_
  refine am_xn 0 (c1 := (464, [.ref 5000, .ref 0, .ref 58, .int (zi x3)], [.int (zi (iv M 5000 (x3 + 1))), .ref 0], M)) rfl ?_
  refine am_xiadd 4 x3 2 (pc := 468) (ls := [.ref 5000, .ref 0, .ref 58, .int (zi x3)]) (st := [.ref 5000, .int (zi (iv M 5000 (x3 + 1))), .ref 0]) rfl ?_
  obtain ⟨r2, hv⟩ := hv
  refine am_xsld rfl r2 ?_
  refine am_xn 0 (c1 := (469, [.ref 5000, .ref 0, .ref 58, .int (zi x3)], [.int (zi (iv M 5000 (x3 + 2))), .int (zi (iv M 5000 (x3 + 1))), .ref 0], M)) rfl ?_
  obtain ⟨r4, M3, hc, hv⟩ := hv
  refine am_xc t_SB_clauses (.invokevirtual 58) 58 (av := [.ref 0, .int (zi (iv M 5000 (x3 + 1))), .int (zi (iv M 5000 (x3 + 2)))]) (rest := []) (rv := some (.int (zi r4))) (M' := M3) rfl rfl rfl rfl (Nat.le_of_ble_eq_true rfl) (fun _ => rfl) (hc) ?_
  refine am_xn 0 (c1 := (472, [.ref 5000, .ref 0, .ref 58, .int (zi x3)], [.int (zi r4)], M3)) rfl ?_
  refine am_xiadd 5 x3 1 (pc := 477) (ls := [.ref 5000, .ref 0, .ref 58, .int (zi x3)]) (st := [.ref 5000, .ref 58, .int (zi r4)]) rfl ?_
  obtain ⟨r5, hv⟩ := hv
  refine am_xsld rfl r5 ?_
  refine am_xn 0 (c1 := (478, [.ref 5000, .ref 0, .ref 58, .int (zi x3)], [.int (zi (iv M3 5000 (x3 + 1))), .ref 58, .int (zi r4)], M3)) rfl ?_
  refine am_xiadd 4 x3 2 (pc := 482) (ls := [.ref 5000, .ref 0, .ref 58, .int (zi x3)]) (st := [.ref 5000, .int (zi (iv M3 5000 (x3 + 1))), .ref 58, .int (zi r4)]) rfl ?_
  obtain ⟨r6, hv⟩ := hv
  refine am_xsld rfl r6 ?_
  refine am_xn 0 (c1 := (483, [.ref 5000, .ref 0, .ref 58, .int (zi x3)], [.int (zi (iv M3 5000 (x3 + 2))), .int (zi (iv M3 5000 (x3 + 1))), .ref 58, .int (zi r4)], M3)) rfl ?_
  obtain ⟨r8, M7, hc, hv⟩ := hv
  refine am_xc t_Mo_clauses (.invokevirtual 61) 61 (av := [.ref 58, .int (zi (iv M3 5000 (x3 + 1))), .int (zi (iv M3 5000 (x3 + 2)))]) (rest := [.int (zi r4)]) (rv := some (.int (zi r8))) (M' := M7) rfl rfl rfl rfl (Nat.le_of_ble_eq_true rfl) (fun _ => rfl) (hc) ?_
  refine am_xn 0 (c1 := (486, [.ref 5000, .ref 0, .ref 58, .int (zi x3)], [.int (zi r8), .int (zi r4)], M7)) rfl ?_
  obtain ⟨r9, hv⟩ := hv
  obtain ⟨r10, hv⟩ := hv
  refine am_xn 1 (c1 := (if zi r4 = zi r8 then 1152 else 489, [.ref 5000, .ref 0, .ref 58, .int (zi x3)], [], M7)) rfl (am_xeq r9 r10 (fun h => ?_) (fun h => ?_))
  · replace hv := hv.1 h
    exact hv
  · replace hv := hv.2 h
    refine am_xn 1 (c1 := (490, [.ref 5000, .ref 0, .ref 58, .int (zi x3)], [.int (zi 0)], M7)) rfl ?_
    exact am_xr (some (.int (zi 0))) ⟨rfl, rfl, .boolean, rfl, rfl⟩ hv
set_option maxRecDepth 100000 in
theorem vc_LAW_491 (x3 : Int) (M : am_M) (Q : Option Value → am_M → Prop) (hv : (0 ≤ (x3 + 1) ∧ (x3 + 1) < iv M 5001 0) ∧ ((0 ≤ (x3 + 2) ∧ (x3 + 2) < iv M 5001 0) ∧ ((0 ≤ (x3 + 3) ∧ (x3 + 3) < iv M 5001 0) ∧ ((0 ≤ (x3 + 4) ∧ (x3 + 4) < iv M 5001 0) ∧ (∃ (r6 : Int) (M5 : am_M), am_call t_SB_clause [.ref 0, .int (zi (iv M 5000 (x3 + 1))), .int (zi (iv M 5000 (x3 + 2))), .int (zi (iv M 5000 (x3 + 3))), .int (zi (iv M 5000 (x3 + 4)))] M (some (.int (zi r6))) M5 ∧ ((0 ≤ (x3 + 1) ∧ (x3 + 1) < iv M5 5001 0) ∧ ((0 ≤ (x3 + 2) ∧ (x3 + 2) < iv M5 5001 0) ∧ ((0 ≤ (x3 + 3) ∧ (x3 + 3) < iv M5 5001 0) ∧ ((0 ≤ (x3 + 4) ∧ (x3 + 4) < iv M5 5001 0) ∧ (∃ (r12 : Int) (M11 : am_M), am_call t_Mo_clause [.ref 58, .int (zi (iv M5 5000 (x3 + 1))), .int (zi (iv M5 5000 (x3 + 2))), .int (zi (iv M5 5000 (x3 + 3))), .int (zi (iv M5 5000 (x3 + 4)))] M5 (some (.int (zi r12))) M11 ∧ ((zr r6) ∧ ((zr r12) ∧ ((r6 = r12 → am_x t_LAW_law (1152, [.ref 5000, .ref 0, .ref 58, .int (zi x3)], [], M11) Q) ∧ (¬ r6 = r12 → Q (some (.int (zi 0))) M11)))))))))))))) : am_x t_LAW_law (491, [.ref 5000, .ref 0, .ref 58, .int (zi x3)], [], M) Q := by
  refine am_xiadd 5 x3 1 (pc := 496) (ls := [.ref 5000, .ref 0, .ref 58, .int (zi x3)]) (st := [.ref 5000, .ref 0]) rfl ?_
  obtain ⟨r1, hv⟩ := hv
  refine am_xsld rfl r1 ?_
  refine am_xn 0 (c1 := (497, [.ref 5000, .ref 0, .ref 58, .int (zi x3)], [.int (zi (iv M 5000 (x3 + 1))), .ref 0], M)) rfl ?_
  refine am_xiadd 4 x3 2 (pc := 501) (ls := [.ref 5000, .ref 0, .ref 58, .int (zi x3)]) (st := [.ref 5000, .int (zi (iv M 5000 (x3 + 1))), .ref 0]) rfl ?_
  obtain ⟨r2, hv⟩ := hv
  refine am_xsld rfl r2 ?_
  refine am_xn 0 (c1 := (502, [.ref 5000, .ref 0, .ref 58, .int (zi x3)], [.int (zi (iv M 5000 (x3 + 2))), .int (zi (iv M 5000 (x3 + 1))), .ref 0], M)) rfl ?_
  refine am_xiadd 4 x3 3 (pc := 506) (ls := [.ref 5000, .ref 0, .ref 58, .int (zi x3)]) (st := [.ref 5000, .int (zi (iv M 5000 (x3 + 2))), .int (zi (iv M 5000 (x3 + 1))), .ref 0]) rfl ?_
  obtain ⟨r3, hv⟩ := hv
  refine am_xsld rfl r3 ?_
  refine am_xn 0 (c1 := (507, [.ref 5000, .ref 0, .ref 58, .int (zi x3)], [.int (zi (iv M 5000 (x3 + 3))), .int (zi (iv M 5000 (x3 + 2))), .int (zi (iv M 5000 (x3 + 1))), .ref 0], M)) rfl ?_
  refine am_xiadd 4 x3 4 (pc := 511) (ls := [.ref 5000, .ref 0, .ref 58, .int (zi x3)]) (st := [.ref 5000, .int (zi (iv M 5000 (x3 + 3))), .int (zi (iv M 5000 (x3 + 2))), .int (zi (iv M 5000 (x3 + 1))), .ref 0]) rfl ?_
  obtain ⟨r4, hv⟩ := hv
  refine am_xsld rfl r4 ?_
  refine am_xn 0 (c1 := (512, [.ref 5000, .ref 0, .ref 58, .int (zi x3)], [.int (zi (iv M 5000 (x3 + 4))), .int (zi (iv M 5000 (x3 + 3))), .int (zi (iv M 5000 (x3 + 2))), .int (zi (iv M 5000 (x3 + 1))), .ref 0], M)) rfl ?_
  obtain ⟨r6, M5, hc, hv⟩ := hv
  refine am_xc t_SB_clause (.invokevirtual 62) 62 (av := [.ref 0, .int (zi (iv M 5000 (x3 + 1))), .int (zi (iv M 5000 (x3 + 2))), .int (zi (iv M 5000 (x3 + 3))), .int (zi (iv M 5000 (x3 + 4)))]) (rest := []) (rv := some (.int (zi r6))) (M' := M5) rfl rfl rfl rfl (Nat.le_of_ble_eq_true rfl) (fun _ => rfl) (hc) ?_
  refine am_xn 0 (c1 := (515, [.ref 5000, .ref 0, .ref 58, .int (zi x3)], [.int (zi r6)], M5)) rfl ?_
  refine am_xiadd 5 x3 1 (pc := 520) (ls := [.ref 5000, .ref 0, .ref 58, .int (zi x3)]) (st := [.ref 5000, .ref 58, .int (zi r6)]) rfl ?_
  obtain ⟨r7, hv⟩ := hv
  refine am_xsld rfl r7 ?_
  refine am_xn 0 (c1 := (521, [.ref 5000, .ref 0, .ref 58, .int (zi x3)], [.int (zi (iv M5 5000 (x3 + 1))), .ref 58, .int (zi r6)], M5)) rfl ?_
  refine am_xiadd 4 x3 2 (pc := 525) (ls := [.ref 5000, .ref 0, .ref 58, .int (zi x3)]) (st := [.ref 5000, .int (zi (iv M5 5000 (x3 + 1))), .ref 58, .int (zi r6)]) rfl ?_
  obtain ⟨r8, hv⟩ := hv
  refine am_xsld rfl r8 ?_
  refine am_xn 0 (c1 := (526, [.ref 5000, .ref 0, .ref 58, .int (zi x3)], [.int (zi (iv M5 5000 (x3 + 2))), .int (zi (iv M5 5000 (x3 + 1))), .ref 58, .int (zi r6)], M5)) rfl ?_
  refine am_xiadd 4 x3 3 (pc := 530) (ls := [.ref 5000, .ref 0, .ref 58, .int (zi x3)]) (st := [.ref 5000, .int (zi (iv M5 5000 (x3 + 2))), .int (zi (iv M5 5000 (x3 + 1))), .ref 58, .int (zi r6)]) rfl ?_
  obtain ⟨r9, hv⟩ := hv
  refine am_xsld rfl r9 ?_
  refine am_xn 0 (c1 := (531, [.ref 5000, .ref 0, .ref 58, .int (zi x3)], [.int (zi (iv M5 5000 (x3 + 3))), .int (zi (iv M5 5000 (x3 + 2))), .int (zi (iv M5 5000 (x3 + 1))), .ref 58, .int (zi r6)], M5)) rfl ?_
  refine am_xiadd 4 x3 4 (pc := 535) (ls := [.ref 5000, .ref 0, .ref 58, .int (zi x3)]) (st := [.ref 5000, .int (zi (iv M5 5000 (x3 + 3))), .int (zi (iv M5 5000 (x3 + 2))), .int (zi (iv M5 5000 (x3 + 1))), .ref 58, .int (zi r6)]) rfl ?_
  obtain ⟨r10, hv⟩ := hv
  refine am_xsld rfl r10 ?_
  refine am_xn 0 (c1 := (536, [.ref 5000, .ref 0, .ref 58, .int (zi x3)], [.int (zi (iv M5 5000 (x3 + 4))), .int (zi (iv M5 5000 (x3 + 3))), .int (zi (iv M5 5000 (x3 + 2))), .int (zi (iv M5 5000 (x3 + 1))), .ref 58, .int (zi r6)], M5)) rfl ?_
  obtain ⟨r12, M11, hc, hv⟩ := hv
  refine am_xc t_Mo_clause (.invokevirtual 66) 66 (av := [.ref 58, .int (zi (iv M5 5000 (x3 + 1))), .int (zi (iv M5 5000 (x3 + 2))), .int (zi (iv M5 5000 (x3 + 3))), .int (zi (iv M5 5000 (x3 + 4)))]) (rest := [.int (zi r6)]) (rv := some (.int (zi r12))) (M' := M11) rfl rfl rfl rfl (Nat.le_of_ble_eq_true rfl) (fun _ => rfl) (hc) ?_
  refine am_xn 0 (c1 := (539, [.ref 5000, .ref 0, .ref 58, .int (zi x3)], [.int (zi r12), .int (zi r6)], M11)) rfl ?_
  obtain ⟨r13, hv⟩ := hv
  obtain ⟨r14, hv⟩ := hv
  refine am_xn 1 (c1 := (if zi r6 = zi r12 then 1152 else 542, [.ref 5000, .ref 0, .ref 58, .int (zi x3)], [], M11)) rfl (am_xeq r13 r14 (fun h => ?_) (fun h => ?_))
  · replace hv := hv.1 h
    exact hv
  · replace hv := hv.2 h
    refine am_xn 1 (c1 := (543, [.ref 5000, .ref 0, .ref 58, .int (zi x3)], [.int (zi 0)], M11)) rfl ?_
    exact am_xr (some (.int (zi 0))) ⟨rfl, rfl, .boolean, rfl, rfl⟩ hv
set_option maxRecDepth 100000 in
theorem vc_LAW_544 (x3 : Int) (M : am_M) (Q : Option Value → am_M → Prop) (hv : (0 ≤ (x3 + 1) ∧ (x3 + 1) < iv M 5001 0) ∧ ((0 ≤ (x3 + 2) ∧ (x3 + 2) < iv M 5001 0) ∧ ((0 ≤ (x3 + 3) ∧ (x3 + 3) < iv M 5001 0) ∧ ((0 ≤ (x3 + 4) ∧ (x3 + 4) < iv M 5001 0) ∧ (∃ (r6 : Int) (M5 : am_M), am_call t_SB_textWord [.ref 0, .int (zi (iv M 5000 (x3 + 1))), .int (zi (iv M 5000 (x3 + 2))), .int (zi (iv M 5000 (x3 + 3))), .int (zi (iv M 5000 (x3 + 4)))] M (some (.int (zi r6))) M5 ∧ ((0 ≤ (x3 + 1) ∧ (x3 + 1) < iv M5 5001 0) ∧ ((0 ≤ (x3 + 2) ∧ (x3 + 2) < iv M5 5001 0) ∧ ((0 ≤ (x3 + 3) ∧ (x3 + 3) < iv M5 5001 0) ∧ ((0 ≤ (x3 + 4) ∧ (x3 + 4) < iv M5 5001 0) ∧ (∃ (r12 : Int) (M11 : am_M), am_call t_Mo_textWord [.ref 58, .int (zi (iv M5 5000 (x3 + 1))), .int (zi (iv M5 5000 (x3 + 2))), .int (zi (iv M5 5000 (x3 + 3))), .int (zi (iv M5 5000 (x3 + 4)))] M5 (some (.int (zi r12))) M11 ∧ ((zr r6) ∧ ((zr r12) ∧ ((r6 = r12 → am_x t_LAW_law (1152, [.ref 5000, .ref 0, .ref 58, .int (zi x3)], [], M11) Q) ∧ (¬ r6 = r12 → Q (some (.int (zi 0))) M11)))))))))))))) : am_x t_LAW_law (544, [.ref 5000, .ref 0, .ref 58, .int (zi x3)], [], M) Q := by
  refine am_xiadd 5 x3 1 (pc := 549) (ls := [.ref 5000, .ref 0, .ref 58, .int (zi x3)]) (st := [.ref 5000, .ref 0]) rfl ?_
  obtain ⟨r1, hv⟩ := hv
  refine am_xsld rfl r1 ?_
  refine am_xn 0 (c1 := (550, [.ref 5000, .ref 0, .ref 58, .int (zi x3)], [.int (zi (iv M 5000 (x3 + 1))), .ref 0], M)) rfl ?_
  refine am_xiadd 4 x3 2 (pc := 554) (ls := [.ref 5000, .ref 0, .ref 58, .int (zi x3)]) (st := [.ref 5000, .int (zi (iv M 5000 (x3 + 1))), .ref 0]) rfl ?_
  obtain ⟨r2, hv⟩ := hv
  refine am_xsld rfl r2 ?_
  refine am_xn 0 (c1 := (555, [.ref 5000, .ref 0, .ref 58, .int (zi x3)], [.int (zi (iv M 5000 (x3 + 2))), .int (zi (iv M 5000 (x3 + 1))), .ref 0], M)) rfl ?_
  refine am_xiadd 4 x3 3 (pc := 559) (ls := [.ref 5000, .ref 0, .ref 58, .int (zi x3)]) (st := [.ref 5000, .int (zi (iv M 5000 (x3 + 2))), .int (zi (iv M 5000 (x3 + 1))), .ref 0]) rfl ?_
  obtain ⟨r3, hv⟩ := hv
  refine am_xsld rfl r3 ?_
  refine am_xn 0 (c1 := (560, [.ref 5000, .ref 0, .ref 58, .int (zi x3)], [.int (zi (iv M 5000 (x3 + 3))), .int (zi (iv M 5000 (x3 + 2))), .int (zi (iv M 5000 (x3 + 1))), .ref 0], M)) rfl ?_
  refine am_xiadd 4 x3 4 (pc := 564) (ls := [.ref 5000, .ref 0, .ref 58, .int (zi x3)]) (st := [.ref 5000, .int (zi (iv M 5000 (x3 + 3))), .int (zi (iv M 5000 (x3 + 2))), .int (zi (iv M 5000 (x3 + 1))), .ref 0]) rfl ?_
  obtain ⟨r4, hv⟩ := hv
  refine am_xsld rfl r4 ?_
  refine am_xn 0 (c1 := (565, [.ref 5000, .ref 0, .ref 58, .int (zi x3)], [.int (zi (iv M 5000 (x3 + 4))), .int (zi (iv M 5000 (x3 + 3))), .int (zi (iv M 5000 (x3 + 2))), .int (zi (iv M 5000 (x3 + 1))), .ref 0], M)) rfl ?_
  obtain ⟨r6, M5, hc, hv⟩ := hv
  refine am_xc t_SB_textWord (.invokevirtual 67) 67 (av := [.ref 0, .int (zi (iv M 5000 (x3 + 1))), .int (zi (iv M 5000 (x3 + 2))), .int (zi (iv M 5000 (x3 + 3))), .int (zi (iv M 5000 (x3 + 4)))]) (rest := []) (rv := some (.int (zi r6))) (M' := M5) rfl rfl rfl rfl (Nat.le_of_ble_eq_true rfl) (fun _ => rfl) (hc) ?_
  refine am_xn 0 (c1 := (568, [.ref 5000, .ref 0, .ref 58, .int (zi x3)], [.int (zi r6)], M5)) rfl ?_
  refine am_xiadd 5 x3 1 (pc := 573) (ls := [.ref 5000, .ref 0, .ref 58, .int (zi x3)]) (st := [.ref 5000, .ref 58, .int (zi r6)]) rfl ?_
  obtain ⟨r7, hv⟩ := hv
  refine am_xsld rfl r7 ?_
  refine am_xn 0 (c1 := (574, [.ref 5000, .ref 0, .ref 58, .int (zi x3)], [.int (zi (iv M5 5000 (x3 + 1))), .ref 58, .int (zi r6)], M5)) rfl ?_
  refine am_xiadd 4 x3 2 (pc := 578) (ls := [.ref 5000, .ref 0, .ref 58, .int (zi x3)]) (st := [.ref 5000, .int (zi (iv M5 5000 (x3 + 1))), .ref 58, .int (zi r6)]) rfl ?_
  obtain ⟨r8, hv⟩ := hv
  refine am_xsld rfl r8 ?_
  refine am_xn 0 (c1 := (579, [.ref 5000, .ref 0, .ref 58, .int (zi x3)], [.int (zi (iv M5 5000 (x3 + 2))), .int (zi (iv M5 5000 (x3 + 1))), .ref 58, .int (zi r6)], M5)) rfl ?_
  refine am_xiadd 4 x3 3 (pc := 583) (ls := [.ref 5000, .ref 0, .ref 58, .int (zi x3)]) (st := [.ref 5000, .int (zi (iv M5 5000 (x3 + 2))), .int (zi (iv M5 5000 (x3 + 1))), .ref 58, .int (zi r6)]) rfl ?_
  obtain ⟨r9, hv⟩ := hv
  refine am_xsld rfl r9 ?_
  refine am_xn 0 (c1 := (584, [.ref 5000, .ref 0, .ref 58, .int (zi x3)], [.int (zi (iv M5 5000 (x3 + 3))), .int (zi (iv M5 5000 (x3 + 2))), .int (zi (iv M5 5000 (x3 + 1))), .ref 58, .int (zi r6)], M5)) rfl ?_
  refine am_xiadd 4 x3 4 (pc := 588) (ls := [.ref 5000, .ref 0, .ref 58, .int (zi x3)]) (st := [.ref 5000, .int (zi (iv M5 5000 (x3 + 3))), .int (zi (iv M5 5000 (x3 + 2))), .int (zi (iv M5 5000 (x3 + 1))), .ref 58, .int (zi r6)]) rfl ?_
  obtain ⟨r10, hv⟩ := hv
  refine am_xsld rfl r10 ?_
  refine am_xn 0 (c1 := (589, [.ref 5000, .ref 0, .ref 58, .int (zi x3)], [.int (zi (iv M5 5000 (x3 + 4))), .int (zi (iv M5 5000 (x3 + 3))), .int (zi (iv M5 5000 (x3 + 2))), .int (zi (iv M5 5000 (x3 + 1))), .ref 58, .int (zi r6)], M5)) rfl ?_
  obtain ⟨r12, M11, hc, hv⟩ := hv
  refine am_xc t_Mo_textWord (.invokevirtual 70) 70 (av := [.ref 58, .int (zi (iv M5 5000 (x3 + 1))), .int (zi (iv M5 5000 (x3 + 2))), .int (zi (iv M5 5000 (x3 + 3))), .int (zi (iv M5 5000 (x3 + 4)))]) (rest := [.int (zi r6)]) (rv := some (.int (zi r12))) (M' := M11) rfl rfl rfl rfl (Nat.le_of_ble_eq_true rfl) (fun _ => rfl) (hc) ?_
  refine am_xn 0 (c1 := (592, [.ref 5000, .ref 0, .ref 58, .int (zi x3)], [.int (zi r12), .int (zi r6)], M11)) rfl ?_
  obtain ⟨r13, hv⟩ := hv
  obtain ⟨r14, hv⟩ := hv
  refine am_xn 1 (c1 := (if zi r6 = zi r12 then 1152 else 595, [.ref 5000, .ref 0, .ref 58, .int (zi x3)], [], M11)) rfl (am_xeq r13 r14 (fun h => ?_) (fun h => ?_))
  · replace hv := hv.1 h
    exact hv
  · replace hv := hv.2 h
    refine am_xn 1 (c1 := (596, [.ref 5000, .ref 0, .ref 58, .int (zi x3)], [.int (zi 0)], M11)) rfl ?_
    exact am_xr (some (.int (zi 0))) ⟨rfl, rfl, .boolean, rfl, rfl⟩ hv
set_option maxRecDepth 100000 in
theorem vc_LAW_597 (x3 : Int) (M : am_M) (Q : Option Value → am_M → Prop) (hv : (0 ≤ (x3 + 1) ∧ (x3 + 1) < iv M 5001 0) ∧ ((0 ≤ (x3 + 2) ∧ (x3 + 2) < iv M 5001 0) ∧ ((0 ≤ (x3 + 3) ∧ (x3 + 3) < iv M 5001 0) ∧ (∃ (r5 : Int) (M4 : am_M), am_call t_SB_find [.ref 0, .int (zi (iv M 5000 (x3 + 1))), .int (zi (iv M 5000 (x3 + 2))), .int (zi (iv M 5000 (x3 + 3)))] M (some (.int (zi r5))) M4 ∧ ((0 ≤ (x3 + 1) ∧ (x3 + 1) < iv M4 5001 0) ∧ ((0 ≤ (x3 + 2) ∧ (x3 + 2) < iv M4 5001 0) ∧ ((0 ≤ (x3 + 3) ∧ (x3 + 3) < iv M4 5001 0) ∧ (∃ (r10 : Int) (M9 : am_M), am_call t_Mo_find [.ref 58, .int (zi (iv M4 5000 (x3 + 1))), .int (zi (iv M4 5000 (x3 + 2))), .int (zi (iv M4 5000 (x3 + 3)))] M4 (some (.int (zi r10))) M9 ∧ ((zr r5) ∧ ((zr r10) ∧ ((r5 = r10 → am_x t_LAW_law (1152, [.ref 5000, .ref 0, .ref 58, .int (zi x3)], [], M9) Q) ∧ (¬ r5 = r10 → Q (some (.int (zi 0))) M9)))))))))))) : am_x t_LAW_law (597, [.ref 5000, .ref 0, .ref 58, .int (zi x3)], [], M) Q := by
  refine am_xiadd 5 x3 1 (pc := 602) (ls := [.ref 5000, .ref 0, .ref 58, .int (zi x3)]) (st := [.ref 5000, .ref 0]) rfl ?_
  obtain ⟨r1, hv⟩ := hv
  refine am_xsld rfl r1 ?_
  refine am_xn 0 (c1 := (603, [.ref 5000, .ref 0, .ref 58, .int (zi x3)], [.int (zi (iv M 5000 (x3 + 1))), .ref 0], M)) rfl ?_
  refine am_xiadd 4 x3 2 (pc := 607) (ls := [.ref 5000, .ref 0, .ref 58, .int (zi x3)]) (st := [.ref 5000, .int (zi (iv M 5000 (x3 + 1))), .ref 0]) rfl ?_
  obtain ⟨r2, hv⟩ := hv
  refine am_xsld rfl r2 ?_
  refine am_xn 0 (c1 := (608, [.ref 5000, .ref 0, .ref 58, .int (zi x3)], [.int (zi (iv M 5000 (x3 + 2))), .int (zi (iv M 5000 (x3 + 1))), .ref 0], M)) rfl ?_
  refine am_xiadd 4 x3 3 (pc := 612) (ls := [.ref 5000, .ref 0, .ref 58, .int (zi x3)]) (st := [.ref 5000, .int (zi (iv M 5000 (x3 + 2))), .int (zi (iv M 5000 (x3 + 1))), .ref 0]) rfl ?_
  obtain ⟨r3, hv⟩ := hv
  refine am_xsld rfl r3 ?_
  refine am_xn 0 (c1 := (613, [.ref 5000, .ref 0, .ref 58, .int (zi x3)], [.int (zi (iv M 5000 (x3 + 3))), .int (zi (iv M 5000 (x3 + 2))), .int (zi (iv M 5000 (x3 + 1))), .ref 0], M)) rfl ?_
  obtain ⟨r5, M4, hc, hv⟩ := hv
  refine am_xc t_SB_find (.invokevirtual 71) 71 (av := [.ref 0, .int (zi (iv M 5000 (x3 + 1))), .int (zi (iv M 5000 (x3 + 2))), .int (zi (iv M 5000 (x3 + 3)))]) (rest := []) (rv := some (.int (zi r5))) (M' := M4) rfl rfl rfl rfl (Nat.le_of_ble_eq_true rfl) (fun _ => rfl) (hc) ?_
  refine am_xn 0 (c1 := (616, [.ref 5000, .ref 0, .ref 58, .int (zi x3)], [.int (zi r5)], M4)) rfl ?_
  refine am_xiadd 5 x3 1 (pc := 621) (ls := [.ref 5000, .ref 0, .ref 58, .int (zi x3)]) (st := [.ref 5000, .ref 58, .int (zi r5)]) rfl ?_
  obtain ⟨r6, hv⟩ := hv
  refine am_xsld rfl r6 ?_
  refine am_xn 0 (c1 := (622, [.ref 5000, .ref 0, .ref 58, .int (zi x3)], [.int (zi (iv M4 5000 (x3 + 1))), .ref 58, .int (zi r5)], M4)) rfl ?_
  refine am_xiadd 4 x3 2 (pc := 626) (ls := [.ref 5000, .ref 0, .ref 58, .int (zi x3)]) (st := [.ref 5000, .int (zi (iv M4 5000 (x3 + 1))), .ref 58, .int (zi r5)]) rfl ?_
  obtain ⟨r7, hv⟩ := hv
  refine am_xsld rfl r7 ?_
  refine am_xn 0 (c1 := (627, [.ref 5000, .ref 0, .ref 58, .int (zi x3)], [.int (zi (iv M4 5000 (x3 + 2))), .int (zi (iv M4 5000 (x3 + 1))), .ref 58, .int (zi r5)], M4)) rfl ?_
  refine am_xiadd 4 x3 3 (pc := 631) (ls := [.ref 5000, .ref 0, .ref 58, .int (zi x3)]) (st := [.ref 5000, .int (zi (iv M4 5000 (x3 + 2))), .int (zi (iv M4 5000 (x3 + 1))), .ref 58, .int (zi r5)]) rfl ?_
  obtain ⟨r8, hv⟩ := hv
  refine am_xsld rfl r8 ?_
  refine am_xn 0 (c1 := (632, [.ref 5000, .ref 0, .ref 58, .int (zi x3)], [.int (zi (iv M4 5000 (x3 + 3))), .int (zi (iv M4 5000 (x3 + 2))), .int (zi (iv M4 5000 (x3 + 1))), .ref 58, .int (zi r5)], M4)) rfl ?_
  obtain ⟨r10, M9, hc, hv⟩ := hv
  refine am_xc t_Mo_find (.invokevirtual 74) 74 (av := [.ref 58, .int (zi (iv M4 5000 (x3 + 1))), .int (zi (iv M4 5000 (x3 + 2))), .int (zi (iv M4 5000 (x3 + 3)))]) (rest := [.int (zi r5)]) (rv := some (.int (zi r10))) (M' := M9) rfl rfl rfl rfl (Nat.le_of_ble_eq_true rfl) (fun _ => rfl) (hc) ?_
  refine am_xn 0 (c1 := (635, [.ref 5000, .ref 0, .ref 58, .int (zi x3)], [.int (zi r10), .int (zi r5)], M9)) rfl ?_
  obtain ⟨r11, hv⟩ := hv
  obtain ⟨r12, hv⟩ := hv
  refine am_xn 1 (c1 := (if zi r5 = zi r10 then 1152 else 638, [.ref 5000, .ref 0, .ref 58, .int (zi x3)], [], M9)) rfl (am_xeq r11 r12 (fun h => ?_) (fun h => ?_))
  · replace hv := hv.1 h
    exact hv
  · replace hv := hv.2 h
    refine am_xn 1 (c1 := (639, [.ref 5000, .ref 0, .ref 58, .int (zi x3)], [.int (zi 0)], M9)) rfl ?_
    exact am_xr (some (.int (zi 0))) ⟨rfl, rfl, .boolean, rfl, rfl⟩ hv
set_option maxRecDepth 100000 in
theorem vc_LAW_640 (x3 : Int) (M : am_M) (Q : Option Value → am_M → Prop) (hv : (0 ≤ (x3 + 1) ∧ (x3 + 1) < iv M 5001 0) ∧ ((0 ≤ (x3 + 2) ∧ (x3 + 2) < iv M 5001 0) ∧ (∃ (r4 : Int) (M3 : am_M), am_call t_SB_print [.ref 0, .int (zi (iv M 5000 (x3 + 1))), .int (zi (iv M 5000 (x3 + 2)))] M (some (.int (zi r4))) M3 ∧ ((0 ≤ (x3 + 1) ∧ (x3 + 1) < iv M3 5001 0) ∧ ((0 ≤ (x3 + 2) ∧ (x3 + 2) < iv M3 5001 0) ∧ (∃ (r8 : Int) (M7 : am_M), am_call t_Mo_print [.ref 58, .int (zi (iv M3 5000 (x3 + 1))), .int (zi (iv M3 5000 (x3 + 2)))] M3 (some (.int (zi r8))) M7 ∧ ((zr r4) ∧ ((zr r8) ∧ ((r4 = r8 → am_x t_LAW_law (1152, [.ref 5000, .ref 0, .ref 58, .int (zi x3)], [], M7) Q) ∧ (¬ r4 = r8 → Q (some (.int (zi 0))) M7)))))))))) : am_x t_LAW_law (640, [.ref 5000, .ref 0, .ref 58, .int (zi x3)], [], M) Q := by
  refine am_xiadd 5 x3 1 (pc := 645) (ls := [.ref 5000, .ref 0, .ref 58, .int (zi x3)]) (st := [.ref 5000, .ref 0]) rfl ?_
  obtain ⟨r1, hv⟩ := hv
  refine am_xsld rfl r1 ?_
  refine am_xn 0 (c1 := (646, [.ref 5000, .ref 0, .ref 58, .int (zi x3)], [.int (zi (iv M 5000 (x3 + 1))), .ref 0], M)) rfl ?_
  refine am_xiadd 4 x3 2 (pc := 650) (ls := [.ref 5000, .ref 0, .ref 58, .int (zi x3)]) (st := [.ref 5000, .int (zi (iv M 5000 (x3 + 1))), .ref 0]) rfl ?_
  obtain ⟨r2, hv⟩ := hv
  refine am_xsld rfl r2 ?_
  refine am_xn 0 (c1 := (651, [.ref 5000, .ref 0, .ref 58, .int (zi x3)], [.int (zi (iv M 5000 (x3 + 2))), .int (zi (iv M 5000 (x3 + 1))), .ref 0], M)) rfl ?_
  obtain ⟨r4, M3, hc, hv⟩ := hv
  refine am_xc t_SB_print (.invokevirtual 75) 75 (av := [.ref 0, .int (zi (iv M 5000 (x3 + 1))), .int (zi (iv M 5000 (x3 + 2)))]) (rest := []) (rv := some (.int (zi r4))) (M' := M3) rfl rfl rfl rfl (Nat.le_of_ble_eq_true rfl) (fun _ => rfl) (hc) ?_
  refine am_xn 0 (c1 := (654, [.ref 5000, .ref 0, .ref 58, .int (zi x3)], [.int (zi r4)], M3)) rfl ?_
  refine am_xiadd 5 x3 1 (pc := 659) (ls := [.ref 5000, .ref 0, .ref 58, .int (zi x3)]) (st := [.ref 5000, .ref 58, .int (zi r4)]) rfl ?_
  obtain ⟨r5, hv⟩ := hv
  refine am_xsld rfl r5 ?_
  refine am_xn 0 (c1 := (660, [.ref 5000, .ref 0, .ref 58, .int (zi x3)], [.int (zi (iv M3 5000 (x3 + 1))), .ref 58, .int (zi r4)], M3)) rfl ?_
  refine am_xiadd 4 x3 2 (pc := 664) (ls := [.ref 5000, .ref 0, .ref 58, .int (zi x3)]) (st := [.ref 5000, .int (zi (iv M3 5000 (x3 + 1))), .ref 58, .int (zi r4)]) rfl ?_
  obtain ⟨r6, hv⟩ := hv
  refine am_xsld rfl r6 ?_
  refine am_xn 0 (c1 := (665, [.ref 5000, .ref 0, .ref 58, .int (zi x3)], [.int (zi (iv M3 5000 (x3 + 2))), .int (zi (iv M3 5000 (x3 + 1))), .ref 58, .int (zi r4)], M3)) rfl ?_
  obtain ⟨r8, M7, hc, hv⟩ := hv
  refine am_xc t_Mo_print (.invokevirtual 78) 78 (av := [.ref 58, .int (zi (iv M3 5000 (x3 + 1))), .int (zi (iv M3 5000 (x3 + 2)))]) (rest := [.int (zi r4)]) (rv := some (.int (zi r8))) (M' := M7) rfl rfl rfl rfl (Nat.le_of_ble_eq_true rfl) (fun _ => rfl) (hc) ?_
  refine am_xn 0 (c1 := (668, [.ref 5000, .ref 0, .ref 58, .int (zi x3)], [.int (zi r8), .int (zi r4)], M7)) rfl ?_
  obtain ⟨r9, hv⟩ := hv
  obtain ⟨r10, hv⟩ := hv
  refine am_xn 1 (c1 := (if zi r4 = zi r8 then 1152 else 671, [.ref 5000, .ref 0, .ref 58, .int (zi x3)], [], M7)) rfl (am_xeq r9 r10 (fun h => ?_) (fun h => ?_))
  · replace hv := hv.1 h
    exact hv
  · replace hv := hv.2 h
    refine am_xn 1 (c1 := (672, [.ref 5000, .ref 0, .ref 58, .int (zi x3)], [.int (zi 0)], M7)) rfl ?_
    exact am_xr (some (.int (zi 0))) ⟨rfl, rfl, .boolean, rfl, rfl⟩ hv
set_option maxRecDepth 100000 in
theorem vc_LAW_673 (x3 : Int) (M : am_M) (Q : Option Value → am_M → Prop) (hv : (0 ≤ (x3 + 1) ∧ (x3 + 1) < iv M 5001 0) ∧ (∃ (r3 : Int) (M2 : am_M), am_call t_SB_printed [.ref 0, .int (zi (iv M 5000 (x3 + 1)))] M (some (.int (zi r3))) M2 ∧ ((0 ≤ (x3 + 1) ∧ (x3 + 1) < iv M2 5001 0) ∧ (∃ (r6 : Int) (M5 : am_M), am_call t_Mo_printed [.ref 58, .int (zi (iv M2 5000 (x3 + 1)))] M2 (some (.int (zi r6))) M5 ∧ ((zr r3) ∧ ((zr r6) ∧ ((r3 = r6 → am_x t_LAW_law (1152, [.ref 5000, .ref 0, .ref 58, .int (zi x3)], [], M5) Q) ∧ (¬ r3 = r6 → Q (some (.int (zi 0))) M5)))))))) : am_x t_LAW_law (673, [.ref 5000, .ref 0, .ref 58, .int (zi x3)], [], M) Q := by
  refine am_xiadd 5 x3 1 (pc := 678) (ls := [.ref 5000, .ref 0, .ref 58, .int (zi x3)]) (st := [.ref 5000, .ref 0]) rfl ?_
  obtain ⟨r1, hv⟩ := hv
  refine am_xsld rfl r1 ?_
  refine am_xn 0 (c1 := (679, [.ref 5000, .ref 0, .ref 58, .int (zi x3)], [.int (zi (iv M 5000 (x3 + 1))), .ref 0], M)) rfl ?_
  obtain ⟨r3, M2, hc, hv⟩ := hv
  refine am_xc t_SB_printed (.invokevirtual 79) 79 (av := [.ref 0, .int (zi (iv M 5000 (x3 + 1)))]) (rest := []) (rv := some (.int (zi r3))) (M' := M2) rfl rfl rfl rfl (Nat.le_of_ble_eq_true rfl) (fun _ => rfl) (hc) ?_
  refine am_xn 0 (c1 := (682, [.ref 5000, .ref 0, .ref 58, .int (zi x3)], [.int (zi r3)], M2)) rfl ?_
  refine am_xiadd 5 x3 1 (pc := 687) (ls := [.ref 5000, .ref 0, .ref 58, .int (zi x3)]) (st := [.ref 5000, .ref 58, .int (zi r3)]) rfl ?_
  obtain ⟨r4, hv⟩ := hv
  refine am_xsld rfl r4 ?_
  refine am_xn 0 (c1 := (688, [.ref 5000, .ref 0, .ref 58, .int (zi x3)], [.int (zi (iv M2 5000 (x3 + 1))), .ref 58, .int (zi r3)], M2)) rfl ?_
  obtain ⟨r6, M5, hc, hv⟩ := hv
  refine am_xc t_Mo_printed (.invokevirtual 82) 82 (av := [.ref 58, .int (zi (iv M2 5000 (x3 + 1)))]) (rest := [.int (zi r3)]) (rv := some (.int (zi r6))) (M' := M5) rfl rfl rfl rfl (Nat.le_of_ble_eq_true rfl) (fun _ => rfl) (hc) ?_
  refine am_xn 0 (c1 := (691, [.ref 5000, .ref 0, .ref 58, .int (zi x3)], [.int (zi r6), .int (zi r3)], M5)) rfl ?_
  obtain ⟨r7, hv⟩ := hv
  obtain ⟨r8, hv⟩ := hv
  refine am_xn 1 (c1 := (if zi r3 = zi r6 then 1152 else 694, [.ref 5000, .ref 0, .ref 58, .int (zi x3)], [], M5)) rfl (am_xeq r7 r8 (fun h => ?_) (fun h => ?_))
  · replace hv := hv.1 h
    exact hv
  · replace hv := hv.2 h
    refine am_xn 1 (c1 := (695, [.ref 5000, .ref 0, .ref 58, .int (zi x3)], [.int (zi 0)], M5)) rfl ?_
    exact am_xr (some (.int (zi 0))) ⟨rfl, rfl, .boolean, rfl, rfl⟩ hv
set_option maxRecDepth 100000 in
theorem vc_LAW_696 (x3 : Int) (M : am_M) (Q : Option Value → am_M → Prop) (hv : (0 ≤ (x3 + 1) ∧ (x3 + 1) < iv M 5001 0) ∧ ((0 ≤ (x3 + 2) ∧ (x3 + 2) < iv M 5001 0) ∧ ((0 ≤ (x3 + 3) ∧ (x3 + 3) < iv M 5001 0) ∧ (∃ (r5 : Int) (M4 : am_M), am_call t_SB_history [.ref 0, .int (zi (iv M 5000 (x3 + 1))), .int (zi (iv M 5000 (x3 + 2))), .int (zi (iv M 5000 (x3 + 3)))] M (some (.int (zi r5))) M4 ∧ ((0 ≤ (x3 + 1) ∧ (x3 + 1) < iv M4 5001 0) ∧ ((0 ≤ (x3 + 2) ∧ (x3 + 2) < iv M4 5001 0) ∧ ((0 ≤ (x3 + 3) ∧ (x3 + 3) < iv M4 5001 0) ∧ (∃ (r10 : Int) (M9 : am_M), am_call t_Mo_history [.ref 58, .int (zi (iv M4 5000 (x3 + 1))), .int (zi (iv M4 5000 (x3 + 2))), .int (zi (iv M4 5000 (x3 + 3)))] M4 (some (.int (zi r10))) M9 ∧ ((zr r5) ∧ ((zr r10) ∧ ((r5 = r10 → am_x t_LAW_law (1152, [.ref 5000, .ref 0, .ref 58, .int (zi x3)], [], M9) Q) ∧ (¬ r5 = r10 → Q (some (.int (zi 0))) M9)))))))))))) : am_x t_LAW_law (696, [.ref 5000, .ref 0, .ref 58, .int (zi x3)], [], M) Q := by
  refine am_xiadd 5 x3 1 (pc := 701) (ls := [.ref 5000, .ref 0, .ref 58, .int (zi x3)]) (st := [.ref 5000, .ref 0]) rfl ?_
  obtain ⟨r1, hv⟩ := hv
  refine am_xsld rfl r1 ?_
  refine am_xn 0 (c1 := (702, [.ref 5000, .ref 0, .ref 58, .int (zi x3)], [.int (zi (iv M 5000 (x3 + 1))), .ref 0], M)) rfl ?_
  refine am_xiadd 4 x3 2 (pc := 706) (ls := [.ref 5000, .ref 0, .ref 58, .int (zi x3)]) (st := [.ref 5000, .int (zi (iv M 5000 (x3 + 1))), .ref 0]) rfl ?_
  obtain ⟨r2, hv⟩ := hv
  refine am_xsld rfl r2 ?_
  refine am_xn 0 (c1 := (707, [.ref 5000, .ref 0, .ref 58, .int (zi x3)], [.int (zi (iv M 5000 (x3 + 2))), .int (zi (iv M 5000 (x3 + 1))), .ref 0], M)) rfl ?_
  refine am_xiadd 4 x3 3 (pc := 711) (ls := [.ref 5000, .ref 0, .ref 58, .int (zi x3)]) (st := [.ref 5000, .int (zi (iv M 5000 (x3 + 2))), .int (zi (iv M 5000 (x3 + 1))), .ref 0]) rfl ?_
  obtain ⟨r3, hv⟩ := hv
  refine am_xsld rfl r3 ?_
  refine am_xn 0 (c1 := (712, [.ref 5000, .ref 0, .ref 58, .int (zi x3)], [.int (zi (iv M 5000 (x3 + 3))), .int (zi (iv M 5000 (x3 + 2))), .int (zi (iv M 5000 (x3 + 1))), .ref 0], M)) rfl ?_
  obtain ⟨r5, M4, hc, hv⟩ := hv
  refine am_xc t_SB_history (.invokevirtual 83) 83 (av := [.ref 0, .int (zi (iv M 5000 (x3 + 1))), .int (zi (iv M 5000 (x3 + 2))), .int (zi (iv M 5000 (x3 + 3)))]) (rest := []) (rv := some (.int (zi r5))) (M' := M4) rfl rfl rfl rfl (Nat.le_of_ble_eq_true rfl) (fun _ => rfl) (hc) ?_
  refine am_xn 0 (c1 := (715, [.ref 5000, .ref 0, .ref 58, .int (zi x3)], [.int (zi r5)], M4)) rfl ?_
  refine am_xiadd 5 x3 1 (pc := 720) (ls := [.ref 5000, .ref 0, .ref 58, .int (zi x3)]) (st := [.ref 5000, .ref 58, .int (zi r5)]) rfl ?_
  obtain ⟨r6, hv⟩ := hv
  refine am_xsld rfl r6 ?_
  refine am_xn 0 (c1 := (721, [.ref 5000, .ref 0, .ref 58, .int (zi x3)], [.int (zi (iv M4 5000 (x3 + 1))), .ref 58, .int (zi r5)], M4)) rfl ?_
  refine am_xiadd 4 x3 2 (pc := 725) (ls := [.ref 5000, .ref 0, .ref 58, .int (zi x3)]) (st := [.ref 5000, .int (zi (iv M4 5000 (x3 + 1))), .ref 58, .int (zi r5)]) rfl ?_
  obtain ⟨r7, hv⟩ := hv
  refine am_xsld rfl r7 ?_
  refine am_xn 0 (c1 := (726, [.ref 5000, .ref 0, .ref 58, .int (zi x3)], [.int (zi (iv M4 5000 (x3 + 2))), .int (zi (iv M4 5000 (x3 + 1))), .ref 58, .int (zi r5)], M4)) rfl ?_
  refine am_xiadd 4 x3 3 (pc := 730) (ls := [.ref 5000, .ref 0, .ref 58, .int (zi x3)]) (st := [.ref 5000, .int (zi (iv M4 5000 (x3 + 2))), .int (zi (iv M4 5000 (x3 + 1))), .ref 58, .int (zi r5)]) rfl ?_
  obtain ⟨r8, hv⟩ := hv
  refine am_xsld rfl r8 ?_
  refine am_xn 0 (c1 := (731, [.ref 5000, .ref 0, .ref 58, .int (zi x3)], [.int (zi (iv M4 5000 (x3 + 3))), .int (zi (iv M4 5000 (x3 + 2))), .int (zi (iv M4 5000 (x3 + 1))), .ref 58, .int (zi r5)], M4)) rfl ?_
  obtain ⟨r10, M9, hc, hv⟩ := hv
  refine am_xc t_Mo_history (.invokevirtual 86) 86 (av := [.ref 58, .int (zi (iv M4 5000 (x3 + 1))), .int (zi (iv M4 5000 (x3 + 2))), .int (zi (iv M4 5000 (x3 + 3)))]) (rest := [.int (zi r5)]) (rv := some (.int (zi r10))) (M' := M9) rfl rfl rfl rfl (Nat.le_of_ble_eq_true rfl) (fun _ => rfl) (hc) ?_
  refine am_xn 0 (c1 := (734, [.ref 5000, .ref 0, .ref 58, .int (zi x3)], [.int (zi r10), .int (zi r5)], M9)) rfl ?_
  obtain ⟨r11, hv⟩ := hv
  obtain ⟨r12, hv⟩ := hv
  refine am_xn 1 (c1 := (if zi r5 = zi r10 then 1152 else 737, [.ref 5000, .ref 0, .ref 58, .int (zi x3)], [], M9)) rfl (am_xeq r11 r12 (fun h => ?_) (fun h => ?_))
  · replace hv := hv.1 h
    exact hv
  · replace hv := hv.2 h
    refine am_xn 1 (c1 := (738, [.ref 5000, .ref 0, .ref 58, .int (zi x3)], [.int (zi 0)], M9)) rfl ?_
    exact am_xr (some (.int (zi 0))) ⟨rfl, rfl, .boolean, rfl, rfl⟩ hv
set_option maxRecDepth 100000 in
theorem vc_LAW_739 (x3 : Int) (M : am_M) (Q : Option Value → am_M → Prop) (hv : (0 ≤ (x3 + 1) ∧ (x3 + 1) < iv M 5001 0) ∧ ((0 ≤ (x3 + 2) ∧ (x3 + 2) < iv M 5001 0) ∧ ((0 ≤ (x3 + 3) ∧ (x3 + 3) < iv M 5001 0) ∧ (∃ (r5 : Int) (M4 : am_M), am_call t_SB_difference [.ref 0, .int (zi (iv M 5000 (x3 + 1))), .int (zi (iv M 5000 (x3 + 2))), .int (zi (iv M 5000 (x3 + 3)))] M (some (.int (zi r5))) M4 ∧ ((0 ≤ (x3 + 1) ∧ (x3 + 1) < iv M4 5001 0) ∧ ((0 ≤ (x3 + 2) ∧ (x3 + 2) < iv M4 5001 0) ∧ ((0 ≤ (x3 + 3) ∧ (x3 + 3) < iv M4 5001 0) ∧ (∃ (r10 : Int) (M9 : am_M), am_call t_Mo_difference [.ref 58, .int (zi (iv M4 5000 (x3 + 1))), .int (zi (iv M4 5000 (x3 + 2))), .int (zi (iv M4 5000 (x3 + 3)))] M4 (some (.int (zi r10))) M9 ∧ ((zr r5) ∧ ((zr r10) ∧ ((r5 = r10 → am_x t_LAW_law (1152, [.ref 5000, .ref 0, .ref 58, .int (zi x3)], [], M9) Q) ∧ (¬ r5 = r10 → Q (some (.int (zi 0))) M9)))))))))))) : am_x t_LAW_law (739, [.ref 5000, .ref 0, .ref 58, .int (zi x3)], [], M) Q := by
  refine am_xiadd 5 x3 1 (pc := 744) (ls := [.ref 5000, .ref 0, .ref 58, .int (zi x3)]) (st := [.ref 5000, .ref 0]) rfl ?_
  obtain ⟨r1, hv⟩ := hv
  refine am_xsld rfl r1 ?_
  refine am_xn 0 (c1 := (745, [.ref 5000, .ref 0, .ref 58, .int (zi x3)], [.int (zi (iv M 5000 (x3 + 1))), .ref 0], M)) rfl ?_
  refine am_xiadd 4 x3 2 (pc := 749) (ls := [.ref 5000, .ref 0, .ref 58, .int (zi x3)]) (st := [.ref 5000, .int (zi (iv M 5000 (x3 + 1))), .ref 0]) rfl ?_
  obtain ⟨r2, hv⟩ := hv
  refine am_xsld rfl r2 ?_
  refine am_xn 0 (c1 := (750, [.ref 5000, .ref 0, .ref 58, .int (zi x3)], [.int (zi (iv M 5000 (x3 + 2))), .int (zi (iv M 5000 (x3 + 1))), .ref 0], M)) rfl ?_
  refine am_xiadd 4 x3 3 (pc := 754) (ls := [.ref 5000, .ref 0, .ref 58, .int (zi x3)]) (st := [.ref 5000, .int (zi (iv M 5000 (x3 + 2))), .int (zi (iv M 5000 (x3 + 1))), .ref 0]) rfl ?_
  obtain ⟨r3, hv⟩ := hv
  refine am_xsld rfl r3 ?_
  refine am_xn 0 (c1 := (755, [.ref 5000, .ref 0, .ref 58, .int (zi x3)], [.int (zi (iv M 5000 (x3 + 3))), .int (zi (iv M 5000 (x3 + 2))), .int (zi (iv M 5000 (x3 + 1))), .ref 0], M)) rfl ?_
  obtain ⟨r5, M4, hc, hv⟩ := hv
  refine am_xc t_SB_difference (.invokevirtual 87) 87 (av := [.ref 0, .int (zi (iv M 5000 (x3 + 1))), .int (zi (iv M 5000 (x3 + 2))), .int (zi (iv M 5000 (x3 + 3)))]) (rest := []) (rv := some (.int (zi r5))) (M' := M4) rfl rfl rfl rfl (Nat.le_of_ble_eq_true rfl) (fun _ => rfl) (hc) ?_
  refine am_xn 0 (c1 := (758, [.ref 5000, .ref 0, .ref 58, .int (zi x3)], [.int (zi r5)], M4)) rfl ?_
  refine am_xiadd 5 x3 1 (pc := 763) (ls := [.ref 5000, .ref 0, .ref 58, .int (zi x3)]) (st := [.ref 5000, .ref 58, .int (zi r5)]) rfl ?_
  obtain ⟨r6, hv⟩ := hv
  refine am_xsld rfl r6 ?_
  refine am_xn 0 (c1 := (764, [.ref 5000, .ref 0, .ref 58, .int (zi x3)], [.int (zi (iv M4 5000 (x3 + 1))), .ref 58, .int (zi r5)], M4)) rfl ?_
  refine am_xiadd 4 x3 2 (pc := 768) (ls := [.ref 5000, .ref 0, .ref 58, .int (zi x3)]) (st := [.ref 5000, .int (zi (iv M4 5000 (x3 + 1))), .ref 58, .int (zi r5)]) rfl ?_
  obtain ⟨r7, hv⟩ := hv
  refine am_xsld rfl r7 ?_
  refine am_xn 0 (c1 := (769, [.ref 5000, .ref 0, .ref 58, .int (zi x3)], [.int (zi (iv M4 5000 (x3 + 2))), .int (zi (iv M4 5000 (x3 + 1))), .ref 58, .int (zi r5)], M4)) rfl ?_
  refine am_xiadd 4 x3 3 (pc := 773) (ls := [.ref 5000, .ref 0, .ref 58, .int (zi x3)]) (st := [.ref 5000, .int (zi (iv M4 5000 (x3 + 2))), .int (zi (iv M4 5000 (x3 + 1))), .ref 58, .int (zi r5)]) rfl ?_
  obtain ⟨r8, hv⟩ := hv
  refine am_xsld rfl r8 ?_
  refine am_xn 0 (c1 := (774, [.ref 5000, .ref 0, .ref 58, .int (zi x3)], [.int (zi (iv M4 5000 (x3 + 3))), .int (zi (iv M4 5000 (x3 + 2))), .int (zi (iv M4 5000 (x3 + 1))), .ref 58, .int (zi r5)], M4)) rfl ?_
  obtain ⟨r10, M9, hc, hv⟩ := hv
  refine am_xc t_Mo_difference (.invokevirtual 90) 90 (av := [.ref 58, .int (zi (iv M4 5000 (x3 + 1))), .int (zi (iv M4 5000 (x3 + 2))), .int (zi (iv M4 5000 (x3 + 3)))]) (rest := [.int (zi r5)]) (rv := some (.int (zi r10))) (M' := M9) rfl rfl rfl rfl (Nat.le_of_ble_eq_true rfl) (fun _ => rfl) (hc) ?_
  refine am_xn 0 (c1 := (777, [.ref 5000, .ref 0, .ref 58, .int (zi x3)], [.int (zi r10), .int (zi r5)], M9)) rfl ?_
  obtain ⟨r11, hv⟩ := hv
  obtain ⟨r12, hv⟩ := hv
  refine am_xn 1 (c1 := (if zi r5 = zi r10 then 1152 else 780, [.ref 5000, .ref 0, .ref 58, .int (zi x3)], [], M9)) rfl (am_xeq r11 r12 (fun h => ?_) (fun h => ?_))
  · replace hv := hv.1 h
    exact hv
  · replace hv := hv.2 h
    refine am_xn 1 (c1 := (781, [.ref 5000, .ref 0, .ref 58, .int (zi x3)], [.int (zi 0)], M9)) rfl ?_
    exact am_xr (some (.int (zi 0))) ⟨rfl, rfl, .boolean, rfl, rfl⟩ hv
set_option maxRecDepth 100000 in
theorem vc_LAW_782 (x3 : Int) (M : am_M) (Q : Option Value → am_M → Prop) (hv : (0 ≤ (x3 + 1) ∧ (x3 + 1) < iv M 5001 0) ∧ ((0 ≤ (x3 + 2) ∧ (x3 + 2) < iv M 5001 0) ∧ (∃ (r4 : Int) (M3 : am_M), am_call t_SB_containing [.ref 0, .int (zi (iv M 5000 (x3 + 1))), .int (zi (iv M 5000 (x3 + 2)))] M (some (.int (zi r4))) M3 ∧ ((0 ≤ (x3 + 1) ∧ (x3 + 1) < iv M3 5001 0) ∧ ((0 ≤ (x3 + 2) ∧ (x3 + 2) < iv M3 5001 0) ∧ (∃ (r8 : Int) (M7 : am_M), am_call t_Mo_containing [.ref 58, .int (zi (iv M3 5000 (x3 + 1))), .int (zi (iv M3 5000 (x3 + 2)))] M3 (some (.int (zi r8))) M7 ∧ ((zr r4) ∧ ((zr r8) ∧ ((r4 = r8 → am_x t_LAW_law (1152, [.ref 5000, .ref 0, .ref 58, .int (zi x3)], [], M7) Q) ∧ (¬ r4 = r8 → Q (some (.int (zi 0))) M7)))))))))) : am_x t_LAW_law (782, [.ref 5000, .ref 0, .ref 58, .int (zi x3)], [], M) Q := by
  refine am_xiadd 5 x3 1 (pc := 787) (ls := [.ref 5000, .ref 0, .ref 58, .int (zi x3)]) (st := [.ref 5000, .ref 0]) rfl ?_
  obtain ⟨r1, hv⟩ := hv
  refine am_xsld rfl r1 ?_
  refine am_xn 0 (c1 := (788, [.ref 5000, .ref 0, .ref 58, .int (zi x3)], [.int (zi (iv M 5000 (x3 + 1))), .ref 0], M)) rfl ?_
  refine am_xiadd 4 x3 2 (pc := 792) (ls := [.ref 5000, .ref 0, .ref 58, .int (zi x3)]) (st := [.ref 5000, .int (zi (iv M 5000 (x3 + 1))), .ref 0]) rfl ?_
  obtain ⟨r2, hv⟩ := hv
  refine am_xsld rfl r2 ?_
  refine am_xn 0 (c1 := (793, [.ref 5000, .ref 0, .ref 58, .int (zi x3)], [.int (zi (iv M 5000 (x3 + 2))), .int (zi (iv M 5000 (x3 + 1))), .ref 0], M)) rfl ?_
  obtain ⟨r4, M3, hc, hv⟩ := hv
  refine am_xc t_SB_containing (.invokevirtual 91) 91 (av := [.ref 0, .int (zi (iv M 5000 (x3 + 1))), .int (zi (iv M 5000 (x3 + 2)))]) (rest := []) (rv := some (.int (zi r4))) (M' := M3) rfl rfl rfl rfl (Nat.le_of_ble_eq_true rfl) (fun _ => rfl) (hc) ?_
  refine am_xn 0 (c1 := (796, [.ref 5000, .ref 0, .ref 58, .int (zi x3)], [.int (zi r4)], M3)) rfl ?_
  refine am_xiadd 5 x3 1 (pc := 801) (ls := [.ref 5000, .ref 0, .ref 58, .int (zi x3)]) (st := [.ref 5000, .ref 58, .int (zi r4)]) rfl ?_
  obtain ⟨r5, hv⟩ := hv
  refine am_xsld rfl r5 ?_
  refine am_xn 0 (c1 := (802, [.ref 5000, .ref 0, .ref 58, .int (zi x3)], [.int (zi (iv M3 5000 (x3 + 1))), .ref 58, .int (zi r4)], M3)) rfl ?_
  refine am_xiadd 4 x3 2 (pc := 806) (ls := [.ref 5000, .ref 0, .ref 58, .int (zi x3)]) (st := [.ref 5000, .int (zi (iv M3 5000 (x3 + 1))), .ref 58, .int (zi r4)]) rfl ?_
  obtain ⟨r6, hv⟩ := hv
  refine am_xsld rfl r6 ?_
  refine am_xn 0 (c1 := (807, [.ref 5000, .ref 0, .ref 58, .int (zi x3)], [.int (zi (iv M3 5000 (x3 + 2))), .int (zi (iv M3 5000 (x3 + 1))), .ref 58, .int (zi r4)], M3)) rfl ?_
  obtain ⟨r8, M7, hc, hv⟩ := hv
  refine am_xc t_Mo_containing (.invokevirtual 94) 94 (av := [.ref 58, .int (zi (iv M3 5000 (x3 + 1))), .int (zi (iv M3 5000 (x3 + 2)))]) (rest := [.int (zi r4)]) (rv := some (.int (zi r8))) (M' := M7) rfl rfl rfl rfl (Nat.le_of_ble_eq_true rfl) (fun _ => rfl) (hc) ?_
  refine am_xn 0 (c1 := (810, [.ref 5000, .ref 0, .ref 58, .int (zi x3)], [.int (zi r8), .int (zi r4)], M7)) rfl ?_
  obtain ⟨r9, hv⟩ := hv
  obtain ⟨r10, hv⟩ := hv
  refine am_xn 1 (c1 := (if zi r4 = zi r8 then 1152 else 813, [.ref 5000, .ref 0, .ref 58, .int (zi x3)], [], M7)) rfl (am_xeq r9 r10 (fun h => ?_) (fun h => ?_))
  · replace hv := hv.1 h
    exact hv
  · replace hv := hv.2 h
    refine am_xn 1 (c1 := (814, [.ref 5000, .ref 0, .ref 58, .int (zi x3)], [.int (zi 0)], M7)) rfl ?_
    exact am_xr (some (.int (zi 0))) ⟨rfl, rfl, .boolean, rfl, rfl⟩ hv
set_option maxRecDepth 100000 in
theorem vc_LAW_815 (x3 : Int) (M : am_M) (Q : Option Value → am_M → Prop) (hv : (0 ≤ (x3 + 1) ∧ (x3 + 1) < iv M 5001 0) ∧ ((0 ≤ (x3 + 2) ∧ (x3 + 2) < iv M 5001 0) ∧ (∃ (r4 : Int) (M3 : am_M), am_call t_SB_references [.ref 0, .int (zi (iv M 5000 (x3 + 1))), .int (zi (iv M 5000 (x3 + 2)))] M (some (.int (zi r4))) M3 ∧ ((0 ≤ (x3 + 1) ∧ (x3 + 1) < iv M3 5001 0) ∧ ((0 ≤ (x3 + 2) ∧ (x3 + 2) < iv M3 5001 0) ∧ (∃ (r8 : Int) (M7 : am_M), am_call t_Mo_references [.ref 58, .int (zi (iv M3 5000 (x3 + 1))), .int (zi (iv M3 5000 (x3 + 2)))] M3 (some (.int (zi r8))) M7 ∧ ((zr r4) ∧ ((zr r8) ∧ ((r4 = r8 → am_x t_LAW_law (1152, [.ref 5000, .ref 0, .ref 58, .int (zi x3)], [], M7) Q) ∧ (¬ r4 = r8 → Q (some (.int (zi 0))) M7)))))))))) : am_x t_LAW_law (815, [.ref 5000, .ref 0, .ref 58, .int (zi x3)], [], M) Q := by
  refine am_xiadd 5 x3 1 (pc := 820) (ls := [.ref 5000, .ref 0, .ref 58, .int (zi x3)]) (st := [.ref 5000, .ref 0]) rfl ?_
  obtain ⟨r1, hv⟩ := hv
  refine am_xsld rfl r1 ?_
  refine am_xn 0 (c1 := (821, [.ref 5000, .ref 0, .ref 58, .int (zi x3)], [.int (zi (iv M 5000 (x3 + 1))), .ref 0], M)) rfl ?_
  refine am_xiadd 4 x3 2 (pc := 825) (ls := [.ref 5000, .ref 0, .ref 58, .int (zi x3)]) (st := [.ref 5000, .int (zi (iv M 5000 (x3 + 1))), .ref 0]) rfl ?_
  obtain ⟨r2, hv⟩ := hv
  refine am_xsld rfl r2 ?_
  refine am_xn 0 (c1 := (826, [.ref 5000, .ref 0, .ref 58, .int (zi x3)], [.int (zi (iv M 5000 (x3 + 2))), .int (zi (iv M 5000 (x3 + 1))), .ref 0], M)) rfl ?_
  obtain ⟨r4, M3, hc, hv⟩ := hv
  refine am_xc t_SB_references (.invokevirtual 95) 95 (av := [.ref 0, .int (zi (iv M 5000 (x3 + 1))), .int (zi (iv M 5000 (x3 + 2)))]) (rest := []) (rv := some (.int (zi r4))) (M' := M3) rfl rfl rfl rfl (Nat.le_of_ble_eq_true rfl) (fun _ => rfl) (hc) ?_
  refine am_xn 0 (c1 := (829, [.ref 5000, .ref 0, .ref 58, .int (zi x3)], [.int (zi r4)], M3)) rfl ?_
  refine am_xiadd 5 x3 1 (pc := 834) (ls := [.ref 5000, .ref 0, .ref 58, .int (zi x3)]) (st := [.ref 5000, .ref 58, .int (zi r4)]) rfl ?_
  obtain ⟨r5, hv⟩ := hv
  refine am_xsld rfl r5 ?_
  refine am_xn 0 (c1 := (835, [.ref 5000, .ref 0, .ref 58, .int (zi x3)], [.int (zi (iv M3 5000 (x3 + 1))), .ref 58, .int (zi r4)], M3)) rfl ?_
  refine am_xiadd 4 x3 2 (pc := 839) (ls := [.ref 5000, .ref 0, .ref 58, .int (zi x3)]) (st := [.ref 5000, .int (zi (iv M3 5000 (x3 + 1))), .ref 58, .int (zi r4)]) rfl ?_
  obtain ⟨r6, hv⟩ := hv
  refine am_xsld rfl r6 ?_
  refine am_xn 0 (c1 := (840, [.ref 5000, .ref 0, .ref 58, .int (zi x3)], [.int (zi (iv M3 5000 (x3 + 2))), .int (zi (iv M3 5000 (x3 + 1))), .ref 58, .int (zi r4)], M3)) rfl ?_
  obtain ⟨r8, M7, hc, hv⟩ := hv
  refine am_xc t_Mo_references (.invokevirtual 98) 98 (av := [.ref 58, .int (zi (iv M3 5000 (x3 + 1))), .int (zi (iv M3 5000 (x3 + 2)))]) (rest := [.int (zi r4)]) (rv := some (.int (zi r8))) (M' := M7) rfl rfl rfl rfl (Nat.le_of_ble_eq_true rfl) (fun _ => rfl) (hc) ?_
  refine am_xn 0 (c1 := (843, [.ref 5000, .ref 0, .ref 58, .int (zi x3)], [.int (zi r8), .int (zi r4)], M7)) rfl ?_
  obtain ⟨r9, hv⟩ := hv
  obtain ⟨r10, hv⟩ := hv
  refine am_xn 1 (c1 := (if zi r4 = zi r8 then 1152 else 846, [.ref 5000, .ref 0, .ref 58, .int (zi x3)], [], M7)) rfl (am_xeq r9 r10 (fun h => ?_) (fun h => ?_))
  · replace hv := hv.1 h
    exact hv
  · replace hv := hv.2 h
    refine am_xn 1 (c1 := (847, [.ref 5000, .ref 0, .ref 58, .int (zi x3)], [.int (zi 0)], M7)) rfl ?_
    exact am_xr (some (.int (zi 0))) ⟨rfl, rfl, .boolean, rfl, rfl⟩ hv
set_option maxRecDepth 100000 in
theorem vc_LAW_848 (x3 : Int) (M : am_M) (Q : Option Value → am_M → Prop) (hv : (0 ≤ (x3 + 1) ∧ (x3 + 1) < iv M 5001 0) ∧ ((0 ≤ (x3 + 2) ∧ (x3 + 2) < iv M 5001 0) ∧ ((0 ≤ (x3 + 3) ∧ (x3 + 3) < iv M 5001 0) ∧ (∃ (r5 : Int) (M4 : am_M), am_call t_SB_reach [.ref 0, .int (zi (iv M 5000 (x3 + 1))), .int (zi (iv M 5000 (x3 + 2))), .int (zi (iv M 5000 (x3 + 3)))] M (some (.int (zi r5))) M4 ∧ ((0 ≤ (x3 + 1) ∧ (x3 + 1) < iv M4 5001 0) ∧ ((0 ≤ (x3 + 2) ∧ (x3 + 2) < iv M4 5001 0) ∧ ((0 ≤ (x3 + 3) ∧ (x3 + 3) < iv M4 5001 0) ∧ (∃ (r10 : Int) (M9 : am_M), am_call t_Mo_reach [.ref 58, .int (zi (iv M4 5000 (x3 + 1))), .int (zi (iv M4 5000 (x3 + 2))), .int (zi (iv M4 5000 (x3 + 3)))] M4 (some (.int (zi r10))) M9 ∧ ((zr r5) ∧ ((zr r10) ∧ ((r5 = r10 → am_x t_LAW_law (1152, [.ref 5000, .ref 0, .ref 58, .int (zi x3)], [], M9) Q) ∧ (¬ r5 = r10 → Q (some (.int (zi 0))) M9)))))))))))) : am_x t_LAW_law (848, [.ref 5000, .ref 0, .ref 58, .int (zi x3)], [], M) Q := by
  refine am_xiadd 5 x3 1 (pc := 853) (ls := [.ref 5000, .ref 0, .ref 58, .int (zi x3)]) (st := [.ref 5000, .ref 0]) rfl ?_
  obtain ⟨r1, hv⟩ := hv
  refine am_xsld rfl r1 ?_
  refine am_xn 0 (c1 := (854, [.ref 5000, .ref 0, .ref 58, .int (zi x3)], [.int (zi (iv M 5000 (x3 + 1))), .ref 0], M)) rfl ?_
  refine am_xiadd 4 x3 2 (pc := 858) (ls := [.ref 5000, .ref 0, .ref 58, .int (zi x3)]) (st := [.ref 5000, .int (zi (iv M 5000 (x3 + 1))), .ref 0]) rfl ?_
  obtain ⟨r2, hv⟩ := hv
  refine am_xsld rfl r2 ?_
  refine am_xn 0 (c1 := (859, [.ref 5000, .ref 0, .ref 58, .int (zi x3)], [.int (zi (iv M 5000 (x3 + 2))), .int (zi (iv M 5000 (x3 + 1))), .ref 0], M)) rfl ?_
  refine am_xiadd 4 x3 3 (pc := 863) (ls := [.ref 5000, .ref 0, .ref 58, .int (zi x3)]) (st := [.ref 5000, .int (zi (iv M 5000 (x3 + 2))), .int (zi (iv M 5000 (x3 + 1))), .ref 0]) rfl ?_
  obtain ⟨r3, hv⟩ := hv
  refine am_xsld rfl r3 ?_
  refine am_xn 0 (c1 := (864, [.ref 5000, .ref 0, .ref 58, .int (zi x3)], [.int (zi (iv M 5000 (x3 + 3))), .int (zi (iv M 5000 (x3 + 2))), .int (zi (iv M 5000 (x3 + 1))), .ref 0], M)) rfl ?_
  obtain ⟨r5, M4, hc, hv⟩ := hv
  refine am_xc t_SB_reach (.invokevirtual 99) 99 (av := [.ref 0, .int (zi (iv M 5000 (x3 + 1))), .int (zi (iv M 5000 (x3 + 2))), .int (zi (iv M 5000 (x3 + 3)))]) (rest := []) (rv := some (.int (zi r5))) (M' := M4) rfl rfl rfl rfl (Nat.le_of_ble_eq_true rfl) (fun _ => rfl) (hc) ?_
  refine am_xn 0 (c1 := (867, [.ref 5000, .ref 0, .ref 58, .int (zi x3)], [.int (zi r5)], M4)) rfl ?_
  refine am_xiadd 5 x3 1 (pc := 872) (ls := [.ref 5000, .ref 0, .ref 58, .int (zi x3)]) (st := [.ref 5000, .ref 58, .int (zi r5)]) rfl ?_
  obtain ⟨r6, hv⟩ := hv
  refine am_xsld rfl r6 ?_
  refine am_xn 0 (c1 := (873, [.ref 5000, .ref 0, .ref 58, .int (zi x3)], [.int (zi (iv M4 5000 (x3 + 1))), .ref 58, .int (zi r5)], M4)) rfl ?_
  refine am_xiadd 4 x3 2 (pc := 877) (ls := [.ref 5000, .ref 0, .ref 58, .int (zi x3)]) (st := [.ref 5000, .int (zi (iv M4 5000 (x3 + 1))), .ref 58, .int (zi r5)]) rfl ?_
  obtain ⟨r7, hv⟩ := hv
  refine am_xsld rfl r7 ?_
  refine am_xn 0 (c1 := (878, [.ref 5000, .ref 0, .ref 58, .int (zi x3)], [.int (zi (iv M4 5000 (x3 + 2))), .int (zi (iv M4 5000 (x3 + 1))), .ref 58, .int (zi r5)], M4)) rfl ?_
  refine am_xiadd 4 x3 3 (pc := 882) (ls := [.ref 5000, .ref 0, .ref 58, .int (zi x3)]) (st := [.ref 5000, .int (zi (iv M4 5000 (x3 + 2))), .int (zi (iv M4 5000 (x3 + 1))), .ref 58, .int (zi r5)]) rfl ?_
  obtain ⟨r8, hv⟩ := hv
  refine am_xsld rfl r8 ?_
  refine am_xn 0 (c1 := (883, [.ref 5000, .ref 0, .ref 58, .int (zi x3)], [.int (zi (iv M4 5000 (x3 + 3))), .int (zi (iv M4 5000 (x3 + 2))), .int (zi (iv M4 5000 (x3 + 1))), .ref 58, .int (zi r5)], M4)) rfl ?_
  obtain ⟨r10, M9, hc, hv⟩ := hv
  refine am_xc t_Mo_reach (.invokevirtual 102) 102 (av := [.ref 58, .int (zi (iv M4 5000 (x3 + 1))), .int (zi (iv M4 5000 (x3 + 2))), .int (zi (iv M4 5000 (x3 + 3)))]) (rest := [.int (zi r5)]) (rv := some (.int (zi r10))) (M' := M9) rfl rfl rfl rfl (Nat.le_of_ble_eq_true rfl) (fun _ => rfl) (hc) ?_
  refine am_xn 0 (c1 := (886, [.ref 5000, .ref 0, .ref 58, .int (zi x3)], [.int (zi r10), .int (zi r5)], M9)) rfl ?_
  obtain ⟨r11, hv⟩ := hv
  obtain ⟨r12, hv⟩ := hv
  refine am_xn 1 (c1 := (if zi r5 = zi r10 then 1152 else 889, [.ref 5000, .ref 0, .ref 58, .int (zi x3)], [], M9)) rfl (am_xeq r11 r12 (fun h => ?_) (fun h => ?_))
  · replace hv := hv.1 h
    exact hv
  · replace hv := hv.2 h
    refine am_xn 1 (c1 := (890, [.ref 5000, .ref 0, .ref 58, .int (zi x3)], [.int (zi 0)], M9)) rfl ?_
    exact am_xr (some (.int (zi 0))) ⟨rfl, rfl, .boolean, rfl, rfl⟩ hv
set_option maxRecDepth 100000 in
theorem vc_LAW_891 (x3 : Int) (M : am_M) (Q : Option Value → am_M → Prop) (hv : (0 ≤ (x3 + 1) ∧ (x3 + 1) < iv M 5001 0) ∧ (∃ (r3 : Int) (M2 : am_M), am_call t_SB_tally [.ref 0, .int (zi (iv M 5000 (x3 + 1)))] M (some (.int (zi r3))) M2 ∧ ((0 ≤ (x3 + 1) ∧ (x3 + 1) < iv M2 5001 0) ∧ (∃ (r6 : Int) (M5 : am_M), am_call t_Mo_tally [.ref 58, .int (zi (iv M2 5000 (x3 + 1)))] M2 (some (.int (zi r6))) M5 ∧ ((zr r3) ∧ ((zr r6) ∧ ((r3 = r6 → am_x t_LAW_law (1152, [.ref 5000, .ref 0, .ref 58, .int (zi x3)], [], M5) Q) ∧ (¬ r3 = r6 → Q (some (.int (zi 0))) M5)))))))) : am_x t_LAW_law (891, [.ref 5000, .ref 0, .ref 58, .int (zi x3)], [], M) Q := by
  refine am_xiadd 5 x3 1 (pc := 896) (ls := [.ref 5000, .ref 0, .ref 58, .int (zi x3)]) (st := [.ref 5000, .ref 0]) rfl ?_
  obtain ⟨r1, hv⟩ := hv
  refine am_xsld rfl r1 ?_
  refine am_xn 0 (c1 := (897, [.ref 5000, .ref 0, .ref 58, .int (zi x3)], [.int (zi (iv M 5000 (x3 + 1))), .ref 0], M)) rfl ?_
  obtain ⟨r3, M2, hc, hv⟩ := hv
  refine am_xc t_SB_tally (.invokevirtual 103) 103 (av := [.ref 0, .int (zi (iv M 5000 (x3 + 1)))]) (rest := []) (rv := some (.int (zi r3))) (M' := M2) rfl rfl rfl rfl (Nat.le_of_ble_eq_true rfl) (fun _ => rfl) (hc) ?_
  refine am_xn 0 (c1 := (900, [.ref 5000, .ref 0, .ref 58, .int (zi x3)], [.int (zi r3)], M2)) rfl ?_
  refine am_xiadd 5 x3 1 (pc := 905) (ls := [.ref 5000, .ref 0, .ref 58, .int (zi x3)]) (st := [.ref 5000, .ref 58, .int (zi r3)]) rfl ?_
  obtain ⟨r4, hv⟩ := hv
  refine am_xsld rfl r4 ?_
  refine am_xn 0 (c1 := (906, [.ref 5000, .ref 0, .ref 58, .int (zi x3)], [.int (zi (iv M2 5000 (x3 + 1))), .ref 58, .int (zi r3)], M2)) rfl ?_
  obtain ⟨r6, M5, hc, hv⟩ := hv
  refine am_xc t_Mo_tally (.invokevirtual 106) 106 (av := [.ref 58, .int (zi (iv M2 5000 (x3 + 1)))]) (rest := [.int (zi r3)]) (rv := some (.int (zi r6))) (M' := M5) rfl rfl rfl rfl (Nat.le_of_ble_eq_true rfl) (fun _ => rfl) (hc) ?_
  refine am_xn 0 (c1 := (909, [.ref 5000, .ref 0, .ref 58, .int (zi x3)], [.int (zi r6), .int (zi r3)], M5)) rfl ?_
  obtain ⟨r7, hv⟩ := hv
  obtain ⟨r8, hv⟩ := hv
  refine am_xn 1 (c1 := (if zi r3 = zi r6 then 1152 else 912, [.ref 5000, .ref 0, .ref 58, .int (zi x3)], [], M5)) rfl (am_xeq r7 r8 (fun h => ?_) (fun h => ?_))
  · replace hv := hv.1 h
    exact hv
  · replace hv := hv.2 h
    refine am_xn 1 (c1 := (913, [.ref 5000, .ref 0, .ref 58, .int (zi x3)], [.int (zi 0)], M5)) rfl ?_
    exact am_xr (some (.int (zi 0))) ⟨rfl, rfl, .boolean, rfl, rfl⟩ hv
set_option maxRecDepth 100000 in
theorem vc_LAW_914 (x3 : Int) (M : am_M) (Q : Option Value → am_M → Prop) (hv : (0 ≤ (x3 + 1) ∧ (x3 + 1) < iv M 5001 0) ∧ ((0 ≤ (x3 + 2) ∧ (x3 + 2) < iv M 5001 0) ∧ (∃ (r4 : Int) (M3 : am_M), am_call t_SB_conflict [.ref 0, .int (zi (iv M 5000 (x3 + 1))), .int (zi (iv M 5000 (x3 + 2)))] M (some (.int (zi r4))) M3 ∧ ((0 ≤ (x3 + 1) ∧ (x3 + 1) < iv M3 5001 0) ∧ ((0 ≤ (x3 + 2) ∧ (x3 + 2) < iv M3 5001 0) ∧ (∃ (r8 : Int) (M7 : am_M), am_call t_Mo_conflict [.ref 58, .int (zi (iv M3 5000 (x3 + 1))), .int (zi (iv M3 5000 (x3 + 2)))] M3 (some (.int (zi r8))) M7 ∧ ((zr r4) ∧ ((zr r8) ∧ ((r4 = r8 → am_x t_LAW_law (1152, [.ref 5000, .ref 0, .ref 58, .int (zi x3)], [], M7) Q) ∧ (¬ r4 = r8 → Q (some (.int (zi 0))) M7)))))))))) : am_x t_LAW_law (914, [.ref 5000, .ref 0, .ref 58, .int (zi x3)], [], M) Q := by
  refine am_xiadd 5 x3 1 (pc := 919) (ls := [.ref 5000, .ref 0, .ref 58, .int (zi x3)]) (st := [.ref 5000, .ref 0]) rfl ?_
  obtain ⟨r1, hv⟩ := hv
  refine am_xsld rfl r1 ?_
  refine am_xn 0 (c1 := (920, [.ref 5000, .ref 0, .ref 58, .int (zi x3)], [.int (zi (iv M 5000 (x3 + 1))), .ref 0], M)) rfl ?_
  refine am_xiadd 4 x3 2 (pc := 924) (ls := [.ref 5000, .ref 0, .ref 58, .int (zi x3)]) (st := [.ref 5000, .int (zi (iv M 5000 (x3 + 1))), .ref 0]) rfl ?_
  obtain ⟨r2, hv⟩ := hv
  refine am_xsld rfl r2 ?_
  refine am_xn 0 (c1 := (925, [.ref 5000, .ref 0, .ref 58, .int (zi x3)], [.int (zi (iv M 5000 (x3 + 2))), .int (zi (iv M 5000 (x3 + 1))), .ref 0], M)) rfl ?_
  obtain ⟨r4, M3, hc, hv⟩ := hv
  refine am_xc t_SB_conflict (.invokevirtual 107) 107 (av := [.ref 0, .int (zi (iv M 5000 (x3 + 1))), .int (zi (iv M 5000 (x3 + 2)))]) (rest := []) (rv := some (.int (zi r4))) (M' := M3) rfl rfl rfl rfl (Nat.le_of_ble_eq_true rfl) (fun _ => rfl) (hc) ?_
  refine am_xn 0 (c1 := (928, [.ref 5000, .ref 0, .ref 58, .int (zi x3)], [.int (zi r4)], M3)) rfl ?_
  refine am_xiadd 5 x3 1 (pc := 933) (ls := [.ref 5000, .ref 0, .ref 58, .int (zi x3)]) (st := [.ref 5000, .ref 58, .int (zi r4)]) rfl ?_
  obtain ⟨r5, hv⟩ := hv
  refine am_xsld rfl r5 ?_
  refine am_xn 0 (c1 := (934, [.ref 5000, .ref 0, .ref 58, .int (zi x3)], [.int (zi (iv M3 5000 (x3 + 1))), .ref 58, .int (zi r4)], M3)) rfl ?_
  refine am_xiadd 4 x3 2 (pc := 938) (ls := [.ref 5000, .ref 0, .ref 58, .int (zi x3)]) (st := [.ref 5000, .int (zi (iv M3 5000 (x3 + 1))), .ref 58, .int (zi r4)]) rfl ?_
  obtain ⟨r6, hv⟩ := hv
  refine am_xsld rfl r6 ?_
  refine am_xn 0 (c1 := (939, [.ref 5000, .ref 0, .ref 58, .int (zi x3)], [.int (zi (iv M3 5000 (x3 + 2))), .int (zi (iv M3 5000 (x3 + 1))), .ref 58, .int (zi r4)], M3)) rfl ?_
  obtain ⟨r8, M7, hc, hv⟩ := hv
  refine am_xc t_Mo_conflict (.invokevirtual 110) 110 (av := [.ref 58, .int (zi (iv M3 5000 (x3 + 1))), .int (zi (iv M3 5000 (x3 + 2)))]) (rest := [.int (zi r4)]) (rv := some (.int (zi r8))) (M' := M7) rfl rfl rfl rfl (Nat.le_of_ble_eq_true rfl) (fun _ => rfl) (hc) ?_
  refine am_xn 0 (c1 := (942, [.ref 5000, .ref 0, .ref 58, .int (zi x3)], [.int (zi r8), .int (zi r4)], M7)) rfl ?_
  obtain ⟨r9, hv⟩ := hv
  obtain ⟨r10, hv⟩ := hv
  refine am_xn 1 (c1 := (if zi r4 = zi r8 then 1152 else 945, [.ref 5000, .ref 0, .ref 58, .int (zi x3)], [], M7)) rfl (am_xeq r9 r10 (fun h => ?_) (fun h => ?_))
  · replace hv := hv.1 h
    exact hv
  · replace hv := hv.2 h
    refine am_xn 1 (c1 := (946, [.ref 5000, .ref 0, .ref 58, .int (zi x3)], [.int (zi 0)], M7)) rfl ?_
    exact am_xr (some (.int (zi 0))) ⟨rfl, rfl, .boolean, rfl, rfl⟩ hv
set_option maxRecDepth 100000 in
theorem vc_LAW_947 (x3 : Int) (M : am_M) (Q : Option Value → am_M → Prop) (hv : (0 ≤ (x3 + 1) ∧ (x3 + 1) < iv M 5001 0) ∧ ((0 ≤ (x3 + 2) ∧ (x3 + 2) < iv M 5001 0) ∧ (∃ (r4 : Int) (M3 : am_M), am_call t_SB_effect [.ref 0, .int (zi (iv M 5000 (x3 + 1))), .int (zi (iv M 5000 (x3 + 2)))] M (some (.int (zi r4))) M3 ∧ ((0 ≤ (x3 + 1) ∧ (x3 + 1) < iv M3 5001 0) ∧ ((0 ≤ (x3 + 2) ∧ (x3 + 2) < iv M3 5001 0) ∧ (∃ (r8 : Int) (M7 : am_M), am_call t_Mo_effect [.ref 58, .int (zi (iv M3 5000 (x3 + 1))), .int (zi (iv M3 5000 (x3 + 2)))] M3 (some (.int (zi r8))) M7 ∧ ((zr r4) ∧ ((zr r8) ∧ ((r4 = r8 → am_x t_LAW_law (1152, [.ref 5000, .ref 0, .ref 58, .int (zi x3)], [], M7) Q) ∧ (¬ r4 = r8 → Q (some (.int (zi 0))) M7)))))))))) : am_x t_LAW_law (947, [.ref 5000, .ref 0, .ref 58, .int (zi x3)], [], M) Q := by
  refine am_xiadd 5 x3 1 (pc := 952) (ls := [.ref 5000, .ref 0, .ref 58, .int (zi x3)]) (st := [.ref 5000, .ref 0]) rfl ?_
  obtain ⟨r1, hv⟩ := hv
  refine am_xsld rfl r1 ?_
  refine am_xn 0 (c1 := (953, [.ref 5000, .ref 0, .ref 58, .int (zi x3)], [.int (zi (iv M 5000 (x3 + 1))), .ref 0], M)) rfl ?_
  refine am_xiadd 4 x3 2 (pc := 957) (ls := [.ref 5000, .ref 0, .ref 58, .int (zi x3)]) (st := [.ref 5000, .int (zi (iv M 5000 (x3 + 1))), .ref 0]) rfl ?_
  obtain ⟨r2, hv⟩ := hv
  refine am_xsld rfl r2 ?_
  refine am_xn 0 (c1 := (958, [.ref 5000, .ref 0, .ref 58, .int (zi x3)], [.int (zi (iv M 5000 (x3 + 2))), .int (zi (iv M 5000 (x3 + 1))), .ref 0], M)) rfl ?_
  obtain ⟨r4, M3, hc, hv⟩ := hv
  refine am_xc t_SB_effect (.invokevirtual 111) 111 (av := [.ref 0, .int (zi (iv M 5000 (x3 + 1))), .int (zi (iv M 5000 (x3 + 2)))]) (rest := []) (rv := some (.int (zi r4))) (M' := M3) rfl rfl rfl rfl (Nat.le_of_ble_eq_true rfl) (fun _ => rfl) (hc) ?_
  refine am_xn 0 (c1 := (961, [.ref 5000, .ref 0, .ref 58, .int (zi x3)], [.int (zi r4)], M3)) rfl ?_
  refine am_xiadd 5 x3 1 (pc := 966) (ls := [.ref 5000, .ref 0, .ref 58, .int (zi x3)]) (st := [.ref 5000, .ref 58, .int (zi r4)]) rfl ?_
  obtain ⟨r5, hv⟩ := hv
  refine am_xsld rfl r5 ?_
  refine am_xn 0 (c1 := (967, [.ref 5000, .ref 0, .ref 58, .int (zi x3)], [.int (zi (iv M3 5000 (x3 + 1))), .ref 58, .int (zi r4)], M3)) rfl ?_
  refine am_xiadd 4 x3 2 (pc := 971) (ls := [.ref 5000, .ref 0, .ref 58, .int (zi x3)]) (st := [.ref 5000, .int (zi (iv M3 5000 (x3 + 1))), .ref 58, .int (zi r4)]) rfl ?_
  obtain ⟨r6, hv⟩ := hv
  refine am_xsld rfl r6 ?_
  refine am_xn 0 (c1 := (972, [.ref 5000, .ref 0, .ref 58, .int (zi x3)], [.int (zi (iv M3 5000 (x3 + 2))), .int (zi (iv M3 5000 (x3 + 1))), .ref 58, .int (zi r4)], M3)) rfl ?_
  obtain ⟨r8, M7, hc, hv⟩ := hv
  refine am_xc t_Mo_effect (.invokevirtual 114) 114 (av := [.ref 58, .int (zi (iv M3 5000 (x3 + 1))), .int (zi (iv M3 5000 (x3 + 2)))]) (rest := [.int (zi r4)]) (rv := some (.int (zi r8))) (M' := M7) rfl rfl rfl rfl (Nat.le_of_ble_eq_true rfl) (fun _ => rfl) (hc) ?_
  refine am_xn 0 (c1 := (975, [.ref 5000, .ref 0, .ref 58, .int (zi x3)], [.int (zi r8), .int (zi r4)], M7)) rfl ?_
  obtain ⟨r9, hv⟩ := hv
  obtain ⟨r10, hv⟩ := hv
  refine am_xn 1 (c1 := (if zi r4 = zi r8 then 1152 else 978, [.ref 5000, .ref 0, .ref 58, .int (zi x3)], [], M7)) rfl (am_xeq r9 r10 (fun h => ?_) (fun h => ?_))
  · replace hv := hv.1 h
    exact hv
  · replace hv := hv.2 h
    refine am_xn 1 (c1 := (979, [.ref 5000, .ref 0, .ref 58, .int (zi x3)], [.int (zi 0)], M7)) rfl ?_
    exact am_xr (some (.int (zi 0))) ⟨rfl, rfl, .boolean, rfl, rfl⟩ hv
set_option maxRecDepth 100000 in
theorem vc_LAW_980 (x3 : Int) (M : am_M) (Q : Option Value → am_M → Prop) (hv : (0 ≤ (x3 + 1) ∧ (x3 + 1) < iv M 5001 0) ∧ ((0 ≤ (x3 + 2) ∧ (x3 + 2) < iv M 5001 0) ∧ (∃ (r4 : Int) (M3 : am_M), am_call t_SB_fewestRevocations [.ref 0, .int (zi (iv M 5000 (x3 + 1))), .int (zi (iv M 5000 (x3 + 2)))] M (some (.int (zi r4))) M3 ∧ ((0 ≤ (x3 + 1) ∧ (x3 + 1) < iv M3 5001 0) ∧ ((0 ≤ (x3 + 2) ∧ (x3 + 2) < iv M3 5001 0) ∧ (∃ (r8 : Int) (M7 : am_M), am_call t_Mo_fewestRevocations [.ref 58, .int (zi (iv M3 5000 (x3 + 1))), .int (zi (iv M3 5000 (x3 + 2)))] M3 (some (.int (zi r8))) M7 ∧ ((zr r4) ∧ ((zr r8) ∧ ((r4 = r8 → am_x t_LAW_law (1152, [.ref 5000, .ref 0, .ref 58, .int (zi x3)], [], M7) Q) ∧ (¬ r4 = r8 → Q (some (.int (zi 0))) M7)))))))))) : am_x t_LAW_law (980, [.ref 5000, .ref 0, .ref 58, .int (zi x3)], [], M) Q := by
  refine am_xiadd 5 x3 1 (pc := 985) (ls := [.ref 5000, .ref 0, .ref 58, .int (zi x3)]) (st := [.ref 5000, .ref 0]) rfl ?_
  obtain ⟨r1, hv⟩ := hv
  refine am_xsld rfl r1 ?_
  refine am_xn 0 (c1 := (986, [.ref 5000, .ref 0, .ref 58, .int (zi x3)], [.int (zi (iv M 5000 (x3 + 1))), .ref 0], M)) rfl ?_
  refine am_xiadd 4 x3 2 (pc := 990) (ls := [.ref 5000, .ref 0, .ref 58, .int (zi x3)]) (st := [.ref 5000, .int (zi (iv M 5000 (x3 + 1))), .ref 0]) rfl ?_
  obtain ⟨r2, hv⟩ := hv
  refine am_xsld rfl r2 ?_
  refine am_xn 0 (c1 := (991, [.ref 5000, .ref 0, .ref 58, .int (zi x3)], [.int (zi (iv M 5000 (x3 + 2))), .int (zi (iv M 5000 (x3 + 1))), .ref 0], M)) rfl ?_
  obtain ⟨r4, M3, hc, hv⟩ := hv
  refine am_xc t_SB_fewestRevocations (.invokevirtual 115) 115 (av := [.ref 0, .int (zi (iv M 5000 (x3 + 1))), .int (zi (iv M 5000 (x3 + 2)))]) (rest := []) (rv := some (.int (zi r4))) (M' := M3) rfl rfl rfl rfl (Nat.le_of_ble_eq_true rfl) (fun _ => rfl) (hc) ?_
  refine am_xn 0 (c1 := (994, [.ref 5000, .ref 0, .ref 58, .int (zi x3)], [.int (zi r4)], M3)) rfl ?_
  refine am_xiadd 5 x3 1 (pc := 999) (ls := [.ref 5000, .ref 0, .ref 58, .int (zi x3)]) (st := [.ref 5000, .ref 58, .int (zi r4)]) rfl ?_
  obtain ⟨r5, hv⟩ := hv
  refine am_xsld rfl r5 ?_
  refine am_xn 0 (c1 := (1000, [.ref 5000, .ref 0, .ref 58, .int (zi x3)], [.int (zi (iv M3 5000 (x3 + 1))), .ref 58, .int (zi r4)], M3)) rfl ?_
  refine am_xiadd 4 x3 2 (pc := 1004) (ls := [.ref 5000, .ref 0, .ref 58, .int (zi x3)]) (st := [.ref 5000, .int (zi (iv M3 5000 (x3 + 1))), .ref 58, .int (zi r4)]) rfl ?_
  obtain ⟨r6, hv⟩ := hv
  refine am_xsld rfl r6 ?_
  refine am_xn 0 (c1 := (1005, [.ref 5000, .ref 0, .ref 58, .int (zi x3)], [.int (zi (iv M3 5000 (x3 + 2))), .int (zi (iv M3 5000 (x3 + 1))), .ref 58, .int (zi r4)], M3)) rfl ?_
  obtain ⟨r8, M7, hc, hv⟩ := hv
  refine am_xc t_Mo_fewestRevocations (.invokevirtual 118) 118 (av := [.ref 58, .int (zi (iv M3 5000 (x3 + 1))), .int (zi (iv M3 5000 (x3 + 2)))]) (rest := [.int (zi r4)]) (rv := some (.int (zi r8))) (M' := M7) rfl rfl rfl rfl (Nat.le_of_ble_eq_true rfl) (fun _ => rfl) (hc) ?_
  refine am_xn 0 (c1 := (1008, [.ref 5000, .ref 0, .ref 58, .int (zi x3)], [.int (zi r8), .int (zi r4)], M7)) rfl ?_
  obtain ⟨r9, hv⟩ := hv
  obtain ⟨r10, hv⟩ := hv
  refine am_xn 1 (c1 := (if zi r4 = zi r8 then 1152 else 1011, [.ref 5000, .ref 0, .ref 58, .int (zi x3)], [], M7)) rfl (am_xeq r9 r10 (fun h => ?_) (fun h => ?_))
  · replace hv := hv.1 h
    exact hv
  · replace hv := hv.2 h
    refine am_xn 1 (c1 := (1012, [.ref 5000, .ref 0, .ref 58, .int (zi x3)], [.int (zi 0)], M7)) rfl ?_
    exact am_xr (some (.int (zi 0))) ⟨rfl, rfl, .boolean, rfl, rfl⟩ hv
set_option maxRecDepth 100000 in
theorem vc_LAW_1013 (x3 : Int) (M : am_M) (Q : Option Value → am_M → Prop) (hv : (0 ≤ (x3 + 1) ∧ (x3 + 1) < iv M 5001 0) ∧ ((0 ≤ (x3 + 2) ∧ (x3 + 2) < iv M 5001 0) ∧ (∃ (r4 : Int) (M3 : am_M), am_call t_SB_between [.ref 0, .int (zi (iv M 5000 (x3 + 1))), .int (zi (iv M 5000 (x3 + 2)))] M (some (.int (zi r4))) M3 ∧ ((0 ≤ (x3 + 1) ∧ (x3 + 1) < iv M3 5001 0) ∧ ((0 ≤ (x3 + 2) ∧ (x3 + 2) < iv M3 5001 0) ∧ (∃ (r8 : Int) (M7 : am_M), am_call t_Mo_between [.ref 58, .int (zi (iv M3 5000 (x3 + 1))), .int (zi (iv M3 5000 (x3 + 2)))] M3 (some (.int (zi r8))) M7 ∧ ((zr r4) ∧ ((zr r8) ∧ ((r4 = r8 → am_x t_LAW_law (1152, [.ref 5000, .ref 0, .ref 58, .int (zi x3)], [], M7) Q) ∧ (¬ r4 = r8 → Q (some (.int (zi 0))) M7)))))))))) : am_x t_LAW_law (1013, [.ref 5000, .ref 0, .ref 58, .int (zi x3)], [], M) Q := by
  refine am_xiadd 5 x3 1 (pc := 1018) (ls := [.ref 5000, .ref 0, .ref 58, .int (zi x3)]) (st := [.ref 5000, .ref 0]) rfl ?_
  obtain ⟨r1, hv⟩ := hv
  refine am_xsld rfl r1 ?_
  refine am_xn 0 (c1 := (1019, [.ref 5000, .ref 0, .ref 58, .int (zi x3)], [.int (zi (iv M 5000 (x3 + 1))), .ref 0], M)) rfl ?_
  refine am_xiadd 4 x3 2 (pc := 1023) (ls := [.ref 5000, .ref 0, .ref 58, .int (zi x3)]) (st := [.ref 5000, .int (zi (iv M 5000 (x3 + 1))), .ref 0]) rfl ?_
  obtain ⟨r2, hv⟩ := hv
  refine am_xsld rfl r2 ?_
  refine am_xn 0 (c1 := (1024, [.ref 5000, .ref 0, .ref 58, .int (zi x3)], [.int (zi (iv M 5000 (x3 + 2))), .int (zi (iv M 5000 (x3 + 1))), .ref 0], M)) rfl ?_
  obtain ⟨r4, M3, hc, hv⟩ := hv
  refine am_xc t_SB_between (.invokevirtual 119) 119 (av := [.ref 0, .int (zi (iv M 5000 (x3 + 1))), .int (zi (iv M 5000 (x3 + 2)))]) (rest := []) (rv := some (.int (zi r4))) (M' := M3) rfl rfl rfl rfl (Nat.le_of_ble_eq_true rfl) (fun _ => rfl) (hc) ?_
  refine am_xn 0 (c1 := (1027, [.ref 5000, .ref 0, .ref 58, .int (zi x3)], [.int (zi r4)], M3)) rfl ?_
  refine am_xiadd 5 x3 1 (pc := 1032) (ls := [.ref 5000, .ref 0, .ref 58, .int (zi x3)]) (st := [.ref 5000, .ref 58, .int (zi r4)]) rfl ?_
  obtain ⟨r5, hv⟩ := hv
  refine am_xsld rfl r5 ?_
  refine am_xn 0 (c1 := (1033, [.ref 5000, .ref 0, .ref 58, .int (zi x3)], [.int (zi (iv M3 5000 (x3 + 1))), .ref 58, .int (zi r4)], M3)) rfl ?_
  refine am_xiadd 4 x3 2 (pc := 1037) (ls := [.ref 5000, .ref 0, .ref 58, .int (zi x3)]) (st := [.ref 5000, .int (zi (iv M3 5000 (x3 + 1))), .ref 58, .int (zi r4)]) rfl ?_
  obtain ⟨r6, hv⟩ := hv
  refine am_xsld rfl r6 ?_
  refine am_xn 0 (c1 := (1038, [.ref 5000, .ref 0, .ref 58, .int (zi x3)], [.int (zi (iv M3 5000 (x3 + 2))), .int (zi (iv M3 5000 (x3 + 1))), .ref 58, .int (zi r4)], M3)) rfl ?_
  obtain ⟨r8, M7, hc, hv⟩ := hv
  refine am_xc t_Mo_between (.invokevirtual 122) 122 (av := [.ref 58, .int (zi (iv M3 5000 (x3 + 1))), .int (zi (iv M3 5000 (x3 + 2)))]) (rest := [.int (zi r4)]) (rv := some (.int (zi r8))) (M' := M7) rfl rfl rfl rfl (Nat.le_of_ble_eq_true rfl) (fun _ => rfl) (hc) ?_
  refine am_xn 0 (c1 := (1041, [.ref 5000, .ref 0, .ref 58, .int (zi x3)], [.int (zi r8), .int (zi r4)], M7)) rfl ?_
  obtain ⟨r9, hv⟩ := hv
  obtain ⟨r10, hv⟩ := hv
  refine am_xn 1 (c1 := (if zi r4 = zi r8 then 1152 else 1044, [.ref 5000, .ref 0, .ref 58, .int (zi x3)], [], M7)) rfl (am_xeq r9 r10 (fun h => ?_) (fun h => ?_))
  · replace hv := hv.1 h
    exact hv
  · replace hv := hv.2 h
    refine am_xn 1 (c1 := (1045, [.ref 5000, .ref 0, .ref 58, .int (zi x3)], [.int (zi 0)], M7)) rfl ?_
    exact am_xr (some (.int (zi 0))) ⟨rfl, rfl, .boolean, rfl, rfl⟩ hv
set_option maxRecDepth 100000 in
theorem vc_LAW_1046 (x3 : Int) (M : am_M) (Q : Option Value → am_M → Prop) (hv : (0 ≤ (x3 + 1) ∧ (x3 + 1) < iv M 5001 0) ∧ (∃ (r3 : Int) (M2 : am_M), am_call t_SB_tidy [.ref 0, .int (zi (iv M 5000 (x3 + 1)))] M (some (.int (zi r3))) M2 ∧ ((0 ≤ (x3 + 1) ∧ (x3 + 1) < iv M2 5001 0) ∧ (∃ (r6 : Int) (M5 : am_M), am_call t_Mo_tidy [.ref 58, .int (zi (iv M2 5000 (x3 + 1)))] M2 (some (.int (zi r6))) M5 ∧ ((zr r3) ∧ ((zr r6) ∧ ((r3 = r6 → am_x t_LAW_law (1152, [.ref 5000, .ref 0, .ref 58, .int (zi x3)], [], M5) Q) ∧ (¬ r3 = r6 → Q (some (.int (zi 0))) M5)))))))) : am_x t_LAW_law (1046, [.ref 5000, .ref 0, .ref 58, .int (zi x3)], [], M) Q := by
  refine am_xiadd 5 x3 1 (pc := 1051) (ls := [.ref 5000, .ref 0, .ref 58, .int (zi x3)]) (st := [.ref 5000, .ref 0]) rfl ?_
  obtain ⟨r1, hv⟩ := hv
  refine am_xsld rfl r1 ?_
  refine am_xn 0 (c1 := (1052, [.ref 5000, .ref 0, .ref 58, .int (zi x3)], [.int (zi (iv M 5000 (x3 + 1))), .ref 0], M)) rfl ?_
  obtain ⟨r3, M2, hc, hv⟩ := hv
  refine am_xc t_SB_tidy (.invokevirtual 123) 123 (av := [.ref 0, .int (zi (iv M 5000 (x3 + 1)))]) (rest := []) (rv := some (.int (zi r3))) (M' := M2) rfl rfl rfl rfl (Nat.le_of_ble_eq_true rfl) (fun _ => rfl) (hc) ?_
  refine am_xn 0 (c1 := (1055, [.ref 5000, .ref 0, .ref 58, .int (zi x3)], [.int (zi r3)], M2)) rfl ?_
  refine am_xiadd 5 x3 1 (pc := 1060) (ls := [.ref 5000, .ref 0, .ref 58, .int (zi x3)]) (st := [.ref 5000, .ref 58, .int (zi r3)]) rfl ?_
  obtain ⟨r4, hv⟩ := hv
  refine am_xsld rfl r4 ?_
  refine am_xn 0 (c1 := (1061, [.ref 5000, .ref 0, .ref 58, .int (zi x3)], [.int (zi (iv M2 5000 (x3 + 1))), .ref 58, .int (zi r3)], M2)) rfl ?_
  obtain ⟨r6, M5, hc, hv⟩ := hv
  refine am_xc t_Mo_tidy (.invokevirtual 126) 126 (av := [.ref 58, .int (zi (iv M2 5000 (x3 + 1)))]) (rest := [.int (zi r3)]) (rv := some (.int (zi r6))) (M' := M5) rfl rfl rfl rfl (Nat.le_of_ble_eq_true rfl) (fun _ => rfl) (hc) ?_
  refine am_xn 0 (c1 := (1064, [.ref 5000, .ref 0, .ref 58, .int (zi x3)], [.int (zi r6), .int (zi r3)], M5)) rfl ?_
  obtain ⟨r7, hv⟩ := hv
  obtain ⟨r8, hv⟩ := hv
  refine am_xn 1 (c1 := (if zi r3 = zi r6 then 1152 else 1067, [.ref 5000, .ref 0, .ref 58, .int (zi x3)], [], M5)) rfl (am_xeq r7 r8 (fun h => ?_) (fun h => ?_))
  · replace hv := hv.1 h
    exact hv
  · replace hv := hv.2 h
    refine am_xn 1 (c1 := (1068, [.ref 5000, .ref 0, .ref 58, .int (zi x3)], [.int (zi 0)], M5)) rfl ?_
    exact am_xr (some (.int (zi 0))) ⟨rfl, rfl, .boolean, rfl, rfl⟩ hv
set_option maxRecDepth 100000 in
theorem vc_LAW_1069 (x3 : Int) (M : am_M) (Q : Option Value → am_M → Prop) (hv : (0 ≤ (x3 + 1) ∧ (x3 + 1) < iv M 5001 0) ∧ (∃ (r3 : Int) (M2 : am_M), am_call t_SB_save [.ref 0, .int (zi (iv M 5000 (x3 + 1)))] M (some (.int (zi r3))) M2 ∧ ((0 ≤ (x3 + 1) ∧ (x3 + 1) < iv M2 5001 0) ∧ (∃ (r6 : Int) (M5 : am_M), am_call t_Mo_save [.ref 58, .int (zi (iv M2 5000 (x3 + 1)))] M2 (some (.int (zi r6))) M5 ∧ ((zr r3) ∧ ((zr r6) ∧ ((r3 = r6 → am_x t_LAW_law (1152, [.ref 5000, .ref 0, .ref 58, .int (zi x3)], [], M5) Q) ∧ (¬ r3 = r6 → Q (some (.int (zi 0))) M5)))))))) : am_x t_LAW_law (1069, [.ref 5000, .ref 0, .ref 58, .int (zi x3)], [], M) Q := by
  refine am_xiadd 5 x3 1 (pc := 1074) (ls := [.ref 5000, .ref 0, .ref 58, .int (zi x3)]) (st := [.ref 5000, .ref 0]) rfl ?_
  obtain ⟨r1, hv⟩ := hv
  refine am_xsld rfl r1 ?_
  refine am_xn 0 (c1 := (1075, [.ref 5000, .ref 0, .ref 58, .int (zi x3)], [.int (zi (iv M 5000 (x3 + 1))), .ref 0], M)) rfl ?_
  obtain ⟨r3, M2, hc, hv⟩ := hv
  refine am_xc t_SB_save (.invokevirtual 127) 127 (av := [.ref 0, .int (zi (iv M 5000 (x3 + 1)))]) (rest := []) (rv := some (.int (zi r3))) (M' := M2) rfl rfl rfl rfl (Nat.le_of_ble_eq_true rfl) (fun _ => rfl) (hc) ?_
  refine am_xn 0 (c1 := (1078, [.ref 5000, .ref 0, .ref 58, .int (zi x3)], [.int (zi r3)], M2)) rfl ?_
  refine am_xiadd 5 x3 1 (pc := 1083) (ls := [.ref 5000, .ref 0, .ref 58, .int (zi x3)]) (st := [.ref 5000, .ref 58, .int (zi r3)]) rfl ?_
  obtain ⟨r4, hv⟩ := hv
  refine am_xsld rfl r4 ?_
  refine am_xn 0 (c1 := (1084, [.ref 5000, .ref 0, .ref 58, .int (zi x3)], [.int (zi (iv M2 5000 (x3 + 1))), .ref 58, .int (zi r3)], M2)) rfl ?_
  obtain ⟨r6, M5, hc, hv⟩ := hv
  refine am_xc t_Mo_save (.invokevirtual 130) 130 (av := [.ref 58, .int (zi (iv M2 5000 (x3 + 1)))]) (rest := [.int (zi r3)]) (rv := some (.int (zi r6))) (M' := M5) rfl rfl rfl rfl (Nat.le_of_ble_eq_true rfl) (fun _ => rfl) (hc) ?_
  refine am_xn 0 (c1 := (1087, [.ref 5000, .ref 0, .ref 58, .int (zi x3)], [.int (zi r6), .int (zi r3)], M5)) rfl ?_
  obtain ⟨r7, hv⟩ := hv
  obtain ⟨r8, hv⟩ := hv
  refine am_xn 1 (c1 := (if zi r3 = zi r6 then 1152 else 1090, [.ref 5000, .ref 0, .ref 58, .int (zi x3)], [], M5)) rfl (am_xeq r7 r8 (fun h => ?_) (fun h => ?_))
  · replace hv := hv.1 h
    exact hv
  · replace hv := hv.2 h
    refine am_xn 1 (c1 := (1091, [.ref 5000, .ref 0, .ref 58, .int (zi x3)], [.int (zi 0)], M5)) rfl ?_
    exact am_xr (some (.int (zi 0))) ⟨rfl, rfl, .boolean, rfl, rfl⟩ hv
set_option maxRecDepth 100000 in
theorem vc_LAW_1092 (x3 : Int) (M : am_M) (Q : Option Value → am_M → Prop) (hv : (0 ≤ (x3 + 1) ∧ (x3 + 1) < iv M 5001 0) ∧ (∃ (r3 : Int) (M2 : am_M), am_call t_SB_restore [.ref 0, .int (zi (iv M 5000 (x3 + 1)))] M (some (.int (zi r3))) M2 ∧ ((0 ≤ (x3 + 1) ∧ (x3 + 1) < iv M2 5001 0) ∧ (∃ (r6 : Int) (M5 : am_M), am_call t_Mo_restore [.ref 58, .int (zi (iv M2 5000 (x3 + 1)))] M2 (some (.int (zi r6))) M5 ∧ ((zr r3) ∧ ((zr r6) ∧ ((r3 = r6 → am_x t_LAW_law (1152, [.ref 5000, .ref 0, .ref 58, .int (zi x3)], [], M5) Q) ∧ (¬ r3 = r6 → Q (some (.int (zi 0))) M5)))))))) : am_x t_LAW_law (1092, [.ref 5000, .ref 0, .ref 58, .int (zi x3)], [], M) Q := by
  refine am_xiadd 5 x3 1 (pc := 1097) (ls := [.ref 5000, .ref 0, .ref 58, .int (zi x3)]) (st := [.ref 5000, .ref 0]) rfl ?_
  obtain ⟨r1, hv⟩ := hv
  refine am_xsld rfl r1 ?_
  refine am_xn 0 (c1 := (1098, [.ref 5000, .ref 0, .ref 58, .int (zi x3)], [.int (zi (iv M 5000 (x3 + 1))), .ref 0], M)) rfl ?_
  obtain ⟨r3, M2, hc, hv⟩ := hv
  refine am_xc t_SB_restore (.invokevirtual 131) 131 (av := [.ref 0, .int (zi (iv M 5000 (x3 + 1)))]) (rest := []) (rv := some (.int (zi r3))) (M' := M2) rfl rfl rfl rfl (Nat.le_of_ble_eq_true rfl) (fun _ => rfl) (hc) ?_
  refine am_xn 0 (c1 := (1101, [.ref 5000, .ref 0, .ref 58, .int (zi x3)], [.int (zi r3)], M2)) rfl ?_
  refine am_xiadd 5 x3 1 (pc := 1106) (ls := [.ref 5000, .ref 0, .ref 58, .int (zi x3)]) (st := [.ref 5000, .ref 58, .int (zi r3)]) rfl ?_
  obtain ⟨r4, hv⟩ := hv
  refine am_xsld rfl r4 ?_
  refine am_xn 0 (c1 := (1107, [.ref 5000, .ref 0, .ref 58, .int (zi x3)], [.int (zi (iv M2 5000 (x3 + 1))), .ref 58, .int (zi r3)], M2)) rfl ?_
  obtain ⟨r6, M5, hc, hv⟩ := hv
  refine am_xc t_Mo_restore (.invokevirtual 134) 134 (av := [.ref 58, .int (zi (iv M2 5000 (x3 + 1)))]) (rest := [.int (zi r3)]) (rv := some (.int (zi r6))) (M' := M5) rfl rfl rfl rfl (Nat.le_of_ble_eq_true rfl) (fun _ => rfl) (hc) ?_
  refine am_xn 0 (c1 := (1110, [.ref 5000, .ref 0, .ref 58, .int (zi x3)], [.int (zi r6), .int (zi r3)], M5)) rfl ?_
  obtain ⟨r7, hv⟩ := hv
  obtain ⟨r8, hv⟩ := hv
  refine am_xn 1 (c1 := (if zi r3 = zi r6 then 1152 else 1113, [.ref 5000, .ref 0, .ref 58, .int (zi x3)], [], M5)) rfl (am_xeq r7 r8 (fun h => ?_) (fun h => ?_))
  · replace hv := hv.1 h
    exact hv
  · replace hv := hv.2 h
    refine am_xn 1 (c1 := (1114, [.ref 5000, .ref 0, .ref 58, .int (zi x3)], [.int (zi 0)], M5)) rfl ?_
    exact am_xr (some (.int (zi 0))) ⟨rfl, rfl, .boolean, rfl, rfl⟩ hv
set_option maxRecDepth 100000 in
theorem vc_LAW_1115 (x3 : Int) (M : am_M) (Q : Option Value → am_M → Prop) (hv : (0 ≤ (x3 + 1) ∧ (x3 + 1) < iv M 5001 0) ∧ (∃ (r3 : Int) (M2 : am_M), am_call t_SB_count [.ref 0, .int (zi (iv M 5000 (x3 + 1)))] M (some (.int (zi r3))) M2 ∧ ((0 ≤ (x3 + 1) ∧ (x3 + 1) < iv M2 5001 0) ∧ (∃ (r6 : Int) (M5 : am_M), am_call t_Mo_count [.ref 58, .int (zi (iv M2 5000 (x3 + 1)))] M2 (some (.int (zi r6))) M5 ∧ ((zr r3) ∧ ((zr r6) ∧ ((r3 = r6 → am_x t_LAW_law (1152, [.ref 5000, .ref 0, .ref 58, .int (zi x3)], [], M5) Q) ∧ (¬ r3 = r6 → Q (some (.int (zi 0))) M5)))))))) : am_x t_LAW_law (1115, [.ref 5000, .ref 0, .ref 58, .int (zi x3)], [], M) Q := by
  refine am_xiadd 5 x3 1 (pc := 1120) (ls := [.ref 5000, .ref 0, .ref 58, .int (zi x3)]) (st := [.ref 5000, .ref 0]) rfl ?_
  obtain ⟨r1, hv⟩ := hv
  refine am_xsld rfl r1 ?_
  refine am_xn 0 (c1 := (1121, [.ref 5000, .ref 0, .ref 58, .int (zi x3)], [.int (zi (iv M 5000 (x3 + 1))), .ref 0], M)) rfl ?_
  obtain ⟨r3, M2, hc, hv⟩ := hv
  refine am_xc t_SB_count (.invokevirtual 135) 135 (av := [.ref 0, .int (zi (iv M 5000 (x3 + 1)))]) (rest := []) (rv := some (.int (zi r3))) (M' := M2) rfl rfl rfl rfl (Nat.le_of_ble_eq_true rfl) (fun _ => rfl) (hc) ?_
  refine am_xn 0 (c1 := (1124, [.ref 5000, .ref 0, .ref 58, .int (zi x3)], [.int (zi r3)], M2)) rfl ?_
  refine am_xiadd 5 x3 1 (pc := 1129) (ls := [.ref 5000, .ref 0, .ref 58, .int (zi x3)]) (st := [.ref 5000, .ref 58, .int (zi r3)]) rfl ?_
  obtain ⟨r4, hv⟩ := hv
  refine am_xsld rfl r4 ?_
  refine am_xn 0 (c1 := (1130, [.ref 5000, .ref 0, .ref 58, .int (zi x3)], [.int (zi (iv M2 5000 (x3 + 1))), .ref 58, .int (zi r3)], M2)) rfl ?_
  obtain ⟨r6, M5, hc, hv⟩ := hv
  refine am_xc t_Mo_count (.invokevirtual 138) 138 (av := [.ref 58, .int (zi (iv M2 5000 (x3 + 1)))]) (rest := [.int (zi r3)]) (rv := some (.int (zi r6))) (M' := M5) rfl rfl rfl rfl (Nat.le_of_ble_eq_true rfl) (fun _ => rfl) (hc) ?_
  refine am_xn 0 (c1 := (1133, [.ref 5000, .ref 0, .ref 58, .int (zi x3)], [.int (zi r6), .int (zi r3)], M5)) rfl ?_
  obtain ⟨r7, hv⟩ := hv
  obtain ⟨r8, hv⟩ := hv
  refine am_xn 1 (c1 := (if zi r3 = zi r6 then 1152 else 1136, [.ref 5000, .ref 0, .ref 58, .int (zi x3)], [], M5)) rfl (am_xeq r7 r8 (fun h => ?_) (fun h => ?_))
  · replace hv := hv.1 h
    exact hv
  · replace hv := hv.2 h
    refine am_xn 1 (c1 := (1137, [.ref 5000, .ref 0, .ref 58, .int (zi x3)], [.int (zi 0)], M5)) rfl ?_
    exact am_xr (some (.int (zi 0))) ⟨rfl, rfl, .boolean, rfl, rfl⟩ hv
set_option maxRecDepth 100000 in
theorem vc_LAW_1138 (x3 : Int) (M : am_M) (Q : Option Value → am_M → Prop) (hv : ∃ (r2 : Int) (M1 : am_M), am_call t_SB_digest [.ref 0] M (some (.long (zl r2))) M1 ∧ (∃ (r4 : Int) (M3 : am_M), am_call t_Mo_digest [.ref 58] M1 (some (.long (zl r4))) M3 ∧ ((zlr r2) ∧ ((zlr r4) ∧ (((zcmp r2 r4) = 0 → am_x t_LAW_law (1152, [.ref 5000, .ref 0, .ref 58, .int (zi x3)], [], M3) Q) ∧ (¬ (zcmp r2 r4) = 0 → Q (some (.int (zi 0))) M3)))))) : am_x t_LAW_law (1138, [.ref 5000, .ref 0, .ref 58, .int (zi x3)], [], M) Q := by
  refine am_xn 1 (c1 := (1139, [.ref 5000, .ref 0, .ref 58, .int (zi x3)], [.ref 0], M)) rfl ?_
  obtain ⟨r2, M1, hc, hv⟩ := hv
  refine am_xc t_SB_digest (.invokevirtual 139) 139 (av := [.ref 0]) (rest := []) (rv := some (.long (zl r2))) (M' := M1) rfl rfl rfl rfl (Nat.le_of_ble_eq_true rfl) (fun _ => rfl) (hc) ?_
  refine am_xn 0 (c1 := (1142, [.ref 5000, .ref 0, .ref 58, .int (zi x3)], [.long (zl r2)], M1)) rfl ?_
  refine am_xn 1 (c1 := (1143, [.ref 5000, .ref 0, .ref 58, .int (zi x3)], [.ref 58, .long (zl r2)], M1)) rfl ?_
  obtain ⟨r4, M3, hc, hv⟩ := hv
  refine am_xc t_Mo_digest (.invokevirtual 143) 143 (av := [.ref 58]) (rest := [.long (zl r2)]) (rv := some (.long (zl r4))) (M' := M3) rfl rfl rfl rfl (Nat.le_of_ble_eq_true rfl) (fun _ => rfl) (hc) ?_
  refine am_xn 0 (c1 := (1146, [.ref 5000, .ref 0, .ref 58, .int (zi x3)], [.long (zl r4), .long (zl r2)], M3)) rfl ?_
  obtain ⟨r5, hv⟩ := hv
  obtain ⟨r6, hv⟩ := hv
  refine am_xlcmp 1 r2 r4 r5 r6 (pc := 1147) (ls := [.ref 5000, .ref 0, .ref 58, .int (zi x3)]) (st := []) rfl ?_
  refine am_xn 1 (c1 := (if zi (zcmp r2 r4) = zi 0 then 1152 else 1150, [.ref 5000, .ref 0, .ref 58, .int (zi x3)], [], M3)) rfl (am_xeq (zr_zcmp _ _) (by decide) (fun h => ?_) (fun h => ?_))
  · replace hv := hv.1 h
    exact hv
  · replace hv := hv.2 h
    refine am_xn 1 (c1 := (1151, [.ref 5000, .ref 0, .ref 58, .int (zi x3)], [.int (zi 0)], M3)) rfl ?_
    exact am_xr (some (.int (zi 0))) ⟨rfl, rfl, .boolean, rfl, rfl⟩ hv
set_option maxRecDepth 100000 in
theorem vc_LAW_1152 (x3 : Int) (M : am_M) (Q : Option Value → am_M → Prop) (hv : am_x t_LAW_law (18, [.ref 5000, .ref 0, .ref 58, .int (zi (x3 + 5))], [], M) Q) : am_x t_LAW_law (1152, [.ref 5000, .ref 0, .ref 58, .int (zi x3)], [], M) Q := by
  refine am_xn 1 (c1 := (1155, [.ref 5000, .ref 0, .ref 58, .int (zi x3 + zi 5)], [], M)) rfl ?_
  rw [zi_add]
  refine am_xn 1 (c1 := (18, [.ref 5000, .ref 0, .ref 58, .int (zi (x3 + 5))], [], M)) rfl ?_
  exact hv
theorem law_step {Z i : Int} {M : am_M} (hZ : 0 ≤ Z ∧ Z ≤ 2560) (i0 : 0 ≤ i) (i1 : i ≤ Z - 5) (rr : RR M) (hM : iv M 5001 0 = Z) (next0 : ∀ M', RR M' → iv M' 5001 0 = Z → am_x t_LAW_law (18, [.ref 5000, .ref 0, .ref 58, .int (zi (i + 5))], [], M') (fun rv _ => rv = some (.int (zi 1)))) : am_x t_LAW_law (18, [.ref 5000, .ref 0, .ref 58, .int (zi i)], [], M) (fun rv _ => rv = some (.int (zi 1))) := by
  have next : ∀ M', RR M' → M' 5001 = M 5001 → am_x t_LAW_law (1152, [.ref 5000, .ref 0, .ref 58, .int (zi i)], [], M') (fun rv _ => rv = some (.int (zi 1))) := fun M' r e => vc_LAW_1152 i M' _ (next0 M' r (by rw [iv_row e, hM]))
  have C0 : am_x t_LAW_law (172, [.ref 5000, .ref 0, .ref 58, .int (zi i)], [], M) (fun rv _ => rv = some (.int (zi 1))) := by
    obtain ⟨r, M1, M2, c1, c2, rr2, e5, e6⟩ := st_type rr (iv_r M 5000 (i + 1))
    have k5 : iv M1 5000 = iv M 5000 := iv_row (am_call_keep LL5000 c1)
    have k6 : iv M1 5001 = iv M 5001 := iv_row (am_call_keep LL5001 c1)
    refine vc_LAW_172 i M _ ?_
    rw [hM]
    refine ⟨⟨by omega, by omega⟩, wz r, M1, by rw [zi_wz]; exact c1, ?_⟩
    rw [k5, k6, hM]
    exact ⟨⟨by omega, by omega⟩, wz r, M2, by rw [zi_wz]; exact c2, wz_r r, wz_r r, fun _ => next M2 rr2 e6, fun z => absurd rfl z⟩
  have C1 : am_x t_LAW_law (195, [.ref 5000, .ref 0, .ref 58, .int (zi i)], [], M) (fun rv _ => rv = some (.int (zi 1))) := by
    obtain ⟨r, M1, M2, c1, c2, rr2, e5, e6⟩ := st_clear rr
    exact vc_LAW_195 i M _ ⟨wz r, M1, by rw [zi_wz]; exact c1, wz r, M2, by rw [zi_wz]; exact c2, wz_r r, wz_r r, fun _ => next M2 rr2 e6, fun z => absurd rfl z⟩
  have C2 : am_x t_LAW_law (208, [.ref 5000, .ref 0, .ref 58, .int (zi i)], [], M) (fun rv _ => rv = some (.int (zi 1))) := by
    obtain ⟨r, M1, M2, c1, c2, rr2, e5, e6⟩ := st_enact rr (iv_r M 5000 (i + 1))
    have k5 : iv M1 5000 = iv M 5000 := iv_row (am_call_keep LL5000 c1)
    have k6 : iv M1 5001 = iv M 5001 := iv_row (am_call_keep LL5001 c1)
    refine vc_LAW_208 i M _ ?_
    rw [hM]
    refine ⟨⟨by omega, by omega⟩, wz r, M1, by rw [zi_wz]; exact c1, ?_⟩
    rw [k5, k6, hM]
    exact ⟨⟨by omega, by omega⟩, wz r, M2, by rw [zi_wz]; exact c2, wz_r r, wz_r r, fun _ => next M2 rr2 e6, fun z => absurd rfl z⟩
  have C3 : am_x t_LAW_law (231, [.ref 5000, .ref 0, .ref 58, .int (zi i)], [], M) (fun rv _ => rv = some (.int (zi 1))) := by
    refine vc_LAW_231 i M _ ?_
    rw [hM]
    refine ⟨⟨by omega, by omega⟩, ⟨by omega, by omega⟩, fun z => ?_, fun z => ?_⟩
    · obtain ⟨r, M1, M2, c1, c2, rr2, e5, e6⟩ := st_revoke rr (iv_r M 5000 (i + 1)) (on := 0) (by omega)
      have k5 : iv M1 5000 = iv M 5000 := iv_row (am_call_keep LL5000 c1)
      have k6 : iv M1 5001 = iv M 5001 := iv_row (am_call_keep LL5001 c1)
      refine ⟨wz r, M1, by rw [zi_wz]; exact c1, ?_⟩
      rw [k5, k6, hM]
      exact ⟨⟨by omega, by omega⟩, ⟨by omega, by omega⟩, fun y => ⟨wz r, M2, by rw [zi_wz]; exact c2, wz_r r, wz_r r, fun _ => next M2 rr2 e6, fun z => absurd rfl z⟩, fun y => absurd z y⟩
    · obtain ⟨r, M1, M2, c1, c2, rr2, e5, e6⟩ := st_revoke rr (iv_r M 5000 (i + 1)) (on := 1) (by omega)
      have k5 : iv M1 5000 = iv M 5000 := iv_row (am_call_keep LL5000 c1)
      have k6 : iv M1 5001 = iv M 5001 := iv_row (am_call_keep LL5001 c1)
      refine ⟨wz r, M1, by rw [zi_wz]; exact c1, ?_⟩
      rw [k5, k6, hM]
      exact ⟨⟨by omega, by omega⟩, ⟨by omega, by omega⟩, fun y => absurd y z, fun y => ⟨wz r, M2, by rw [zi_wz]; exact c2, wz_r r, wz_r r, fun _ => next M2 rr2 e6, fun z => absurd rfl z⟩⟩
  have C4 : am_x t_LAW_law (280, [.ref 5000, .ref 0, .ref 58, .int (zi i)], [], M) (fun rv _ => rv = some (.int (zi 1))) := by
    obtain ⟨r, M1, M2, c1, c2, rr2, e5, e6⟩ := st_commence rr (iv_r M 5000 (i + 1)) (iv_r M 5000 (i + 2))
    have k5 : iv M1 5000 = iv M 5000 := iv_row (am_call_keep LL5000 c1)
    have k6 : iv M1 5001 = iv M 5001 := iv_row (am_call_keep LL5001 c1)
    refine vc_LAW_280 i M _ ?_
    rw [hM]
    refine ⟨⟨by omega, by omega⟩, ⟨by omega, by omega⟩, wz r, M1, by rw [zi_wz]; exact c1, ?_⟩
    rw [k5, k6, hM]
    exact ⟨⟨by omega, by omega⟩, ⟨by omega, by omega⟩, wz r, M2, by rw [zi_wz]; exact c2, wz_r r, wz_r r, fun _ => next M2 rr2 e6, fun z => absurd rfl z⟩
  have C5 : am_x t_LAW_law (313, [.ref 5000, .ref 0, .ref 58, .int (zi i)], [], M) (fun rv _ => rv = some (.int (zi 1))) := by
    obtain ⟨r, M1, M2, c1, c2, rr2, e5, e6⟩ := st_withdraw rr
    exact vc_LAW_313 i M _ ⟨wz r, M1, by rw [zi_wz]; exact c1, wz r, M2, by rw [zi_wz]; exact c2, wz_r r, wz_r r, fun _ => next M2 rr2 e6, fun z => absurd rfl z⟩
  have C6 : am_x t_LAW_law (326, [.ref 5000, .ref 0, .ref 58, .int (zi i)], [], M) (fun rv _ => rv = some (.int (zi 1))) := by
    obtain ⟨r, M1, M2, c1, c2, rr2, e5, e6⟩ := st_undo rr
    exact vc_LAW_326 i M _ ⟨wz r, M1, by rw [zi_wz]; exact c1, wz r, M2, by rw [zi_wz]; exact c2, wz_r r, wz_r r, fun _ => next M2 rr2 e6, fun z => absurd rfl z⟩
  have C7 : am_x t_LAW_law (339, [.ref 5000, .ref 0, .ref 58, .int (zi i)], [], M) (fun rv _ => rv = some (.int (zi 1))) := by
    obtain ⟨r, M1, M2, c1, c2, rr2, e5, e6⟩ := st_of_qry rr (q_amendment rr.1 (iv_r M 5000 (i + 1)) (iv_r M 5000 (i + 2)))
    have k5 : iv M1 5000 = iv M 5000 := iv_row (am_call_keep LL5000 c1)
    have k6 : iv M1 5001 = iv M 5001 := iv_row (am_call_keep LL5001 c1)
    refine vc_LAW_339 i M _ ?_
    rw [hM]
    refine ⟨⟨by omega, by omega⟩, ⟨by omega, by omega⟩, wz r, M1, by rw [zi_wz]; exact c1, ?_⟩
    rw [k5, k6, hM]
    exact ⟨⟨by omega, by omega⟩, ⟨by omega, by omega⟩, wz r, M2, by rw [zi_wz]; exact c2, wz_r r, wz_r r, fun _ => next M2 rr2 e6, fun z => absurd rfl z⟩
  have C8 : am_x t_LAW_law (372, [.ref 5000, .ref 0, .ref 58, .int (zi i)], [], M) (fun rv _ => rv = some (.int (zi 1))) := by
    obtain ⟨r, M1, M2, c1, c2, rr2, e5, e6⟩ := st_of_qry rr (q_operation rr.1 (iv_r M 5000 (i + 1)) (iv_r M 5000 (i + 2)) (iv_r M 5000 (i + 3)))
    have k5 : iv M1 5000 = iv M 5000 := iv_row (am_call_keep LL5000 c1)
    have k6 : iv M1 5001 = iv M 5001 := iv_row (am_call_keep LL5001 c1)
    refine vc_LAW_372 i M _ ?_
    rw [hM]
    refine ⟨⟨by omega, by omega⟩, ⟨by omega, by omega⟩, ⟨by omega, by omega⟩, wz r, M1, by rw [zi_wz]; exact c1, ?_⟩
    rw [k5, k6, hM]
    exact ⟨⟨by omega, by omega⟩, ⟨by omega, by omega⟩, ⟨by omega, by omega⟩, wz r, M2, by rw [zi_wz]; exact c2, wz_r r, wz_r r, fun _ => next M2 rr2 e6, fun z => absurd rfl z⟩
  have C9 : am_x t_LAW_law (415, [.ref 5000, .ref 0, .ref 58, .int (zi i)], [], M) (fun rv _ => rv = some (.int (zi 1))) := by
    obtain ⟨r, M1, M2, c1, c2, rr2, e5, e6⟩ := st_of_qry rr (q_word rr.1 (iv_r M 5000 (i + 1)) (iv_r M 5000 (i + 2)) (iv_r M 5000 (i + 3)))
    have k5 : iv M1 5000 = iv M 5000 := iv_row (am_call_keep LL5000 c1)
    have k6 : iv M1 5001 = iv M 5001 := iv_row (am_call_keep LL5001 c1)
    refine vc_LAW_415 i M _ ?_
    rw [hM]
    refine ⟨⟨by omega, by omega⟩, ⟨by omega, by omega⟩, ⟨by omega, by omega⟩, wz r, M1, by rw [zi_wz]; exact c1, ?_⟩
    rw [k5, k6, hM]
    exact ⟨⟨by omega, by omega⟩, ⟨by omega, by omega⟩, ⟨by omega, by omega⟩, wz r, M2, by rw [zi_wz]; exact c2, wz_r r, wz_r r, fun _ => next M2 rr2 e6, fun z => absurd rfl z⟩
  have C10 : am_x t_LAW_law (458, [.ref 5000, .ref 0, .ref 58, .int (zi i)], [], M) (fun rv _ => rv = some (.int (zi 1))) := by
    obtain ⟨r, M1, M2, c1, c2, rr2, e5, e6⟩ := st_of_qry rr (q_clauses rr.1 (iv_r M 5000 (i + 1)) (iv_r M 5000 (i + 2)))
    have k5 : iv M1 5000 = iv M 5000 := iv_row (am_call_keep LL5000 c1)
    have k6 : iv M1 5001 = iv M 5001 := iv_row (am_call_keep LL5001 c1)
    refine vc_LAW_458 i M _ ?_
    rw [hM]
    refine ⟨⟨by omega, by omega⟩, ⟨by omega, by omega⟩, wz r, M1, by rw [zi_wz]; exact c1, ?_⟩
    rw [k5, k6, hM]
    exact ⟨⟨by omega, by omega⟩, ⟨by omega, by omega⟩, wz r, M2, by rw [zi_wz]; exact c2, wz_r r, wz_r r, fun _ => next M2 rr2 e6, fun z => absurd rfl z⟩
  have C11 : am_x t_LAW_law (491, [.ref 5000, .ref 0, .ref 58, .int (zi i)], [], M) (fun rv _ => rv = some (.int (zi 1))) := by
    obtain ⟨r, M1, M2, c1, c2, rr2, e5, e6⟩ := st_of_qry rr (q_clause rr.1 (iv_r M 5000 (i + 1)) (iv_r M 5000 (i + 2)) (iv_r M 5000 (i + 3)) (iv_r M 5000 (i + 4)))
    have k5 : iv M1 5000 = iv M 5000 := iv_row (am_call_keep LL5000 c1)
    have k6 : iv M1 5001 = iv M 5001 := iv_row (am_call_keep LL5001 c1)
    refine vc_LAW_491 i M _ ?_
    rw [hM]
    refine ⟨⟨by omega, by omega⟩, ⟨by omega, by omega⟩, ⟨by omega, by omega⟩, ⟨by omega, by omega⟩, wz r, M1, by rw [zi_wz]; exact c1, ?_⟩
    rw [k5, k6, hM]
    exact ⟨⟨by omega, by omega⟩, ⟨by omega, by omega⟩, ⟨by omega, by omega⟩, ⟨by omega, by omega⟩, wz r, M2, by rw [zi_wz]; exact c2, wz_r r, wz_r r, fun _ => next M2 rr2 e6, fun z => absurd rfl z⟩
  have C12 : am_x t_LAW_law (544, [.ref 5000, .ref 0, .ref 58, .int (zi i)], [], M) (fun rv _ => rv = some (.int (zi 1))) := by
    obtain ⟨r, M1, M2, c1, c2, rr2, e5, e6⟩ := st_of_qry rr (q_textWord rr.1 (iv_r M 5000 (i + 1)) (iv_r M 5000 (i + 2)) (iv_r M 5000 (i + 3)) (iv_r M 5000 (i + 4)))
    have k5 : iv M1 5000 = iv M 5000 := iv_row (am_call_keep LL5000 c1)
    have k6 : iv M1 5001 = iv M 5001 := iv_row (am_call_keep LL5001 c1)
    refine vc_LAW_544 i M _ ?_
    rw [hM]
    refine ⟨⟨by omega, by omega⟩, ⟨by omega, by omega⟩, ⟨by omega, by omega⟩, ⟨by omega, by omega⟩, wz r, M1, by rw [zi_wz]; exact c1, ?_⟩
    rw [k5, k6, hM]
    exact ⟨⟨by omega, by omega⟩, ⟨by omega, by omega⟩, ⟨by omega, by omega⟩, ⟨by omega, by omega⟩, wz r, M2, by rw [zi_wz]; exact c2, wz_r r, wz_r r, fun _ => next M2 rr2 e6, fun z => absurd rfl z⟩
  have C13 : am_x t_LAW_law (597, [.ref 5000, .ref 0, .ref 58, .int (zi i)], [], M) (fun rv _ => rv = some (.int (zi 1))) := by
    obtain ⟨r, M1, M2, c1, c2, rr2, e5, e6⟩ := st_of_qry rr (q_find rr.1 (iv_r M 5000 (i + 1)) (iv_r M 5000 (i + 2)) (iv_r M 5000 (i + 3)))
    have k5 : iv M1 5000 = iv M 5000 := iv_row (am_call_keep LL5000 c1)
    have k6 : iv M1 5001 = iv M 5001 := iv_row (am_call_keep LL5001 c1)
    refine vc_LAW_597 i M _ ?_
    rw [hM]
    refine ⟨⟨by omega, by omega⟩, ⟨by omega, by omega⟩, ⟨by omega, by omega⟩, wz r, M1, by rw [zi_wz]; exact c1, ?_⟩
    rw [k5, k6, hM]
    exact ⟨⟨by omega, by omega⟩, ⟨by omega, by omega⟩, ⟨by omega, by omega⟩, wz r, M2, by rw [zi_wz]; exact c2, wz_r r, wz_r r, fun _ => next M2 rr2 e6, fun z => absurd rfl z⟩
  have C14 : am_x t_LAW_law (640, [.ref 5000, .ref 0, .ref 58, .int (zi i)], [], M) (fun rv _ => rv = some (.int (zi 1))) := by
    obtain ⟨r, M1, M2, c1, c2, rr2, e5, e6⟩ := st_print' rr (iv_r M 5000 (i + 1)) (iv_r M 5000 (i + 2))
    have k5 : iv M1 5000 = iv M 5000 := iv_row (am_call_keep LL5000 c1)
    have k6 : iv M1 5001 = iv M 5001 := iv_row (am_call_keep LL5001 c1)
    refine vc_LAW_640 i M _ ?_
    rw [hM]
    refine ⟨⟨by omega, by omega⟩, ⟨by omega, by omega⟩, wz r, M1, by rw [zi_wz]; exact c1, ?_⟩
    rw [k5, k6, hM]
    exact ⟨⟨by omega, by omega⟩, ⟨by omega, by omega⟩, wz r, M2, by rw [zi_wz]; exact c2, wz_r r, wz_r r, fun _ => next M2 rr2 e6, fun z => absurd rfl z⟩
  have C15 : am_x t_LAW_law (673, [.ref 5000, .ref 0, .ref 58, .int (zi i)], [], M) (fun rv _ => rv = some (.int (zi 1))) := by
    obtain ⟨r, M1, M2, c1, c2, rr2, e5, e6⟩ := st_of_qry rr (q_printed rr.2.2.1 (iv_r M 5000 (i + 1)))
    have k5 : iv M1 5000 = iv M 5000 := iv_row (am_call_keep LL5000 c1)
    have k6 : iv M1 5001 = iv M 5001 := iv_row (am_call_keep LL5001 c1)
    refine vc_LAW_673 i M _ ?_
    rw [hM]
    refine ⟨⟨by omega, by omega⟩, wz r, M1, by rw [zi_wz]; exact c1, ?_⟩
    rw [k5, k6, hM]
    exact ⟨⟨by omega, by omega⟩, wz r, M2, by rw [zi_wz]; exact c2, wz_r r, wz_r r, fun _ => next M2 rr2 e6, fun z => absurd rfl z⟩
  have C16 : am_x t_LAW_law (696, [.ref 5000, .ref 0, .ref 58, .int (zi i)], [], M) (fun rv _ => rv = some (.int (zi 1))) := by
    obtain ⟨r, M1, M2, c1, c2, rr2, e5, e6⟩ := st_of_qry rr (q_history rr.1 (iv_r M 5000 (i + 1)) (iv_r M 5000 (i + 2)) (iv_r M 5000 (i + 3)))
    have k5 : iv M1 5000 = iv M 5000 := iv_row (am_call_keep LL5000 c1)
    have k6 : iv M1 5001 = iv M 5001 := iv_row (am_call_keep LL5001 c1)
    refine vc_LAW_696 i M _ ?_
    rw [hM]
    refine ⟨⟨by omega, by omega⟩, ⟨by omega, by omega⟩, ⟨by omega, by omega⟩, wz r, M1, by rw [zi_wz]; exact c1, ?_⟩
    rw [k5, k6, hM]
    exact ⟨⟨by omega, by omega⟩, ⟨by omega, by omega⟩, ⟨by omega, by omega⟩, wz r, M2, by rw [zi_wz]; exact c2, wz_r r, wz_r r, fun _ => next M2 rr2 e6, fun z => absurd rfl z⟩
  have C17 : am_x t_LAW_law (739, [.ref 5000, .ref 0, .ref 58, .int (zi i)], [], M) (fun rv _ => rv = some (.int (zi 1))) := by
    obtain ⟨r, M1, M2, c1, c2, rr2, e5, e6⟩ := st_of_qry rr (q_difference rr.1 (iv_r M 5000 (i + 1)) (iv_r M 5000 (i + 2)) (iv_r M 5000 (i + 3)))
    have k5 : iv M1 5000 = iv M 5000 := iv_row (am_call_keep LL5000 c1)
    have k6 : iv M1 5001 = iv M 5001 := iv_row (am_call_keep LL5001 c1)
    refine vc_LAW_739 i M _ ?_
    rw [hM]
    refine ⟨⟨by omega, by omega⟩, ⟨by omega, by omega⟩, ⟨by omega, by omega⟩, wz r, M1, by rw [zi_wz]; exact c1, ?_⟩
    rw [k5, k6, hM]
    exact ⟨⟨by omega, by omega⟩, ⟨by omega, by omega⟩, ⟨by omega, by omega⟩, wz r, M2, by rw [zi_wz]; exact c2, wz_r r, wz_r r, fun _ => next M2 rr2 e6, fun z => absurd rfl z⟩
  have C18 : am_x t_LAW_law (782, [.ref 5000, .ref 0, .ref 58, .int (zi i)], [], M) (fun rv _ => rv = some (.int (zi 1))) := by
    obtain ⟨r, M1, M2, c1, c2, rr2, e5, e6⟩ := st_of_qry rr (q_containing rr.1 (iv_r M 5000 (i + 1)) (iv_r M 5000 (i + 2)))
    have k5 : iv M1 5000 = iv M 5000 := iv_row (am_call_keep LL5000 c1)
    have k6 : iv M1 5001 = iv M 5001 := iv_row (am_call_keep LL5001 c1)
    refine vc_LAW_782 i M _ ?_
    rw [hM]
    refine ⟨⟨by omega, by omega⟩, ⟨by omega, by omega⟩, wz r, M1, by rw [zi_wz]; exact c1, ?_⟩
    rw [k5, k6, hM]
    exact ⟨⟨by omega, by omega⟩, ⟨by omega, by omega⟩, wz r, M2, by rw [zi_wz]; exact c2, wz_r r, wz_r r, fun _ => next M2 rr2 e6, fun z => absurd rfl z⟩
  have C19 : am_x t_LAW_law (815, [.ref 5000, .ref 0, .ref 58, .int (zi i)], [], M) (fun rv _ => rv = some (.int (zi 1))) := by
    obtain ⟨r, M1, M2, c1, c2, rr2, e5, e6⟩ := st_of_qry rr (q_references rr.1 (iv_r M 5000 (i + 1)) (iv_r M 5000 (i + 2)))
    have k5 : iv M1 5000 = iv M 5000 := iv_row (am_call_keep LL5000 c1)
    have k6 : iv M1 5001 = iv M 5001 := iv_row (am_call_keep LL5001 c1)
    refine vc_LAW_815 i M _ ?_
    rw [hM]
    refine ⟨⟨by omega, by omega⟩, ⟨by omega, by omega⟩, wz r, M1, by rw [zi_wz]; exact c1, ?_⟩
    rw [k5, k6, hM]
    exact ⟨⟨by omega, by omega⟩, ⟨by omega, by omega⟩, wz r, M2, by rw [zi_wz]; exact c2, wz_r r, wz_r r, fun _ => next M2 rr2 e6, fun z => absurd rfl z⟩
  have C20 : am_x t_LAW_law (848, [.ref 5000, .ref 0, .ref 58, .int (zi i)], [], M) (fun rv _ => rv = some (.int (zi 1))) := by
    obtain ⟨r, M1, M2, c1, c2, rr2, e5, e6⟩ := st_of_qry rr (q_reach rr.1 (iv_r M 5000 (i + 1)) (iv_r M 5000 (i + 2)) (iv_r M 5000 (i + 3)))
    have k5 : iv M1 5000 = iv M 5000 := iv_row (am_call_keep LL5000 c1)
    have k6 : iv M1 5001 = iv M 5001 := iv_row (am_call_keep LL5001 c1)
    refine vc_LAW_848 i M _ ?_
    rw [hM]
    refine ⟨⟨by omega, by omega⟩, ⟨by omega, by omega⟩, ⟨by omega, by omega⟩, wz r, M1, by rw [zi_wz]; exact c1, ?_⟩
    rw [k5, k6, hM]
    exact ⟨⟨by omega, by omega⟩, ⟨by omega, by omega⟩, ⟨by omega, by omega⟩, wz r, M2, by rw [zi_wz]; exact c2, wz_r r, wz_r r, fun _ => next M2 rr2 e6, fun z => absurd rfl z⟩
  have C21 : am_x t_LAW_law (891, [.ref 5000, .ref 0, .ref 58, .int (zi i)], [], M) (fun rv _ => rv = some (.int (zi 1))) := by
    obtain ⟨r, M1, M2, c1, c2, rr2, e5, e6⟩ := st_of_qry rr (q_tally rr.1 (iv_r M 5000 (i + 1)))
    have k5 : iv M1 5000 = iv M 5000 := iv_row (am_call_keep LL5000 c1)
    have k6 : iv M1 5001 = iv M 5001 := iv_row (am_call_keep LL5001 c1)
    refine vc_LAW_891 i M _ ?_
    rw [hM]
    refine ⟨⟨by omega, by omega⟩, wz r, M1, by rw [zi_wz]; exact c1, ?_⟩
    rw [k5, k6, hM]
    exact ⟨⟨by omega, by omega⟩, wz r, M2, by rw [zi_wz]; exact c2, wz_r r, wz_r r, fun _ => next M2 rr2 e6, fun z => absurd rfl z⟩
  have C22 : am_x t_LAW_law (914, [.ref 5000, .ref 0, .ref 58, .int (zi i)], [], M) (fun rv _ => rv = some (.int (zi 1))) := by
    obtain ⟨r, M1, M2, c1, c2, rr2, e5, e6⟩ := st_of_qry rr (q_conflict rr.1 (iv_r M 5000 (i + 1)) (iv_r M 5000 (i + 2)))
    have k5 : iv M1 5000 = iv M 5000 := iv_row (am_call_keep LL5000 c1)
    have k6 : iv M1 5001 = iv M 5001 := iv_row (am_call_keep LL5001 c1)
    refine vc_LAW_914 i M _ ?_
    rw [hM]
    refine ⟨⟨by omega, by omega⟩, ⟨by omega, by omega⟩, wz r, M1, by rw [zi_wz]; exact c1, ?_⟩
    rw [k5, k6, hM]
    exact ⟨⟨by omega, by omega⟩, ⟨by omega, by omega⟩, wz r, M2, by rw [zi_wz]; exact c2, wz_r r, wz_r r, fun _ => next M2 rr2 e6, fun z => absurd rfl z⟩
  have C23 : am_x t_LAW_law (947, [.ref 5000, .ref 0, .ref 58, .int (zi i)], [], M) (fun rv _ => rv = some (.int (zi 1))) := by
    obtain ⟨r, M1, M2, c1, c2, rr2, e5, e6⟩ := st_of_qry rr (q_effect rr.1 (iv_r M 5000 (i + 1)) (iv_r M 5000 (i + 2)))
    have k5 : iv M1 5000 = iv M 5000 := iv_row (am_call_keep LL5000 c1)
    have k6 : iv M1 5001 = iv M 5001 := iv_row (am_call_keep LL5001 c1)
    refine vc_LAW_947 i M _ ?_
    rw [hM]
    refine ⟨⟨by omega, by omega⟩, ⟨by omega, by omega⟩, wz r, M1, by rw [zi_wz]; exact c1, ?_⟩
    rw [k5, k6, hM]
    exact ⟨⟨by omega, by omega⟩, ⟨by omega, by omega⟩, wz r, M2, by rw [zi_wz]; exact c2, wz_r r, wz_r r, fun _ => next M2 rr2 e6, fun z => absurd rfl z⟩
  have C24 : am_x t_LAW_law (980, [.ref 5000, .ref 0, .ref 58, .int (zi i)], [], M) (fun rv _ => rv = some (.int (zi 1))) := by
    obtain ⟨r, M1, M2, c1, c2, rr2, e5, e6⟩ := st_of_qry rr (q_fewest rr.1 (iv_r M 5000 (i + 1)) (iv_r M 5000 (i + 2)))
    have k5 : iv M1 5000 = iv M 5000 := iv_row (am_call_keep LL5000 c1)
    have k6 : iv M1 5001 = iv M 5001 := iv_row (am_call_keep LL5001 c1)
    refine vc_LAW_980 i M _ ?_
    rw [hM]
    refine ⟨⟨by omega, by omega⟩, ⟨by omega, by omega⟩, wz r, M1, by rw [zi_wz]; exact c1, ?_⟩
    rw [k5, k6, hM]
    exact ⟨⟨by omega, by omega⟩, ⟨by omega, by omega⟩, wz r, M2, by rw [zi_wz]; exact c2, wz_r r, wz_r r, fun _ => next M2 rr2 e6, fun z => absurd rfl z⟩
  have C25 : am_x t_LAW_law (1013, [.ref 5000, .ref 0, .ref 58, .int (zi i)], [], M) (fun rv _ => rv = some (.int (zi 1))) := by
    obtain ⟨r, M1, M2, c1, c2, rr2, e5, e6⟩ := st_of_qry rr (q_between rr.1 (iv_r M 5000 (i + 1)) (iv_r M 5000 (i + 2)))
    have k5 : iv M1 5000 = iv M 5000 := iv_row (am_call_keep LL5000 c1)
    have k6 : iv M1 5001 = iv M 5001 := iv_row (am_call_keep LL5001 c1)
    refine vc_LAW_1013 i M _ ?_
    rw [hM]
    refine ⟨⟨by omega, by omega⟩, ⟨by omega, by omega⟩, wz r, M1, by rw [zi_wz]; exact c1, ?_⟩
    rw [k5, k6, hM]
    exact ⟨⟨by omega, by omega⟩, ⟨by omega, by omega⟩, wz r, M2, by rw [zi_wz]; exact c2, wz_r r, wz_r r, fun _ => next M2 rr2 e6, fun z => absurd rfl z⟩
  have C26 : am_x t_LAW_law (1046, [.ref 5000, .ref 0, .ref 58, .int (zi i)], [], M) (fun rv _ => rv = some (.int (zi 1))) := by
    obtain ⟨r, M1, M2, c1, c2, rr2, e5, e6⟩ := st_tidy rr (iv_r M 5000 (i + 1))
    have k5 : iv M1 5000 = iv M 5000 := iv_row (am_call_keep LL5000 c1)
    have k6 : iv M1 5001 = iv M 5001 := iv_row (am_call_keep LL5001 c1)
    refine vc_LAW_1046 i M _ ?_
    rw [hM]
    refine ⟨⟨by omega, by omega⟩, wz r, M1, by rw [zi_wz]; exact c1, ?_⟩
    rw [k5, k6, hM]
    exact ⟨⟨by omega, by omega⟩, wz r, M2, by rw [zi_wz]; exact c2, wz_r r, wz_r r, fun _ => next M2 rr2 e6, fun z => absurd rfl z⟩
  have C27 : am_x t_LAW_law (1069, [.ref 5000, .ref 0, .ref 58, .int (zi i)], [], M) (fun rv _ => rv = some (.int (zi 1))) := by
    obtain ⟨r, M1, M2, c1, c2, rr2, e5, e6⟩ := st_save rr (iv_r M 5000 (i + 1))
    have k5 : iv M1 5000 = iv M 5000 := iv_row (am_call_keep LL5000 c1)
    have k6 : iv M1 5001 = iv M 5001 := iv_row (am_call_keep LL5001 c1)
    refine vc_LAW_1069 i M _ ?_
    rw [hM]
    refine ⟨⟨by omega, by omega⟩, wz r, M1, by rw [zi_wz]; exact c1, ?_⟩
    rw [k5, k6, hM]
    exact ⟨⟨by omega, by omega⟩, wz r, M2, by rw [zi_wz]; exact c2, wz_r r, wz_r r, fun _ => next M2 rr2 e6, fun z => absurd rfl z⟩
  have C28 : am_x t_LAW_law (1092, [.ref 5000, .ref 0, .ref 58, .int (zi i)], [], M) (fun rv _ => rv = some (.int (zi 1))) := by
    obtain ⟨r, M1, M2, c1, c2, rr2, e5, e6⟩ := st_restore rr (iv_r M 5000 (i + 1))
    have k5 : iv M1 5000 = iv M 5000 := iv_row (am_call_keep LL5000 c1)
    have k6 : iv M1 5001 = iv M 5001 := iv_row (am_call_keep LL5001 c1)
    refine vc_LAW_1092 i M _ ?_
    rw [hM]
    refine ⟨⟨by omega, by omega⟩, wz r, M1, by rw [zi_wz]; exact c1, ?_⟩
    rw [k5, k6, hM]
    exact ⟨⟨by omega, by omega⟩, wz r, M2, by rw [zi_wz]; exact c2, wz_r r, wz_r r, fun _ => next M2 rr2 e6, fun z => absurd rfl z⟩
  have C29 : am_x t_LAW_law (1115, [.ref 5000, .ref 0, .ref 58, .int (zi i)], [], M) (fun rv _ => rv = some (.int (zi 1))) := by
    obtain ⟨r, M1, M2, c1, c2, rr2, e5, e6⟩ := st_count rr (iv_r M 5000 (i + 1))
    have k5 : iv M1 5000 = iv M 5000 := iv_row (am_call_keep LL5000 c1)
    have k6 : iv M1 5001 = iv M 5001 := iv_row (am_call_keep LL5001 c1)
    refine vc_LAW_1115 i M _ ?_
    rw [hM]
    refine ⟨⟨by omega, by omega⟩, wz r, M1, by rw [zi_wz]; exact c1, ?_⟩
    rw [k5, k6, hM]
    exact ⟨⟨by omega, by omega⟩, wz r, M2, by rw [zi_wz]; exact c2, wz_r r, wz_r r, fun _ => next M2 rr2 e6, fun z => absurd rfl z⟩
  have C30 : am_x t_LAW_law (1138, [.ref 5000, .ref 0, .ref 58, .int (zi i)], [], M) (fun rv _ => rv = some (.int (zi 1))) := by
    obtain ⟨r, M1, M2, c1, c2, rr2, e5, e6⟩ := st_digest rr
    exact vc_LAW_1138 i M _ ⟨(zl r).toInt, M1, by rw [wzl]; exact c1, (zl r).toInt, M2, by rw [wzl]; exact c2, wzl_r r, wzl_r r, fun _ => next M2 rr2 e6, fun z => absurd ((zcmp_0 _ _).mpr rfl) z⟩
  refine vc_LAW_18 i M _ ?_
  rw [hM]
  exact ⟨⟨by omega, by omega⟩, ⟨by omega, by omega⟩, fun q => by omega, fun _ => ⟨⟨by omega, by omega⟩, fun _ => C0, fun _ => C1, fun _ => C2, fun _ => C3, fun _ => C4, fun _ => C5, fun _ => C6, fun _ => C7, fun _ => C8, fun _ => C9, fun _ => C10, fun _ => C11, fun _ => C12, fun _ => C13, fun _ => C14, fun _ => C15, fun _ => C16, fun _ => C17, fun _ => C18, fun _ => C19, fun _ => C20, fun _ => C21, fun _ => C22, fun _ => C23, fun _ => C24, fun _ => C25, fun _ => C26, fun _ => C27, fun _ => C28, fun _ => C29, fun _ => C30, fun _ _ _ _ _ _ _ _ _ _ _ _ _ _ _ _ _ _ _ _ _ _ _ _ _ _ _ _ _ _ _ => next M rr rfl⟩⟩
theorem law_loop {Z : Int} (hZ : 0 ≤ Z ∧ Z ≤ 2560) : ∀ (k : Nat) (i : Int) (M : am_M), Z - i ≤ k → 0 ≤ i → i ≤ Z → RR M → iv M 5001 0 = Z → am_x t_LAW_law (18, [.ref 5000, .ref 0, .ref 58, .int (zi i)], [], M) (fun rv _ => rv = some (.int (zi 1))) := by
  intro k
  induction k with
  | zero =>
    intro i M h h0 h1 rr hM
    refine vc_LAW_18 i M _ ?_
    rw [hM]
    exact ⟨⟨by omega, by omega⟩, ⟨by omega, by omega⟩, fun _ => rfl, fun q => by omega⟩
  | succ k ih =>
    intro i M h h0 h1 rr hM
    by_cases q : i ≤ Z - 5
    · exact law_step hZ h0 q rr hM (fun M' r e => ih (i + 5) M' (by omega) (by omega) (by omega) r e)
    · refine vc_LAW_18 i M _ ?_
      rw [hM]
      exact ⟨⟨by omega, by omega⟩, ⟨by omega, by omega⟩, fun _ => rfl, fun z => absurd z q⟩
theorem m0_z (L : Nat) (xs : Nat → Int32) {a : Nat} (h0 : ¬ a = 5000) (h1 : ¬ a = 5001) (k : Int) : iv (am_M0 L xs) a k = 0 := by
  unfold iv am_M0
  rw [if_neg h0, if_neg h1]
  rfl
theorem m0_row (L : Nat) (xs : Nat → Int32) {a : Nat} (h0 : ¬ a = 5000) (h1 : ¬ a = 5001) : iv (am_M0 L xs) a = fun _ => 0 := funext (fun k => m0_z L xs h0 h1 k)
theorem zsh0 : ∀ n : Nat, n < 20 → zand (zshr 0 (n : Int)) 1 = 0 := by decide +kernel
theorem zbt0 : ∀ n : Nat, n < 2 → ¬ zbt 0 (n : Int) = true := by decide +kernel
theorem rr_0 (L : Nat) (xs : Nat → Int32) : RR (am_M0 L xs) := by
  have z0 : nops (fun _ => 0) = 0 := rfl
  have i0 : ia (fun _ => 0) 0 = 0 := rfl
  refine ⟨?_, ?_, ?_, ?_⟩
  · unfold CSt
    rw [m0_row L xs (by decide) (by decide), m0_row L xs (by decide) (by decide)]
    refine ⟨⟨Int.le_refl _, by decide, fun a h0 h1 => by have h1 : a < 0 := h1; omega, fun a h0 h1 => by have h1 : a < 0 := h1; omega, fun a h0 h1 => by have h1 : a < 0 := h1; omega, by rw [z0]; decide, by rw [z0, i0]; decide, fun o h0 h1 => by rw [z0] at h1; omega⟩, ⟨rfl, z0.symm, by rw [z0, i0], fun a h0 h1 => by have h1 : a < 0 := h1; omega, fun a h0 h1 => ?_, fun o h0 h1 => by rw [z0] at h1; omega⟩, by decide, fun a h0 h1 => ?_⟩
    · have h1 : a ≤ 0 := h1
      have : a = 0 := by omega
      rw [this]; rfl
    · obtain ⟨n, en⟩ : ∃ n : Nat, a = n := ⟨a.toNat, by omega⟩
      subst en
      have e := zsh0 n (by omega)
      show zand (zshr 0 (n : Int)) 1 = if (n : Int) < 0 then 0 else 0
      rw [e, if_neg (by omega)]
  · refine ⟨?_, ?_, fun k k0 k1 => ?_⟩
    · rw [m0_z L xs (by decide) (by decide), m0_z L xs (by decide) (by decide)]
    · rw [m0_z L xs (by decide) (by decide)]; decide
    · rw [m0_z L xs (by decide) (by decide)] at k1; omega
  · refine ⟨[], ⟨?_, fun i hi => absurd hi (Nat.not_lt_zero i)⟩, ⟨?_, ?_, fun i hi => absurd hi (Nat.not_lt_zero i)⟩, by decide⟩
    · rw [m0_z L xs (by decide) (by decide)]; rfl
    · rw [m0_z L xs (by decide) (by decide)]; rfl
    · rw [m0_z L xs (by decide) (by decide)]; decide
  · unfold ARC
    simp only [m0_z L xs (a := 58) (by decide) (by decide), m0_z L xs (a := 12) (by decide) (by decide), m0_z L xs (a := 62) (by decide) (by decide)]
    refine ⟨by decide, trivial, by decide, fun i i0 i1 => by omega, by decide, fun k k0 k1 => ⟨Or.inl trivial, ?_, fun q => absurd q (by decide)⟩⟩
    obtain ⟨n, en⟩ : ∃ n : Nat, k = n := ⟨k.toNat, by omega⟩
    subst en
    have e := zbt0 n (by omega)
    exact ⟨fun q => absurd q e, fun q => absurd q (by decide)⟩
theorem whole_pure (L : Nat) (xs : Nat → Int32) (hL : L ≤ 2560) : am_x t_LAW_law (18, [.ref 5000, .ref 0, .ref 58, .int 0], [], am_M0 L xs) (fun rv _ => rv = some (.int 1)) := by
  have e : iv (am_M0 L xs) 5001 0 = (L : Int) := by
    show (Int32.ofNat L).toInt = (L : Int)
    have : Int32.ofNat L = zi (L : Int) := zi_nat L
    rw [this, zi_toInt ⟨by omega, by omega⟩]
  exact law_loop (Z := (L : Int)) ⟨by omega, by omega⟩ L 0 (am_M0 L xs) (by omega) (by omega) (by omega) (rr_0 L xs) e
