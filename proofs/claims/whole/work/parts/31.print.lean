/-! what is printed -/
def PC (l : List Int) (M : am_M) : Prop := iv M 7 1 = l.length ∧ ∀ i : Nat, i < l.length → i < 1000 → iv M 8 i = l.getD i 0
def PM (l : List Int) (M : am_M) : Prop := iv M 58 24 = l.length ∧ iv M 58 23 = min (l.length : Int) 1000 ∧ ∀ i : Nat, i < l.length → i < 1000 → iv M 75 i = l.getD i 0
def CPf (M M' : am_M) : Prop := ∀ a, ¬ a = 7 → ¬ a = 8 → M' a = M a
def MPf (M M' : am_M) : Prop := (∀ a, ¬ a = 58 → ¬ a = 75 → M' a = M a) ∧ ∀ j, ¬ j = 23 → ¬ j = 24 → M' 58 j = M 58 j
theorem CPf_trans {M M' M'' : am_M} (h : CPf M M') (h' : CPf M' M'') : CPf M M'' := fun a a1 a2 => (h' a a1 a2).trans (h a a1 a2)
theorem MPf_trans {M M' M'' : am_M} (h : MPf M M') (h' : MPf M' M'') : MPf M M'' := ⟨fun a a1 a2 => (h'.1 a a1 a2).trans (h.1 a a1 a2), fun j a1 a2 => (h'.2 j a1 a2).trans (h.2 j a1 a2)⟩
def dI (v : Int) : List Int := (if 100 ≤ v then [48 + v / 100] else []) ++ ((if 10 ≤ v then [48 + v / 10 % 10] else []) ++ [48 + v % 10])
def dN (x : Int) : List Int := dI (x / 729) ++ ((if 0 < x % 729 / 27 then [65 + x % 729 / 27 - 1] else []) ++ (if 0 < x % 27 then [65 + x % 27 - 1] else []))
def dW (r : Int) : List Int := [32] ++ (if r = -5 then [63] else if r < 1000 then dI r else [64] ++ dN (r - 1000))
def cat (f : Int → List Int) : Nat → List Int
  | 0 => []
  | k + 1 => cat f k ++ f k
def dC (L : Lw) (c : Int) : List Int := dN (L.code c) ++ (cat (fun k => dW (tw L c k)) (L.len c).toNat ++ [10])
noncomputable def dL (L : Lw) : List Int := cat (fun i => dC L (atx L i)) (frc L 40).toNat
theorem dI_len (v : Int) : (dI v).length ≤ 3 := by
  unfold dI
  repeat' split
  all_goals simp
theorem dN_len (v : Int) : (dN v).length ≤ 5 := by
  have := dI_len (v / 729)
  unfold dN
  rw [List.length_append, List.length_append]
  have a : (if 0 < v % 729 / 27 then [65 + v % 729 / 27 - 1] else ([] : List Int)).length ≤ 1 := by split <;> simp
  have b : (if 0 < v % 27 then [65 + v % 27 - 1] else ([] : List Int)).length ≤ 1 := by split <;> simp
  omega
theorem dW_len (v : Int) : (dW v).length ≤ 7 := by
  have := dI_len v
  have := dN_len (v - 1000)
  unfold dW
  rw [List.length_append]
  have a : (if v = -5 then [63] else if v < 1000 then dI v else [64] ++ dN (v - 1000)).length ≤ 6 := by
    repeat' split
    · simp
    · omega
    · rw [List.length_append]; show 1 + _ ≤ 6; omega
  show 1 + _ ≤ 7
  omega
theorem cat_len (f : Int → List Int) (m : Nat) (n : Nat) (h : ∀ i : Nat, i < n → (f i).length ≤ m) : (cat f n).length ≤ m * n := by
  induction n with
  | zero => exact Nat.le_refl _
  | succ n ih =>
    have h1 := ih (fun i hi => h i (by omega))
    have h2 := h n (by omega)
    show (cat f n ++ f n).length ≤ m * (n + 1)
    rw [List.length_append, Nat.mul_succ]
    omega
theorem PC_row {l : List Int} {M M' : am_M} (h : PC l M) (h7 : M' 7 = M 7) (h8 : M' 8 = M 8) : PC l M' := by
  unfold PC at h ⊢
  rw [iv_row h7, iv_row h8]
  exact h
set_option maxRecDepth 100000 in
theorem vc_p7_append (x : Int) (M : am_M) (Q : Option Value → am_M → Prop) (hv : ((iv M 7 1) < 0 → ∀ M1, M1 = zup M 7 1 ((iv M 7 1) + 1) → Q none M1) ∧ (0 ≤ (iv M 7 1) → ((iv M 7 1) < 1000 → (0 ≤ (iv M 7 1) ∧ (iv M 7 1) < 1000) ∧ (∀ M2, M2 = zup M 8 (iv M 7 1) x → ∀ M4, M4 = zup M2 7 1 ((iv M2 7 1) + 1) → Q none M4)) ∧ (1000 ≤ (iv M 7 1) → ∀ M5, M5 = zup M 7 1 ((iv M 7 1) + 1) → Q none M5))) : am_x t_Pag_append (0, am_ent (am_mL t_Pag_append) [.ref 7, .int (zi x)], [], M) Q := by
  refine am_xn 0 (c1 := (0, [.ref 7, .int (zi x)], [], M)) rfl ?_
  refine am_xrd 2 7 1 (pc := 4) (ls := [.ref 7, .int (zi x)]) (st := []) rfl ?_
  refine am_xn 1 (c1 := (if zi (iv M 7 1) < zi 0 then 29 else 7, [.ref 7, .int (zi x)], [], M)) rfl (am_xlt (iv_r _ _ _) (by decide) (fun h => ?_) (fun h => ?_))
  · replace hv := hv.1 h
    refine am_xrd 3 7 1 (pc := 34) (ls := [.ref 7, .int (zi x)]) (st := [.ref 7]) rfl ?_
    refine am_xiadd 2 (iv M 7 1) 1 (pc := 36) (ls := [.ref 7, .int (zi x)]) (st := [.ref 7]) rfl ?_
    refine am_xn 1 (c1 := (39, [.ref 7, .int (zi x)], [], zup M 7 1 ((iv M 7 1) + 1))) rfl ?_
    obtain ⟨M1, eM1⟩ : ∃ m, m = zup M 7 1 ((iv M 7 1) + 1) := ⟨_, rfl⟩
    replace hv := hv M1 eM1
    rw [← eM1]
    exact am_xr none ⟨rfl, rfl, rfl⟩ hv
  · replace hv := hv.2 h
    refine am_xrd 2 7 1 (pc := 11) (ls := [.ref 7, .int (zi x)]) (st := []) rfl ?_
    refine am_xn 4 (c1 := (if zi (iv M 7 1) < zi 1000 then 19 else 29, [.ref 7, .int (zi x)], [], M)) rfl (am_xlt (iv_r _ _ _) (by decide) (fun h => ?_) (fun h => ?_))
    · replace hv := hv.1 h
      refine am_xrd 4 7 1 (pc := 27) (ls := [.ref 7, .int (zi x)]) (st := [.ref 8]) rfl ?_
      obtain ⟨r3, hv⟩ := hv
      refine am_xn 1 (c1 := (28, [.ref 7, .int (zi x)], [.int (zi x), .int (zi (iv M 7 1)), .ref 8], M)) rfl ?_
      refine am_xast rfl rfl rfl r3 ?_
      refine am_xn 0 (c1 := (29, [.ref 7, .int (zi x)], [], zup M 8 (iv M 7 1) x)) rfl ?_
      obtain ⟨M2, eM2⟩ : ∃ m, m = zup M 8 (iv M 7 1) x := ⟨_, rfl⟩
      replace hv := hv M2 eM2
      rw [← eM2]
      refine am_xrd 3 7 1 (pc := 34) (ls := [.ref 7, .int (zi x)]) (st := [.ref 7]) rfl ?_
      refine am_xiadd 2 (iv M2 7 1) 1 (pc := 36) (ls := [.ref 7, .int (zi x)]) (st := [.ref 7]) rfl ?_
      refine am_xn 1 (c1 := (39, [.ref 7, .int (zi x)], [], zup M2 7 1 ((iv M2 7 1) + 1))) rfl ?_
      obtain ⟨M4, eM4⟩ : ∃ m, m = zup M2 7 1 ((iv M2 7 1) + 1) := ⟨_, rfl⟩
      replace hv := hv M4 eM4
      rw [← eM4]
      exact am_xr none ⟨rfl, rfl, rfl⟩ hv
    · replace hv := hv.2 h
      refine am_xrd 3 7 1 (pc := 34) (ls := [.ref 7, .int (zi x)]) (st := [.ref 7]) rfl ?_
      refine am_xiadd 2 (iv M 7 1) 1 (pc := 36) (ls := [.ref 7, .int (zi x)]) (st := [.ref 7]) rfl ?_
      refine am_xn 1 (c1 := (39, [.ref 7, .int (zi x)], [], zup M 7 1 ((iv M 7 1) + 1))) rfl ?_
      obtain ⟨M5, eM5⟩ : ∃ m, m = zup M 7 1 ((iv M 7 1) + 1) := ⟨_, rfl⟩
      replace hv := hv M5 eM5
      rw [← eM5]
      exact am_xr none ⟨rfl, rfl, rfl⟩ hv
set_option maxRecDepth 100000 in
theorem vc_p7_appendInteger (v : Int) (M : am_M) (Q : Option Value → am_M → Prop) (hv : (zr v) ∧ ((v < 100 → (v < 10 → (0 ≤ v) ∧ (∃ M3, am_call t_Pag_append [.ref 7, .int (zi (48 + (v % 10)))] M none M3 ∧ (Q none M3))) ∧ (10 ≤ v → (0 ≤ v) ∧ ((0 ≤ (v / 10)) ∧ (∃ M6, am_call t_Pag_append [.ref 7, .int (zi (48 + ((v / 10) % 10)))] M none M6 ∧ ((0 ≤ v) ∧ (∃ M8, am_call t_Pag_append [.ref 7, .int (zi (48 + (v % 10)))] M6 none M8 ∧ (Q none M8))))))) ∧ (100 ≤ v → (0 ≤ v) ∧ (∃ M10, am_call t_Pag_append [.ref 7, .int (zi (48 + (v / 100)))] M none M10 ∧ ((0 ≤ v) ∧ ((0 ≤ (v / 10)) ∧ (∃ M13, am_call t_Pag_append [.ref 7, .int (zi (48 + ((v / 10) % 10)))] M10 none M13 ∧ ((0 ≤ v) ∧ (∃ M15, am_call t_Pag_append [.ref 7, .int (zi (48 + (v % 10)))] M13 none M15 ∧ (Q none M15)))))))))) : am_x t_Pag_appendInteger (0, am_ent (am_mL t_Pag_appendInteger) [.ref 7, .int (zi v)], [], M) Q := by
  refine am_xn 0 (c1 := (0, [.ref 7, .int (zi v)], [], M)) rfl ?_
  obtain ⟨r1, hv⟩ := hv
  refine am_xn 3 (c1 := (if zi v < zi 100 then 17 else 6, [.ref 7, .int (zi v)], [], M)) rfl (am_xlt r1 (by decide) (fun h => ?_) (fun h => ?_))
  · replace hv := hv.1 h
    refine am_xn 3 (c1 := (if zi v < zi 10 then 37 else 23, [.ref 7, .int (zi v)], [], M)) rfl (am_xlt r1 (by decide) (fun h => ?_) (fun h => ?_))
    · replace hv := hv.1 h
      obtain ⟨r2, hv⟩ := hv
      refine am_xn 4 (c1 := (43, [.ref 7, .int (zi v)], [.int (zi 10), .int (zi v), .int (zi 48), .ref 7], M)) rfl ?_
      refine am_xrem rfl r2 (by decide) r1 (by decide) ?_
      refine am_xn 0 (c1 := (44, [.ref 7, .int (zi v)], [.int (zi (v % 10)), .int (zi 48), .ref 7], M)) rfl ?_
      refine am_xiadd 1 48 (v % 10) (pc := 45) (ls := [.ref 7, .int (zi v)]) (st := [.ref 7]) rfl ?_
      obtain ⟨M3, hc, hv⟩ := hv
      refine am_xc t_Pag_append (.invokevirtual 28) 28 (av := [.ref 7, .int (zi (48 + (v % 10)))]) (rest := []) (rv := none) (M' := M3) rfl rfl rfl rfl (Nat.le_of_ble_eq_true rfl) (fun _ => rfl) (hc) ?_
      refine am_xn 0 (c1 := (48, [.ref 7, .int (zi v)], [], M3)) rfl ?_
      exact am_xr none ⟨rfl, rfl, rfl⟩ hv
    · replace hv := hv.2 h
      obtain ⟨r4, hv⟩ := hv
      refine am_xn 4 (c1 := (29, [.ref 7, .int (zi v)], [.int (zi 10), .int (zi v), .int (zi 48), .ref 7], M)) rfl ?_
      refine am_xdiv rfl r4 (by decide) r1 (by decide) ?_
      refine am_xn 0 (c1 := (30, [.ref 7, .int (zi v)], [.int (zi (v / 10)), .int (zi 48), .ref 7], M)) rfl ?_
      obtain ⟨r5, hv⟩ := hv
      refine am_xn 1 (c1 := (32, [.ref 7, .int (zi v)], [.int (zi 10), .int (zi (v / 10)), .int (zi 48), .ref 7], M)) rfl ?_
      refine am_xrem rfl r5 (by decide) (zr_div r4 (by decide) r1 (by decide)) (by decide) ?_
      refine am_xn 0 (c1 := (33, [.ref 7, .int (zi v)], [.int (zi ((v / 10) % 10)), .int (zi 48), .ref 7], M)) rfl ?_
      refine am_xiadd 1 48 ((v / 10) % 10) (pc := 34) (ls := [.ref 7, .int (zi v)]) (st := [.ref 7]) rfl ?_
      obtain ⟨M6, hc, hv⟩ := hv
      refine am_xc t_Pag_append (.invokevirtual 28) 28 (av := [.ref 7, .int (zi (48 + ((v / 10) % 10)))]) (rest := []) (rv := none) (M' := M6) rfl rfl rfl rfl (Nat.le_of_ble_eq_true rfl) (fun _ => rfl) (hc) ?_
      refine am_xn 0 (c1 := (37, [.ref 7, .int (zi v)], [], M6)) rfl ?_
      obtain ⟨r7, hv⟩ := hv
      refine am_xn 4 (c1 := (43, [.ref 7, .int (zi v)], [.int (zi 10), .int (zi v), .int (zi 48), .ref 7], M6)) rfl ?_
      refine am_xrem rfl r7 (by decide) r1 (by decide) ?_
      refine am_xn 0 (c1 := (44, [.ref 7, .int (zi v)], [.int (zi (v % 10)), .int (zi 48), .ref 7], M6)) rfl ?_
      refine am_xiadd 1 48 (v % 10) (pc := 45) (ls := [.ref 7, .int (zi v)]) (st := [.ref 7]) rfl ?_
      obtain ⟨M8, hc, hv⟩ := hv
      refine am_xc t_Pag_append (.invokevirtual 28) 28 (av := [.ref 7, .int (zi (48 + (v % 10)))]) (rest := []) (rv := none) (M' := M8) rfl rfl rfl rfl (Nat.le_of_ble_eq_true rfl) (fun _ => rfl) (hc) ?_
      refine am_xn 0 (c1 := (48, [.ref 7, .int (zi v)], [], M8)) rfl ?_
      exact am_xr none ⟨rfl, rfl, rfl⟩ hv
  · replace hv := hv.2 h
    obtain ⟨r9, hv⟩ := hv
    refine am_xn 4 (c1 := (12, [.ref 7, .int (zi v)], [.int (zi 100), .int (zi v), .int (zi 48), .ref 7], M)) rfl ?_
    refine am_xdiv rfl r9 (by decide) r1 (by decide) ?_
    refine am_xn 0 (c1 := (13, [.ref 7, .int (zi v)], [.int (zi (v / 100)), .int (zi 48), .ref 7], M)) rfl ?_
    refine am_xiadd 1 48 (v / 100) (pc := 14) (ls := [.ref 7, .int (zi v)]) (st := [.ref 7]) rfl ?_
    obtain ⟨M10, hc, hv⟩ := hv
    refine am_xc t_Pag_append (.invokevirtual 28) 28 (av := [.ref 7, .int (zi (48 + (v / 100)))]) (rest := []) (rv := none) (M' := M10) rfl rfl rfl rfl (Nat.le_of_ble_eq_true rfl) (fun _ => rfl) (hc) ?_
    refine am_xn 0 (c1 := (17, [.ref 7, .int (zi v)], [], M10)) rfl ?_
    refine am_xn 3 (c1 := (if zi v < zi 10 then 37 else 23, [.ref 7, .int (zi v)], [], M10)) rfl (am_xlt r1 (by decide) (fun h => by clear hv; exfalso; omega) (fun h => ?_))
    obtain ⟨r11, hv⟩ := hv
    refine am_xn 4 (c1 := (29, [.ref 7, .int (zi v)], [.int (zi 10), .int (zi v), .int (zi 48), .ref 7], M10)) rfl ?_
    refine am_xdiv rfl r11 (by decide) r1 (by decide) ?_
    refine am_xn 0 (c1 := (30, [.ref 7, .int (zi v)], [.int (zi (v / 10)), .int (zi 48), .ref 7], M10)) rfl ?_
    obtain ⟨r12, hv⟩ := hv
    refine am_xn 1 (c1 := (32, [.ref 7, .int (zi v)], [.int (zi 10), .int (zi (v / 10)), .int (zi 48), .ref 7], M10)) rfl ?_
    refine am_xrem rfl r12 (by decide) (zr_div r11 (by decide) r1 (by decide)) (by decide) ?_
    refine am_xn 0 (c1 := (33, [.ref 7, .int (zi v)], [.int (zi ((v / 10) % 10)), .int (zi 48), .ref 7], M10)) rfl ?_
    refine am_xiadd 1 48 ((v / 10) % 10) (pc := 34) (ls := [.ref 7, .int (zi v)]) (st := [.ref 7]) rfl ?_
    obtain ⟨M13, hc, hv⟩ := hv
    refine am_xc t_Pag_append (.invokevirtual 28) 28 (av := [.ref 7, .int (zi (48 + ((v / 10) % 10)))]) (rest := []) (rv := none) (M' := M13) rfl rfl rfl rfl (Nat.le_of_ble_eq_true rfl) (fun _ => rfl) (hc) ?_
    refine am_xn 0 (c1 := (37, [.ref 7, .int (zi v)], [], M13)) rfl ?_
    obtain ⟨r14, hv⟩ := hv
    refine am_xn 4 (c1 := (43, [.ref 7, .int (zi v)], [.int (zi 10), .int (zi v), .int (zi 48), .ref 7], M13)) rfl ?_
    refine am_xrem rfl r14 (by decide) r1 (by decide) ?_
    refine am_xn 0 (c1 := (44, [.ref 7, .int (zi v)], [.int (zi (v % 10)), .int (zi 48), .ref 7], M13)) rfl ?_
    refine am_xiadd 1 48 (v % 10) (pc := 45) (ls := [.ref 7, .int (zi v)]) (st := [.ref 7]) rfl ?_
    obtain ⟨M15, hc, hv⟩ := hv
    refine am_xc t_Pag_append (.invokevirtual 28) 28 (av := [.ref 7, .int (zi (48 + (v % 10)))]) (rest := []) (rv := none) (M' := M15) rfl rfl rfl rfl (Nat.le_of_ble_eq_true rfl) (fun _ => rfl) (hc) ?_
    refine am_xn 0 (c1 := (48, [.ref 7, .int (zi v)], [], M15)) rfl ?_
    exact am_xr none ⟨rfl, rfl, rfl⟩ hv
set_option maxRecDepth 100000 in
theorem vc_p7_appendNumber (x : Int) (M : am_M) (Q : Option Value → am_M → Prop) (hv : (zr x) ∧ ((0 ≤ x) ∧ ((0 ≤ (x % 729)) ∧ ((0 ≤ x) ∧ ((0 ≤ x) ∧ (∃ M6, am_call t_Pag_appendInteger [.ref 7, .int (zi (x / 729))] M none M6 ∧ ((0 < ((x % 729) / 27) → ∃ M7, am_call t_Pag_append [.ref 7, .int (zi ((65 + ((x % 729) / 27)) - 1))] M6 none M7 ∧ ((0 < (x % 27) → ∃ M8, am_call t_Pag_append [.ref 7, .int (zi ((65 + (x % 27)) - 1))] M7 none M8 ∧ (Q none M8)) ∧ ((x % 27) ≤ 0 → Q none M7))) ∧ (((x % 729) / 27) ≤ 0 → (0 < (x % 27) → ∃ M9, am_call t_Pag_append [.ref 7, .int (zi ((65 + (x % 27)) - 1))] M6 none M9 ∧ (Q none M9)) ∧ ((x % 27) ≤ 0 → Q none M6))))))))) : am_x t_Pag_appendNumber (0, am_ent (am_mL t_Pag_appendNumber) [.ref 7, .int (zi x)], [], M) Q := by
  refine am_xn 0 (c1 := (0, [.ref 7, .int (zi x), .null, .null], [], M)) rfl ?_
  obtain ⟨r1, hv⟩ := hv
  obtain ⟨r2, hv⟩ := hv
  refine am_xn 2 (c1 := (4, [.ref 7, .int (zi x), .null, .null], [.int (zi 729), .int (zi x)], M)) rfl ?_
  refine am_xrem rfl r2 (by decide) r1 (by decide) ?_
  refine am_xn 0 (c1 := (5, [.ref 7, .int (zi x), .null, .null], [.int (zi (x % 729))], M)) rfl ?_
  obtain ⟨r3, hv⟩ := hv
  refine am_xn 1 (c1 := (7, [.ref 7, .int (zi x), .null, .null], [.int (zi 27), .int (zi (x % 729))], M)) rfl ?_
  refine am_xdiv rfl r3 (by decide) (zr_rem r2 (by decide) r1 (by decide)) (by decide) ?_
  refine am_xn 0 (c1 := (8, [.ref 7, .int (zi x), .null, .null], [.int (zi ((x % 729) / 27))], M)) rfl ?_
  obtain ⟨r4, hv⟩ := hv
  refine am_xn 3 (c1 := (12, [.ref 7, .int (zi x), .int (zi ((x % 729) / 27)), .null], [.int (zi 27), .int (zi x)], M)) rfl ?_
  refine am_xrem rfl r4 (by decide) r1 (by decide) ?_
  refine am_xn 0 (c1 := (13, [.ref 7, .int (zi x), .int (zi ((x % 729) / 27)), .null], [.int (zi (x % 27))], M)) rfl ?_
  obtain ⟨r5, hv⟩ := hv
  refine am_xn 4 (c1 := (19, [.ref 7, .int (zi x), .int (zi ((x % 729) / 27)), .int (zi (x % 27))], [.int (zi 729), .int (zi x), .ref 7], M)) rfl ?_
  refine am_xdiv rfl r5 (by decide) r1 (by decide) ?_
  refine am_xn 0 (c1 := (20, [.ref 7, .int (zi x), .int (zi ((x % 729) / 27)), .int (zi (x % 27))], [.int (zi (x / 729)), .ref 7], M)) rfl ?_
  obtain ⟨M6, hc, hv⟩ := hv
  refine am_xc t_Pag_appendInteger (.invokevirtual 32) 32 (av := [.ref 7, .int (zi (x / 729))]) (rest := []) (rv := none) (M' := M6) rfl rfl rfl rfl (Nat.le_of_ble_eq_true rfl) (fun _ => rfl) (hc) ?_
  refine am_xn 0 (c1 := (23, [.ref 7, .int (zi x), .int (zi ((x % 729) / 27)), .int (zi (x % 27))], [], M6)) rfl ?_
  refine am_xn 2 (c1 := (if zi 0 < zi ((x % 729) / 27) then 27 else 37, [.ref 7, .int (zi x), .int (zi ((x % 729) / 27)), .int (zi (x % 27))], [], M6)) rfl (am_xlt (by decide) (zr_div r3 (by decide) (zr_rem r2 (by decide) r1 (by decide)) (by decide)) (fun h => ?_) (fun h => ?_))
  · replace hv := hv.1 h
    refine am_xiadd 4 65 ((x % 729) / 27) (pc := 32) (ls := [.ref 7, .int (zi x), .int (zi ((x % 729) / 27)), .int (zi (x % 27))]) (st := [.ref 7]) rfl ?_
    refine am_xisub 2 (65 + ((x % 729) / 27)) 1 (pc := 34) (ls := [.ref 7, .int (zi x), .int (zi ((x % 729) / 27)), .int (zi (x % 27))]) (st := [.ref 7]) rfl ?_
    obtain ⟨M7, hc, hv⟩ := hv
    refine am_xc t_Pag_append (.invokevirtual 28) 28 (av := [.ref 7, .int (zi ((65 + ((x % 729) / 27)) - 1))]) (rest := []) (rv := none) (M' := M7) rfl rfl rfl rfl (Nat.le_of_ble_eq_true rfl) (fun _ => rfl) (hc) ?_
    refine am_xn 0 (c1 := (37, [.ref 7, .int (zi x), .int (zi ((x % 729) / 27)), .int (zi (x % 27))], [], M7)) rfl ?_
    refine am_xn 2 (c1 := (if zi 0 < zi (x % 27) then 41 else 51, [.ref 7, .int (zi x), .int (zi ((x % 729) / 27)), .int (zi (x % 27))], [], M7)) rfl (am_xlt (by decide) (zr_rem r4 (by decide) r1 (by decide)) (fun h => ?_) (fun h => ?_))
    · replace hv := hv.1 h
      refine am_xiadd 4 65 (x % 27) (pc := 46) (ls := [.ref 7, .int (zi x), .int (zi ((x % 729) / 27)), .int (zi (x % 27))]) (st := [.ref 7]) rfl ?_
      refine am_xisub 2 (65 + (x % 27)) 1 (pc := 48) (ls := [.ref 7, .int (zi x), .int (zi ((x % 729) / 27)), .int (zi (x % 27))]) (st := [.ref 7]) rfl ?_
      obtain ⟨M8, hc, hv⟩ := hv
      refine am_xc t_Pag_append (.invokevirtual 28) 28 (av := [.ref 7, .int (zi ((65 + (x % 27)) - 1))]) (rest := []) (rv := none) (M' := M8) rfl rfl rfl rfl (Nat.le_of_ble_eq_true rfl) (fun _ => rfl) (hc) ?_
      refine am_xn 0 (c1 := (51, [.ref 7, .int (zi x), .int (zi ((x % 729) / 27)), .int (zi (x % 27))], [], M8)) rfl ?_
      exact am_xr none ⟨rfl, rfl, rfl⟩ hv
    · replace hv := hv.2 h
      exact am_xr none ⟨rfl, rfl, rfl⟩ hv
  · replace hv := hv.2 h
    refine am_xn 2 (c1 := (if zi 0 < zi (x % 27) then 41 else 51, [.ref 7, .int (zi x), .int (zi ((x % 729) / 27)), .int (zi (x % 27))], [], M6)) rfl (am_xlt (by decide) (zr_rem r4 (by decide) r1 (by decide)) (fun h => ?_) (fun h => ?_))
    · replace hv := hv.1 h
      refine am_xiadd 4 65 (x % 27) (pc := 46) (ls := [.ref 7, .int (zi x), .int (zi ((x % 729) / 27)), .int (zi (x % 27))]) (st := [.ref 7]) rfl ?_
      refine am_xisub 2 (65 + (x % 27)) 1 (pc := 48) (ls := [.ref 7, .int (zi x), .int (zi ((x % 729) / 27)), .int (zi (x % 27))]) (st := [.ref 7]) rfl ?_
      obtain ⟨M9, hc, hv⟩ := hv
      refine am_xc t_Pag_append (.invokevirtual 28) 28 (av := [.ref 7, .int (zi ((65 + (x % 27)) - 1))]) (rest := []) (rv := none) (M' := M9) rfl rfl rfl rfl (Nat.le_of_ble_eq_true rfl) (fun _ => rfl) (hc) ?_
      refine am_xn 0 (c1 := (51, [.ref 7, .int (zi x), .int (zi ((x % 729) / 27)), .int (zi (x % 27))], [], M9)) rfl ?_
      exact am_xr none ⟨rfl, rfl, rfl⟩ hv
    · replace hv := hv.2 h
      exact am_xr none ⟨rfl, rfl, rfl⟩ hv
set_option maxRecDepth 100000 in
theorem vc_p7_byteAt (i : Int) (M : am_M) (Q : Option Value → am_M → Prop) (hv : (zr i) ∧ ((i < 0 → Q (some (.int (zi (-1)))) M) ∧ (0 ≤ i → (i < (iv M 7 1) → (i < 1000 → (0 ≤ i ∧ i < 1000) ∧ (Q (some (.int (zi (iv M 8 i)))) M)) ∧ (1000 ≤ i → Q (some (.int (zi (-1)))) M)) ∧ ((iv M 7 1) ≤ i → Q (some (.int (zi (-1)))) M)))) : am_x t_Pag_byteAt (0, am_ent (am_mL t_Pag_byteAt) [.ref 7, .int (zi i)], [], M) Q := by
  refine am_xn 0 (c1 := (0, [.ref 7, .int (zi i)], [], M)) rfl ?_
  obtain ⟨r1, hv⟩ := hv
  refine am_xn 2 (c1 := (if zi i < zi 0 then 30 else 4, [.ref 7, .int (zi i)], [], M)) rfl (am_xlt r1 (by decide) (fun h => ?_) (fun h => ?_))
  · replace hv := hv.1 h
    refine am_xn 1 (c1 := (31, [.ref 7, .int (zi i)], [.int (zi (-1))], M)) rfl ?_
    exact am_xr (some (.int (zi (-1)))) ⟨rfl, rfl, .int, rfl, rfl⟩ hv
  · replace hv := hv.2 h
    refine am_xrd 3 7 1 (pc := 9) (ls := [.ref 7, .int (zi i)]) (st := [.int (zi i)]) rfl ?_
    refine am_xn 1 (c1 := (if zi i < zi (iv M 7 1) then 12 else 30, [.ref 7, .int (zi i)], [], M)) rfl (am_xlt r1 (iv_r _ _ _) (fun h => ?_) (fun h => ?_))
    · replace hv := hv.1 h
      refine am_xn 5 (c1 := (if zi i < zi 1000 then 21 else 30, [.ref 7, .int (zi i)], [], M)) rfl (am_xlt r1 (by decide) (fun h => ?_) (fun h => ?_))
      · replace hv := hv.1 h
        obtain ⟨r2, hv⟩ := hv
        refine am_xn 3 (c1 := (26, [.ref 7, .int (zi i)], [.int (zi i), .ref 8], M)) rfl ?_
        refine am_xald rfl rfl rfl r2 ?_
        refine am_xn 0 (c1 := (27, [.ref 7, .int (zi i)], [.int (zi (iv M 8 i))], M)) rfl ?_
        refine am_xn 1 (c1 := (31, [.ref 7, .int (zi i)], [.int (zi (iv M 8 i))], M)) rfl ?_
        exact am_xr (some (.int (zi (iv M 8 i)))) ⟨rfl, rfl, .int, rfl, rfl⟩ hv
      · replace hv := hv.2 h
        refine am_xn 1 (c1 := (31, [.ref 7, .int (zi i)], [.int (zi (-1))], M)) rfl ?_
        exact am_xr (some (.int (zi (-1)))) ⟨rfl, rfl, .int, rfl, rfl⟩ hv
    · replace hv := hv.2 h
      refine am_xn 1 (c1 := (31, [.ref 7, .int (zi i)], [.int (zi (-1))], M)) rfl ?_
      exact am_xr (some (.int (zi (-1)))) ⟨rfl, rfl, .int, rfl, rfl⟩ hv
set_option maxRecDepth 100000 in
theorem vc_p7_written  (M : am_M) (Q : Option Value → am_M → Prop) (hv : Q (some (.int (zi (iv M 7 1)))) M) : am_x t_Pag_written (0, am_ent (am_mL t_Pag_written) [.ref 7], [], M) Q := by
  refine am_xn 0 (c1 := (0, [.ref 7], [], M)) rfl ?_
  refine am_xrd 2 7 1 (pc := 4) (ls := [.ref 7]) (st := []) rfl ?_
  exact am_xr (some (.int (zi (iv M 7 1)))) ⟨rfl, rfl, .int, rfl, rfl⟩ hv
set_option maxRecDepth 100000 in
theorem vc_p7_makeEmpty  (M : am_M) (Q : Option Value → am_M → Prop) (hv : ∀ M1, M1 = zup M 7 1 0 → Q none M1) : am_x t_Pag_makeEmpty (0, am_ent (am_mL t_Pag_makeEmpty) [.ref 7], [], M) Q := by
  refine am_xn 0 (c1 := (0, [.ref 7], [], M)) rfl ?_
  refine am_xn 3 (c1 := (5, [.ref 7], [], zup M 7 1 0)) rfl ?_
  obtain ⟨M1, eM1⟩ : ∃ m, m = zup M 7 1 0 := ⟨_, rfl⟩
  replace hv := hv M1 eM1
  rw [← eM1]
  exact am_xr none ⟨rfl, rfl, rfl⟩ hv
set_option maxRecDepth 100000 in
theorem vc_printClause (c : Int) (M : am_M) (Q : Option Value → am_M → Prop) (hv : (0 ≤ c ∧ c < 40) ∧ (∃ M1, am_call t_Pag_appendNumber [.ref 7, .int (zi (iv M 17 c))] M none M1 ∧ (am_x t_SB_printClause (17, [.ref 0, .int (zi c), .int (zi 0), .null], [], M1) Q))) : am_x t_SB_printClause (0, am_ent (am_mL t_SB_printClause) [.ref 0, .int (zi c)], [], M) Q := by
  refine am_xn 0 (c1 := (0, [.ref 0, .int (zi c), .null, .null], [], M)) rfl ?_
  refine am_xn 5 (c1 := (9, [.ref 0, .int (zi c), .null, .null], [.int (zi c), .ref 15, .ref 7], M)) rfl ?_
  obtain ⟨g, hv⟩ := hv
  refine am_xc t_Law_code (.invokevirtual 172) 172 (av := [.ref 15, .int (zi c)]) (rest := [.ref 7]) (rv := some (.int (zi (iv M 17 c)))) (M' := M) rfl rfl rfl rfl (Nat.le_of_ble_eq_true rfl) (fun _ => rfl) (sp_l15_code M c g) ?_
  refine am_xn 0 (c1 := (12, [.ref 0, .int (zi c), .null, .null], [.int (zi (iv M 17 c)), .ref 7], M)) rfl ?_
  obtain ⟨M1, hc, hv⟩ := hv
  refine am_xc t_Pag_appendNumber (.invokevirtual 199) 199 (av := [.ref 7, .int (zi (iv M 17 c))]) (rest := []) (rv := none) (M' := M1) rfl rfl rfl rfl (Nat.le_of_ble_eq_true rfl) (fun _ => rfl) (hc) ?_
  refine am_xn 0 (c1 := (15, [.ref 0, .int (zi c), .null, .null], [], M1)) rfl ?_
  refine am_xn 2 (c1 := (17, [.ref 0, .int (zi c), .int (zi 0), .null], [], M1)) rfl ?_
  exact hv
set_option maxRecDepth 100000 in
theorem vc_printClause_17 (x1 : Int) (x2 : Int) (M : am_M) (Q : Option Value → am_M → Prop) (hv : (0 ≤ x1 ∧ x1 < 40) ∧ ((zr x2) ∧ ((x2 < (iv M 21 x1) → ∃ M2, am_call t_Pag_append [.ref 7, .int (zi 32)] M none M2 ∧ (∃ (r4 : Int) (M3 : am_M), am_call t_SB_presentWord [.ref 0, .int (zi x1), .int (zi x2)] M2 (some (.int (zi r4))) M3 ∧ ((zr r4) ∧ ((r4 = (-5) → ∃ M6, am_call t_Pag_append [.ref 7, .int (zi 63)] M3 none M6 ∧ (am_x t_SB_printClause (17, [.ref 0, .int (zi x1), .int (zi (x2 + 1)), .null], [], M6) Q)) ∧ (¬ r4 = (-5) → (r4 < 1000 → ∃ M7, am_call t_Pag_appendInteger [.ref 7, .int (zi r4)] M3 none M7 ∧ (am_x t_SB_printClause (17, [.ref 0, .int (zi x1), .int (zi (x2 + 1)), .null], [], M7) Q)) ∧ (1000 ≤ r4 → ∃ M8, am_call t_Pag_append [.ref 7, .int (zi 64)] M3 none M8 ∧ (∃ M9, am_call t_Pag_appendNumber [.ref 7, .int (zi (r4 - 1000))] M8 none M9 ∧ (am_x t_SB_printClause (17, [.ref 0, .int (zi x1), .int (zi (x2 + 1)), .null], [], M9) Q)))))))) ∧ ((iv M 21 x1) ≤ x2 → ∃ M10, am_call t_Pag_append [.ref 7, .int (zi 10)] M none M10 ∧ (Q none M10))))) : am_x t_SB_printClause (17, [.ref 0, .int (zi x1), .int (zi x2), .null], [], M) Q := by
  refine am_xn 4 (c1 := (23, [.ref 0, .int (zi x1), .int (zi x2), .null], [.int (zi x1), .ref 15, .int (zi x2)], M)) rfl ?_
  obtain ⟨g, hv⟩ := hv
  refine am_xc t_Law_length (.invokevirtual 175) 175 (av := [.ref 15, .int (zi x1)]) (rest := [.int (zi x2)]) (rv := some (.int (zi (iv M 21 x1)))) (M' := M) rfl rfl rfl rfl (Nat.le_of_ble_eq_true rfl) (fun _ => rfl) (sp_l15_length M x1 g) ?_
  refine am_xn 0 (c1 := (26, [.ref 0, .int (zi x1), .int (zi x2), .null], [.int (zi (iv M 21 x1)), .int (zi x2)], M)) rfl ?_
  obtain ⟨r1, hv⟩ := hv
  refine am_xn 1 (c1 := (if zi x2 < zi (iv M 21 x1) then 29 else 108, [.ref 0, .int (zi x1), .int (zi x2), .null], [], M)) rfl (am_xlt r1 (iv_r _ _ _) (fun h => ?_) (fun h => ?_))
  · replace hv := hv.1 h
    refine am_xn 3 (c1 := (35, [.ref 0, .int (zi x1), .int (zi x2), .null], [.int (zi 32), .ref 7], M)) rfl ?_
    obtain ⟨M2, hc, hv⟩ := hv
    refine am_xc t_Pag_append (.invokevirtual 67) 67 (av := [.ref 7, .int (zi 32)]) (rest := []) (rv := none) (M' := M2) rfl rfl rfl rfl (Nat.le_of_ble_eq_true rfl) (fun _ => rfl) (hc) ?_
    refine am_xn 0 (c1 := (38, [.ref 0, .int (zi x1), .int (zi x2), .null], [], M2)) rfl ?_
    refine am_xn 3 (c1 := (41, [.ref 0, .int (zi x1), .int (zi x2), .null], [.int (zi x2), .int (zi x1), .ref 0], M2)) rfl ?_
    obtain ⟨r4, M3, hc, hv⟩ := hv
    refine am_xc t_SB_presentWord (.invokevirtual 181) 181 (av := [.ref 0, .int (zi x1), .int (zi x2)]) (rest := []) (rv := some (.int (zi r4))) (M' := M3) rfl rfl rfl rfl (Nat.le_of_ble_eq_true rfl) (fun _ => rfl) (hc) ?_
    refine am_xn 0 (c1 := (44, [.ref 0, .int (zi x1), .int (zi x2), .null], [.int (zi r4)], M3)) rfl ?_
    obtain ⟨r5, hv⟩ := hv
    refine am_xn 4 (c1 := (if zi r4 = zi (-5) then 51 else 63, [.ref 0, .int (zi x1), .int (zi x2), .int (zi r4)], [], M3)) rfl (am_xeq r5 (by decide) (fun h => ?_) (fun h => ?_))
    · replace hv := hv.1 h
      refine am_xn 3 (c1 := (57, [.ref 0, .int (zi x1), .int (zi x2), .int (zi r4)], [.int (zi 63), .ref 7], M3)) rfl ?_
      obtain ⟨M6, hc, hv⟩ := hv
      refine am_xc t_Pag_append (.invokevirtual 67) 67 (av := [.ref 7, .int (zi 63)]) (rest := []) (rv := none) (M' := M6) rfl rfl rfl rfl (Nat.le_of_ble_eq_true rfl) (fun _ => rfl) (hc) ?_
      refine am_xn 0 (c1 := (60, [.ref 0, .int (zi x1), .int (zi x2), .int (zi r4)], [], M6)) rfl ?_
      refine am_xn 2 (c1 := (105, [.ref 0, .int (zi x1), .int (zi x2 + zi 1), .int (zi r4)], [], M6)) rfl ?_
      rw [zi_add]
      refine am_xn 1 (c1 := (17, [.ref 0, .int (zi x1), .int (zi (x2 + 1)), .int (zi r4)], [], M6)) rfl ?_
      refine am_xf 3 ?_
      exact hv
    · replace hv := hv.2 h
      refine am_xn 3 (c1 := (if zi r4 < zi 1000 then 94 else 70, [.ref 0, .int (zi x1), .int (zi x2), .int (zi r4)], [], M3)) rfl (am_xlt r5 (by decide) (fun h => ?_) (fun h => ?_))
      · replace hv := hv.1 h
        refine am_xn 3 (c1 := (99, [.ref 0, .int (zi x1), .int (zi x2), .int (zi r4)], [.int (zi r4), .ref 7], M3)) rfl ?_
        obtain ⟨M7, hc, hv⟩ := hv
        refine am_xc t_Pag_appendInteger (.invokevirtual 202) 202 (av := [.ref 7, .int (zi r4)]) (rest := []) (rv := none) (M' := M7) rfl rfl rfl rfl (Nat.le_of_ble_eq_true rfl) (fun _ => rfl) (hc) ?_
        refine am_xn 0 (c1 := (102, [.ref 0, .int (zi x1), .int (zi x2), .int (zi r4)], [], M7)) rfl ?_
        refine am_xn 1 (c1 := (105, [.ref 0, .int (zi x1), .int (zi x2 + zi 1), .int (zi r4)], [], M7)) rfl ?_
        rw [zi_add]
        refine am_xn 1 (c1 := (17, [.ref 0, .int (zi x1), .int (zi (x2 + 1)), .int (zi r4)], [], M7)) rfl ?_
        refine am_xf 3 ?_
        exact hv
      · replace hv := hv.2 h
        refine am_xn 3 (c1 := (76, [.ref 0, .int (zi x1), .int (zi x2), .int (zi r4)], [.int (zi 64), .ref 7], M3)) rfl ?_
        obtain ⟨M8, hc, hv⟩ := hv
        refine am_xc t_Pag_append (.invokevirtual 67) 67 (av := [.ref 7, .int (zi 64)]) (rest := []) (rv := none) (M' := M8) rfl rfl rfl rfl (Nat.le_of_ble_eq_true rfl) (fun _ => rfl) (hc) ?_
        refine am_xn 0 (c1 := (79, [.ref 0, .int (zi x1), .int (zi x2), .int (zi r4)], [], M8)) rfl ?_
        refine am_xisub 5 r4 1000 (pc := 88) (ls := [.ref 0, .int (zi x1), .int (zi x2), .int (zi r4)]) (st := [.ref 7]) rfl ?_
        obtain ⟨M9, hc, hv⟩ := hv
        refine am_xc t_Pag_appendNumber (.invokevirtual 199) 199 (av := [.ref 7, .int (zi (r4 - 1000))]) (rest := []) (rv := none) (M' := M9) rfl rfl rfl rfl (Nat.le_of_ble_eq_true rfl) (fun _ => rfl) (hc) ?_
        refine am_xn 0 (c1 := (91, [.ref 0, .int (zi x1), .int (zi x2), .int (zi r4)], [], M9)) rfl ?_
        refine am_xn 2 (c1 := (105, [.ref 0, .int (zi x1), .int (zi x2 + zi 1), .int (zi r4)], [], M9)) rfl ?_
        rw [zi_add]
        refine am_xn 1 (c1 := (17, [.ref 0, .int (zi x1), .int (zi (x2 + 1)), .int (zi r4)], [], M9)) rfl ?_
        refine am_xf 3 ?_
        exact hv
  · replace hv := hv.2 h
    refine am_xn 3 (c1 := (114, [.ref 0, .int (zi x1), .int (zi x2), .null], [.int (zi 10), .ref 7], M)) rfl ?_
    obtain ⟨M10, hc, hv⟩ := hv
    refine am_xc t_Pag_append (.invokevirtual 67) 67 (av := [.ref 7, .int (zi 10)]) (rest := []) (rv := none) (M' := M10) rfl rfl rfl rfl (Nat.le_of_ble_eq_true rfl) (fun _ => rfl) (hc) ?_
    refine am_xn 0 (c1 := (117, [.ref 0, .int (zi x1), .int (zi x2), .null], [], M10)) rfl ?_
    exact am_xr none ⟨rfl, rfl, rfl⟩ hv
set_option maxRecDepth 100000 in
theorem vc_c_print (d : Int) (e : Int) (M : am_M) (Q : Option Value → am_M → Prop) (hv : (zr d ∧ zr e) ∧ (((0 ≤ d ∧ d ≤ 9999) ∧ (e = -1 ∨ (0 ≤ e ∧ e ≤ 9999)) → ∃ M1, am_call t_SB_consolidate [.ref 0, .int (zi d), .int (zi e)] M none M1 ∧ (∃ M2, am_call t_Pag_makeEmpty [.ref 7] M1 none M2 ∧ (am_x t_SB_print (26, [.ref 0, .null, .null, .int (zi 0)], [], M2) Q))) ∧ (¬ ((0 ≤ d ∧ d ≤ 9999) ∧ (e = -1 ∨ (0 ≤ e ∧ e ≤ 9999))) → Q (some (.int (zi (-2)))) M))) : am_x t_SB_print (0, am_ent (am_mL t_SB_print) [.ref 0, .int (zi d), .int (zi e)], [], M) Q := by
  refine am_xn 0 (c1 := (0, [.ref 0, .int (zi d), .int (zi e), .null], [], M)) rfl ?_
  refine am_xn 2 (c1 := (2, [.ref 0, .int (zi d), .int (zi e), .null], [.int (zi e), .int (zi d)], M)) rfl ?_
  obtain ⟨g, hv⟩ := hv
  by_cases c3 : (0 ≤ d ∧ d ≤ 9999) ∧ (e = -1 ∨ (0 ≤ e ∧ e ≤ 9999))
  · replace hv := hv.1 c3
    refine am_xc t_SB_isLaw (.invokestatic 159) 159 (av := [.int (zi d), .int (zi e)]) (rest := []) (rv := some (.int (zi 1))) (M' := M) rfl rfl rfl rfl (Nat.le_of_ble_eq_true rfl) (fun h => nomatch h) (by have q := sp_isLaw M d e g; rwa [if_pos c3] at q) ?_
    refine am_xn 0 (c1 := (5, [.ref 0, .int (zi d), .int (zi e), .null], [.int (zi 1)], M)) rfl ?_
    refine am_xn 4 (c1 := (14, [.ref 0, .int (zi d), .int (zi e), .null], [.int (zi e), .int (zi d), .ref 0], M)) rfl ?_
    obtain ⟨M1, hc, hv⟩ := hv
    refine am_xc t_SB_consolidate (.invokevirtual 162) 162 (av := [.ref 0, .int (zi d), .int (zi e)]) (rest := []) (rv := none) (M' := M1) rfl rfl rfl rfl (Nat.le_of_ble_eq_true rfl) (fun _ => rfl) (hc) ?_
    refine am_xn 0 (c1 := (17, [.ref 0, .int (zi d), .int (zi e), .null], [], M1)) rfl ?_
    refine am_xn 2 (c1 := (21, [.ref 0, .int (zi d), .int (zi e), .null], [.ref 7], M1)) rfl ?_
    obtain ⟨M2, hc, hv⟩ := hv
    refine am_xc t_Pag_makeEmpty (.invokevirtual 70) 70 (av := [.ref 7]) (rest := []) (rv := none) (M' := M2) rfl rfl rfl rfl (Nat.le_of_ble_eq_true rfl) (fun _ => rfl) (hc) ?_
    refine am_xn 0 (c1 := (24, [.ref 0, .int (zi d), .int (zi e), .null], [], M2)) rfl ?_
    refine am_xn 2 (c1 := (26, [.ref 0, .int (zi d), .int (zi e), .int (zi 0)], [], M2)) rfl ?_
    refine am_xf 1 ?_
    refine am_xf 2 ?_
    exact hv
  · replace hv := hv.2 c3
    refine am_xc t_SB_isLaw (.invokestatic 159) 159 (av := [.int (zi d), .int (zi e)]) (rest := []) (rv := some (.int (zi 0))) (M' := M) rfl rfl rfl rfl (Nat.le_of_ble_eq_true rfl) (fun h => nomatch h) (by have q := sp_isLaw M d e g; rwa [if_neg c3] at q) ?_
    refine am_xn 0 (c1 := (5, [.ref 0, .int (zi d), .int (zi e), .null], [.int (zi 0)], M)) rfl ?_
    refine am_xn 2 (c1 := (10, [.ref 0, .int (zi d), .int (zi e), .null], [.int (zi (-2))], M)) rfl ?_
    exact am_xr (some (.int (zi (-2)))) ⟨rfl, rfl, .int, rfl, rfl⟩ hv
set_option maxRecDepth 100000 in
theorem vc_c_print_26 (x3 : Int) (M : am_M) (Q : Option Value → am_M → Prop) (hv : (zr x3) ∧ ((x3 < (iv M 15 9) → (0 ≤ x3 ∧ x3 < 40) ∧ (∃ M2, am_call t_SB_printClause [.ref 0, .int (zi (iv M 25 x3))] M none M2 ∧ (am_x t_SB_print (26, [.ref 0, .null, .null, .int (zi (x3 + 1))], [], M2) Q))) ∧ ((iv M 15 9) ≤ x3 → ∃ (r4 : Int) (M3 : am_M), am_call t_Pag_written [.ref 7] M (some (.int (zi r4))) M3 ∧ (Q (some (.int (zi r4))) M3)))) : am_x t_SB_print (26, [.ref 0, .null, .null, .int (zi x3)], [], M) Q := by
  refine am_xn 3 (c1 := (31, [.ref 0, .null, .null, .int (zi x3)], [.ref 15, .int (zi x3)], M)) rfl ?_
  refine am_xc t_Law_size (.invokevirtual 165) 165 (av := [.ref 15]) (rest := [.int (zi x3)]) (rv := some (.int (zi (iv M 15 9)))) (M' := M) rfl rfl rfl rfl (Nat.le_of_ble_eq_true rfl) (fun _ => rfl) (sp_l15_size M) ?_
  refine am_xn 0 (c1 := (34, [.ref 0, .null, .null, .int (zi x3)], [.int (zi (iv M 15 9)), .int (zi x3)], M)) rfl ?_
  obtain ⟨r1, hv⟩ := hv
  refine am_xn 1 (c1 := (if zi x3 < zi (iv M 15 9) then 37 else 55, [.ref 0, .null, .null, .int (zi x3)], [], M)) rfl (am_xlt r1 (iv_r _ _ _) (fun h => ?_) (fun h => ?_))
  · replace hv := hv.1 h
    refine am_xn 4 (c1 := (43, [.ref 0, .null, .null, .int (zi x3)], [.int (zi x3), .ref 15, .ref 0], M)) rfl ?_
    obtain ⟨g, hv⟩ := hv
    refine am_xc t_Law_at (.invokevirtual 166) 166 (av := [.ref 15, .int (zi x3)]) (rest := [.ref 0]) (rv := some (.int (zi (iv M 25 x3)))) (M' := M) rfl rfl rfl rfl (Nat.le_of_ble_eq_true rfl) (fun _ => rfl) (sp_l15_at M x3 g) ?_
    refine am_xn 0 (c1 := (46, [.ref 0, .null, .null, .int (zi x3)], [.int (zi (iv M 25 x3)), .ref 0], M)) rfl ?_
    obtain ⟨M2, hc, hv⟩ := hv
    refine am_xc t_SB_printClause (.invokevirtual 193) 193 (av := [.ref 0, .int (zi (iv M 25 x3))]) (rest := []) (rv := none) (M' := M2) rfl rfl rfl rfl (Nat.le_of_ble_eq_true rfl) (fun _ => rfl) (hc) ?_
    refine am_xn 0 (c1 := (49, [.ref 0, .null, .null, .int (zi x3)], [], M2)) rfl ?_
    refine am_xn 1 (c1 := (52, [.ref 0, .null, .null, .int (zi x3 + zi 1)], [], M2)) rfl ?_
    rw [zi_add]
    refine am_xn 1 (c1 := (26, [.ref 0, .null, .null, .int (zi (x3 + 1))], [], M2)) rfl ?_
    exact hv
  · replace hv := hv.2 h
    refine am_xn 2 (c1 := (59, [.ref 0, .null, .null, .int (zi x3)], [.ref 7], M)) rfl ?_
    obtain ⟨r4, M3, hc, hv⟩ := hv
    refine am_xc t_Pag_written (.invokevirtual 196) 196 (av := [.ref 7]) (rest := []) (rv := some (.int (zi r4))) (M' := M3) rfl rfl rfl rfl (Nat.le_of_ble_eq_true rfl) (fun _ => rfl) (hc) ?_
    refine am_xn 0 (c1 := (62, [.ref 0, .null, .null, .int (zi x3)], [.int (zi r4)], M3)) rfl ?_
    exact am_xr (some (.int (zi r4))) ⟨rfl, rfl, .int, rfl, rfl⟩ hv
set_option maxRecDepth 100000 in
theorem vc_c_printed (i : Int) (M : am_M) (Q : Option Value → am_M → Prop) (hv : (zr i) ∧ ((i < 0 → Q (some (.int (zi (-2)))) M) ∧ (0 ≤ i → ∃ (r3 : Int) (M2 : am_M), am_call t_Pag_byteAt [.ref 7, .int (zi i)] M (some (.int (zi r3))) M2 ∧ (Q (some (.int (zi r3))) M2)))) : am_x t_SB_printed (0, am_ent (am_mL t_SB_printed) [.ref 0, .int (zi i)], [], M) Q := by
  refine am_xn 0 (c1 := (0, [.ref 0, .int (zi i)], [], M)) rfl ?_
  obtain ⟨r1, hv⟩ := hv
  refine am_xn 2 (c1 := (if zi i < zi 0 then 4 else 9, [.ref 0, .int (zi i)], [], M)) rfl (am_xlt r1 (by decide) (fun h => ?_) (fun h => ?_))
  · replace hv := hv.1 h
    refine am_xn 2 (c1 := (17, [.ref 0, .int (zi i)], [.int (zi (-2))], M)) rfl ?_
    exact am_xr (some (.int (zi (-2)))) ⟨rfl, rfl, .int, rfl, rfl⟩ hv
  · replace hv := hv.2 h
    refine am_xn 3 (c1 := (14, [.ref 0, .int (zi i)], [.int (zi i), .ref 7], M)) rfl ?_
    obtain ⟨r3, M2, hc, hv⟩ := hv
    refine am_xc t_Pag_byteAt (.invokevirtual 205) 205 (av := [.ref 7, .int (zi i)]) (rest := []) (rv := some (.int (zi r3))) (M' := M2) rfl rfl rfl rfl (Nat.le_of_ble_eq_true rfl) (fun _ => rfl) (hc) ?_
    refine am_xn 0 (c1 := (17, [.ref 0, .int (zi i)], [.int (zi r3)], M2)) rfl ?_
    exact am_xr (some (.int (zi r3))) ⟨rfl, rfl, .int, rfl, rfl⟩ hv
set_option maxRecDepth 100000 in
theorem vc_prints (x : Int) (M : am_M) (Q : Option Value → am_M → Prop) (hv : ((iv M 58 24) < 1000 → (0 ≤ (iv M 58 24) ∧ (iv M 58 24) < 1000) ∧ (∀ M1, M1 = zup M 75 (iv M 58 24) x → ∀ M3, M3 = zup M1 58 23 ((iv M1 58 24) + 1) → ∀ M4, M4 = zup M3 58 24 ((iv M3 58 24) + 1) → Q none M4)) ∧ (1000 ≤ (iv M 58 24) → ∀ M5, M5 = zup M 58 24 ((iv M 58 24) + 1) → Q none M5)) : am_x t_Mo_prints (0, am_ent (am_mL t_Mo_prints) [.ref 58, .int (zi x)], [], M) Q := by
  refine am_xn 0 (c1 := (0, [.ref 58, .int (zi x)], [], M)) rfl ?_
  refine am_xrd 2 58 24 (pc := 4) (ls := [.ref 58, .int (zi x)]) (st := []) rfl ?_
  refine am_xn 2 (c1 := (if zi (iv M 58 24) < zi 1000 then 10 else 30, [.ref 58, .int (zi x)], [], M)) rfl (am_xlt (iv_r _ _ _) (by decide) (fun h => ?_) (fun h => ?_))
  · replace hv := hv.1 h
    refine am_xrd 4 58 24 (pc := 18) (ls := [.ref 58, .int (zi x)]) (st := [.ref 75]) rfl ?_
    obtain ⟨r2, hv⟩ := hv
    refine am_xn 1 (c1 := (19, [.ref 58, .int (zi x)], [.int (zi x), .int (zi (iv M 58 24)), .ref 75], M)) rfl ?_
    refine am_xast rfl rfl rfl r2 ?_
    refine am_xn 0 (c1 := (20, [.ref 58, .int (zi x)], [], zup M 75 (iv M 58 24) x)) rfl ?_
    obtain ⟨M1, eM1⟩ : ∃ m, m = zup M 75 (iv M 58 24) x := ⟨_, rfl⟩
    replace hv := hv M1 eM1
    rw [← eM1]
    refine am_xrd 3 58 24 (pc := 25) (ls := [.ref 58, .int (zi x)]) (st := [.ref 58]) rfl ?_
    refine am_xiadd 2 (iv M1 58 24) 1 (pc := 27) (ls := [.ref 58, .int (zi x)]) (st := [.ref 58]) rfl ?_
    refine am_xn 1 (c1 := (30, [.ref 58, .int (zi x)], [], zup M1 58 23 ((iv M1 58 24) + 1))) rfl ?_
    obtain ⟨M3, eM3⟩ : ∃ m, m = zup M1 58 23 ((iv M1 58 24) + 1) := ⟨_, rfl⟩
    replace hv := hv M3 eM3
    rw [← eM3]
    refine am_xrd 3 58 24 (pc := 35) (ls := [.ref 58, .int (zi x)]) (st := [.ref 58]) rfl ?_
    refine am_xiadd 2 (iv M3 58 24) 1 (pc := 37) (ls := [.ref 58, .int (zi x)]) (st := [.ref 58]) rfl ?_
    refine am_xn 1 (c1 := (40, [.ref 58, .int (zi x)], [], zup M3 58 24 ((iv M3 58 24) + 1))) rfl ?_
    obtain ⟨M4, eM4⟩ : ∃ m, m = zup M3 58 24 ((iv M3 58 24) + 1) := ⟨_, rfl⟩
    replace hv := hv M4 eM4
    rw [← eM4]
    exact am_xr none ⟨rfl, rfl, rfl⟩ hv
  · replace hv := hv.2 h
    refine am_xrd 3 58 24 (pc := 35) (ls := [.ref 58, .int (zi x)]) (st := [.ref 58]) rfl ?_
    refine am_xiadd 2 (iv M 58 24) 1 (pc := 37) (ls := [.ref 58, .int (zi x)]) (st := [.ref 58]) rfl ?_
    refine am_xn 1 (c1 := (40, [.ref 58, .int (zi x)], [], zup M 58 24 ((iv M 58 24) + 1))) rfl ?_
    obtain ⟨M5, eM5⟩ : ∃ m, m = zup M 58 24 ((iv M 58 24) + 1) := ⟨_, rfl⟩
    replace hv := hv M5 eM5
    rw [← eM5]
    exact am_xr none ⟨rfl, rfl, rfl⟩ hv
set_option maxRecDepth 100000 in
theorem vc_printsInteger (v : Int) (M : am_M) (Q : Option Value → am_M → Prop) (hv : (zr v) ∧ ((99 < v → (0 ≤ v) ∧ (∃ M3, am_call t_Mo_prints [.ref 58, .int (zi (48 + (v / 100)))] M none M3 ∧ ((0 ≤ v) ∧ ((0 ≤ (v / 10)) ∧ (∃ M6, am_call t_Mo_prints [.ref 58, .int (zi (48 + ((v / 10) % 10)))] M3 none M6 ∧ ((0 ≤ v) ∧ (∃ M8, am_call t_Mo_prints [.ref 58, .int (zi (48 + (v % 10)))] M6 none M8 ∧ (Q none M8)))))))) ∧ (v ≤ 99 → (9 < v → (0 ≤ v) ∧ ((0 ≤ (v / 10)) ∧ (∃ M11, am_call t_Mo_prints [.ref 58, .int (zi (48 + ((v / 10) % 10)))] M none M11 ∧ ((0 ≤ v) ∧ (∃ M13, am_call t_Mo_prints [.ref 58, .int (zi (48 + (v % 10)))] M11 none M13 ∧ (Q none M13)))))) ∧ (v ≤ 9 → (0 ≤ v) ∧ (∃ M15, am_call t_Mo_prints [.ref 58, .int (zi (48 + (v % 10)))] M none M15 ∧ (Q none M15)))))) : am_x t_Mo_printsInteger (0, am_ent (am_mL t_Mo_printsInteger) [.ref 58, .int (zi v)], [], M) Q := by
  refine am_xn 0 (c1 := (0, [.ref 58, .int (zi v)], [], M)) rfl ?_
  obtain ⟨r1, hv⟩ := hv
  refine am_xn 3 (c1 := (if zi 99 < zi v then 6 else 17, [.ref 58, .int (zi v)], [], M)) rfl (am_xlt (by decide) r1 (fun h => ?_) (fun h => ?_))
  · replace hv := hv.1 h
    obtain ⟨r2, hv⟩ := hv
    refine am_xn 4 (c1 := (12, [.ref 58, .int (zi v)], [.int (zi 100), .int (zi v), .int (zi 48), .ref 58], M)) rfl ?_
    refine am_xdiv rfl r2 (by decide) r1 (by decide) ?_
    refine am_xn 0 (c1 := (13, [.ref 58, .int (zi v)], [.int (zi (v / 100)), .int (zi 48), .ref 58], M)) rfl ?_
    refine am_xiadd 1 48 (v / 100) (pc := 14) (ls := [.ref 58, .int (zi v)]) (st := [.ref 58]) rfl ?_
    obtain ⟨M3, hc, hv⟩ := hv
    refine am_xc t_Mo_prints (.invokevirtual 278) 278 (av := [.ref 58, .int (zi (48 + (v / 100)))]) (rest := []) (rv := none) (M' := M3) rfl rfl rfl rfl (Nat.le_of_ble_eq_true rfl) (fun _ => rfl) (hc) ?_
    refine am_xn 0 (c1 := (17, [.ref 58, .int (zi v)], [], M3)) rfl ?_
    refine am_xn 3 (c1 := (if zi 9 < zi v then 23 else 37, [.ref 58, .int (zi v)], [], M3)) rfl (am_xlt (by decide) r1 (fun h => ?_) (fun h => by clear hv; exfalso; omega))
    obtain ⟨r4, hv⟩ := hv
    refine am_xn 4 (c1 := (29, [.ref 58, .int (zi v)], [.int (zi 10), .int (zi v), .int (zi 48), .ref 58], M3)) rfl ?_
    refine am_xdiv rfl r4 (by decide) r1 (by decide) ?_
    refine am_xn 0 (c1 := (30, [.ref 58, .int (zi v)], [.int (zi (v / 10)), .int (zi 48), .ref 58], M3)) rfl ?_
    obtain ⟨r5, hv⟩ := hv
    refine am_xn 1 (c1 := (32, [.ref 58, .int (zi v)], [.int (zi 10), .int (zi (v / 10)), .int (zi 48), .ref 58], M3)) rfl ?_
    refine am_xrem rfl r5 (by decide) (zr_div r4 (by decide) r1 (by decide)) (by decide) ?_
    refine am_xn 0 (c1 := (33, [.ref 58, .int (zi v)], [.int (zi ((v / 10) % 10)), .int (zi 48), .ref 58], M3)) rfl ?_
    refine am_xiadd 1 48 ((v / 10) % 10) (pc := 34) (ls := [.ref 58, .int (zi v)]) (st := [.ref 58]) rfl ?_
    obtain ⟨M6, hc, hv⟩ := hv
    refine am_xc t_Mo_prints (.invokevirtual 278) 278 (av := [.ref 58, .int (zi (48 + ((v / 10) % 10)))]) (rest := []) (rv := none) (M' := M6) rfl rfl rfl rfl (Nat.le_of_ble_eq_true rfl) (fun _ => rfl) (hc) ?_
    refine am_xn 0 (c1 := (37, [.ref 58, .int (zi v)], [], M6)) rfl ?_
    obtain ⟨r7, hv⟩ := hv
    refine am_xn 4 (c1 := (43, [.ref 58, .int (zi v)], [.int (zi 10), .int (zi v), .int (zi 48), .ref 58], M6)) rfl ?_
    refine am_xrem rfl r7 (by decide) r1 (by decide) ?_
    refine am_xn 0 (c1 := (44, [.ref 58, .int (zi v)], [.int (zi (v % 10)), .int (zi 48), .ref 58], M6)) rfl ?_
    refine am_xiadd 1 48 (v % 10) (pc := 45) (ls := [.ref 58, .int (zi v)]) (st := [.ref 58]) rfl ?_
    obtain ⟨M8, hc, hv⟩ := hv
    refine am_xc t_Mo_prints (.invokevirtual 278) 278 (av := [.ref 58, .int (zi (48 + (v % 10)))]) (rest := []) (rv := none) (M' := M8) rfl rfl rfl rfl (Nat.le_of_ble_eq_true rfl) (fun _ => rfl) (hc) ?_
    refine am_xn 0 (c1 := (48, [.ref 58, .int (zi v)], [], M8)) rfl ?_
    exact am_xr none ⟨rfl, rfl, rfl⟩ hv
  · replace hv := hv.2 h
    refine am_xn 3 (c1 := (if zi 9 < zi v then 23 else 37, [.ref 58, .int (zi v)], [], M)) rfl (am_xlt (by decide) r1 (fun h => ?_) (fun h => ?_))
    · replace hv := hv.1 h
      obtain ⟨r9, hv⟩ := hv
      refine am_xn 4 (c1 := (29, [.ref 58, .int (zi v)], [.int (zi 10), .int (zi v), .int (zi 48), .ref 58], M)) rfl ?_
      refine am_xdiv rfl r9 (by decide) r1 (by decide) ?_
      refine am_xn 0 (c1 := (30, [.ref 58, .int (zi v)], [.int (zi (v / 10)), .int (zi 48), .ref 58], M)) rfl ?_
      obtain ⟨r10, hv⟩ := hv
      refine am_xn 1 (c1 := (32, [.ref 58, .int (zi v)], [.int (zi 10), .int (zi (v / 10)), .int (zi 48), .ref 58], M)) rfl ?_
      refine am_xrem rfl r10 (by decide) (zr_div r9 (by decide) r1 (by decide)) (by decide) ?_
      refine am_xn 0 (c1 := (33, [.ref 58, .int (zi v)], [.int (zi ((v / 10) % 10)), .int (zi 48), .ref 58], M)) rfl ?_
      refine am_xiadd 1 48 ((v / 10) % 10) (pc := 34) (ls := [.ref 58, .int (zi v)]) (st := [.ref 58]) rfl ?_
      obtain ⟨M11, hc, hv⟩ := hv
      refine am_xc t_Mo_prints (.invokevirtual 278) 278 (av := [.ref 58, .int (zi (48 + ((v / 10) % 10)))]) (rest := []) (rv := none) (M' := M11) rfl rfl rfl rfl (Nat.le_of_ble_eq_true rfl) (fun _ => rfl) (hc) ?_
      refine am_xn 0 (c1 := (37, [.ref 58, .int (zi v)], [], M11)) rfl ?_
      obtain ⟨r12, hv⟩ := hv
      refine am_xn 4 (c1 := (43, [.ref 58, .int (zi v)], [.int (zi 10), .int (zi v), .int (zi 48), .ref 58], M11)) rfl ?_
      refine am_xrem rfl r12 (by decide) r1 (by decide) ?_
      refine am_xn 0 (c1 := (44, [.ref 58, .int (zi v)], [.int (zi (v % 10)), .int (zi 48), .ref 58], M11)) rfl ?_
      refine am_xiadd 1 48 (v % 10) (pc := 45) (ls := [.ref 58, .int (zi v)]) (st := [.ref 58]) rfl ?_
      obtain ⟨M13, hc, hv⟩ := hv
      refine am_xc t_Mo_prints (.invokevirtual 278) 278 (av := [.ref 58, .int (zi (48 + (v % 10)))]) (rest := []) (rv := none) (M' := M13) rfl rfl rfl rfl (Nat.le_of_ble_eq_true rfl) (fun _ => rfl) (hc) ?_
      refine am_xn 0 (c1 := (48, [.ref 58, .int (zi v)], [], M13)) rfl ?_
      exact am_xr none ⟨rfl, rfl, rfl⟩ hv
    · replace hv := hv.2 h
      obtain ⟨r14, hv⟩ := hv
      refine am_xn 4 (c1 := (43, [.ref 58, .int (zi v)], [.int (zi 10), .int (zi v), .int (zi 48), .ref 58], M)) rfl ?_
      refine am_xrem rfl r14 (by decide) r1 (by decide) ?_
      refine am_xn 0 (c1 := (44, [.ref 58, .int (zi v)], [.int (zi (v % 10)), .int (zi 48), .ref 58], M)) rfl ?_
      refine am_xiadd 1 48 (v % 10) (pc := 45) (ls := [.ref 58, .int (zi v)]) (st := [.ref 58]) rfl ?_
      obtain ⟨M15, hc, hv⟩ := hv
      refine am_xc t_Mo_prints (.invokevirtual 278) 278 (av := [.ref 58, .int (zi (48 + (v % 10)))]) (rest := []) (rv := none) (M' := M15) rfl rfl rfl rfl (Nat.le_of_ble_eq_true rfl) (fun _ => rfl) (hc) ?_
      refine am_xn 0 (c1 := (48, [.ref 58, .int (zi v)], [], M15)) rfl ?_
      exact am_xr none ⟨rfl, rfl, rfl⟩ hv
set_option maxRecDepth 100000 in
theorem vc_printsNumber (x : Int) (M : am_M) (Q : Option Value → am_M → Prop) (hv : (zr x) ∧ ((0 ≤ x) ∧ (∃ M3, am_call t_Mo_printsInteger [.ref 58, .int (zi (x / 729))] M none M3 ∧ ((0 ≤ x) ∧ ((0 ≤ (x % 729)) ∧ ((0 ≤ x) ∧ ((0 < ((x % 729) / 27) → ∃ M7, am_call t_Mo_prints [.ref 58, .int (zi ((65 + ((x % 729) / 27)) - 1))] M3 none M7 ∧ ((0 < (x % 27) → ∃ M8, am_call t_Mo_prints [.ref 58, .int (zi ((65 + (x % 27)) - 1))] M7 none M8 ∧ (Q none M8)) ∧ ((x % 27) ≤ 0 → Q none M7))) ∧ (((x % 729) / 27) ≤ 0 → (0 < (x % 27) → ∃ M9, am_call t_Mo_prints [.ref 58, .int (zi ((65 + (x % 27)) - 1))] M3 none M9 ∧ (Q none M9)) ∧ ((x % 27) ≤ 0 → Q none M3))))))))) : am_x t_Mo_printsNumber (0, am_ent (am_mL t_Mo_printsNumber) [.ref 58, .int (zi x)], [], M) Q := by
  refine am_xn 0 (c1 := (0, [.ref 58, .int (zi x), .null, .null], [], M)) rfl ?_
  obtain ⟨r1, hv⟩ := hv
  obtain ⟨r2, hv⟩ := hv
  refine am_xn 3 (c1 := (5, [.ref 58, .int (zi x), .null, .null], [.int (zi 729), .int (zi x), .ref 58], M)) rfl ?_
  refine am_xdiv rfl r2 (by decide) r1 (by decide) ?_
  refine am_xn 0 (c1 := (6, [.ref 58, .int (zi x), .null, .null], [.int (zi (x / 729)), .ref 58], M)) rfl ?_
  obtain ⟨M3, hc, hv⟩ := hv
  refine am_xc t_Mo_printsInteger (.invokevirtual 281) 281 (av := [.ref 58, .int (zi (x / 729))]) (rest := []) (rv := none) (M' := M3) rfl rfl rfl rfl (Nat.le_of_ble_eq_true rfl) (fun _ => rfl) (hc) ?_
  refine am_xn 0 (c1 := (9, [.ref 58, .int (zi x), .null, .null], [], M3)) rfl ?_
  obtain ⟨r4, hv⟩ := hv
  refine am_xn 2 (c1 := (13, [.ref 58, .int (zi x), .null, .null], [.int (zi 729), .int (zi x)], M3)) rfl ?_
  refine am_xrem rfl r4 (by decide) r1 (by decide) ?_
  refine am_xn 0 (c1 := (14, [.ref 58, .int (zi x), .null, .null], [.int (zi (x % 729))], M3)) rfl ?_
  obtain ⟨r5, hv⟩ := hv
  refine am_xn 1 (c1 := (16, [.ref 58, .int (zi x), .null, .null], [.int (zi 27), .int (zi (x % 729))], M3)) rfl ?_
  refine am_xdiv rfl r5 (by decide) (zr_rem r4 (by decide) r1 (by decide)) (by decide) ?_
  refine am_xn 0 (c1 := (17, [.ref 58, .int (zi x), .null, .null], [.int (zi ((x % 729) / 27))], M3)) rfl ?_
  obtain ⟨r6, hv⟩ := hv
  refine am_xn 3 (c1 := (21, [.ref 58, .int (zi x), .int (zi ((x % 729) / 27)), .null], [.int (zi 27), .int (zi x)], M3)) rfl ?_
  refine am_xrem rfl r6 (by decide) r1 (by decide) ?_
  refine am_xn 0 (c1 := (22, [.ref 58, .int (zi x), .int (zi ((x % 729) / 27)), .null], [.int (zi (x % 27))], M3)) rfl ?_
  refine am_xn 3 (c1 := (if zi 0 < zi ((x % 729) / 27) then 27 else 37, [.ref 58, .int (zi x), .int (zi ((x % 729) / 27)), .int (zi (x % 27))], [], M3)) rfl (am_xlt (by decide) (zr_div r5 (by decide) (zr_rem r4 (by decide) r1 (by decide)) (by decide)) (fun h => ?_) (fun h => ?_))
  · replace hv := hv.1 h
    refine am_xiadd 4 65 ((x % 729) / 27) (pc := 32) (ls := [.ref 58, .int (zi x), .int (zi ((x % 729) / 27)), .int (zi (x % 27))]) (st := [.ref 58]) rfl ?_
    refine am_xisub 2 (65 + ((x % 729) / 27)) 1 (pc := 34) (ls := [.ref 58, .int (zi x), .int (zi ((x % 729) / 27)), .int (zi (x % 27))]) (st := [.ref 58]) rfl ?_
    obtain ⟨M7, hc, hv⟩ := hv
    refine am_xc t_Mo_prints (.invokevirtual 278) 278 (av := [.ref 58, .int (zi ((65 + ((x % 729) / 27)) - 1))]) (rest := []) (rv := none) (M' := M7) rfl rfl rfl rfl (Nat.le_of_ble_eq_true rfl) (fun _ => rfl) (hc) ?_
    refine am_xn 0 (c1 := (37, [.ref 58, .int (zi x), .int (zi ((x % 729) / 27)), .int (zi (x % 27))], [], M7)) rfl ?_
    refine am_xn 2 (c1 := (if zi 0 < zi (x % 27) then 41 else 51, [.ref 58, .int (zi x), .int (zi ((x % 729) / 27)), .int (zi (x % 27))], [], M7)) rfl (am_xlt (by decide) (zr_rem r6 (by decide) r1 (by decide)) (fun h => ?_) (fun h => ?_))
    · replace hv := hv.1 h
      refine am_xiadd 4 65 (x % 27) (pc := 46) (ls := [.ref 58, .int (zi x), .int (zi ((x % 729) / 27)), .int (zi (x % 27))]) (st := [.ref 58]) rfl ?_
      refine am_xisub 2 (65 + (x % 27)) 1 (pc := 48) (ls := [.ref 58, .int (zi x), .int (zi ((x % 729) / 27)), .int (zi (x % 27))]) (st := [.ref 58]) rfl ?_
      obtain ⟨M8, hc, hv⟩ := hv
      refine am_xc t_Mo_prints (.invokevirtual 278) 278 (av := [.ref 58, .int (zi ((65 + (x % 27)) - 1))]) (rest := []) (rv := none) (M' := M8) rfl rfl rfl rfl (Nat.le_of_ble_eq_true rfl) (fun _ => rfl) (hc) ?_
      refine am_xn 0 (c1 := (51, [.ref 58, .int (zi x), .int (zi ((x % 729) / 27)), .int (zi (x % 27))], [], M8)) rfl ?_
      exact am_xr none ⟨rfl, rfl, rfl⟩ hv
    · replace hv := hv.2 h
      exact am_xr none ⟨rfl, rfl, rfl⟩ hv
  · replace hv := hv.2 h
    refine am_xn 2 (c1 := (if zi 0 < zi (x % 27) then 41 else 51, [.ref 58, .int (zi x), .int (zi ((x % 729) / 27)), .int (zi (x % 27))], [], M3)) rfl (am_xlt (by decide) (zr_rem r6 (by decide) r1 (by decide)) (fun h => ?_) (fun h => ?_))
    · replace hv := hv.1 h
      refine am_xiadd 4 65 (x % 27) (pc := 46) (ls := [.ref 58, .int (zi x), .int (zi ((x % 729) / 27)), .int (zi (x % 27))]) (st := [.ref 58]) rfl ?_
      refine am_xisub 2 (65 + (x % 27)) 1 (pc := 48) (ls := [.ref 58, .int (zi x), .int (zi ((x % 729) / 27)), .int (zi (x % 27))]) (st := [.ref 58]) rfl ?_
      obtain ⟨M9, hc, hv⟩ := hv
      refine am_xc t_Mo_prints (.invokevirtual 278) 278 (av := [.ref 58, .int (zi ((65 + (x % 27)) - 1))]) (rest := []) (rv := none) (M' := M9) rfl rfl rfl rfl (Nat.le_of_ble_eq_true rfl) (fun _ => rfl) (hc) ?_
      refine am_xn 0 (c1 := (51, [.ref 58, .int (zi x), .int (zi ((x % 729) / 27)), .int (zi (x % 27))], [], M9)) rfl ?_
      exact am_xr none ⟨rfl, rfl, rfl⟩ hv
    · replace hv := hv.2 h
      exact am_xr none ⟨rfl, rfl, rfl⟩ hv
set_option maxRecDepth 100000 in
theorem vc_m_print (d : Int) (e : Int) (M : am_M) (Q : Option Value → am_M → Prop) (hv : (zr d) ∧ ((0 ≤ d ∧ d ≤ 9999 → (zr e) ∧ ((e = -1 ∨ (0 ≤ e ∧ e ≤ 9999) → ∃ M1, am_call t_Mo_laws [.ref 58, .int (zi d), .int (zi e)] M none M1 ∧ (∀ M2, M2 = zup M1 58 23 0 → ∀ M3, M3 = zup M2 58 24 0 → ∃ (r5 : Int) (M4 : am_M), am_call t_Mo_inForce [.ref 58] M3 (some (.int (zi r5))) M4 ∧ (am_x t_Mo_print (41, [.ref 58, .null, .null, .int (zi r5), .int (zi 0), .null, .null, .null], [], M4) Q))) ∧ (¬ (e = -1 ∨ (0 ≤ e ∧ e ≤ 9999)) → Q (some (.int (zi (-2)))) M))) ∧ (¬ (0 ≤ d ∧ d ≤ 9999) → Q (some (.int (zi (-2)))) M))) : am_x t_Mo_print (0, am_ent (am_mL t_Mo_print) [.ref 58, .int (zi d), .int (zi e)], [], M) Q := by
  refine am_xn 0 (c1 := (0, [.ref 58, .int (zi d), .int (zi e), .null, .null, .null, .null, .null], [], M)) rfl ?_
  refine am_xn 1 (c1 := (1, [.ref 58, .int (zi d), .int (zi e), .null, .null, .null, .null, .null], [.int (zi d)], M)) rfl ?_
  obtain ⟨g, hv⟩ := hv
  by_cases c7 : 0 ≤ d ∧ d ≤ 9999
  · replace hv := hv.1 c7
    refine am_xc t_Mo_isDay (.invokestatic 80) 80 (av := [.int (zi d)]) (rest := []) (rv := some (.int (zi 1))) (M' := M) rfl rfl rfl rfl (Nat.le_of_ble_eq_true rfl) (fun h => nomatch h) (by have q := sp_isDay M d g; rwa [if_pos c7] at q) ?_
    refine am_xn 0 (c1 := (4, [.ref 58, .int (zi d), .int (zi e), .null, .null, .null, .null, .null], [.int (zi 1)], M)) rfl ?_
    refine am_xn 2 (c1 := (8, [.ref 58, .int (zi d), .int (zi e), .null, .null, .null, .null, .null], [.int (zi e)], M)) rfl ?_
    obtain ⟨g, hv⟩ := hv
    by_cases c6 : e = -1 ∨ (0 ≤ e ∧ e ≤ 9999)
    · replace hv := hv.1 c6
      refine am_xc t_Mo_isCase (.invokestatic 254) 254 (av := [.int (zi e)]) (rest := []) (rv := some (.int (zi 1))) (M' := M) rfl rfl rfl rfl (Nat.le_of_ble_eq_true rfl) (fun h => nomatch h) (by have q := sp_isCase M e g; rwa [if_pos c6] at q) ?_
      refine am_xn 0 (c1 := (11, [.ref 58, .int (zi d), .int (zi e), .null, .null, .null, .null, .null], [.int (zi 1)], M)) rfl ?_
      refine am_xn 4 (c1 := (20, [.ref 58, .int (zi d), .int (zi e), .null, .null, .null, .null, .null], [.int (zi e), .int (zi d), .ref 58], M)) rfl ?_
      obtain ⟨M1, hc, hv⟩ := hv
      refine am_xc t_Mo_laws (.invokevirtual 140) 140 (av := [.ref 58, .int (zi d), .int (zi e)]) (rest := []) (rv := none) (M' := M1) rfl rfl rfl rfl (Nat.le_of_ble_eq_true rfl) (fun _ => rfl) (hc) ?_
      refine am_xn 0 (c1 := (23, [.ref 58, .int (zi d), .int (zi e), .null, .null, .null, .null, .null], [], M1)) rfl ?_
      refine am_xn 3 (c1 := (28, [.ref 58, .int (zi d), .int (zi e), .null, .null, .null, .null, .null], [], zup M1 58 23 0)) rfl ?_
      obtain ⟨M2, eM2⟩ : ∃ m, m = zup M1 58 23 0 := ⟨_, rfl⟩
      replace hv := hv M2 eM2
      rw [← eM2]
      refine am_xn 3 (c1 := (33, [.ref 58, .int (zi d), .int (zi e), .null, .null, .null, .null, .null], [], zup M2 58 24 0)) rfl ?_
      obtain ⟨M3, eM3⟩ : ∃ m, m = zup M2 58 24 0 := ⟨_, rfl⟩
      replace hv := hv M3 eM3
      rw [← eM3]
      refine am_xn 1 (c1 := (34, [.ref 58, .int (zi d), .int (zi e), .null, .null, .null, .null, .null], [.ref 58], M3)) rfl ?_
      obtain ⟨r5, M4, hc, hv⟩ := hv
      refine am_xc t_Mo_inForce (.invokevirtual 257) 257 (av := [.ref 58]) (rest := []) (rv := some (.int (zi r5))) (M' := M4) rfl rfl rfl rfl (Nat.le_of_ble_eq_true rfl) (fun _ => rfl) (hc) ?_
      refine am_xn 0 (c1 := (37, [.ref 58, .int (zi d), .int (zi e), .null, .null, .null, .null, .null], [.int (zi r5)], M4)) rfl ?_
      refine am_xn 3 (c1 := (41, [.ref 58, .int (zi d), .int (zi e), .int (zi r5), .int (zi 0), .null, .null, .null], [], M4)) rfl ?_
      refine am_xf 1 ?_
      refine am_xf 2 ?_
      exact hv
    · replace hv := hv.2 c6
      refine am_xc t_Mo_isCase (.invokestatic 254) 254 (av := [.int (zi e)]) (rest := []) (rv := some (.int (zi 0))) (M' := M) rfl rfl rfl rfl (Nat.le_of_ble_eq_true rfl) (fun h => nomatch h) (by have q := sp_isCase M e g; rwa [if_neg c6] at q) ?_
      refine am_xn 0 (c1 := (11, [.ref 58, .int (zi d), .int (zi e), .null, .null, .null, .null, .null], [.int (zi 0)], M)) rfl ?_
      refine am_xn 2 (c1 := (16, [.ref 58, .int (zi d), .int (zi e), .null, .null, .null, .null, .null], [.int (zi (-2))], M)) rfl ?_
      exact am_xr (some (.int (zi (-2)))) ⟨rfl, rfl, .int, rfl, rfl⟩ hv
  · replace hv := hv.2 c7
    refine am_xc t_Mo_isDay (.invokestatic 80) 80 (av := [.int (zi d)]) (rest := []) (rv := some (.int (zi 0))) (M' := M) rfl rfl rfl rfl (Nat.le_of_ble_eq_true rfl) (fun h => nomatch h) (by have q := sp_isDay M d g; rwa [if_neg c7] at q) ?_
    refine am_xn 0 (c1 := (4, [.ref 58, .int (zi d), .int (zi e), .null, .null, .null, .null, .null], [.int (zi 0)], M)) rfl ?_
    refine am_xn 2 (c1 := (16, [.ref 58, .int (zi d), .int (zi e), .null, .null, .null, .null, .null], [.int (zi (-2))], M)) rfl ?_
    exact am_xr (some (.int (zi (-2)))) ⟨rfl, rfl, .int, rfl, rfl⟩ hv
set_option maxRecDepth 100000 in
theorem vc_m_print_41 (x3 : Int) (x4 : Int) (M : am_M) (Q : Option Value → am_M → Prop) (hv : (zr x4) ∧ ((zr x3) ∧ ((x4 < x3 → ∃ (r4 : Int) (M3 : am_M), am_call t_Mo_atIndex [.ref 58, .int (zi x4)] M (some (.int (zi r4))) M3 ∧ ((0 ≤ r4 ∧ r4 < 40) ∧ (∃ M6, am_call t_Mo_printsNumber [.ref 58, .int (zi (iv M3 65 r4))] M3 none M6 ∧ (am_x t_Mo_print (69, [.ref 58, .null, .null, .int (zi x3), .int (zi x4), .int (zi r4), .int (zi 0), .null], [], M6) Q)))) ∧ (x3 ≤ x4 → Q (some (.int (zi (iv M 58 24)))) M)))) : am_x t_Mo_print (41, [.ref 58, .null, .null, .int (zi x3), .int (zi x4), .null, .null, .null], [], M) Q := by
  obtain ⟨r1, hv⟩ := hv
  obtain ⟨r2, hv⟩ := hv
  refine am_xn 3 (c1 := (if zi x4 < zi x3 then 47 else 164, [.ref 58, .null, .null, .int (zi x3), .int (zi x4), .null, .null, .null], [], M)) rfl (am_xlt r1 r2 (fun h => ?_) (fun h => ?_))
  · replace hv := hv.1 h
    refine am_xn 2 (c1 := (50, [.ref 58, .null, .null, .int (zi x3), .int (zi x4), .null, .null, .null], [.int (zi x4), .ref 58], M)) rfl ?_
    obtain ⟨r4, M3, hc, hv⟩ := hv
    refine am_xc t_Mo_atIndex (.invokevirtual 260) 260 (av := [.ref 58, .int (zi x4)]) (rest := []) (rv := some (.int (zi r4))) (M' := M3) rfl rfl rfl rfl (Nat.le_of_ble_eq_true rfl) (fun _ => rfl) (hc) ?_
    refine am_xn 0 (c1 := (53, [.ref 58, .null, .null, .int (zi x3), .int (zi x4), .null, .null, .null], [.int (zi r4)], M3)) rfl ?_
    obtain ⟨r5, hv⟩ := hv
    refine am_xn 5 (c1 := (62, [.ref 58, .null, .null, .int (zi x3), .int (zi x4), .int (zi r4), .null, .null], [.int (zi r4), .ref 65, .ref 58], M3)) rfl ?_
    refine am_xald rfl rfl rfl r5 ?_
    refine am_xn 0 (c1 := (63, [.ref 58, .null, .null, .int (zi x3), .int (zi x4), .int (zi r4), .null, .null], [.int (zi (iv M3 65 r4)), .ref 58], M3)) rfl ?_
    obtain ⟨M6, hc, hv⟩ := hv
    refine am_xc t_Mo_printsNumber (.invokevirtual 284) 284 (av := [.ref 58, .int (zi (iv M3 65 r4))]) (rest := []) (rv := none) (M' := M6) rfl rfl rfl rfl (Nat.le_of_ble_eq_true rfl) (fun _ => rfl) (hc) ?_
    refine am_xn 0 (c1 := (66, [.ref 58, .null, .null, .int (zi x3), .int (zi x4), .int (zi r4), .null, .null], [], M6)) rfl ?_
    refine am_xn 2 (c1 := (69, [.ref 58, .null, .null, .int (zi x3), .int (zi x4), .int (zi r4), .int (zi 0), .null], [], M6)) rfl ?_
    exact hv
  · replace hv := hv.2 h
    refine am_xrd 2 58 24 (pc := 168) (ls := [.ref 58, .null, .null, .int (zi x3), .int (zi x4), .null, .null, .null]) (st := []) rfl ?_
    exact am_xr (some (.int (zi (iv M 58 24)))) ⟨rfl, rfl, .int, rfl, rfl⟩ hv
set_option maxRecDepth 100000 in
theorem vc_m_print_69 (x3 : Int) (x4 : Int) (x5 : Int) (x6 : Int) (M : am_M) (Q : Option Value → am_M → Prop) (hv : (0 ≤ x5 ∧ x5 < 40) ∧ ((zr x6) ∧ ((x6 < (iv M 66 x5) → ∃ (r4 : Int) (M3 : am_M), am_call t_Mo_toldWord [.ref 58, .int (zi x5), .int (zi x6)] M (some (.int (zi r4))) M3 ∧ (∃ M5, am_call t_Mo_prints [.ref 58, .int (zi 32)] M3 none M5 ∧ ((zr r4) ∧ ((r4 = (-5) → ∃ M7, am_call t_Mo_prints [.ref 58, .int (zi 63)] M5 none M7 ∧ (am_x t_Mo_print (69, [.ref 58, .null, .null, .int (zi x3), .int (zi x4), .int (zi x5), .int (zi (x6 + 1)), .null], [], M7) Q)) ∧ (¬ r4 = (-5) → (r4 < 1000 → ∃ M8, am_call t_Mo_printsInteger [.ref 58, .int (zi r4)] M5 none M8 ∧ (am_x t_Mo_print (69, [.ref 58, .null, .null, .int (zi x3), .int (zi x4), .int (zi x5), .int (zi (x6 + 1)), .null], [], M8) Q)) ∧ (1000 ≤ r4 → ∃ M9, am_call t_Mo_prints [.ref 58, .int (zi 64)] M5 none M9 ∧ (∃ M10, am_call t_Mo_printsNumber [.ref 58, .int (zi (r4 - 1000))] M9 none M10 ∧ (am_x t_Mo_print (69, [.ref 58, .null, .null, .int (zi x3), .int (zi x4), .int (zi x5), .int (zi (x6 + 1)), .null], [], M10) Q)))))))) ∧ ((iv M 66 x5) ≤ x6 → ∃ M11, am_call t_Mo_prints [.ref 58, .int (zi 10)] M none M11 ∧ (am_x t_Mo_print (41, [.ref 58, .null, .null, .int (zi x3), .int (zi (x4 + 1)), .null, .null, .null], [], M11) Q))))) : am_x t_Mo_print (69, [.ref 58, .null, .null, .int (zi x3), .int (zi x4), .int (zi x5), .int (zi x6), .null], [], M) Q := by
  obtain ⟨r1, hv⟩ := hv
  refine am_xn 4 (c1 := (77, [.ref 58, .null, .null, .int (zi x3), .int (zi x4), .int (zi x5), .int (zi x6), .null], [.int (zi x5), .ref 66, .int (zi x6)], M)) rfl ?_
  refine am_xald rfl rfl rfl r1 ?_
  refine am_xn 0 (c1 := (78, [.ref 58, .null, .null, .int (zi x3), .int (zi x4), .int (zi x5), .int (zi x6), .null], [.int (zi (iv M 66 x5)), .int (zi x6)], M)) rfl ?_
  obtain ⟨r2, hv⟩ := hv
  refine am_xn 1 (c1 := (if zi x6 < zi (iv M 66 x5) then 81 else 152, [.ref 58, .null, .null, .int (zi x3), .int (zi x4), .int (zi x5), .int (zi x6), .null], [], M)) rfl (am_xlt r2 (iv_r _ _ _) (fun h => ?_) (fun h => ?_))
  · replace hv := hv.1 h
    refine am_xn 3 (c1 := (86, [.ref 58, .null, .null, .int (zi x3), .int (zi x4), .int (zi x5), .int (zi x6), .null], [.int (zi x6), .int (zi x5), .ref 58], M)) rfl ?_
    obtain ⟨r4, M3, hc, hv⟩ := hv
    refine am_xc t_Mo_toldWord (.invokevirtual 266) 266 (av := [.ref 58, .int (zi x5), .int (zi x6)]) (rest := []) (rv := some (.int (zi r4))) (M' := M3) rfl rfl rfl rfl (Nat.le_of_ble_eq_true rfl) (fun _ => rfl) (hc) ?_
    refine am_xn 0 (c1 := (89, [.ref 58, .null, .null, .int (zi x3), .int (zi x4), .int (zi x5), .int (zi x6), .null], [.int (zi r4)], M3)) rfl ?_
    refine am_xn 3 (c1 := (94, [.ref 58, .null, .null, .int (zi x3), .int (zi x4), .int (zi x5), .int (zi x6), .int (zi r4)], [.int (zi 32), .ref 58], M3)) rfl ?_
    obtain ⟨M5, hc, hv⟩ := hv
    refine am_xc t_Mo_prints (.invokevirtual 278) 278 (av := [.ref 58, .int (zi 32)]) (rest := []) (rv := none) (M' := M5) rfl rfl rfl rfl (Nat.le_of_ble_eq_true rfl) (fun _ => rfl) (hc) ?_
    refine am_xn 0 (c1 := (97, [.ref 58, .null, .null, .int (zi x3), .int (zi x4), .int (zi x5), .int (zi x6), .int (zi r4)], [], M5)) rfl ?_
    obtain ⟨r6, hv⟩ := hv
    refine am_xn 3 (c1 := (if zi r4 = zi (-5) then 104 else 113, [.ref 58, .null, .null, .int (zi x3), .int (zi x4), .int (zi x5), .int (zi x6), .int (zi r4)], [], M5)) rfl (am_xeq r6 (by decide) (fun h => ?_) (fun h => ?_))
    · replace hv := hv.1 h
      refine am_xn 2 (c1 := (107, [.ref 58, .null, .null, .int (zi x3), .int (zi x4), .int (zi x5), .int (zi x6), .int (zi r4)], [.int (zi 63), .ref 58], M5)) rfl ?_
      obtain ⟨M7, hc, hv⟩ := hv
      refine am_xc t_Mo_prints (.invokevirtual 278) 278 (av := [.ref 58, .int (zi 63)]) (rest := []) (rv := none) (M' := M7) rfl rfl rfl rfl (Nat.le_of_ble_eq_true rfl) (fun _ => rfl) (hc) ?_
      refine am_xn 0 (c1 := (110, [.ref 58, .null, .null, .int (zi x3), .int (zi x4), .int (zi x5), .int (zi x6), .int (zi r4)], [], M7)) rfl ?_
      refine am_xn 2 (c1 := (149, [.ref 58, .null, .null, .int (zi x3), .int (zi x4), .int (zi x5), .int (zi x6 + zi 1), .int (zi r4)], [], M7)) rfl ?_
      rw [zi_add]
      refine am_xn 1 (c1 := (69, [.ref 58, .null, .null, .int (zi x3), .int (zi x4), .int (zi x5), .int (zi (x6 + 1)), .int (zi r4)], [], M7)) rfl ?_
      refine am_xf 7 ?_
      exact hv
    · replace hv := hv.2 h
      refine am_xn 3 (c1 := (if zi r4 < zi 1000 then 121 else 130, [.ref 58, .null, .null, .int (zi x3), .int (zi x4), .int (zi x5), .int (zi x6), .int (zi r4)], [], M5)) rfl (am_xlt r6 (by decide) (fun h => ?_) (fun h => ?_))
      · replace hv := hv.1 h
        refine am_xn 2 (c1 := (124, [.ref 58, .null, .null, .int (zi x3), .int (zi x4), .int (zi x5), .int (zi x6), .int (zi r4)], [.int (zi r4), .ref 58], M5)) rfl ?_
        obtain ⟨M8, hc, hv⟩ := hv
        refine am_xc t_Mo_printsInteger (.invokevirtual 281) 281 (av := [.ref 58, .int (zi r4)]) (rest := []) (rv := none) (M' := M8) rfl rfl rfl rfl (Nat.le_of_ble_eq_true rfl) (fun _ => rfl) (hc) ?_
        refine am_xn 0 (c1 := (127, [.ref 58, .null, .null, .int (zi x3), .int (zi x4), .int (zi x5), .int (zi x6), .int (zi r4)], [], M8)) rfl ?_
        refine am_xn 2 (c1 := (149, [.ref 58, .null, .null, .int (zi x3), .int (zi x4), .int (zi x5), .int (zi x6 + zi 1), .int (zi r4)], [], M8)) rfl ?_
        rw [zi_add]
        refine am_xn 1 (c1 := (69, [.ref 58, .null, .null, .int (zi x3), .int (zi x4), .int (zi x5), .int (zi (x6 + 1)), .int (zi r4)], [], M8)) rfl ?_
        refine am_xf 7 ?_
        exact hv
      · replace hv := hv.2 h
        refine am_xn 2 (c1 := (133, [.ref 58, .null, .null, .int (zi x3), .int (zi x4), .int (zi x5), .int (zi x6), .int (zi r4)], [.int (zi 64), .ref 58], M5)) rfl ?_
        obtain ⟨M9, hc, hv⟩ := hv
        refine am_xc t_Mo_prints (.invokevirtual 278) 278 (av := [.ref 58, .int (zi 64)]) (rest := []) (rv := none) (M' := M9) rfl rfl rfl rfl (Nat.le_of_ble_eq_true rfl) (fun _ => rfl) (hc) ?_
        refine am_xn 0 (c1 := (136, [.ref 58, .null, .null, .int (zi x3), .int (zi x4), .int (zi x5), .int (zi x6), .int (zi r4)], [], M9)) rfl ?_
        refine am_xisub 4 r4 1000 (pc := 143) (ls := [.ref 58, .null, .null, .int (zi x3), .int (zi x4), .int (zi x5), .int (zi x6), .int (zi r4)]) (st := [.ref 58]) rfl ?_
        obtain ⟨M10, hc, hv⟩ := hv
        refine am_xc t_Mo_printsNumber (.invokevirtual 284) 284 (av := [.ref 58, .int (zi (r4 - 1000))]) (rest := []) (rv := none) (M' := M10) rfl rfl rfl rfl (Nat.le_of_ble_eq_true rfl) (fun _ => rfl) (hc) ?_
        refine am_xn 0 (c1 := (146, [.ref 58, .null, .null, .int (zi x3), .int (zi x4), .int (zi x5), .int (zi x6), .int (zi r4)], [], M10)) rfl ?_
        refine am_xn 1 (c1 := (149, [.ref 58, .null, .null, .int (zi x3), .int (zi x4), .int (zi x5), .int (zi x6 + zi 1), .int (zi r4)], [], M10)) rfl ?_
        rw [zi_add]
        refine am_xn 1 (c1 := (69, [.ref 58, .null, .null, .int (zi x3), .int (zi x4), .int (zi x5), .int (zi (x6 + 1)), .int (zi r4)], [], M10)) rfl ?_
        refine am_xf 7 ?_
        exact hv
  · replace hv := hv.2 h
    refine am_xn 2 (c1 := (155, [.ref 58, .null, .null, .int (zi x3), .int (zi x4), .int (zi x5), .int (zi x6), .null], [.int (zi 10), .ref 58], M)) rfl ?_
    obtain ⟨M11, hc, hv⟩ := hv
    refine am_xc t_Mo_prints (.invokevirtual 278) 278 (av := [.ref 58, .int (zi 10)]) (rest := []) (rv := none) (M' := M11) rfl rfl rfl rfl (Nat.le_of_ble_eq_true rfl) (fun _ => rfl) (hc) ?_
    refine am_xn 0 (c1 := (158, [.ref 58, .null, .null, .int (zi x3), .int (zi x4), .int (zi x5), .int (zi x6), .null], [], M11)) rfl ?_
    refine am_xn 1 (c1 := (161, [.ref 58, .null, .null, .int (zi x3), .int (zi x4 + zi 1), .int (zi x5), .int (zi x6), .null], [], M11)) rfl ?_
    rw [zi_add]
    refine am_xn 1 (c1 := (41, [.ref 58, .null, .null, .int (zi x3), .int (zi (x4 + 1)), .int (zi x5), .int (zi x6), .null], [], M11)) rfl ?_
    refine am_xf 5 ?_
    refine am_xf 6 ?_
    exact hv
set_option maxRecDepth 100000 in
theorem vc_m_printed (i : Int) (M : am_M) (Q : Option Value → am_M → Prop) (hv : (zr i) ∧ ((i < 0 → Q (some (.int (zi (-2)))) M) ∧ (0 ≤ i → (i < (iv M 58 23) → (0 ≤ i ∧ i < 1000) ∧ (Q (some (.int (zi (iv M 75 i)))) M)) ∧ ((iv M 58 23) ≤ i → Q (some (.int (zi (-1)))) M)))) : am_x t_Mo_printed (0, am_ent (am_mL t_Mo_printed) [.ref 58, .int (zi i)], [], M) Q := by
  refine am_xn 0 (c1 := (0, [.ref 58, .int (zi i)], [], M)) rfl ?_
  obtain ⟨r1, hv⟩ := hv
  refine am_xn 2 (c1 := (if zi i < zi 0 then 4 else 7, [.ref 58, .int (zi i)], [], M)) rfl (am_xlt r1 (by decide) (fun h => ?_) (fun h => ?_))
  · replace hv := hv.1 h
    refine am_xn 1 (c1 := (6, [.ref 58, .int (zi i)], [.int (zi (-2))], M)) rfl ?_
    exact am_xr (some (.int (zi (-2)))) ⟨rfl, rfl, .int, rfl, rfl⟩ hv
  · replace hv := hv.2 h
    refine am_xrd 3 58 23 (pc := 12) (ls := [.ref 58, .int (zi i)]) (st := [.int (zi i)]) rfl ?_
    refine am_xn 1 (c1 := (if zi i < zi (iv M 58 23) then 15 else 24, [.ref 58, .int (zi i)], [], M)) rfl (am_xlt r1 (iv_r _ _ _) (fun h => ?_) (fun h => ?_))
    · replace hv := hv.1 h
      obtain ⟨r2, hv⟩ := hv
      refine am_xn 3 (c1 := (20, [.ref 58, .int (zi i)], [.int (zi i), .ref 75], M)) rfl ?_
      refine am_xald rfl rfl rfl r2 ?_
      refine am_xn 0 (c1 := (21, [.ref 58, .int (zi i)], [.int (zi (iv M 75 i))], M)) rfl ?_
      refine am_xn 1 (c1 := (25, [.ref 58, .int (zi i)], [.int (zi (iv M 75 i))], M)) rfl ?_
      exact am_xr (some (.int (zi (iv M 75 i)))) ⟨rfl, rfl, .int, rfl, rfl⟩ hv
    · replace hv := hv.2 h
      refine am_xn 1 (c1 := (25, [.ref 58, .int (zi i)], [.int (zi (-1))], M)) rfl ?_
      exact am_xr (some (.int (zi (-1)))) ⟨rfl, rfl, .int, rfl, rfl⟩ hv
theorem getD_lt {l l' : List Int} {i : Nat} (h : i < l.length) : (l ++ l').getD i 0 = l.getD i 0 := by
  rw [List.getD_eq_getElem?_getD, List.getD_eq_getElem?_getD, List.getElem?_append_left h]
theorem sp_p7 {l : List Int} {M : am_M} (h : PC l M) (hl : l.length ≤ 100000) {x : Int} (xz : zr x) : ∃ M', am_call t_Pag_append [.ref 7, .int (zi x)] M none M' ∧ PC (l ++ [x]) M' ∧ CPf M M' := by
  suffices hh : am_x t_Pag_append (0, am_ent (am_mL t_Pag_append) [.ref 7, .int (zi x)], [], M) (fun r M' => r = none ∧ PC (l ++ [x]) M' ∧ CPf M M') by
    obtain ⟨r, M', h1, h2, h3⟩ := am_call_ex (by exact ⟨Nat.le_of_ble_eq_true rfl, rfl⟩) hh
    subst h2
    exact ⟨M', h1, h3⟩
  have e := h.1
  have len : ((l ++ [x]).length : Int) = l.length + 1 := by rw [List.length_append]; rfl
  have big : ∀ M', 1000 ≤ iv M 7 1 → M' = zup M 7 1 (iv M 7 1 + 1) → PC (l ++ [x]) M' ∧ CPf M M' := by
    intro M' hb eM
    refine ⟨⟨by rw [eM, ivs _ _ (by decide) (by decide) ⟨by omega, by omega⟩, if_pos rfl, e, len], fun i hi h1 => ?_⟩, fun a a1 _ => by rw [eM, zupr _ a1]⟩
    rw [eM, ivr _ (by decide), h.2 i (by omega) h1, getD_lt (by omega)]
  refine vc_p7_append x M _ ⟨fun q => by omega, fun _ => ⟨fun q => ⟨⟨by omega, q⟩, fun M2 e2 M4 e4 => ⟨rfl, ⟨?_, fun i hi h1 => ?_⟩, fun a a1 a2 => by rw [e4, zupr _ a1, e2, zupr _ a2]⟩⟩, fun q M5 e5 => ⟨rfl, big M5 q e5⟩⟩⟩
  · have e1 : iv M2 7 1 = l.length := by rw [e2, ivr _ (by decide), e]
    rw [e4, ivs _ _ (by decide) (by decide) (by rw [e1]; exact ⟨by omega, by omega⟩), if_pos rfl, e1, len]
  · rw [List.length_append] at hi
    have hi : i < l.length + 1 := hi
    rw [e4, ivr _ (by decide), e2, e, ivs _ _ (by omega) (by omega) xz, getD_app hi]
    by_cases z : i = l.length
    · rw [if_pos z, if_pos (by omega)]
    · rw [if_neg z, if_neg (by omega), h.2 i (by omega) h1]
theorem sp_prints {l : List Int} {M : am_M} (h : PM l M) (hl : l.length ≤ 100000) {x : Int} (xz : zr x) : ∃ M', am_call t_Mo_prints [.ref 58, .int (zi x)] M none M' ∧ PM (l ++ [x]) M' ∧ MPf M M' := by
  suffices hh : am_x t_Mo_prints (0, am_ent (am_mL t_Mo_prints) [.ref 58, .int (zi x)], [], M) (fun r M' => r = none ∧ PM (l ++ [x]) M' ∧ MPf M M') by
    obtain ⟨r, M', h1, h2, h3⟩ := am_call_ex (by exact ⟨Nat.le_of_ble_eq_true rfl, rfl⟩) hh
    subst h2
    exact ⟨M', h1, h3⟩
  have e := h.1
  have ek := h.2.1
  have len : ((l ++ [x]).length : Int) = l.length + 1 := by rw [List.length_append]; rfl
  refine vc_prints x M _ ⟨fun q => ⟨⟨by omega, q⟩, fun M1 e1 M3 e3 M4 e4 => ?_⟩, fun q M5 e5 => ⟨rfl, ⟨?_, ?_, fun i hi h1 => ?_⟩, fun a a1 _ => by rw [e5, zupr _ a1], fun j _ a2 => by rw [e5, zup58 _ (by decide) a2]⟩⟩
  · have a1 : iv M1 58 24 = l.length := by rw [e1, ivr _ (by decide), e]
    have a3 : iv M3 58 24 = l.length := by rw [e3, ivs _ _ (by decide) (by decide) (by rw [a1]; exact ⟨by omega, by omega⟩), if_neg (by decide), a1]
    refine ⟨rfl, ⟨?_, ?_, fun i hi h1 => ?_⟩, fun a b1 b2 => by rw [e4, zupr _ b1, e3, zupr _ b1, e1, zupr _ b2], fun j b1 b2 => by rw [e4, zup58 _ (by decide) b2, e3, zup58 _ (by decide) b1, e1, zupr _ (by decide)]⟩
    · rw [e4, ivs _ _ (by decide) (by decide) (by rw [a3]; exact ⟨by omega, by omega⟩), if_pos rfl, a3, len]
    · rw [e4, ivs _ _ (by decide) (by decide) (by rw [a3]; exact ⟨by omega, by omega⟩), if_neg (by decide), e3, ivs _ _ (by decide) (by decide) (by rw [a1]; exact ⟨by omega, by omega⟩), if_pos rfl, a1, len]
      omega
    · rw [List.length_append] at hi
      have hi : i < l.length + 1 := hi
      rw [e4, ivr _ (by decide), e3, ivr _ (by decide), e1, e, ivs _ _ (by omega) (by omega) xz, getD_app hi]
      by_cases z : i = l.length
      · rw [if_pos z, if_pos (by omega)]
      · rw [if_neg z, if_neg (by omega), h.2.2 i (by omega) h1]
  · rw [e5, ivs _ _ (by decide) (by decide) ⟨by omega, by omega⟩, if_pos rfl, e, len]
  · rw [e5, ivs _ _ (by decide) (by decide) ⟨by omega, by omega⟩, if_neg (by decide), ek, len]
    omega
  · rw [e5, ivr _ (by decide), h.2.2 i (by omega) h1, getD_lt (by omega)]
theorem sp_p7I {l : List Int} {M : am_M} (h : PC l M) (hl : l.length ≤ 90000) {v : Int} (v0 : 0 ≤ v) (v1 : v ≤ 999) : ∃ M', am_call t_Pag_appendInteger [.ref 7, .int (zi v)] M none M' ∧ PC (l ++ dI v) M' ∧ CPf M M' := by
  suffices hh : am_x t_Pag_appendInteger (0, am_ent (am_mL t_Pag_appendInteger) [.ref 7, .int (zi v)], [], M) (fun r M' => r = none ∧ PC (l ++ dI v) M' ∧ CPf M M') by
    obtain ⟨r, M', h1, h2, h3⟩ := am_call_ex (by exact ⟨Nat.le_of_ble_eq_true rfl, rfl⟩) hh
    subst h2
    exact ⟨M', h1, h3⟩
  refine vc_p7_appendInteger v M _ ⟨⟨by omega, by omega⟩, fun q => ⟨fun q2 => ?_, fun q2 => ?_⟩, fun q => ?_⟩
  · obtain ⟨M3, a1, a2, a3⟩ := sp_p7 h (by omega) (x := 48 + v % 10) ⟨by omega, by omega⟩
    refine ⟨v0, M3, a1, rfl, ?_, a3⟩
    unfold dI
    rw [if_neg (by omega), if_neg (by omega)]
    exact a2
  · obtain ⟨M3, a1, a2, a3⟩ := sp_p7 h (by omega) (x := 48 + v / 10 % 10) ⟨by omega, by omega⟩
    obtain ⟨M4, b1, b2, b3⟩ := sp_p7 a2 (by rw [List.length_append]; show _ + 1 ≤ _; omega) (x := 48 + v % 10) ⟨by omega, by omega⟩
    refine ⟨v0, by omega, M3, a1, v0, M4, b1, rfl, ?_, CPf_trans a3 b3⟩
    unfold dI
    rw [if_neg (by omega), if_pos (by omega)]
    rw [List.append_assoc] at b2
    exact b2
  · obtain ⟨M2, c1, c2, c3⟩ := sp_p7 h (by omega) (x := 48 + v / 100) ⟨by omega, by omega⟩
    obtain ⟨M3, a1, a2, a3⟩ := sp_p7 c2 (by rw [List.length_append]; show _ + 1 ≤ _; omega) (x := 48 + v / 10 % 10) ⟨by omega, by omega⟩
    obtain ⟨M4, b1, b2, b3⟩ := sp_p7 a2 (by rw [List.length_append, List.length_append]; show _ + 1 + 1 ≤ _; omega) (x := 48 + v % 10) ⟨by omega, by omega⟩
    refine ⟨v0, M2, c1, v0, by omega, M3, a1, v0, M4, b1, rfl, ?_, CPf_trans c3 (CPf_trans a3 b3)⟩
    unfold dI
    rw [if_pos (by omega), if_pos (by omega)]
    rw [List.append_assoc, List.append_assoc] at b2
    exact b2
theorem sp_prI {l : List Int} {M : am_M} (h : PM l M) (hl : l.length ≤ 90000) {v : Int} (v0 : 0 ≤ v) (v1 : v ≤ 999) : ∃ M', am_call t_Mo_printsInteger [.ref 58, .int (zi v)] M none M' ∧ PM (l ++ dI v) M' ∧ MPf M M' := by
  suffices hh : am_x t_Mo_printsInteger (0, am_ent (am_mL t_Mo_printsInteger) [.ref 58, .int (zi v)], [], M) (fun r M' => r = none ∧ PM (l ++ dI v) M' ∧ MPf M M') by
    obtain ⟨r, M', h1, h2, h3⟩ := am_call_ex (by exact ⟨Nat.le_of_ble_eq_true rfl, rfl⟩) hh
    subst h2
    exact ⟨M', h1, h3⟩
  refine vc_printsInteger v M _ ⟨⟨by omega, by omega⟩, fun q => ?_, fun q => ⟨fun q2 => ?_, fun q2 => ?_⟩⟩
  · obtain ⟨M2, c1, c2, c3⟩ := sp_prints h (by omega) (x := 48 + v / 100) ⟨by omega, by omega⟩
    obtain ⟨M3, a1, a2, a3⟩ := sp_prints c2 (by rw [List.length_append]; show _ + 1 ≤ _; omega) (x := 48 + v / 10 % 10) ⟨by omega, by omega⟩
    obtain ⟨M4, b1, b2, b3⟩ := sp_prints a2 (by rw [List.length_append, List.length_append]; show _ + 1 + 1 ≤ _; omega) (x := 48 + v % 10) ⟨by omega, by omega⟩
    refine ⟨v0, M2, c1, v0, by omega, M3, a1, v0, M4, b1, rfl, ?_, MPf_trans c3 (MPf_trans a3 b3)⟩
    unfold dI
    rw [if_pos (by omega), if_pos (by omega)]
    rw [List.append_assoc, List.append_assoc] at b2
    exact b2
  · obtain ⟨M3, a1, a2, a3⟩ := sp_prints h (by omega) (x := 48 + v / 10 % 10) ⟨by omega, by omega⟩
    obtain ⟨M4, b1, b2, b3⟩ := sp_prints a2 (by rw [List.length_append]; show _ + 1 ≤ _; omega) (x := 48 + v % 10) ⟨by omega, by omega⟩
    refine ⟨v0, by omega, M3, a1, v0, M4, b1, rfl, ?_, MPf_trans a3 b3⟩
    unfold dI
    rw [if_neg (by omega), if_pos (by omega)]
    rw [List.append_assoc] at b2
    exact b2
  · obtain ⟨M3, a1, a2, a3⟩ := sp_prints h (by omega) (x := 48 + v % 10) ⟨by omega, by omega⟩
    refine ⟨v0, M3, a1, rfl, ?_, a3⟩
    unfold dI
    rw [if_neg (by omega), if_neg (by omega)]
    exact a2
theorem sp_p7N {l : List Int} {M : am_M} (h : PC l M) (hl : l.length ≤ 80000) {x : Int} (x0 : 0 ≤ x) (x1 : x < 729000) : ∃ M', am_call t_Pag_appendNumber [.ref 7, .int (zi x)] M none M' ∧ PC (l ++ dN x) M' ∧ CPf M M' := by
  suffices hh : am_x t_Pag_appendNumber (0, am_ent (am_mL t_Pag_appendNumber) [.ref 7, .int (zi x)], [], M) (fun r M' => r = none ∧ PC (l ++ dN x) M' ∧ CPf M M') by
    obtain ⟨r, M', h1, h2, h3⟩ := am_call_ex (by exact ⟨Nat.le_of_ble_eq_true rfl, rfl⟩) hh
    subst h2
    exact ⟨M', h1, h3⟩
  obtain ⟨M3, a1, a2, a3⟩ := sp_p7I h (by omega) (v := x / 729) (by omega) (by omega)
  have l1 : (l ++ dI (x / 729)).length ≤ 80003 := by rw [List.length_append]; have := dI_len (x / 729); omega
  have e0 : dN x = dI (x / 729) ++ ((if 0 < x % 729 / 27 then [65 + x % 729 / 27 - 1] else []) ++ (if 0 < x % 27 then [65 + x % 27 - 1] else [])) := rfl
  refine vc_p7_appendNumber x M _ ⟨⟨by omega, by omega⟩, x0, by omega, x0, x0, M3, a1, fun q => ?_, fun q => ?_⟩
  · obtain ⟨M4, b1, b2, b3⟩ := sp_p7 a2 (by omega) (x := 65 + x % 729 / 27 - 1) ⟨by omega, by omega⟩
    have l2 : ((l ++ dI (x / 729)) ++ [65 + x % 729 / 27 - 1]).length ≤ 80004 := by rw [List.length_append]; show _ + 1 ≤ _; omega
    refine ⟨M4, b1, fun q2 => ?_, fun q2 => ⟨rfl, ?_, CPf_trans a3 b3⟩⟩
    · obtain ⟨M5, c1, c2, c3⟩ := sp_p7 b2 (by omega) (x := 65 + x % 27 - 1) ⟨by omega, by omega⟩
      refine ⟨M5, c1, rfl, ?_, CPf_trans a3 (CPf_trans b3 c3)⟩
      rw [e0, if_pos q, if_pos q2, ← List.append_assoc, ← List.append_assoc]
      exact c2
    · rw [e0, if_pos q, if_neg (by omega), List.append_nil, ← List.append_assoc]
      exact b2
  · refine ⟨fun q2 => ?_, fun q2 => ⟨rfl, ?_, a3⟩⟩
    · obtain ⟨M5, c1, c2, c3⟩ := sp_p7 a2 (by omega) (x := 65 + x % 27 - 1) ⟨by omega, by omega⟩
      refine ⟨M5, c1, rfl, ?_, CPf_trans a3 c3⟩
      rw [e0, if_neg (by omega), if_pos q2, List.nil_append, ← List.append_assoc]
      exact c2
    · rw [e0, if_neg (by omega), if_neg (by omega), List.append_nil, List.append_nil]
      exact a2

theorem sp_prN {l : List Int} {M : am_M} (h : PM l M) (hl : l.length ≤ 80000) {x : Int} (x0 : 0 ≤ x) (x1 : x < 729000) : ∃ M', am_call t_Mo_printsNumber [.ref 58, .int (zi x)] M none M' ∧ PM (l ++ dN x) M' ∧ MPf M M' := by
  suffices hh : am_x t_Mo_printsNumber (0, am_ent (am_mL t_Mo_printsNumber) [.ref 58, .int (zi x)], [], M) (fun r M' => r = none ∧ PM (l ++ dN x) M' ∧ MPf M M') by
    obtain ⟨r, M', h1, h2, h3⟩ := am_call_ex (by exact ⟨Nat.le_of_ble_eq_true rfl, rfl⟩) hh
    subst h2
    exact ⟨M', h1, h3⟩
  obtain ⟨M3, a1, a2, a3⟩ := sp_prI h (by omega) (v := x / 729) (by omega) (by omega)
  have l1 : (l ++ dI (x / 729)).length ≤ 80003 := by rw [List.length_append]; have := dI_len (x / 729); omega
  have e0 : dN x = dI (x / 729) ++ ((if 0 < x % 729 / 27 then [65 + x % 729 / 27 - 1] else []) ++ (if 0 < x % 27 then [65 + x % 27 - 1] else [])) := rfl
  refine vc_printsNumber x M _ ⟨⟨by omega, by omega⟩, x0, M3, a1, x0, by omega, x0, fun q => ?_, fun q => ?_⟩
  · obtain ⟨M4, b1, b2, b3⟩ := sp_prints a2 (by omega) (x := 65 + x % 729 / 27 - 1) ⟨by omega, by omega⟩
    have l2 : ((l ++ dI (x / 729)) ++ [65 + x % 729 / 27 - 1]).length ≤ 80004 := by rw [List.length_append]; show _ + 1 ≤ _; omega
    refine ⟨M4, b1, fun q2 => ?_, fun q2 => ⟨rfl, ?_, MPf_trans a3 b3⟩⟩
    · obtain ⟨M5, c1, c2, c3⟩ := sp_prints b2 (by omega) (x := 65 + x % 27 - 1) ⟨by omega, by omega⟩
      refine ⟨M5, c1, rfl, ?_, MPf_trans a3 (MPf_trans b3 c3)⟩
      rw [e0, if_pos q, if_pos q2, ← List.append_assoc, ← List.append_assoc]
      exact c2
    · rw [e0, if_pos q, if_neg (by omega), List.append_nil, ← List.append_assoc]
      exact b2
  · refine ⟨fun q2 => ?_, fun q2 => ⟨rfl, ?_, a3⟩⟩
    · obtain ⟨M5, c1, c2, c3⟩ := sp_prints a2 (by omega) (x := 65 + x % 27 - 1) ⟨by omega, by omega⟩
      refine ⟨M5, c1, rfl, ?_, MPf_trans a3 c3⟩
      rw [e0, if_neg (by omega), if_pos q2, List.nil_append, ← List.append_assoc]
      exact c2
    · rw [e0, if_neg (by omega), if_neg (by omega), List.append_nil, List.append_nil]
      exact a2

