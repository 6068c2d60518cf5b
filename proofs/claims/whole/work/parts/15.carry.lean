/-! the reference carries an operation out -/
theorem zupr (M : am_M) {a : Nat} {k v : Int} {b : Nat} (h : b ≠ a) : zup M a k v b = M b := by
  funext j
  unfold zup am_up
  rw [if_neg h]
theorem iv_row {M M' : am_M} {a : Nat} (h : M' a = M a) : iv M' a = iv M a := by
  funext j
  unfold iv
  rw [h]
theorem ivr (M : am_M) {a : Nat} {k v : Int} {b : Nat} (h : b ≠ a) : iv (zup M a k v) b = iv M b := iv_row (zupr M h)
theorem ivs (M : am_M) (a : Nat) {k v : Int} {j : Int} (hk : 0 ≤ k) (hj : 0 ≤ j) (hv : zr v) : iv (zup M a k v) a j = if j = k then v else iv M a j := by
  rw [iv_zup M a a hk hj hv]
  by_cases h : j = k
  · rw [if_pos ⟨rfl, h⟩, if_pos h]
  · rw [if_neg (fun q => h q.2), if_neg h]
theorem zup58 (M : am_M) {k v : Int} {j : Nat} (hk : 0 ≤ k) (h : ¬ j = k.toNat) : zup M 58 k v 58 j = M 58 j := by
  unfold zup am_up
  rw [if_pos rfl, if_neg h]
theorem mwc_row {M M' : am_M} (h1 : M' 64 = M 64) (h2 : M' 65 = M 65) (x : Int) : mwc M' x = mwc M x := by
  unfold mwc
  rw [iv_row h1, iv_row h2]
theorem pt_zr (M : am_M) (o w : Int) : zr (pt (iv M 59) o w) := iv_r _ 59 _
def mwd (M : am_M) (o k : Int) : Int := if pt (iv M 59) o (6 + k) < 1000 then pt (iv M 59) o (6 + k) else 1000 + mwc M (pt (iv M 59) o (6 + k) - 1000)
theorem mwc_rg (M : am_M) (x : Int) : -1 ≤ mwc M x ∧ mwc M x < 40 := by
  rcases lstf_is (fun c => decide (iv M 64 c = 1 ∧ iv M 65 c = x)) 40 with ⟨h, _⟩ | ⟨h1, h2, _⟩
  · unfold mwc; omega
  · unfold mwc; omega
theorem mwd_zr (M : am_M) (o k : Int) : zr (mwd M o k) := by
  have := pt_zr M o (6 + k)
  have := mwc_rg M (pt (iv M 59) o (6 + k) - 1000)
  unfold mwd
  split <;> omega
theorem mwd_row {M M' : am_M} (h0 : M' 59 = M 59) (h1 : M' 64 = M 64) (h2 : M' 65 = M 65) (o k : Int) : mwd M' o k = mwd M o k := by
  unfold mwd
  rw [iv_row h0, mwc_row h1 h2]
theorem am_call_ex {t : am_T} {av : List Value} {M : am_M} {Q : Option Value → am_M → Prop} (h0 : (am_sl1 av).length ≤ am_mL t ∧ av.length = am_ar t) (h : am_x t (0, am_ent (am_mL t) av, [], M) Q) : ∃ rv M', am_call t av M rv M' ∧ Q rv M' := by
  obtain ⟨d, k, c', r, h1, h2, h3⟩ := h
  exact ⟨r, c'.2.2.2, ⟨d + 1, h0, k, c', h1, h2, rfl⟩, h3⟩
set_option maxRecDepth 100000 in
theorem vc_setsText (o : Int) (c : Int) (M : am_M) (Q : Option Value → am_M → Prop) (hv : am_x t_Mo_setsText (2, [.ref 58, .int (zi o), .int (zi c), .int (zi 0), .null], [], M) Q) : am_x t_Mo_setsText (0, am_ent (am_mL t_Mo_setsText) [.ref 58, .int (zi o), .int (zi c)], [], M) Q := by
  refine am_xn 0 (c1 := (0, [.ref 58, .int (zi o), .int (zi c), .null, .null], [], M)) rfl ?_
  refine am_xn 2 (c1 := (2, [.ref 58, .int (zi o), .int (zi c), .int (zi 0), .null], [], M)) rfl ?_
  exact hv
set_option maxRecDepth 100000 in
theorem vc_setsText_2 (x1 : Int) (x2 : Int) (x3 : Int) (M : am_M) (Q : Option Value → am_M → Prop) (hv : (0 ≤ x1 ∧ x1 < 120 ∧ 0 ≤ (5 : Int) ∧ (5 : Int) < 12) ∧ (zr x3 ∧ ((x3 < (pt (iv M 59) x1 5) → (0 ≤ x1 ∧ x1 < 120 ∧ 0 ≤ (6 + x3) ∧ (6 + x3) < 12) ∧ (((pt (iv M 59) x1 (6 + x3)) < 1000 → (0 ≤ x3 ∧ x3 < 6) ∧ (∀ M2, M2 = zup M 72 x3 (pt (iv M 59) x1 (6 + x3)) → am_x t_Mo_setsText (2, [.ref 58, .int (zi x1), .int (zi x2), .int (zi (x3 + 1)), .null], [], M2) Q)) ∧ (1000 ≤ (pt (iv M 59) x1 (6 + x3)) → (zr ((pt (iv M 59) x1 (6 + x3)) - 1000)) ∧ ((0 ≤ x3 ∧ x3 < 6) ∧ (∀ M4, M4 = zup M 72 x3 (1000 + (mwc M ((pt (iv M 59) x1 (6 + x3)) - 1000))) → am_x t_Mo_setsText (2, [.ref 58, .int (zi x1), .int (zi x2), .int (zi (x3 + 1)), .null], [], M4) Q))))) ∧ ((pt (iv M 59) x1 5) ≤ x3 → (0 ≤ x1 ∧ x1 < 120 ∧ 0 ≤ (5 : Int) ∧ (5 : Int) < 12) ∧ ((0 ≤ x2 ∧ x2 < 40) ∧ (∀ M6, M6 = zup M 66 x2 (pt (iv M 59) x1 5) → am_x t_Mo_setsText (76, [.ref 58, .null, .int (zi x2), .int (zi 0), .null], [], M6) Q)))))) : am_x t_Mo_setsText (2, [.ref 58, .int (zi x1), .int (zi x2), .int (zi x3), .null], [], M) Q := by
  refine am_xn 4 (c1 := (6, [.ref 58, .int (zi x1), .int (zi x2), .int (zi x3), .null], [.int (zi 5), .int (zi x1), .ref 58, .int (zi x3)], M)) rfl ?_
  obtain ⟨g, hv⟩ := hv
  refine am_xc t_Mo_part (.invokevirtual 85) 85 (av := [.ref 58, .int (zi x1), .int (zi 5)]) (rest := [.int (zi x3)]) (rv := some (.int (zi (pt (iv M 59) x1 5)))) (M' := M) rfl rfl rfl rfl (Nat.le_of_ble_eq_true rfl) (fun _ => rfl) (sp_part M x1 5 g) ?_
  refine am_xn 0 (c1 := (9, [.ref 58, .int (zi x1), .int (zi x2), .int (zi x3), .null], [.int (zi (pt (iv M 59) x1 5)), .int (zi x3)], M)) rfl ?_
  obtain ⟨r1, hv⟩ := hv
  refine am_xn 1 (c1 := (if zi x3 < zi (pt (iv M 59) x1 5) then 12 else 62, [.ref 58, .int (zi x1), .int (zi x2), .int (zi x3), .null], [], M)) rfl (am_xlt r1 (iv_r _ 59 _) (fun h => ?_) (fun h => ?_))
  · replace hv := hv.1 h
    refine am_xiadd 5 6 x3 (pc := 18) (ls := [.ref 58, .int (zi x1), .int (zi x2), .int (zi x3), .null]) (st := [.int (zi x1), .ref 58]) rfl ?_
    obtain ⟨g, hv⟩ := hv
    refine am_xc t_Mo_part (.invokevirtual 85) 85 (av := [.ref 58, .int (zi x1), .int (zi (6 + x3))]) (rest := []) (rv := some (.int (zi (pt (iv M 59) x1 (6 + x3))))) (M' := M) rfl rfl rfl rfl (Nat.le_of_ble_eq_true rfl) (fun _ => rfl) (sp_part M x1 (6 + x3) g) ?_
    refine am_xn 0 (c1 := (21, [.ref 58, .int (zi x1), .int (zi x2), .int (zi x3), .null], [.int (zi (pt (iv M 59) x1 (6 + x3)))], M)) rfl ?_
    refine am_xn 7 (c1 := (if zi (pt (iv M 59) x1 (6 + x3)) < zi 1000 then 36 else 41, [.ref 58, .int (zi x1), .int (zi x2), .int (zi x3), .int (zi (pt (iv M 59) x1 (6 + x3)))], [.int (zi x3), .ref 72], M)) rfl (am_xlt (iv_r _ 59 _) (by decide) (fun h => ?_) (fun h => ?_))
    · replace hv := hv.1 h
      obtain ⟨r3, hv⟩ := hv
      refine am_xn 2 (c1 := (55, [.ref 58, .int (zi x1), .int (zi x2), .int (zi x3), .int (zi (pt (iv M 59) x1 (6 + x3)))], [.int (zi (pt (iv M 59) x1 (6 + x3))), .int (zi x3), .ref 72], M)) rfl ?_
      refine am_xast rfl rfl rfl r3 ?_
      refine am_xn 0 (c1 := (56, [.ref 58, .int (zi x1), .int (zi x2), .int (zi x3), .int (zi (pt (iv M 59) x1 (6 + x3)))], [], zup M 72 x3 (pt (iv M 59) x1 (6 + x3)))) rfl ?_
      obtain ⟨M2, eM2⟩ : ∃ m, m = zup M 72 x3 (pt (iv M 59) x1 (6 + x3)) := ⟨_, rfl⟩
      replace hv := hv M2 eM2
      rw [← eM2]
      refine am_xn 1 (c1 := (59, [.ref 58, .int (zi x1), .int (zi x2), .int (zi x3 + zi 1), .int (zi (pt (iv M 59) x1 (6 + x3)))], [], M2)) rfl ?_
      rw [zi_add]
      refine am_xn 1 (c1 := (2, [.ref 58, .int (zi x1), .int (zi x2), .int (zi (x3 + 1)), .int (zi (pt (iv M 59) x1 (6 + x3)))], [], M2)) rfl ?_
      refine am_xf 4 ?_
      exact hv
    · replace hv := hv.2 h
      refine am_xisub 5 (pt (iv M 59) x1 (6 + x3)) 1000 (pc := 51) (ls := [.ref 58, .int (zi x1), .int (zi x2), .int (zi x3), .int (zi (pt (iv M 59) x1 (6 + x3)))]) (st := [.ref 58, .int (zi 1000), .int (zi x3), .ref 72]) rfl ?_
      obtain ⟨g, hv⟩ := hv
      refine am_xc t_Mo_withCode (.invokevirtual 104) 104 (av := [.ref 58, .int (zi ((pt (iv M 59) x1 (6 + x3)) - 1000))]) (rest := [.int (zi 1000), .int (zi x3), .ref 72]) (rv := some (.int (zi (mwc M ((pt (iv M 59) x1 (6 + x3)) - 1000))))) (M' := M) rfl rfl rfl rfl (Nat.le_of_ble_eq_true rfl) (fun _ => rfl) (sp_withCode M ((pt (iv M 59) x1 (6 + x3)) - 1000) g) ?_
      refine am_xn 0 (c1 := (54, [.ref 58, .int (zi x1), .int (zi x2), .int (zi x3), .int (zi (pt (iv M 59) x1 (6 + x3)))], [.int (zi (mwc M ((pt (iv M 59) x1 (6 + x3)) - 1000))), .int (zi 1000), .int (zi x3), .ref 72], M)) rfl ?_
      refine am_xiadd 1 1000 (mwc M ((pt (iv M 59) x1 (6 + x3)) - 1000)) (pc := 55) (ls := [.ref 58, .int (zi x1), .int (zi x2), .int (zi x3), .int (zi (pt (iv M 59) x1 (6 + x3)))]) (st := [.int (zi x3), .ref 72]) rfl ?_
      obtain ⟨r5, hv⟩ := hv
      refine am_xast rfl rfl rfl r5 ?_
      refine am_xn 0 (c1 := (56, [.ref 58, .int (zi x1), .int (zi x2), .int (zi x3), .int (zi (pt (iv M 59) x1 (6 + x3)))], [], zup M 72 x3 (1000 + (mwc M ((pt (iv M 59) x1 (6 + x3)) - 1000))))) rfl ?_
      obtain ⟨M4, eM4⟩ : ∃ m, m = zup M 72 x3 (1000 + (mwc M ((pt (iv M 59) x1 (6 + x3)) - 1000))) := ⟨_, rfl⟩
      replace hv := hv M4 eM4
      rw [← eM4]
      refine am_xn 1 (c1 := (59, [.ref 58, .int (zi x1), .int (zi x2), .int (zi x3 + zi 1), .int (zi (pt (iv M 59) x1 (6 + x3)))], [], M4)) rfl ?_
      rw [zi_add]
      refine am_xn 1 (c1 := (2, [.ref 58, .int (zi x1), .int (zi x2), .int (zi (x3 + 1)), .int (zi (pt (iv M 59) x1 (6 + x3)))], [], M4)) rfl ?_
      refine am_xf 4 ?_
      exact hv
  · replace hv := hv.2 h
    refine am_xn 6 (c1 := (70, [.ref 58, .int (zi x1), .int (zi x2), .int (zi x3), .null], [.int (zi 5), .int (zi x1), .ref 58, .int (zi x2), .ref 66], M)) rfl ?_
    obtain ⟨g, hv⟩ := hv
    refine am_xc t_Mo_part (.invokevirtual 85) 85 (av := [.ref 58, .int (zi x1), .int (zi 5)]) (rest := [.int (zi x2), .ref 66]) (rv := some (.int (zi (pt (iv M 59) x1 5)))) (M' := M) rfl rfl rfl rfl (Nat.le_of_ble_eq_true rfl) (fun _ => rfl) (sp_part M x1 5 g) ?_
    refine am_xn 0 (c1 := (73, [.ref 58, .int (zi x1), .int (zi x2), .int (zi x3), .null], [.int (zi (pt (iv M 59) x1 5)), .int (zi x2), .ref 66], M)) rfl ?_
    obtain ⟨r7, hv⟩ := hv
    refine am_xast rfl rfl rfl r7 ?_
    refine am_xn 0 (c1 := (74, [.ref 58, .int (zi x1), .int (zi x2), .int (zi x3), .null], [], zup M 66 x2 (pt (iv M 59) x1 5))) rfl ?_
    obtain ⟨M6, eM6⟩ : ∃ m, m = zup M 66 x2 (pt (iv M 59) x1 5) := ⟨_, rfl⟩
    replace hv := hv M6 eM6
    rw [← eM6]
    refine am_xn 2 (c1 := (76, [.ref 58, .int (zi x1), .int (zi x2), .int (zi 0), .null], [], M6)) rfl ?_
    refine am_xf 1 ?_
    exact hv
set_option maxRecDepth 100000 in
theorem vc_setsText_76 (x2 : Int) (x3 : Int) (M : am_M) (Q : Option Value → am_M → Prop) (hv : (0 ≤ x2 ∧ x2 < 40) ∧ (zr x3 ∧ ((x3 < (iv M 66 x2) → (0 ≤ x3 ∧ x3 < 6) ∧ ((0 ≤ ((6 * x2) + x3) ∧ ((6 * x2) + x3) < 240) ∧ (∀ M4, M4 = zup M 67 ((6 * x2) + x3) (iv M 72 x3) → am_x t_Mo_setsText (76, [.ref 58, .null, .int (zi x2), .int (zi (x3 + 1)), .null], [], M4) Q))) ∧ ((iv M 66 x2) ≤ x3 → Q none M)))) : am_x t_Mo_setsText (76, [.ref 58, .null, .int (zi x2), .int (zi x3), .null], [], M) Q := by
  obtain ⟨r1, hv⟩ := hv
  refine am_xn 4 (c1 := (82, [.ref 58, .null, .int (zi x2), .int (zi x3), .null], [.int (zi x2), .ref 66, .int (zi x3)], M)) rfl ?_
  refine am_xald rfl rfl rfl r1 ?_
  refine am_xn 0 (c1 := (83, [.ref 58, .null, .int (zi x2), .int (zi x3), .null], [.int (zi (iv M 66 x2)), .int (zi x3)], M)) rfl ?_
  obtain ⟨r2, hv⟩ := hv
  refine am_xn 1 (c1 := (if zi x3 < zi (iv M 66 x2) then 86 else 109, [.ref 58, .null, .int (zi x2), .int (zi x3), .null], [], M)) rfl (am_xlt r2 (iv_r _ _ _) (fun h => ?_) (fun h => ?_))
  · replace hv := hv.1 h
    refine am_ximul 5 6 x2 (pc := 94) (ls := [.ref 58, .null, .int (zi x2), .int (zi x3), .null]) (st := [.ref 67]) rfl ?_
    refine am_xiadd 2 (6 * x2) x3 (pc := 96) (ls := [.ref 58, .null, .int (zi x2), .int (zi x3), .null]) (st := [.ref 67]) rfl ?_
    obtain ⟨r3, hv⟩ := hv
    refine am_xn 3 (c1 := (101, [.ref 58, .null, .int (zi x2), .int (zi x3), .null], [.int (zi x3), .ref 72, .int (zi ((6 * x2) + x3)), .ref 67], M)) rfl ?_
    refine am_xald rfl rfl rfl r3 ?_
    refine am_xn 0 (c1 := (102, [.ref 58, .null, .int (zi x2), .int (zi x3), .null], [.int (zi (iv M 72 x3)), .int (zi ((6 * x2) + x3)), .ref 67], M)) rfl ?_
    obtain ⟨r5, hv⟩ := hv
    refine am_xast rfl rfl rfl r5 ?_
    refine am_xn 0 (c1 := (103, [.ref 58, .null, .int (zi x2), .int (zi x3), .null], [], zup M 67 ((6 * x2) + x3) (iv M 72 x3))) rfl ?_
    obtain ⟨M4, eM4⟩ : ∃ m, m = zup M 67 ((6 * x2) + x3) (iv M 72 x3) := ⟨_, rfl⟩
    replace hv := hv M4 eM4
    rw [← eM4]
    refine am_xn 1 (c1 := (106, [.ref 58, .null, .int (zi x2), .int (zi x3 + zi 1), .null], [], M4)) rfl ?_
    rw [zi_add]
    refine am_xn 1 (c1 := (76, [.ref 58, .null, .int (zi x2), .int (zi (x3 + 1)), .null], [], M4)) rfl ?_
    exact hv
  · replace hv := hv.2 h
    exact am_xr none ⟨rfl, rfl, rfl⟩ hv
theorem sp_setsText (M : am_M) (o c : Int) (g0 : 0 ≤ o) (g1 : o < 120) (c0 : 0 ≤ c) (c1 : c < 40) (n0 : 0 ≤ pt (iv M 59) o 5) (n1 : pt (iv M 59) o 5 ≤ 6) : ∃ M', am_call t_Mo_setsText [.ref 58, .int (zi o), .int (zi c)] M none M' ∧ (∀ a, ¬ a = 66 → ¬ a = 67 → ¬ a = 72 → M' a = M a) ∧
    (∀ j, 0 ≤ j → iv M' 66 j = if j = c then pt (iv M 59) o 5 else iv M 66 j) ∧ (∀ j, 0 ≤ j → iv M' 67 j = if 6 * c ≤ j ∧ j < 6 * c + pt (iv M 59) o 5 then mwd M o (j - 6 * c) else iv M 67 j) := by
  suffices h : am_x t_Mo_setsText (0, am_ent (am_mL t_Mo_setsText) [.ref 58, .int (zi o), .int (zi c)], [], M) (fun r M' => r = none ∧ (∀ a, ¬ a = 66 → ¬ a = 67 → ¬ a = 72 → M' a = M a) ∧
    (∀ j, 0 ≤ j → iv M' 66 j = if j = c then pt (iv M 59) o 5 else iv M 66 j) ∧ (∀ j, 0 ≤ j → iv M' 67 j = if 6 * c ≤ j ∧ j < 6 * c + pt (iv M 59) o 5 then mwd M o (j - 6 * c) else iv M 67 j)) by
    obtain ⟨r, M', h1, h2, h3⟩ := am_call_ex (by exact ⟨Nat.le_of_ble_eq_true rfl, rfl⟩) h
    subst h2
    exact ⟨M', h1, h3⟩
  refine vc_setsText o c M _ ?_
  refine loop_up (fun i (s : am_M) => (2, [.ref 58, .int (zi o), .int (zi c), .int (zi i), .null], [], s)) (pt (iv M 59) o 5) (fun i s => (∀ a, ¬ a = 72 → s a = M a) ∧ ∀ k, 0 ≤ k → k < i → iv s 72 k = mwd M o k) ?_ ?_ 0 M (by omega) n0 ⟨fun _ _ => rfl, fun k k0 k1 => by omega⟩
  · intro s ⟨s1, s2⟩
    have e59 := iv_row (s1 59 (by decide))
    refine vc_setsText_2 _ _ _ s _ ⟨⟨g0, g1, by omega, by omega⟩, pt_zr M o 5, fun h => by rw [e59] at h; omega, fun _ => ⟨⟨g0, g1, by omega, by omega⟩, ⟨c0, c1⟩, fun M6 e6 => ?_⟩⟩
    rw [e59] at e6
    have e66 : ∀ j, 0 ≤ j → iv M6 66 j = if j = c then pt (iv M 59) o 5 else iv M 66 j := fun j hj => by
      rw [e6, ivs _ _ c0 hj (pt_zr M o 5), iv_row (s1 66 (by decide))]
    have hc : iv M6 66 c = pt (iv M 59) o 5 := by rw [e66 c c0, if_pos rfl]
    refine loop_up (fun i (s' : am_M) => (76, [.ref 58, .null, .int (zi c), .int (zi i), .null], [], s')) (pt (iv M 59) o 5) (fun i s' => (∀ a, ¬ a = 67 → s' a = M6 a) ∧ ∀ j, 0 ≤ j → iv s' 67 j = if 6 * c ≤ j ∧ j < 6 * c + i then mwd M o (j - 6 * c) else iv M 67 j) ?_ ?_ 0 M6 (by omega) n0 ⟨fun _ _ => rfl, fun j hj => ?_⟩
    · intro s' ⟨t1, t2⟩
      refine vc_setsText_76 _ _ s' _ ⟨⟨c0, c1⟩, pt_zr M o 5, fun h => by rw [iv_row (t1 66 (by decide)), hc] at h; omega, fun _ => ⟨rfl, fun a a1 a2 a3 => ?_, fun j hj => ?_, t2⟩⟩
      · rw [t1 a a2, e6, zupr _ a1, s1 a a3]
      · rw [iv_row (t1 66 (by decide)), e66 j hj]
    · intro i s' i0 i1 ⟨t1, t2⟩ k
      refine vc_setsText_76 _ _ s' _ ⟨⟨c0, c1⟩, ⟨by omega, by omega⟩, fun h => ⟨⟨i0, by omega⟩, ⟨by omega, by omega⟩, fun M4 e4 => k M4 ⟨fun a ha => by rw [e4, zupr _ ha, t1 a ha], fun j hj => ?_⟩⟩, fun h => by rw [iv_row (t1 66 (by decide)), hc] at h; omega⟩
      have hv : iv s' 72 i = mwd M o i := by rw [iv_row (t1 72 (by decide)), e6, ivr _ (by decide), s2 i i0 i1]
      rw [e4, ivs _ _ (by omega) hj (iv_r _ _ _), hv, t2 j hj]
      by_cases q : j = 6 * c + i
      · rw [if_pos q, if_pos (by omega), show j - 6 * c = i by omega]
      · rw [if_neg q]
        by_cases q2 : 6 * c ≤ j ∧ j < 6 * c + i
        · rw [if_pos q2, if_pos (by omega)]
        · rw [if_neg q2, if_neg (by omega)]
    · rw [if_neg (by omega), e6, ivr _ (by decide), iv_row (s1 67 (by decide))]
  · intro i s i0 i1 ⟨s1, s2⟩ k
    have e59 := iv_row (s1 59 (by decide))
    have hz := pt_zr M o (6 + i)
    have step : ∀ M2, M2 = zup s 72 i (mwd M o i) → (∀ a, ¬ a = 72 → M2 a = M a) ∧ ∀ k, 0 ≤ k → k < i + 1 → iv M2 72 k = mwd M o k := by
      intro M2 e2
      refine ⟨fun a ha => by rw [e2, zupr _ ha, s1 a ha], fun k k0 k1 => ?_⟩
      rw [e2, ivs _ _ i0 k0 (mwd_zr M o i)]
      by_cases q : k = i
      · rw [if_pos q, q]
      · rw [if_neg q]; exact s2 k k0 (by omega)
    refine vc_setsText_2 _ _ _ s _ ⟨⟨g0, g1, by omega, by omega⟩, ⟨by omega, by omega⟩, fun h => ⟨⟨g0, g1, by omega, by omega⟩, ?_⟩, fun h => by rw [e59] at h; omega⟩
    rw [e59]
    refine ⟨fun q => ⟨⟨i0, by omega⟩, fun M2 e2 => k M2 (step M2 ?_)⟩, fun q => ⟨⟨by omega, by omega⟩, ⟨i0, by omega⟩, fun M2 e2 => k M2 (step M2 ?_)⟩⟩
    · rw [e2, mwd, if_pos q]
    · rw [e2, mwd, if_neg (by omega), mwc_row (s1 64 (by decide)) (s1 65 (by decide))]
set_option maxRecDepth 100000 in
theorem vc_carriesOut (o : Int) (d : Int) (M : am_M) (Q : Option Value → am_M → Prop) (hv : (0 ≤ o ∧ o < 120 ∧ 0 ≤ (0 : Int) ∧ (0 : Int) < 12) ∧ ((0 ≤ o ∧ o < 120 ∧ 0 ≤ (1 : Int) ∧ (1 : Int) < 12) ∧ ((zr (pt (iv M 59) o 1)) ∧ ((0 ≤ o ∧ o < 120 ∧ 0 ≤ pt (iv M 59) o 0 ∧ pt (iv M 59) o 5 ≤ 6 ∧ -1 ≤ (mwc M (pt (iv M 59) o 1)) ∧ (mwc M (pt (iv M 59) o 1)) < 40 ∧ (0 ≤ (mwc M (pt (iv M 59) o 1)) → iv M 66 (mwc M (pt (iv M 59) o 1)) ≤ 6)) ∧ ((0 ≤ o ∧ o < 120) ∧ (∀ M1, M1 = zup M 69 o (mro M o (mwc M (pt (iv M 59) o 1))) → (0 ≤ (iv M1 58 14) ∧ (iv M1 58 14) < 120) ∧ (∀ M3, M3 = zup M1 71 (iv M1 58 14) o → ∀ M5, M5 = zup M3 58 14 ((iv M3 58 14) + 1) → (0 ≤ o ∧ o < 120) ∧ ((0 < (iv M5 69 o) → Q none M5) ∧ ((iv M5 69 o) ≤ 0 → ((pt (iv M 59) o 0) = 0 → (0 ≤ o ∧ o ≤ 120) ∧ ((0 ≤ o ∧ o < 120) ∧ (∀ M7, M7 = zup M5 70 o (ia (iv M5 59) o) → (0 ≤ (ia (iv M5 59) o) ∧ (ia (iv M5 59) o) < 40) ∧ (∀ M9, M9 = zup M7 68 (ia (iv M5 59) o) d → ∃ M11, am_call t_Mo_setsText [.ref 58, .int (zi o), .int (zi (ia (iv M5 59) o))] M9 none M11 ∧ ((0 ≤ (ia (iv M5 59) o) ∧ (ia (iv M5 59) o) < 40) ∧ (∀ M12, M12 = zup M11 64 (ia (iv M5 59) o) 1 → (0 ≤ o ∧ o < 120 ∧ 0 ≤ (1 : Int) ∧ (1 : Int) < 12) ∧ ((0 ≤ (ia (iv M5 59) o) ∧ (ia (iv M5 59) o) < 40) ∧ (∀ M14, M14 = zup M12 65 (ia (iv M5 59) o) (pt (iv M12 59) o 1) → am_x t_Mo_carriesOut (165, [.ref 58, .int (zi o), .null, .int (zi (pt (iv M 59) o 0)), .int (zi (ia (iv M5 59) o)), .int (zi 0), .null], [], M14) Q)))))))) ∧ (¬ (pt (iv M 59) o 0) = 0 → (0 ≤ o ∧ o < 120) ∧ (∀ M16, M16 = zup M5 70 o (mwc M (pt (iv M 59) o 1)) → (0 ≤ (mwc M (pt (iv M 59) o 1)) ∧ (mwc M (pt (iv M 59) o 1)) < 40) ∧ (∀ M18, M18 = zup M16 68 (mwc M (pt (iv M 59) o 1)) d → ((pt (iv M 59) o 0) < 2 → ∃ M20, am_call t_Mo_setsText [.ref 58, .int (zi o), .int (zi (mwc M (pt (iv M 59) o 1)))] M18 none M20 ∧ (am_x t_Mo_carriesOut (165, [.ref 58, .int (zi o), .null, .int (zi (pt (iv M 59) o 0)), .int (zi (mwc M (pt (iv M 59) o 1))), .int (zi 0), .null], [], M20) Q)) ∧ (2 ≤ (pt (iv M 59) o 0) → ((pt (iv M 59) o 0) = 2 → (0 ≤ (mwc M (pt (iv M 59) o 1)) ∧ (mwc M (pt (iv M 59) o 1)) < 40) ∧ (∀ M21, M21 = zup M18 64 (mwc M (pt (iv M 59) o 1)) 0 → am_x t_Mo_carriesOut (165, [.ref 58, .int (zi o), .null, .int (zi (pt (iv M 59) o 0)), .int (zi (mwc M (pt (iv M 59) o 1))), .int (zi 0), .null], [], M21) Q)) ∧ (¬ (pt (iv M 59) o 0) = 2 → ((pt (iv M 59) o 0) = 3 → (0 ≤ o ∧ o < 120 ∧ 0 ≤ (2 : Int) ∧ (2 : Int) < 12) ∧ ((0 ≤ (mwc M (pt (iv M 59) o 1)) ∧ (mwc M (pt (iv M 59) o 1)) < 40) ∧ (∀ M23, M23 = zup M18 65 (mwc M (pt (iv M 59) o 1)) (pt (iv M18 59) o 2) → am_x t_Mo_carriesOut (165, [.ref 58, .int (zi o), .null, .int (zi (pt (iv M 59) o 0)), .int (zi (mwc M (pt (iv M 59) o 1))), .int (zi 0), .null], [], M23) Q))) ∧ (¬ (pt (iv M 59) o 0) = 3 → am_x t_Mo_carriesOut (165, [.ref 58, .int (zi o), .null, .int (zi (pt (iv M 59) o 0)), .int (zi (mwc M (pt (iv M 59) o 1))), .int (zi 0), .null], [], M18) Q))))))))))))))) : am_x t_Mo_carriesOut (0, am_ent (am_mL t_Mo_carriesOut) [.ref 58, .int (zi o), .int (zi d)], [], M) Q := by
  refine am_xn 0 (c1 := (0, [.ref 58, .int (zi o), .int (zi d), .null, .null, .null, .null], [], M)) rfl ?_
  refine am_xn 3 (c1 := (3, [.ref 58, .int (zi o), .int (zi d), .null, .null, .null, .null], [.int (zi 0), .int (zi o), .ref 58], M)) rfl ?_
  obtain ⟨g, hv⟩ := hv
  refine am_xc t_Mo_part (.invokevirtual 85) 85 (av := [.ref 58, .int (zi o), .int (zi 0)]) (rest := []) (rv := some (.int (zi (pt (iv M 59) o 0)))) (M' := M) rfl rfl rfl rfl (Nat.le_of_ble_eq_true rfl) (fun _ => rfl) (sp_part M o 0 g) ?_
  refine am_xn 0 (c1 := (6, [.ref 58, .int (zi o), .int (zi d), .null, .null, .null, .null], [.int (zi (pt (iv M 59) o 0))], M)) rfl ?_
  refine am_xn 5 (c1 := (11, [.ref 58, .int (zi o), .int (zi d), .int (zi (pt (iv M 59) o 0)), .null, .null, .null], [.int (zi 1), .int (zi o), .ref 58, .ref 58], M)) rfl ?_
  obtain ⟨g, hv⟩ := hv
  refine am_xc t_Mo_part (.invokevirtual 85) 85 (av := [.ref 58, .int (zi o), .int (zi 1)]) (rest := [.ref 58]) (rv := some (.int (zi (pt (iv M 59) o 1)))) (M' := M) rfl rfl rfl rfl (Nat.le_of_ble_eq_true rfl) (fun _ => rfl) (sp_part M o 1 g) ?_
  refine am_xn 0 (c1 := (14, [.ref 58, .int (zi o), .int (zi d), .int (zi (pt (iv M 59) o 0)), .null, .null, .null], [.int (zi (pt (iv M 59) o 1)), .ref 58], M)) rfl ?_
  obtain ⟨g, hv⟩ := hv
  refine am_xc t_Mo_withCode (.invokevirtual 104) 104 (av := [.ref 58, .int (zi (pt (iv M 59) o 1))]) (rest := []) (rv := some (.int (zi (mwc M (pt (iv M 59) o 1))))) (M' := M) rfl rfl rfl rfl (Nat.le_of_ble_eq_true rfl) (fun _ => rfl) (sp_withCode M (pt (iv M 59) o 1) g) ?_
  refine am_xn 0 (c1 := (17, [.ref 58, .int (zi o), .int (zi d), .int (zi (pt (iv M 59) o 0)), .null, .null, .null], [.int (zi (mwc M (pt (iv M 59) o 1)))], M)) rfl ?_
  refine am_xn 7 (c1 := (28, [.ref 58, .int (zi o), .int (zi d), .int (zi (pt (iv M 59) o 0)), .int (zi (mwc M (pt (iv M 59) o 1))), .null, .null], [.int (zi (mwc M (pt (iv M 59) o 1))), .int (zi o), .ref 58, .int (zi o), .ref 69], M)) rfl ?_
  obtain ⟨g, hv⟩ := hv
  refine am_xc t_Mo_reasonOf (.invokevirtual 114) 114 (av := [.ref 58, .int (zi o), .int (zi (mwc M (pt (iv M 59) o 1)))]) (rest := [.int (zi o), .ref 69]) (rv := some (.int (zi (mro M o (mwc M (pt (iv M 59) o 1)))))) (M' := M) rfl rfl rfl rfl (Nat.le_of_ble_eq_true rfl) (fun _ => rfl) (sp_reasonOf M o (mwc M (pt (iv M 59) o 1)) g) ?_
  refine am_xn 0 (c1 := (31, [.ref 58, .int (zi o), .int (zi d), .int (zi (pt (iv M 59) o 0)), .int (zi (mwc M (pt (iv M 59) o 1))), .null, .null], [.int (zi (mro M o (mwc M (pt (iv M 59) o 1)))), .int (zi o), .ref 69], M)) rfl ?_
  obtain ⟨r2, hv⟩ := hv
  refine am_xast rfl rfl rfl r2 ?_
  refine am_xn 0 (c1 := (32, [.ref 58, .int (zi o), .int (zi d), .int (zi (pt (iv M 59) o 0)), .int (zi (mwc M (pt (iv M 59) o 1))), .null, .null], [], zup M 69 o (mro M o (mwc M (pt (iv M 59) o 1))))) rfl ?_
  obtain ⟨M1, eM1⟩ : ∃ m, m = zup M 69 o (mro M o (mwc M (pt (iv M 59) o 1))) := ⟨_, rfl⟩
  replace hv := hv M1 eM1
  rw [← eM1]
  refine am_xrd 4 58 14 (pc := 40) (ls := [.ref 58, .int (zi o), .int (zi d), .int (zi (pt (iv M 59) o 0)), .int (zi (mwc M (pt (iv M 59) o 1))), .null, .null]) (st := [.ref 71]) rfl ?_
  obtain ⟨r4, hv⟩ := hv
  refine am_xn 1 (c1 := (41, [.ref 58, .int (zi o), .int (zi d), .int (zi (pt (iv M 59) o 0)), .int (zi (mwc M (pt (iv M 59) o 1))), .null, .null], [.int (zi o), .int (zi (iv M1 58 14)), .ref 71], M1)) rfl ?_
  refine am_xast rfl rfl rfl r4 ?_
  refine am_xn 0 (c1 := (42, [.ref 58, .int (zi o), .int (zi d), .int (zi (pt (iv M 59) o 0)), .int (zi (mwc M (pt (iv M 59) o 1))), .null, .null], [], zup M1 71 (iv M1 58 14) o)) rfl ?_
  obtain ⟨M3, eM3⟩ : ∃ m, m = zup M1 71 (iv M1 58 14) o := ⟨_, rfl⟩
  replace hv := hv M3 eM3
  rw [← eM3]
  refine am_xrd 3 58 14 (pc := 47) (ls := [.ref 58, .int (zi o), .int (zi d), .int (zi (pt (iv M 59) o 0)), .int (zi (mwc M (pt (iv M 59) o 1))), .null, .null]) (st := [.ref 58]) rfl ?_
  refine am_xiadd 2 (iv M3 58 14) 1 (pc := 49) (ls := [.ref 58, .int (zi o), .int (zi d), .int (zi (pt (iv M 59) o 0)), .int (zi (mwc M (pt (iv M 59) o 1))), .null, .null]) (st := [.ref 58]) rfl ?_
  refine am_xn 1 (c1 := (52, [.ref 58, .int (zi o), .int (zi d), .int (zi (pt (iv M 59) o 0)), .int (zi (mwc M (pt (iv M 59) o 1))), .null, .null], [], zup M3 58 14 ((iv M3 58 14) + 1))) rfl ?_
  obtain ⟨M5, eM5⟩ : ∃ m, m = zup M3 58 14 ((iv M3 58 14) + 1) := ⟨_, rfl⟩
  replace hv := hv M5 eM5
  rw [← eM5]
  obtain ⟨r6, hv⟩ := hv
  refine am_xn 3 (c1 := (57, [.ref 58, .int (zi o), .int (zi d), .int (zi (pt (iv M 59) o 0)), .int (zi (mwc M (pt (iv M 59) o 1))), .null, .null], [.int (zi o), .ref 69], M5)) rfl ?_
  refine am_xald rfl rfl rfl r6 ?_
  refine am_xn 0 (c1 := (58, [.ref 58, .int (zi o), .int (zi d), .int (zi (pt (iv M 59) o 0)), .int (zi (mwc M (pt (iv M 59) o 1))), .null, .null], [.int (zi (iv M5 69 o))], M5)) rfl ?_
  refine am_xn 1 (c1 := (if zi 0 < zi (iv M5 69 o) then 61 else 62, [.ref 58, .int (zi o), .int (zi d), .int (zi (pt (iv M 59) o 0)), .int (zi (mwc M (pt (iv M 59) o 1))), .null, .null], [], M5)) rfl (am_xlt (by decide) (iv_r _ _ _) (fun h => ?_) (fun h => ?_))
  · replace hv := hv.1 h
    exact am_xr none ⟨rfl, rfl, rfl⟩ hv
  · replace hv := hv.2 h
    refine am_xn 2 (c1 := (if zi (pt (iv M 59) o 0) = zi 0 then 66 else 74, [.ref 58, .int (zi o), .int (zi d), .int (zi (pt (iv M 59) o 0)), .int (zi (mwc M (pt (iv M 59) o 1))), .null, .null], [], M5)) rfl (am_xeq (iv_r _ 59 _) (by decide) (fun h => ?_) (fun h => ?_))
    · replace hv := hv.1 h
      refine am_xn 2 (c1 := (68, [.ref 58, .int (zi o), .int (zi d), .int (zi (pt (iv M 59) o 0)), .int (zi (mwc M (pt (iv M 59) o 1))), .null, .null], [.int (zi o), .ref 58], M5)) rfl ?_
      obtain ⟨g, hv⟩ := hv
      refine am_xc t_Mo_identitiesAhead (.invokevirtual 93) 93 (av := [.ref 58, .int (zi o)]) (rest := []) (rv := some (.int (zi (ia (iv M5 59) o)))) (M' := M5) rfl rfl rfl rfl (Nat.le_of_ble_eq_true rfl) (fun _ => rfl) (sp_identitiesAhead M5 o g) ?_
      refine am_xn 0 (c1 := (71, [.ref 58, .int (zi o), .int (zi d), .int (zi (pt (iv M 59) o 0)), .int (zi (mwc M (pt (iv M 59) o 1))), .null, .null], [.int (zi (ia (iv M5 59) o))], M5)) rfl ?_
      obtain ⟨r8, hv⟩ := hv
      refine am_xn 6 (c1 := (85, [.ref 58, .int (zi o), .int (zi d), .int (zi (pt (iv M 59) o 0)), .int (zi (ia (iv M5 59) o)), .null, .null], [.int (zi (ia (iv M5 59) o)), .int (zi o), .ref 70], M5)) rfl ?_
      refine am_xast rfl rfl rfl r8 ?_
      refine am_xn 0 (c1 := (86, [.ref 58, .int (zi o), .int (zi d), .int (zi (pt (iv M 59) o 0)), .int (zi (ia (iv M5 59) o)), .null, .null], [], zup M5 70 o (ia (iv M5 59) o))) rfl ?_
      obtain ⟨M7, eM7⟩ : ∃ m, m = zup M5 70 o (ia (iv M5 59) o) := ⟨_, rfl⟩
      replace hv := hv M7 eM7
      rw [← eM7]
      obtain ⟨r10, hv⟩ := hv
      refine am_xn 4 (c1 := (93, [.ref 58, .int (zi o), .int (zi d), .int (zi (pt (iv M 59) o 0)), .int (zi (ia (iv M5 59) o)), .null, .null], [.int (zi d), .int (zi (ia (iv M5 59) o)), .ref 68], M7)) rfl ?_
      refine am_xast rfl rfl rfl r10 ?_
      refine am_xn 0 (c1 := (94, [.ref 58, .int (zi o), .int (zi d), .int (zi (pt (iv M 59) o 0)), .int (zi (ia (iv M5 59) o)), .null, .null], [], zup M7 68 (ia (iv M5 59) o) d)) rfl ?_
      obtain ⟨M9, eM9⟩ : ∃ m, m = zup M7 68 (ia (iv M5 59) o) d := ⟨_, rfl⟩
      replace hv := hv M9 eM9
      rw [← eM9]
      refine am_xn 3 (c1 := (if zi (pt (iv M 59) o 0) < zi 2 then 99 else 106, [.ref 58, .int (zi o), .int (zi d), .int (zi (pt (iv M 59) o 0)), .int (zi (ia (iv M5 59) o)), .null, .null], [], M9)) rfl (am_xlt (iv_r _ 59 _) (by decide) (fun h => ?_) (fun h => by exfalso; omega))
      refine am_xn 3 (c1 := (103, [.ref 58, .int (zi o), .int (zi d), .int (zi (pt (iv M 59) o 0)), .int (zi (ia (iv M5 59) o)), .null, .null], [.int (zi (ia (iv M5 59) o)), .int (zi o), .ref 58], M9)) rfl ?_
      obtain ⟨M11, hc, hv⟩ := hv
      refine am_xc t_Mo_setsText (.invokevirtual 120) 120 (av := [.ref 58, .int (zi o), .int (zi (ia (iv M5 59) o))]) (rest := []) (rv := none) (M' := M11) rfl rfl rfl rfl (Nat.le_of_ble_eq_true rfl) (fun _ => rfl) (hc) ?_
      refine am_xn 0 (c1 := (106, [.ref 58, .int (zi o), .int (zi d), .int (zi (pt (iv M 59) o 0)), .int (zi (ia (iv M5 59) o)), .null, .null], [], M11)) rfl ?_
      refine am_xn 2 (c1 := (if zi (pt (iv M 59) o 0) = zi 0 then 110 else 131, [.ref 58, .int (zi o), .int (zi d), .int (zi (pt (iv M 59) o 0)), .int (zi (ia (iv M5 59) o)), .null, .null], [], M11)) rfl (am_xeq (iv_r _ 59 _) (by decide) (fun h => ?_) (fun h => by exfalso; omega))
      obtain ⟨r13, hv⟩ := hv
      refine am_xn 4 (c1 := (117, [.ref 58, .int (zi o), .int (zi d), .int (zi (pt (iv M 59) o 0)), .int (zi (ia (iv M5 59) o)), .null, .null], [.int (zi 1), .int (zi (ia (iv M5 59) o)), .ref 64], M11)) rfl ?_
      refine am_xast rfl rfl rfl r13 ?_
      refine am_xn 0 (c1 := (118, [.ref 58, .int (zi o), .int (zi d), .int (zi (pt (iv M 59) o 0)), .int (zi (ia (iv M5 59) o)), .null, .null], [], zup M11 64 (ia (iv M5 59) o) 1)) rfl ?_
      obtain ⟨M12, eM12⟩ : ∃ m, m = zup M11 64 (ia (iv M5 59) o) 1 := ⟨_, rfl⟩
      replace hv := hv M12 eM12
      rw [← eM12]
      refine am_xn 6 (c1 := (127, [.ref 58, .int (zi o), .int (zi d), .int (zi (pt (iv M 59) o 0)), .int (zi (ia (iv M5 59) o)), .null, .null], [.int (zi 1), .int (zi o), .ref 58, .int (zi (ia (iv M5 59) o)), .ref 65], M12)) rfl ?_
      obtain ⟨g, hv⟩ := hv
      refine am_xc t_Mo_part (.invokevirtual 85) 85 (av := [.ref 58, .int (zi o), .int (zi 1)]) (rest := [.int (zi (ia (iv M5 59) o)), .ref 65]) (rv := some (.int (zi (pt (iv M12 59) o 1)))) (M' := M12) rfl rfl rfl rfl (Nat.le_of_ble_eq_true rfl) (fun _ => rfl) (sp_part M12 o 1 g) ?_
      refine am_xn 0 (c1 := (130, [.ref 58, .int (zi o), .int (zi d), .int (zi (pt (iv M 59) o 0)), .int (zi (ia (iv M5 59) o)), .null, .null], [.int (zi (pt (iv M12 59) o 1)), .int (zi (ia (iv M5 59) o)), .ref 65], M12)) rfl ?_
      obtain ⟨r15, hv⟩ := hv
      refine am_xast rfl rfl rfl r15 ?_
      refine am_xn 0 (c1 := (131, [.ref 58, .int (zi o), .int (zi d), .int (zi (pt (iv M 59) o 0)), .int (zi (ia (iv M5 59) o)), .null, .null], [], zup M12 65 (ia (iv M5 59) o) (pt (iv M12 59) o 1))) rfl ?_
      obtain ⟨M14, eM14⟩ : ∃ m, m = zup M12 65 (ia (iv M5 59) o) (pt (iv M12 59) o 1) := ⟨_, rfl⟩
      replace hv := hv M14 eM14
      rw [← eM14]
      refine am_xn 3 (c1 := (if zi (pt (iv M 59) o 0) = zi 2 then 136 else 144, [.ref 58, .int (zi o), .int (zi d), .int (zi (pt (iv M 59) o 0)), .int (zi (ia (iv M5 59) o)), .null, .null], [], M14)) rfl (am_xeq (iv_r _ 59 _) (by decide) (fun h => by exfalso; omega) (fun h => ?_))
      refine am_xn 3 (c1 := (if zi (pt (iv M 59) o 0) = zi 3 then 149 else 162, [.ref 58, .int (zi o), .int (zi d), .int (zi (pt (iv M 59) o 0)), .int (zi (ia (iv M5 59) o)), .null, .null], [], M14)) rfl (am_xeq (iv_r _ 59 _) (by decide) (fun h => by exfalso; omega) (fun h => ?_))
      refine am_xn 2 (c1 := (165, [.ref 58, .int (zi o), .int (zi d), .int (zi (pt (iv M 59) o 0)), .int (zi (ia (iv M5 59) o)), .int (zi 0), .null], [], M14)) rfl ?_
      refine am_xf 2 ?_
      exact hv
    · replace hv := hv.2 h
      obtain ⟨r17, hv⟩ := hv
      refine am_xn 6 (c1 := (85, [.ref 58, .int (zi o), .int (zi d), .int (zi (pt (iv M 59) o 0)), .int (zi (mwc M (pt (iv M 59) o 1))), .null, .null], [.int (zi (mwc M (pt (iv M 59) o 1))), .int (zi o), .ref 70], M5)) rfl ?_
      refine am_xast rfl rfl rfl r17 ?_
      refine am_xn 0 (c1 := (86, [.ref 58, .int (zi o), .int (zi d), .int (zi (pt (iv M 59) o 0)), .int (zi (mwc M (pt (iv M 59) o 1))), .null, .null], [], zup M5 70 o (mwc M (pt (iv M 59) o 1)))) rfl ?_
      obtain ⟨M16, eM16⟩ : ∃ m, m = zup M5 70 o (mwc M (pt (iv M 59) o 1)) := ⟨_, rfl⟩
      replace hv := hv M16 eM16
      rw [← eM16]
      obtain ⟨r19, hv⟩ := hv
      refine am_xn 4 (c1 := (93, [.ref 58, .int (zi o), .int (zi d), .int (zi (pt (iv M 59) o 0)), .int (zi (mwc M (pt (iv M 59) o 1))), .null, .null], [.int (zi d), .int (zi (mwc M (pt (iv M 59) o 1))), .ref 68], M16)) rfl ?_
      refine am_xast rfl rfl rfl r19 ?_
      refine am_xn 0 (c1 := (94, [.ref 58, .int (zi o), .int (zi d), .int (zi (pt (iv M 59) o 0)), .int (zi (mwc M (pt (iv M 59) o 1))), .null, .null], [], zup M16 68 (mwc M (pt (iv M 59) o 1)) d)) rfl ?_
      obtain ⟨M18, eM18⟩ : ∃ m, m = zup M16 68 (mwc M (pt (iv M 59) o 1)) d := ⟨_, rfl⟩
      replace hv := hv M18 eM18
      rw [← eM18]
      refine am_xn 3 (c1 := (if zi (pt (iv M 59) o 0) < zi 2 then 99 else 106, [.ref 58, .int (zi o), .int (zi d), .int (zi (pt (iv M 59) o 0)), .int (zi (mwc M (pt (iv M 59) o 1))), .null, .null], [], M18)) rfl (am_xlt (iv_r _ 59 _) (by decide) (fun h => ?_) (fun h => ?_))
      · replace hv := hv.1 h
        refine am_xn 3 (c1 := (103, [.ref 58, .int (zi o), .int (zi d), .int (zi (pt (iv M 59) o 0)), .int (zi (mwc M (pt (iv M 59) o 1))), .null, .null], [.int (zi (mwc M (pt (iv M 59) o 1))), .int (zi o), .ref 58], M18)) rfl ?_
        obtain ⟨M20, hc, hv⟩ := hv
        refine am_xc t_Mo_setsText (.invokevirtual 120) 120 (av := [.ref 58, .int (zi o), .int (zi (mwc M (pt (iv M 59) o 1)))]) (rest := []) (rv := none) (M' := M20) rfl rfl rfl rfl (Nat.le_of_ble_eq_true rfl) (fun _ => rfl) (hc) ?_
        refine am_xn 0 (c1 := (106, [.ref 58, .int (zi o), .int (zi d), .int (zi (pt (iv M 59) o 0)), .int (zi (mwc M (pt (iv M 59) o 1))), .null, .null], [], M20)) rfl ?_
        refine am_xn 2 (c1 := (if zi (pt (iv M 59) o 0) = zi 0 then 110 else 131, [.ref 58, .int (zi o), .int (zi d), .int (zi (pt (iv M 59) o 0)), .int (zi (mwc M (pt (iv M 59) o 1))), .null, .null], [], M20)) rfl (am_xeq (iv_r _ 59 _) (by decide) (fun h => by exfalso; omega) (fun h => ?_))
        refine am_xn 3 (c1 := (if zi (pt (iv M 59) o 0) = zi 2 then 136 else 144, [.ref 58, .int (zi o), .int (zi d), .int (zi (pt (iv M 59) o 0)), .int (zi (mwc M (pt (iv M 59) o 1))), .null, .null], [], M20)) rfl (am_xeq (iv_r _ 59 _) (by decide) (fun h => by exfalso; omega) (fun h => ?_))
        refine am_xn 3 (c1 := (if zi (pt (iv M 59) o 0) = zi 3 then 149 else 162, [.ref 58, .int (zi o), .int (zi d), .int (zi (pt (iv M 59) o 0)), .int (zi (mwc M (pt (iv M 59) o 1))), .null, .null], [], M20)) rfl (am_xeq (iv_r _ 59 _) (by decide) (fun h => by exfalso; omega) (fun h => ?_))
        refine am_xn 2 (c1 := (165, [.ref 58, .int (zi o), .int (zi d), .int (zi (pt (iv M 59) o 0)), .int (zi (mwc M (pt (iv M 59) o 1))), .int (zi 0), .null], [], M20)) rfl ?_
        refine am_xf 2 ?_
        exact hv
      · replace hv := hv.2 h
        refine am_xn 2 (c1 := (if zi (pt (iv M 59) o 0) = zi 0 then 110 else 131, [.ref 58, .int (zi o), .int (zi d), .int (zi (pt (iv M 59) o 0)), .int (zi (mwc M (pt (iv M 59) o 1))), .null, .null], [], M18)) rfl (am_xeq (iv_r _ 59 _) (by decide) (fun h => by exfalso; omega) (fun h => ?_))
        refine am_xn 3 (c1 := (if zi (pt (iv M 59) o 0) = zi 2 then 136 else 144, [.ref 58, .int (zi o), .int (zi d), .int (zi (pt (iv M 59) o 0)), .int (zi (mwc M (pt (iv M 59) o 1))), .null, .null], [], M18)) rfl (am_xeq (iv_r _ 59 _) (by decide) (fun h => ?_) (fun h => ?_))
        · replace hv := hv.1 h
          obtain ⟨r22, hv⟩ := hv
          refine am_xn 4 (c1 := (143, [.ref 58, .int (zi o), .int (zi d), .int (zi (pt (iv M 59) o 0)), .int (zi (mwc M (pt (iv M 59) o 1))), .null, .null], [.int (zi 0), .int (zi (mwc M (pt (iv M 59) o 1))), .ref 64], M18)) rfl ?_
          refine am_xast rfl rfl rfl r22 ?_
          refine am_xn 0 (c1 := (144, [.ref 58, .int (zi o), .int (zi d), .int (zi (pt (iv M 59) o 0)), .int (zi (mwc M (pt (iv M 59) o 1))), .null, .null], [], zup M18 64 (mwc M (pt (iv M 59) o 1)) 0)) rfl ?_
          obtain ⟨M21, eM21⟩ : ∃ m, m = zup M18 64 (mwc M (pt (iv M 59) o 1)) 0 := ⟨_, rfl⟩
          replace hv := hv M21 eM21
          rw [← eM21]
          refine am_xn 3 (c1 := (if zi (pt (iv M 59) o 0) = zi 3 then 149 else 162, [.ref 58, .int (zi o), .int (zi d), .int (zi (pt (iv M 59) o 0)), .int (zi (mwc M (pt (iv M 59) o 1))), .null, .null], [], M21)) rfl (am_xeq (iv_r _ 59 _) (by decide) (fun h => by exfalso; omega) (fun h => ?_))
          refine am_xn 2 (c1 := (165, [.ref 58, .int (zi o), .int (zi d), .int (zi (pt (iv M 59) o 0)), .int (zi (mwc M (pt (iv M 59) o 1))), .int (zi 0), .null], [], M21)) rfl ?_
          refine am_xf 2 ?_
          exact hv
        · replace hv := hv.2 h
          refine am_xn 3 (c1 := (if zi (pt (iv M 59) o 0) = zi 3 then 149 else 162, [.ref 58, .int (zi o), .int (zi d), .int (zi (pt (iv M 59) o 0)), .int (zi (mwc M (pt (iv M 59) o 1))), .null, .null], [], M18)) rfl (am_xeq (iv_r _ 59 _) (by decide) (fun h => ?_) (fun h => ?_))
          · replace hv := hv.1 h
            refine am_xn 6 (c1 := (158, [.ref 58, .int (zi o), .int (zi d), .int (zi (pt (iv M 59) o 0)), .int (zi (mwc M (pt (iv M 59) o 1))), .null, .null], [.int (zi 2), .int (zi o), .ref 58, .int (zi (mwc M (pt (iv M 59) o 1))), .ref 65], M18)) rfl ?_
            obtain ⟨g, hv⟩ := hv
            refine am_xc t_Mo_part (.invokevirtual 85) 85 (av := [.ref 58, .int (zi o), .int (zi 2)]) (rest := [.int (zi (mwc M (pt (iv M 59) o 1))), .ref 65]) (rv := some (.int (zi (pt (iv M18 59) o 2)))) (M' := M18) rfl rfl rfl rfl (Nat.le_of_ble_eq_true rfl) (fun _ => rfl) (sp_part M18 o 2 g) ?_
            refine am_xn 0 (c1 := (161, [.ref 58, .int (zi o), .int (zi d), .int (zi (pt (iv M 59) o 0)), .int (zi (mwc M (pt (iv M 59) o 1))), .null, .null], [.int (zi (pt (iv M18 59) o 2)), .int (zi (mwc M (pt (iv M 59) o 1))), .ref 65], M18)) rfl ?_
            obtain ⟨r24, hv⟩ := hv
            refine am_xast rfl rfl rfl r24 ?_
            refine am_xn 0 (c1 := (162, [.ref 58, .int (zi o), .int (zi d), .int (zi (pt (iv M 59) o 0)), .int (zi (mwc M (pt (iv M 59) o 1))), .null, .null], [], zup M18 65 (mwc M (pt (iv M 59) o 1)) (pt (iv M18 59) o 2))) rfl ?_
            obtain ⟨M23, eM23⟩ : ∃ m, m = zup M18 65 (mwc M (pt (iv M 59) o 1)) (pt (iv M18 59) o 2) := ⟨_, rfl⟩
            replace hv := hv M23 eM23
            rw [← eM23]
            refine am_xn 2 (c1 := (165, [.ref 58, .int (zi o), .int (zi d), .int (zi (pt (iv M 59) o 0)), .int (zi (mwc M (pt (iv M 59) o 1))), .int (zi 0), .null], [], M23)) rfl ?_
            refine am_xf 2 ?_
            exact hv
          · replace hv := hv.2 h
            refine am_xn 2 (c1 := (165, [.ref 58, .int (zi o), .int (zi d), .int (zi (pt (iv M 59) o 0)), .int (zi (mwc M (pt (iv M 59) o 1))), .int (zi 0), .null], [], M18)) rfl ?_
            refine am_xf 2 ?_
            exact hv
set_option maxRecDepth 100000 in
theorem vc_carriesOut_165 (x1 : Int) (x3 : Int) (x4 : Int) (x5 : Int) (M : am_M) (Q : Option Value → am_M → Prop) (hv : (0 ≤ x4 ∧ x4 < 40) ∧ (zr x5 ∧ ((x5 < (iv M 66 x4) → zr x3 ∧ ((x3 = 4 → (0 ≤ ((6 * x4) + x5) ∧ ((6 * x4) + x5) < 240) ∧ ((0 ≤ x1 ∧ x1 < 120 ∧ 0 ≤ (2 : Int) ∧ (2 : Int) < 12) ∧ (((iv M 67 ((6 * x4) + x5)) = (pt (iv M 59) x1 2) → (0 ≤ x1 ∧ x1 < 120 ∧ 0 ≤ (3 : Int) ∧ (3 : Int) < 12) ∧ ((0 ≤ ((6 * x4) + x5) ∧ ((6 * x4) + x5) < 240) ∧ (∀ M5, M5 = zup M 67 ((6 * x4) + x5) (pt (iv M 59) x1 3) → am_x t_Mo_carriesOut (165, [.ref 58, .int (zi x1), .null, .int (zi x3), .int (zi x4), .int (zi (x5 + 1)), .null], [], M5) Q))) ∧ (¬ (iv M 67 ((6 * x4) + x5)) = (pt (iv M 59) x1 2) → (0 ≤ ((6 * x4) + x5) ∧ ((6 * x4) + x5) < 240) ∧ ((0 ≤ ((6 * x4) + x5) ∧ ((6 * x4) + x5) < 240) ∧ (∀ M8, M8 = zup M 67 ((6 * x4) + x5) (iv M 67 ((6 * x4) + x5)) → am_x t_Mo_carriesOut (165, [.ref 58, .int (zi x1), .null, .int (zi x3), .int (zi x4), .int (zi (x5 + 1)), .null], [], M8) Q)))))) ∧ (¬ x3 = 4 → Q none M))) ∧ ((iv M 66 x4) ≤ x5 → Q none M)))) : am_x t_Mo_carriesOut (165, [.ref 58, .int (zi x1), .null, .int (zi x3), .int (zi x4), .int (zi x5), .null], [], M) Q := by
  obtain ⟨r1, hv⟩ := hv
  refine am_xn 4 (c1 := (173, [.ref 58, .int (zi x1), .null, .int (zi x3), .int (zi x4), .int (zi x5), .null], [.int (zi x4), .ref 66, .int (zi x5)], M)) rfl ?_
  refine am_xald rfl rfl rfl r1 ?_
  refine am_xn 0 (c1 := (174, [.ref 58, .int (zi x1), .null, .int (zi x3), .int (zi x4), .int (zi x5), .null], [.int (zi (iv M 66 x4)), .int (zi x5)], M)) rfl ?_
  obtain ⟨r2, hv⟩ := hv
  refine am_xn 1 (c1 := (if zi x5 < zi (iv M 66 x4) then 177 else 237, [.ref 58, .int (zi x1), .null, .int (zi x3), .int (zi x4), .int (zi x5), .null], [], M)) rfl (am_xlt r2 (iv_r _ _ _) (fun h => ?_) (fun h => ?_))
  · replace hv := hv.1 h
    obtain ⟨r3, hv⟩ := hv
    refine am_xn 3 (c1 := (if zi x3 = zi 4 then 182 else 237, [.ref 58, .int (zi x1), .null, .int (zi x3), .int (zi x4), .int (zi x5), .null], [], M)) rfl (am_xeq r3 (by decide) (fun h => ?_) (fun h => ?_))
    · replace hv := hv.1 h
      refine am_ximul 3 6 x4 (pc := 187) (ls := [.ref 58, .int (zi x1), .null, .int (zi x3), .int (zi x4), .int (zi x5), .null]) (st := []) rfl ?_
      refine am_xiadd 2 (6 * x4) x5 (pc := 190) (ls := [.ref 58, .int (zi x1), .null, .int (zi x3), .int (zi x4), .int (zi x5), .null]) (st := []) rfl ?_
      obtain ⟨r4, hv⟩ := hv
      refine am_xn 7 (c1 := (204, [.ref 58, .int (zi x1), .null, .int (zi x3), .int (zi x4), .int (zi x5), .int (zi ((6 * x4) + x5))], [.int (zi ((6 * x4) + x5)), .ref 67, .int (zi ((6 * x4) + x5)), .ref 67], M)) rfl ?_
      refine am_xald rfl rfl rfl r4 ?_
      refine am_xn 0 (c1 := (205, [.ref 58, .int (zi x1), .null, .int (zi x3), .int (zi x4), .int (zi x5), .int (zi ((6 * x4) + x5))], [.int (zi (iv M 67 ((6 * x4) + x5))), .int (zi ((6 * x4) + x5)), .ref 67], M)) rfl ?_
      refine am_xn 3 (c1 := (208, [.ref 58, .int (zi x1), .null, .int (zi x3), .int (zi x4), .int (zi x5), .int (zi ((6 * x4) + x5))], [.int (zi 2), .int (zi x1), .ref 58, .int (zi (iv M 67 ((6 * x4) + x5))), .int (zi ((6 * x4) + x5)), .ref 67], M)) rfl ?_
      obtain ⟨g, hv⟩ := hv
      refine am_xc t_Mo_part (.invokevirtual 85) 85 (av := [.ref 58, .int (zi x1), .int (zi 2)]) (rest := [.int (zi (iv M 67 ((6 * x4) + x5))), .int (zi ((6 * x4) + x5)), .ref 67]) (rv := some (.int (zi (pt (iv M 59) x1 2)))) (M' := M) rfl rfl rfl rfl (Nat.le_of_ble_eq_true rfl) (fun _ => rfl) (sp_part M x1 2 g) ?_
      refine am_xn 0 (c1 := (211, [.ref 58, .int (zi x1), .null, .int (zi x3), .int (zi x4), .int (zi x5), .int (zi ((6 * x4) + x5))], [.int (zi (pt (iv M 59) x1 2)), .int (zi (iv M 67 ((6 * x4) + x5))), .int (zi ((6 * x4) + x5)), .ref 67], M)) rfl ?_
      refine am_xn 1 (c1 := (if zi (iv M 67 ((6 * x4) + x5)) = zi (pt (iv M 59) x1 2) then 214 else 223, [.ref 58, .int (zi x1), .null, .int (zi x3), .int (zi x4), .int (zi x5), .int (zi ((6 * x4) + x5))], [.int (zi ((6 * x4) + x5)), .ref 67], M)) rfl (am_xeq (iv_r _ _ _) (iv_r _ 59 _) (fun h => ?_) (fun h => ?_))
      · replace hv := hv.1 h
        refine am_xn 3 (c1 := (217, [.ref 58, .int (zi x1), .null, .int (zi x3), .int (zi x4), .int (zi x5), .int (zi ((6 * x4) + x5))], [.int (zi 3), .int (zi x1), .ref 58, .int (zi ((6 * x4) + x5)), .ref 67], M)) rfl ?_
        obtain ⟨g, hv⟩ := hv
        refine am_xc t_Mo_part (.invokevirtual 85) 85 (av := [.ref 58, .int (zi x1), .int (zi 3)]) (rest := [.int (zi ((6 * x4) + x5)), .ref 67]) (rv := some (.int (zi (pt (iv M 59) x1 3)))) (M' := M) rfl rfl rfl rfl (Nat.le_of_ble_eq_true rfl) (fun _ => rfl) (sp_part M x1 3 g) ?_
        refine am_xn 0 (c1 := (220, [.ref 58, .int (zi x1), .null, .int (zi x3), .int (zi x4), .int (zi x5), .int (zi ((6 * x4) + x5))], [.int (zi (pt (iv M 59) x1 3)), .int (zi ((6 * x4) + x5)), .ref 67], M)) rfl ?_
        obtain ⟨r6, hv⟩ := hv
        refine am_xn 1 (c1 := (230, [.ref 58, .int (zi x1), .null, .int (zi x3), .int (zi x4), .int (zi x5), .int (zi ((6 * x4) + x5))], [.int (zi (pt (iv M 59) x1 3)), .int (zi ((6 * x4) + x5)), .ref 67], M)) rfl ?_
        refine am_xast rfl rfl rfl r6 ?_
        refine am_xn 0 (c1 := (231, [.ref 58, .int (zi x1), .null, .int (zi x3), .int (zi x4), .int (zi x5), .int (zi ((6 * x4) + x5))], [], zup M 67 ((6 * x4) + x5) (pt (iv M 59) x1 3))) rfl ?_
        obtain ⟨M5, eM5⟩ : ∃ m, m = zup M 67 ((6 * x4) + x5) (pt (iv M 59) x1 3) := ⟨_, rfl⟩
        replace hv := hv M5 eM5
        rw [← eM5]
        refine am_xn 1 (c1 := (234, [.ref 58, .int (zi x1), .null, .int (zi x3), .int (zi x4), .int (zi x5 + zi 1), .int (zi ((6 * x4) + x5))], [], M5)) rfl ?_
        rw [zi_add]
        refine am_xn 1 (c1 := (165, [.ref 58, .int (zi x1), .null, .int (zi x3), .int (zi x4), .int (zi (x5 + 1)), .int (zi ((6 * x4) + x5))], [], M5)) rfl ?_
        refine am_xf 6 ?_
        exact hv
      · replace hv := hv.2 h
        obtain ⟨r7, hv⟩ := hv
        refine am_xn 3 (c1 := (229, [.ref 58, .int (zi x1), .null, .int (zi x3), .int (zi x4), .int (zi x5), .int (zi ((6 * x4) + x5))], [.int (zi ((6 * x4) + x5)), .ref 67, .int (zi ((6 * x4) + x5)), .ref 67], M)) rfl ?_
        refine am_xald rfl rfl rfl r7 ?_
        refine am_xn 0 (c1 := (230, [.ref 58, .int (zi x1), .null, .int (zi x3), .int (zi x4), .int (zi x5), .int (zi ((6 * x4) + x5))], [.int (zi (iv M 67 ((6 * x4) + x5))), .int (zi ((6 * x4) + x5)), .ref 67], M)) rfl ?_
        obtain ⟨r9, hv⟩ := hv
        refine am_xast rfl rfl rfl r9 ?_
        refine am_xn 0 (c1 := (231, [.ref 58, .int (zi x1), .null, .int (zi x3), .int (zi x4), .int (zi x5), .int (zi ((6 * x4) + x5))], [], zup M 67 ((6 * x4) + x5) (iv M 67 ((6 * x4) + x5)))) rfl ?_
        obtain ⟨M8, eM8⟩ : ∃ m, m = zup M 67 ((6 * x4) + x5) (iv M 67 ((6 * x4) + x5)) := ⟨_, rfl⟩
        replace hv := hv M8 eM8
        rw [← eM8]
        refine am_xn 1 (c1 := (234, [.ref 58, .int (zi x1), .null, .int (zi x3), .int (zi x4), .int (zi x5 + zi 1), .int (zi ((6 * x4) + x5))], [], M8)) rfl ?_
        rw [zi_add]
        refine am_xn 1 (c1 := (165, [.ref 58, .int (zi x1), .null, .int (zi x3), .int (zi x4), .int (zi (x5 + 1)), .int (zi ((6 * x4) + x5))], [], M8)) rfl ?_
        refine am_xf 6 ?_
        exact hv
    · replace hv := hv.2 h
      exact am_xr none ⟨rfl, rfl, rfl⟩ hv
  · replace hv := hv.2 h
    exact am_xr none ⟨rfl, rfl, rfl⟩ hv
theorem carriesOut_chg (o c kd : Int) (S : am_M) (Q : Option Value → am_M → Prop) (g0 : 0 ≤ o) (g1 : o < 120) (c0 : 0 ≤ c) (c1 : c < 40) (hk : zr kd) (n0 : 0 ≤ iv S 66 c) (n1 : iv S 66 c ≤ 6)
    (h : ∀ M', (∀ a, ¬ a = 67 → M' a = S a) → (∀ j, 0 ≤ j → iv M' 67 j = if kd = 4 ∧ 6 * c ≤ j ∧ j < 6 * c + iv S 66 c ∧ iv S 67 j = pt (iv S 59) o 2 then pt (iv S 59) o 3 else iv S 67 j) → Q none M') :
    am_x t_Mo_carriesOut (165, [.ref 58, .int (zi o), .null, .int (zi kd), .int (zi c), .int (zi 0), .null], [], S) Q := by
  by_cases h4 : kd = 4
  · subst h4
    refine loop_up (fun i (s : am_M) => (165, [.ref 58, .int (zi o), .null, .int (zi 4), .int (zi c), .int (zi i), .null], [], s)) (iv S 66 c) (fun i s => (∀ a, ¬ a = 67 → s a = S a) ∧ ∀ j, 0 ≤ j → iv s 67 j = if 6 * c ≤ j ∧ j < 6 * c + i ∧ iv S 67 j = pt (iv S 59) o 2 then pt (iv S 59) o 3 else iv S 67 j) ?_ ?_ 0 S (by omega) n0 ⟨fun _ _ => rfl, fun j hj => by rw [if_neg (by omega)]⟩
    · intro s ⟨s1, s2⟩
      refine vc_carriesOut_165 _ _ _ _ s _ ⟨⟨c0, c1⟩, iv_r _ _ _, fun q => by rw [iv_row (s1 66 (by decide))] at q; omega, fun _ => h s s1 (fun j hj => ?_)⟩
      rw [s2 j hj]
      by_cases q : 6 * c ≤ j ∧ j < 6 * c + iv S 66 c ∧ iv S 67 j = pt (iv S 59) o 2
      · rw [if_pos q, if_pos ⟨rfl, q⟩]
      · rw [if_neg q, if_neg (fun z => q z.2)]
    · intro i s i0 i1 ⟨s1, s2⟩ k
      have e59 := iv_row (s1 59 (by decide))
      have hold : iv s 67 (6 * c + i) = iv S 67 (6 * c + i) := by rw [s2 _ (by omega), if_neg (by omega)]
      refine vc_carriesOut_165 _ _ _ _ s _ ⟨⟨c0, c1⟩, ⟨by omega, by omega⟩, fun q => ⟨hk, fun _ => ⟨⟨by omega, by omega⟩, ⟨g0, g1, by omega, by omega⟩, fun q2 => ⟨⟨g0, g1, by omega, by omega⟩, ⟨by omega, by omega⟩, fun M5 e5 => k M5 ⟨fun a ha => by rw [e5, zupr _ ha, s1 a ha], fun j hj => ?_⟩⟩, fun q2 => ⟨⟨by omega, by omega⟩, ⟨by omega, by omega⟩, fun M5 e5 => k M5 ⟨fun a ha => by rw [e5, zupr _ ha, s1 a ha], fun j hj => ?_⟩⟩⟩, fun z => absurd rfl z⟩, fun q => by rw [iv_row (s1 66 (by decide))] at q; omega⟩
      · rw [e59, hold] at q2
        rw [e5, ivs _ _ (by omega) hj (pt_zr _ _ _), e59, s2 j hj]
        by_cases z : j = 6 * c + i
        · rw [if_pos z, if_pos ⟨by omega, by omega, by rw [z]; exact q2⟩]
        · rw [if_neg z]
          by_cases y : 6 * c ≤ j ∧ j < 6 * c + i ∧ iv S 67 j = pt (iv S 59) o 2
          · rw [if_pos y, if_pos ⟨y.1, by omega, y.2.2⟩]
          · rw [if_neg y, if_neg (fun w => y ⟨w.1, by omega, w.2.2⟩)]
      · rw [e59, hold] at q2
        rw [e5, ivs _ _ (by omega) hj (iv_r _ _ _), hold, s2 j hj]
        by_cases z : j = 6 * c + i
        · rw [if_pos z, if_neg (fun w => q2 (by rw [← z]; exact w.2.2)), z]
        · rw [if_neg z]
          by_cases y : 6 * c ≤ j ∧ j < 6 * c + i ∧ iv S 67 j = pt (iv S 59) o 2
          · rw [if_pos y, if_pos ⟨y.1, by omega, y.2.2⟩]
          · rw [if_neg y, if_neg (fun w => y ⟨w.1, by omega, w.2.2⟩)]
  · have e := h S (fun _ _ => rfl) (fun j _ => by rw [if_neg (fun w => h4 w.1)])
    exact vc_carriesOut_165 _ _ _ _ S _ ⟨⟨c0, c1⟩, by decide, fun _ => ⟨hk, fun w => absurd w h4, fun _ => e⟩, fun _ => e⟩
/-- rows of the reference's law, and its count of operations -/
def MFr (M M' : am_M) : Prop := (∀ a, ¬ a = 58 → ¬ (64 ≤ a ∧ a ≤ 72) → M' a = M a) ∧ ∀ j, ¬ j = 14 → M' 58 j = M 58 j
theorem MFr_refl (M : am_M) : MFr M M := ⟨fun _ _ _ => rfl, fun _ _ => rfl⟩
theorem MFr_trans {M M' M'' : am_M} (h : MFr M M') (h' : MFr M' M'') : MFr M M'' := ⟨fun a a1 a2 => (h'.1 a a1 a2).trans (h.1 a a1 a2), fun j hj => (h'.2 j hj).trans (h.2 j hj)⟩
theorem MFr_zup {M : am_M} {a : Nat} {k v : Int} (h : 64 ≤ a ∧ a ≤ 72) : MFr M (zup M a k v) := ⟨fun b _ b2 => zupr M (fun e => b2 (e ▸ h)), fun j _ => by rw [zupr M (by omega)]⟩
theorem MFr_14 {M : am_M} {v : Int} : MFr M (zup M 58 14 v) := ⟨fun b b1 _ => zupr M b1, fun j hj => zup58 M (by decide) hj⟩
def MLR (L : Lw) (M : am_M) : Prop :=
  (∀ c, 0 ≤ c → c < 40 → iv M 64 c = if L.code c = 0 then 0 else 1) ∧
  (∀ c, 0 ≤ c → c < 40 → ¬ L.code c = 0 → iv M 65 c = L.code c ∧ iv M 66 c = L.len c ∧ iv M 68 c = L.lst c ∧ ∀ k, 0 ≤ k → k < L.len c → iv M 67 (6 * c + k) = L.tx c k) ∧
  (∀ o, 0 ≤ o → o < 120 → iv M 69 o = L.rs o ∧ iv M 70 o = L.af o) ∧
  iv M 58 14 = L.sq.length ∧ (∀ i : Nat, i < L.sq.length → iv M 71 i = L.sq.getD i 0)
theorem mwc_hold {L : Lw} {M : am_M} (v : VL L) (r : MLR L M) {x : Int} (hx : ¬ x = 0) : mwc M x = hold L x := by
  refine hold_eq v hx ?_
  rcases lstf_is (fun c => decide (iv M 64 c = 1 ∧ iv M 65 c = x)) 40 with ⟨h, h2⟩ | ⟨h1, h2, h3⟩
  · refine Or.inl ⟨h, fun c c0 c1 e => ?_⟩
    have := h2 c c0 (by omega)
    have n : ¬ L.code c = 0 := by rw [e]; exact hx
    have e1 := r.1 c c0 c1
    rw [if_neg n] at e1
    have e2 := (r.2.1 c c0 c1 n).1
    exact absurd (decide_eq_true (⟨e1, e2.trans e⟩ : iv M 64 c = 1 ∧ iv M 65 c = x)) (by rw [this]; decide)
  · have h4 := of_decide_eq_true h3
    have e1 := r.1 _ h1 (by show mwc M x < 40; exact h2)
    refine Or.inr ⟨h1, h2, ?_⟩
    by_cases n : L.code (mwc M x) = 0
    · have e1 : iv M 64 (mwc M x) = 0 := e1.trans (if_pos n)
      have : iv M 64 (mwc M x) = 1 := h4.1
      omega
    · exact ((r.2.1 _ h1 h2 n).1).symm.trans h4.2
theorem mhw_has {L : Lw} {M : am_M} (v : VL L) (r : MLR L M) {c w : Int} (c0 : 0 ≤ c) (c1 : c < 40) (n : ¬ L.code c = 0) : mhw M c w ↔ has L c w := by
  obtain ⟨_, e2, _, e4⟩ := r.2.1 c c0 c1 n
  constructor
  · rintro ⟨k, k0, k1, k2⟩
    rw [e2] at k1
    exact ⟨k, k0, k1, by rw [← e4 k k0 k1]; exact k2⟩
  · rintro ⟨k, k0, k1, k2⟩
    exact ⟨k, k0, by rw [e2]; exact k1, by rw [e4 k k0 k1]; exact k2⟩
theorem mrf_rfd {L : Lw} {M : am_M} (w : WB (iv M 59)) (v : VL L) (r : MLR L M) {o : Int} (g0 : 0 ≤ o) (g1 : o < nops (iv M 59)) : mrf M o ↔ rfd (iv M 59) L o := by
  have wo := w.op o g0 g1
  have e : ∀ k, 0 ≤ k → k < pt (iv M 59) o 5 → 1000 ≤ pt (iv M 59) o (6 + k) → mwc M (pt (iv M 59) o (6 + k) - 1000) = hold L (pt (iv M 59) o (6 + k) - 1000) := fun k k0 k1 k2 => mwc_hold v r (by have := wo.wd k k0 k1; omega)
  constructor
  · intro h k k0 k1
    rcases h k k0 k1 with q | q
    · exact Or.inl q
    · by_cases z : pt (iv M 59) o (6 + k) < 1000
      · exact Or.inl z
      · rw [e k k0 k1 (by omega)] at q; exact Or.inr q
  · intro h k k0 k1
    rcases h k k0 k1 with q | q
    · exact Or.inl q
    · by_cases z : pt (iv M 59) o (6 + k) < 1000
      · exact Or.inl z
      · rw [← e k k0 k1 (by omega)] at q; exact Or.inr q
theorem mro_rsn {L : Lw} {M : am_M} (w : WB (iv M 59)) (v : VL L) (r : MLR L M) {o : Int} (g0 : 0 ≤ o) (g1 : o < nops (iv M 59)) : mro M o (hold L (pt (iv M 59) o 1)) = rsn (iv M 59) L o := by
  have wo := w.op o g0 g1
  have wk := wo.kd
  unfold mro rsn
  by_cases h1 : ¬ pt (iv M 59) o 0 = 0 ∧ hold L (pt (iv M 59) o 1) = -1
  · rw [if_pos h1, if_pos ⟨by omega, h1.2⟩]
  rw [if_neg h1, if_neg (fun q => h1 ⟨by omega, q.2⟩)]
  have e2 : pt (iv M 59) o 0 = 3 → mwc M (pt (iv M 59) o 2) = hold L (pt (iv M 59) o 2) := fun q => mwc_hold v r (by have := wo.f3 q; omega)
  by_cases h2 : (pt (iv M 59) o 0 = 0 ∧ ¬ hold L (pt (iv M 59) o 1) = -1) ∨ (pt (iv M 59) o 0 = 3 ∧ ¬ hold L (pt (iv M 59) o 2) = -1)
  · rw [if_pos h2, if_pos (h2.imp id (fun q => ⟨q.1, by rw [e2 q.1]; exact q.2⟩))]
  rw [if_neg h2, if_neg (fun z => h2 (z.imp id (fun q => ⟨q.1, by rw [← e2 q.1]; exact q.2⟩)))]
  have e3 : pt (iv M 59) o 0 = 4 → (mhw M (hold L (pt (iv M 59) o 1)) (pt (iv M 59) o 2) ↔ has L (hold L (pt (iv M 59) o 1)) (pt (iv M 59) o 2)) := fun q => by
    have hc := hold_cd (L := L) (x := pt (iv M 59) o 1) (fun z => h1 ⟨by omega, z⟩)
    exact mhw_has v r hc.1 hc.2.1 (by have := wo.cd; omega)
  by_cases h3 : pt (iv M 59) o 0 = 4 ∧ ¬ has L (hold L (pt (iv M 59) o 1)) (pt (iv M 59) o 2)
  · rw [if_pos h3, if_pos ⟨h3.1, fun z => h3.2 ((e3 h3.1).mp z)⟩]
  rw [if_neg h3, if_neg (fun z => h3 ⟨z.1, fun y => z.2 ((e3 z.1).mpr y)⟩)]
  have e4 := mrf_rfd w v r g0 g1
  by_cases h4 : ¬ rfd (iv M 59) L o
  · have k2 : pt (iv M 59) o 0 < 2 := by
      by_cases q : pt (iv M 59) o 0 < 2
      · exact q
      · exact absurd (fun k k0 k1 => by have := wo.l2 (by omega); omega) h4
    rw [if_pos h4, if_pos ⟨k2, fun z => h4 (e4.mp z)⟩]
  · rw [if_neg h4, if_neg (fun z => h4 (fun y => z.2 (e4.mpr y)))]
theorem mwd_wd {L : Lw} {M : am_M} (w : WB (iv M 59)) (v : VL L) (r : MLR L M) {o k : Int} (g0 : 0 ≤ o) (g1 : o < nops (iv M 59)) (k0 : 0 ≤ k) (k1 : k < pt (iv M 59) o 5) : mwd M o k = wd (iv M 59) L o k := by
  unfold mwd wd
  by_cases q : pt (iv M 59) o (6 + k) < 1000
  · rw [if_pos q, if_pos q]
  · rw [if_neg q, if_neg q, mwc_hold v r (by have := (w.op o g0 g1).wd k k0 k1; omega)]
