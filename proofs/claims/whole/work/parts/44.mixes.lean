/-! digest: the reference; both -/
def DGf (M M' : am_M) : Prop := (∀ a, ¬ a = 58 → ¬ (63 ≤ a ∧ a ≤ 72) → M' a = M a) ∧ ∀ j, ¬ j = 14 → ¬ j = 30 → ¬ j = 130 → M' 58 j = M 58 j
def DG (M : am_M) (H : Int) (s : am_M) : Prop := DGf M s ∧ zl (lv s 58 30) = zl H
theorem zupl_r (M : am_M) {a : Nat} {k v : Int} {b : Nat} (h : b ≠ a) : zupl M a k v b = M b := by
  funext j
  unfold zupl am_up
  rw [if_neg h, if_neg h]
theorem am_up_ne2 (M : am_M) {a k k' j : Nat} {x y : Int32} (h : ¬ j = k') (h' : ¬ j = k) : am_up (am_up M a k x) a k' y a j = M a j := by
  unfold am_up
  rw [if_pos rfl, if_neg h, if_pos rfl, if_neg h']
theorem zupl_58 (M : am_M) {v : Int} {j : Nat} (h0 : ¬ j = 30) (h1 : ¬ j = 130) : zupl M 58 30 v 58 j = M 58 j := by
  exact am_up_ne2 M (show ¬ j = (30 : Int).toNat + 100 from h1) (show ¬ j = (30 : Int).toNat from h0)
theorem zl_mix {a h : Int} (v : Int) (e : zl a = zl h) : zl (31 * a + v) = zl (31 * h + v) := by rw [← zl_add, ← zl_mul, e, zl_mul, zl_add]
theorem dg_mix {M s s' : am_M} {H : Int} (v : Int) (g : DG M H s) (e : s' = zupl s 58 30 (31 * lv s 58 30 + v)) : DG M (31 * H + v) s' := by
  refine ⟨⟨fun a a1 a2 => by rw [e, zupl_r _ a1, g.1.1 a a1 a2], fun j j1 j2 j3 => by rw [e, zupl_58 _ j2 j3, g.1.2 j j1 j2 j3]⟩, ?_⟩
  rw [e, lv_zupl]
  exact zl_mix v g.2
theorem dg_lf {M s s' : am_M} {H : Int} (g : DG M H s) (f : MLf s s') : DG M H s' := by
  refine ⟨⟨fun a a1 a2 => by rw [f.1 a a1 a2, g.1.1 a a1 a2], fun j j1 j2 j3 => by rw [f.2 j j1, g.1.2 j j1 j2 j3]⟩, ?_⟩
  have : lv s' 58 30 = lv s 58 30 := by
    unfold lv
    rw [f.2 _ (by decide), f.2 _ (by decide)]
  rw [this]
  exact g.2
theorem mlr_mix {L : Lw} {s s' : am_M} {v : Int} (r : MLR L s) (e : s' = zupl s 58 30 v) : MLR L s' := by
  unfold MLR at r ⊢
  have h : ∀ a, ¬ a = 58 → s' a = s a := fun a ha => by rw [e, zupl_r _ ha]
  have h14 : iv s' 58 14 = iv s 58 14 := iv1 (by rw [e]; exact zupl_58 _ (by decide) (by decide))
  rw [iv_row (h 64 (by decide)), iv_row (h 65 (by decide)), iv_row (h 66 (by decide)), iv_row (h 67 (by decide)), iv_row (h 68 (by decide)), iv_row (h 69 (by decide)), iv_row (h 70 (by decide)), iv_row (h 71 (by decide)), h14]
  exact r
set_option maxRecDepth 100000 in
theorem vc_mixes (v : Int) (M : am_M) (Q : Option Value → am_M → Prop) (hv : ∀ M1, M1 = zupl M 58 30 ((31 * (lv M 58 30)) + v) → Q none M1) : am_x t_Mo_mixes (0, am_ent (am_mL t_Mo_mixes) [.ref 58, .long (zl v)], [], M) Q := by
  refine am_xn 0 (c1 := (0, [.ref 58, .long (zl v), .null], [], M)) rfl ?_
  refine am_xlrd 4 58 30 (pc := 8) (ls := [.ref 58, .long (zl v), .null]) (st := [.long (zl 31), .ref 58]) rfl ?_
  refine am_xlmul 1 31 (lv M 58 30) (pc := 9) (ls := [.ref 58, .long (zl v), .null]) (st := [.ref 58]) rfl ?_
  refine am_xladd 2 (31 * (lv M 58 30)) v (pc := 11) (ls := [.ref 58, .long (zl v), .null]) (st := [.ref 58]) rfl ?_
  refine am_xn 1 (c1 := (14, [.ref 58, .long (zl v), .null], [], zupl M 58 30 ((31 * (lv M 58 30)) + v))) rfl ?_
  obtain ⟨M1, eM1⟩ : ∃ m, m = zupl M 58 30 ((31 * (lv M 58 30)) + v) := ⟨_, rfl⟩
  replace hv := hv M1 eM1
  rw [← eM1]
  exact am_xr none ⟨rfl, rfl, rfl⟩ hv
theorem sp_mixes (M : am_M) (v : Int) : am_call t_Mo_mixes [.ref 58, .long (zl v)] M (none) (zupl M 58 30 (31 * lv M 58 30 + v)) := by
  exact am_call_of ⟨Nat.le_of_ble_eq_true rfl, rfl⟩ (vc_mixes v M _ (fun M1 e => ⟨rfl, e⟩))
set_option maxRecDepth 100000 in
theorem vc_mixesAmendment (a : Int) (M : am_M) (Q : Option Value → am_M → Prop) (hv : am_x t_Mo_mixesAmendment (2, [.ref 58, .int (zi a), .int (zi 0), .null, .null], [], M) Q) : am_x t_Mo_mixesAmendment (0, am_ent (am_mL t_Mo_mixesAmendment) [.ref 58, .int (zi a)], [], M) Q := by
  refine am_xn 0 (c1 := (0, [.ref 58, .int (zi a), .null, .null, .null], [], M)) rfl ?_
  refine am_xn 2 (c1 := (2, [.ref 58, .int (zi a), .int (zi 0), .null, .null], [], M)) rfl ?_
  exact hv
set_option maxRecDepth 100000 in
theorem vc_mixesAmendment_2 (x1 : Int) (x2 : Int) (M : am_M) (Q : Option Value → am_M → Prop) (hv : (zr x2) ∧ ((x2 < 4 → ∃ (r3 : Int) (M2 : am_M), am_call t_Mo_amendment [.ref 58, .int (zi x1), .int (zi x2)] M (some (.int (zi r3))) M2 ∧ ((zr r3) ∧ (∀ M5, M5 = zupl M2 58 30 (31 * lv M2 58 30 + r3) → am_x t_Mo_mixesAmendment (2, [.ref 58, .int (zi x1), .int (zi (x2 + 1)), .null, .null], [], M5) Q))) ∧ (4 ≤ x2 → ∃ M6, am_call t_Mo_fullLaw [.ref 58] M none M6 ∧ ((0 ≤ x1 ∧ x1 ≤ 20) ∧ (am_x t_Mo_mixesAmendment (36, [.ref 58, .int (zi x1), .int (zi (fo (iv M6 59) x1)), .int (zi (fo (iv M6 59) x1)), .null], [], M6) Q))))) : am_x t_Mo_mixesAmendment (2, [.ref 58, .int (zi x1), .int (zi x2), .null, .null], [], M) Q := by
  obtain ⟨r1, hv⟩ := hv
  refine am_xn 3 (c1 := (if zi x2 < zi 4 then 7 else 24, [.ref 58, .int (zi x1), .int (zi x2), .null, .null], [], M)) rfl (am_xlt r1 (by decide) (fun h => ?_) (fun h => ?_))
  · replace hv := hv.1 h
    refine am_xn 4 (c1 := (11, [.ref 58, .int (zi x1), .int (zi x2), .null, .null], [.int (zi x2), .int (zi x1), .ref 58, .ref 58], M)) rfl ?_
    obtain ⟨r3, M2, hc, hv⟩ := hv
    refine am_xc t_Mo_amendment (.invokevirtual 333) 333 (av := [.ref 58, .int (zi x1), .int (zi x2)]) (rest := [.ref 58]) (rv := some (.int (zi r3))) (M' := M2) rfl rfl rfl rfl (Nat.le_of_ble_eq_true rfl) (fun _ => rfl) (hc) ?_
    refine am_xn 0 (c1 := (14, [.ref 58, .int (zi x1), .int (zi x2), .null, .null], [.int (zi r3), .ref 58], M2)) rfl ?_
    obtain ⟨r4, hv⟩ := hv
    refine am_xi2l 1 r3 r4 (pc := 15) (ls := [.ref 58, .int (zi x1), .int (zi x2), .null, .null]) (st := [.ref 58]) rfl ?_
    obtain ⟨M5, eM5⟩ : ∃ m, m = zupl M2 58 30 (31 * lv M2 58 30 + r3) := ⟨_, rfl⟩
    replace hv := hv M5 eM5
    refine am_xc t_Mo_mixes (.invokevirtual 336) 336 (av := [.ref 58, .long (zl r3)]) (rest := []) (rv := none) (M' := M5) rfl rfl rfl rfl (Nat.le_of_ble_eq_true rfl) (fun _ => rfl) (by rw [eM5]; exact sp_mixes M2 r3) ?_
    refine am_xn 0 (c1 := (18, [.ref 58, .int (zi x1), .int (zi x2), .null, .null], [], M5)) rfl ?_
    refine am_xn 1 (c1 := (21, [.ref 58, .int (zi x1), .int (zi x2 + zi 1), .null, .null], [], M5)) rfl ?_
    rw [zi_add]
    refine am_xn 1 (c1 := (2, [.ref 58, .int (zi x1), .int (zi (x2 + 1)), .null, .null], [], M5)) rfl ?_
    exact hv
  · replace hv := hv.2 h
    refine am_xn 1 (c1 := (25, [.ref 58, .int (zi x1), .int (zi x2), .null, .null], [.ref 58], M)) rfl ?_
    obtain ⟨M6, hc, hv⟩ := hv
    refine am_xc t_Mo_fullLaw (.invokevirtual 242) 242 (av := [.ref 58]) (rest := []) (rv := none) (M' := M6) rfl rfl rfl rfl (Nat.le_of_ble_eq_true rfl) (fun _ => rfl) (hc) ?_
    refine am_xn 0 (c1 := (28, [.ref 58, .int (zi x1), .int (zi x2), .null, .null], [], M6)) rfl ?_
    refine am_xn 2 (c1 := (30, [.ref 58, .int (zi x1), .int (zi x2), .null, .null], [.int (zi x1), .ref 58], M6)) rfl ?_
    obtain ⟨g, hv⟩ := hv
    refine am_xc t_Mo_firstOf (.invokevirtual 128) 128 (av := [.ref 58, .int (zi x1)]) (rest := []) (rv := some (.int (zi (fo (iv M6 59) x1)))) (M' := M6) rfl rfl rfl rfl (Nat.le_of_ble_eq_true rfl) (fun _ => rfl) (sp_firstOf M6 x1 g) ?_
    refine am_xn 0 (c1 := (33, [.ref 58, .int (zi x1), .int (zi x2), .null, .null], [.int (zi (fo (iv M6 59) x1))], M6)) rfl ?_
    refine am_xn 3 (c1 := (36, [.ref 58, .int (zi x1), .int (zi (fo (iv M6 59) x1)), .int (zi (fo (iv M6 59) x1)), .null], [], M6)) rfl ?_
    exact hv
set_option maxRecDepth 100000 in
theorem vc_mixesAmendment_36 (x1 : Int) (x2 : Int) (x3 : Int) (M : am_M) (Q : Option Value → am_M → Prop) (hv : (0 ≤ (41 + x1) ∧ (41 + x1) < 1501) ∧ ((zr x3) ∧ ((zr (x2 + (iv M 59 (41 + x1)))) ∧ ((x3 < (x2 + (iv M 59 (41 + x1))) → am_x t_Mo_mixesAmendment (54, [.ref 58, .int (zi x1), .int (zi x2), .int (zi x3), .int (zi 0)], [], M) Q) ∧ ((x2 + (iv M 59 (41 + x1))) ≤ x3 → Q none M))))) : am_x t_Mo_mixesAmendment (36, [.ref 58, .int (zi x1), .int (zi x2), .int (zi x3), .null], [], M) Q := by
  refine am_xiadd 7 41 x1 (pc := 46) (ls := [.ref 58, .int (zi x1), .int (zi x2), .int (zi x3), .null]) (st := [.ref 59, .int (zi x2), .int (zi x3)]) rfl ?_
  obtain ⟨r1, hv⟩ := hv
  refine am_xald rfl rfl rfl r1 ?_
  refine am_xn 0 (c1 := (47, [.ref 58, .int (zi x1), .int (zi x2), .int (zi x3), .null], [.int (zi (iv M 59 (41 + x1))), .int (zi x2), .int (zi x3)], M)) rfl ?_
  refine am_xiadd 1 x2 (iv M 59 (41 + x1)) (pc := 48) (ls := [.ref 58, .int (zi x1), .int (zi x2), .int (zi x3), .null]) (st := [.int (zi x3)]) rfl ?_
  obtain ⟨r2, hv⟩ := hv
  obtain ⟨r3, hv⟩ := hv
  refine am_xn 1 (c1 := (if zi x3 < zi (x2 + (iv M 59 (41 + x1))) then 51 else 120, [.ref 58, .int (zi x1), .int (zi x2), .int (zi x3), .null], [], M)) rfl (am_xlt r2 r3 (fun h => ?_) (fun h => ?_))
  · replace hv := hv.1 h
    refine am_xn 2 (c1 := (54, [.ref 58, .int (zi x1), .int (zi x2), .int (zi x3), .int (zi 0)], [], M)) rfl ?_
    exact hv
  · replace hv := hv.2 h
    exact am_xr none ⟨rfl, rfl, rfl⟩ hv
set_option maxRecDepth 100000 in
theorem vc_mixesAmendment_54 (x1 : Int) (x2 : Int) (x3 : Int) (x4 : Int) (M : am_M) (Q : Option Value → am_M → Prop) (hv : (zr x4) ∧ ((x4 < 9 → ∃ (r3 : Int) (M2 : am_M), am_call t_Mo_told [.ref 58, .int (zi x3), .int (zi x4)] M (some (.int (zi r3))) M2 ∧ ((zr r3) ∧ (∀ M5, M5 = zupl M2 58 30 (31 * lv M2 58 30 + r3) → am_x t_Mo_mixesAmendment (54, [.ref 58, .int (zi x1), .int (zi x2), .int (zi x3), .int (zi (x4 + 1))], [], M5) Q))) ∧ (9 ≤ x4 → am_x t_Mo_mixesAmendment (82, [.ref 58, .int (zi x1), .int (zi x2), .int (zi x3), .int (zi 0)], [], M) Q))) : am_x t_Mo_mixesAmendment (54, [.ref 58, .int (zi x1), .int (zi x2), .int (zi x3), .int (zi x4)], [], M) Q := by
  obtain ⟨r1, hv⟩ := hv
  refine am_xn 3 (c1 := (if zi x4 < zi 9 then 61 else 79, [.ref 58, .int (zi x1), .int (zi x2), .int (zi x3), .int (zi x4)], [], M)) rfl (am_xlt r1 (by decide) (fun h => ?_) (fun h => ?_))
  · replace hv := hv.1 h
    refine am_xn 4 (c1 := (66, [.ref 58, .int (zi x1), .int (zi x2), .int (zi x3), .int (zi x4)], [.int (zi x4), .int (zi x3), .ref 58, .ref 58], M)) rfl ?_
    obtain ⟨r3, M2, hc, hv⟩ := hv
    refine am_xc t_Mo_told (.invokevirtual 251) 251 (av := [.ref 58, .int (zi x3), .int (zi x4)]) (rest := [.ref 58]) (rv := some (.int (zi r3))) (M' := M2) rfl rfl rfl rfl (Nat.le_of_ble_eq_true rfl) (fun _ => rfl) (hc) ?_
    refine am_xn 0 (c1 := (69, [.ref 58, .int (zi x1), .int (zi x2), .int (zi x3), .int (zi x4)], [.int (zi r3), .ref 58], M2)) rfl ?_
    obtain ⟨r4, hv⟩ := hv
    refine am_xi2l 1 r3 r4 (pc := 70) (ls := [.ref 58, .int (zi x1), .int (zi x2), .int (zi x3), .int (zi x4)]) (st := [.ref 58]) rfl ?_
    obtain ⟨M5, eM5⟩ : ∃ m, m = zupl M2 58 30 (31 * lv M2 58 30 + r3) := ⟨_, rfl⟩
    replace hv := hv M5 eM5
    refine am_xc t_Mo_mixes (.invokevirtual 336) 336 (av := [.ref 58, .long (zl r3)]) (rest := []) (rv := none) (M' := M5) rfl rfl rfl rfl (Nat.le_of_ble_eq_true rfl) (fun _ => rfl) (by rw [eM5]; exact sp_mixes M2 r3) ?_
    refine am_xn 0 (c1 := (73, [.ref 58, .int (zi x1), .int (zi x2), .int (zi x3), .int (zi x4)], [], M5)) rfl ?_
    refine am_xn 1 (c1 := (76, [.ref 58, .int (zi x1), .int (zi x2), .int (zi x3), .int (zi x4 + zi 1)], [], M5)) rfl ?_
    rw [zi_add]
    refine am_xn 1 (c1 := (54, [.ref 58, .int (zi x1), .int (zi x2), .int (zi x3), .int (zi (x4 + 1))], [], M5)) rfl ?_
    exact hv
  · replace hv := hv.2 h
    refine am_xn 2 (c1 := (82, [.ref 58, .int (zi x1), .int (zi x2), .int (zi x3), .int (zi 0)], [], M)) rfl ?_
    exact hv
set_option maxRecDepth 100000 in
theorem vc_mixesAmendment_82 (x1 : Int) (x2 : Int) (x3 : Int) (x4 : Int) (M : am_M) (Q : Option Value → am_M → Prop) (hv : (0 ≤ x3 ∧ x3 < 120 ∧ 0 ≤ (5 : Int) ∧ (5 : Int) < 12) ∧ ((zr x4) ∧ ((x4 < (pt (iv M 59) x3 5) → (0 ≤ x3 ∧ x3 < 120 ∧ 0 ≤ (6 + x4) ∧ (6 + x4) < 12) ∧ (∀ M2, M2 = zupl M 58 30 (31 * lv M 58 30 + (pt (iv M 59) x3 (6 + x4))) → am_x t_Mo_mixesAmendment (82, [.ref 58, .int (zi x1), .int (zi x2), .int (zi x3), .int (zi (x4 + 1))], [], M2) Q)) ∧ ((pt (iv M 59) x3 5) ≤ x4 → am_x t_Mo_mixesAmendment (36, [.ref 58, .int (zi x1), .int (zi x2), .int (zi (x3 + 1)), .null], [], M) Q)))) : am_x t_Mo_mixesAmendment (82, [.ref 58, .int (zi x1), .int (zi x2), .int (zi x3), .int (zi x4)], [], M) Q := by
  refine am_xn 4 (c1 := (87, [.ref 58, .int (zi x1), .int (zi x2), .int (zi x3), .int (zi x4)], [.int (zi 5), .int (zi x3), .ref 58, .int (zi x4)], M)) rfl ?_
  obtain ⟨g, hv⟩ := hv
  refine am_xc t_Mo_part (.invokevirtual 85) 85 (av := [.ref 58, .int (zi x3), .int (zi 5)]) (rest := [.int (zi x4)]) (rv := some (.int (zi (pt (iv M 59) x3 5)))) (M' := M) rfl rfl rfl rfl (Nat.le_of_ble_eq_true rfl) (fun _ => rfl) (sp_part M x3 5 g) ?_
  refine am_xn 0 (c1 := (90, [.ref 58, .int (zi x1), .int (zi x2), .int (zi x3), .int (zi x4)], [.int (zi (pt (iv M 59) x3 5)), .int (zi x4)], M)) rfl ?_
  obtain ⟨r1, hv⟩ := hv
  refine am_xn 1 (c1 := (if zi x4 < zi (pt (iv M 59) x3 5) then 93 else 114, [.ref 58, .int (zi x1), .int (zi x2), .int (zi x3), .int (zi x4)], [], M)) rfl (am_xlt r1 (iv_r _ 59 _) (fun h => ?_) (fun h => ?_))
  · replace hv := hv.1 h
    refine am_xiadd 6 6 x4 (pc := 101) (ls := [.ref 58, .int (zi x1), .int (zi x2), .int (zi x3), .int (zi x4)]) (st := [.int (zi x3), .ref 58, .ref 58]) rfl ?_
    obtain ⟨g, hv⟩ := hv
    refine am_xc t_Mo_part (.invokevirtual 85) 85 (av := [.ref 58, .int (zi x3), .int (zi (6 + x4))]) (rest := [.ref 58]) (rv := some (.int (zi (pt (iv M 59) x3 (6 + x4))))) (M' := M) rfl rfl rfl rfl (Nat.le_of_ble_eq_true rfl) (fun _ => rfl) (sp_part M x3 (6 + x4) g) ?_
    refine am_xn 0 (c1 := (104, [.ref 58, .int (zi x1), .int (zi x2), .int (zi x3), .int (zi x4)], [.int (zi (pt (iv M 59) x3 (6 + x4))), .ref 58], M)) rfl ?_
    refine am_xi2l 1 (pt (iv M 59) x3 (6 + x4)) (iv_r _ 59 _) (pc := 105) (ls := [.ref 58, .int (zi x1), .int (zi x2), .int (zi x3), .int (zi x4)]) (st := [.ref 58]) rfl ?_
    obtain ⟨M2, eM2⟩ : ∃ m, m = zupl M 58 30 (31 * lv M 58 30 + (pt (iv M 59) x3 (6 + x4))) := ⟨_, rfl⟩
    replace hv := hv M2 eM2
    refine am_xc t_Mo_mixes (.invokevirtual 336) 336 (av := [.ref 58, .long (zl (pt (iv M 59) x3 (6 + x4)))]) (rest := []) (rv := none) (M' := M2) rfl rfl rfl rfl (Nat.le_of_ble_eq_true rfl) (fun _ => rfl) (by rw [eM2]; exact sp_mixes M (pt (iv M 59) x3 (6 + x4))) ?_
    refine am_xn 0 (c1 := (108, [.ref 58, .int (zi x1), .int (zi x2), .int (zi x3), .int (zi x4)], [], M2)) rfl ?_
    refine am_xn 1 (c1 := (111, [.ref 58, .int (zi x1), .int (zi x2), .int (zi x3), .int (zi x4 + zi 1)], [], M2)) rfl ?_
    rw [zi_add]
    refine am_xn 1 (c1 := (82, [.ref 58, .int (zi x1), .int (zi x2), .int (zi x3), .int (zi (x4 + 1))], [], M2)) rfl ?_
    exact hv
  · replace hv := hv.2 h
    refine am_xn 1 (c1 := (117, [.ref 58, .int (zi x1), .int (zi x2), .int (zi x3 + zi 1), .int (zi x4)], [], M)) rfl ?_
    rw [zi_add]
    refine am_xn 1 (c1 := (36, [.ref 58, .int (zi x1), .int (zi x2), .int (zi (x3 + 1)), .int (zi x4)], [], M)) rfl ?_
    refine am_xf 4 ?_
    exact hv
set_option maxRecDepth 100000 in
theorem vc_mixesLaw  (M : am_M) (Q : Option Value → am_M → Prop) (hv : ∃ M1, am_call t_Mo_fullLaw [.ref 58] M none M1 ∧ (∃ (r3 : Int) (M2 : am_M), am_call t_Mo_inForce [.ref 58] M1 (some (.int (zi r3))) M2 ∧ (am_x t_Mo_mixesLaw (11, [.ref 58, .int (zi r3), .int (zi 0), .null, .null], [], M2) Q))) : am_x t_Mo_mixesLaw (0, am_ent (am_mL t_Mo_mixesLaw) [.ref 58], [], M) Q := by
  refine am_xn 0 (c1 := (0, [.ref 58, .null, .null, .null, .null], [], M)) rfl ?_
  refine am_xn 1 (c1 := (1, [.ref 58, .null, .null, .null, .null], [.ref 58], M)) rfl ?_
  obtain ⟨M1, hc, hv⟩ := hv
  refine am_xc t_Mo_fullLaw (.invokevirtual 242) 242 (av := [.ref 58]) (rest := []) (rv := none) (M' := M1) rfl rfl rfl rfl (Nat.le_of_ble_eq_true rfl) (fun _ => rfl) (hc) ?_
  refine am_xn 0 (c1 := (4, [.ref 58, .null, .null, .null, .null], [], M1)) rfl ?_
  refine am_xn 1 (c1 := (5, [.ref 58, .null, .null, .null, .null], [.ref 58], M1)) rfl ?_
  obtain ⟨r3, M2, hc, hv⟩ := hv
  refine am_xc t_Mo_inForce (.invokevirtual 257) 257 (av := [.ref 58]) (rest := []) (rv := some (.int (zi r3))) (M' := M2) rfl rfl rfl rfl (Nat.le_of_ble_eq_true rfl) (fun _ => rfl) (hc) ?_
  refine am_xn 0 (c1 := (8, [.ref 58, .null, .null, .null, .null], [.int (zi r3)], M2)) rfl ?_
  refine am_xn 3 (c1 := (11, [.ref 58, .int (zi r3), .int (zi 0), .null, .null], [], M2)) rfl ?_
  exact hv
set_option maxRecDepth 100000 in
theorem vc_mixesLaw_11 (x1 : Int) (x2 : Int) (M : am_M) (Q : Option Value → am_M → Prop) (hv : (zr x2) ∧ ((zr x1) ∧ ((x2 < x1 → ∃ (r4 : Int) (M3 : am_M), am_call t_Mo_atIndex [.ref 58, .int (zi x2)] M (some (.int (zi r4))) M3 ∧ (am_x t_Mo_mixesLaw (25, [.ref 58, .int (zi x1), .int (zi x2), .int (zi r4), .int (zi 0)], [], M3) Q)) ∧ (x1 ≤ x2 → Q none M)))) : am_x t_Mo_mixesLaw (11, [.ref 58, .int (zi x1), .int (zi x2), .null, .null], [], M) Q := by
  obtain ⟨r1, hv⟩ := hv
  obtain ⟨r2, hv⟩ := hv
  refine am_xn 3 (c1 := (if zi x2 < zi x1 then 16 else 87, [.ref 58, .int (zi x1), .int (zi x2), .null, .null], [], M)) rfl (am_xlt r1 r2 (fun h => ?_) (fun h => ?_))
  · replace hv := hv.1 h
    refine am_xn 2 (c1 := (18, [.ref 58, .int (zi x1), .int (zi x2), .null, .null], [.int (zi x2), .ref 58], M)) rfl ?_
    obtain ⟨r4, M3, hc, hv⟩ := hv
    refine am_xc t_Mo_atIndex (.invokevirtual 260) 260 (av := [.ref 58, .int (zi x2)]) (rest := []) (rv := some (.int (zi r4))) (M' := M3) rfl rfl rfl rfl (Nat.le_of_ble_eq_true rfl) (fun _ => rfl) (hc) ?_
    refine am_xn 0 (c1 := (21, [.ref 58, .int (zi x1), .int (zi x2), .null, .null], [.int (zi r4)], M3)) rfl ?_
    refine am_xn 3 (c1 := (25, [.ref 58, .int (zi x1), .int (zi x2), .int (zi r4), .int (zi 0)], [], M3)) rfl ?_
    exact hv
  · replace hv := hv.2 h
    exact am_xr none ⟨rfl, rfl, rfl⟩ hv
set_option maxRecDepth 100000 in
theorem vc_mixesLaw_25 (x1 : Int) (x2 : Int) (x3 : Int) (x4 : Int) (M : am_M) (Q : Option Value → am_M → Prop) (hv : (zr x4) ∧ ((x4 < 4 → ∃ (r3 : Int) (M2 : am_M), am_call t_Mo_about [.ref 58, .int (zi x3), .int (zi x4)] M (some (.int (zi r3))) M2 ∧ ((zr r3) ∧ (∀ M5, M5 = zupl M2 58 30 (31 * lv M2 58 30 + r3) → am_x t_Mo_mixesLaw (25, [.ref 58, .int (zi x1), .int (zi x2), .int (zi x3), .int (zi (x4 + 1))], [], M5) Q))) ∧ (4 ≤ x4 → am_x t_Mo_mixesLaw (52, [.ref 58, .int (zi x1), .int (zi x2), .int (zi x3), .int (zi 0)], [], M) Q))) : am_x t_Mo_mixesLaw (25, [.ref 58, .int (zi x1), .int (zi x2), .int (zi x3), .int (zi x4)], [], M) Q := by
  obtain ⟨r1, hv⟩ := hv
  refine am_xn 3 (c1 := (if zi x4 < zi 4 then 31 else 49, [.ref 58, .int (zi x1), .int (zi x2), .int (zi x3), .int (zi x4)], [], M)) rfl (am_xlt r1 (by decide) (fun h => ?_) (fun h => ?_))
  · replace hv := hv.1 h
    refine am_xn 4 (c1 := (36, [.ref 58, .int (zi x1), .int (zi x2), .int (zi x3), .int (zi x4)], [.int (zi x4), .int (zi x3), .ref 58, .ref 58], M)) rfl ?_
    obtain ⟨r3, M2, hc, hv⟩ := hv
    refine am_xc t_Mo_about (.invokevirtual 263) 263 (av := [.ref 58, .int (zi x3), .int (zi x4)]) (rest := [.ref 58]) (rv := some (.int (zi r3))) (M' := M2) rfl rfl rfl rfl (Nat.le_of_ble_eq_true rfl) (fun _ => rfl) (hc) ?_
    refine am_xn 0 (c1 := (39, [.ref 58, .int (zi x1), .int (zi x2), .int (zi x3), .int (zi x4)], [.int (zi r3), .ref 58], M2)) rfl ?_
    obtain ⟨r4, hv⟩ := hv
    refine am_xi2l 1 r3 r4 (pc := 40) (ls := [.ref 58, .int (zi x1), .int (zi x2), .int (zi x3), .int (zi x4)]) (st := [.ref 58]) rfl ?_
    obtain ⟨M5, eM5⟩ : ∃ m, m = zupl M2 58 30 (31 * lv M2 58 30 + r3) := ⟨_, rfl⟩
    replace hv := hv M5 eM5
    refine am_xc t_Mo_mixes (.invokevirtual 336) 336 (av := [.ref 58, .long (zl r3)]) (rest := []) (rv := none) (M' := M5) rfl rfl rfl rfl (Nat.le_of_ble_eq_true rfl) (fun _ => rfl) (by rw [eM5]; exact sp_mixes M2 r3) ?_
    refine am_xn 0 (c1 := (43, [.ref 58, .int (zi x1), .int (zi x2), .int (zi x3), .int (zi x4)], [], M5)) rfl ?_
    refine am_xn 1 (c1 := (46, [.ref 58, .int (zi x1), .int (zi x2), .int (zi x3), .int (zi x4 + zi 1)], [], M5)) rfl ?_
    rw [zi_add]
    refine am_xn 1 (c1 := (25, [.ref 58, .int (zi x1), .int (zi x2), .int (zi x3), .int (zi (x4 + 1))], [], M5)) rfl ?_
    exact hv
  · replace hv := hv.2 h
    refine am_xn 2 (c1 := (52, [.ref 58, .int (zi x1), .int (zi x2), .int (zi x3), .int (zi 0)], [], M)) rfl ?_
    exact hv
set_option maxRecDepth 100000 in
theorem vc_mixesLaw_52 (x1 : Int) (x2 : Int) (x3 : Int) (x4 : Int) (M : am_M) (Q : Option Value → am_M → Prop) (hv : (0 ≤ x3 ∧ x3 < 40) ∧ ((zr x4) ∧ ((x4 < (iv M 66 x3) → ∃ (r4 : Int) (M3 : am_M), am_call t_Mo_toldWord [.ref 58, .int (zi x3), .int (zi x4)] M (some (.int (zi r4))) M3 ∧ ((zr r4) ∧ (∀ M6, M6 = zupl M3 58 30 (31 * lv M3 58 30 + r4) → am_x t_Mo_mixesLaw (52, [.ref 58, .int (zi x1), .int (zi x2), .int (zi x3), .int (zi (x4 + 1))], [], M6) Q))) ∧ ((iv M 66 x3) ≤ x4 → am_x t_Mo_mixesLaw (11, [.ref 58, .int (zi x1), .int (zi (x2 + 1)), .null, .null], [], M) Q)))) : am_x t_Mo_mixesLaw (52, [.ref 58, .int (zi x1), .int (zi x2), .int (zi x3), .int (zi x4)], [], M) Q := by
  obtain ⟨r1, hv⟩ := hv
  refine am_xn 4 (c1 := (59, [.ref 58, .int (zi x1), .int (zi x2), .int (zi x3), .int (zi x4)], [.int (zi x3), .ref 66, .int (zi x4)], M)) rfl ?_
  refine am_xald rfl rfl rfl r1 ?_
  refine am_xn 0 (c1 := (60, [.ref 58, .int (zi x1), .int (zi x2), .int (zi x3), .int (zi x4)], [.int (zi (iv M 66 x3)), .int (zi x4)], M)) rfl ?_
  obtain ⟨r2, hv⟩ := hv
  refine am_xn 1 (c1 := (if zi x4 < zi (iv M 66 x3) then 63 else 81, [.ref 58, .int (zi x1), .int (zi x2), .int (zi x3), .int (zi x4)], [], M)) rfl (am_xlt r2 (iv_r _ _ _) (fun h => ?_) (fun h => ?_))
  · replace hv := hv.1 h
    refine am_xn 4 (c1 := (68, [.ref 58, .int (zi x1), .int (zi x2), .int (zi x3), .int (zi x4)], [.int (zi x4), .int (zi x3), .ref 58, .ref 58], M)) rfl ?_
    obtain ⟨r4, M3, hc, hv⟩ := hv
    refine am_xc t_Mo_toldWord (.invokevirtual 266) 266 (av := [.ref 58, .int (zi x3), .int (zi x4)]) (rest := [.ref 58]) (rv := some (.int (zi r4))) (M' := M3) rfl rfl rfl rfl (Nat.le_of_ble_eq_true rfl) (fun _ => rfl) (hc) ?_
    refine am_xn 0 (c1 := (71, [.ref 58, .int (zi x1), .int (zi x2), .int (zi x3), .int (zi x4)], [.int (zi r4), .ref 58], M3)) rfl ?_
    obtain ⟨r5, hv⟩ := hv
    refine am_xi2l 1 r4 r5 (pc := 72) (ls := [.ref 58, .int (zi x1), .int (zi x2), .int (zi x3), .int (zi x4)]) (st := [.ref 58]) rfl ?_
    obtain ⟨M6, eM6⟩ : ∃ m, m = zupl M3 58 30 (31 * lv M3 58 30 + r4) := ⟨_, rfl⟩
    replace hv := hv M6 eM6
    refine am_xc t_Mo_mixes (.invokevirtual 336) 336 (av := [.ref 58, .long (zl r4)]) (rest := []) (rv := none) (M' := M6) rfl rfl rfl rfl (Nat.le_of_ble_eq_true rfl) (fun _ => rfl) (by rw [eM6]; exact sp_mixes M3 r4) ?_
    refine am_xn 0 (c1 := (75, [.ref 58, .int (zi x1), .int (zi x2), .int (zi x3), .int (zi x4)], [], M6)) rfl ?_
    refine am_xn 1 (c1 := (78, [.ref 58, .int (zi x1), .int (zi x2), .int (zi x3), .int (zi x4 + zi 1)], [], M6)) rfl ?_
    rw [zi_add]
    refine am_xn 1 (c1 := (52, [.ref 58, .int (zi x1), .int (zi x2), .int (zi x3), .int (zi (x4 + 1))], [], M6)) rfl ?_
    exact hv
  · replace hv := hv.2 h
    refine am_xn 1 (c1 := (84, [.ref 58, .int (zi x1), .int (zi x2 + zi 1), .int (zi x3), .int (zi x4)], [], M)) rfl ?_
    rw [zi_add]
    refine am_xn 1 (c1 := (11, [.ref 58, .int (zi x1), .int (zi (x2 + 1)), .int (zi x3), .int (zi x4)], [], M)) rfl ?_
    refine am_xf 3 ?_
    refine am_xf 4 ?_
    exact hv
set_option maxRecDepth 100000 in
theorem vc_m_digest  (M : am_M) (Q : Option Value → am_M → Prop) (hv : ∀ M1, M1 = zupl M 58 30 311 → am_x t_Mo_digest (9, [.ref 58, .int (zi 0)], [], M1) Q) : am_x t_Mo_digest (0, am_ent (am_mL t_Mo_digest) [.ref 58], [], M) Q := by
  refine am_xn 0 (c1 := (0, [.ref 58, .null], [], M)) rfl ?_
  refine am_xn 3 (c1 := (7, [.ref 58, .null], [], zupl M 58 30 311)) rfl ?_
  obtain ⟨M1, eM1⟩ : ∃ m, m = zupl M 58 30 311 := ⟨_, rfl⟩
  replace hv := hv M1 eM1
  rw [← eM1]
  refine am_xn 2 (c1 := (9, [.ref 58, .int (zi 0)], [], M1)) rfl ?_
  exact hv
set_option maxRecDepth 100000 in
theorem vc_m_digest_9 (x1 : Int) (M : am_M) (Q : Option Value → am_M → Prop) (hv : (zr x1) ∧ ((x1 < 9 → ∃ (r3 : Int) (M2 : am_M), am_call t_Mo_count [.ref 58, .int (zi x1)] M (some (.int (zi r3))) M2 ∧ ((zr r3) ∧ (∀ M5, M5 = zupl M2 58 30 (31 * lv M2 58 30 + r3) → am_x t_Mo_digest (9, [.ref 58, .int (zi (x1 + 1))], [], M5) Q))) ∧ (9 ≤ x1 → am_x t_Mo_digest (33, [.ref 58, .int (zi 0)], [], M) Q))) : am_x t_Mo_digest (9, [.ref 58, .int (zi x1)], [], M) Q := by
  obtain ⟨r1, hv⟩ := hv
  refine am_xn 3 (c1 := (if zi x1 < zi 9 then 15 else 31, [.ref 58, .int (zi x1)], [], M)) rfl (am_xlt r1 (by decide) (fun h => ?_) (fun h => ?_))
  · replace hv := hv.1 h
    refine am_xn 3 (c1 := (18, [.ref 58, .int (zi x1)], [.int (zi x1), .ref 58, .ref 58], M)) rfl ?_
    obtain ⟨r3, M2, hc, hv⟩ := hv
    refine am_xc t_Mo_count (.invokevirtual 341) 341 (av := [.ref 58, .int (zi x1)]) (rest := [.ref 58]) (rv := some (.int (zi r3))) (M' := M2) rfl rfl rfl rfl (Nat.le_of_ble_eq_true rfl) (fun _ => rfl) (hc) ?_
    refine am_xn 0 (c1 := (21, [.ref 58, .int (zi x1)], [.int (zi r3), .ref 58], M2)) rfl ?_
    obtain ⟨r4, hv⟩ := hv
    refine am_xi2l 1 r3 r4 (pc := 22) (ls := [.ref 58, .int (zi x1)]) (st := [.ref 58]) rfl ?_
    obtain ⟨M5, eM5⟩ : ∃ m, m = zupl M2 58 30 (31 * lv M2 58 30 + r3) := ⟨_, rfl⟩
    replace hv := hv M5 eM5
    refine am_xc t_Mo_mixes (.invokevirtual 336) 336 (av := [.ref 58, .long (zl r3)]) (rest := []) (rv := none) (M' := M5) rfl rfl rfl rfl (Nat.le_of_ble_eq_true rfl) (fun _ => rfl) (by rw [eM5]; exact sp_mixes M2 r3) ?_
    refine am_xn 0 (c1 := (25, [.ref 58, .int (zi x1)], [], M5)) rfl ?_
    refine am_xn 1 (c1 := (28, [.ref 58, .int (zi x1 + zi 1)], [], M5)) rfl ?_
    rw [zi_add]
    refine am_xn 1 (c1 := (9, [.ref 58, .int (zi (x1 + 1))], [], M5)) rfl ?_
    exact hv
  · replace hv := hv.2 h
    refine am_xn 2 (c1 := (33, [.ref 58, .int (zi 0)], [], M)) rfl ?_
    exact hv
set_option maxRecDepth 100000 in
theorem vc_m_digest_33 (x1 : Int) (M : am_M) (Q : Option Value → am_M → Prop) (hv : (zr x1) ∧ ((x1 < (iv M 59 0) → ∃ M2, am_call t_Mo_mixesAmendment [.ref 58, .int (zi x1)] M none M2 ∧ (am_x t_Mo_digest (33, [.ref 58, .int (zi (x1 + 1))], [], M2) Q)) ∧ ((iv M 59 0) ≤ x1 → ∃ M3, am_call t_Mo_mixesLaw [.ref 58] M none M3 ∧ (am_x t_Mo_digest (60, [.ref 58, .int (zi 0)], [], M3) Q)))) : am_x t_Mo_digest (33, [.ref 58, .int (zi x1)], [], M) Q := by
  refine am_xrd 5 59 0 (pc := 40) (ls := [.ref 58, .int (zi x1)]) (st := [.int (zi x1)]) rfl ?_
  obtain ⟨r1, hv⟩ := hv
  refine am_xn 1 (c1 := (if zi x1 < zi (iv M 59 0) then 43 else 54, [.ref 58, .int (zi x1)], [], M)) rfl (am_xlt r1 (iv_r _ _ _) (fun h => ?_) (fun h => ?_))
  · replace hv := hv.1 h
    refine am_xn 2 (c1 := (45, [.ref 58, .int (zi x1)], [.int (zi x1), .ref 58], M)) rfl ?_
    obtain ⟨M2, hc, hv⟩ := hv
    refine am_xc t_Mo_mixesAmendment (.invokevirtual 344) 344 (av := [.ref 58, .int (zi x1)]) (rest := []) (rv := none) (M' := M2) rfl rfl rfl rfl (Nat.le_of_ble_eq_true rfl) (fun _ => rfl) (hc) ?_
    refine am_xn 0 (c1 := (48, [.ref 58, .int (zi x1)], [], M2)) rfl ?_
    refine am_xn 1 (c1 := (51, [.ref 58, .int (zi x1 + zi 1)], [], M2)) rfl ?_
    rw [zi_add]
    refine am_xn 1 (c1 := (33, [.ref 58, .int (zi (x1 + 1))], [], M2)) rfl ?_
    exact hv
  · replace hv := hv.2 h
    refine am_xn 1 (c1 := (55, [.ref 58, .int (zi x1)], [.ref 58], M)) rfl ?_
    obtain ⟨M3, hc, hv⟩ := hv
    refine am_xc t_Mo_mixesLaw (.invokevirtual 347) 347 (av := [.ref 58]) (rest := []) (rv := none) (M' := M3) rfl rfl rfl rfl (Nat.le_of_ble_eq_true rfl) (fun _ => rfl) (hc) ?_
    refine am_xn 0 (c1 := (58, [.ref 58, .int (zi x1)], [], M3)) rfl ?_
    refine am_xn 2 (c1 := (60, [.ref 58, .int (zi 0)], [], M3)) rfl ?_
    exact hv
set_option maxRecDepth 100000 in
theorem vc_m_digest_60 (x1 : Int) (M : am_M) (Q : Option Value → am_M → Prop) (hv : (zr x1) ∧ ((x1 < 7 → ∃ (r3 : Int) (M2 : am_M), am_call t_Mo_tally [.ref 58, .int (zi x1)] M (some (.int (zi r3))) M2 ∧ ((zr r3) ∧ (∀ M5, M5 = zupl M2 58 30 (31 * lv M2 58 30 + r3) → am_x t_Mo_digest (60, [.ref 58, .int (zi (x1 + 1))], [], M5) Q))) ∧ (7 ≤ x1 → am_x t_Mo_digest (84, [.ref 58, .int (zi 0)], [], M) Q))) : am_x t_Mo_digest (60, [.ref 58, .int (zi x1)], [], M) Q := by
  obtain ⟨r1, hv⟩ := hv
  refine am_xn 3 (c1 := (if zi x1 < zi 7 then 66 else 82, [.ref 58, .int (zi x1)], [], M)) rfl (am_xlt r1 (by decide) (fun h => ?_) (fun h => ?_))
  · replace hv := hv.1 h
    refine am_xn 3 (c1 := (69, [.ref 58, .int (zi x1)], [.int (zi x1), .ref 58, .ref 58], M)) rfl ?_
    obtain ⟨r3, M2, hc, hv⟩ := hv
    refine am_xc t_Mo_tally (.invokevirtual 350) 350 (av := [.ref 58, .int (zi x1)]) (rest := [.ref 58]) (rv := some (.int (zi r3))) (M' := M2) rfl rfl rfl rfl (Nat.le_of_ble_eq_true rfl) (fun _ => rfl) (hc) ?_
    refine am_xn 0 (c1 := (72, [.ref 58, .int (zi x1)], [.int (zi r3), .ref 58], M2)) rfl ?_
    obtain ⟨r4, hv⟩ := hv
    refine am_xi2l 1 r3 r4 (pc := 73) (ls := [.ref 58, .int (zi x1)]) (st := [.ref 58]) rfl ?_
    obtain ⟨M5, eM5⟩ : ∃ m, m = zupl M2 58 30 (31 * lv M2 58 30 + r3) := ⟨_, rfl⟩
    replace hv := hv M5 eM5
    refine am_xc t_Mo_mixes (.invokevirtual 336) 336 (av := [.ref 58, .long (zl r3)]) (rest := []) (rv := none) (M' := M5) rfl rfl rfl rfl (Nat.le_of_ble_eq_true rfl) (fun _ => rfl) (by rw [eM5]; exact sp_mixes M2 r3) ?_
    refine am_xn 0 (c1 := (76, [.ref 58, .int (zi x1)], [], M5)) rfl ?_
    refine am_xn 1 (c1 := (79, [.ref 58, .int (zi x1 + zi 1)], [], M5)) rfl ?_
    rw [zi_add]
    refine am_xn 1 (c1 := (60, [.ref 58, .int (zi (x1 + 1))], [], M5)) rfl ?_
    exact hv
  · replace hv := hv.2 h
    refine am_xn 2 (c1 := (84, [.ref 58, .int (zi 0)], [], M)) rfl ?_
    exact hv
set_option maxRecDepth 100000 in
theorem vc_m_digest_84 (x1 : Int) (M : am_M) (Q : Option Value → am_M → Prop) (hv : (zr x1) ∧ ((x1 < (iv M 58 23) → (0 ≤ x1 ∧ x1 < 1000) ∧ (∀ M3, M3 = zupl M 58 30 (31 * lv M 58 30 + (iv M 75 x1)) → am_x t_Mo_digest (84, [.ref 58, .int (zi (x1 + 1))], [], M3) Q)) ∧ ((iv M 58 23) ≤ x1 → am_x t_Mo_digest (111, [.ref 58, .int (zi 0)], [], M) Q))) : am_x t_Mo_digest (84, [.ref 58, .int (zi x1)], [], M) Q := by
  refine am_xrd 3 58 23 (pc := 89) (ls := [.ref 58, .int (zi x1)]) (st := [.int (zi x1)]) rfl ?_
  obtain ⟨r1, hv⟩ := hv
  refine am_xn 1 (c1 := (if zi x1 < zi (iv M 58 23) then 92 else 109, [.ref 58, .int (zi x1)], [], M)) rfl (am_xlt r1 (iv_r _ _ _) (fun h => ?_) (fun h => ?_))
  · replace hv := hv.1 h
    obtain ⟨r2, hv⟩ := hv
    refine am_xn 4 (c1 := (98, [.ref 58, .int (zi x1)], [.int (zi x1), .ref 75, .ref 58], M)) rfl ?_
    refine am_xald rfl rfl rfl r2 ?_
    refine am_xn 0 (c1 := (99, [.ref 58, .int (zi x1)], [.int (zi (iv M 75 x1)), .ref 58], M)) rfl ?_
    refine am_xi2l 1 (iv M 75 x1) (iv_r _ _ _) (pc := 100) (ls := [.ref 58, .int (zi x1)]) (st := [.ref 58]) rfl ?_
    obtain ⟨M3, eM3⟩ : ∃ m, m = zupl M 58 30 (31 * lv M 58 30 + (iv M 75 x1)) := ⟨_, rfl⟩
    replace hv := hv M3 eM3
    refine am_xc t_Mo_mixes (.invokevirtual 336) 336 (av := [.ref 58, .long (zl (iv M 75 x1))]) (rest := []) (rv := none) (M' := M3) rfl rfl rfl rfl (Nat.le_of_ble_eq_true rfl) (fun _ => rfl) (by rw [eM3]; exact sp_mixes M (iv M 75 x1)) ?_
    refine am_xn 0 (c1 := (103, [.ref 58, .int (zi x1)], [], M3)) rfl ?_
    refine am_xn 1 (c1 := (106, [.ref 58, .int (zi x1 + zi 1)], [], M3)) rfl ?_
    rw [zi_add]
    refine am_xn 1 (c1 := (84, [.ref 58, .int (zi (x1 + 1))], [], M3)) rfl ?_
    exact hv
  · replace hv := hv.2 h
    refine am_xn 2 (c1 := (111, [.ref 58, .int (zi 0)], [], M)) rfl ?_
    exact hv
set_option maxRecDepth 100000 in
theorem vc_m_digest_111 (x1 : Int) (M : am_M) (Q : Option Value → am_M → Prop) (hv : (zr x1) ∧ ((x1 < (iv M 58 17) → (0 ≤ x1 ∧ x1 < 120) ∧ (∀ M3, M3 = zupl M 58 30 (31 * lv M 58 30 + (iv M 73 x1)) → am_x t_Mo_digest (111, [.ref 58, .int (zi (x1 + 1))], [], M3) Q)) ∧ ((iv M 58 17) ≤ x1 → Q (some (.long (zl (lv M 58 30)))) M))) : am_x t_Mo_digest (111, [.ref 58, .int (zi x1)], [], M) Q := by
  refine am_xrd 3 58 17 (pc := 116) (ls := [.ref 58, .int (zi x1)]) (st := [.int (zi x1)]) rfl ?_
  obtain ⟨r1, hv⟩ := hv
  refine am_xn 1 (c1 := (if zi x1 < zi (iv M 58 17) then 119 else 136, [.ref 58, .int (zi x1)], [], M)) rfl (am_xlt r1 (iv_r _ _ _) (fun h => ?_) (fun h => ?_))
  · replace hv := hv.1 h
    obtain ⟨r2, hv⟩ := hv
    refine am_xn 4 (c1 := (125, [.ref 58, .int (zi x1)], [.int (zi x1), .ref 73, .ref 58], M)) rfl ?_
    refine am_xald rfl rfl rfl r2 ?_
    refine am_xn 0 (c1 := (126, [.ref 58, .int (zi x1)], [.int (zi (iv M 73 x1)), .ref 58], M)) rfl ?_
    refine am_xi2l 1 (iv M 73 x1) (iv_r _ _ _) (pc := 127) (ls := [.ref 58, .int (zi x1)]) (st := [.ref 58]) rfl ?_
    obtain ⟨M3, eM3⟩ : ∃ m, m = zupl M 58 30 (31 * lv M 58 30 + (iv M 73 x1)) := ⟨_, rfl⟩
    replace hv := hv M3 eM3
    refine am_xc t_Mo_mixes (.invokevirtual 336) 336 (av := [.ref 58, .long (zl (iv M 73 x1))]) (rest := []) (rv := none) (M' := M3) rfl rfl rfl rfl (Nat.le_of_ble_eq_true rfl) (fun _ => rfl) (by rw [eM3]; exact sp_mixes M (iv M 73 x1)) ?_
    refine am_xn 0 (c1 := (130, [.ref 58, .int (zi x1)], [], M3)) rfl ?_
    refine am_xn 1 (c1 := (133, [.ref 58, .int (zi x1 + zi 1)], [], M3)) rfl ?_
    rw [zi_add]
    refine am_xn 1 (c1 := (111, [.ref 58, .int (zi (x1 + 1))], [], M3)) rfl ?_
    exact hv
  · replace hv := hv.2 h
    refine am_xlrd 2 58 30 (pc := 140) (ls := [.ref 58, .int (zi x1)]) (st := []) rfl ?_
    exact am_xr (some (.long (zl (lv M 58 30)))) ⟨rfl, rfl, rfl⟩ hv
theorem sp_mixesAmendment {M0 M : am_M} {b : Int → Int} (eb : iv M0 59 = b) (w : WB b) {H : Int} (g : DG M0 H M) {a : Int} (a0 : 0 ≤ a) (a1 : a < b 0) : ∃ M', am_call t_Mo_mixesAmendment [.ref 58, .int (zi a)] M none M' ∧ DG M0 (hAm b a H) M' := by
  have n1 := w.n1
  have ws := w.sz a a0 a1
  have f0 := w.fo_nn (n := a) (by omega)
  have f1 := fo_s b a0
  have f2 := w.fo_le (n := a + 1) (by omega) (by omega)
  have wt := w.tot
  have r59 : ∀ s H, DG M0 H s → iv s 59 = b := fun s H d => by rw [iv_row (d.1.1 59 (by decide) (by decide)), eb]
  suffices hh : am_x t_Mo_mixesAmendment (0, am_ent (am_mL t_Mo_mixesAmendment) [.ref 58, .int (zi a)], [], M) (fun rv M' => rv = none ∧ DG M0 (hAm b a H) M') by
    obtain ⟨rv, M', c1, c2, c3⟩ := am_call_ex (by exact ⟨Nat.le_of_ble_eq_true rfl, rfl⟩) hh
    subst c2
    exact ⟨M', c1, c3⟩
  refine vc_mixesAmendment a M _ ?_
  refine loop_up (fun i (s : am_M) => (2, [.ref 58, .int (zi a), .int (zi i), .null, .null], [], s)) 4 (fun i s => DG M0 (hX (amdv b a) i H) s) ?_ ?_ 0 M (by omega) (by omega) g
  · intro s hs
    have e := r59 s _ hs
    obtain ⟨s2, m1, m2, m3⟩ := sp_fullLaw s (by rw [e]; exact w)
    rw [e] at m3
    have hs2 := dg_lf hs m2
    have e2 := r59 s2 _ hs2
    refine vc_mixesAmendment_2 _ _ s _ ⟨by decide, fun q => by omega, fun _ => ⟨s2, m1, ⟨a0, by omega⟩, ?_⟩⟩
    rw [e2]
    refine loop_up (fun i (s : am_M) => (36, [.ref 58, .int (zi a), .int (zi (fo b a)), .int (zi i), .null], [], s)) (fo b (a + 1)) (fun i s => fo b a ≤ i ∧ DG M0 (fdI (fun i h => hOp b (fo b a + i) h) (i - fo b a) (hX (amdv b a) 4 H)) s ∧ MLR (lw b 9999 (-1)) s) ?_ ?_ (fo b a) s2 f0 (by omega) ⟨Int.le_refl _, by rw [Int.sub_self]; exact hs2, m3⟩
    · intro s ⟨_, hs, _⟩
      have e := r59 s _ hs
      refine vc_mixesAmendment_36 _ _ _ s _ ⟨⟨by omega, by omega⟩, ⟨by omega, by omega⟩, by rw [e]; exact ⟨by omega, by omega⟩, fun q => ?_, fun _ => ⟨rfl, ?_⟩⟩
      · rw [e] at q; omega
      · rw [show fo b (a + 1) - fo b a = b (41 + a) by omega] at hs; exact hs
    · intro i s i0 i1 ⟨i2, hs, ml⟩ k
      have wl := (w.op i i0 (by omega)).ln
      have e := r59 s _ hs
      refine vc_mixesAmendment_36 _ _ _ s _ ⟨⟨by omega, by omega⟩, ⟨by omega, by omega⟩, by rw [e]; exact ⟨by omega, by omega⟩, fun _ => ?_, fun q => by rw [e] at q; omega⟩
      obtain ⟨h, eh⟩ : ∃ h, h = fdI (fun i h => hOp b (fo b a + i) h) (i - fo b a) (hX (amdv b a) 4 H) := ⟨_, rfl⟩
      rw [← eh] at hs
      refine loop_up (fun j (s : am_M) => (54, [.ref 58, .int (zi a), .int (zi (fo b a)), .int (zi i), .int (zi j)], [], s)) 9 (fun j s => DG M0 (hX (tdv b i) j h) s ∧ MLR (lw b 9999 (-1)) s) ?_ ?_ 0 s (by omega) (by omega) ⟨hs, ml⟩
      · intro s ⟨hs, ml⟩
        refine vc_mixesAmendment_54 _ _ _ _ s _ ⟨by decide, fun q => by omega, fun _ => ?_⟩
        refine loop_up (fun j (s : am_M) => (82, [.ref 58, .int (zi a), .int (zi (fo b a)), .int (zi i), .int (zi j)], [], s)) (pt b i 5) (fun j s => DG M0 (hX (fun k => pt b i (6 + k)) j (hX (tdv b i) 9 h)) s ∧ MLR (lw b 9999 (-1)) s) ?_ ?_ 0 s (by omega) wl.1 ⟨hs, ml⟩
        · intro s ⟨hs, ml⟩
          have e := r59 s _ hs
          refine vc_mixesAmendment_82 _ _ _ _ s _ ⟨⟨i0, by omega, by decide, by decide⟩, ⟨by omega, by omega⟩, fun q => by rw [e] at q; omega, fun _ => k _ ⟨by omega, ?_, ml⟩⟩
          rw [show i + 1 - fo b a = (i - fo b a) + 1 by omega, fdI_s _ (by omega), ← eh, show fo b a + (i - fo b a) = i by omega]
          exact hs
        · intro j s j0 j1 ⟨hs, ml⟩ k2
          have e := r59 s _ hs
          refine vc_mixesAmendment_82 _ _ _ _ s _ ⟨⟨i0, by omega, by decide, by decide⟩, ⟨by omega, by omega⟩, fun _ => ⟨⟨i0, by omega, by omega, by omega⟩, fun M2 e2 => k2 M2 ⟨?_, mlr_mix ml e2⟩⟩, fun q => by rw [e] at q; omega⟩
          have ez : wz (pt (iv s 59) i (6 + j)) = pt (iv s 59) i (6 + j) := wz_e (iv_r s 59 _)
          rw [hX_s _ j0]
          have := dg_mix _ hs e2
          rw [← ez, e] at this
          exact this
      · intro j s j0 j1 ⟨hs, ml⟩ k2
        have e := r59 s _ hs
        have tl := sp_told (M := s) (by rw [e]; exact w) (by rw [e]; exact ml) i0 (by rw [e]; omega) (x := j) ⟨j0, by omega⟩
        rw [e] at tl
        exact vc_mixesAmendment_54 _ _ _ _ s _ ⟨⟨by omega, by omega⟩, fun _ => ⟨wz (tdv b i j), s, by rw [zi_wz]; exact tl, wz_r _, fun M5 e5 => k2 M5 ⟨by rw [hX_s _ j0]; exact dg_mix _ hs e5, mlr_mix ml e5⟩⟩, fun q => by omega⟩
  · intro i s i0 i1 hs k
    have e := r59 s _ hs
    obtain ⟨s2, m1, m2⟩ := sp_m_amendment (M := s) (by rw [e]; exact w) a0 (by rw [e]; exact a1) (x := i) ⟨i0, by omega⟩
    rw [e] at m1
    exact vc_mixesAmendment_2 _ _ s _ ⟨⟨by omega, by omega⟩, fun _ => ⟨wz (amdv b a i), s2, by rw [zi_wz]; exact m1, wz_r _, fun M5 e5 => k M5 (by rw [hX_s _ i0]; exact dg_mix _ (dg_lf hs m2) e5)⟩, fun q => by omega⟩
theorem sp_mixesLaw {M0 M : am_M} {b : Int → Int} (eb : iv M0 59 = b) (w : WB b) (ha : ∀ i, 0 ≤ i → i < frc (lw b 9999 (-1)) 40 → 0 ≤ atx (lw b 9999 (-1)) i ∧ atx (lw b 9999 (-1)) i < 40 ∧ ¬ (lw b 9999 (-1)).code (atx (lw b 9999 (-1)) i) = 0) {H : Int} (g : DG M0 H M) : ∃ M', am_call t_Mo_mixesLaw [.ref 58] M none M' ∧ DG M0 (hLw (lw b 9999 (-1)) H) M' := by
  have r59 : ∀ s H, DG M0 H s → iv s 59 = b := fun s H d => by rw [iv_row (d.1.1 59 (by decide) (by decide)), eb]
  have v := lw_VL w 9999 (-1)
  have e := r59 M _ g
  obtain ⟨s2, m1, m2, m3⟩ := sp_fullLaw M (by rw [e]; exact w)
  rw [e] at m3
  have hs2 := dg_lf g m2
  unfold hLw
  generalize lw b 9999 (-1) = L at *
  have f40 := frc40 L
  suffices hh : am_x t_Mo_mixesLaw (0, am_ent (am_mL t_Mo_mixesLaw) [.ref 58], [], M) (fun rv M' => rv = none ∧ DG M0 (fdI (fun i h => hCl L (atx L i) h) (frc L 40) H) M') by
    obtain ⟨rv, M', c1, c2, c3⟩ := am_call_ex (by exact ⟨Nat.le_of_ble_eq_true rfl, rfl⟩) hh
    subst c2
    exact ⟨M', c1, c3⟩
  refine vc_mixesLaw M _ ⟨s2, m1, _, s2, sp_inForce m3, ?_⟩
  refine loop_up (fun i (s : am_M) => (11, [.ref 58, .int (zi (frc L 40)), .int (zi i), .null, .null], [], s)) (frc L 40) (fun i s => DG M0 (fdI (fun i h => hCl L (atx L i) h) i H) s ∧ MLR L s) ?_ ?_ 0 s2 (by omega) f40.1 ⟨hs2, m3⟩
  · intro s ⟨hs, ml⟩
    exact vc_mixesLaw_11 _ _ s _ ⟨⟨by omega, by omega⟩, ⟨by omega, by omega⟩, fun q => by omega, fun _ => ⟨rfl, hs⟩⟩
  · intro i s i0 i1 ⟨hs, ml⟩ k
    obtain ⟨c0, c1, n⟩ := ha i i0 i1
    have ai := sp_atIndex v ml (i := i) ⟨by omega, by omega⟩
    refine vc_mixesLaw_11 _ _ s _ ⟨⟨by omega, by omega⟩, ⟨by omega, by omega⟩, fun _ => ⟨_, s, ai, ?_⟩, fun q => by omega⟩
    obtain ⟨h, eh⟩ : ∃ h, h = fdI (fun i h => hCl L (atx L i) h) i H := ⟨_, rfl⟩
    have ks : ∀ s', DG M0 (hCl L (atx L i) h) s' ∧ MLR L s' → am_x t_Mo_mixesLaw (11, [.ref 58, .int (zi (frc L 40)), .int (zi (i + 1)), .null, .null], [], s') (fun rv M' => rv = none ∧ DG M0 (fdI (fun i h => hCl L (atx L i) h) (frc L 40) H) M') := fun s' h' => k s' (by rw [fdI_s _ i0, ← eh]; exact h')
    rw [← eh] at hs
    clear k
    generalize atx L i = c at *
    have ln := v.ln c c0 c1 n
    refine loop_up (fun j (s : am_M) => (25, [.ref 58, .int (zi (frc L 40)), .int (zi i), .int (zi c), .int (zi j)], [], s)) 4 (fun j s => DG M0 (hX (abt L c) j h) s ∧ MLR L s) ?_ ?_ 0 s (by omega) (by omega) ⟨hs, ml⟩
    · intro s ⟨hs, ml⟩
      refine vc_mixesLaw_25 _ _ _ _ s _ ⟨by decide, fun q => by omega, fun _ => ?_⟩
      refine loop_up (fun j (s : am_M) => (52, [.ref 58, .int (zi (frc L 40)), .int (zi i), .int (zi c), .int (zi j)], [], s)) (L.len c) (fun j s => DG M0 (hX (tw L c) j (hX (abt L c) 4 h)) s ∧ MLR L s) ?_ ?_ 0 s (by omega) ln.1 ⟨hs, ml⟩
      · intro s ⟨hs, ml⟩
        have el := (ml.2.1 c c0 c1 n).2.1
        exact vc_mixesLaw_52 _ _ _ _ s _ ⟨⟨c0, c1⟩, ⟨by omega, by omega⟩, fun q => by omega, fun _ => ks s ⟨hs, ml⟩⟩
      · intro j s j0 j1 ⟨hs, ml⟩ k2
        have el := (ml.2.1 c c0 c1 n).2.1
        exact vc_mixesLaw_52 _ _ _ _ s _ ⟨⟨c0, c1⟩, ⟨by omega, by omega⟩, fun _ => ⟨wz (tw L c j), s, by rw [zi_wz]; exact sp_toldWord v ml c0 c1 n j0 j1, wz_r _, fun M6 e6 => k2 M6 ⟨by rw [hX_s _ j0]; exact dg_mix _ hs e6, mlr_mix ml e6⟩⟩, fun q => by omega⟩
    · intro j s j0 j1 ⟨hs, ml⟩ k2
      exact vc_mixesLaw_25 _ _ _ _ s _ ⟨⟨by omega, by omega⟩, fun _ => ⟨wz (abt L c j), s, by rw [zi_wz]; exact sp_about ml c0 c1 n ⟨by omega, by omega⟩, wz_r _, fun M5 e5 => k2 M5 ⟨by rw [hX_s _ j0]; exact dg_mix _ hs e5, mlr_mix ml e5⟩⟩, fun q => by omega⟩
theorem sp_m_digest {M : am_M} {b p s q t : Int → Int} (eb : iv M 59 = b) (ep : iv M 58 = p) (es : iv M 62 = s) (eq : iv M 75 = q) (et : iv M 73 = t) (w : WB b) (ha : ∀ i, 0 ≤ i → i < frc (lw b 9999 (-1)) 40 → 0 ≤ atx (lw b 9999 (-1)) i ∧ atx (lw b 9999 (-1)) i < 40 ∧ ¬ (lw b 9999 (-1)).code (atx (lw b 9999 (-1)) i) = 0) (p17 : 0 ≤ p 17 ∧ p 17 ≤ 120) (p23 : 0 ≤ p 23 ∧ p 23 ≤ 1000) : ∃ M', am_call t_Mo_digest [.ref 58] M (some (.long (zl (dgst b p s q t)))) M' ∧ DGf M M' := by
  have n0 := w.n0
  have n1 := w.n1
  have r59 : ∀ x H, DG M H x → iv x 59 = b := fun x H d => by rw [iv_row (d.1.1 59 (by decide) (by decide)), eb]
  have r62 : ∀ x H, DG M H x → iv x 62 = s := fun x H d => by rw [iv_row (d.1.1 62 (by decide) (by decide)), es]
  have r75 : ∀ x H, DG M H x → iv x 75 = q := fun x H d => by rw [iv_row (d.1.1 75 (by decide) (by decide)), eq]
  have r73 : ∀ x H, DG M H x → iv x 73 = t := fun x H d => by rw [iv_row (d.1.1 73 (by decide) (by decide)), et]
  have r17 : ∀ x H, DG M H x → iv x 58 17 = p 17 := fun x H d => by rw [← ep]; exact iv1 (d.1.2 17 (by decide) (by decide) (by decide))
  have r23 : ∀ x H, DG M H x → iv x 58 23 = p 23 := fun x H d => by rw [← ep]; exact iv1 (d.1.2 23 (by decide) (by decide) (by decide))
  have r2 : ∀ x H, DG M H x → iv x 58 2 = p 2 := fun x H d => by rw [← ep]; exact iv1 (d.1.2 2 (by decide) (by decide) (by decide))
  suffices hh : am_x t_Mo_digest (0, am_ent (am_mL t_Mo_digest) [.ref 58], [], M) (fun rv M' => rv = some (.long (zl (dgst b p s q t))) ∧ DGf M M') by
    obtain ⟨rv, M', c1, c2, c3⟩ := am_call_ex (by exact ⟨Nat.le_of_ble_eq_true rfl, rfl⟩) hh
    subst c2
    exact ⟨M', c1, c3⟩
  refine vc_m_digest M _ (fun M1 e1 => ?_)
  have g1 : DG M 311 M1 := ⟨⟨fun a a1 _ => by rw [e1, zupl_r _ a1], fun j _ j2 j3 => by rw [e1, zupl_58 _ j2 j3]⟩, by rw [e1, lv_zupl]⟩
  refine loop_up (fun i (x : am_M) => (9, [.ref 58, .int (zi i)], [], x)) 9 (fun i x => DG M (hX (cntv b p s) i 311) x) ?_ ?_ 0 M1 (by omega) (by omega) g1
  · intro x hx
    refine vc_m_digest_9 _ x _ ⟨by decide, fun z => by omega, fun _ => ?_⟩
    refine loop_up (fun i (x : am_M) => (33, [.ref 58, .int (zi i)], [], x)) (b 0) (fun i x => DG M (fdI (hAm b) i (hX (cntv b p s) 9 311)) x) ?_ ?_ 0 x (by omega) n0 hx
    · intro x hx
      obtain ⟨x2, m1, m2⟩ := sp_mixesLaw eb w ha hx
      refine vc_m_digest_33 _ x _ ⟨⟨by omega, by omega⟩, fun z => by rw [r59 x _ hx] at z; omega, fun _ => ⟨x2, m1, ?_⟩⟩
      have fin : ∀ h3, h3 = hLw (lw b 9999 (-1)) (fdI (hAm b) (b 0) (hX (cntv b p s) 9 311)) → zl (dgst b p s q t) = zl (hX t (p 17) (hX q (p 23) (hX (tlv b) 7 h3))) := fun h3 e3 => by rw [e3]; rfl
      have f3 := fin _ rfl
      clear hx m1 fin
      revert m2 f3
      generalize hLw (lw b 9999 (-1)) (fdI (hAm b) (b 0) (hX (cntv b p s) 9 311)) = h3
      intro m2 f3
      rw [f3]
      refine loop_up (fun i (x : am_M) => (60, [.ref 58, .int (zi i)], [], x)) 7 (fun i x => DG M (hX (tlv b) i h3) x) ?_ ?_ 0 x2 (by omega) (by omega) m2
      · intro x hx
        refine vc_m_digest_60 _ x _ ⟨by decide, fun z => by omega, fun _ => ?_⟩
        generalize hX (tlv b) 7 h3 = h4 at *
        refine loop_up (fun i (x : am_M) => (84, [.ref 58, .int (zi i)], [], x)) (p 23) (fun i x => DG M (hX q i h4) x) ?_ ?_ 0 x (by omega) p23.1 hx
        · intro x hx
          refine vc_m_digest_84 _ x _ ⟨⟨by omega, by omega⟩, fun z => by rw [r23 x _ hx] at z; omega, fun _ => ?_⟩
          generalize hX q (p 23) h4 = h5 at *
          refine loop_up (fun i (x : am_M) => (111, [.ref 58, .int (zi i)], [], x)) (p 17) (fun i x => DG M (hX t i h5) x) ?_ ?_ 0 x (by omega) p17.1 hx
          · intro x hx
            exact vc_m_digest_111 _ x _ ⟨⟨by omega, by omega⟩, fun z => by rw [r17 x _ hx] at z; omega, fun _ => ⟨by rw [hx.2], hx.1⟩⟩
          · intro i x i0 i1 hx k
            refine vc_m_digest_111 _ x _ ⟨⟨by omega, by omega⟩, fun _ => ⟨⟨i0, by omega⟩, fun M3 e3 => k M3 ?_⟩, fun z => by rw [r17 x _ hx] at z; omega⟩
            have a := dg_mix _ hx e3
            rw [r73 x _ hx] at a
            rw [hX_s _ i0, wz_e (by rw [← et]; exact iv_r M 73 i)]
            exact a
        · intro i x i0 i1 hx k
          refine vc_m_digest_84 _ x _ ⟨⟨by omega, by omega⟩, fun _ => ⟨⟨i0, by omega⟩, fun M3 e3 => k M3 ?_⟩, fun z => by rw [r23 x _ hx] at z; omega⟩
          have a := dg_mix _ hx e3
          rw [r75 x _ hx] at a
          rw [hX_s _ i0, wz_e (by rw [← eq]; exact iv_r M 75 i)]
          exact a
      · intro i x i0 i1 hx k
        have e := r59 x _ hx
        obtain ⟨x2, m1, m2⟩ := sp_m_tally (M := x) (by rw [e]; exact w) (x := i) ⟨i0, by omega⟩
        rw [e] at m1
        exact vc_m_digest_60 _ x _ ⟨⟨by omega, by omega⟩, fun _ => ⟨wz (tlv b i), x2, by rw [zi_wz]; exact m1, wz_r _, fun M5 e5 => k M5 (by rw [hX_s _ i0]; exact dg_mix _ (dg_lf hx m2) e5)⟩, fun z => by omega⟩
    · intro i x i0 i1 hx k
      obtain ⟨x2, m1, m2⟩ := sp_mixesAmendment eb w hx i0 i1
      exact vc_m_digest_33 _ x _ ⟨⟨by omega, by omega⟩, fun _ => ⟨x2, m1, k x2 (by rw [fdI_s _ i0]; exact m2)⟩, fun z => by rw [r59 x _ hx] at z; omega⟩
  · intro i x i0 i1 hx k
    have e := r59 x _ hx
    obtain ⟨x2, m1, m2⟩ := sp_m_count (M := x) (by rw [e]; exact w) (w := i) ⟨i0, by omega⟩
    have ec : cntv (iv x 59) (iv x 58) (iv x 62) i = cntv b p s i := by
      unfold cntv
      rw [e, r62 x _ hx, r17 x _ hx, r23 x _ hx, r2 x _ hx]
    rw [ec] at m1
    exact vc_m_digest_9 _ x _ ⟨⟨by omega, by omega⟩, fun _ => ⟨wz (cntv b p s i), x2, by rw [zi_wz]; exact m1, wz_r _, fun M5 e5 => k M5 (by rw [hX_s _ i0]; exact dg_mix _ (dg_lf hx m2) e5)⟩, fun z => by omega⟩
def STEPL (tc tm : am_T) (ca ma : List Value) (M : am_M) : Prop := ∃ (r : Int) (M1 M2 : am_M), am_call tc ca M (some (.long (zl r))) M1 ∧ am_call tm ma M1 (some (.long (zl r))) M2 ∧ RR M2 ∧ M2 5000 = M 5000 ∧ M2 5001 = M 5001
theorem st_digest {M : am_M} (rr : RR M) : STEPL t_SB_digest t_Mo_digest [.ref 0] [.ref 58] M := by
  obtain ⟨M4, c1, cq, od⟩ := sp_c_digest rr
  have rr4 := rr_cq rr cq
  have v := lw_VL rr.1.1 9999 (-1)
  have e9 := od.1
  have t1 := rr.2.1.1
  have t2 := rr.2.1.2.1
  have o23 : 0 ≤ iv M 58 23 ∧ iv M 58 23 ≤ 1000 := by
    obtain ⟨l, _, h2, _⟩ := rr.2.2.1
    have := h2.2.1
    omega
  obtain ⟨M', m1, m2⟩ := sp_m_digest (M := M4) (iv_row (cq 59 (by decide))) (iv_row (cq 58 (by decide))) (iv_row (cq 62 (by decide))) (iv_row (cq 75 (by decide))) (iv_row (cq 73 (by decide))) rr.1.1 (fun i i0 i1 => by
    have oi := od.2.1 i i0 (by rw [e9]; exact i1)
    have ea := (atx_ord v od i).trans (if_pos ⟨i0, by rw [e9]; exact i1⟩)
    rw [ea]
    exact oi) (by omega) o23
  refine ⟨_, M4, M', c1, m1, ?_, ?_, ?_⟩
  · obtain ⟨s1, s2, s3, s4⟩ := rr4
    have row : ∀ a, ¬ a = 58 → ¬ (63 ≤ a ∧ a ≤ 72) → M' a = M4 a := m2.1
    have fl : ∀ j, ¬ j = 14 → ¬ j = 30 → ¬ j = 130 → M' 58 j = M4 58 j := m2.2
    exact ⟨cst_rows s1 (row 11 (by decide) (by decide)) (row 59 (by decide) (by decide)), txt_rows s2 (row 2 (by decide) (by decide)) (row 3 (by decide) (by decide)) (row 73 (by decide) (by decide)) (fl 17 (by decide) (by decide) (by decide)), out_rows s3 (row 7 (by decide) (by decide)) (row 8 (by decide) (by decide)) (row 75 (by decide) (by decide)) (fl 23 (by decide) (by decide) (by decide)) (fl 24 (by decide) (by decide) (by decide)), arc_rows s4 (row 12 (by decide) (by decide)) (row 14 (by decide) (by decide)) (row 60 (by decide) (by decide)) (row 61 (by decide) (by decide)) (row 62 (by decide) (by decide)) (fl 2 (by decide) (by decide) (by decide))⟩
  · rw [m2.1 5000 (by decide) (by decide), cq 5000 (by decide)]
  · rw [m2.1 5001 (by decide) (by decide), cq 5001 (by decide)]
