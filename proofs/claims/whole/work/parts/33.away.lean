/-! states put away -/
def BKr (c b : Int → Int) : Prop := WB b ∧ CBR c b
theorem fo_congr {b b' : Int → Int} (h : ∀ j, 0 ≤ j → j < 1501 → b j = b' j) {a : Int} (a1 : a ≤ 20) : fo b a = fo b' a := sm_congr (fun i i0 i1 => h _ (by omega) (by omega))
theorem pt_congr {b b' : Int → Int} (h : ∀ j, 0 ≤ j → j < 1501 → b j = b' j) {o w : Int} (o0 : 0 ≤ o) (o1 : o < 120) (w0 : 0 ≤ w) (w1 : w < 12) : pt b o w = pt b' o w := h _ (by omega) (by omega)
theorem ia_congr {b b' : Int → Int} (h : ∀ j, 0 ≤ j → j < 1501 → b j = b' j) {o : Int} (o1 : o ≤ 120) : ia b o = ia b' o := sm_congr (fun i i0 i1 => by
  show (if pt b i 0 = 0 then (1 : Int) else 0) = if pt b' i 0 = 0 then 1 else 0
  rw [pt_congr h i0 (by omega) (by decide) (by decide)])
theorem WO_congr {f g : Int → Int} (h : ∀ j, 0 ≤ j → j < 12 → f j = g j) (w : WO f) : WO g := by
  have ln := w.ln
  obtain ⟨a1, a2, a3, a4, a5, a6, a7, a8, a9, a10⟩ := w
  unfold WO
  rw [← h 0 (by decide) (by decide), ← h 1 (by decide) (by decide), ← h 2 (by decide) (by decide), ← h 3 (by decide) (by decide), ← h 4 (by decide) (by decide), ← h 5 (by decide) (by decide)]
  refine ⟨a1, a2, a3, a4, a5, a6, a7, a8, a9, fun k k0 k1 => ?_⟩
  rw [← h (6 + k) (by omega) (by omega)]
  exact a10 k k0 k1
theorem WB_congr {b b' : Int → Int} (h : ∀ j, 0 ≤ j → j < 1501 → b j = b' j) (w : WB b) : WB b' := by
  have n0 := w.n0
  have n1 := w.n1
  have e0 := h 0 (by decide) (by decide)
  have en : nops b = nops b' := by unfold nops; rw [← e0]; exact fo_congr h n1
  have tot := w.tot
  unfold WB
  rw [← e0, ← en]
  refine ⟨n0, n1, fun a a0 a1 => ?_, fun a a0 a1 => ?_, fun a a0 a1 => ?_, tot, ?_, fun o o0 o1 => ?_⟩
  · rw [← h _ (by omega) (by omega)]; exact w.day a a0 a1
  · rw [← h _ (by omega) (by omega)]; exact w.rev a a0 a1
  · rw [← h _ (by omega) (by omega)]; exact w.sz a a0 a1
  · rw [← ia_congr h tot]; exact w.ins
  · exact WO_congr (fun j j0 j1 => pt_congr h o0 (by omega) j0 j1) (w.op o o0 o1)
theorem BKr_congr {c c' b b' : Int → Int} (hc : ∀ j, 0 ≤ j → j < 1605 → c j = c' j) (h : ∀ j, 0 ≤ j → j < 1501 → b j = b' j) (w : BKr c b) : BKr c' b' := by
  obtain ⟨w, ⟨q0, q1, q2, q3, q4, q5⟩, q6, q7⟩ := w
  have n0 := w.n0
  have n1 := w.n1
  have tot := w.tot
  have e0 := h 0 (by decide) (by decide)
  have en : nops b = nops b' := by unfold nops; rw [← e0]; exact fo_congr h n1
  refine ⟨WB_congr h w, ⟨?_, ?_, ?_, fun a a0 a1 => ?_, fun a a0 a1 => ?_, fun o o0 o1 => ?_⟩, ?_, fun a a0 a1 => ?_⟩
  · rw [← hc 0 (by decide) (by decide), ← e0]; exact q0
  · rw [← hc 1 (by decide) (by decide), ← en]; exact q1
  · rw [← hc 2 (by decide) (by decide), ← en, ← ia_congr h tot]; exact q2
  · rw [← e0] at a1
    rw [← hc _ (by omega) (by omega), ← h _ (by omega) (by omega)]; exact q3 a a0 a1
  · rw [← e0] at a1
    rw [← hc _ (by omega) (by omega), ← fo_congr h (by omega)]; exact q4 a a0 a1
  · rw [← en] at o1
    have wo := w.op o o0 o1
    have ln := wo.ln
    obtain ⟨p0, p1, p2, p3, p4, p5, p6, p7⟩ := q5 o o0 o1
    have e : ∀ k, 0 ≤ k → k < 13 → cpt c' o k = cpt c o k := fun k k0 k1 => (hc _ (by omega) (by omega)).symm
    have f : ∀ k, 0 ≤ k → k < 12 → pt b' o k = pt b o k := fun k k0 k1 => (pt_congr h o0 (by omega) k0 k1).symm
    unfold CO
    rw [e 0 (by decide) (by decide), e 1 (by decide) (by decide), e 2 (by decide) (by decide), e 3 (by decide) (by decide), e 4 (by decide) (by decide), e 5 (by decide) (by decide), e 6 (by decide) (by decide), f 0 (by decide) (by decide), f 1 (by decide) (by decide), f 2 (by decide) (by decide), f 3 (by decide) (by decide), f 4 (by decide) (by decide), f 5 (by decide) (by decide), ← ia_congr h (by omega)]
    exact ⟨p0, p1, p2, p3, p4, p5, p6, fun k k0 k1 => by rw [e _ (by omega) (by omega), f _ (by omega) (by omega)]; exact p7 k k0 k1⟩
  · rw [← hc 3 (by decide) (by decide)]; exact q6
  · rw [← hc 3 (by decide) (by decide), q7 a a0 a1, e0, h (21 + a) (by omega) (by omega)]
def ARC (M : am_M) : Prop := (0 ≤ iv M 58 2 ∧ iv M 58 2 ≤ 10) ∧ iv M 12 1 = iv M 58 2 ∧ (0 ≤ iv M 12 2 ∧ iv M 12 2 ≤ 9) ∧
  (∀ i, 0 ≤ i → i < iv M 58 2 → BKr (fun j => iv M 14 ((iv M 12 2 + 10 - (iv M 58 2 - 1 - i)) % 10 * 1605 + j)) (fun j => iv M 60 (1501 * i + j))) ∧
  (0 ≤ iv M 12 3 ∧ iv M 12 3 ≤ 3) ∧ ∀ k, 0 ≤ k → k ≤ 1 → (iv M 62 k = 0 ∨ iv M 62 k = 1) ∧ (zbt (iv M 12 3) k = true ↔ iv M 62 k = 1) ∧ (iv M 62 k = 1 → BKr (fun j => iv M 14 ((10 + k) * 1605 + j)) (fun j => iv M 61 (1501 * k + j)))
set_option maxRecDepth 100000 in
theorem vc_putAway (s : Int) (M : am_M) (Q : Option Value → am_M → Prop) (hv : (0 ≤ (0 : Int) ∧ 0 ≤ (s * 1605) ∧ 0 ≤ (1605 : Int) ∧ (0 : Int) + (1605 : Int) ≤ 1605 ∧ (s * 1605) + (1605 : Int) ≤ 19260) ∧ (∀ M1, M1 = zcp M 11 14 0 (s * 1605) 1605 → Q none M1)) : am_x t_Arc_putAway (0, am_ent (am_mL t_Arc_putAway) [.ref 12, .int (zi s), .ref 9], [], M) Q := by
  refine am_xn 0 (c1 := (0, [.ref 12, .int (zi s), .ref 9], [], M)) rfl ?_
  refine am_ximul 8 s 1605 (pc := 14) (ls := [.ref 12, .int (zi s), .ref 9]) (st := [.int (zi 0), .ref 10, .ref 13]) rfl ?_
  refine am_xn 1 (c1 := (17, [.ref 12, .int (zi s), .ref 9], [.int (zi 1605), .int (zi (s * 1605)), .int (zi 0), .ref 10, .ref 13], M)) rfl ?_
  obtain ⟨g, hv⟩ := hv
  obtain ⟨M1, eM1⟩ : ∃ m, m = zcp M 11 14 0 (s * 1605) 1605 := ⟨_, rfl⟩
  replace hv := hv M1 eM1
  refine am_xc t_Row_take (.invokevirtual 27) 27 (av := [.ref 13, .ref 10, .int (zi 0), .int (zi (s * 1605)), .int (zi 1605)]) (rest := []) (rv := none) (M' := M1) rfl rfl rfl rfl (Nat.le_of_ble_eq_true rfl) (fun _ => rfl) (by rw [eM1]; exact sp_take_13_10 M 0 (s * 1605) 1605 g) ?_
  refine am_xn 0 (c1 := (20, [.ref 12, .int (zi s), .ref 9], [], M1)) rfl ?_
  exact am_xr none ⟨rfl, rfl, rfl⟩ hv
set_option maxRecDepth 100000 in
theorem vc_bring (s : Int) (M : am_M) (Q : Option Value → am_M → Prop) (hv : (0 ≤ (s * 1605) ∧ 0 ≤ (0 : Int) ∧ 0 ≤ (1605 : Int) ∧ (s * 1605) + (1605 : Int) ≤ 19260 ∧ (0 : Int) + (1605 : Int) ≤ 1605) ∧ (∀ M1, M1 = zcp M 14 11 (s * 1605) 0 1605 → Q none M1)) : am_x t_Arc_bring (0, am_ent (am_mL t_Arc_bring) [.ref 12, .int (zi s), .ref 9], [], M) Q := by
  refine am_xn 0 (c1 := (0, [.ref 12, .int (zi s), .ref 9], [], M)) rfl ?_
  refine am_ximul 7 s 1605 (pc := 13) (ls := [.ref 12, .int (zi s), .ref 9]) (st := [.ref 13, .ref 10]) rfl ?_
  refine am_xn 2 (c1 := (17, [.ref 12, .int (zi s), .ref 9], [.int (zi 1605), .int (zi 0), .int (zi (s * 1605)), .ref 13, .ref 10], M)) rfl ?_
  obtain ⟨g, hv⟩ := hv
  obtain ⟨M1, eM1⟩ : ∃ m, m = zcp M 14 11 (s * 1605) 0 1605 := ⟨_, rfl⟩
  replace hv := hv M1 eM1
  refine am_xc t_Row_take (.invokevirtual 27) 27 (av := [.ref 10, .ref 13, .int (zi (s * 1605)), .int (zi 0), .int (zi 1605)]) (rest := []) (rv := none) (M' := M1) rfl rfl rfl rfl (Nat.le_of_ble_eq_true rfl) (fun _ => rfl) (by rw [eM1]; exact sp_take_10_13 M (s * 1605) 0 1605 g) ?_
  refine am_xn 0 (c1 := (20, [.ref 12, .int (zi s), .ref 9], [], M1)) rfl ?_
  exact am_xr none ⟨rfl, rfl, rfl⟩ hv
set_option maxRecDepth 100000 in
theorem vc_push  (M : am_M) (Q : Option Value → am_M → Prop) (hv : (zr ((iv M 12 2) + 1)) ∧ ((0 ≤ ((iv M 12 2) + 1)) ∧ (∀ M3, M3 = zup M 12 2 (((iv M 12 2) + 1) % 10) → (zr ((iv M3 12 1) + 1)) ∧ (∀ M5, M5 = zup M3 12 1 (min ((iv M3 12 1) + 1) 10) → ∃ M6, am_call t_Arc_putAway [.ref 12, .int (zi (iv M5 12 2)), .ref 9] M5 none M6 ∧ (Q none M6))))) : am_x t_Arc_push (0, am_ent (am_mL t_Arc_push) [.ref 12, .ref 9], [], M) Q := by
  refine am_xn 0 (c1 := (0, [.ref 12, .ref 9], [], M)) rfl ?_
  refine am_xrd 3 12 2 (pc := 5) (ls := [.ref 12, .ref 9]) (st := [.ref 12]) rfl ?_
  refine am_xiadd 2 (iv M 12 2) 1 (pc := 7) (ls := [.ref 12, .ref 9]) (st := [.ref 12]) rfl ?_
  obtain ⟨r1, hv⟩ := hv
  obtain ⟨r2, hv⟩ := hv
  refine am_xn 1 (c1 := (9, [.ref 12, .ref 9], [.int (zi 10), .int (zi ((iv M 12 2) + 1)), .ref 12], M)) rfl ?_
  refine am_xrem rfl r2 (by decide) r1 (by decide) ?_
  refine am_xn 0 (c1 := (10, [.ref 12, .ref 9], [.int (zi (((iv M 12 2) + 1) % 10)), .ref 12], M)) rfl ?_
  refine am_xn 1 (c1 := (13, [.ref 12, .ref 9], [], zup M 12 2 (((iv M 12 2) + 1) % 10))) rfl ?_
  obtain ⟨M3, eM3⟩ : ∃ m, m = zup M 12 2 (((iv M 12 2) + 1) % 10) := ⟨_, rfl⟩
  replace hv := hv M3 eM3
  rw [← eM3]
  refine am_xrd 3 12 1 (pc := 18) (ls := [.ref 12, .ref 9]) (st := [.ref 12]) rfl ?_
  refine am_xiadd 2 (iv M3 12 1) 1 (pc := 20) (ls := [.ref 12, .ref 9]) (st := [.ref 12]) rfl ?_
  obtain ⟨r4, hv⟩ := hv
  refine am_xn 1 (c1 := (22, [.ref 12, .ref 9], [.int (zi 10), .int (zi ((iv M3 12 1) + 1)), .ref 12], M3)) rfl ?_
  refine am_xmin 34 rfl rfl (by decide) r4 (by decide) ?_
  refine am_xn 0 (c1 := (25, [.ref 12, .ref 9], [.int (zi (min ((iv M3 12 1) + 1) 10)), .ref 12], M3)) rfl ?_
  refine am_xn 1 (c1 := (28, [.ref 12, .ref 9], [], zup M3 12 1 (min ((iv M3 12 1) + 1) 10))) rfl ?_
  obtain ⟨M5, eM5⟩ : ∃ m, m = zup M3 12 1 (min ((iv M3 12 1) + 1) 10) := ⟨_, rfl⟩
  replace hv := hv M5 eM5
  rw [← eM5]
  refine am_xrd 3 12 2 (pc := 33) (ls := [.ref 12, .ref 9]) (st := [.ref 12]) rfl ?_
  refine am_xn 1 (c1 := (34, [.ref 12, .ref 9], [.ref 9, .int (zi (iv M5 12 2)), .ref 12], M5)) rfl ?_
  obtain ⟨M6, hc, hv⟩ := hv
  refine am_xc t_Arc_putAway (.invokevirtual 40) 40 (av := [.ref 12, .int (zi (iv M5 12 2)), .ref 9]) (rest := []) (rv := none) (M' := M6) rfl rfl rfl rfl (Nat.le_of_ble_eq_true rfl) (fun _ => rfl) (hc) ?_
  refine am_xn 0 (c1 := (37, [.ref 12, .ref 9], [], M6)) rfl ?_
  exact am_xr none ⟨rfl, rfl, rfl⟩ hv
set_option maxRecDepth 100000 in
theorem vc_pop  (M : am_M) (Q : Option Value → am_M → Prop) (hv : ∃ M1, am_call t_Arc_bring [.ref 12, .int (zi (iv M 12 2)), .ref 9] M none M1 ∧ ((zr (((iv M1 12 2) + 10) - 1)) ∧ ((0 ≤ (((iv M1 12 2) + 10) - 1)) ∧ (∀ M4, M4 = zup M1 12 2 ((((iv M1 12 2) + 10) - 1) % 10) → ∀ M5, M5 = zup M4 12 1 ((iv M4 12 1) - 1) → Q none M5)))) : am_x t_Arc_pop (0, am_ent (am_mL t_Arc_pop) [.ref 12, .ref 9], [], M) Q := by
  refine am_xn 0 (c1 := (0, [.ref 12, .ref 9], [], M)) rfl ?_
  refine am_xrd 3 12 2 (pc := 5) (ls := [.ref 12, .ref 9]) (st := [.ref 12]) rfl ?_
  refine am_xn 1 (c1 := (6, [.ref 12, .ref 9], [.ref 9, .int (zi (iv M 12 2)), .ref 12], M)) rfl ?_
  obtain ⟨M1, hc, hv⟩ := hv
  refine am_xc t_Arc_bring (.invokevirtual 44) 44 (av := [.ref 12, .int (zi (iv M 12 2)), .ref 9]) (rest := []) (rv := none) (M' := M1) rfl rfl rfl rfl (Nat.le_of_ble_eq_true rfl) (fun _ => rfl) (hc) ?_
  refine am_xn 0 (c1 := (9, [.ref 12, .ref 9], [], M1)) rfl ?_
  refine am_xrd 3 12 2 (pc := 14) (ls := [.ref 12, .ref 9]) (st := [.ref 12]) rfl ?_
  refine am_xiadd 2 (iv M1 12 2) 10 (pc := 17) (ls := [.ref 12, .ref 9]) (st := [.ref 12]) rfl ?_
  refine am_xisub 2 ((iv M1 12 2) + 10) 1 (pc := 19) (ls := [.ref 12, .ref 9]) (st := [.ref 12]) rfl ?_
  obtain ⟨r2, hv⟩ := hv
  obtain ⟨r3, hv⟩ := hv
  refine am_xn 1 (c1 := (21, [.ref 12, .ref 9], [.int (zi 10), .int (zi (((iv M1 12 2) + 10) - 1)), .ref 12], M1)) rfl ?_
  refine am_xrem rfl r3 (by decide) r2 (by decide) ?_
  refine am_xn 0 (c1 := (22, [.ref 12, .ref 9], [.int (zi ((((iv M1 12 2) + 10) - 1) % 10)), .ref 12], M1)) rfl ?_
  refine am_xn 1 (c1 := (25, [.ref 12, .ref 9], [], zup M1 12 2 ((((iv M1 12 2) + 10) - 1) % 10))) rfl ?_
  obtain ⟨M4, eM4⟩ : ∃ m, m = zup M1 12 2 ((((iv M1 12 2) + 10) - 1) % 10) := ⟨_, rfl⟩
  replace hv := hv M4 eM4
  rw [← eM4]
  refine am_xrd 3 12 1 (pc := 30) (ls := [.ref 12, .ref 9]) (st := [.ref 12]) rfl ?_
  refine am_xisub 2 (iv M4 12 1) 1 (pc := 32) (ls := [.ref 12, .ref 9]) (st := [.ref 12]) rfl ?_
  refine am_xn 1 (c1 := (35, [.ref 12, .ref 9], [], zup M4 12 1 ((iv M4 12 1) - 1))) rfl ?_
  obtain ⟨M5, eM5⟩ : ∃ m, m = zup M4 12 1 ((iv M4 12 1) - 1) := ⟨_, rfl⟩
  replace hv := hv M5 eM5
  rw [← eM5]
  exact am_xr none ⟨rfl, rfl, rfl⟩ hv
set_option maxRecDepth 100000 in
theorem vc_keepSnapshot (k : Int) (M : am_M) (Q : Option Value → am_M → Prop) (hv : ∃ M1, am_call t_Arc_putAway [.ref 12, .int (zi (10 + k)), .ref 9] M none M1 ∧ (∀ M2, M2 = zup M1 12 3 (zor (iv M1 12 3) (zshl 1 k)) → Q none M2)) : am_x t_Arc_keepSnapshot (0, am_ent (am_mL t_Arc_keepSnapshot) [.ref 12, .int (zi k), .ref 9], [], M) Q := by
  refine am_xn 0 (c1 := (0, [.ref 12, .int (zi k), .ref 9], [], M)) rfl ?_
  refine am_xiadd 4 10 k (pc := 5) (ls := [.ref 12, .int (zi k), .ref 9]) (st := [.ref 12]) rfl ?_
  refine am_xn 1 (c1 := (6, [.ref 12, .int (zi k), .ref 9], [.ref 9, .int (zi (10 + k)), .ref 12], M)) rfl ?_
  obtain ⟨M1, hc, hv⟩ := hv
  refine am_xc t_Arc_putAway (.invokevirtual 40) 40 (av := [.ref 12, .int (zi (10 + k)), .ref 9]) (rest := []) (rv := none) (M' := M1) rfl rfl rfl rfl (Nat.le_of_ble_eq_true rfl) (fun _ => rfl) (hc) ?_
  refine am_xn 0 (c1 := (9, [.ref 12, .int (zi k), .ref 9], [], M1)) rfl ?_
  refine am_xrd 3 12 3 (pc := 14) (ls := [.ref 12, .int (zi k), .ref 9]) (st := [.ref 12]) rfl ?_
  refine am_xbit 3 (zi 1 <<< (zi k &&& 31)) (pc := 17) (ls := [.ref 12, .int (zi k), .ref 9]) (st := [.int (zi (iv M1 12 3)), .ref 12]) rfl ?_
  refine am_xn 0 (c1 := (17, [.ref 12, .int (zi k), .ref 9], [.int (zi (zshl 1 k)), .int (zi (iv M1 12 3)), .ref 12], M1)) rfl ?_
  refine am_xbit 1 (zi (iv M1 12 3) ||| zi (zshl 1 k)) (pc := 18) (ls := [.ref 12, .int (zi k), .ref 9]) (st := [.ref 12]) rfl ?_
  refine am_xn 0 (c1 := (18, [.ref 12, .int (zi k), .ref 9], [.int (zi (zor (iv M1 12 3) (zshl 1 k))), .ref 12], M1)) rfl ?_
  refine am_xn 1 (c1 := (21, [.ref 12, .int (zi k), .ref 9], [], zup M1 12 3 (zor (iv M1 12 3) (zshl 1 k)))) rfl ?_
  obtain ⟨M2, eM2⟩ : ∃ m, m = zup M1 12 3 (zor (iv M1 12 3) (zshl 1 k)) := ⟨_, rfl⟩
  replace hv := hv M2 eM2
  rw [← eM2]
  exact am_xr none ⟨rfl, rfl, rfl⟩ hv
set_option maxRecDepth 100000 in
theorem vc_hasSnapshot (k : Int) (M : am_M) (Q : Option Value → am_M → Prop) (hv : ((zand (zshr (iv M 12 3) k) 1) = 1 → Q (some (.int (zi 1))) M) ∧ (¬ (zand (zshr (iv M 12 3) k) 1) = 1 → Q (some (.int (zi 0))) M)) : am_x t_Arc_hasSnapshot (0, am_ent (am_mL t_Arc_hasSnapshot) [.ref 12, .int (zi k)], [], M) Q := by
  refine am_xn 0 (c1 := (0, [.ref 12, .int (zi k)], [], M)) rfl ?_
  refine am_xrd 2 12 3 (pc := 4) (ls := [.ref 12, .int (zi k)]) (st := []) rfl ?_
  refine am_xbit 2 (zi (iv M 12 3) >>> (zi k &&& 31)) (pc := 6) (ls := [.ref 12, .int (zi k)]) (st := []) rfl ?_
  refine am_xn 0 (c1 := (6, [.ref 12, .int (zi k)], [.int (zi (zshr (iv M 12 3) k))], M)) rfl ?_
  refine am_xbit 2 (zi (zshr (iv M 12 3) k) &&& zi 1) (pc := 8) (ls := [.ref 12, .int (zi k)]) (st := []) rfl ?_
  refine am_xn 0 (c1 := (8, [.ref 12, .int (zi k)], [.int (zi (zand (zshr (iv M 12 3) k) 1))], M)) rfl ?_
  refine am_xn 2 (c1 := (if zi (zand (zshr (iv M 12 3) k) 1) = zi 1 then 12 else 16, [.ref 12, .int (zi k)], [], M)) rfl (am_xeq (zr_toInt _) (by decide) (fun h => ?_) (fun h => ?_))
  · replace hv := hv.1 h
    refine am_xn 2 (c1 := (17, [.ref 12, .int (zi k)], [.int (zi 1)], M)) rfl ?_
    exact am_xr (some (.int (zi 1))) ⟨rfl, rfl, .boolean, rfl, rfl⟩ hv
  · replace hv := hv.2 h
    refine am_xn 1 (c1 := (17, [.ref 12, .int (zi k)], [.int (zi 0)], M)) rfl ?_
    exact am_xr (some (.int (zi 0))) ⟨rfl, rfl, .boolean, rfl, rfl⟩ hv
set_option maxRecDepth 100000 in
theorem vc_bringSnapshot (k : Int) (M : am_M) (Q : Option Value → am_M → Prop) (hv : ∃ M1, am_call t_Arc_bring [.ref 12, .int (zi (10 + k)), .ref 9] M none M1 ∧ (∀ M2, M2 = zup M1 12 1 0 → Q none M2)) : am_x t_Arc_bringSnapshot (0, am_ent (am_mL t_Arc_bringSnapshot) [.ref 12, .int (zi k), .ref 9], [], M) Q := by
  refine am_xn 0 (c1 := (0, [.ref 12, .int (zi k), .ref 9], [], M)) rfl ?_
  refine am_xiadd 4 10 k (pc := 5) (ls := [.ref 12, .int (zi k), .ref 9]) (st := [.ref 12]) rfl ?_
  refine am_xn 1 (c1 := (6, [.ref 12, .int (zi k), .ref 9], [.ref 9, .int (zi (10 + k)), .ref 12], M)) rfl ?_
  obtain ⟨M1, hc, hv⟩ := hv
  refine am_xc t_Arc_bring (.invokevirtual 44) 44 (av := [.ref 12, .int (zi (10 + k)), .ref 9]) (rest := []) (rv := none) (M' := M1) rfl rfl rfl rfl (Nat.le_of_ble_eq_true rfl) (fun _ => rfl) (hc) ?_
  refine am_xn 0 (c1 := (9, [.ref 12, .int (zi k), .ref 9], [], M1)) rfl ?_
  refine am_xn 3 (c1 := (14, [.ref 12, .int (zi k), .ref 9], [], zup M1 12 1 0)) rfl ?_
  obtain ⟨M2, eM2⟩ : ∃ m, m = zup M1 12 1 0 := ⟨_, rfl⟩
  replace hv := hv M2 eM2
  rw [← eM2]
  exact am_xr none ⟨rfl, rfl, rfl⟩ hv
set_option maxRecDepth 100000 in
theorem vc_c_states  (M : am_M) (Q : Option Value → am_M → Prop) (hv : Q (some (.int (zi (iv M 12 1)))) M) : am_x t_Arc_states (0, am_ent (am_mL t_Arc_states) [.ref 12], [], M) Q := by
  refine am_xn 0 (c1 := (0, [.ref 12], [], M)) rfl ?_
  refine am_xrd 2 12 1 (pc := 4) (ls := [.ref 12]) (st := []) rfl ?_
  exact am_xr (some (.int (zi (iv M 12 1)))) ⟨rfl, rfl, .int, rfl, rfl⟩ hv
set_option maxRecDepth 100000 in
theorem vc_keeps  (M : am_M) (Q : Option Value → am_M → Prop) (hv : ((iv M 58 2) = 10 → am_x t_Mo_keeps (11, [.ref 58, .int (zi 0)], [], M) Q) ∧ (¬ (iv M 58 2) = 10 → am_x t_Mo_keeps (52, [.ref 58, .int (zi 0)], [], M) Q)) : am_x t_Mo_keeps (0, am_ent (am_mL t_Mo_keeps) [.ref 58], [], M) Q := by
  refine am_xn 0 (c1 := (0, [.ref 58, .null], [], M)) rfl ?_
  refine am_xrd 2 58 2 (pc := 4) (ls := [.ref 58, .null]) (st := []) rfl ?_
  refine am_xn 2 (c1 := (if zi (iv M 58 2) = zi 10 then 9 else 50, [.ref 58, .null], [], M)) rfl (am_xeq (iv_r _ _ _) (by decide) (fun h => ?_) (fun h => ?_))
  · replace hv := hv.1 h
    refine am_xn 2 (c1 := (11, [.ref 58, .int (zi 0)], [], M)) rfl ?_
    exact hv
  · replace hv := hv.2 h
    refine am_xn 2 (c1 := (52, [.ref 58, .int (zi 0)], [], M)) rfl ?_
    exact hv
set_option maxRecDepth 100000 in
theorem vc_keeps_11 (x1 : Int) (M : am_M) (Q : Option Value → am_M → Prop) (hv : (zr x1) ∧ ((x1 < 13509 → (0 ≤ (x1 + 1501) ∧ (x1 + 1501) < 15010) ∧ ((0 ≤ x1 ∧ x1 < 15010) ∧ (∀ M3, M3 = zup M 60 x1 (iv M 60 (x1 + 1501)) → am_x t_Mo_keeps (11, [.ref 58, .int (zi (x1 + 1))], [], M3) Q))) ∧ (13509 ≤ x1 → ∀ M5, M5 = zup M 58 2 ((iv M 58 2) - 1) → am_x t_Mo_keeps (52, [.ref 58, .int (zi 0)], [], M5) Q))) : am_x t_Mo_keeps (11, [.ref 58, .int (zi x1)], [], M) Q := by
  obtain ⟨r1, hv⟩ := hv
  refine am_xn 3 (c1 := (if zi x1 < zi 13509 then 18 else 40, [.ref 58, .int (zi x1)], [], M)) rfl (am_xlt r1 (by decide) (fun h => ?_) (fun h => ?_))
  · replace hv := hv.1 h
    refine am_xiadd 8 x1 1501 (pc := 32) (ls := [.ref 58, .int (zi x1)]) (st := [.ref 60, .int (zi x1), .ref 60]) rfl ?_
    obtain ⟨r2, hv⟩ := hv
    refine am_xald rfl rfl rfl r2 ?_
    refine am_xn 0 (c1 := (33, [.ref 58, .int (zi x1)], [.int (zi (iv M 60 (x1 + 1501))), .int (zi x1), .ref 60], M)) rfl ?_
    obtain ⟨r4, hv⟩ := hv
    refine am_xast rfl rfl rfl r4 ?_
    refine am_xn 0 (c1 := (34, [.ref 58, .int (zi x1)], [], zup M 60 x1 (iv M 60 (x1 + 1501)))) rfl ?_
    obtain ⟨M3, eM3⟩ : ∃ m, m = zup M 60 x1 (iv M 60 (x1 + 1501)) := ⟨_, rfl⟩
    replace hv := hv M3 eM3
    rw [← eM3]
    refine am_xn 1 (c1 := (37, [.ref 58, .int (zi x1 + zi 1)], [], M3)) rfl ?_
    rw [zi_add]
    refine am_xn 1 (c1 := (11, [.ref 58, .int (zi (x1 + 1))], [], M3)) rfl ?_
    exact hv
  · replace hv := hv.2 h
    refine am_xrd 3 58 2 (pc := 45) (ls := [.ref 58, .int (zi x1)]) (st := [.ref 58]) rfl ?_
    refine am_xisub 2 (iv M 58 2) 1 (pc := 47) (ls := [.ref 58, .int (zi x1)]) (st := [.ref 58]) rfl ?_
    refine am_xn 1 (c1 := (50, [.ref 58, .int (zi x1)], [], zup M 58 2 ((iv M 58 2) - 1))) rfl ?_
    obtain ⟨M5, eM5⟩ : ∃ m, m = zup M 58 2 ((iv M 58 2) - 1) := ⟨_, rfl⟩
    replace hv := hv M5 eM5
    rw [← eM5]
    refine am_xn 2 (c1 := (52, [.ref 58, .int (zi 0)], [], M5)) rfl ?_
    exact hv
set_option maxRecDepth 100000 in
theorem vc_keeps_52 (x1 : Int) (M : am_M) (Q : Option Value → am_M → Prop) (hv : (zr x1) ∧ ((x1 < 1501 → (0 ≤ x1 ∧ x1 < 1501) ∧ ((0 ≤ ((1501 * (iv M 58 2)) + x1) ∧ ((1501 * (iv M 58 2)) + x1) < 15010) ∧ (∀ M3, M3 = zup M 60 ((1501 * (iv M 58 2)) + x1) (iv M 59 x1) → am_x t_Mo_keeps (52, [.ref 58, .int (zi (x1 + 1))], [], M3) Q))) ∧ (1501 ≤ x1 → ∀ M5, M5 = zup M 58 2 ((iv M 58 2) + 1) → Q none M5))) : am_x t_Mo_keeps (52, [.ref 58, .int (zi x1)], [], M) Q := by
  obtain ⟨r1, hv⟩ := hv
  refine am_xn 3 (c1 := (if zi x1 < zi 1501 then 59 else 86, [.ref 58, .int (zi x1)], [], M)) rfl (am_xlt r1 (by decide) (fun h => ?_) (fun h => ?_))
  · replace hv := hv.1 h
    refine am_xrd 5 58 2 (pc := 70) (ls := [.ref 58, .int (zi x1)]) (st := [.int (zi 1501), .ref 60]) rfl ?_
    refine am_ximul 1 1501 (iv M 58 2) (pc := 71) (ls := [.ref 58, .int (zi x1)]) (st := [.ref 60]) rfl ?_
    refine am_xiadd 2 (1501 * (iv M 58 2)) x1 (pc := 73) (ls := [.ref 58, .int (zi x1)]) (st := [.ref 60]) rfl ?_
    obtain ⟨r2, hv⟩ := hv
    refine am_xn 3 (c1 := (78, [.ref 58, .int (zi x1)], [.int (zi x1), .ref 59, .int (zi ((1501 * (iv M 58 2)) + x1)), .ref 60], M)) rfl ?_
    refine am_xald rfl rfl rfl r2 ?_
    refine am_xn 0 (c1 := (79, [.ref 58, .int (zi x1)], [.int (zi (iv M 59 x1)), .int (zi ((1501 * (iv M 58 2)) + x1)), .ref 60], M)) rfl ?_
    obtain ⟨r4, hv⟩ := hv
    refine am_xast rfl rfl rfl r4 ?_
    refine am_xn 0 (c1 := (80, [.ref 58, .int (zi x1)], [], zup M 60 ((1501 * (iv M 58 2)) + x1) (iv M 59 x1))) rfl ?_
    obtain ⟨M3, eM3⟩ : ∃ m, m = zup M 60 ((1501 * (iv M 58 2)) + x1) (iv M 59 x1) := ⟨_, rfl⟩
    replace hv := hv M3 eM3
    rw [← eM3]
    refine am_xn 1 (c1 := (83, [.ref 58, .int (zi x1 + zi 1)], [], M3)) rfl ?_
    rw [zi_add]
    refine am_xn 1 (c1 := (52, [.ref 58, .int (zi (x1 + 1))], [], M3)) rfl ?_
    exact hv
  · replace hv := hv.2 h
    refine am_xrd 3 58 2 (pc := 91) (ls := [.ref 58, .int (zi x1)]) (st := [.ref 58]) rfl ?_
    refine am_xiadd 2 (iv M 58 2) 1 (pc := 93) (ls := [.ref 58, .int (zi x1)]) (st := [.ref 58]) rfl ?_
    refine am_xn 1 (c1 := (96, [.ref 58, .int (zi x1)], [], zup M 58 2 ((iv M 58 2) + 1))) rfl ?_
    obtain ⟨M5, eM5⟩ : ∃ m, m = zup M 58 2 ((iv M 58 2) + 1) := ⟨_, rfl⟩
    replace hv := hv M5 eM5
    rw [← eM5]
    exact am_xr none ⟨rfl, rfl, rfl⟩ hv
theorem sp_putAway (M : am_M) {s : Int} (s0 : 0 ≤ s) (s1 : s ≤ 11) : am_call t_Arc_putAway [.ref 12, .int (zi s), .ref 9] M none (zcp M 11 14 0 (s * 1605) 1605) :=
  am_call_of ⟨Nat.le_of_ble_eq_true rfl, rfl⟩ (vc_putAway s M _ ⟨⟨by omega, by omega, by omega, by omega, by omega⟩, fun M1 e1 => ⟨rfl, e1⟩⟩)
theorem sp_bring (M : am_M) {s : Int} (s0 : 0 ≤ s) (s1 : s ≤ 11) : am_call t_Arc_bring [.ref 12, .int (zi s), .ref 9] M none (zcp M 14 11 (s * 1605) 0 1605) :=
  am_call_of ⟨Nat.le_of_ble_eq_true rfl, rfl⟩ (vc_bring s M _ ⟨⟨by omega, by omega, by omega, by omega, by omega⟩, fun M1 e1 => ⟨rfl, e1⟩⟩)
theorem sp_push {M : am_M} (h1 : 0 ≤ iv M 12 1 ∧ iv M 12 1 ≤ 10) (h2 : 0 ≤ iv M 12 2 ∧ iv M 12 2 ≤ 9) : ∃ M', am_call t_Arc_push [.ref 12, .ref 9] M none M' ∧ (∀ a, ¬ a = 12 → ¬ a = 14 → M' a = M a) ∧ iv M' 12 2 = (iv M 12 2 + 1) % 10 ∧ iv M' 12 1 = min (iv M 12 1 + 1) 10 ∧ iv M' 12 3 = iv M 12 3 ∧
    ∀ j, 0 ≤ j → iv M' 14 j = if (iv M 12 2 + 1) % 10 * 1605 ≤ j ∧ j < (iv M 12 2 + 1) % 10 * 1605 + 1605 then iv M 11 (j - (iv M 12 2 + 1) % 10 * 1605) else iv M 14 j := by
  suffices hh : am_x t_Arc_push (0, am_ent (am_mL t_Arc_push) [.ref 12, .ref 9], [], M) (fun r M' => r = none ∧ (∀ a, ¬ a = 12 → ¬ a = 14 → M' a = M a) ∧ iv M' 12 2 = (iv M 12 2 + 1) % 10 ∧ iv M' 12 1 = min (iv M 12 1 + 1) 10 ∧ iv M' 12 3 = iv M 12 3 ∧
    ∀ j, 0 ≤ j → iv M' 14 j = if (iv M 12 2 + 1) % 10 * 1605 ≤ j ∧ j < (iv M 12 2 + 1) % 10 * 1605 + 1605 then iv M 11 (j - (iv M 12 2 + 1) % 10 * 1605) else iv M 14 j) by
    obtain ⟨r, M', h1, h2, h3⟩ := am_call_ex (by exact ⟨Nat.le_of_ble_eq_true rfl, rfl⟩) hh
    subst h2
    exact ⟨M', h1, h3⟩
  refine vc_push M _ ⟨⟨by omega, by omega⟩, by omega, fun M3 e3 => ?_⟩
  have a1 : iv M3 12 1 = iv M 12 1 := by rw [e3, ivs _ _ (by decide) (by decide) ⟨by omega, by omega⟩, if_neg (by decide)]
  have a2 : iv M3 12 2 = (iv M 12 2 + 1) % 10 := by rw [e3, ivs _ _ (by decide) (by decide) ⟨by omega, by omega⟩, if_pos rfl]
  have a3 : iv M3 12 3 = iv M 12 3 := by rw [e3, ivs _ _ (by decide) (by decide) ⟨by omega, by omega⟩, if_neg (by decide)]
  rw [a1]
  refine ⟨⟨by omega, by omega⟩, fun M5 e5 => ?_⟩
  have b1 : iv M5 12 1 = min (iv M 12 1 + 1) 10 := by rw [e5, ivs _ _ (by decide) (by decide) ⟨by omega, by omega⟩, if_pos rfl]
  have b2 : iv M5 12 2 = (iv M 12 2 + 1) % 10 := by rw [e5, ivs _ _ (by decide) (by decide) ⟨by omega, by omega⟩, if_neg (by decide), a2]
  have b3 : iv M5 12 3 = iv M 12 3 := by rw [e5, ivs _ _ (by decide) (by decide) ⟨by omega, by omega⟩, if_neg (by decide), a3]
  have p := sp_putAway M5 (s := (iv M 12 2 + 1) % 10) (by omega) (by omega)
  rw [b2]
  refine ⟨_, p, rfl, fun a x1 x2 => by rw [iv_zcp_r _ x2, e5, zupr _ x1, e3, zupr _ x1], ?_, ?_, ?_, fun j hj => ?_⟩
  · rw [iv_row (iv_zcp_r _ (by decide)), b2]
  · rw [iv_row (iv_zcp_r _ (by decide)), b1]
  · rw [iv_row (iv_zcp_r _ (by decide)), b3]
  · have c11 : iv M5 11 = iv M 11 := by rw [e5, ivr _ (by decide), e3, ivr _ (by decide)]
    have c14 : iv M5 14 = iv M 14 := by rw [e5, ivr _ (by decide), e3, ivr _ (by decide)]
    rw [iv_zcp _ _ _ _ (by decide) (by omega) (by decide) hj, c11, c14]
    by_cases z : (iv M 12 2 + 1) % 10 * 1605 ≤ j ∧ j < (iv M 12 2 + 1) % 10 * 1605 + 1605
    · rw [if_pos z, if_pos ⟨rfl, z⟩, Int.zero_add]
    · rw [if_neg z, if_neg (fun y => z y.2)]
theorem keeps_put (M M0 : am_M) {u : Int} (hu : 0 ≤ u ∧ u ≤ 9) (e2 : iv M 58 2 = u) (f1 : ∀ a, ¬ a = 58 → ¬ a = 60 → M a = M0 a) (f2 : ∀ j, ¬ j = 2 → M 58 j = M0 58 j) (Q : Option Value → am_M → Prop)
    (h : ∀ M', (∀ a, ¬ a = 58 → ¬ a = 60 → M' a = M0 a) → (∀ j, ¬ j = 2 → M' 58 j = M0 58 j) → iv M' 58 2 = u + 1 → (∀ j, 0 ≤ j → iv M' 60 j = if 1501 * u ≤ j ∧ j < 1501 * u + 1501 then iv M0 59 (j - 1501 * u) else iv M 60 j) → Q none M') : am_x t_Mo_keeps (52, [.ref 58, .int (zi 0)], [], M) Q := by
  refine loop_up (fun i (s : am_M) => (52, [.ref 58, .int (zi i)], [], s)) 1501 (fun i s => (∀ a, ¬ a = 60 → s a = M a) ∧ ∀ j, 0 ≤ j → iv s 60 j = if 1501 * u ≤ j ∧ j < 1501 * u + i then iv M0 59 (j - 1501 * u) else iv M 60 j) ?_ ?_ 0 M (by omega) (by omega) ⟨fun _ _ => rfl, fun j hj => by rw [if_neg (by omega)]⟩
  · intro s ⟨s1, s2⟩
    have e58 : iv s 58 2 = u := by rw [iv_row (s1 58 (by decide)), e2]
    refine vc_keeps_52 _ s _ ⟨by decide, fun q => by omega, fun _ M5 e5 => h M5 (fun a a1 a2 => ?_) (fun j hj => ?_) ?_ (fun j hj => ?_)⟩
    · rw [e5, zupr _ a1, s1 a a2, f1 a a1 a2]
    · rw [e5, zup58 _ (by decide) hj, s1 58 (by decide), f2 j hj]
    · rw [e5, e58, ivs _ _ (by decide) (by decide) ⟨by omega, by omega⟩, if_pos rfl]
    · rw [e5, ivr _ (by decide), s2 j hj]
  · intro i s i0 i1 ⟨s1, s2⟩ k
    have e58 : iv s 58 2 = u := by rw [iv_row (s1 58 (by decide)), e2]
    have e59 : iv s 59 = iv M0 59 := by rw [iv_row (s1 59 (by decide)), iv_row (f1 59 (by decide) (by decide))]
    refine vc_keeps_52 _ s _ ⟨⟨by omega, by omega⟩, fun _ => ⟨⟨i0, i1⟩, ?_⟩, fun q => by omega⟩
    rw [e58, e59]
    refine ⟨⟨by omega, by omega⟩, fun M3 e3 => k M3 ⟨fun a ha => by rw [e3, zupr _ ha, s1 a ha], fun j hj => ?_⟩⟩
    rw [e3, ivs _ _ (by omega) hj (iv_r _ _ _), s2 j hj]
    by_cases z : j = 1501 * u + i
    · rw [if_pos z, if_pos (by omega), show j - 1501 * u = i by omega]
    · rw [if_neg z]
      by_cases y : 1501 * u ≤ j ∧ j < 1501 * u + i
      · rw [if_pos y, if_pos (by omega)]
      · rw [if_neg y, if_neg (by omega)]
theorem sp_keeps {M : am_M} (hu : 0 ≤ iv M 58 2 ∧ iv M 58 2 ≤ 10) : ∃ M', am_call t_Mo_keeps [.ref 58] M none M' ∧ (∀ a, ¬ a = 58 → ¬ a = 60 → M' a = M a) ∧ (∀ j, ¬ j = 2 → M' 58 j = M 58 j) ∧ iv M' 58 2 = min (iv M 58 2 + 1) 10 ∧
    ∀ i j, 0 ≤ i → i < min (iv M 58 2 + 1) 10 → 0 ≤ j → j < 1501 → iv M' 60 (1501 * i + j) = if i = min (iv M 58 2 + 1) 10 - 1 then iv M 59 j else if iv M 58 2 = 10 then iv M 60 (1501 * (i + 1) + j) else iv M 60 (1501 * i + j) := by
  obtain ⟨u, eu⟩ : ∃ u, u = iv M 58 2 := ⟨_, rfl⟩
  rw [← eu] at hu ⊢
  suffices hh : am_x t_Mo_keeps (0, am_ent (am_mL t_Mo_keeps) [.ref 58], [], M) (fun r M' => r = none ∧ (∀ a, ¬ a = 58 → ¬ a = 60 → M' a = M a) ∧ (∀ j, ¬ j = 2 → M' 58 j = M 58 j) ∧ iv M' 58 2 = min (u + 1) 10 ∧
    ∀ i j, 0 ≤ i → i < min (u + 1) 10 → 0 ≤ j → j < 1501 → iv M' 60 (1501 * i + j) = if i = min (u + 1) 10 - 1 then iv M 59 j else if u = 10 then iv M 60 (1501 * (i + 1) + j) else iv M 60 (1501 * i + j)) by
    obtain ⟨r, M', h1, h2, h3⟩ := am_call_ex (by exact ⟨Nat.le_of_ble_eq_true rfl, rfl⟩) hh
    subst h2
    exact ⟨M', h1, h3⟩
  refine vc_keeps M _ ⟨fun q => ?_, fun q => ?_⟩
  · rw [← eu] at q
    refine loop_up (fun i (s : am_M) => (11, [.ref 58, .int (zi i)], [], s)) 13509 (fun i s => (∀ a, ¬ a = 60 → s a = M a) ∧ ∀ j, 0 ≤ j → iv s 60 j = if j < i then iv M 60 (j + 1501) else iv M 60 j) ?_ ?_ 0 M (by omega) (by omega) ⟨fun _ _ => rfl, fun j hj => by rw [if_neg (by omega)]⟩
    · intro s ⟨s1, s2⟩
      have e58 : iv s 58 2 = 10 := by rw [iv_row (s1 58 (by decide)), ← eu, q]
      refine vc_keeps_11 _ s _ ⟨by decide, fun z => by omega, fun _ M5 e5 => ?_⟩
      refine keeps_put M5 M (u := 9) (by omega) (by rw [e5, e58]; exact (ivs _ _ (by decide) (by decide) (by decide)).trans (if_pos rfl)) (fun a a1 a2 => by rw [e5, zupr _ a1, s1 a a2]) (fun j hj => by rw [e5, zup58 _ (by decide) hj, s1 58 (by decide)]) _ (fun M' m1 m2 m3 m4 => ⟨rfl, m1, m2, by rw [m3, q]; rfl, fun i j i0 i1 j0 j1 => ?_⟩)
      rw [m4 _ (by omega)]
      by_cases z : i = 9
      · rw [if_pos (by omega), if_pos (by omega), show 1501 * i + j - 1501 * 9 = j by omega]
      · rw [if_neg (by omega), if_neg (by omega), if_pos q, e5, ivr _ (by decide), s2 _ (by omega), if_pos (by omega), show 1501 * i + j + 1501 = 1501 * (i + 1) + j by omega]
    · intro i s i0 i1 ⟨s1, s2⟩ k
      refine vc_keeps_11 _ s _ ⟨⟨by omega, by omega⟩, fun _ => ⟨⟨by omega, by omega⟩, ⟨i0, by omega⟩, fun M3 e3 => k M3 ⟨fun a ha => by rw [e3, zupr _ ha, s1 a ha], fun j hj => ?_⟩⟩, fun z => by omega⟩
      rw [e3, ivs _ _ i0 hj (iv_r _ _ _), s2 j hj, s2 (i + 1501) (by omega), if_neg (c := i + 1501 < i) (by omega)]
      by_cases z : j = i
      · rw [if_pos z, if_pos (by omega), z]
      · rw [if_neg z]
        by_cases y : j < i
        · rw [if_pos y, if_pos (by omega)]
        · rw [if_neg y, if_neg (by omega)]
  · rw [← eu] at q
    refine keeps_put M M (u := u) (by omega) eu.symm (fun _ _ _ => rfl) (fun _ _ => rfl) _ (fun M' m1 m2 m3 m4 => ⟨rfl, m1, m2, by rw [m3]; omega, fun i j i0 i1 j0 j1 => ?_⟩)
    rw [m4 _ (by omega)]
    by_cases z : i = u
    · rw [if_pos (by omega), if_pos (by omega), show 1501 * i + j - 1501 * u = j by omega]
    · rw [if_neg (by omega), if_neg (by omega), if_neg q]
/-- both histories with one state more -/
theorem arc_push {M M2 : am_M} (h : ARC M) (s : CSt M) (c1 : iv M2 12 2 = (iv M 12 2 + 1) % 10) (c2 : iv M2 12 1 = min (iv M 12 1 + 1) 10) (c3 : iv M2 12 3 = iv M 12 3)
    (c4 : ∀ j, 0 ≤ j → iv M2 14 j = if (iv M 12 2 + 1) % 10 * 1605 ≤ j ∧ j < (iv M 12 2 + 1) % 10 * 1605 + 1605 then iv M 11 (j - (iv M 12 2 + 1) % 10 * 1605) else iv M 14 j)
    (m1 : iv M2 58 2 = min (iv M 58 2 + 1) 10) (m2 : ∀ i j, 0 ≤ i → i < min (iv M 58 2 + 1) 10 → 0 ≤ j → j < 1501 → iv M2 60 (1501 * i + j) = if i = min (iv M 58 2 + 1) 10 - 1 then iv M 59 j else if iv M 58 2 = 10 then iv M 60 (1501 * (i + 1) + j) else iv M 60 (1501 * i + j)) (m3 : M2 61 = M 61) (m4 : M2 62 = M 62) : ARC M2 := by
  obtain ⟨h1, h2, h3, h4, h5, h6⟩ := h
  obtain ⟨u, eu⟩ : ∃ u, u = iv M 58 2 := ⟨_, rfl⟩
  obtain ⟨n, en⟩ : ∃ n, n = iv M 12 2 := ⟨_, rfl⟩
  rw [← eu] at h1 h2 h4 m1 m2
  rw [← en] at h3 h4 c1 c4
  rw [h2] at c2
  unfold ARC
  rw [m1, c1, c2, c3, iv_row m3, iv_row m4]
  refine ⟨by omega, rfl, by omega, fun i i0 i1 => ?_, h5, fun k k0 k1 => ⟨(h6 k k0 k1).1, (h6 k k0 k1).2.1, fun z => BKr_congr (fun j j0 j1 => ?_) (fun _ _ _ => rfl) ((h6 k k0 k1).2.2 z)⟩⟩
  · by_cases z : i = min (u + 1) 10 - 1
    · refine BKr_congr (c := iv M 11) (b := iv M 59) (fun j j0 j1 => ?_) (fun j j0 j1 => ?_) s
      · show _ = iv M2 14 _
        rw [c4 _ (by omega), if_pos (by omega)]
        congr 1
        omega
      · show _ = iv M2 60 _
        rw [m2 i j i0 i1 j0 j1, if_pos z]
    · by_cases y : u = 10
      · refine BKr_congr (fun j j0 j1 => ?_) (fun j j0 j1 => ?_) (h4 (i + 1) (by omega) (by omega))
        · show iv M 14 _ = iv M2 14 _
          rw [c4 _ (by omega), if_neg (by omega)]
          congr 1
          omega
        · show iv M 60 _ = iv M2 60 _
          rw [m2 i j i0 i1 j0 j1, if_neg z, if_pos y]
      · refine BKr_congr (fun j j0 j1 => ?_) (fun j j0 j1 => ?_) (h4 i i0 (by omega))
        · show iv M 14 _ = iv M2 14 _
          rw [c4 _ (by omega), if_neg (by omega)]
          congr 1
          omega
        · show iv M 60 _ = iv M2 60 _
          rw [m2 i j i0 i1 j0 j1, if_neg z, if_neg y]
  · show iv M 14 _ = iv M2 14 _
    rw [c4 _ (by omega), if_neg (by omega)]
