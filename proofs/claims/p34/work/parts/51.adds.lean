/-! out of the proof of whole: adds -/
def nin (D : Int → Int) (i : Int) : Int := sm (fun k => if D (k * 13) = 0 then 1 else 0) i
theorem nin_s (D : Int → Int) {i : Int} (h : 0 ≤ i) : nin D (i + 1) = nin D i + (if D (i * 13) = 0 then 1 else 0) := sm_s _ h
theorem nin_0 (D : Int → Int) : nin D 0 = 0 := rfl
theorem nin_r (D : Int → Int) : ∀ k : Nat, 0 ≤ nin D k ∧ nin D k ≤ k := by
  intro k
  induction k with
  | zero => exact ⟨Int.le_refl _, Int.le_refl _⟩
  | succ k ih =>
    have := nin_s D (i := k) (by omega)
    rw [show ((k + 1 : Nat) : Int) = k + 1 by omega, this]
    split <;> omega
theorem nin_r' (D : Int → Int) {i : Int} (h : 0 ≤ i) : 0 ≤ nin D i ∧ nin D i ≤ i := by
  have := nin_r D i.toNat
  rw [show ((i.toNat : Nat) : Int) = i by omega] at this
  exact this
def ADC (c D : Int → Int) (N d : Int) (c' : Int → Int) : Prop := c' 0 = c 0 + 1 ∧ c' 1 = c 1 + N ∧ c' 2 = c 2 + nin D N ∧ c' 3 = c 3 ∧ (∀ a, 0 ≤ a → a < 20 → c' (4 + a) = if a = c 0 then d else c (4 + a)) ∧ (∀ a, 0 ≤ a → a ≤ 20 → c' (24 + a) = if a = c 0 + 1 then c 1 + N else c (24 + a)) ∧
  (∀ o w, 0 ≤ o → o < c 1 → 0 ≤ w → w < 13 → cpt c' o w = cpt c o w) ∧ (∀ i w, 0 ≤ i → i < N → 0 ≤ w → w < 13 → cpt c' (c 1 + i) w = if w = 6 ∧ D (i * 13) = 0 then c 2 + nin D i else D (i * 13 + w))
def ADB (b G : Int → Int) (N d : Int) (b' : Int → Int) : Prop := b' 0 = b 0 + 1 ∧ (∀ a, 0 ≤ a → a < 20 → b' (1 + a) = if a = b 0 then d else b (1 + a)) ∧ (∀ a, 0 ≤ a → a < 20 → b' (21 + a) = if a = b 0 then 0 else b (21 + a)) ∧ (∀ a, 0 ≤ a → a < 20 → b' (41 + a) = if a = b 0 then N else b (41 + a)) ∧
  (∀ o w, 0 ≤ o → o < nops b → 0 ≤ w → w < 12 → pt b' o w = pt b o w) ∧ (∀ i w, 0 ≤ i → i < N → 0 ≤ w → w < 12 → pt b' (nops b + i) w = G (12 * i + w))
theorem bk_add {c b D G c' b' : Int → Int} {N d : Int} (s : BKr c b) (hc : ADC c D N d c') (hb : ADB b G N d b') (hn : b 0 < 20) (N0 : 1 ≤ N) (N1 : N ≤ 40) (tot : nops b + N ≤ 120) (ins : ia b (nops b) + nin D N ≤ 40) (dd : 0 ≤ d ∧ d ≤ 9999)
    (hd : ∀ i, 0 ≤ i → i < N → DO (fun w => D (i * 13 + w)) (fun w => G (12 * i + w))) (hw : ∀ i, 0 ≤ i → i < N → WO (fun w => G (12 * i + w))) : BKr c' b' := by
  obtain ⟨w, ⟨q0, q1, q2, q3, q4, q5⟩, q6, q7⟩ := s
  obtain ⟨c0, c1, c2, c3, c4, c5, c6, c7⟩ := hc
  obtain ⟨b0, b1, b2, b3, b4, b5⟩ := hb
  have w0 := w.n0
  have nn : 0 ≤ nops b := w.fo_nn (n := b 0) (Int.le_refl _)
  have ho : ∀ a, 0 ≤ a → a ≤ b 0 → fo b' a = fo b a := fun a a0 a1 => sm_congr (fun k k0 k1 => by rw [b3 k k0 (by omega), if_neg (by omega)])
  have hN : nops b' = nops b + N := by
    unfold nops
    rw [b0, fo_s b' w0, ho _ w0 (Int.le_refl _), b3 _ w0 hn, if_pos rfl]
  have hi0 : ∀ o, 0 ≤ o → o ≤ nops b → ia b' o = ia b o := fun o o0 o1 => sm_congr (fun k k0 k1 => by
    show (if pt b' k 0 = 0 then (1 : Int) else 0) = if pt b k 0 = 0 then 1 else 0
    rw [b4 k 0 k0 (by omega) (by decide) (by decide)])
  have g0 : ∀ i, 0 ≤ i → i < N → D (i * 13) = G (12 * i + 0) := fun i i0 i1 => by
    have := (hd i i0 i1).1
    have e : D (i * 13 + 0) = G (12 * i + 0) := this
    rw [Int.add_zero] at e
    exact e
  have hi1 : ∀ k : Nat, (k : Int) ≤ N → ia b' (nops b + k) = ia b (nops b) + nin D k := by
    intro k
    induction k with
    | zero => intro _; rw [show nops b + ((0 : Nat) : Int) = nops b by omega, hi0 _ nn (Int.le_refl _)]; show _ = _ + nin D 0; rw [nin_0]; omega
    | succ k ih =>
      intro hk
      have e := b5 k 0 (by omega) (by omega) (by decide) (by decide)
      rw [show nops b + ((k + 1 : Nat) : Int) = nops b + k + 1 by omega, ia_s b' (by omega), ih (by omega), show ((k + 1 : Nat) : Int) = (k : Int) + 1 by omega, nin_s D (by omega), e, ← g0 k (by omega) (by omega)]
      omega
  have hi2 : ∀ i, 0 ≤ i → i ≤ N → ia b' (nops b + i) = ia b (nops b) + nin D i := fun i i0 i1 => by
    have := hi1 i.toNat (by omega)
    rw [show ((i.toNat : Nat) : Int) = i by omega] at this
    exact this
  refine ⟨?_, ⟨?_, ?_, ?_, fun a a0 a1 => ?_, fun a a0 a1 => ?_, fun o o0 o1 => ?_⟩, ?_, fun a a0 a1 => ?_⟩
  · unfold WB
    rw [b0, hN]
    refine ⟨by omega, by omega, fun a a0 a1 => ?_, fun a a0 a1 => ?_, fun a a0 a1 => ?_, tot, ?_, fun o o0 o1 => ?_⟩
    · rw [b1 a a0 (by omega)]
      split
      · exact dd
      · exact w.day a a0 (by omega)
    · rw [b2 a a0 (by omega)]
      split
      · exact Or.inl rfl
      · exact w.rev a a0 (by omega)
    · rw [b3 a a0 (by omega)]
      split
      · exact ⟨N0, N1⟩
      · exact w.sz a a0 (by omega)
    · rw [hi2 N (by omega) (Int.le_refl _)]; exact ins
    · by_cases h : o < nops b
      · exact WO_congr (fun j j0 j1 => (b4 o j o0 h j0 j1).symm) (w.op o o0 h)
      · refine WO_congr (fun j j0 j1 => ?_) (hw (o - nops b) (by omega) (by omega))
        rw [← b5 (o - nops b) j (by omega) (by omega) j0 j1, show nops b + (o - nops b) = o by omega]
  · rw [c0, b0, q0]
  · rw [c1, hN, q1]
  · rw [c2, hN, hi2 N (by omega) (Int.le_refl _), q2]
  · rw [b0] at a1
    rw [c4 a a0 (by omega), b1 a a0 (by omega), q0]
    by_cases e : a = b 0
    · rw [if_pos e, if_pos e]
    · rw [if_neg e, if_neg e]; exact q3 a a0 (by omega)
  · rw [b0] at a1
    rw [c5 a a0 (by omega), q0]
    by_cases e : a = b 0 + 1
    · rw [if_pos e, e, fo_s b' w0, ho _ w0 (Int.le_refl _), b3 _ w0 hn, if_pos rfl, q1]; rfl
    · rw [if_neg e, ho a a0 (by omega)]; exact q4 a a0 (by omega)
  · rw [hN] at o1
    by_cases h : o < nops b
    · have wo := w.op o o0 h
      have ln := wo.ln
      obtain ⟨p0, p1, p2, p3, p4, p5, p6, p7⟩ := q5 o o0 h
      have e : ∀ k, 0 ≤ k → k < 13 → cpt c' o k = cpt c o k := fun k k0 k1 => c6 o k o0 (by omega) k0 k1
      have f : ∀ k, 0 ≤ k → k < 12 → pt b' o k = pt b o k := fun k k0 k1 => b4 o k o0 h k0 k1
      unfold CO
      rw [e 0 (by decide) (by decide), e 1 (by decide) (by decide), e 2 (by decide) (by decide), e 3 (by decide) (by decide), e 4 (by decide) (by decide), e 5 (by decide) (by decide), e 6 (by decide) (by decide), f 0 (by decide) (by decide), f 1 (by decide) (by decide), f 2 (by decide) (by decide), f 3 (by decide) (by decide), f 4 (by decide) (by decide), f 5 (by decide) (by decide), hi0 o o0 (by omega)]
      exact ⟨p0, p1, p2, p3, p4, p5, p6, fun k k0 k1 => by rw [e _ (by omega) (by omega), f _ (by omega) (by omega)]; exact p7 k k0 k1⟩
    · obtain ⟨i, ei⟩ : ∃ i, i = o - nops b := ⟨_, rfl⟩
      have eo : o = nops b + i := by omega
      have i0 : 0 ≤ i := by omega
      have i1 : i < N := by omega
      subst eo
      have ln := (hw i i0 i1).ln
      obtain ⟨p0, p1, p2, p3, p4, p5, p6, p7⟩ := hd i i0 i1
      have f : ∀ k, 0 ≤ k → k < 12 → pt b' (nops b + i) k = G (12 * i + k) := fun k k0 k1 => b5 i k i0 i1 k0 k1
      have e : ∀ k, 0 ≤ k → k < 13 → ¬ k = 6 → cpt c' (nops b + i) k = D (i * 13 + k) := fun k k0 k1 k6 => by
        rw [← q1, c7 i k i0 i1 k0 k1, if_neg (fun z => k6 z.1)]
      have e6 : cpt c' (nops b + i) 6 = if D (i * 13) = 0 then c 2 + nin D i else D (i * 13 + 6) := by
        rw [← q1, c7 i 6 i0 i1 (by decide) (by decide)]
        by_cases z : D (i * 13) = 0
        · rw [if_pos z, if_pos ⟨rfl, z⟩]
        · rw [if_neg z, if_neg (fun y => z y.2)]
      unfold CO
      rw [e 0 (by decide) (by decide) (by decide), e 1 (by decide) (by decide) (by decide), e 2 (by decide) (by decide) (by decide), e 3 (by decide) (by decide) (by decide), e 4 (by decide) (by decide) (by decide), e 5 (by decide) (by decide) (by decide), e6, f 0 (by decide) (by decide), f 1 (by decide) (by decide), f 2 (by decide) (by decide), f 3 (by decide) (by decide), f 4 (by decide) (by decide), f 5 (by decide) (by decide), hi2 i i0 (by omega)]
      refine ⟨p0, p1, p2, p3, p4, p5, ?_, fun k k0 k1 => ?_⟩
      · rw [← g0 i i0 i1, q2]
        by_cases z : D (i * 13) = 0
        · rw [if_pos z, if_pos z]
        · rw [if_neg z, if_neg z]; exact p6
      · rw [e _ (by omega) (by omega) (by omega), f _ (by omega) (by omega)]; exact p7 k k0 k1
  · rw [c3]; exact q6
  · rw [c3, q7 a a0 a1, b0, b2 a a0 a1]
    by_cases e : a = b 0
    · rw [if_neg (by omega), if_pos (by omega), if_pos e]
    · rw [if_neg (c := a = b 0) e]
      by_cases z : a < b 0
      · rw [if_pos z, if_pos (by omega)]
      · rw [if_neg z, if_neg (by omega)]
set_option maxRecDepth 100000 in
theorem vc_hasRoomFor  (M : am_M) (Q : Option Value → am_M → Prop) (hv : ((iv M 11 0) < 20 → (zr ((iv M 11 1) + (iv M 4 1))) ∧ ((120 < ((iv M 11 1) + (iv M 4 1)) → Q (some (.int (zi 0))) M) ∧ (((iv M 11 1) + (iv M 4 1)) ≤ 120 → (zr ((iv M 11 2) + (iv M 4 2))) ∧ ((40 < ((iv M 11 2) + (iv M 4 2)) → Q (some (.int (zi 0))) M) ∧ (((iv M 11 2) + (iv M 4 2)) ≤ 40 → Q (some (.int (zi 1))) M))))) ∧ (20 ≤ (iv M 11 0) → Q (some (.int (zi 0))) M)) : am_x t_Amd_hasRoomFor (0, am_ent (am_mL t_Amd_hasRoomFor) [.ref 9, .ref 4], [], M) Q := by
  refine am_xn 0 (c1 := (0, [.ref 9, .ref 4], [], M)) rfl ?_
  refine am_xn 1 (c1 := (1, [.ref 9, .ref 4], [.ref 9], M)) rfl ?_
  refine am_xc t_Amd_size (.invokevirtual 31) 31 (av := [.ref 9]) (rest := []) (rv := some (.int (zi (iv M 11 0)))) (M' := M) rfl rfl rfl rfl (Nat.le_of_ble_eq_true rfl) (fun _ => rfl) (sp_c_size M) ?_
  refine am_xn 0 (c1 := (4, [.ref 9, .ref 4], [.int (zi (iv M 11 0))], M)) rfl ?_
  refine am_xn 2 (c1 := (if zi (iv M 11 0) < zi 20 then 9 else 41, [.ref 9, .ref 4], [], M)) rfl (am_xlt (iv_r _ _ _) (by decide) (fun h => ?_) (fun h => ?_))
  · replace hv := hv.1 h
    refine am_xn 1 (c1 := (10, [.ref 9, .ref 4], [.ref 9], M)) rfl ?_
    refine am_xc t_Amd_operations (.invokevirtual 42) 42 (av := [.ref 9]) (rest := []) (rv := some (.int (zi (iv M 11 1)))) (M' := M) rfl rfl rfl rfl (Nat.le_of_ble_eq_true rfl) (fun _ => rfl) (sp_c_operations M) ?_
    refine am_xn 0 (c1 := (13, [.ref 9, .ref 4], [.int (zi (iv M 11 1))], M)) rfl ?_
    refine am_xn 1 (c1 := (14, [.ref 9, .ref 4], [.ref 4, .int (zi (iv M 11 1))], M)) rfl ?_
    refine am_xc t_Dra_size (.invokevirtual 45) 45 (av := [.ref 4]) (rest := [.int (zi (iv M 11 1))]) (rv := some (.int (zi (iv M 4 1)))) (M' := M) rfl rfl rfl rfl (Nat.le_of_ble_eq_true rfl) (fun _ => rfl) (sp_d_size M) ?_
    refine am_xn 0 (c1 := (17, [.ref 9, .ref 4], [.int (zi (iv M 4 1)), .int (zi (iv M 11 1))], M)) rfl ?_
    refine am_xiadd 1 (iv M 11 1) (iv M 4 1) (pc := 18) (ls := [.ref 9, .ref 4]) (st := []) rfl ?_
    obtain ⟨r1, hv⟩ := hv
    refine am_xn 2 (c1 := (if zi 120 < zi ((iv M 11 1) + (iv M 4 1)) then 41 else 23, [.ref 9, .ref 4], [], M)) rfl (am_xlt (by decide) r1 (fun h => ?_) (fun h => ?_))
    · replace hv := hv.1 h
      refine am_xn 1 (c1 := (42, [.ref 9, .ref 4], [.int (zi 0)], M)) rfl ?_
      exact am_xr (some (.int (zi 0))) ⟨rfl, rfl, .boolean, rfl, rfl⟩ hv
    · replace hv := hv.2 h
      refine am_xn 1 (c1 := (24, [.ref 9, .ref 4], [.ref 9], M)) rfl ?_
      refine am_xc t_Amd_identities (.invokevirtual 48) 48 (av := [.ref 9]) (rest := []) (rv := some (.int (zi (iv M 11 2)))) (M' := M) rfl rfl rfl rfl (Nat.le_of_ble_eq_true rfl) (fun _ => rfl) (sp_c_identities M) ?_
      refine am_xn 0 (c1 := (27, [.ref 9, .ref 4], [.int (zi (iv M 11 2))], M)) rfl ?_
      refine am_xn 1 (c1 := (28, [.ref 9, .ref 4], [.ref 4, .int (zi (iv M 11 2))], M)) rfl ?_
      refine am_xc t_Dra_inserts (.invokevirtual 51) 51 (av := [.ref 4]) (rest := [.int (zi (iv M 11 2))]) (rv := some (.int (zi (iv M 4 2)))) (M' := M) rfl rfl rfl rfl (Nat.le_of_ble_eq_true rfl) (fun _ => rfl) (sp_d_inserts M) ?_
      refine am_xn 0 (c1 := (31, [.ref 9, .ref 4], [.int (zi (iv M 4 2)), .int (zi (iv M 11 2))], M)) rfl ?_
      refine am_xiadd 1 (iv M 11 2) (iv M 4 2) (pc := 32) (ls := [.ref 9, .ref 4]) (st := []) rfl ?_
      obtain ⟨r2, hv⟩ := hv
      refine am_xn 2 (c1 := (if zi 40 < zi ((iv M 11 2) + (iv M 4 2)) then 41 else 37, [.ref 9, .ref 4], [], M)) rfl (am_xlt (by decide) r2 (fun h => ?_) (fun h => ?_))
      · replace hv := hv.1 h
        refine am_xn 1 (c1 := (42, [.ref 9, .ref 4], [.int (zi 0)], M)) rfl ?_
        exact am_xr (some (.int (zi 0))) ⟨rfl, rfl, .boolean, rfl, rfl⟩ hv
      · replace hv := hv.2 h
        refine am_xn 2 (c1 := (42, [.ref 9, .ref 4], [.int (zi 1)], M)) rfl ?_
        exact am_xr (some (.int (zi 1))) ⟨rfl, rfl, .boolean, rfl, rfl⟩ hv
  · replace hv := hv.2 h
    refine am_xn 1 (c1 := (42, [.ref 9, .ref 4], [.int (zi 0)], M)) rfl ?_
    exact am_xr (some (.int (zi 0))) ⟨rfl, rfl, .boolean, rfl, rfl⟩ hv
theorem sp_hasRoomFor (M : am_M) (g : zr (iv M 11 1 + iv M 4 1) ∧ zr (iv M 11 2 + iv M 4 2)) : am_call t_Amd_hasRoomFor [.ref 9, .ref 4] M (some (.int (zi (if iv M 11 0 < 20 ∧ iv M 11 1 + iv M 4 1 ≤ 120 ∧ iv M 11 2 + iv M 4 2 ≤ 40 then 1 else 0)))) M := by
  refine am_call_of ⟨Nat.le_of_ble_eq_true rfl, rfl⟩ (vc_hasRoomFor M _ ⟨fun h0 => ⟨g.1, fun h1 => ⟨?_, rfl⟩, fun h1 => ⟨g.2, fun h2 => ⟨?_, rfl⟩, fun h2 => ⟨?_, rfl⟩⟩⟩, fun h0 => ⟨?_, rfl⟩⟩)
  · rw [if_neg (by omega)]
  · rw [if_neg (by omega)]
  · rw [if_pos ⟨h0, h1, h2⟩]
  · rw [if_neg (by omega)]
set_option maxRecDepth 100000 in
theorem vc_add (d : Int) (M : am_M) (Q : Option Value → am_M → Prop) (hv : (0 ≤ (0 : Int) ∧ 0 ≤ (45 + ((iv M 11 1) * 13)) ∧ 0 ≤ ((iv M 4 1) * 13) ∧ (0 : Int) + ((iv M 4 1) * 13) ≤ 520 ∧ (45 + ((iv M 11 1) * 13)) + ((iv M 4 1) * 13) ≤ 1605) ∧ (∀ M1, M1 = zcp M 6 11 0 (45 + ((iv M 11 1) * 13)) ((iv M 4 1) * 13) → am_x t_Amd_add (46, [.ref 9, .null, .int (zi d), .null, .int (zi ((iv M 11 1) + (iv M 4 1))), .null, .int (zi (iv M 11 1))], [], M1) Q)) : am_x t_Amd_add (0, am_ent (am_mL t_Amd_add) [.ref 9, .ref 4, .int (zi d)], [], M) Q := by
  refine am_xn 0 (c1 := (0, [.ref 9, .ref 4, .int (zi d), .null, .null, .null, .null], [], M)) rfl ?_
  refine am_xn 1 (c1 := (1, [.ref 9, .ref 4, .int (zi d), .null, .null, .null, .null], [.ref 9], M)) rfl ?_
  refine am_xc t_Amd_operations (.invokevirtual 42) 42 (av := [.ref 9]) (rest := []) (rv := some (.int (zi (iv M 11 1)))) (M' := M) rfl rfl rfl rfl (Nat.le_of_ble_eq_true rfl) (fun _ => rfl) (sp_c_operations M) ?_
  refine am_xn 0 (c1 := (4, [.ref 9, .ref 4, .int (zi d), .null, .null, .null, .null], [.int (zi (iv M 11 1))], M)) rfl ?_
  refine am_xn 3 (c1 := (7, [.ref 9, .ref 4, .int (zi d), .int (zi (iv M 11 1)), .null, .null, .null], [.ref 4, .int (zi (iv M 11 1))], M)) rfl ?_
  refine am_xc t_Dra_size (.invokevirtual 45) 45 (av := [.ref 4]) (rest := [.int (zi (iv M 11 1))]) (rv := some (.int (zi (iv M 4 1)))) (M' := M) rfl rfl rfl rfl (Nat.le_of_ble_eq_true rfl) (fun _ => rfl) (sp_d_size M) ?_
  refine am_xn 0 (c1 := (10, [.ref 9, .ref 4, .int (zi d), .int (zi (iv M 11 1)), .null, .null, .null], [.int (zi (iv M 4 1)), .int (zi (iv M 11 1))], M)) rfl ?_
  refine am_xiadd 1 (iv M 11 1) (iv M 4 1) (pc := 11) (ls := [.ref 9, .ref 4, .int (zi d), .int (zi (iv M 11 1)), .null, .null, .null]) (st := []) rfl ?_
  refine am_ximul 5 (iv M 11 1) 13 (pc := 19) (ls := [.ref 9, .ref 4, .int (zi d), .int (zi (iv M 11 1)), .int (zi ((iv M 11 1) + (iv M 4 1))), .null, .null]) (st := [.int (zi 45)]) rfl ?_
  refine am_xiadd 1 45 ((iv M 11 1) * 13) (pc := 20) (ls := [.ref 9, .ref 4, .int (zi d), .int (zi (iv M 11 1)), .int (zi ((iv M 11 1) + (iv M 4 1))), .null, .null]) (st := []) rfl ?_
  refine am_xn 8 (c1 := (34, [.ref 9, .ref 4, .int (zi d), .int (zi (iv M 11 1)), .int (zi ((iv M 11 1) + (iv M 4 1))), .int (zi (45 + ((iv M 11 1) * 13))), .null], [.ref 4, .int (zi (45 + ((iv M 11 1) * 13))), .int (zi 0), .ref 5, .ref 10], M)) rfl ?_
  refine am_xc t_Dra_size (.invokevirtual 45) 45 (av := [.ref 4]) (rest := [.int (zi (45 + ((iv M 11 1) * 13))), .int (zi 0), .ref 5, .ref 10]) (rv := some (.int (zi (iv M 4 1)))) (M' := M) rfl rfl rfl rfl (Nat.le_of_ble_eq_true rfl) (fun _ => rfl) (sp_d_size M) ?_
  refine am_xn 0 (c1 := (37, [.ref 9, .ref 4, .int (zi d), .int (zi (iv M 11 1)), .int (zi ((iv M 11 1) + (iv M 4 1))), .int (zi (45 + ((iv M 11 1) * 13))), .null], [.int (zi (iv M 4 1)), .int (zi (45 + ((iv M 11 1) * 13))), .int (zi 0), .ref 5, .ref 10], M)) rfl ?_
  refine am_ximul 2 (iv M 4 1) 13 (pc := 40) (ls := [.ref 9, .ref 4, .int (zi d), .int (zi (iv M 11 1)), .int (zi ((iv M 11 1) + (iv M 4 1))), .int (zi (45 + ((iv M 11 1) * 13))), .null]) (st := [.int (zi (45 + ((iv M 11 1) * 13))), .int (zi 0), .ref 5, .ref 10]) rfl ?_
  obtain ⟨g, hv⟩ := hv
  obtain ⟨M1, eM1⟩ : ∃ m, m = zcp M 6 11 0 (45 + ((iv M 11 1) * 13)) ((iv M 4 1) * 13) := ⟨_, rfl⟩
  replace hv := hv M1 eM1
  refine am_xc t_Row_take (.invokevirtual 55) 55 (av := [.ref 10, .ref 5, .int (zi 0), .int (zi (45 + ((iv M 11 1) * 13))), .int (zi ((iv M 4 1) * 13))]) (rest := []) (rv := none) (M' := M1) rfl rfl rfl rfl (Nat.le_of_ble_eq_true rfl) (fun _ => rfl) (by rw [eM1]; exact sp_take_10_5 M 0 (45 + ((iv M 11 1) * 13)) ((iv M 4 1) * 13) g) ?_
  refine am_xn 0 (c1 := (43, [.ref 9, .ref 4, .int (zi d), .int (zi (iv M 11 1)), .int (zi ((iv M 11 1) + (iv M 4 1))), .int (zi (45 + ((iv M 11 1) * 13))), .null], [], M1)) rfl ?_
  refine am_xn 2 (c1 := (46, [.ref 9, .ref 4, .int (zi d), .int (zi (iv M 11 1)), .int (zi ((iv M 11 1) + (iv M 4 1))), .int (zi (45 + ((iv M 11 1) * 13))), .int (zi (iv M 11 1))], [], M1)) rfl ?_
  refine am_xf 1 ?_
  refine am_xf 3 ?_
  refine am_xf 5 ?_
  exact hv
set_option maxRecDepth 100000 in
theorem vc_add_46 (x2 : Int) (x4 : Int) (x6 : Int) (M : am_M) (Q : Option Value → am_M → Prop) (hv : (zr x6) ∧ ((zr x4) ∧ ((x6 < x4 → (0 ≤ x6 ∧ x6 < 120 ∧ 0 ≤ (0 : Int) ∧ (0 : Int) < 13) ∧ (((cpt (iv M 11) x6 0) = 0 → (0 ≤ ((45 + (x6 * 13)) + 6) ∧ ((45 + (x6 * 13)) + 6) < 1605) ∧ (∀ M3, M3 = zup M 11 ((45 + (x6 * 13)) + 6) (iv M 11 2) → (0 ≤ (2 : Int) ∧ (2 : Int) < 1605) ∧ (∀ M4, M4 = zup M3 11 2 ((iv M3 11 2) + 1) → am_x t_Amd_add (46, [.ref 9, .null, .int (zi x2), .null, .int (zi x4), .null, .int (zi (x6 + 1))], [], M4) Q))) ∧ (¬ (cpt (iv M 11) x6 0) = 0 → am_x t_Amd_add (46, [.ref 9, .null, .int (zi x2), .null, .int (zi x4), .null, .int (zi (x6 + 1))], [], M) Q))) ∧ (x4 ≤ x6 → (0 ≤ (iv M 11 0) ∧ (iv M 11 0) ≤ 20) ∧ (∀ M5, M5 = zup M 11 (4 + (iv M 11 0)) x2 → (0 ≤ (0 : Int) ∧ (0 : Int) < 1605) ∧ (∀ M6, M6 = zup M5 11 0 ((iv M5 11 0) + 1) → (0 ≤ (24 + (iv M6 11 0)) ∧ (24 + (iv M6 11 0)) < 1605) ∧ (∀ M7, M7 = zup M6 11 (24 + (iv M6 11 0)) x4 → (0 ≤ (1 : Int) ∧ (1 : Int) < 1605) ∧ (∀ M8, M8 = zup M7 11 1 x4 → Q none M8)))))))) : am_x t_Amd_add (46, [.ref 9, .null, .int (zi x2), .null, .int (zi x4), .null, .int (zi x6)], [], M) Q := by
  obtain ⟨r1, hv⟩ := hv
  obtain ⟨r2, hv⟩ := hv
  refine am_xn 3 (c1 := (if zi x6 < zi x4 then 53 else 105, [.ref 9, .null, .int (zi x2), .null, .int (zi x4), .null, .int (zi x6)], [], M)) rfl (am_xlt r1 r2 (fun h => ?_) (fun h => ?_))
  · replace hv := hv.1 h
    refine am_xn 3 (c1 := (57, [.ref 9, .null, .int (zi x2), .null, .int (zi x4), .null, .int (zi x6)], [.int (zi 0), .int (zi x6), .ref 9], M)) rfl ?_
    obtain ⟨g, hv⟩ := hv
    refine am_xc t_Amd_cell (.invokevirtual 59) 59 (av := [.ref 9, .int (zi x6), .int (zi 0)]) (rest := []) (rv := some (.int (zi (cpt (iv M 11) x6 0)))) (M' := M) rfl rfl rfl rfl (Nat.le_of_ble_eq_true rfl) (fun _ => rfl) (sp_c_cell M x6 0 g) ?_
    refine am_xn 0 (c1 := (60, [.ref 9, .null, .int (zi x2), .null, .int (zi x4), .null, .int (zi x6)], [.int (zi (cpt (iv M 11) x6 0))], M)) rfl ?_
    refine am_xn 1 (c1 := (if zi (cpt (iv M 11) x6 0) = zi 0 then 63 else 99, [.ref 9, .null, .int (zi x2), .null, .int (zi x4), .null, .int (zi x6)], [], M)) rfl (am_xeq (iv_r _ 11 _) (by decide) (fun h => ?_) (fun h => ?_))
    · replace hv := hv.1 h
      refine am_ximul 6 x6 13 (pc := 74) (ls := [.ref 9, .null, .int (zi x2), .null, .int (zi x4), .null, .int (zi x6)]) (st := [.int (zi 45), .ref 10]) rfl ?_
      refine am_xiadd 1 45 (x6 * 13) (pc := 75) (ls := [.ref 9, .null, .int (zi x2), .null, .int (zi x4), .null, .int (zi x6)]) (st := [.ref 10]) rfl ?_
      refine am_xiadd 2 (45 + (x6 * 13)) 6 (pc := 78) (ls := [.ref 9, .null, .int (zi x2), .null, .int (zi x4), .null, .int (zi x6)]) (st := [.ref 10]) rfl ?_
      refine am_xn 1 (c1 := (79, [.ref 9, .null, .int (zi x2), .null, .int (zi x4), .null, .int (zi x6)], [.ref 9, .int (zi ((45 + (x6 * 13)) + 6)), .ref 10], M)) rfl ?_
      refine am_xc t_Amd_identities (.invokevirtual 48) 48 (av := [.ref 9]) (rest := [.int (zi ((45 + (x6 * 13)) + 6)), .ref 10]) (rv := some (.int (zi (iv M 11 2)))) (M' := M) rfl rfl rfl rfl (Nat.le_of_ble_eq_true rfl) (fun _ => rfl) (sp_c_identities M) ?_
      refine am_xn 0 (c1 := (82, [.ref 9, .null, .int (zi x2), .null, .int (zi x4), .null, .int (zi x6)], [.int (zi (iv M 11 2)), .int (zi ((45 + (x6 * 13)) + 6)), .ref 10], M)) rfl ?_
      obtain ⟨g, hv⟩ := hv
      obtain ⟨M3, eM3⟩ : ∃ m, m = zup M 11 ((45 + (x6 * 13)) + 6) (iv M 11 2) := ⟨_, rfl⟩
      replace hv := hv M3 eM3
      refine am_xc t_Row_set (.invokevirtual 24) 24 (av := [.ref 10, .int (zi ((45 + (x6 * 13)) + 6)), .int (zi (iv M 11 2))]) (rest := []) (rv := none) (M' := M3) rfl rfl rfl rfl (Nat.le_of_ble_eq_true rfl) (fun _ => rfl) (by rw [eM3]; exact sp_set_10 M ((45 + (x6 * 13)) + 6) (iv M 11 2) g) ?_
      refine am_xn 0 (c1 := (85, [.ref 9, .null, .int (zi x2), .null, .int (zi x4), .null, .int (zi x6)], [], M3)) rfl ?_
      refine am_xn 4 (c1 := (91, [.ref 9, .null, .int (zi x2), .null, .int (zi x4), .null, .int (zi x6)], [.ref 9, .int (zi 2), .ref 10], M3)) rfl ?_
      refine am_xc t_Amd_identities (.invokevirtual 48) 48 (av := [.ref 9]) (rest := [.int (zi 2), .ref 10]) (rv := some (.int (zi (iv M3 11 2)))) (M' := M3) rfl rfl rfl rfl (Nat.le_of_ble_eq_true rfl) (fun _ => rfl) (sp_c_identities M3) ?_
      refine am_xn 0 (c1 := (94, [.ref 9, .null, .int (zi x2), .null, .int (zi x4), .null, .int (zi x6)], [.int (zi (iv M3 11 2)), .int (zi 2), .ref 10], M3)) rfl ?_
      refine am_xiadd 2 (iv M3 11 2) 1 (pc := 96) (ls := [.ref 9, .null, .int (zi x2), .null, .int (zi x4), .null, .int (zi x6)]) (st := [.int (zi 2), .ref 10]) rfl ?_
      obtain ⟨g, hv⟩ := hv
      obtain ⟨M4, eM4⟩ : ∃ m, m = zup M3 11 2 ((iv M3 11 2) + 1) := ⟨_, rfl⟩
      replace hv := hv M4 eM4
      refine am_xc t_Row_set (.invokevirtual 24) 24 (av := [.ref 10, .int (zi 2), .int (zi ((iv M3 11 2) + 1))]) (rest := []) (rv := none) (M' := M4) rfl rfl rfl rfl (Nat.le_of_ble_eq_true rfl) (fun _ => rfl) (by rw [eM4]; exact sp_set_10 M3 2 ((iv M3 11 2) + 1) g) ?_
      refine am_xn 0 (c1 := (99, [.ref 9, .null, .int (zi x2), .null, .int (zi x4), .null, .int (zi x6)], [], M4)) rfl ?_
      refine am_xn 1 (c1 := (102, [.ref 9, .null, .int (zi x2), .null, .int (zi x4), .null, .int (zi x6 + zi 1)], [], M4)) rfl ?_
      rw [zi_add]
      refine am_xn 1 (c1 := (46, [.ref 9, .null, .int (zi x2), .null, .int (zi x4), .null, .int (zi (x6 + 1))], [], M4)) rfl ?_
      exact hv
    · replace hv := hv.2 h
      refine am_xn 1 (c1 := (102, [.ref 9, .null, .int (zi x2), .null, .int (zi x4), .null, .int (zi x6 + zi 1)], [], M)) rfl ?_
      rw [zi_add]
      refine am_xn 1 (c1 := (46, [.ref 9, .null, .int (zi x2), .null, .int (zi x4), .null, .int (zi (x6 + 1))], [], M)) rfl ?_
      exact hv
  · replace hv := hv.2 h
    refine am_xn 2 (c1 := (107, [.ref 9, .null, .int (zi x2), .null, .int (zi x4), .null, .int (zi x6)], [.ref 9, .ref 9], M)) rfl ?_
    refine am_xc t_Amd_size (.invokevirtual 31) 31 (av := [.ref 9]) (rest := [.ref 9]) (rv := some (.int (zi (iv M 11 0)))) (M' := M) rfl rfl rfl rfl (Nat.le_of_ble_eq_true rfl) (fun _ => rfl) (sp_c_size M) ?_
    refine am_xn 0 (c1 := (110, [.ref 9, .null, .int (zi x2), .null, .int (zi x4), .null, .int (zi x6)], [.int (zi (iv M 11 0)), .ref 9], M)) rfl ?_
    refine am_xn 1 (c1 := (111, [.ref 9, .null, .int (zi x2), .null, .int (zi x4), .null, .int (zi x6)], [.int (zi x2), .int (zi (iv M 11 0)), .ref 9], M)) rfl ?_
    obtain ⟨g, hv⟩ := hv
    obtain ⟨M5, eM5⟩ : ∃ m, m = zup M 11 (4 + (iv M 11 0)) x2 := ⟨_, rfl⟩
    replace hv := hv M5 eM5
    refine am_xc t_Amd_setDay (.invokevirtual 63) 63 (av := [.ref 9, .int (zi (iv M 11 0)), .int (zi x2)]) (rest := []) (rv := none) (M' := M5) rfl rfl rfl rfl (Nat.le_of_ble_eq_true rfl) (fun _ => rfl) (by rw [eM5]; exact sp_c_setDay M (iv M 11 0) x2 g) ?_
    refine am_xn 0 (c1 := (114, [.ref 9, .null, .int (zi x2), .null, .int (zi x4), .null, .int (zi x6)], [], M5)) rfl ?_
    refine am_xn 4 (c1 := (120, [.ref 9, .null, .int (zi x2), .null, .int (zi x4), .null, .int (zi x6)], [.ref 9, .int (zi 0), .ref 10], M5)) rfl ?_
    refine am_xc t_Amd_size (.invokevirtual 31) 31 (av := [.ref 9]) (rest := [.int (zi 0), .ref 10]) (rv := some (.int (zi (iv M5 11 0)))) (M' := M5) rfl rfl rfl rfl (Nat.le_of_ble_eq_true rfl) (fun _ => rfl) (sp_c_size M5) ?_
    refine am_xn 0 (c1 := (123, [.ref 9, .null, .int (zi x2), .null, .int (zi x4), .null, .int (zi x6)], [.int (zi (iv M5 11 0)), .int (zi 0), .ref 10], M5)) rfl ?_
    refine am_xiadd 2 (iv M5 11 0) 1 (pc := 125) (ls := [.ref 9, .null, .int (zi x2), .null, .int (zi x4), .null, .int (zi x6)]) (st := [.int (zi 0), .ref 10]) rfl ?_
    obtain ⟨g, hv⟩ := hv
    obtain ⟨M6, eM6⟩ : ∃ m, m = zup M5 11 0 ((iv M5 11 0) + 1) := ⟨_, rfl⟩
    replace hv := hv M6 eM6
    refine am_xc t_Row_set (.invokevirtual 24) 24 (av := [.ref 10, .int (zi 0), .int (zi ((iv M5 11 0) + 1))]) (rest := []) (rv := none) (M' := M6) rfl rfl rfl rfl (Nat.le_of_ble_eq_true rfl) (fun _ => rfl) (by rw [eM6]; exact sp_set_10 M5 0 ((iv M5 11 0) + 1) g) ?_
    refine am_xn 0 (c1 := (128, [.ref 9, .null, .int (zi x2), .null, .int (zi x4), .null, .int (zi x6)], [], M6)) rfl ?_
    refine am_xn 4 (c1 := (135, [.ref 9, .null, .int (zi x2), .null, .int (zi x4), .null, .int (zi x6)], [.ref 9, .int (zi 24), .ref 10], M6)) rfl ?_
    refine am_xc t_Amd_size (.invokevirtual 31) 31 (av := [.ref 9]) (rest := [.int (zi 24), .ref 10]) (rv := some (.int (zi (iv M6 11 0)))) (M' := M6) rfl rfl rfl rfl (Nat.le_of_ble_eq_true rfl) (fun _ => rfl) (sp_c_size M6) ?_
    refine am_xn 0 (c1 := (138, [.ref 9, .null, .int (zi x2), .null, .int (zi x4), .null, .int (zi x6)], [.int (zi (iv M6 11 0)), .int (zi 24), .ref 10], M6)) rfl ?_
    refine am_xiadd 1 24 (iv M6 11 0) (pc := 139) (ls := [.ref 9, .null, .int (zi x2), .null, .int (zi x4), .null, .int (zi x6)]) (st := [.ref 10]) rfl ?_
    refine am_xn 1 (c1 := (141, [.ref 9, .null, .int (zi x2), .null, .int (zi x4), .null, .int (zi x6)], [.int (zi x4), .int (zi (24 + (iv M6 11 0))), .ref 10], M6)) rfl ?_
    obtain ⟨g, hv⟩ := hv
    obtain ⟨M7, eM7⟩ : ∃ m, m = zup M6 11 (24 + (iv M6 11 0)) x4 := ⟨_, rfl⟩
    replace hv := hv M7 eM7
    refine am_xc t_Row_set (.invokevirtual 24) 24 (av := [.ref 10, .int (zi (24 + (iv M6 11 0))), .int (zi x4)]) (rest := []) (rv := none) (M' := M7) rfl rfl rfl rfl (Nat.le_of_ble_eq_true rfl) (fun _ => rfl) (by rw [eM7]; exact sp_set_10 M6 (24 + (iv M6 11 0)) x4 g) ?_
    refine am_xn 0 (c1 := (144, [.ref 9, .null, .int (zi x2), .null, .int (zi x4), .null, .int (zi x6)], [], M7)) rfl ?_
    refine am_xn 4 (c1 := (151, [.ref 9, .null, .int (zi x2), .null, .int (zi x4), .null, .int (zi x6)], [.int (zi x4), .int (zi 1), .ref 10], M7)) rfl ?_
    obtain ⟨g, hv⟩ := hv
    obtain ⟨M8, eM8⟩ : ∃ m, m = zup M7 11 1 x4 := ⟨_, rfl⟩
    replace hv := hv M8 eM8
    refine am_xc t_Row_set (.invokevirtual 24) 24 (av := [.ref 10, .int (zi 1), .int (zi x4)]) (rest := []) (rv := none) (M' := M8) rfl rfl rfl rfl (Nat.le_of_ble_eq_true rfl) (fun _ => rfl) (by rw [eM8]; exact sp_set_10 M7 1 x4 g) ?_
    refine am_xn 0 (c1 := (154, [.ref 9, .null, .int (zi x2), .null, .int (zi x4), .null, .int (zi x6)], [], M8)) rfl ?_
    exact am_xr none ⟨rfl, rfl, rfl⟩ hv
set_option maxRecDepth 100000 in
theorem vc_addDraft (d : Int) (M : am_M) (Q : Option Value → am_M → Prop) (hv : (zr (iv M 11 1 + iv M 4 1) ∧ zr (iv M 11 2 + iv M 4 2)) ∧ ((iv M 11 0 < 20 ∧ iv M 11 1 + iv M 4 1 ≤ 120 ∧ iv M 11 2 + iv M 4 2 ≤ 40 → ∃ M1, am_call t_Arc_push [.ref 12, .ref 9] M none M1 ∧ (∃ M2, am_call t_Amd_add [.ref 9, .ref 4, .int (zi d)] M1 none M2 ∧ (Q (some (.int (zi ((iv M2 11 0) - 1)))) M2))) ∧ (¬ (iv M 11 0 < 20 ∧ iv M 11 1 + iv M 4 1 ≤ 120 ∧ iv M 11 2 + iv M 4 2 ≤ 40) → Q (some (.int (zi (-4)))) M))) : am_x t_SB_addDraft (0, am_ent (am_mL t_SB_addDraft) [.ref 0, .int (zi d)], [], M) Q := by
  refine am_xn 0 (c1 := (0, [.ref 0, .int (zi d)], [], M)) rfl ?_
  refine am_xn 5 (c1 := (11, [.ref 0, .int (zi d)], [.ref 4, .ref 9], M)) rfl ?_
  obtain ⟨g, hv⟩ := hv
  by_cases c3 : iv M 11 0 < 20 ∧ iv M 11 1 + iv M 4 1 ≤ 120 ∧ iv M 11 2 + iv M 4 2 ≤ 40
  · replace hv := hv.1 c3
    refine am_xc t_Amd_hasRoomFor (.invokevirtual 84) 84 (av := [.ref 9, .ref 4]) (rest := []) (rv := some (.int (zi 1))) (M' := M) rfl rfl rfl rfl (Nat.le_of_ble_eq_true rfl) (fun _ => rfl) (by have q := sp_hasRoomFor M g; rwa [if_pos c3] at q) ?_
    refine am_xn 0 (c1 := (14, [.ref 0, .int (zi d)], [.int (zi 1)], M)) rfl ?_
    refine am_xn 5 (c1 := (28, [.ref 0, .int (zi d)], [.ref 9, .ref 12], M)) rfl ?_
    obtain ⟨M1, hc, hv⟩ := hv
    refine am_xc t_Arc_push (.invokevirtual 88) 88 (av := [.ref 12, .ref 9]) (rest := []) (rv := none) (M' := M1) rfl rfl rfl rfl (Nat.le_of_ble_eq_true rfl) (fun _ => rfl) (hc) ?_
    refine am_xn 0 (c1 := (31, [.ref 0, .int (zi d)], [], M1)) rfl ?_
    refine am_xn 6 (c1 := (43, [.ref 0, .int (zi d)], [.int (zi d), .ref 4, .ref 9], M1)) rfl ?_
    obtain ⟨M2, hc, hv⟩ := hv
    refine am_xc t_Amd_add (.invokevirtual 92) 92 (av := [.ref 9, .ref 4, .int (zi d)]) (rest := []) (rv := none) (M' := M2) rfl rfl rfl rfl (Nat.le_of_ble_eq_true rfl) (fun _ => rfl) (hc) ?_
    refine am_xn 0 (c1 := (46, [.ref 0, .int (zi d)], [], M2)) rfl ?_
    refine am_xn 2 (c1 := (50, [.ref 0, .int (zi d)], [.ref 9], M2)) rfl ?_
    refine am_xc t_Amd_size (.invokevirtual 96) 96 (av := [.ref 9]) (rest := []) (rv := some (.int (zi (iv M2 11 0)))) (M' := M2) rfl rfl rfl rfl (Nat.le_of_ble_eq_true rfl) (fun _ => rfl) (sp_c_size M2) ?_
    refine am_xn 0 (c1 := (53, [.ref 0, .int (zi d)], [.int (zi (iv M2 11 0))], M2)) rfl ?_
    refine am_xisub 2 (iv M2 11 0) 1 (pc := 55) (ls := [.ref 0, .int (zi d)]) (st := []) rfl ?_
    exact am_xr (some (.int (zi ((iv M2 11 0) - 1)))) ⟨rfl, rfl, .int, rfl, rfl⟩ hv
  · replace hv := hv.2 c3
    refine am_xc t_Amd_hasRoomFor (.invokevirtual 84) 84 (av := [.ref 9, .ref 4]) (rest := []) (rv := some (.int (zi 0))) (M' := M) rfl rfl rfl rfl (Nat.le_of_ble_eq_true rfl) (fun _ => rfl) (by have q := sp_hasRoomFor M g; rwa [if_neg c3] at q) ?_
    refine am_xn 0 (c1 := (14, [.ref 0, .int (zi d)], [.int (zi 0)], M)) rfl ?_
    refine am_xn 2 (c1 := (19, [.ref 0, .int (zi d)], [.int (zi (-4))], M)) rfl ?_
    exact am_xr (some (.int (zi (-4)))) ⟨rfl, rfl, .int, rfl, rfl⟩ hv
theorem sp_add {M : am_M} {N d : Int} (eN : iv M 4 1 = N) (N0 : 1 ≤ N) (N1 : N ≤ 40) (dz : zr d) (h0 : 0 ≤ iv M 11 0 ∧ iv M 11 0 < 20) (h1 : 0 ≤ iv M 11 1 ∧ iv M 11 1 + N ≤ 120) (h2 : 0 ≤ iv M 11 2 ∧ iv M 11 2 ≤ 40) : ∃ M', am_call t_Amd_add [.ref 9, .ref 4, .int (zi d)] M none M' ∧ (∀ a, ¬ a = 11 → M' a = M a) ∧ ADC (iv M 11) (iv M 6) N d (iv M' 11) := by
  suffices hh : am_x t_Amd_add (0, am_ent (am_mL t_Amd_add) [.ref 9, .ref 4, .int (zi d)], [], M) (fun rv M' => rv = none ∧ (∀ a, ¬ a = 11 → M' a = M a) ∧ ADC (iv M 11) (iv M 6) N d (iv M' 11)) by
    obtain ⟨rv, M', c1, c2, c3⟩ := am_call_ex (by exact ⟨Nat.le_of_ble_eq_true rfl, rfl⟩) hh
    subst c2
    exact ⟨M', c1, c3⟩
  obtain ⟨p, ep⟩ : ∃ p, p = iv M 11 1 := ⟨_, rfl⟩
  obtain ⟨c2, e2⟩ : ∃ c2, c2 = iv M 11 2 := ⟨_, rfl⟩
  refine vc_add d M _ ?_
  rw [eN, ← ep]
  rw [← ep] at h1
  refine ⟨⟨by omega, by omega, by omega, by omega, by omega⟩, fun M1 eM1 => ?_⟩
  have j1 : ∀ j, 0 ≤ j → iv M1 11 j = if 45 + p * 13 ≤ j ∧ j < 45 + p * 13 + N * 13 then iv M 6 (j - (45 + p * 13)) else iv M 11 j := fun j j0 => by
    rw [eM1, iv_zcp _ _ _ _ (by omega) (by omega) (by omega) j0]
    by_cases z : 45 + p * 13 ≤ j ∧ j < 45 + p * 13 + N * 13
    · rw [if_pos z, if_pos ⟨rfl, z⟩, Int.zero_add]
    · rw [if_neg z, if_neg (fun y => z y.2)]
  have f1 : ∀ a, ¬ a = 11 → M1 a = M a := fun a ha => by rw [eM1, iv_zcp_r _ ha]
  have e0 : p = p + 0 := by omega
  have st : am_x t_Amd_add (46, [.ref 9, .null, .int (zi d), .null, .int (zi (p + N)), .null, .int (zi (p + 0))], [], M1) (fun rv M' => rv = none ∧ (∀ a, ¬ a = 11 → M' a = M a) ∧ ADC (iv M 11) (iv M 6) N d (iv M' 11)) := by
    refine loop_up (fun i (s : am_M) => (46, [.ref 9, .null, .int (zi d), .null, .int (zi (p + N)), .null, .int (zi (p + i))], [], s)) N (fun i s => (∀ a, ¬ a = 11 → s a = M a) ∧ iv s 11 2 = c2 + nin (iv M 6) i ∧ (∀ j, 0 ≤ j → j < 45 + p * 13 → ¬ j = 2 → iv s 11 j = iv M 11 j) ∧ ∀ i' w, 0 ≤ i' → i' < N → 0 ≤ w → w < 13 → iv s 11 (45 + (p + i') * 13 + w) = if (w = 6 ∧ i' < i) ∧ iv M 6 (i' * 13) = 0 then c2 + nin (iv M 6) i' else iv M 6 (i' * 13 + w)) ?_ ?_ 0 M1 (by omega) (by omega) ⟨f1, ?_, fun j j0 j1' j2 => ?_, fun i' w i0 i1 w0 w1 => ?_⟩
    · intro s ⟨f, k2, kf, kw⟩
      have a0 : iv s 11 0 = iv M 11 0 := kf 0 (by decide) (by omega) (by decide)
      have nr := nin_r' (iv M 6) (i := N) (by omega)
      refine vc_add_46 d (p + N) (p + N) s _ ⟨⟨by omega, by omega⟩, ⟨by omega, by omega⟩, fun q => by omega, fun _ => ?_⟩
      rw [a0]
      refine ⟨by omega, fun M5 e5 => ⟨by decide, fun M6 e6 => ?_⟩⟩
      have b0 : iv M5 11 0 = iv M 11 0 := by rw [e5, ivs _ _ (by omega) (by decide) dz, if_neg (by omega), a0]
      have c0 : iv M6 11 0 = iv M 11 0 + 1 := by rw [e6, b0, ivs _ _ (by decide) (by decide) ⟨by omega, by omega⟩, if_pos rfl]
      rw [c0]
      refine ⟨⟨by omega, by omega⟩, fun M7 e7 => ⟨by decide, fun M8 e8 => ⟨rfl, fun a ha => by rw [e8, zupr _ ha, e7, zupr _ ha, e6, zupr _ ha, e5, zupr _ ha, f a ha], ?_⟩⟩⟩
      have j8 : ∀ j, 0 ≤ j → iv M8 11 j = if j = 1 then p + N else if j = 24 + (iv M 11 0 + 1) then p + N else if j = 0 then iv M 11 0 + 1 else if j = 4 + iv M 11 0 then d else iv s 11 j := fun j j0 => by
        rw [e8, ivs _ _ (by decide) j0 ⟨by omega, by omega⟩, e7, ivs _ _ (by omega) j0 ⟨by omega, by omega⟩, e6, b0, ivs _ _ (by decide) j0 ⟨by omega, by omega⟩, e5, ivs _ _ (by omega) j0 dz]
      refine ⟨?_, ?_, ?_, ?_, fun a a0 a1 => ?_, fun a a0 a1 => ?_, fun o w o0 o1 w0 w1 => ?_, fun i w i0 i1 w0 w1 => ?_⟩
      · rw [j8 _ (by decide), if_neg (by decide), if_neg (by omega), if_pos rfl]
      · rw [j8 _ (by decide), if_pos rfl, ep]
      · rw [j8 _ (by decide), if_neg (by decide), if_neg (by omega), if_neg (by decide), if_neg (by omega), k2, e2]
      · rw [j8 _ (by decide), if_neg (by decide), if_neg (by omega), if_neg (by decide), if_neg (by omega), kf 3 (by decide) (by omega) (by decide)]
      · rw [j8 _ (by omega), if_neg (by omega), if_neg (by omega), if_neg (by omega)]
        by_cases z : a = iv M 11 0
        · rw [if_pos (by omega), if_pos z]
        · rw [if_neg (by omega), if_neg z, kf _ (by omega) (by omega) (by omega)]
      · rw [j8 _ (by omega), if_neg (by omega)]
        by_cases z : a = iv M 11 0 + 1
        · rw [if_pos (by omega), if_pos z, ep]
        · rw [if_neg (by omega), if_neg (by omega), if_neg (by omega), if_neg z, kf _ (by omega) (by omega) (by omega)]
      · unfold cpt
        rw [← ep] at o1
        rw [j8 _ (by omega), if_neg (by omega), if_neg (by omega), if_neg (by omega), if_neg (by omega), kf _ (by omega) (by omega) (by omega)]
      · unfold cpt
        rw [← ep, ← e2, j8 _ (by omega), if_neg (by omega), if_neg (by omega), if_neg (by omega), if_neg (by omega), kw i w i0 i1 w0 w1]
        by_cases z : w = 6 ∧ iv M 6 (i * 13) = 0
        · rw [if_pos z, if_pos ⟨⟨z.1, i1⟩, z.2⟩]
        · rw [if_neg z, if_neg (fun y => z ⟨y.1.1, y.2⟩)]
    · intro i s i0 i1 ⟨f, k2, kf, kw⟩ k
      have nr := nin_r' (iv M 6) i0
      have kk : cpt (iv s 11) (p + i) 0 = iv M 6 (i * 13) := by
        unfold cpt
        rw [kw i 0 i0 i1 (by decide) (by decide), if_neg (by omega), Int.add_zero]
      have k' := fun s' h => k s' h
      rw [show p + (i + 1) = p + i + 1 by omega] at k'
      refine vc_add_46 d (p + N) (p + i) s _ ⟨⟨by omega, by omega⟩, ⟨by omega, by omega⟩, fun _ => ⟨⟨by omega, by omega, by decide, by decide⟩, fun z => ⟨⟨by omega, by omega⟩, fun M3 e3 => ⟨by decide, fun M4 e4 => ?_⟩⟩, fun z => ?_⟩, fun q => by omega⟩
      · rw [kk] at z
        have a3 : iv M3 11 2 = c2 + nin (iv M 6) i := by rw [e3, ivs _ _ (by omega) (by decide) (iv_r _ _ _), if_neg (by omega), k2]
        have j4 : ∀ j, 0 ≤ j → iv M4 11 j = if j = 2 then c2 + nin (iv M 6) i + 1 else if j = 45 + (p + i) * 13 + 6 then c2 + nin (iv M 6) i else iv s 11 j := fun j j0 => by
          rw [e4, a3, ivs _ _ (by decide) j0 ⟨by omega, by omega⟩, e3, k2, ivs _ _ (by omega) j0 ⟨by omega, by omega⟩]
        refine k' M4 ⟨fun a ha => by rw [e4, zupr _ ha, e3, zupr _ ha, f a ha], ?_, fun j j0 j1' j2 => ?_, fun i' w a0 a1 w0 w1 => ?_⟩
        · rw [j4 _ (by decide), if_pos rfl, nin_s _ i0, if_pos z]; omega
        · rw [j4 _ j0, if_neg j2, if_neg (by omega), kf j j0 j1' j2]
        · rw [j4 _ (by omega), if_neg (by omega)]
          by_cases y : w = 6 ∧ i' = i
          · rw [if_pos (by omega), if_pos ⟨⟨y.1, by omega⟩, by rw [y.2]; exact z⟩, y.2]
          · rw [if_neg (by omega), kw i' w a0 a1 w0 w1]
            by_cases u : (w = 6 ∧ i' < i) ∧ iv M 6 (i' * 13) = 0
            · rw [if_pos u, if_pos ⟨⟨u.1.1, by omega⟩, u.2⟩]
            · rw [if_neg u, if_neg (fun v => u ⟨⟨v.1.1, by omega⟩, v.2⟩)]
      · rw [kk] at z
        refine k' s ⟨f, ?_, kf, fun i' w a0 a1 w0 w1 => ?_⟩
        · rw [k2, nin_s _ i0, if_neg z]; omega
        · rw [kw i' w a0 a1 w0 w1]
          by_cases u : (w = 6 ∧ i' < i) ∧ iv M 6 (i' * 13) = 0
          · rw [if_pos u, if_pos ⟨⟨u.1.1, by omega⟩, u.2⟩]
          · rw [if_neg u, if_neg (fun v => u ⟨⟨v.1.1, by
              by_cases e : i' = i
              · rw [e] at v; exact absurd v.2 z
              · omega⟩, v.2⟩)]
    · rw [j1 _ (by decide), if_neg (by omega), nin_0, e2]; omega
    · rw [j1 j j0, if_neg (by omega)]
    · rw [j1 _ (by omega), if_pos (by omega), if_neg (by omega)]
      congr 1
      omega
  rw [Int.add_zero] at st
  exact st
theorem DO_c2 {d f g : Int → Int} (h : ∀ j, 0 ≤ j → j < 6 → g j = f j) (hk : ∀ k, 0 ≤ k → k < f 5 → g (6 + k) = f (6 + k)) (w : DO d f) : DO d g := by
  obtain ⟨a1, a2, a3, a4, a5, a6, a7, a8⟩ := w
  unfold DO
  rw [h 0 (by decide) (by decide), h 1 (by decide) (by decide), h 2 (by decide) (by decide), h 3 (by decide) (by decide), h 4 (by decide) (by decide), h 5 (by decide) (by decide)]
  refine ⟨a1, a2, a3, a4, a5, a6, a7, fun k k0 k1 => ?_⟩
  rw [hk k k0 k1]
  exact a8 k k0 k1
theorem nv_o {T : Int → Int} {p : Int} (h : df 1 T p = -1) (p0 : 0 ≤ p) : 729 ≤ nv T p := by
  have a := df_o h p0
  have b := nv_r (T := T) (p := p)
  have c := dg_is T p
  exact b.2.2 (by omega)
theorem WO_op {T : Int → Int} {n s : Int} (x : TX T n) (s0 : 0 ≤ s) (s1 : s ≤ n) (h : opE T s = -1) : WO (opF T s) := by
  have ar := oA_r x s0 s1
  have br := oB_r x s0 s1
  have b3 := o3_r x s0 s1
  have kr := kd_r T s
  have wr := wc_r T (oB T s)
  have n1 := nv_r (T := T) (p := oA T s)
  have n3 := nv_r (T := T) (p := o3 T s)
  have d4 := dg_is T (o4 T s)
  have d5 := dg_is T (o5 T s)
  have hk : ¬ kd T s = -1 := fun k => by unfold opE at h; rw [if_pos k] at h; omega
  have e1 : df 1 T (oA T s) = -1 := by
    unfold opE at h
    rw [if_neg hk] at h
    by_cases k0 : kd T s = 0
    · rw [if_pos k0] at h; exact (th_e h).1
    rw [if_neg k0] at h
    by_cases k1 : kd T s = 1
    · rw [if_pos k1] at h; exact (th_e h).1
    rw [if_neg k1] at h
    by_cases k3 : kd T s = 3
    · rw [if_pos k3] at h; exact (th_e h).1
    rw [if_neg k3] at h
    by_cases k4 : kd T s = 4
    · rw [if_pos k4] at h; exact (th_e h).1
    rw [if_neg k4] at h
    exact (th_e h).1
  have e3 : kd T s = 3 → df 1 T (o3 T s) = -1 := fun k3 => by
    unfold opE at h
    rw [if_neg hk, if_neg (by omega), if_neg (by omega), if_pos k3] at h
    exact (th_e (th_e h).2).2
  unfold WO
  rw [opF_0, opF_1, opF_2, opF_3, opF_4, opF_5]
  refine ⟨by omega, ⟨nv_o e1 (by omega), n1.2.1⟩, ?_, fun k3 => ?_, fun k4 => ?_, ?_, ?_, ?_, fun k2 => ?_, fun k k0 k1 => ?_⟩
  · split
    · omega
    · split <;> omega
  · rw [if_pos k3]; exact nv_o (e3 k3) (by omega)
  · rw [if_neg (by omega), if_pos k4]; omega
  · split <;> omega
  · have sv : ∀ q, svV T q = 0 ∨ svV T q = 1 := fun q => by
      unfold svV
      split
      · exact Or.inr rfl
      · exact Or.inl rfl
    repeat' split
    all_goals first | exact sv _ | exact Or.inl rfl
  · split <;> omega
  · rw [if_neg (by omega)]
  · have k2 : kd T s < 2 := by
      by_cases k2 : kd T s < 2
      · exact k2
      · rw [if_neg k2] at k1; omega
    rw [if_pos k2] at k1
    rw [opF_6 T s k0]
    have hw := (wr.2.2 k k0 k1).2
    have qr := wq_r x (p := oB T s) (by omega) (by omega) k
    have sr := x.skr (p := wq T (oB T s) k) (by omega) (by omega)
    unfold wE at hw
    unfold wV
    by_cases z : T (sk T (wq T (oB T s) k)) = 64
    · rw [if_pos z] at hw ⊢
      have := nv_o hw (by omega)
      have := nv_r (T := T) (p := sk T (wq T (oB T s) k) + 1)
      omega
    · rw [if_neg z] at hw ⊢
      have := dg_is T (sk T (wq T (oB T s) k))
      omega
set_option maxRecDepth 100000 in
theorem vc_c_enact (d : Int) (M : am_M) (Q : Option Value → am_M → Prop) (hv : (zr d ∧ zr (9999 : Int)) ∧ ((0 ≤ d ∧ d ≤ 9999 → ∃ (r2 : Int) (M1 : am_M), am_call t_Rea_readAmendment [.ref 1] M (some (.int (zi r2))) M1 ∧ ((zr r2) ∧ ((r2 = (-1) → ∃ (r5 : Int) (M4 : am_M), am_call t_SB_addDraft [.ref 0, .int (zi d)] M1 (some (.int (zi r5))) M4 ∧ ((zr r5) ∧ ((r5 = (-4) → Q (some (.int (zi r5))) M4) ∧ (¬ r5 = (-4) → ∃ M7, am_call t_Pag_makeEmpty [.ref 2] M4 none M7 ∧ (Q (some (.int (zi r5))) M7))))) ∧ (¬ r2 = (-1) → Q (some (.int (zi ((-2000) - r2)))) M1)))) ∧ (¬ (0 ≤ d ∧ d ≤ 9999) → Q (some (.int (zi (-2)))) M))) : am_x t_SB_enact (0, am_ent (am_mL t_SB_enact) [.ref 0, .int (zi d)], [], M) Q := by
  refine am_xn 0 (c1 := (0, [.ref 0, .int (zi d), .null, .null], [], M)) rfl ?_
  refine am_xn 2 (c1 := (4, [.ref 0, .int (zi d), .null, .null], [.int (zi 9999), .int (zi d)], M)) rfl ?_
  obtain ⟨g, hv⟩ := hv
  by_cases c8 : 0 ≤ d ∧ d ≤ 9999
  · replace hv := hv.1 c8
    refine am_xc t_SB_within (.invokestatic 56) 56 (av := [.int (zi d), .int (zi 9999)]) (rest := []) (rv := some (.int (zi 1))) (M' := M) rfl rfl rfl rfl (Nat.le_of_ble_eq_true rfl) (fun h => nomatch h) (by have q := sp_within M d 9999 g; rwa [if_pos c8] at q) ?_
    refine am_xn 0 (c1 := (7, [.ref 0, .int (zi d), .null, .null], [.int (zi 1)], M)) rfl ?_
    refine am_xn 3 (c1 := (17, [.ref 0, .int (zi d), .null, .null], [.ref 1], M)) rfl ?_
    obtain ⟨r2, M1, hc, hv⟩ := hv
    refine am_xc t_Rea_readAmendment (.invokevirtual 73) 73 (av := [.ref 1]) (rest := []) (rv := some (.int (zi r2))) (M' := M1) rfl rfl rfl rfl (Nat.le_of_ble_eq_true rfl) (fun _ => rfl) (hc) ?_
    refine am_xn 0 (c1 := (20, [.ref 0, .int (zi d), .null, .null], [.int (zi r2)], M1)) rfl ?_
    obtain ⟨r3, hv⟩ := hv
    refine am_xn 4 (c1 := (if zi r2 = zi (-1) then 32 else 26, [.ref 0, .int (zi d), .int (zi r2), .null], [], M1)) rfl (am_xeq r3 (by decide) (fun h => ?_) (fun h => ?_))
    · replace hv := hv.1 h
      refine am_xn 2 (c1 := (34, [.ref 0, .int (zi d), .int (zi r2), .null], [.int (zi d), .ref 0], M1)) rfl ?_
      obtain ⟨r5, M4, hc, hv⟩ := hv
      refine am_xc t_SB_addDraft (.invokevirtual 76) 76 (av := [.ref 0, .int (zi d)]) (rest := []) (rv := some (.int (zi r5))) (M' := M4) rfl rfl rfl rfl (Nat.le_of_ble_eq_true rfl) (fun _ => rfl) (hc) ?_
      refine am_xn 0 (c1 := (37, [.ref 0, .int (zi d), .int (zi r2), .null], [.int (zi r5)], M4)) rfl ?_
      obtain ⟨r6, hv⟩ := hv
      refine am_xn 4 (c1 := (if zi r5 = zi (-4) then 54 else 44, [.ref 0, .int (zi d), .int (zi r2), .int (zi r5)], [], M4)) rfl (am_xeq r6 (by decide) (fun h => ?_) (fun h => ?_))
      · replace hv := hv.1 h
        refine am_xn 1 (c1 := (55, [.ref 0, .int (zi d), .int (zi r2), .int (zi r5)], [.int (zi r5)], M4)) rfl ?_
        exact am_xr (some (.int (zi r5))) ⟨rfl, rfl, .int, rfl, rfl⟩ hv
      · replace hv := hv.2 h
        refine am_xn 3 (c1 := (51, [.ref 0, .int (zi d), .int (zi r2), .int (zi r5)], [.ref 2], M4)) rfl ?_
        obtain ⟨M7, hc, hv⟩ := hv
        refine am_xc t_Pag_makeEmpty (.invokevirtual 70) 70 (av := [.ref 2]) (rest := []) (rv := none) (M' := M7) rfl rfl rfl rfl (Nat.le_of_ble_eq_true rfl) (fun _ => rfl) (hc) ?_
        refine am_xn 0 (c1 := (54, [.ref 0, .int (zi d), .int (zi r2), .int (zi r5)], [], M7)) rfl ?_
        refine am_xn 1 (c1 := (55, [.ref 0, .int (zi d), .int (zi r2), .int (zi r5)], [.int (zi r5)], M7)) rfl ?_
        exact am_xr (some (.int (zi r5))) ⟨rfl, rfl, .int, rfl, rfl⟩ hv
    · replace hv := hv.2 h
      refine am_xn 2 (c1 := (30, [.ref 0, .int (zi d), .int (zi r2), .null], [.int (zi r2), .int (zi (-2000))], M1)) rfl ?_
      refine am_xisub 1 (-2000) r2 (pc := 31) (ls := [.ref 0, .int (zi d), .int (zi r2), .null]) (st := []) rfl ?_
      exact am_xr (some (.int (zi ((-2000) - r2)))) ⟨rfl, rfl, .int, rfl, rfl⟩ hv
  · replace hv := hv.2 c8
    refine am_xc t_SB_within (.invokestatic 56) 56 (av := [.int (zi d), .int (zi 9999)]) (rest := []) (rv := some (.int (zi 0))) (M' := M) rfl rfl rfl rfl (Nat.le_of_ble_eq_true rfl) (fun h => nomatch h) (by have q := sp_within M d 9999 g; rwa [if_neg c8] at q) ?_
    refine am_xn 0 (c1 := (7, [.ref 0, .int (zi d), .null, .null], [.int (zi 0)], M)) rfl ?_
    refine am_xn 2 (c1 := (12, [.ref 0, .int (zi d), .null, .null], [.int (zi (-2))], M)) rfl ?_
    exact am_xr (some (.int (zi (-2)))) ⟨rfl, rfl, .int, rfl, rfl⟩ hv
