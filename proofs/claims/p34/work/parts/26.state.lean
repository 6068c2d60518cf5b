/-! out of the proof of whole: state -/
def bt (x : Int32) (i : Nat) : Bool := x.toBitVec.getLsbD i
theorem b_ext {x y : Int32} (h : ∀ i, i < 32 → bt x i = bt y i) : x = y := Int32.toBitVec_inj.mp (BitVec.eq_of_getLsbD_eq (fun i hi => h i hi))
theorem b_and (x y : Int32) (i : Nat) : bt (x &&& y) i = (bt x i && bt y i) := by unfold bt; rw [Int32.toBitVec_and, BitVec.getLsbD_and]
theorem b_xor (x y : Int32) (i : Nat) : bt (x ^^^ y) i = (bt x i ^^ bt y i) := by unfold bt; rw [Int32.toBitVec_xor, BitVec.getLsbD_xor]
theorem b_0 (i : Nat) : bt 0 i = false := BitVec.getLsbD_zero
theorem s_l : ∀ n, n < 32 → ((nI n &&& 31).toBitVec.smod 32).toNat = n := by decide +kernel
theorem b_shl (n : Nat) (hn : n < 32) (x : Int32) {i : Nat} (hi : i < 32) : bt (x <<< (nI n &&& 31)) i = (decide (n ≤ i) && bt x (i - n)) := by
  unfold bt
  rw [Int32.toBitVec_shiftLeft]
  show (x.toBitVec <<< ((nI n &&& 31).toBitVec.smod 32).toNat).getLsbD i = _
  rw [s_l n hn, BitVec.getLsbD_shiftLeft]
  rcases Nat.lt_or_ge i n with h | h
  · simp [h, Nat.not_le.mpr h]
  · simp [hi, h, Nat.not_lt.mpr h]
theorem b_sshr (n : Nat) (hn : n < 32) (x : Int32) {i : Nat} (hi : i < 32) : bt (x >>> (nI n &&& 31)) i = if n + i < 32 then bt x (n + i) else bt x 31 := by
  unfold bt
  rw [Int32.toBitVec_shiftRight]
  show (x.toBitVec.sshiftRight ((nI n &&& 31).toBitVec.smod 32).toNat).getLsbD i = _
  rw [s_l n hn, BitVec.getLsbD_sshiftRight, BitVec.msb_eq_getLsbD_last]
  simp [hi]
theorem zi_nI {x : Int} (h : 0 ≤ x) : zi x = nI x.toNat := by
  unfold zi nI
  obtain ⟨n, rfl⟩ : ∃ n : Nat, x = n := ⟨x.toNat, by omega⟩
  rfl
def zbt (s a : Int) : Bool := bt (zi s) a.toNat
theorem b_1 : ∀ i, i < 32 → bt 1 i = decide (i = 0) := by decide +kernel
theorem zb_is (s : Int) {a : Int} (h0 : 0 ≤ a) (h1 : a < 32) : zand (zshr s a) 1 = if zbt s a = true then 1 else 0 := by
  unfold zand zshr zbt
  rw [zi_of, zi_nI h0]
  have e : (zi s >>> (nI a.toNat &&& 31)) &&& zi 1 = if bt (zi s) a.toNat = true then 1 else 0 := by
    refine b_ext (fun i hi => ?_)
    rw [b_and, b_sshr a.toNat (by omega) (zi s) hi, show zi 1 = 1 from rfl, b_1 i hi]
    by_cases z : i = 0
    · subst z
      rw [if_pos (by omega), Nat.add_zero]
      cases hb : bt (zi s) a.toNat
      · rw [if_neg (by decide), b_0]; rfl
      · rw [if_pos rfl, b_1 0 (by decide)]; rfl
    · rw [decide_eq_false z, Bool.and_false]
      split
      · rw [b_1 i hi, decide_eq_false z]
      · rw [b_0]
  rw [e]
  split <;> rfl
theorem zb_1 {a x : Int} (h0 : 0 ≤ a) (h1 : a < 32) (x0 : 0 ≤ x) (x1 : x < 32) : zbt (zshl 1 a) x = decide (x = a) := by
  unfold zbt zshl
  rw [zi_of, zi_nI h0, b_shl a.toNat (by omega) _ (show x.toNat < 32 by omega), show zi 1 = 1 from rfl, b_1 _ (by omega)]
  by_cases z : x = a
  · rw [decide_eq_true z, decide_eq_true (by omega), decide_eq_true (by omega)]; rfl
  · rw [decide_eq_false z]
    by_cases y : a.toNat ≤ x.toNat
    · rw [decide_eq_false (p := x.toNat - a.toNat = 0) (by omega), Bool.and_false]
    · rw [decide_eq_false y, Bool.false_and]
theorem zb_xor (s t x : Int) : zbt (zxor s t) x = (zbt s x ^^ zbt t x) := by
  unfold zbt zxor
  rw [zi_of, b_xor]
/-- a number with no bit from the twentieth on -/
theorem zb_rg {v : Int} (hz : zr v) (h : ∀ x, 20 ≤ x → x < 32 → zbt v x = false) : 0 ≤ v ∧ v < 1048576 := by
  have e : (zi v).toBitVec.toNat < 2 ^ 20 := by
    refine Nat.lt_pow_two_of_testBit _ (fun i hi => ?_)
    by_cases q : i < 32
    · have := h i (by omega) (by omega)
      exact this
    · exact Nat.testBit_lt_two_pow (Nat.lt_of_lt_of_le (zi v).toBitVec.isLt (Nat.pow_le_pow_right (by decide) (by omega)))
  have e2 : (zi v).toInt = v := zi_toInt hz
  have e3 : (zi v).toInt = (zi v).toBitVec.toInt := rfl
  rw [BitVec.toInt_eq_toNat_of_lt (by omega)] at e3
  omega
theorem zb_of {v : Int} (h0 : 0 ≤ v) (h1 : v < 1048576) {x : Int} (x0 : 20 ≤ x) : zbt v x = false := by
  unfold zbt
  rw [zi_nI h0]
  show (BitVec.ofNat 32 v.toNat).getLsbD x.toNat = false
  rw [BitVec.getLsbD_ofNat]
  have : v.toNat.testBit x.toNat = false := Nat.testBit_lt_two_pow (Nat.lt_of_lt_of_le (show v.toNat < 2 ^ 20 by omega) (Nat.pow_le_pow_right (by decide) (by omega)))
  rw [this, Bool.and_false]
def BKr (c b : Int → Int) : Prop := WB b ∧ CBR c b
theorem fo_congr {b b' : Int → Int} (h : ∀ j, 0 ≤ j → j < 1501 → b j = b' j) {a : Int} (a1 : a ≤ 20) : fo b a = fo b' a := sm_congr (fun i i0 i1 => h _ (by omega) (by omega))
theorem pt_congr {b b' : Int → Int} (h : ∀ j, 0 ≤ j → j < 1501 → b j = b' j) {o w : Int} (o0 : 0 ≤ o) (o1 : o < 120) (w0 : 0 ≤ w) (w1 : w < 12) : pt b o w = pt b' o w := h _ (by omega) (by omega)
theorem ia_congr {b b' : Int → Int} (h : ∀ j, 0 ≤ j → j < 1501 → b j = b' j) {o : Int} (o1 : o ≤ 120) : ia b o = ia b' o := sm_congr (fun i i0 i1 => by
  show (if pt b i 0 = 0 then (1 : Int) else 0) = if pt b' i 0 = 0 then 1 else 0
  rw [pt_congr h i0 (by omega) (by decide) (by decide)])
theorem WO_congr {f g : Int → Int} (h : ∀ j, 0 ≤ j → j < 12 → f j = g j) (w : WO f) : WO g := by
  have ln := w.ln
  obtain ⟨a1, a2, a3, a4, a5, a6, a7, a8, a9, a10⟩ := w
  unfold WO
  rw [← h 0 (by decide) (by decide), ← h 1 (by decide) (by decide), ← h 2 (by decide) (by decide), ← h 3 (by decide) (by decide), ← h 4 (by decide) (by decide), ← h 5 (by decide) (by decide)]
  refine ⟨a1, a2, a3, a4, a5, a6, a7, a8, a9, fun k k0 k1 => ?_⟩
  rw [← h (6 + k) (by omega) (by omega)]
  exact a10 k k0 k1
theorem WB_congr {b b' : Int → Int} (h : ∀ j, 0 ≤ j → j < 1501 → b j = b' j) (w : WB b) : WB b' := by
  have n0 := w.n0
  have n1 := w.n1
  have e0 := h 0 (by decide) (by decide)
  have en : nops b = nops b' := by unfold nops; rw [← e0]; exact fo_congr h n1
  have tot := w.tot
  unfold WB
  rw [← e0, ← en]
  refine ⟨n0, n1, fun a a0 a1 => ?_, fun a a0 a1 => ?_, fun a a0 a1 => ?_, tot, ?_, fun o o0 o1 => ?_⟩
  · rw [← h _ (by omega) (by omega)]; exact w.day a a0 a1
  · rw [← h _ (by omega) (by omega)]; exact w.rev a a0 a1
  · rw [← h _ (by omega) (by omega)]; exact w.sz a a0 a1
  · rw [← ia_congr h tot]; exact w.ins
  · exact WO_congr (fun j j0 j1 => pt_congr h o0 (by omega) j0 j1) (w.op o o0 o1)
theorem BKr_congr {c c' b b' : Int → Int} (hc : ∀ j, 0 ≤ j → j < 1605 → c j = c' j) (h : ∀ j, 0 ≤ j → j < 1501 → b j = b' j) (w : BKr c b) : BKr c' b' := by
  obtain ⟨w, ⟨q0, q1, q2, q3, q4, q5⟩, q6, q7⟩ := w
  have n0 := w.n0
  have n1 := w.n1
  have tot := w.tot
  have e0 := h 0 (by decide) (by decide)
  have en : nops b = nops b' := by unfold nops; rw [← e0]; exact fo_congr h n1
  refine ⟨WB_congr h w, ⟨?_, ?_, ?_, fun a a0 a1 => ?_, fun a a0 a1 => ?_, fun o o0 o1 => ?_⟩, ?_, fun a a0 a1 => ?_⟩
  · rw [← hc 0 (by decide) (by decide), ← e0]; exact q0
  · rw [← hc 1 (by decide) (by decide), ← en]; exact q1
  · rw [← hc 2 (by decide) (by decide), ← en, ← ia_congr h tot]; exact q2
  · rw [← e0] at a1
    rw [← hc _ (by omega) (by omega), ← h _ (by omega) (by omega)]; exact q3 a a0 a1
  · rw [← e0] at a1
    rw [← hc _ (by omega) (by omega), ← fo_congr h (by omega)]; exact q4 a a0 a1
  · rw [← en] at o1
    have wo := w.op o o0 o1
    have ln := wo.ln
    obtain ⟨p0, p1, p2, p3, p4, p5, p6, p7⟩ := q5 o o0 o1
    have e : ∀ k, 0 ≤ k → k < 13 → cpt c' o k = cpt c o k := fun k k0 k1 => (hc _ (by omega) (by omega)).symm
    have f : ∀ k, 0 ≤ k → k < 12 → pt b' o k = pt b o k := fun k k0 k1 => (pt_congr h o0 (by omega) k0 k1).symm
    unfold CO
    rw [e 0 (by decide) (by decide), e 1 (by decide) (by decide), e 2 (by decide) (by decide), e 3 (by decide) (by decide), e 4 (by decide) (by decide), e 5 (by decide) (by decide), e 6 (by decide) (by decide), f 0 (by decide) (by decide), f 1 (by decide) (by decide), f 2 (by decide) (by decide), f 3 (by decide) (by decide), f 4 (by decide) (by decide), f 5 (by decide) (by decide), ← ia_congr h (by omega)]
    exact ⟨p0, p1, p2, p3, p4, p5, p6, fun k k0 k1 => by rw [e _ (by omega) (by omega), f _ (by omega) (by omega)]; exact p7 k k0 k1⟩
  · rw [← hc 3 (by decide) (by decide)]; exact q6
  · rw [← hc 3 (by decide) (by decide), q7 a a0 a1, e0, h (21 + a) (by omega) (by omega)]
set_option maxRecDepth 100000 in
theorem vc_putAway (s : Int) (M : am_M) (Q : Option Value → am_M → Prop) (hv : (0 ≤ (0 : Int) ∧ 0 ≤ (s * 1605) ∧ 0 ≤ (1605 : Int) ∧ (0 : Int) + (1605 : Int) ≤ 1605 ∧ (s * 1605) + (1605 : Int) ≤ 19260) ∧ (∀ M1, M1 = zcp M 11 14 0 (s * 1605) 1605 → Q none M1)) : am_x t_Arc_putAway (0, am_ent (am_mL t_Arc_putAway) [.ref 12, .int (zi s), .ref 9], [], M) Q := by
  refine am_xn 0 (c1 := (0, [.ref 12, .int (zi s), .ref 9], [], M)) rfl ?_
  refine am_ximul 8 s 1605 (pc := 14) (ls := [.ref 12, .int (zi s), .ref 9]) (st := [.int (zi 0), .ref 10, .ref 13]) rfl ?_
  refine am_xn 1 (c1 := (17, [.ref 12, .int (zi s), .ref 9], [.int (zi 1605), .int (zi (s * 1605)), .int (zi 0), .ref 10, .ref 13], M)) rfl ?_
  obtain ⟨g, hv⟩ := hv
  obtain ⟨M1, eM1⟩ : ∃ m, m = zcp M 11 14 0 (s * 1605) 1605 := ⟨_, rfl⟩
  replace hv := hv M1 eM1
  refine am_xc t_Row_take (.invokevirtual 27) 27 (av := [.ref 13, .ref 10, .int (zi 0), .int (zi (s * 1605)), .int (zi 1605)]) (rest := []) (rv := none) (M' := M1) rfl rfl rfl rfl (Nat.le_of_ble_eq_true rfl) (fun _ => rfl) (by rw [eM1]; exact sp_take_13_10 M 0 (s * 1605) 1605 g) ?_
  refine am_xn 0 (c1 := (20, [.ref 12, .int (zi s), .ref 9], [], M1)) rfl ?_
  exact am_xr none ⟨rfl, rfl, rfl⟩ hv
set_option maxRecDepth 100000 in
theorem vc_push  (M : am_M) (Q : Option Value → am_M → Prop) (hv : (zr ((iv M 12 2) + 1)) ∧ ((0 ≤ ((iv M 12 2) + 1)) ∧ (∀ M3, M3 = zup M 12 2 (((iv M 12 2) + 1) % 10) → (zr ((iv M3 12 1) + 1)) ∧ (∀ M5, M5 = zup M3 12 1 (min ((iv M3 12 1) + 1) 10) → ∃ M6, am_call t_Arc_putAway [.ref 12, .int (zi (iv M5 12 2)), .ref 9] M5 none M6 ∧ (Q none M6))))) : am_x t_Arc_push (0, am_ent (am_mL t_Arc_push) [.ref 12, .ref 9], [], M) Q := by
  refine am_xn 0 (c1 := (0, [.ref 12, .ref 9], [], M)) rfl ?_
  refine am_xrd 3 12 2 (pc := 5) (ls := [.ref 12, .ref 9]) (st := [.ref 12]) rfl ?_
  refine am_xiadd 2 (iv M 12 2) 1 (pc := 7) (ls := [.ref 12, .ref 9]) (st := [.ref 12]) rfl ?_
  obtain ⟨r1, hv⟩ := hv
  obtain ⟨r2, hv⟩ := hv
  refine am_xn 1 (c1 := (9, [.ref 12, .ref 9], [.int (zi 10), .int (zi ((iv M 12 2) + 1)), .ref 12], M)) rfl ?_
  refine am_xrem rfl r2 (by decide) r1 (by decide) ?_
  refine am_xn 0 (c1 := (10, [.ref 12, .ref 9], [.int (zi (((iv M 12 2) + 1) % 10)), .ref 12], M)) rfl ?_
  refine am_xn 1 (c1 := (13, [.ref 12, .ref 9], [], zup M 12 2 (((iv M 12 2) + 1) % 10))) rfl ?_
  obtain ⟨M3, eM3⟩ : ∃ m, m = zup M 12 2 (((iv M 12 2) + 1) % 10) := ⟨_, rfl⟩
  replace hv := hv M3 eM3
  rw [← eM3]
  refine am_xrd 3 12 1 (pc := 18) (ls := [.ref 12, .ref 9]) (st := [.ref 12]) rfl ?_
  refine am_xiadd 2 (iv M3 12 1) 1 (pc := 20) (ls := [.ref 12, .ref 9]) (st := [.ref 12]) rfl ?_
  obtain ⟨r4, hv⟩ := hv
  refine am_xn 1 (c1 := (22, [.ref 12, .ref 9], [.int (zi 10), .int (zi ((iv M3 12 1) + 1)), .ref 12], M3)) rfl ?_
  refine am_xmin 34 rfl rfl (by decide) r4 (by decide) ?_
  refine am_xn 0 (c1 := (25, [.ref 12, .ref 9], [.int (zi (min ((iv M3 12 1) + 1) 10)), .ref 12], M3)) rfl ?_
  refine am_xn 1 (c1 := (28, [.ref 12, .ref 9], [], zup M3 12 1 (min ((iv M3 12 1) + 1) 10))) rfl ?_
  obtain ⟨M5, eM5⟩ : ∃ m, m = zup M3 12 1 (min ((iv M3 12 1) + 1) 10) := ⟨_, rfl⟩
  replace hv := hv M5 eM5
  rw [← eM5]
  refine am_xrd 3 12 2 (pc := 33) (ls := [.ref 12, .ref 9]) (st := [.ref 12]) rfl ?_
  refine am_xn 1 (c1 := (34, [.ref 12, .ref 9], [.ref 9, .int (zi (iv M5 12 2)), .ref 12], M5)) rfl ?_
  obtain ⟨M6, hc, hv⟩ := hv
  refine am_xc t_Arc_putAway (.invokevirtual 40) 40 (av := [.ref 12, .int (zi (iv M5 12 2)), .ref 9]) (rest := []) (rv := none) (M' := M6) rfl rfl rfl rfl (Nat.le_of_ble_eq_true rfl) (fun _ => rfl) (hc) ?_
  refine am_xn 0 (c1 := (37, [.ref 12, .ref 9], [], M6)) rfl ?_
  exact am_xr none ⟨rfl, rfl, rfl⟩ hv
theorem sp_putAway (M : am_M) {s : Int} (s0 : 0 ≤ s) (s1 : s ≤ 11) : am_call t_Arc_putAway [.ref 12, .int (zi s), .ref 9] M none (zcp M 11 14 0 (s * 1605) 1605) :=
  am_call_of ⟨Nat.le_of_ble_eq_true rfl, rfl⟩ (vc_putAway s M _ ⟨⟨by omega, by omega, by omega, by omega, by omega⟩, fun M1 e1 => ⟨rfl, e1⟩⟩)
theorem sp_push {M : am_M} (h1 : 0 ≤ iv M 12 1 ∧ iv M 12 1 ≤ 10) (h2 : 0 ≤ iv M 12 2 ∧ iv M 12 2 ≤ 9) : ∃ M', am_call t_Arc_push [.ref 12, .ref 9] M none M' ∧ (∀ a, ¬ a = 12 → ¬ a = 14 → M' a = M a) ∧ iv M' 12 2 = (iv M 12 2 + 1) % 10 ∧ iv M' 12 1 = min (iv M 12 1 + 1) 10 ∧ iv M' 12 3 = iv M 12 3 ∧
    ∀ j, 0 ≤ j → iv M' 14 j = if (iv M 12 2 + 1) % 10 * 1605 ≤ j ∧ j < (iv M 12 2 + 1) % 10 * 1605 + 1605 then iv M 11 (j - (iv M 12 2 + 1) % 10 * 1605) else iv M 14 j := by
  suffices hh : am_x t_Arc_push (0, am_ent (am_mL t_Arc_push) [.ref 12, .ref 9], [], M) (fun r M' => r = none ∧ (∀ a, ¬ a = 12 → ¬ a = 14 → M' a = M a) ∧ iv M' 12 2 = (iv M 12 2 + 1) % 10 ∧ iv M' 12 1 = min (iv M 12 1 + 1) 10 ∧ iv M' 12 3 = iv M 12 3 ∧
    ∀ j, 0 ≤ j → iv M' 14 j = if (iv M 12 2 + 1) % 10 * 1605 ≤ j ∧ j < (iv M 12 2 + 1) % 10 * 1605 + 1605 then iv M 11 (j - (iv M 12 2 + 1) % 10 * 1605) else iv M 14 j) by
    obtain ⟨r, M', h1, h2, h3⟩ := am_call_ex (by exact ⟨Nat.le_of_ble_eq_true rfl, rfl⟩) hh
    subst h2
    exact ⟨M', h1, h3⟩
  refine vc_push M _ ⟨⟨by omega, by omega⟩, by omega, fun M3 e3 => ?_⟩
  have a1 : iv M3 12 1 = iv M 12 1 := by rw [e3, ivs _ _ (by decide) (by decide) ⟨by omega, by omega⟩, if_neg (by decide)]
  have a2 : iv M3 12 2 = (iv M 12 2 + 1) % 10 := by rw [e3, ivs _ _ (by decide) (by decide) ⟨by omega, by omega⟩, if_pos rfl]
  have a3 : iv M3 12 3 = iv M 12 3 := by rw [e3, ivs _ _ (by decide) (by decide) ⟨by omega, by omega⟩, if_neg (by decide)]
  rw [a1]
  refine ⟨⟨by omega, by omega⟩, fun M5 e5 => ?_⟩
  have b1 : iv M5 12 1 = min (iv M 12 1 + 1) 10 := by rw [e5, ivs _ _ (by decide) (by decide) ⟨by omega, by omega⟩, if_pos rfl]
  have b2 : iv M5 12 2 = (iv M 12 2 + 1) % 10 := by rw [e5, ivs _ _ (by decide) (by decide) ⟨by omega, by omega⟩, if_neg (by decide), a2]
  have b3 : iv M5 12 3 = iv M 12 3 := by rw [e5, ivs _ _ (by decide) (by decide) ⟨by omega, by omega⟩, if_neg (by decide), a3]
  have p := sp_putAway M5 (s := (iv M 12 2 + 1) % 10) (by omega) (by omega)
  rw [b2]
  refine ⟨_, p, rfl, fun a x1 x2 => by rw [iv_zcp_r _ x2, e5, zupr _ x1, e3, zupr _ x1], ?_, ?_, ?_, fun j hj => ?_⟩
  · rw [iv_row (iv_zcp_r _ (by decide)), b2]
  · rw [iv_row (iv_zcp_r _ (by decide)), b1]
  · rw [iv_row (iv_zcp_r _ (by decide)), b3]
  · have c11 : iv M5 11 = iv M 11 := by rw [e5, ivr _ (by decide), e3, ivr _ (by decide)]
    have c14 : iv M5 14 = iv M 14 := by rw [e5, ivr _ (by decide), e3, ivr _ (by decide)]
    rw [iv_zcp _ _ _ _ (by decide) (by omega) (by decide) hj, c11, c14]
    by_cases z : (iv M 12 2 + 1) % 10 * 1605 ≤ j ∧ j < (iv M 12 2 + 1) % 10 * 1605 + 1605
    · rw [if_pos z, if_pos ⟨rfl, z⟩, Int.zero_add]
    · rw [if_neg z, if_neg (fun y => z y.2)]
set_option maxRecDepth 100000 in
theorem vc_p2_append (x : Int) (M : am_M) (Q : Option Value → am_M → Prop) (hv : ((iv M 2 1) < 0 → ∀ M1, M1 = zup M 2 1 ((iv M 2 1) + 1) → Q none M1) ∧ (0 ≤ (iv M 2 1) → ((iv M 2 1) < 120 → (0 ≤ (iv M 2 1) ∧ (iv M 2 1) < 120) ∧ (∀ M2, M2 = zup M 3 (iv M 2 1) x → ∀ M4, M4 = zup M2 2 1 ((iv M2 2 1) + 1) → Q none M4)) ∧ (120 ≤ (iv M 2 1) → ∀ M5, M5 = zup M 2 1 ((iv M 2 1) + 1) → Q none M5))) : am_x t_Pag_append (0, am_ent (am_mL t_Pag_append) [.ref 2, .int (zi x)], [], M) Q := by
  refine am_xn 0 (c1 := (0, [.ref 2, .int (zi x)], [], M)) rfl ?_
  refine am_xrd 2 2 1 (pc := 4) (ls := [.ref 2, .int (zi x)]) (st := []) rfl ?_
  refine am_xn 1 (c1 := (if zi (iv M 2 1) < zi 0 then 29 else 7, [.ref 2, .int (zi x)], [], M)) rfl (am_xlt (iv_r _ _ _) (by decide) (fun h => ?_) (fun h => ?_))
  · replace hv := hv.1 h
    refine am_xrd 3 2 1 (pc := 34) (ls := [.ref 2, .int (zi x)]) (st := [.ref 2]) rfl ?_
    refine am_xiadd 2 (iv M 2 1) 1 (pc := 36) (ls := [.ref 2, .int (zi x)]) (st := [.ref 2]) rfl ?_
    refine am_xn 1 (c1 := (39, [.ref 2, .int (zi x)], [], zup M 2 1 ((iv M 2 1) + 1))) rfl ?_
    obtain ⟨M1, eM1⟩ : ∃ m, m = zup M 2 1 ((iv M 2 1) + 1) := ⟨_, rfl⟩
    replace hv := hv M1 eM1
    rw [← eM1]
    exact am_xr none ⟨rfl, rfl, rfl⟩ hv
  · replace hv := hv.2 h
    refine am_xrd 2 2 1 (pc := 11) (ls := [.ref 2, .int (zi x)]) (st := []) rfl ?_
    refine am_xn 4 (c1 := (if zi (iv M 2 1) < zi 120 then 19 else 29, [.ref 2, .int (zi x)], [], M)) rfl (am_xlt (iv_r _ _ _) (by decide) (fun h => ?_) (fun h => ?_))
    · replace hv := hv.1 h
      refine am_xrd 4 2 1 (pc := 27) (ls := [.ref 2, .int (zi x)]) (st := [.ref 3]) rfl ?_
      obtain ⟨r3, hv⟩ := hv
      refine am_xn 1 (c1 := (28, [.ref 2, .int (zi x)], [.int (zi x), .int (zi (iv M 2 1)), .ref 3], M)) rfl ?_
      refine am_xast rfl rfl rfl r3 ?_
      refine am_xn 0 (c1 := (29, [.ref 2, .int (zi x)], [], zup M 3 (iv M 2 1) x)) rfl ?_
      obtain ⟨M2, eM2⟩ : ∃ m, m = zup M 3 (iv M 2 1) x := ⟨_, rfl⟩
      replace hv := hv M2 eM2
      rw [← eM2]
      refine am_xrd 3 2 1 (pc := 34) (ls := [.ref 2, .int (zi x)]) (st := [.ref 2]) rfl ?_
      refine am_xiadd 2 (iv M2 2 1) 1 (pc := 36) (ls := [.ref 2, .int (zi x)]) (st := [.ref 2]) rfl ?_
      refine am_xn 1 (c1 := (39, [.ref 2, .int (zi x)], [], zup M2 2 1 ((iv M2 2 1) + 1))) rfl ?_
      obtain ⟨M4, eM4⟩ : ∃ m, m = zup M2 2 1 ((iv M2 2 1) + 1) := ⟨_, rfl⟩
      replace hv := hv M4 eM4
      rw [← eM4]
      exact am_xr none ⟨rfl, rfl, rfl⟩ hv
    · replace hv := hv.2 h
      refine am_xrd 3 2 1 (pc := 34) (ls := [.ref 2, .int (zi x)]) (st := [.ref 2]) rfl ?_
      refine am_xiadd 2 (iv M 2 1) 1 (pc := 36) (ls := [.ref 2, .int (zi x)]) (st := [.ref 2]) rfl ?_
      refine am_xn 1 (c1 := (39, [.ref 2, .int (zi x)], [], zup M 2 1 ((iv M 2 1) + 1))) rfl ?_
      obtain ⟨M5, eM5⟩ : ∃ m, m = zup M 2 1 ((iv M 2 1) + 1) := ⟨_, rfl⟩
      replace hv := hv M5 eM5
      rw [← eM5]
      exact am_xr none ⟨rfl, rfl, rfl⟩ hv
set_option maxRecDepth 100000 in
theorem vc_p2_kept  (M : am_M) (Q : Option Value → am_M → Prop) (hv : Q (some (.int (zi (min (iv M 2 1) 120)))) M) : am_x t_Pag_kept (0, am_ent (am_mL t_Pag_kept) [.ref 2], [], M) Q := by
  refine am_xn 0 (c1 := (0, [.ref 2], [], M)) rfl ?_
  refine am_xrd 2 2 1 (pc := 4) (ls := [.ref 2]) (st := []) rfl ?_
  refine am_xn 3 (c1 := (9, [.ref 2], [.int (zi 120), .int (zi (iv M 2 1))], M)) rfl ?_
  refine am_xmin 25 rfl rfl (by decide) (iv_r _ _ _) (by decide) ?_
  refine am_xn 0 (c1 := (12, [.ref 2], [.int (zi (min (iv M 2 1) 120))], M)) rfl ?_
  exact am_xr (some (.int (zi (min (iv M 2 1) 120)))) ⟨rfl, rfl, .int, rfl, rfl⟩ hv
set_option maxRecDepth 100000 in
theorem vc_p2_makeEmpty  (M : am_M) (Q : Option Value → am_M → Prop) (hv : ∀ M1, M1 = zup M 2 1 0 → Q none M1) : am_x t_Pag_makeEmpty (0, am_ent (am_mL t_Pag_makeEmpty) [.ref 2], [], M) Q := by
  refine am_xn 0 (c1 := (0, [.ref 2], [], M)) rfl ?_
  refine am_xn 3 (c1 := (5, [.ref 2], [], zup M 2 1 0)) rfl ?_
  obtain ⟨M1, eM1⟩ : ∃ m, m = zup M 2 1 0 := ⟨_, rfl⟩
  replace hv := hv M1 eM1
  rw [← eM1]
  exact am_xr none ⟨rfl, rfl, rfl⟩ hv
set_option maxRecDepth 100000 in
theorem vc_c_type (x : Int) (M : am_M) (Q : Option Value → am_M → Prop) (hv : (zr x ∧ zr (127 : Int)) ∧ ((0 ≤ x ∧ x ≤ 127 → ∃ (r2 : Int) (M1 : am_M), am_call t_Pag_kept [.ref 2] M (some (.int (zi r2))) M1 ∧ ((zr r2) ∧ ((r2 < 120 → ∃ M4, am_call t_Pag_append [.ref 2, .int (zi x)] M1 none M4 ∧ (∃ (r6 : Int) (M5 : am_M), am_call t_Pag_kept [.ref 2] M4 (some (.int (zi r6))) M5 ∧ (Q (some (.int (zi r6))) M5))) ∧ (120 ≤ r2 → Q (some (.int (zi (-4)))) M1)))) ∧ (¬ (0 ≤ x ∧ x ≤ 127) → Q (some (.int (zi (-2)))) M))) : am_x t_SB_type (0, am_ent (am_mL t_SB_type) [.ref 0, .int (zi x)], [], M) Q := by
  refine am_xn 0 (c1 := (0, [.ref 0, .int (zi x)], [], M)) rfl ?_
  refine am_xn 2 (c1 := (3, [.ref 0, .int (zi x)], [.int (zi 127), .int (zi x)], M)) rfl ?_
  obtain ⟨g, hv⟩ := hv
  by_cases c7 : 0 ≤ x ∧ x ≤ 127
  · replace hv := hv.1 c7
    refine am_xc t_SB_within (.invokestatic 56) 56 (av := [.int (zi x), .int (zi 127)]) (rest := []) (rv := some (.int (zi 1))) (M' := M) rfl rfl rfl rfl (Nat.le_of_ble_eq_true rfl) (fun h => nomatch h) (by have q := sp_within M x 127 g; rwa [if_pos c7] at q) ?_
    refine am_xn 0 (c1 := (6, [.ref 0, .int (zi x)], [.int (zi 1)], M)) rfl ?_
    refine am_xn 4 (c1 := (19, [.ref 0, .int (zi x)], [.ref 2], M)) rfl ?_
    obtain ⟨r2, M1, hc, hv⟩ := hv
    refine am_xc t_Pag_kept (.invokevirtual 63) 63 (av := [.ref 2]) (rest := []) (rv := some (.int (zi r2))) (M' := M1) rfl rfl rfl rfl (Nat.le_of_ble_eq_true rfl) (fun _ => rfl) (hc) ?_
    refine am_xn 0 (c1 := (22, [.ref 0, .int (zi x)], [.int (zi r2)], M1)) rfl ?_
    obtain ⟨r3, hv⟩ := hv
    refine am_xn 2 (c1 := (if zi r2 < zi 120 then 30 else 27, [.ref 0, .int (zi x)], [], M1)) rfl (am_xlt r3 (by decide) (fun h => ?_) (fun h => ?_))
    · replace hv := hv.1 h
      refine am_xn 4 (c1 := (38, [.ref 0, .int (zi x)], [.int (zi x), .ref 2], M1)) rfl ?_
      obtain ⟨M4, hc, hv⟩ := hv
      refine am_xc t_Pag_append (.invokevirtual 67) 67 (av := [.ref 2, .int (zi x)]) (rest := []) (rv := none) (M' := M4) rfl rfl rfl rfl (Nat.le_of_ble_eq_true rfl) (fun _ => rfl) (hc) ?_
      refine am_xn 0 (c1 := (41, [.ref 0, .int (zi x)], [], M4)) rfl ?_
      refine am_xn 3 (c1 := (48, [.ref 0, .int (zi x)], [.ref 2], M4)) rfl ?_
      obtain ⟨r6, M5, hc, hv⟩ := hv
      refine am_xc t_Pag_kept (.invokevirtual 63) 63 (av := [.ref 2]) (rest := []) (rv := some (.int (zi r6))) (M' := M5) rfl rfl rfl rfl (Nat.le_of_ble_eq_true rfl) (fun _ => rfl) (hc) ?_
      refine am_xn 0 (c1 := (51, [.ref 0, .int (zi x)], [.int (zi r6)], M5)) rfl ?_
      exact am_xr (some (.int (zi r6))) ⟨rfl, rfl, .int, rfl, rfl⟩ hv
    · replace hv := hv.2 h
      refine am_xn 1 (c1 := (29, [.ref 0, .int (zi x)], [.int (zi (-4))], M1)) rfl ?_
      exact am_xr (some (.int (zi (-4)))) ⟨rfl, rfl, .int, rfl, rfl⟩ hv
  · replace hv := hv.2 c7
    refine am_xc t_SB_within (.invokestatic 56) 56 (av := [.int (zi x), .int (zi 127)]) (rest := []) (rv := some (.int (zi 0))) (M' := M) rfl rfl rfl rfl (Nat.le_of_ble_eq_true rfl) (fun h => nomatch h) (by have q := sp_within M x 127 g; rwa [if_neg c7] at q) ?_
    refine am_xn 0 (c1 := (6, [.ref 0, .int (zi x)], [.int (zi 0)], M)) rfl ?_
    refine am_xn 2 (c1 := (11, [.ref 0, .int (zi x)], [.int (zi (-2))], M)) rfl ?_
    exact am_xr (some (.int (zi (-2)))) ⟨rfl, rfl, .int, rfl, rfl⟩ hv
set_option maxRecDepth 100000 in
theorem vc_c_revoke (a : Int) (on : Int) (M : am_M) (Q : Option Value → am_M → Prop) (hv : (zr a) ∧ ((0 ≤ a ∧ a < iv M 11 0 → (zand (zshr (iv M 11 3) a) 1 = 1 → (zr on) ∧ ((1 = on → Q (some (.int (zi (-3)))) M) ∧ (¬ 1 = on → ∃ M2, am_call t_Arc_push [.ref 12, .ref 9] M none M2 ∧ (∀ M3, M3 = zup M2 11 3 (zxor (iv M2 11 3) (zshl 1 a)) → Q (some (.int (zi 1))) M3)))) ∧ (¬ (zand (zshr (iv M 11 3) a) 1 = 1) → (zr on) ∧ ((0 = on → Q (some (.int (zi (-3)))) M) ∧ (¬ 0 = on → ∃ M5, am_call t_Arc_push [.ref 12, .ref 9] M none M5 ∧ (∀ M6, M6 = zup M5 11 3 (zxor (iv M5 11 3) (zshl 1 a)) → Q (some (.int (zi 1))) M6))))) ∧ (¬ (0 ≤ a ∧ a < iv M 11 0) → Q (some (.int (zi (-2)))) M))) : am_x t_SB_revoke (0, am_ent (am_mL t_SB_revoke) [.ref 0, .int (zi a), .int (zi on)], [], M) Q := by
  refine am_xn 0 (c1 := (0, [.ref 0, .int (zi a), .int (zi on)], [], M)) rfl ?_
  refine am_xn 3 (c1 := (5, [.ref 0, .int (zi a), .int (zi on)], [.int (zi a), .ref 9], M)) rfl ?_
  obtain ⟨g, hv⟩ := hv
  by_cases c8 : 0 ≤ a ∧ a < iv M 11 0
  · replace hv := hv.1 c8
    refine am_xc t_Amd_has (.invokevirtual 99) 99 (av := [.ref 9, .int (zi a)]) (rest := []) (rv := some (.int (zi 1))) (M' := M) rfl rfl rfl rfl (Nat.le_of_ble_eq_true rfl) (fun _ => rfl) (by have q := sp_c_has M a g; rwa [if_pos c8] at q) ?_
    refine am_xn 0 (c1 := (8, [.ref 0, .int (zi a), .int (zi on)], [.int (zi 1)], M)) rfl ?_
    refine am_xn 4 (c1 := (19, [.ref 0, .int (zi a), .int (zi on)], [.int (zi a), .ref 9], M)) rfl ?_
    by_cases c7 : zand (zshr (iv M 11 3) a) 1 = 1
    · replace hv := hv.1 c7
      refine am_xc t_Amd_isRevoked (.invokevirtual 103) 103 (av := [.ref 9, .int (zi a)]) (rest := []) (rv := some (.int (zi 1))) (M' := M) rfl rfl rfl rfl (Nat.le_of_ble_eq_true rfl) (fun _ => rfl) (by have q := sp_c_isRevoked M a; rwa [if_pos c7] at q) ?_
      refine am_xn 0 (c1 := (22, [.ref 0, .int (zi a), .int (zi on)], [.int (zi 1)], M)) rfl ?_
      obtain ⟨r1, hv⟩ := hv
      refine am_xn 2 (c1 := (if zi 1 = zi on then 26 else 29, [.ref 0, .int (zi a), .int (zi on)], [], M)) rfl (am_xeq (by decide) r1 (fun h => ?_) (fun h => ?_))
      · replace hv := hv.1 h
        refine am_xn 1 (c1 := (28, [.ref 0, .int (zi a), .int (zi on)], [.int (zi (-3))], M)) rfl ?_
        exact am_xr (some (.int (zi (-3)))) ⟨rfl, rfl, .int, rfl, rfl⟩ hv
      · replace hv := hv.2 h
        refine am_xn 4 (c1 := (37, [.ref 0, .int (zi a), .int (zi on)], [.ref 9, .ref 12], M)) rfl ?_
        obtain ⟨M2, hc, hv⟩ := hv
        refine am_xc t_Arc_push (.invokevirtual 88) 88 (av := [.ref 12, .ref 9]) (rest := []) (rv := none) (M' := M2) rfl rfl rfl rfl (Nat.le_of_ble_eq_true rfl) (fun _ => rfl) (hc) ?_
        refine am_xn 0 (c1 := (40, [.ref 0, .int (zi a), .int (zi on)], [], M2)) rfl ?_
        refine am_xn 4 (c1 := (48, [.ref 0, .int (zi a), .int (zi on)], [.ref 9, .ref 9], M2)) rfl ?_
        refine am_xc t_Amd_revoked (.invokevirtual 106) 106 (av := [.ref 9]) (rest := [.ref 9]) (rv := some (.int (zi (iv M2 11 3)))) (M' := M2) rfl rfl rfl rfl (Nat.le_of_ble_eq_true rfl) (fun _ => rfl) (sp_c_revoked M2) ?_
        refine am_xn 0 (c1 := (51, [.ref 0, .int (zi a), .int (zi on)], [.int (zi (iv M2 11 3)), .ref 9], M2)) rfl ?_
        refine am_xbit 3 (zi 1 <<< (zi a &&& 31)) (pc := 54) (ls := [.ref 0, .int (zi a), .int (zi on)]) (st := [.int (zi (iv M2 11 3)), .ref 9]) rfl ?_
        refine am_xn 0 (c1 := (54, [.ref 0, .int (zi a), .int (zi on)], [.int (zi (zshl 1 a)), .int (zi (iv M2 11 3)), .ref 9], M2)) rfl ?_
        refine am_xbit 1 (zi (iv M2 11 3) ^^^ zi (zshl 1 a)) (pc := 55) (ls := [.ref 0, .int (zi a), .int (zi on)]) (st := [.ref 9]) rfl ?_
        refine am_xn 0 (c1 := (55, [.ref 0, .int (zi a), .int (zi on)], [.int (zi (zxor (iv M2 11 3) (zshl 1 a))), .ref 9], M2)) rfl ?_
        obtain ⟨M3, eM3⟩ : ∃ m, m = zup M2 11 3 (zxor (iv M2 11 3) (zshl 1 a)) := ⟨_, rfl⟩
        replace hv := hv M3 eM3
        refine am_xc t_Amd_setRevoked (.invokevirtual 109) 109 (av := [.ref 9, .int (zi (zxor (iv M2 11 3) (zshl 1 a)))]) (rest := []) (rv := none) (M' := M3) rfl rfl rfl rfl (Nat.le_of_ble_eq_true rfl) (fun _ => rfl) (by rw [eM3]; exact sp_c_setRevoked M2 (zxor (iv M2 11 3) (zshl 1 a))) ?_
        refine am_xn 0 (c1 := (58, [.ref 0, .int (zi a), .int (zi on)], [], M3)) rfl ?_
        refine am_xn 1 (c1 := (59, [.ref 0, .int (zi a), .int (zi on)], [.int (zi 1)], M3)) rfl ?_
        exact am_xr (some (.int (zi 1))) ⟨rfl, rfl, .int, rfl, rfl⟩ hv
    · replace hv := hv.2 c7
      refine am_xc t_Amd_isRevoked (.invokevirtual 103) 103 (av := [.ref 9, .int (zi a)]) (rest := []) (rv := some (.int (zi 0))) (M' := M) rfl rfl rfl rfl (Nat.le_of_ble_eq_true rfl) (fun _ => rfl) (by have q := sp_c_isRevoked M a; rwa [if_neg c7] at q) ?_
      refine am_xn 0 (c1 := (22, [.ref 0, .int (zi a), .int (zi on)], [.int (zi 0)], M)) rfl ?_
      obtain ⟨r4, hv⟩ := hv
      refine am_xn 2 (c1 := (if zi 0 = zi on then 26 else 29, [.ref 0, .int (zi a), .int (zi on)], [], M)) rfl (am_xeq (by decide) r4 (fun h => ?_) (fun h => ?_))
      · replace hv := hv.1 h
        refine am_xn 1 (c1 := (28, [.ref 0, .int (zi a), .int (zi on)], [.int (zi (-3))], M)) rfl ?_
        exact am_xr (some (.int (zi (-3)))) ⟨rfl, rfl, .int, rfl, rfl⟩ hv
      · replace hv := hv.2 h
        refine am_xn 4 (c1 := (37, [.ref 0, .int (zi a), .int (zi on)], [.ref 9, .ref 12], M)) rfl ?_
        obtain ⟨M5, hc, hv⟩ := hv
        refine am_xc t_Arc_push (.invokevirtual 88) 88 (av := [.ref 12, .ref 9]) (rest := []) (rv := none) (M' := M5) rfl rfl rfl rfl (Nat.le_of_ble_eq_true rfl) (fun _ => rfl) (hc) ?_
        refine am_xn 0 (c1 := (40, [.ref 0, .int (zi a), .int (zi on)], [], M5)) rfl ?_
        refine am_xn 4 (c1 := (48, [.ref 0, .int (zi a), .int (zi on)], [.ref 9, .ref 9], M5)) rfl ?_
        refine am_xc t_Amd_revoked (.invokevirtual 106) 106 (av := [.ref 9]) (rest := [.ref 9]) (rv := some (.int (zi (iv M5 11 3)))) (M' := M5) rfl rfl rfl rfl (Nat.le_of_ble_eq_true rfl) (fun _ => rfl) (sp_c_revoked M5) ?_
        refine am_xn 0 (c1 := (51, [.ref 0, .int (zi a), .int (zi on)], [.int (zi (iv M5 11 3)), .ref 9], M5)) rfl ?_
        refine am_xbit 3 (zi 1 <<< (zi a &&& 31)) (pc := 54) (ls := [.ref 0, .int (zi a), .int (zi on)]) (st := [.int (zi (iv M5 11 3)), .ref 9]) rfl ?_
        refine am_xn 0 (c1 := (54, [.ref 0, .int (zi a), .int (zi on)], [.int (zi (zshl 1 a)), .int (zi (iv M5 11 3)), .ref 9], M5)) rfl ?_
        refine am_xbit 1 (zi (iv M5 11 3) ^^^ zi (zshl 1 a)) (pc := 55) (ls := [.ref 0, .int (zi a), .int (zi on)]) (st := [.ref 9]) rfl ?_
        refine am_xn 0 (c1 := (55, [.ref 0, .int (zi a), .int (zi on)], [.int (zi (zxor (iv M5 11 3) (zshl 1 a))), .ref 9], M5)) rfl ?_
        obtain ⟨M6, eM6⟩ : ∃ m, m = zup M5 11 3 (zxor (iv M5 11 3) (zshl 1 a)) := ⟨_, rfl⟩
        replace hv := hv M6 eM6
        refine am_xc t_Amd_setRevoked (.invokevirtual 109) 109 (av := [.ref 9, .int (zi (zxor (iv M5 11 3) (zshl 1 a)))]) (rest := []) (rv := none) (M' := M6) rfl rfl rfl rfl (Nat.le_of_ble_eq_true rfl) (fun _ => rfl) (by rw [eM6]; exact sp_c_setRevoked M5 (zxor (iv M5 11 3) (zshl 1 a))) ?_
        refine am_xn 0 (c1 := (58, [.ref 0, .int (zi a), .int (zi on)], [], M6)) rfl ?_
        refine am_xn 1 (c1 := (59, [.ref 0, .int (zi a), .int (zi on)], [.int (zi 1)], M6)) rfl ?_
        exact am_xr (some (.int (zi 1))) ⟨rfl, rfl, .int, rfl, rfl⟩ hv
  · replace hv := hv.2 c8
    refine am_xc t_Amd_has (.invokevirtual 99) 99 (av := [.ref 9, .int (zi a)]) (rest := []) (rv := some (.int (zi 0))) (M' := M) rfl rfl rfl rfl (Nat.le_of_ble_eq_true rfl) (fun _ => rfl) (by have q := sp_c_has M a g; rwa [if_neg c8] at q) ?_
    refine am_xn 0 (c1 := (8, [.ref 0, .int (zi a), .int (zi on)], [.int (zi 0)], M)) rfl ?_
    refine am_xn 2 (c1 := (13, [.ref 0, .int (zi a), .int (zi on)], [.int (zi (-2))], M)) rfl ?_
    exact am_xr (some (.int (zi (-2)))) ⟨rfl, rfl, .int, rfl, rfl⟩ hv
set_option maxRecDepth 100000 in
theorem vc_c_commence (a : Int) (d : Int) (M : am_M) (Q : Option Value → am_M → Prop) (hv : (zr a) ∧ ((0 ≤ a ∧ a < iv M 11 0 → (zr d ∧ zr (9999 : Int)) ∧ ((0 ≤ d ∧ d ≤ 9999 → (0 ≤ a ∧ a ≤ 20) ∧ (∃ M1, am_call t_Arc_push [.ref 12, .ref 9] M none M1 ∧ ((0 ≤ a ∧ a ≤ 20) ∧ (∀ M2, M2 = zup M1 11 (4 + a) d → Q (some (.int (zi (iv M 11 (4 + a))))) M2)))) ∧ (¬ (0 ≤ d ∧ d ≤ 9999) → Q (some (.int (zi (-2)))) M))) ∧ (¬ (0 ≤ a ∧ a < iv M 11 0) → Q (some (.int (zi (-2)))) M))) : am_x t_SB_commence (0, am_ent (am_mL t_SB_commence) [.ref 0, .int (zi a), .int (zi d)], [], M) Q := by
  refine am_xn 0 (c1 := (0, [.ref 0, .int (zi a), .int (zi d), .null], [], M)) rfl ?_
  refine am_xn 3 (c1 := (5, [.ref 0, .int (zi a), .int (zi d), .null], [.int (zi a), .ref 9], M)) rfl ?_
  obtain ⟨g, hv⟩ := hv
  by_cases c4 : 0 ≤ a ∧ a < iv M 11 0
  · replace hv := hv.1 c4
    refine am_xc t_Amd_has (.invokevirtual 99) 99 (av := [.ref 9, .int (zi a)]) (rest := []) (rv := some (.int (zi 1))) (M' := M) rfl rfl rfl rfl (Nat.le_of_ble_eq_true rfl) (fun _ => rfl) (by have q := sp_c_has M a g; rwa [if_pos c4] at q) ?_
    refine am_xn 0 (c1 := (8, [.ref 0, .int (zi a), .int (zi d), .null], [.int (zi 1)], M)) rfl ?_
    refine am_xn 3 (c1 := (15, [.ref 0, .int (zi a), .int (zi d), .null], [.int (zi 9999), .int (zi d)], M)) rfl ?_
    obtain ⟨g, hv⟩ := hv
    by_cases c3 : 0 ≤ d ∧ d ≤ 9999
    · replace hv := hv.1 c3
      refine am_xc t_SB_within (.invokestatic 56) 56 (av := [.int (zi d), .int (zi 9999)]) (rest := []) (rv := some (.int (zi 1))) (M' := M) rfl rfl rfl rfl (Nat.le_of_ble_eq_true rfl) (fun h => nomatch h) (by have q := sp_within M d 9999 g; rwa [if_pos c3] at q) ?_
      refine am_xn 0 (c1 := (18, [.ref 0, .int (zi a), .int (zi d), .null], [.int (zi 1)], M)) rfl ?_
      refine am_xn 4 (c1 := (29, [.ref 0, .int (zi a), .int (zi d), .null], [.int (zi a), .ref 9], M)) rfl ?_
      obtain ⟨g, hv⟩ := hv
      refine am_xc t_Amd_day (.invokevirtual 112) 112 (av := [.ref 9, .int (zi a)]) (rest := []) (rv := some (.int (zi (iv M 11 (4 + a))))) (M' := M) rfl rfl rfl rfl (Nat.le_of_ble_eq_true rfl) (fun _ => rfl) (sp_c_day M a g) ?_
      refine am_xn 0 (c1 := (32, [.ref 0, .int (zi a), .int (zi d), .null], [.int (zi (iv M 11 (4 + a)))], M)) rfl ?_
      refine am_xn 5 (c1 := (41, [.ref 0, .int (zi a), .int (zi d), .int (zi (iv M 11 (4 + a)))], [.ref 9, .ref 12], M)) rfl ?_
      obtain ⟨M1, hc, hv⟩ := hv
      refine am_xc t_Arc_push (.invokevirtual 88) 88 (av := [.ref 12, .ref 9]) (rest := []) (rv := none) (M' := M1) rfl rfl rfl rfl (Nat.le_of_ble_eq_true rfl) (fun _ => rfl) (hc) ?_
      refine am_xn 0 (c1 := (44, [.ref 0, .int (zi a), .int (zi d), .int (zi (iv M 11 (4 + a)))], [], M1)) rfl ?_
      refine am_xn 4 (c1 := (50, [.ref 0, .int (zi a), .int (zi d), .int (zi (iv M 11 (4 + a)))], [.int (zi d), .int (zi a), .ref 9], M1)) rfl ?_
      obtain ⟨g, hv⟩ := hv
      obtain ⟨M2, eM2⟩ : ∃ m, m = zup M1 11 (4 + a) d := ⟨_, rfl⟩
      replace hv := hv M2 eM2
      refine am_xc t_Amd_setDay (.invokevirtual 115) 115 (av := [.ref 9, .int (zi a), .int (zi d)]) (rest := []) (rv := none) (M' := M2) rfl rfl rfl rfl (Nat.le_of_ble_eq_true rfl) (fun _ => rfl) (by rw [eM2]; exact sp_c_setDay M1 a d g) ?_
      refine am_xn 0 (c1 := (53, [.ref 0, .int (zi a), .int (zi d), .int (zi (iv M 11 (4 + a)))], [], M2)) rfl ?_
      refine am_xn 1 (c1 := (54, [.ref 0, .int (zi a), .int (zi d), .int (zi (iv M 11 (4 + a)))], [.int (zi (iv M 11 (4 + a)))], M2)) rfl ?_
      exact am_xr (some (.int (zi (iv M 11 (4 + a))))) ⟨rfl, rfl, .int, rfl, rfl⟩ hv
    · replace hv := hv.2 c3
      refine am_xc t_SB_within (.invokestatic 56) 56 (av := [.int (zi d), .int (zi 9999)]) (rest := []) (rv := some (.int (zi 0))) (M' := M) rfl rfl rfl rfl (Nat.le_of_ble_eq_true rfl) (fun h => nomatch h) (by have q := sp_within M d 9999 g; rwa [if_neg c3] at q) ?_
      refine am_xn 0 (c1 := (18, [.ref 0, .int (zi a), .int (zi d), .null], [.int (zi 0)], M)) rfl ?_
      refine am_xn 2 (c1 := (23, [.ref 0, .int (zi a), .int (zi d), .null], [.int (zi (-2))], M)) rfl ?_
      exact am_xr (some (.int (zi (-2)))) ⟨rfl, rfl, .int, rfl, rfl⟩ hv
  · replace hv := hv.2 c4
    refine am_xc t_Amd_has (.invokevirtual 99) 99 (av := [.ref 9, .int (zi a)]) (rest := []) (rv := some (.int (zi 0))) (M' := M) rfl rfl rfl rfl (Nat.le_of_ble_eq_true rfl) (fun _ => rfl) (by have q := sp_c_has M a g; rwa [if_neg c4] at q) ?_
    refine am_xn 0 (c1 := (8, [.ref 0, .int (zi a), .int (zi d), .null], [.int (zi 0)], M)) rfl ?_
    refine am_xn 2 (c1 := (23, [.ref 0, .int (zi a), .int (zi d), .null], [.int (zi (-2))], M)) rfl ?_
    exact am_xr (some (.int (zi (-2)))) ⟨rfl, rfl, .int, rfl, rfl⟩ hv
theorem sp_p2_kept {M : am_M} (h : 0 ≤ iv M 2 1 ∧ iv M 2 1 ≤ 120) : am_call t_Pag_kept [.ref 2] M (some (.int (zi (iv M 2 1)))) M :=
  am_call_of ⟨Nat.le_of_ble_eq_true rfl, rfl⟩ (vc_p2_kept M _ ⟨by rw [show min (iv M 2 1) 120 = iv M 2 1 by omega], rfl⟩)
theorem fu_fo (b : Int → Int) {i v : Int} (h : i < 41) (a : Int) : fo (fu b i v) a = fo b a := sm_congr (fun k k0 _ => fu_n b (by omega))
theorem fu_pt (b : Int → Int) {i v o w : Int} (h : i < 41) (o0 : 0 ≤ o) (w0 : 0 ≤ w) : pt (fu b i v) o w = pt b o w := fu_n b (by omega)
theorem fu_ia (b : Int → Int) {i v : Int} (h : i < 41) (o : Int) : ia (fu b i v) o = ia b o := sm_congr (fun k k0 _ => by
  show (if pt (fu b i v) k 0 = 0 then (1 : Int) else 0) = if pt b k 0 = 0 then 1 else 0
  rw [fu_pt b h k0 (by decide)])
theorem WO_fu {b : Int → Int} {i v o : Int} (h : i < 41) (o0 : 0 ≤ o) (w : WO (pt b o)) : WO (pt (fu b i v) o) := WO_congr (fun j j0 _ => (fu_pt b h o0 j0).symm) w
theorem CO_fu {c c' b : Int → Int} {i v o : Int} (h : i < 41) (o0 : 0 ≤ o) (hc : ∀ j, 45 ≤ j → c' j = c j) (w : CO c b o) (wo : WO (pt b o)) : CO c' (fu b i v) o := by
  have ln := wo.ln
  obtain ⟨p0, p1, p2, p3, p4, p5, p6, p7⟩ := w
  have e : ∀ k, 0 ≤ k → cpt c' o k = cpt c o k := fun k k0 => hc _ (by omega)
  have f : ∀ k, 0 ≤ k → pt (fu b i v) o k = pt b o k := fun k k0 => fu_pt b h o0 k0
  unfold CO
  rw [e 0 (by decide), e 1 (by decide), e 2 (by decide), e 3 (by decide), e 4 (by decide), e 5 (by decide), e 6 (by decide), f 0 (by decide), f 1 (by decide), f 2 (by decide), f 3 (by decide), f 4 (by decide), f 5 (by decide), fu_ia b h]
  exact ⟨p0, p1, p2, p3, p4, p5, p6, fun k k0 k1 => by rw [e _ (by omega), f _ (by omega)]; exact p7 k k0 k1⟩
theorem BK_rev {c c' b : Int → Int} (s : BKr c b) {a v : Int} (a0 : 0 ≤ a) (a1 : a < b 0) (hv : v = 0 ∨ v = 1) (hc : ∀ j, 0 ≤ j → ¬ j = 3 → c' j = c j) (hr : 0 ≤ c' 3 ∧ c' 3 < 1048576) (hb : ∀ x, 0 ≤ x → x < 20 → zbt (c' 3) x = if x = a then decide (v = 1) else zbt (c 3) x) : BKr c' (fu b (21 + a) v) := by
  obtain ⟨w, ⟨q0, q1, q2, q3, q4, q5⟩, q6, q7⟩ := s
  have n1 := w.n1
  have z0 : fu b (21 + a) v 0 = b 0 := fu_n b (by omega)
  have zn : nops (fu b (21 + a) v) = nops b := by unfold nops; rw [z0, fu_fo b (by omega)]
  refine ⟨?_, ⟨?_, ?_, ?_, fun x x0 x1 => ?_, fun x x0 x1 => ?_, fun o o0 o1 => ?_⟩, hr, fun x x0 x1 => ?_⟩
  · unfold WB
    rw [z0, zn]
    refine ⟨w.n0, w.n1, fun x x0 x1 => ?_, fun x x0 x1 => ?_, fun x x0 x1 => ?_, w.tot, ?_, fun o o0 o1 => WO_fu (by omega) o0 (w.op o o0 o1)⟩
    · rw [fu_n b (show ¬ 1 + x = 21 + a by omega)]; exact w.day x x0 x1
    · unfold fu
      split
      · exact hv
      · exact w.rev x x0 x1
    · rw [fu_n b (show ¬ 41 + x = 21 + a by omega)]; exact w.sz x x0 x1
    · rw [fu_ia b (by omega)]; exact w.ins
  · rw [hc 0 (by decide) (by decide), z0]; exact q0
  · rw [hc 1 (by decide) (by decide), zn]; exact q1
  · rw [hc 2 (by decide) (by decide), zn, fu_ia b (by omega)]; exact q2
  · rw [z0] at x1
    rw [hc _ (by omega) (by omega), fu_n b (show ¬ 1 + x = 21 + a by omega)]; exact q3 x x0 x1
  · rw [z0] at x1
    rw [hc _ (by omega) (by omega), fu_fo b (by omega)]; exact q4 x x0 x1
  · rw [zn] at o1
    exact CO_fu (by omega) o0 (fun j hj => hc j (by omega) (by omega)) (q5 o o0 o1) (w.op o o0 o1)
  · rw [zb_is _ x0 (by omega), hb x x0 x1, z0]
    have h7 := q7 x x0 x1
    rw [zb_is _ x0 (by omega)] at h7
    by_cases e : x = a
    · rw [if_pos e, e, if_pos a1, fu_s]
      rcases hv with e | e <;> (rw [e]; decide)
    · rw [if_neg e, h7, fu_n b (show ¬ 21 + x = 21 + a by omega)]
theorem BK_day {c c' b : Int → Int} (s : BKr c b) {a v : Int} (a0 : 0 ≤ a) (a1 : a < b 0) (hv : 0 ≤ v ∧ v ≤ 9999) (hc : ∀ j, 0 ≤ j → c' j = if j = 4 + a then v else c j) : BKr c' (fu b (1 + a) v) := by
  obtain ⟨w, ⟨q0, q1, q2, q3, q4, q5⟩, q6, q7⟩ := s
  have n1 := w.n1
  have z0 : fu b (1 + a) v 0 = b 0 := fu_n b (by omega)
  have zn : nops (fu b (1 + a) v) = nops b := by unfold nops; rw [z0, fu_fo b (by omega)]
  have hn : ∀ j, 0 ≤ j → ¬ j = 4 + a → c' j = c j := fun j j0 hj => by rw [hc j j0, if_neg hj]
  refine ⟨?_, ⟨?_, ?_, ?_, fun x x0 x1 => ?_, fun x x0 x1 => ?_, fun o o0 o1 => ?_⟩, ?_, fun x x0 x1 => ?_⟩
  · unfold WB
    rw [z0, zn]
    refine ⟨w.n0, w.n1, fun x x0 x1 => ?_, fun x x0 x1 => ?_, fun x x0 x1 => ?_, w.tot, ?_, fun o o0 o1 => WO_fu (by omega) o0 (w.op o o0 o1)⟩
    · unfold fu
      split
      · exact hv
      · exact w.day x x0 x1
    · rw [fu_n b (show ¬ 21 + x = 1 + a by omega)]; exact w.rev x x0 x1
    · rw [fu_n b (show ¬ 41 + x = 1 + a by omega)]; exact w.sz x x0 x1
    · rw [fu_ia b (by omega)]; exact w.ins
  · rw [hn 0 (by decide) (by omega), z0]; exact q0
  · rw [hn 1 (by decide) (by omega), zn]; exact q1
  · rw [hn 2 (by decide) (by omega), zn, fu_ia b (by omega)]; exact q2
  · rw [z0] at x1
    rw [hc _ (by omega)]
    unfold fu
    by_cases e : x = a
    · rw [if_pos (by omega), if_pos (by omega)]
    · rw [if_neg (by omega), if_neg (by omega)]; exact q3 x x0 x1
  · rw [z0] at x1
    rw [hn _ (by omega) (by omega), fu_fo b (by omega)]; exact q4 x x0 x1
  · rw [zn] at o1
    exact CO_fu (by omega) o0 (fun j hj => hn j (by omega) (by omega)) (q5 o o0 o1) (w.op o o0 o1)
  · rw [hn 3 (by decide) (by omega)]; exact q6
  · rw [hn 3 (by decide) (by omega), z0, fu_n b (show ¬ 21 + x = 1 + a by omega)]; exact q7 x x0 x1
theorem xor_rg {s t : Int} (h0 : 0 ≤ s) (h1 : s < 1048576) {a : Int} (a0 : 0 ≤ a) (a1 : a < 20) : 0 ≤ zxor s (zshl 1 a) ∧ zxor s (zshl 1 a) < 1048576 := by
  refine zb_rg (zr_toInt _) (fun x x0 x1 => ?_)
  rw [zb_xor, zb_of h0 h1 x0, zb_1 a0 (by omega) (by omega) x1, decide_eq_false (by omega)]
  rfl
