/-! bits of sets of amendments -/
def bt (x : Int32) (i : Nat) : Bool := x.toBitVec.getLsbD i
theorem b_ext {x y : Int32} (h : ∀ i, i < 32 → bt x i = bt y i) : x = y := Int32.toBitVec_inj.mp (BitVec.eq_of_getLsbD_eq (fun i hi => h i hi))
theorem b_or (x y : Int32) (i : Nat) : bt (x ||| y) i = (bt x i || bt y i) := by unfold bt; rw [Int32.toBitVec_or, BitVec.getLsbD_or]
theorem b_and (x y : Int32) (i : Nat) : bt (x &&& y) i = (bt x i && bt y i) := by unfold bt; rw [Int32.toBitVec_and, BitVec.getLsbD_and]
theorem b_xor (x y : Int32) (i : Nat) : bt (x ^^^ y) i = (bt x i ^^ bt y i) := by unfold bt; rw [Int32.toBitVec_xor, BitVec.getLsbD_xor]
theorem b_big {x : Int32} {i : Nat} (h : 32 ≤ i) : bt x i = false := BitVec.getLsbD_of_ge _ _ h
theorem b_255 (i : Nat) : bt 255 i = decide (i < 8) := by
  rcases Nat.lt_or_ge i 32 with h | h
  · exact (by decide +kernel : ∀ i, i < 32 → bt 255 i = decide (i < 8)) i h
  · rw [b_big h, decide_eq_false (by omega)]
theorem b_65535 (i : Nat) : bt 65535 i = decide (i < 16) := by
  rcases Nat.lt_or_ge i 32 with h | h
  · exact (by decide +kernel : ∀ i, i < 32 → bt 65535 i = decide (i < 16)) i h
  · rw [b_big h, decide_eq_false (by omega)]
theorem b_m1 : ∀ i, i < 32 → bt (-1) i = true := by decide +kernel
theorem b_0 (i : Nat) : bt 0 i = false := BitVec.getLsbD_zero
theorem s_l : ∀ n, n < 32 → ((nI n &&& 31).toBitVec.smod 32).toNat = n := by decide +kernel
theorem s_u : ∀ n, n < 32 → (((nI n).toUInt32 &&& Int32.toUInt32 31).toBitVec % 32).toNat = n := by decide +kernel
theorem b_shl (n : Nat) (hn : n < 32) (x : Int32) {i : Nat} (hi : i < 32) : bt (x <<< (nI n &&& 31)) i = (decide (n ≤ i) && bt x (i - n)) := by
  unfold bt
  rw [Int32.toBitVec_shiftLeft]
  show (x.toBitVec <<< ((nI n &&& 31).toBitVec.smod 32).toNat).getLsbD i = _
  rw [s_l n hn, BitVec.getLsbD_shiftLeft]
  rcases Nat.lt_or_ge i n with h | h
  · simp [h, Nat.not_le.mpr h]
  · simp [hi, h, Nat.not_lt.mpr h]
theorem b_ushr (n : Nat) (hn : n < 32) (x : Int32) (i : Nat) : bt ((x.toUInt32 >>> ((nI n).toUInt32 &&& Int32.toUInt32 31)).toInt32) i = bt x (n + i) := by
  show (x.toUInt32 >>> ((nI n).toUInt32 &&& Int32.toUInt32 31)).toBitVec.getLsbD i = x.toUInt32.toBitVec.getLsbD (n + i)
  rw [UInt32.toBitVec_shiftRight]
  show (x.toUInt32.toBitVec >>> (((nI n).toUInt32 &&& Int32.toUInt32 31).toBitVec % 32).toNat).getLsbD i = _
  rw [s_u n hn, BitVec.getLsbD_ushiftRight]
theorem b_sshr (n : Nat) (hn : n < 32) (x : Int32) {i : Nat} (hi : i < 32) : bt (x >>> (nI n &&& 31)) i = if n + i < 32 then bt x (n + i) else bt x 31 := by
  unfold bt
  rw [Int32.toBitVec_shiftRight]
  show (x.toBitVec.sshiftRight ((nI n &&& 31).toBitVec.smod 32).toNat).getLsbD i = _
  rw [s_l n hn, BitVec.getLsbD_sshiftRight, BitVec.msb_eq_getLsbD_last]
  simp [hi]
theorem zi_nI {x : Int} (h : 0 ≤ x) : zi x = nI x.toNat := by
  unfold zi nI
  obtain ⟨n, rfl⟩ : ∃ n : Nat, x = n := ⟨x.toNat, by omega⟩
  rfl
def zbt (s a : Int) : Bool := bt (zi s) a.toNat
theorem b_1 : ∀ i, i < 32 → bt 1 i = decide (i = 0) := by decide +kernel
theorem zb_is (s : Int) {a : Int} (h0 : 0 ≤ a) (h1 : a < 32) : zand (zshr s a) 1 = if zbt s a = true then 1 else 0 := by
  unfold zand zshr zbt
  rw [zi_of, zi_nI h0]
  have e : (zi s >>> (nI a.toNat &&& 31)) &&& zi 1 = if bt (zi s) a.toNat = true then 1 else 0 := by
    refine b_ext (fun i hi => ?_)
    rw [b_and, b_sshr a.toNat (by omega) (zi s) hi, show zi 1 = 1 from rfl, b_1 i hi]
    by_cases z : i = 0
    · subst z
      rw [if_pos (by omega), Nat.add_zero]
      cases hb : bt (zi s) a.toNat
      · rw [if_neg (by decide), b_0]; rfl
      · rw [if_pos rfl, b_1 0 (by decide)]; rfl
    · rw [decide_eq_false z, Bool.and_false]
      split
      · rw [b_1 i hi, decide_eq_false z]
      · rw [b_0]
  rw [e]
  split <;> rfl
theorem zb_1 {a x : Int} (h0 : 0 ≤ a) (h1 : a < 32) (x0 : 0 ≤ x) (x1 : x < 32) : zbt (zshl 1 a) x = decide (x = a) := by
  unfold zbt zshl
  rw [zi_of, zi_nI h0, b_shl a.toNat (by omega) _ (show x.toNat < 32 by omega), show zi 1 = 1 from rfl, b_1 _ (by omega)]
  by_cases z : x = a
  · rw [decide_eq_true z, decide_eq_true (by omega), decide_eq_true (by omega)]; rfl
  · rw [decide_eq_false z]
    by_cases y : a.toNat ≤ x.toNat
    · rw [decide_eq_false (p := x.toNat - a.toNat = 0) (by omega), Bool.and_false]
    · rw [decide_eq_false y, Bool.false_and]
theorem zb_xor (s t x : Int) : zbt (zxor s t) x = (zbt s x ^^ zbt t x) := by
  unfold zbt zxor
  rw [zi_of, b_xor]
theorem zb_or (s t x : Int) : zbt (zor s t) x = (zbt s x || zbt t x) := by
  unfold zbt zor
  rw [zi_of, b_or]
theorem zb_and (s t x : Int) : zbt (zand s t) x = (zbt s x && zbt t x) := by
  unfold zbt zand
  rw [zi_of, b_and]
theorem zb_0 (x : Int) : zbt 0 x = false := b_0 _
theorem zb_m1 {x : Int} (x0 : 0 ≤ x) (x1 : x < 32) : zbt (-1) x = true := b_m1 _ (by omega)
/-- a number with no bit from the twentieth on -/
theorem zb_rg {v : Int} (hz : zr v) (h : ∀ x, 20 ≤ x → x < 32 → zbt v x = false) : 0 ≤ v ∧ v < 1048576 := by
  have e : (zi v).toBitVec.toNat < 2 ^ 20 := by
    refine Nat.lt_pow_two_of_testBit _ (fun i hi => ?_)
    by_cases q : i < 32
    · have := h i (by omega) (by omega)
      exact this
    · exact Nat.testBit_lt_two_pow (Nat.lt_of_lt_of_le (zi v).toBitVec.isLt (Nat.pow_le_pow_right (by decide) (by omega)))
  have e2 : (zi v).toInt = v := zi_toInt hz
  have e3 : (zi v).toInt = (zi v).toBitVec.toInt := rfl
  rw [BitVec.toInt_eq_toNat_of_lt (by omega)] at e3
  omega
theorem zb_of {v : Int} (h0 : 0 ≤ v) (h1 : v < 1048576) {x : Int} (x0 : 20 ≤ x) : zbt v x = false := by
  unfold zbt
  rw [zi_nI h0]
  show (BitVec.ofNat 32 v.toNat).getLsbD x.toNat = false
  rw [BitVec.getLsbD_ofNat]
  have : v.toNat.testBit x.toNat = false := Nat.testBit_lt_two_pow (Nat.lt_of_lt_of_le (show v.toNat < 2 ^ 20 by omega) (Nat.pow_le_pow_right (by decide) (by omega)))
  rw [this, Bool.and_false]
theorem cbr_bt {c b : Int → Int} (cb : CBR c b) {a : Int} (a0 : 0 ≤ a) (a1 : a < 20) : (zbt (c 3) a = true ↔ (a < b 0 ∧ b (21 + a) = 1)) ∨ ¬ (b (21 + a) = 0 ∨ b (21 + a) = 1) := by
  have h := cb.2.2 a a0 a1
  rw [zb_is _ a0 (by omega)] at h
  by_cases q : zbt (c 3) a = true
  · rw [if_pos q] at h
    by_cases z : a < b 0
    · rw [if_pos z] at h
      exact Or.inl ⟨fun _ => ⟨z, h.symm⟩, fun _ => q⟩
    · rw [if_neg z] at h; omega
  · rw [if_neg q] at h
    by_cases z : a < b 0
    · rw [if_pos z] at h
      exact Or.inl ⟨fun y => absurd y q, fun y => by omega⟩
    · exact Or.inl ⟨fun y => absurd y q, fun y => absurd y.1 z⟩
theorem cbr_b {c b : Int → Int} (w : WB b) (cb : CBR c b) {a : Int} (a0 : 0 ≤ a) (a1 : a < b 0) : zbt (c 3) a = decide (b (21 + a) = 1) := by
  have w1 := w.n1
  have rv := w.rev a a0 a1
  rcases cbr_bt cb a0 (show a < 20 by omega) with h | h
  · by_cases q : b (21 + a) = 1
    · rw [decide_eq_true q]; exact h.mpr ⟨a1, q⟩
    · rw [decide_eq_false q]
      cases z : zbt (c 3) a
      · rfl
      · exact absurd (h.mp z).2 q
  · exact absurd rv h
/-! two laws -/
def smt (L K : Lw) (c : Int) : Prop := L.len c = K.len c ∧ ∀ k, 0 ≤ k → k < L.len c → L.tx c k = K.tx c k
def dif (L K : Lw) (c x : Int) : Prop := if x = 0 then L.code c = 0 ∧ ¬ K.code c = 0 else if x = 1 then ¬ L.code c = 0 ∧ K.code c = 0 else if x = 2 then (¬ L.code c = 0 ∧ ¬ K.code c = 0) ∧ ¬ L.code c = K.code c else (¬ L.code c = 0 ∧ ¬ K.code c = 0) ∧ ¬ smt L K c
theorem clr15_rows {L : Lw} {M M' : am_M} (r : CLR15 L M) (h : ∀ a, a ≤ 33 → M' a = M a) : CLR15 L M' := by
  unfold CLR15 at r ⊢
  rw [iv_row (h 17 (by decide)), iv_row (h 21 (by decide)), iv_row (h 19 (by decide)), iv_row (h 23 (by decide)), iv_row (h 27 (by decide)), iv_row (h 29 (by decide)), iv_row (h 15 (by decide)), iv_row (h 31 (by decide))]
  exact r
set_option maxRecDepth 100000 in
theorem vc_saysTheSame (c : Int) (M : am_M) (Q : Option Value → am_M → Prop) (hv : (0 ≤ c ∧ c < 40) ∧ ((0 ≤ c ∧ c < 40) ∧ (((iv M 21 c) = (iv M 40 c) → am_x t_Law_saysTheSame (17, [.ref 15, .ref 34, .int (zi c), .int (zi 0)], [], M) Q) ∧ (¬ (iv M 21 c) = (iv M 40 c) → Q (some (.int (zi 0))) M)))) : am_x t_Law_saysTheSame (0, am_ent (am_mL t_Law_saysTheSame) [.ref 15, .ref 34, .int (zi c)], [], M) Q := by
  refine am_xn 0 (c1 := (0, [.ref 15, .ref 34, .int (zi c), .null], [], M)) rfl ?_
  refine am_xn 2 (c1 := (2, [.ref 15, .ref 34, .int (zi c), .null], [.int (zi c), .ref 15], M)) rfl ?_
  obtain ⟨g, hv⟩ := hv
  refine am_xc t_Law_length (.invokevirtual 126) 126 (av := [.ref 15, .int (zi c)]) (rest := []) (rv := some (.int (zi (iv M 21 c)))) (M' := M) rfl rfl rfl rfl (Nat.le_of_ble_eq_true rfl) (fun _ => rfl) (sp_l15_length M c g) ?_
  refine am_xn 0 (c1 := (5, [.ref 15, .ref 34, .int (zi c), .null], [.int (zi (iv M 21 c))], M)) rfl ?_
  refine am_xn 2 (c1 := (7, [.ref 15, .ref 34, .int (zi c), .null], [.int (zi c), .ref 34, .int (zi (iv M 21 c))], M)) rfl ?_
  obtain ⟨g, hv⟩ := hv
  refine am_xc t_Law_length (.invokevirtual 126) 126 (av := [.ref 34, .int (zi c)]) (rest := [.int (zi (iv M 21 c))]) (rv := some (.int (zi (iv M 40 c)))) (M' := M) rfl rfl rfl rfl (Nat.le_of_ble_eq_true rfl) (fun _ => rfl) (sp_l34_length M c g) ?_
  refine am_xn 0 (c1 := (10, [.ref 15, .ref 34, .int (zi c), .null], [.int (zi (iv M 40 c)), .int (zi (iv M 21 c))], M)) rfl ?_
  refine am_xn 1 (c1 := (if zi (iv M 21 c) = zi (iv M 40 c) then 15 else 13, [.ref 15, .ref 34, .int (zi c), .null], [], M)) rfl (am_xeq (iv_r _ _ _) (iv_r _ _ _) (fun h => ?_) (fun h => ?_))
  · replace hv := hv.1 h
    refine am_xn 2 (c1 := (17, [.ref 15, .ref 34, .int (zi c), .int (zi 0)], [], M)) rfl ?_
    exact hv
  · replace hv := hv.2 h
    refine am_xn 1 (c1 := (14, [.ref 15, .ref 34, .int (zi c), .null], [.int (zi 0)], M)) rfl ?_
    exact am_xr (some (.int (zi 0))) ⟨rfl, rfl, .boolean, rfl, rfl⟩ hv
set_option maxRecDepth 100000 in
theorem vc_saysTheSame_17 (x2 : Int) (x3 : Int) (M : am_M) (Q : Option Value → am_M → Prop) (hv : (0 ≤ x2 ∧ x2 < 40) ∧ ((zr x3) ∧ ((x3 < (iv M 21 x2) → (0 ≤ x2 ∧ x2 < 40 ∧ 0 ≤ x3 ∧ x3 < 6) ∧ ((0 ≤ x2 ∧ x2 < 40 ∧ 0 ≤ x3 ∧ x3 < 6) ∧ (((iv M 23 (x2 * 6 + x3)) = (iv M 42 (x2 * 6 + x3)) → am_x t_Law_saysTheSame (17, [.ref 15, .ref 34, .int (zi x2), .int (zi (x3 + 1))], [], M) Q) ∧ (¬ (iv M 23 (x2 * 6 + x3)) = (iv M 42 (x2 * 6 + x3)) → Q (some (.int (zi 0))) M)))) ∧ ((iv M 21 x2) ≤ x3 → Q (some (.int (zi 1))) M)))) : am_x t_Law_saysTheSame (17, [.ref 15, .ref 34, .int (zi x2), .int (zi x3)], [], M) Q := by
  refine am_xn 3 (c1 := (20, [.ref 15, .ref 34, .int (zi x2), .int (zi x3)], [.int (zi x2), .ref 15, .int (zi x3)], M)) rfl ?_
  obtain ⟨g, hv⟩ := hv
  refine am_xc t_Law_length (.invokevirtual 126) 126 (av := [.ref 15, .int (zi x2)]) (rest := [.int (zi x3)]) (rv := some (.int (zi (iv M 21 x2)))) (M' := M) rfl rfl rfl rfl (Nat.le_of_ble_eq_true rfl) (fun _ => rfl) (sp_l15_length M x2 g) ?_
  refine am_xn 0 (c1 := (23, [.ref 15, .ref 34, .int (zi x2), .int (zi x3)], [.int (zi (iv M 21 x2)), .int (zi x3)], M)) rfl ?_
  obtain ⟨r1, hv⟩ := hv
  refine am_xn 1 (c1 := (if zi x3 < zi (iv M 21 x2) then 26 else 49, [.ref 15, .ref 34, .int (zi x2), .int (zi x3)], [], M)) rfl (am_xlt r1 (iv_r _ _ _) (fun h => ?_) (fun h => ?_))
  · replace hv := hv.1 h
    refine am_xn 3 (c1 := (29, [.ref 15, .ref 34, .int (zi x2), .int (zi x3)], [.int (zi x3), .int (zi x2), .ref 15], M)) rfl ?_
    obtain ⟨g, hv⟩ := hv
    refine am_xc t_Law_said (.invokevirtual 117) 117 (av := [.ref 15, .int (zi x2), .int (zi x3)]) (rest := []) (rv := some (.int (zi (iv M 23 (x2 * 6 + x3))))) (M' := M) rfl rfl rfl rfl (Nat.le_of_ble_eq_true rfl) (fun _ => rfl) (sp_l15_said M x2 x3 g) ?_
    refine am_xn 0 (c1 := (32, [.ref 15, .ref 34, .int (zi x2), .int (zi x3)], [.int (zi (iv M 23 (x2 * 6 + x3)))], M)) rfl ?_
    refine am_xn 3 (c1 := (35, [.ref 15, .ref 34, .int (zi x2), .int (zi x3)], [.int (zi x3), .int (zi x2), .ref 34, .int (zi (iv M 23 (x2 * 6 + x3)))], M)) rfl ?_
    obtain ⟨g, hv⟩ := hv
    refine am_xc t_Law_said (.invokevirtual 117) 117 (av := [.ref 34, .int (zi x2), .int (zi x3)]) (rest := [.int (zi (iv M 23 (x2 * 6 + x3)))]) (rv := some (.int (zi (iv M 42 (x2 * 6 + x3))))) (M' := M) rfl rfl rfl rfl (Nat.le_of_ble_eq_true rfl) (fun _ => rfl) (sp_l34_said M x2 x3 g) ?_
    refine am_xn 0 (c1 := (38, [.ref 15, .ref 34, .int (zi x2), .int (zi x3)], [.int (zi (iv M 42 (x2 * 6 + x3))), .int (zi (iv M 23 (x2 * 6 + x3)))], M)) rfl ?_
    refine am_xn 1 (c1 := (if zi (iv M 23 (x2 * 6 + x3)) = zi (iv M 42 (x2 * 6 + x3)) then 43 else 41, [.ref 15, .ref 34, .int (zi x2), .int (zi x3)], [], M)) rfl (am_xeq (iv_r _ _ _) (iv_r _ _ _) (fun h => ?_) (fun h => ?_))
    · replace hv := hv.1 h
      refine am_xn 1 (c1 := (46, [.ref 15, .ref 34, .int (zi x2), .int (zi x3 + zi 1)], [], M)) rfl ?_
      rw [zi_add]
      refine am_xn 1 (c1 := (17, [.ref 15, .ref 34, .int (zi x2), .int (zi (x3 + 1))], [], M)) rfl ?_
      exact hv
    · replace hv := hv.2 h
      refine am_xn 1 (c1 := (42, [.ref 15, .ref 34, .int (zi x2), .int (zi x3)], [.int (zi 0)], M)) rfl ?_
      exact am_xr (some (.int (zi 0))) ⟨rfl, rfl, .boolean, rfl, rfl⟩ hv
  · replace hv := hv.2 h
    refine am_xn 1 (c1 := (50, [.ref 15, .ref 34, .int (zi x2), .int (zi x3)], [.int (zi 1)], M)) rfl ?_
    exact am_xr (some (.int (zi 1))) ⟨rfl, rfl, .boolean, rfl, rfl⟩ hv
set_option maxRecDepth 100000 in
theorem vc_differs (c : Int) (w : Int) (M : am_M) (Q : Option Value → am_M → Prop) (hv : (0 ≤ c ∧ c < 40) ∧ ((0 ≤ c ∧ c < 40) ∧ (((iv M 17 c) = 0 → (zr w) ∧ ((w = 0 → ((iv M 36 c) = 0 → Q (some (.int (zi 0))) M) ∧ (¬ (iv M 36 c) = 0 → Q (some (.int (zi 1))) M)) ∧ (w = 1 → Q (some (.int (zi 0))) M) ∧ (w = 2 → Q (some (.int (zi 0))) M) ∧ (¬ w = 0 → ¬ w = 1 → ¬ w = 2 → Q (some (.int (zi 0))) M))) ∧ (¬ (iv M 17 c) = 0 → ((iv M 36 c) = 0 → (zr w) ∧ ((w = 0 → Q (some (.int (zi 0))) M) ∧ (w = 1 → Q (some (.int (zi 1))) M) ∧ (w = 2 → Q (some (.int (zi 0))) M) ∧ (¬ w = 0 → ¬ w = 1 → ¬ w = 2 → Q (some (.int (zi 0))) M))) ∧ (¬ (iv M 36 c) = 0 → (zr w) ∧ ((w = 0 → Q (some (.int (zi 0))) M) ∧ (w = 1 → Q (some (.int (zi 0))) M) ∧ (w = 2 → ((iv M 17 c) = (iv M 36 c) → Q (some (.int (zi 0))) M) ∧ (¬ (iv M 17 c) = (iv M 36 c) → Q (some (.int (zi 1))) M)) ∧ (¬ w = 0 → ¬ w = 1 → ¬ w = 2 → ∃ (r5 : Int) (M4 : am_M), am_call t_Law_saysTheSame [.ref 15, .ref 34, .int (zi c)] M (some (.int (zi r5))) M4 ∧ ((zr r5) ∧ ((r5 = 0 → Q (some (.int (zi 1))) M4) ∧ (¬ r5 = 0 → Q (some (.int (zi 0))) M4)))))))))) : am_x t_SB_differs (0, am_ent (am_mL t_SB_differs) [.ref 0, .int (zi c), .int (zi w)], [], M) Q := by
  refine am_xn 0 (c1 := (0, [.ref 0, .int (zi c), .int (zi w), .null, .null, .null], [], M)) rfl ?_
  refine am_xn 3 (c1 := (5, [.ref 0, .int (zi c), .int (zi w), .null, .null, .null], [.int (zi c), .ref 15], M)) rfl ?_
  obtain ⟨g, hv⟩ := hv
  refine am_xc t_Law_code (.invokevirtual 172) 172 (av := [.ref 15, .int (zi c)]) (rest := []) (rv := some (.int (zi (iv M 17 c)))) (M' := M) rfl rfl rfl rfl (Nat.le_of_ble_eq_true rfl) (fun _ => rfl) (sp_l15_code M c g) ?_
  refine am_xn 0 (c1 := (8, [.ref 0, .int (zi c), .int (zi w), .null, .null, .null], [.int (zi (iv M 17 c))], M)) rfl ?_
  refine am_xn 4 (c1 := (14, [.ref 0, .int (zi c), .int (zi w), .int (zi (iv M 17 c)), .null, .null], [.int (zi c), .ref 34], M)) rfl ?_
  obtain ⟨g, hv⟩ := hv
  refine am_xc t_Law_code (.invokevirtual 172) 172 (av := [.ref 34, .int (zi c)]) (rest := []) (rv := some (.int (zi (iv M 36 c)))) (M' := M) rfl rfl rfl rfl (Nat.le_of_ble_eq_true rfl) (fun _ => rfl) (sp_l34_code M c g) ?_
  refine am_xn 0 (c1 := (17, [.ref 0, .int (zi c), .int (zi w), .int (zi (iv M 17 c)), .null, .null], [.int (zi (iv M 36 c))], M)) rfl ?_
  refine am_xn 3 (c1 := (if zi (iv M 17 c) = zi 0 then 32 else 23, [.ref 0, .int (zi c), .int (zi w), .int (zi (iv M 17 c)), .int (zi (iv M 36 c)), .null], [], M)) rfl (am_xeq (iv_r _ _ _) (by decide) (fun h => ?_) (fun h => ?_))
  · replace hv := hv.1 h
    obtain ⟨r1, hv⟩ := hv
    refine am_xn 3 (c1 := (36, [.ref 0, .int (zi c), .int (zi w), .int (zi (iv M 17 c)), .int (zi (iv M 36 c)), .int (zi 0)], [.int (zi w)], M)) rfl ?_
    by_cases h0 : w = 0
    · replace hv := hv.1 h0
      refine am_xswt rfl 0 (by rw [h0]; rfl) 64 rfl ?_
      refine am_xn 2 (c1 := (if zi (iv M 17 c) = zi 0 then 68 else 77, [.ref 0, .int (zi c), .int (zi w), .int (zi (iv M 17 c)), .int (zi (iv M 36 c)), .int (zi 0)], [], M)) rfl (am_xeq (iv_r _ _ _) (by decide) (fun h => ?_) (fun h => by clear hv; exfalso; omega))
      refine am_xn 2 (c1 := (if zi (iv M 36 c) = zi 0 then 77 else 73, [.ref 0, .int (zi c), .int (zi w), .int (zi (iv M 17 c)), .int (zi (iv M 36 c)), .int (zi 0)], [], M)) rfl (am_xeq (iv_r _ _ _) (by decide) (fun h => ?_) (fun h => ?_))
      · replace hv := hv.1 h
        refine am_xn 1 (c1 := (78, [.ref 0, .int (zi c), .int (zi w), .int (zi (iv M 17 c)), .int (zi (iv M 36 c)), .int (zi 0)], [.int (zi 0)], M)) rfl ?_
        exact am_xr (some (.int (zi 0))) ⟨rfl, rfl, .boolean, rfl, rfl⟩ hv
      · replace hv := hv.2 h
        refine am_xn 2 (c1 := (78, [.ref 0, .int (zi c), .int (zi w), .int (zi (iv M 17 c)), .int (zi (iv M 36 c)), .int (zi 0)], [.int (zi 1)], M)) rfl ?_
        exact am_xr (some (.int (zi 1))) ⟨rfl, rfl, .boolean, rfl, rfl⟩ hv
    replace hv := hv.2
    by_cases h1 : w = 1
    · replace hv := hv.1 h1
      refine am_xswt rfl 1 (by rw [h1]; rfl) 79 rfl ?_
      refine am_xn 2 (c1 := (if zi (iv M 17 c) = zi 0 then 92 else 83, [.ref 0, .int (zi c), .int (zi w), .int (zi (iv M 17 c)), .int (zi (iv M 36 c)), .int (zi 0)], [], M)) rfl (am_xeq (iv_r _ _ _) (by decide) (fun h => ?_) (fun h => by clear hv; exfalso; omega))
      refine am_xn 1 (c1 := (93, [.ref 0, .int (zi c), .int (zi w), .int (zi (iv M 17 c)), .int (zi (iv M 36 c)), .int (zi 0)], [.int (zi 0)], M)) rfl ?_
      exact am_xr (some (.int (zi 0))) ⟨rfl, rfl, .boolean, rfl, rfl⟩ hv
    replace hv := hv.2
    by_cases h2 : w = 2
    · replace hv := hv.1 h2
      refine am_xswt rfl 2 (by rw [h2]; rfl) 94 rfl ?_
      refine am_xn 3 (c1 := (110, [.ref 0, .int (zi c), .int (zi w), .int (zi (iv M 17 c)), .int (zi (iv M 36 c)), .int (zi 0)], [.int (zi 0)], M)) rfl ?_
      exact am_xr (some (.int (zi 0))) ⟨rfl, rfl, .boolean, rfl, rfl⟩ hv
    replace hv := hv.2
    replace hv := hv h0 h1 h2
    refine am_xswd rfl r1 (by omega) 111 rfl ?_
    refine am_xn 3 (c1 := (136, [.ref 0, .int (zi c), .int (zi w), .int (zi (iv M 17 c)), .int (zi (iv M 36 c)), .int (zi 0)], [.int (zi 0)], M)) rfl ?_
    exact am_xr (some (.int (zi 0))) ⟨rfl, rfl, .boolean, rfl, rfl⟩ hv
  · replace hv := hv.2 h
    refine am_xn 2 (c1 := (if zi (iv M 36 c) = zi 0 then 32 else 28, [.ref 0, .int (zi c), .int (zi w), .int (zi (iv M 17 c)), .int (zi (iv M 36 c)), .null], [], M)) rfl (am_xeq (iv_r _ _ _) (by decide) (fun h => ?_) (fun h => ?_))
    · replace hv := hv.1 h
      obtain ⟨r2, hv⟩ := hv
      refine am_xn 3 (c1 := (36, [.ref 0, .int (zi c), .int (zi w), .int (zi (iv M 17 c)), .int (zi (iv M 36 c)), .int (zi 0)], [.int (zi w)], M)) rfl ?_
      by_cases h0 : w = 0
      · replace hv := hv.1 h0
        refine am_xswt rfl 0 (by rw [h0]; rfl) 64 rfl ?_
        refine am_xn 2 (c1 := (if zi (iv M 17 c) = zi 0 then 68 else 77, [.ref 0, .int (zi c), .int (zi w), .int (zi (iv M 17 c)), .int (zi (iv M 36 c)), .int (zi 0)], [], M)) rfl (am_xeq (iv_r _ _ _) (by decide) (fun h => by clear hv; exfalso; omega) (fun h => ?_))
        refine am_xn 1 (c1 := (78, [.ref 0, .int (zi c), .int (zi w), .int (zi (iv M 17 c)), .int (zi (iv M 36 c)), .int (zi 0)], [.int (zi 0)], M)) rfl ?_
        exact am_xr (some (.int (zi 0))) ⟨rfl, rfl, .boolean, rfl, rfl⟩ hv
      replace hv := hv.2
      by_cases h1 : w = 1
      · replace hv := hv.1 h1
        refine am_xswt rfl 1 (by rw [h1]; rfl) 79 rfl ?_
        refine am_xn 2 (c1 := (if zi (iv M 17 c) = zi 0 then 92 else 83, [.ref 0, .int (zi c), .int (zi w), .int (zi (iv M 17 c)), .int (zi (iv M 36 c)), .int (zi 0)], [], M)) rfl (am_xeq (iv_r _ _ _) (by decide) (fun h => by clear hv; exfalso; omega) (fun h => ?_))
        refine am_xn 2 (c1 := (if zi (iv M 36 c) = zi 0 then 88 else 92, [.ref 0, .int (zi c), .int (zi w), .int (zi (iv M 17 c)), .int (zi (iv M 36 c)), .int (zi 0)], [], M)) rfl (am_xeq (iv_r _ _ _) (by decide) (fun h => ?_) (fun h => by clear hv; exfalso; omega))
        refine am_xn 2 (c1 := (93, [.ref 0, .int (zi c), .int (zi w), .int (zi (iv M 17 c)), .int (zi (iv M 36 c)), .int (zi 0)], [.int (zi 1)], M)) rfl ?_
        exact am_xr (some (.int (zi 1))) ⟨rfl, rfl, .boolean, rfl, rfl⟩ hv
      replace hv := hv.2
      by_cases h2 : w = 2
      · replace hv := hv.1 h2
        refine am_xswt rfl 2 (by rw [h2]; rfl) 94 rfl ?_
        refine am_xn 3 (c1 := (110, [.ref 0, .int (zi c), .int (zi w), .int (zi (iv M 17 c)), .int (zi (iv M 36 c)), .int (zi 0)], [.int (zi 0)], M)) rfl ?_
        exact am_xr (some (.int (zi 0))) ⟨rfl, rfl, .boolean, rfl, rfl⟩ hv
      replace hv := hv.2
      replace hv := hv h0 h1 h2
      refine am_xswd rfl r2 (by omega) 111 rfl ?_
      refine am_xn 3 (c1 := (136, [.ref 0, .int (zi c), .int (zi w), .int (zi (iv M 17 c)), .int (zi (iv M 36 c)), .int (zi 0)], [.int (zi 0)], M)) rfl ?_
      exact am_xr (some (.int (zi 0))) ⟨rfl, rfl, .boolean, rfl, rfl⟩ hv
    · replace hv := hv.2 h
      obtain ⟨r3, hv⟩ := hv
      refine am_xn 4 (c1 := (36, [.ref 0, .int (zi c), .int (zi w), .int (zi (iv M 17 c)), .int (zi (iv M 36 c)), .int (zi 1)], [.int (zi w)], M)) rfl ?_
      by_cases h0 : w = 0
      · replace hv := hv.1 h0
        refine am_xswt rfl 0 (by rw [h0]; rfl) 64 rfl ?_
        refine am_xn 2 (c1 := (if zi (iv M 17 c) = zi 0 then 68 else 77, [.ref 0, .int (zi c), .int (zi w), .int (zi (iv M 17 c)), .int (zi (iv M 36 c)), .int (zi 1)], [], M)) rfl (am_xeq (iv_r _ _ _) (by decide) (fun h => by clear hv; exfalso; omega) (fun h => ?_))
        refine am_xn 1 (c1 := (78, [.ref 0, .int (zi c), .int (zi w), .int (zi (iv M 17 c)), .int (zi (iv M 36 c)), .int (zi 1)], [.int (zi 0)], M)) rfl ?_
        exact am_xr (some (.int (zi 0))) ⟨rfl, rfl, .boolean, rfl, rfl⟩ hv
      replace hv := hv.2
      by_cases h1 : w = 1
      · replace hv := hv.1 h1
        refine am_xswt rfl 1 (by rw [h1]; rfl) 79 rfl ?_
        refine am_xn 2 (c1 := (if zi (iv M 17 c) = zi 0 then 92 else 83, [.ref 0, .int (zi c), .int (zi w), .int (zi (iv M 17 c)), .int (zi (iv M 36 c)), .int (zi 1)], [], M)) rfl (am_xeq (iv_r _ _ _) (by decide) (fun h => by clear hv; exfalso; omega) (fun h => ?_))
        refine am_xn 2 (c1 := (if zi (iv M 36 c) = zi 0 then 88 else 92, [.ref 0, .int (zi c), .int (zi w), .int (zi (iv M 17 c)), .int (zi (iv M 36 c)), .int (zi 1)], [], M)) rfl (am_xeq (iv_r _ _ _) (by decide) (fun h => by clear hv; exfalso; omega) (fun h => ?_))
        refine am_xn 1 (c1 := (93, [.ref 0, .int (zi c), .int (zi w), .int (zi (iv M 17 c)), .int (zi (iv M 36 c)), .int (zi 1)], [.int (zi 0)], M)) rfl ?_
        exact am_xr (some (.int (zi 0))) ⟨rfl, rfl, .boolean, rfl, rfl⟩ hv
      replace hv := hv.2
      by_cases h2 : w = 2
      · replace hv := hv.1 h2
        refine am_xswt rfl 2 (by rw [h2]; rfl) 94 rfl ?_
        refine am_xn 5 (c1 := (if zi (iv M 17 c) = zi (iv M 36 c) then 109 else 105, [.ref 0, .int (zi c), .int (zi w), .int (zi (iv M 17 c)), .int (zi (iv M 36 c)), .int (zi 1)], [], M)) rfl (am_xeq (iv_r _ _ _) (iv_r _ _ _) (fun h => ?_) (fun h => ?_))
        · replace hv := hv.1 h
          refine am_xn 1 (c1 := (110, [.ref 0, .int (zi c), .int (zi w), .int (zi (iv M 17 c)), .int (zi (iv M 36 c)), .int (zi 1)], [.int (zi 0)], M)) rfl ?_
          exact am_xr (some (.int (zi 0))) ⟨rfl, rfl, .boolean, rfl, rfl⟩ hv
        · replace hv := hv.2 h
          refine am_xn 2 (c1 := (110, [.ref 0, .int (zi c), .int (zi w), .int (zi (iv M 17 c)), .int (zi (iv M 36 c)), .int (zi 1)], [.int (zi 1)], M)) rfl ?_
          exact am_xr (some (.int (zi 1))) ⟨rfl, rfl, .boolean, rfl, rfl⟩ hv
      replace hv := hv.2
      replace hv := hv h0 h1 h2
      refine am_xswd rfl r3 (by omega) 111 rfl ?_
      refine am_xn 7 (c1 := (125, [.ref 0, .int (zi c), .int (zi w), .int (zi (iv M 17 c)), .int (zi (iv M 36 c)), .int (zi 1)], [.int (zi c), .ref 34, .ref 15], M)) rfl ?_
      obtain ⟨r5, M4, hc, hv⟩ := hv
      refine am_xc t_Law_saysTheSame (.invokevirtual 223) 223 (av := [.ref 15, .ref 34, .int (zi c)]) (rest := []) (rv := some (.int (zi r5))) (M' := M4) rfl rfl rfl rfl (Nat.le_of_ble_eq_true rfl) (fun _ => rfl) (hc) ?_
      refine am_xn 0 (c1 := (128, [.ref 0, .int (zi c), .int (zi w), .int (zi (iv M 17 c)), .int (zi (iv M 36 c)), .int (zi 1)], [.int (zi r5)], M4)) rfl ?_
      obtain ⟨r6, hv⟩ := hv
      refine am_xn 1 (c1 := (if zi r5 = zi 0 then 131 else 135, [.ref 0, .int (zi c), .int (zi w), .int (zi (iv M 17 c)), .int (zi (iv M 36 c)), .int (zi 1)], [], M4)) rfl (am_xeq r6 (by decide) (fun h => ?_) (fun h => ?_))
      · replace hv := hv.1 h
        refine am_xn 2 (c1 := (136, [.ref 0, .int (zi c), .int (zi w), .int (zi (iv M 17 c)), .int (zi (iv M 36 c)), .int (zi 1)], [.int (zi 1)], M4)) rfl ?_
        exact am_xr (some (.int (zi 1))) ⟨rfl, rfl, .boolean, rfl, rfl⟩ hv
      · replace hv := hv.2 h
        refine am_xn 1 (c1 := (136, [.ref 0, .int (zi c), .int (zi w), .int (zi (iv M 17 c)), .int (zi (iv M 36 c)), .int (zi 1)], [.int (zi 0)], M4)) rfl ?_
        exact am_xr (some (.int (zi 0))) ⟨rfl, rfl, .boolean, rfl, rfl⟩ hv
set_option maxRecDepth 100000 in
theorem vc_c_difference (d : Int) (e : Int) (w : Int) (M : am_M) (Q : Option Value → am_M → Prop) (hv : (zr d ∧ zr (9999 : Int)) ∧ ((0 ≤ d ∧ d ≤ 9999 → (zr e ∧ zr (9999 : Int)) ∧ ((0 ≤ e ∧ e ≤ 9999 → (zr w ∧ zr (3 : Int)) ∧ ((0 ≤ w ∧ w ≤ 3 → ∃ M1, am_call t_SB_consolidate [.ref 0, .int (zi d), .int (zi (-1))] M none M1 ∧ (∃ M2, am_call t_Law_consolidate [.ref 34, .ref 9, .int (zi e), .int (zi (-1)), .int (zi (iv M1 11 3))] M1 none M2 ∧ (am_x t_SB_difference (63, [.ref 0, .null, .null, .int (zi w), .int (zi 0), .int (zi 0)], [], M2) Q))) ∧ (¬ (0 ≤ w ∧ w ≤ 3) → Q (some (.int (zi (-2)))) M))) ∧ (¬ (0 ≤ e ∧ e ≤ 9999) → Q (some (.int (zi (-2)))) M))) ∧ (¬ (0 ≤ d ∧ d ≤ 9999) → Q (some (.int (zi (-2)))) M))) : am_x t_SB_difference (0, am_ent (am_mL t_SB_difference) [.ref 0, .int (zi d), .int (zi e), .int (zi w)], [], M) Q := by
  refine am_xn 0 (c1 := (0, [.ref 0, .int (zi d), .int (zi e), .int (zi w), .null, .null], [], M)) rfl ?_
  refine am_xn 2 (c1 := (4, [.ref 0, .int (zi d), .int (zi e), .int (zi w), .null, .null], [.int (zi 9999), .int (zi d)], M)) rfl ?_
  obtain ⟨g, hv⟩ := hv
  by_cases c5 : 0 ≤ d ∧ d ≤ 9999
  · replace hv := hv.1 c5
    refine am_xc t_SB_within (.invokestatic 56) 56 (av := [.int (zi d), .int (zi 9999)]) (rest := []) (rv := some (.int (zi 1))) (M' := M) rfl rfl rfl rfl (Nat.le_of_ble_eq_true rfl) (fun h => nomatch h) (by have q := sp_within M d 9999 g; rwa [if_pos c5] at q) ?_
    refine am_xn 0 (c1 := (7, [.ref 0, .int (zi d), .int (zi e), .int (zi w), .null, .null], [.int (zi 1)], M)) rfl ?_
    refine am_xn 3 (c1 := (14, [.ref 0, .int (zi d), .int (zi e), .int (zi w), .null, .null], [.int (zi 9999), .int (zi e)], M)) rfl ?_
    obtain ⟨g, hv⟩ := hv
    by_cases c4 : 0 ≤ e ∧ e ≤ 9999
    · replace hv := hv.1 c4
      refine am_xc t_SB_within (.invokestatic 56) 56 (av := [.int (zi e), .int (zi 9999)]) (rest := []) (rv := some (.int (zi 1))) (M' := M) rfl rfl rfl rfl (Nat.le_of_ble_eq_true rfl) (fun h => nomatch h) (by have q := sp_within M e 9999 g; rwa [if_pos c4] at q) ?_
      refine am_xn 0 (c1 := (17, [.ref 0, .int (zi d), .int (zi e), .int (zi w), .null, .null], [.int (zi 1)], M)) rfl ?_
      refine am_xn 3 (c1 := (22, [.ref 0, .int (zi d), .int (zi e), .int (zi w), .null, .null], [.int (zi 3), .int (zi w)], M)) rfl ?_
      obtain ⟨g, hv⟩ := hv
      by_cases c3 : 0 ≤ w ∧ w ≤ 3
      · replace hv := hv.1 c3
        refine am_xc t_SB_within (.invokestatic 56) 56 (av := [.int (zi w), .int (zi 3)]) (rest := []) (rv := some (.int (zi 1))) (M' := M) rfl rfl rfl rfl (Nat.le_of_ble_eq_true rfl) (fun h => nomatch h) (by have q := sp_within M w 3 g; rwa [if_pos c3] at q) ?_
        refine am_xn 0 (c1 := (25, [.ref 0, .int (zi d), .int (zi e), .int (zi w), .null, .null], [.int (zi 1)], M)) rfl ?_
        refine am_xn 4 (c1 := (34, [.ref 0, .int (zi d), .int (zi e), .int (zi w), .null, .null], [.int (zi (-1)), .int (zi d), .ref 0], M)) rfl ?_
        obtain ⟨M1, hc, hv⟩ := hv
        refine am_xc t_SB_consolidate (.invokevirtual 162) 162 (av := [.ref 0, .int (zi d), .int (zi (-1))]) (rest := []) (rv := none) (M' := M1) rfl rfl rfl rfl (Nat.le_of_ble_eq_true rfl) (fun _ => rfl) (hc) ?_
        refine am_xn 0 (c1 := (37, [.ref 0, .int (zi d), .int (zi e), .int (zi w), .null, .null], [], M1)) rfl ?_
        refine am_xn 8 (c1 := (51, [.ref 0, .int (zi d), .int (zi e), .int (zi w), .null, .null], [.ref 9, .int (zi (-1)), .int (zi e), .ref 9, .ref 34], M1)) rfl ?_
        refine am_xc t_Amd_revoked (.invokevirtual 106) 106 (av := [.ref 9]) (rest := [.int (zi (-1)), .int (zi e), .ref 9, .ref 34]) (rv := some (.int (zi (iv M1 11 3)))) (M' := M1) rfl rfl rfl rfl (Nat.le_of_ble_eq_true rfl) (fun _ => rfl) (sp_c_revoked M1) ?_
        refine am_xn 0 (c1 := (54, [.ref 0, .int (zi d), .int (zi e), .int (zi w), .null, .null], [.int (zi (iv M1 11 3)), .int (zi (-1)), .int (zi e), .ref 9, .ref 34], M1)) rfl ?_
        obtain ⟨M2, hc, hv⟩ := hv
        refine am_xc t_Law_consolidate (.invokevirtual 217) 217 (av := [.ref 34, .ref 9, .int (zi e), .int (zi (-1)), .int (zi (iv M1 11 3))]) (rest := []) (rv := none) (M' := M2) rfl rfl rfl rfl (Nat.le_of_ble_eq_true rfl) (fun _ => rfl) (hc) ?_
        refine am_xn 0 (c1 := (57, [.ref 0, .int (zi d), .int (zi e), .int (zi w), .null, .null], [], M2)) rfl ?_
        refine am_xn 4 (c1 := (63, [.ref 0, .int (zi d), .int (zi e), .int (zi w), .int (zi 0), .int (zi 0)], [], M2)) rfl ?_
        refine am_xf 1 ?_
        refine am_xf 2 ?_
        exact hv
      · replace hv := hv.2 c3
        refine am_xc t_SB_within (.invokestatic 56) 56 (av := [.int (zi w), .int (zi 3)]) (rest := []) (rv := some (.int (zi 0))) (M' := M) rfl rfl rfl rfl (Nat.le_of_ble_eq_true rfl) (fun h => nomatch h) (by have q := sp_within M w 3 g; rwa [if_neg c3] at q) ?_
        refine am_xn 0 (c1 := (25, [.ref 0, .int (zi d), .int (zi e), .int (zi w), .null, .null], [.int (zi 0)], M)) rfl ?_
        refine am_xn 2 (c1 := (30, [.ref 0, .int (zi d), .int (zi e), .int (zi w), .null, .null], [.int (zi (-2))], M)) rfl ?_
        exact am_xr (some (.int (zi (-2)))) ⟨rfl, rfl, .int, rfl, rfl⟩ hv
    · replace hv := hv.2 c4
      refine am_xc t_SB_within (.invokestatic 56) 56 (av := [.int (zi e), .int (zi 9999)]) (rest := []) (rv := some (.int (zi 0))) (M' := M) rfl rfl rfl rfl (Nat.le_of_ble_eq_true rfl) (fun h => nomatch h) (by have q := sp_within M e 9999 g; rwa [if_neg c4] at q) ?_
      refine am_xn 0 (c1 := (17, [.ref 0, .int (zi d), .int (zi e), .int (zi w), .null, .null], [.int (zi 0)], M)) rfl ?_
      refine am_xn 2 (c1 := (30, [.ref 0, .int (zi d), .int (zi e), .int (zi w), .null, .null], [.int (zi (-2))], M)) rfl ?_
      exact am_xr (some (.int (zi (-2)))) ⟨rfl, rfl, .int, rfl, rfl⟩ hv
  · replace hv := hv.2 c5
    refine am_xc t_SB_within (.invokestatic 56) 56 (av := [.int (zi d), .int (zi 9999)]) (rest := []) (rv := some (.int (zi 0))) (M' := M) rfl rfl rfl rfl (Nat.le_of_ble_eq_true rfl) (fun h => nomatch h) (by have q := sp_within M d 9999 g; rwa [if_neg c5] at q) ?_
    refine am_xn 0 (c1 := (7, [.ref 0, .int (zi d), .int (zi e), .int (zi w), .null, .null], [.int (zi 0)], M)) rfl ?_
    refine am_xn 2 (c1 := (30, [.ref 0, .int (zi d), .int (zi e), .int (zi w), .null, .null], [.int (zi (-2))], M)) rfl ?_
    exact am_xr (some (.int (zi (-2)))) ⟨rfl, rfl, .int, rfl, rfl⟩ hv
set_option maxRecDepth 100000 in
theorem vc_c_difference_63 (x3 : Int) (x4 : Int) (x5 : Int) (M : am_M) (Q : Option Value → am_M → Prop) (hv : (zr x5) ∧ ((x5 < 40 → ∃ (r3 : Int) (M2 : am_M), am_call t_SB_differs [.ref 0, .int (zi x5), .int (zi x3)] M (some (.int (zi r3))) M2 ∧ ((zr r3) ∧ ((r3 = 0 → am_x t_SB_difference (63, [.ref 0, .null, .null, .int (zi x3), .int (zi x4), .int (zi (x5 + 1))], [], M2) Q) ∧ (¬ r3 = 0 → am_x t_SB_difference (63, [.ref 0, .null, .null, .int (zi x3), .int (zi (x4 + 1)), .int (zi (x5 + 1))], [], M2) Q)))) ∧ (40 ≤ x5 → Q (some (.int (zi x4))) M))) : am_x t_SB_difference (63, [.ref 0, .null, .null, .int (zi x3), .int (zi x4), .int (zi x5)], [], M) Q := by
  obtain ⟨r1, hv⟩ := hv
  refine am_xn 3 (c1 := (if zi x5 < zi 40 then 70 else 89, [.ref 0, .null, .null, .int (zi x3), .int (zi x4), .int (zi x5)], [], M)) rfl (am_xlt r1 (by decide) (fun h => ?_) (fun h => ?_))
  · replace hv := hv.1 h
    refine am_xn 3 (c1 := (74, [.ref 0, .null, .null, .int (zi x3), .int (zi x4), .int (zi x5)], [.int (zi x3), .int (zi x5), .ref 0], M)) rfl ?_
    obtain ⟨r3, M2, hc, hv⟩ := hv
    refine am_xc t_SB_differs (.invokevirtual 220) 220 (av := [.ref 0, .int (zi x5), .int (zi x3)]) (rest := []) (rv := some (.int (zi r3))) (M' := M2) rfl rfl rfl rfl (Nat.le_of_ble_eq_true rfl) (fun _ => rfl) (hc) ?_
    refine am_xn 0 (c1 := (77, [.ref 0, .null, .null, .int (zi x3), .int (zi x4), .int (zi x5)], [.int (zi r3)], M2)) rfl ?_
    obtain ⟨r4, hv⟩ := hv
    refine am_xn 1 (c1 := (if zi r3 = zi 0 then 83 else 80, [.ref 0, .null, .null, .int (zi x3), .int (zi x4), .int (zi x5)], [], M2)) rfl (am_xeq r4 (by decide) (fun h => ?_) (fun h => ?_))
    · replace hv := hv.1 h
      refine am_xn 1 (c1 := (86, [.ref 0, .null, .null, .int (zi x3), .int (zi x4), .int (zi x5 + zi 1)], [], M2)) rfl ?_
      rw [zi_add]
      refine am_xn 1 (c1 := (63, [.ref 0, .null, .null, .int (zi x3), .int (zi x4), .int (zi (x5 + 1))], [], M2)) rfl ?_
      exact hv
    · replace hv := hv.2 h
      refine am_xn 1 (c1 := (83, [.ref 0, .null, .null, .int (zi x3), .int (zi x4 + zi 1), .int (zi x5)], [], M2)) rfl ?_
      rw [zi_add]
      refine am_xn 1 (c1 := (86, [.ref 0, .null, .null, .int (zi x3), .int (zi (x4 + 1)), .int (zi x5 + zi 1)], [], M2)) rfl ?_
      rw [zi_add]
      refine am_xn 1 (c1 := (63, [.ref 0, .null, .null, .int (zi x3), .int (zi (x4 + 1)), .int (zi (x5 + 1))], [], M2)) rfl ?_
      exact hv
  · replace hv := hv.2 h
    refine am_xn 1 (c1 := (91, [.ref 0, .null, .null, .int (zi x3), .int (zi x4), .int (zi x5)], [.int (zi x4)], M)) rfl ?_
    exact am_xr (some (.int (zi x4))) ⟨rfl, rfl, .int, rfl, rfl⟩ hv
set_option maxRecDepth 100000 in
theorem vc_c_effect (a : Int) (d : Int) (M : am_M) (Q : Option Value → am_M → Prop) (hv : (zr a) ∧ ((0 ≤ a ∧ a < iv M 11 0 → (zr d ∧ zr (9999 : Int)) ∧ ((0 ≤ d ∧ d ≤ 9999 → ∃ M1, am_call t_SB_consolidate [.ref 0, .int (zi d), .int (zi (-1))] M none M1 ∧ (∃ M2, am_call t_Law_consolidate [.ref 34, .ref 9, .int (zi d), .int (zi (-1)), .int (zi (zxor (iv M1 11 3) (zshl 1 a)))] M1 none M2 ∧ (am_x t_SB_effect (59, [.ref 0, .null, .null, .int (zi 0), .int (zi 0)], [], M2) Q))) ∧ (¬ (0 ≤ d ∧ d ≤ 9999) → Q (some (.int (zi (-2)))) M))) ∧ (¬ (0 ≤ a ∧ a < iv M 11 0) → Q (some (.int (zi (-2)))) M))) : am_x t_SB_effect (0, am_ent (am_mL t_SB_effect) [.ref 0, .int (zi a), .int (zi d)], [], M) Q := by
  refine am_xn 0 (c1 := (0, [.ref 0, .int (zi a), .int (zi d), .null, .null], [], M)) rfl ?_
  refine am_xn 3 (c1 := (5, [.ref 0, .int (zi a), .int (zi d), .null, .null], [.int (zi a), .ref 9], M)) rfl ?_
  obtain ⟨g, hv⟩ := hv
  by_cases c4 : 0 ≤ a ∧ a < iv M 11 0
  · replace hv := hv.1 c4
    refine am_xc t_Amd_has (.invokevirtual 99) 99 (av := [.ref 9, .int (zi a)]) (rest := []) (rv := some (.int (zi 1))) (M' := M) rfl rfl rfl rfl (Nat.le_of_ble_eq_true rfl) (fun _ => rfl) (by have q := sp_c_has M a g; rwa [if_pos c4] at q) ?_
    refine am_xn 0 (c1 := (8, [.ref 0, .int (zi a), .int (zi d), .null, .null], [.int (zi 1)], M)) rfl ?_
    refine am_xn 3 (c1 := (15, [.ref 0, .int (zi a), .int (zi d), .null, .null], [.int (zi 9999), .int (zi d)], M)) rfl ?_
    obtain ⟨g, hv⟩ := hv
    by_cases c3 : 0 ≤ d ∧ d ≤ 9999
    · replace hv := hv.1 c3
      refine am_xc t_SB_within (.invokestatic 56) 56 (av := [.int (zi d), .int (zi 9999)]) (rest := []) (rv := some (.int (zi 1))) (M' := M) rfl rfl rfl rfl (Nat.le_of_ble_eq_true rfl) (fun h => nomatch h) (by have q := sp_within M d 9999 g; rwa [if_pos c3] at q) ?_
      refine am_xn 0 (c1 := (18, [.ref 0, .int (zi a), .int (zi d), .null, .null], [.int (zi 1)], M)) rfl ?_
      refine am_xn 4 (c1 := (27, [.ref 0, .int (zi a), .int (zi d), .null, .null], [.int (zi (-1)), .int (zi d), .ref 0], M)) rfl ?_
      obtain ⟨M1, hc, hv⟩ := hv
      refine am_xc t_SB_consolidate (.invokevirtual 162) 162 (av := [.ref 0, .int (zi d), .int (zi (-1))]) (rest := []) (rv := none) (M' := M1) rfl rfl rfl rfl (Nat.le_of_ble_eq_true rfl) (fun _ => rfl) (hc) ?_
      refine am_xn 0 (c1 := (30, [.ref 0, .int (zi a), .int (zi d), .null, .null], [], M1)) rfl ?_
      refine am_xn 8 (c1 := (44, [.ref 0, .int (zi a), .int (zi d), .null, .null], [.ref 9, .int (zi (-1)), .int (zi d), .ref 9, .ref 34], M1)) rfl ?_
      refine am_xc t_Amd_revoked (.invokevirtual 106) 106 (av := [.ref 9]) (rest := [.int (zi (-1)), .int (zi d), .ref 9, .ref 34]) (rv := some (.int (zi (iv M1 11 3)))) (M' := M1) rfl rfl rfl rfl (Nat.le_of_ble_eq_true rfl) (fun _ => rfl) (sp_c_revoked M1) ?_
      refine am_xn 0 (c1 := (47, [.ref 0, .int (zi a), .int (zi d), .null, .null], [.int (zi (iv M1 11 3)), .int (zi (-1)), .int (zi d), .ref 9, .ref 34], M1)) rfl ?_
      refine am_xbit 3 (zi 1 <<< (zi a &&& 31)) (pc := 50) (ls := [.ref 0, .int (zi a), .int (zi d), .null, .null]) (st := [.int (zi (iv M1 11 3)), .int (zi (-1)), .int (zi d), .ref 9, .ref 34]) rfl ?_
      refine am_xn 0 (c1 := (50, [.ref 0, .int (zi a), .int (zi d), .null, .null], [.int (zi (zshl 1 a)), .int (zi (iv M1 11 3)), .int (zi (-1)), .int (zi d), .ref 9, .ref 34], M1)) rfl ?_
      refine am_xbit 1 (zi (iv M1 11 3) ^^^ zi (zshl 1 a)) (pc := 51) (ls := [.ref 0, .int (zi a), .int (zi d), .null, .null]) (st := [.int (zi (-1)), .int (zi d), .ref 9, .ref 34]) rfl ?_
      refine am_xn 0 (c1 := (51, [.ref 0, .int (zi a), .int (zi d), .null, .null], [.int (zi (zxor (iv M1 11 3) (zshl 1 a))), .int (zi (-1)), .int (zi d), .ref 9, .ref 34], M1)) rfl ?_
      obtain ⟨M2, hc, hv⟩ := hv
      refine am_xc t_Law_consolidate (.invokevirtual 217) 217 (av := [.ref 34, .ref 9, .int (zi d), .int (zi (-1)), .int (zi (zxor (iv M1 11 3) (zshl 1 a)))]) (rest := []) (rv := none) (M' := M2) rfl rfl rfl rfl (Nat.le_of_ble_eq_true rfl) (fun _ => rfl) (hc) ?_
      refine am_xn 0 (c1 := (54, [.ref 0, .int (zi a), .int (zi d), .null, .null], [], M2)) rfl ?_
      refine am_xn 4 (c1 := (59, [.ref 0, .int (zi a), .int (zi d), .int (zi 0), .int (zi 0)], [], M2)) rfl ?_
      refine am_xf 1 ?_
      refine am_xf 2 ?_
      exact hv
    · replace hv := hv.2 c3
      refine am_xc t_SB_within (.invokestatic 56) 56 (av := [.int (zi d), .int (zi 9999)]) (rest := []) (rv := some (.int (zi 0))) (M' := M) rfl rfl rfl rfl (Nat.le_of_ble_eq_true rfl) (fun h => nomatch h) (by have q := sp_within M d 9999 g; rwa [if_neg c3] at q) ?_
      refine am_xn 0 (c1 := (18, [.ref 0, .int (zi a), .int (zi d), .null, .null], [.int (zi 0)], M)) rfl ?_
      refine am_xn 2 (c1 := (23, [.ref 0, .int (zi a), .int (zi d), .null, .null], [.int (zi (-2))], M)) rfl ?_
      exact am_xr (some (.int (zi (-2)))) ⟨rfl, rfl, .int, rfl, rfl⟩ hv
  · replace hv := hv.2 c4
    refine am_xc t_Amd_has (.invokevirtual 99) 99 (av := [.ref 9, .int (zi a)]) (rest := []) (rv := some (.int (zi 0))) (M' := M) rfl rfl rfl rfl (Nat.le_of_ble_eq_true rfl) (fun _ => rfl) (by have q := sp_c_has M a g; rwa [if_neg c4] at q) ?_
    refine am_xn 0 (c1 := (8, [.ref 0, .int (zi a), .int (zi d), .null, .null], [.int (zi 0)], M)) rfl ?_
    refine am_xn 2 (c1 := (23, [.ref 0, .int (zi a), .int (zi d), .null, .null], [.int (zi (-2))], M)) rfl ?_
    exact am_xr (some (.int (zi (-2)))) ⟨rfl, rfl, .int, rfl, rfl⟩ hv
set_option maxRecDepth 100000 in
theorem vc_c_effect_59 (x3 : Int) (x4 : Int) (M : am_M) (Q : Option Value → am_M → Prop) (hv : (zr x4) ∧ ((x4 < 40 → ∃ (r3 : Int) (M2 : am_M), am_call t_SB_differs [.ref 0, .int (zi x4), .int (zi 0)] M (some (.int (zi r3))) M2 ∧ ((zr r3) ∧ ((r3 = 0 → ∃ (r6 : Int) (M5 : am_M), am_call t_SB_differs [.ref 0, .int (zi x4), .int (zi 1)] M2 (some (.int (zi r6))) M5 ∧ ((zr r6) ∧ ((r6 = 0 → ∃ (r9 : Int) (M8 : am_M), am_call t_SB_differs [.ref 0, .int (zi x4), .int (zi 2)] M5 (some (.int (zi r9))) M8 ∧ ((zr r9) ∧ ((r9 = 0 → ∃ (r12 : Int) (M11 : am_M), am_call t_SB_differs [.ref 0, .int (zi x4), .int (zi 3)] M8 (some (.int (zi r12))) M11 ∧ ((zr r12) ∧ ((r12 = 0 → am_x t_SB_effect (59, [.ref 0, .null, .null, .int (zi x3), .int (zi (x4 + 1))], [], M11) Q) ∧ (¬ r12 = 0 → am_x t_SB_effect (59, [.ref 0, .null, .null, .int (zi (x3 + 1)), .int (zi (x4 + 1))], [], M11) Q)))) ∧ (¬ r9 = 0 → am_x t_SB_effect (59, [.ref 0, .null, .null, .int (zi (x3 + 1)), .int (zi (x4 + 1))], [], M8) Q)))) ∧ (¬ r6 = 0 → am_x t_SB_effect (59, [.ref 0, .null, .null, .int (zi (x3 + 1)), .int (zi (x4 + 1))], [], M5) Q)))) ∧ (¬ r3 = 0 → am_x t_SB_effect (59, [.ref 0, .null, .null, .int (zi (x3 + 1)), .int (zi (x4 + 1))], [], M2) Q)))) ∧ (40 ≤ x4 → Q (some (.int (zi x3))) M))) : am_x t_SB_effect (59, [.ref 0, .null, .null, .int (zi x3), .int (zi x4)], [], M) Q := by
  obtain ⟨r1, hv⟩ := hv
  refine am_xn 3 (c1 := (if zi x4 < zi 40 then 66 else 115, [.ref 0, .null, .null, .int (zi x3), .int (zi x4)], [], M)) rfl (am_xlt r1 (by decide) (fun h => ?_) (fun h => ?_))
  · replace hv := hv.1 h
    refine am_xn 3 (c1 := (70, [.ref 0, .null, .null, .int (zi x3), .int (zi x4)], [.int (zi 0), .int (zi x4), .ref 0], M)) rfl ?_
    obtain ⟨r3, M2, hc, hv⟩ := hv
    refine am_xc t_SB_differs (.invokevirtual 220) 220 (av := [.ref 0, .int (zi x4), .int (zi 0)]) (rest := []) (rv := some (.int (zi r3))) (M' := M2) rfl rfl rfl rfl (Nat.le_of_ble_eq_true rfl) (fun _ => rfl) (hc) ?_
    refine am_xn 0 (c1 := (73, [.ref 0, .null, .null, .int (zi x3), .int (zi x4)], [.int (zi r3)], M2)) rfl ?_
    obtain ⟨r4, hv⟩ := hv
    refine am_xn 1 (c1 := (if zi r3 = zi 0 then 76 else 106, [.ref 0, .null, .null, .int (zi x3), .int (zi x4)], [], M2)) rfl (am_xeq r4 (by decide) (fun h => ?_) (fun h => ?_))
    · replace hv := hv.1 h
      refine am_xn 3 (c1 := (80, [.ref 0, .null, .null, .int (zi x3), .int (zi x4)], [.int (zi 1), .int (zi x4), .ref 0], M2)) rfl ?_
      obtain ⟨r6, M5, hc, hv⟩ := hv
      refine am_xc t_SB_differs (.invokevirtual 220) 220 (av := [.ref 0, .int (zi x4), .int (zi 1)]) (rest := []) (rv := some (.int (zi r6))) (M' := M5) rfl rfl rfl rfl (Nat.le_of_ble_eq_true rfl) (fun _ => rfl) (hc) ?_
      refine am_xn 0 (c1 := (83, [.ref 0, .null, .null, .int (zi x3), .int (zi x4)], [.int (zi r6)], M5)) rfl ?_
      obtain ⟨r7, hv⟩ := hv
      refine am_xn 1 (c1 := (if zi r6 = zi 0 then 86 else 106, [.ref 0, .null, .null, .int (zi x3), .int (zi x4)], [], M5)) rfl (am_xeq r7 (by decide) (fun h => ?_) (fun h => ?_))
      · replace hv := hv.1 h
        refine am_xn 3 (c1 := (90, [.ref 0, .null, .null, .int (zi x3), .int (zi x4)], [.int (zi 2), .int (zi x4), .ref 0], M5)) rfl ?_
        obtain ⟨r9, M8, hc, hv⟩ := hv
        refine am_xc t_SB_differs (.invokevirtual 220) 220 (av := [.ref 0, .int (zi x4), .int (zi 2)]) (rest := []) (rv := some (.int (zi r9))) (M' := M8) rfl rfl rfl rfl (Nat.le_of_ble_eq_true rfl) (fun _ => rfl) (hc) ?_
        refine am_xn 0 (c1 := (93, [.ref 0, .null, .null, .int (zi x3), .int (zi x4)], [.int (zi r9)], M8)) rfl ?_
        obtain ⟨r10, hv⟩ := hv
        refine am_xn 1 (c1 := (if zi r9 = zi 0 then 96 else 106, [.ref 0, .null, .null, .int (zi x3), .int (zi x4)], [], M8)) rfl (am_xeq r10 (by decide) (fun h => ?_) (fun h => ?_))
        · replace hv := hv.1 h
          refine am_xn 3 (c1 := (100, [.ref 0, .null, .null, .int (zi x3), .int (zi x4)], [.int (zi 3), .int (zi x4), .ref 0], M8)) rfl ?_
          obtain ⟨r12, M11, hc, hv⟩ := hv
          refine am_xc t_SB_differs (.invokevirtual 220) 220 (av := [.ref 0, .int (zi x4), .int (zi 3)]) (rest := []) (rv := some (.int (zi r12))) (M' := M11) rfl rfl rfl rfl (Nat.le_of_ble_eq_true rfl) (fun _ => rfl) (hc) ?_
          refine am_xn 0 (c1 := (103, [.ref 0, .null, .null, .int (zi x3), .int (zi x4)], [.int (zi r12)], M11)) rfl ?_
          obtain ⟨r13, hv⟩ := hv
          refine am_xn 1 (c1 := (if zi r12 = zi 0 then 109 else 106, [.ref 0, .null, .null, .int (zi x3), .int (zi x4)], [], M11)) rfl (am_xeq r13 (by decide) (fun h => ?_) (fun h => ?_))
          · replace hv := hv.1 h
            refine am_xn 1 (c1 := (112, [.ref 0, .null, .null, .int (zi x3), .int (zi x4 + zi 1)], [], M11)) rfl ?_
            rw [zi_add]
            refine am_xn 1 (c1 := (59, [.ref 0, .null, .null, .int (zi x3), .int (zi (x4 + 1))], [], M11)) rfl ?_
            exact hv
          · replace hv := hv.2 h
            refine am_xn 1 (c1 := (109, [.ref 0, .null, .null, .int (zi x3 + zi 1), .int (zi x4)], [], M11)) rfl ?_
            rw [zi_add]
            refine am_xn 1 (c1 := (112, [.ref 0, .null, .null, .int (zi (x3 + 1)), .int (zi x4 + zi 1)], [], M11)) rfl ?_
            rw [zi_add]
            refine am_xn 1 (c1 := (59, [.ref 0, .null, .null, .int (zi (x3 + 1)), .int (zi (x4 + 1))], [], M11)) rfl ?_
            exact hv
        · replace hv := hv.2 h
          refine am_xn 1 (c1 := (109, [.ref 0, .null, .null, .int (zi x3 + zi 1), .int (zi x4)], [], M8)) rfl ?_
          rw [zi_add]
          refine am_xn 1 (c1 := (112, [.ref 0, .null, .null, .int (zi (x3 + 1)), .int (zi x4 + zi 1)], [], M8)) rfl ?_
          rw [zi_add]
          refine am_xn 1 (c1 := (59, [.ref 0, .null, .null, .int (zi (x3 + 1)), .int (zi (x4 + 1))], [], M8)) rfl ?_
          exact hv
      · replace hv := hv.2 h
        refine am_xn 1 (c1 := (109, [.ref 0, .null, .null, .int (zi x3 + zi 1), .int (zi x4)], [], M5)) rfl ?_
        rw [zi_add]
        refine am_xn 1 (c1 := (112, [.ref 0, .null, .null, .int (zi (x3 + 1)), .int (zi x4 + zi 1)], [], M5)) rfl ?_
        rw [zi_add]
        refine am_xn 1 (c1 := (59, [.ref 0, .null, .null, .int (zi (x3 + 1)), .int (zi (x4 + 1))], [], M5)) rfl ?_
        exact hv
    · replace hv := hv.2 h
      refine am_xn 1 (c1 := (109, [.ref 0, .null, .null, .int (zi x3 + zi 1), .int (zi x4)], [], M2)) rfl ?_
      rw [zi_add]
      refine am_xn 1 (c1 := (112, [.ref 0, .null, .null, .int (zi (x3 + 1)), .int (zi x4 + zi 1)], [], M2)) rfl ?_
      rw [zi_add]
      refine am_xn 1 (c1 := (59, [.ref 0, .null, .null, .int (zi (x3 + 1)), .int (zi (x4 + 1))], [], M2)) rfl ?_
      exact hv
  · replace hv := hv.2 h
    refine am_xn 1 (c1 := (116, [.ref 0, .null, .null, .int (zi x3), .int (zi x4)], [.int (zi x3)], M)) rfl ?_
    exact am_xr (some (.int (zi x3))) ⟨rfl, rfl, .int, rfl, rfl⟩ hv
set_option maxRecDepth 100000 in
theorem vc_setsAside  (M : am_M) (Q : Option Value → am_M → Prop) (hv : am_x t_Mo_setsAside (2, [.ref 58, .int (zi 0)], [], M) Q) : am_x t_Mo_setsAside (0, am_ent (am_mL t_Mo_setsAside) [.ref 58], [], M) Q := by
  refine am_xn 0 (c1 := (0, [.ref 58, .null], [], M)) rfl ?_
  refine am_xn 2 (c1 := (2, [.ref 58, .int (zi 0)], [], M)) rfl ?_
  exact hv
set_option maxRecDepth 100000 in
theorem vc_setsAside_2 (x1 : Int) (M : am_M) (Q : Option Value → am_M → Prop) (hv : (zr x1) ∧ ((x1 < 40 → (0 ≤ x1 ∧ x1 < 40) ∧ ((0 ≤ x1 ∧ x1 < 40) ∧ (∀ M3, M3 = zup M 76 x1 (iv M 64 x1) → (0 ≤ x1 ∧ x1 < 40) ∧ ((0 ≤ x1 ∧ x1 < 40) ∧ (∀ M6, M6 = zup M3 77 x1 (iv M3 65 x1) → (0 ≤ x1 ∧ x1 < 40) ∧ ((0 ≤ x1 ∧ x1 < 40) ∧ (∀ M9, M9 = zup M6 78 x1 (iv M6 66 x1) → am_x t_Mo_setsAside (2, [.ref 58, .int (zi (x1 + 1))], [], M9) Q))))))) ∧ (40 ≤ x1 → am_x t_Mo_setsAside (52, [.ref 58, .int (zi 0)], [], M) Q))) : am_x t_Mo_setsAside (2, [.ref 58, .int (zi x1)], [], M) Q := by
  obtain ⟨r1, hv⟩ := hv
  refine am_xn 3 (c1 := (if zi x1 < zi 40 then 8 else 50, [.ref 58, .int (zi x1)], [], M)) rfl (am_xlt r1 (by decide) (fun h => ?_) (fun h => ?_))
  · replace hv := hv.1 h
    obtain ⟨r2, hv⟩ := hv
    refine am_xn 6 (c1 := (18, [.ref 58, .int (zi x1)], [.int (zi x1), .ref 64, .int (zi x1), .ref 76], M)) rfl ?_
    refine am_xald rfl rfl rfl r2 ?_
    refine am_xn 0 (c1 := (19, [.ref 58, .int (zi x1)], [.int (zi (iv M 64 x1)), .int (zi x1), .ref 76], M)) rfl ?_
    obtain ⟨r4, hv⟩ := hv
    refine am_xast rfl rfl rfl r4 ?_
    refine am_xn 0 (c1 := (20, [.ref 58, .int (zi x1)], [], zup M 76 x1 (iv M 64 x1))) rfl ?_
    obtain ⟨M3, eM3⟩ : ∃ m, m = zup M 76 x1 (iv M 64 x1) := ⟨_, rfl⟩
    replace hv := hv M3 eM3
    rw [← eM3]
    obtain ⟨r5, hv⟩ := hv
    refine am_xn 6 (c1 := (30, [.ref 58, .int (zi x1)], [.int (zi x1), .ref 65, .int (zi x1), .ref 77], M3)) rfl ?_
    refine am_xald rfl rfl rfl r5 ?_
    refine am_xn 0 (c1 := (31, [.ref 58, .int (zi x1)], [.int (zi (iv M3 65 x1)), .int (zi x1), .ref 77], M3)) rfl ?_
    obtain ⟨r7, hv⟩ := hv
    refine am_xast rfl rfl rfl r7 ?_
    refine am_xn 0 (c1 := (32, [.ref 58, .int (zi x1)], [], zup M3 77 x1 (iv M3 65 x1))) rfl ?_
    obtain ⟨M6, eM6⟩ : ∃ m, m = zup M3 77 x1 (iv M3 65 x1) := ⟨_, rfl⟩
    replace hv := hv M6 eM6
    rw [← eM6]
    obtain ⟨r8, hv⟩ := hv
    refine am_xn 6 (c1 := (42, [.ref 58, .int (zi x1)], [.int (zi x1), .ref 66, .int (zi x1), .ref 78], M6)) rfl ?_
    refine am_xald rfl rfl rfl r8 ?_
    refine am_xn 0 (c1 := (43, [.ref 58, .int (zi x1)], [.int (zi (iv M6 66 x1)), .int (zi x1), .ref 78], M6)) rfl ?_
    obtain ⟨r10, hv⟩ := hv
    refine am_xast rfl rfl rfl r10 ?_
    refine am_xn 0 (c1 := (44, [.ref 58, .int (zi x1)], [], zup M6 78 x1 (iv M6 66 x1))) rfl ?_
    obtain ⟨M9, eM9⟩ : ∃ m, m = zup M6 78 x1 (iv M6 66 x1) := ⟨_, rfl⟩
    replace hv := hv M9 eM9
    rw [← eM9]
    refine am_xn 1 (c1 := (47, [.ref 58, .int (zi x1 + zi 1)], [], M9)) rfl ?_
    rw [zi_add]
    refine am_xn 1 (c1 := (2, [.ref 58, .int (zi (x1 + 1))], [], M9)) rfl ?_
    exact hv
  · replace hv := hv.2 h
    refine am_xn 2 (c1 := (52, [.ref 58, .int (zi 0)], [], M)) rfl ?_
    exact hv
set_option maxRecDepth 100000 in
theorem vc_setsAside_52 (x1 : Int) (M : am_M) (Q : Option Value → am_M → Prop) (hv : (zr x1) ∧ ((x1 < 240 → (0 ≤ x1 ∧ x1 < 240) ∧ ((0 ≤ x1 ∧ x1 < 240) ∧ (∀ M3, M3 = zup M 79 x1 (iv M 67 x1) → am_x t_Mo_setsAside (52, [.ref 58, .int (zi (x1 + 1))], [], M3) Q))) ∧ (240 ≤ x1 → Q none M))) : am_x t_Mo_setsAside (52, [.ref 58, .int (zi x1)], [], M) Q := by
  obtain ⟨r1, hv⟩ := hv
  refine am_xn 3 (c1 := (if zi x1 < zi 240 then 59 else 77, [.ref 58, .int (zi x1)], [], M)) rfl (am_xlt r1 (by decide) (fun h => ?_) (fun h => ?_))
  · replace hv := hv.1 h
    obtain ⟨r2, hv⟩ := hv
    refine am_xn 6 (c1 := (69, [.ref 58, .int (zi x1)], [.int (zi x1), .ref 67, .int (zi x1), .ref 79], M)) rfl ?_
    refine am_xald rfl rfl rfl r2 ?_
    refine am_xn 0 (c1 := (70, [.ref 58, .int (zi x1)], [.int (zi (iv M 67 x1)), .int (zi x1), .ref 79], M)) rfl ?_
    obtain ⟨r4, hv⟩ := hv
    refine am_xast rfl rfl rfl r4 ?_
    refine am_xn 0 (c1 := (71, [.ref 58, .int (zi x1)], [], zup M 79 x1 (iv M 67 x1))) rfl ?_
    obtain ⟨M3, eM3⟩ : ∃ m, m = zup M 79 x1 (iv M 67 x1) := ⟨_, rfl⟩
    replace hv := hv M3 eM3
    rw [← eM3]
    refine am_xn 1 (c1 := (74, [.ref 58, .int (zi x1 + zi 1)], [], M3)) rfl ?_
    rw [zi_add]
    refine am_xn 1 (c1 := (52, [.ref 58, .int (zi (x1 + 1))], [], M3)) rfl ?_
    exact hv
  · replace hv := hv.2 h
    exact am_xr none ⟨rfl, rfl, rfl⟩ hv
set_option maxRecDepth 100000 in
theorem vc_isSameText (c : Int) (M : am_M) (Q : Option Value → am_M → Prop) (hv : (0 ≤ c ∧ c < 40) ∧ ((0 ≤ c ∧ c < 40) ∧ (((iv M 66 c) = (iv M 78 c) → am_x t_Mo_isSameText (23, [.ref 58, .int (zi c), .int (zi 1), .int (zi 0)], [], M) Q) ∧ (¬ (iv M 66 c) = (iv M 78 c) → am_x t_Mo_isSameText (23, [.ref 58, .int (zi c), .int (zi 0), .int (zi 0)], [], M) Q)))) : am_x t_Mo_isSameText (0, am_ent (am_mL t_Mo_isSameText) [.ref 58, .int (zi c)], [], M) Q := by
  refine am_xn 0 (c1 := (0, [.ref 58, .int (zi c), .null, .null], [], M)) rfl ?_
  obtain ⟨r1, hv⟩ := hv
  refine am_xn 3 (c1 := (5, [.ref 58, .int (zi c), .null, .null], [.int (zi c), .ref 66], M)) rfl ?_
  refine am_xald rfl rfl rfl r1 ?_
  refine am_xn 0 (c1 := (6, [.ref 58, .int (zi c), .null, .null], [.int (zi (iv M 66 c))], M)) rfl ?_
  obtain ⟨r2, hv⟩ := hv
  refine am_xn 3 (c1 := (11, [.ref 58, .int (zi c), .null, .null], [.int (zi c), .ref 78, .int (zi (iv M 66 c))], M)) rfl ?_
  refine am_xald rfl rfl rfl r2 ?_
  refine am_xn 0 (c1 := (12, [.ref 58, .int (zi c), .null, .null], [.int (zi (iv M 78 c)), .int (zi (iv M 66 c))], M)) rfl ?_
  refine am_xn 1 (c1 := (if zi (iv M 66 c) = zi (iv M 78 c) then 15 else 19, [.ref 58, .int (zi c), .null, .null], [], M)) rfl (am_xeq (iv_r _ _ _) (iv_r _ _ _) (fun h => ?_) (fun h => ?_))
  · replace hv := hv.1 h
    refine am_xn 5 (c1 := (23, [.ref 58, .int (zi c), .int (zi 1), .int (zi 0)], [], M)) rfl ?_
    exact hv
  · replace hv := hv.2 h
    refine am_xn 4 (c1 := (23, [.ref 58, .int (zi c), .int (zi 0), .int (zi 0)], [], M)) rfl ?_
    exact hv
set_option maxRecDepth 100000 in
theorem vc_isSameText_23 (x1 : Int) (x2 : Int) (x3 : Int) (M : am_M) (Q : Option Value → am_M → Prop) (hv : (0 ≤ x1 ∧ x1 < 40) ∧ ((zr x3) ∧ ((x3 < (iv M 66 x1) → (zr x2) ∧ ((x2 = 0 → (x2 = 0 ∨ x2 = 1) ∧ Q (some (.int (zi x2))) M) ∧ (¬ x2 = 0 → (0 ≤ ((6 * x1) + x3) ∧ ((6 * x1) + x3) < 240) ∧ ((0 ≤ ((6 * x1) + x3) ∧ ((6 * x1) + x3) < 240) ∧ (((iv M 67 ((6 * x1) + x3)) = (iv M 79 ((6 * x1) + x3)) → am_x t_Mo_isSameText (23, [.ref 58, .int (zi x1), .int (zi 1), .int (zi (x3 + 1))], [], M) Q) ∧ (¬ (iv M 67 ((6 * x1) + x3)) = (iv M 79 ((6 * x1) + x3)) → am_x t_Mo_isSameText (23, [.ref 58, .int (zi x1), .int (zi 0), .int (zi (x3 + 1))], [], M) Q)))))) ∧ ((iv M 66 x1) ≤ x3 → (x2 = 0 ∨ x2 = 1) ∧ Q (some (.int (zi x2))) M)))) : am_x t_Mo_isSameText (23, [.ref 58, .int (zi x1), .int (zi x2), .int (zi x3)], [], M) Q := by
  obtain ⟨r1, hv⟩ := hv
  refine am_xn 4 (c1 := (29, [.ref 58, .int (zi x1), .int (zi x2), .int (zi x3)], [.int (zi x1), .ref 66, .int (zi x3)], M)) rfl ?_
  refine am_xald rfl rfl rfl r1 ?_
  refine am_xn 0 (c1 := (30, [.ref 58, .int (zi x1), .int (zi x2), .int (zi x3)], [.int (zi (iv M 66 x1)), .int (zi x3)], M)) rfl ?_
  obtain ⟨r2, hv⟩ := hv
  refine am_xn 1 (c1 := (if zi x3 < zi (iv M 66 x1) then 33 else 74, [.ref 58, .int (zi x1), .int (zi x2), .int (zi x3)], [], M)) rfl (am_xlt r2 (iv_r _ _ _) (fun h => ?_) (fun h => ?_))
  · replace hv := hv.1 h
    obtain ⟨r3, hv⟩ := hv
    refine am_xn 2 (c1 := (if zi x2 = zi 0 then 74 else 37, [.ref 58, .int (zi x1), .int (zi x2), .int (zi x3)], [], M)) rfl (am_xeq r3 (by decide) (fun h => ?_) (fun h => ?_))
    · replace hv := hv.1 h
      refine am_xn 1 (c1 := (75, [.ref 58, .int (zi x1), .int (zi x2), .int (zi x3)], [.int (zi x2)], M)) rfl ?_
      exact am_xr (some (.int (zi x2))) ⟨rfl, rfl, .boolean, rfl, zi_nb hv.1⟩ hv.2
    · replace hv := hv.2 h
      refine am_ximul 5 6 x1 (pc := 45) (ls := [.ref 58, .int (zi x1), .int (zi x2), .int (zi x3)]) (st := [.ref 67]) rfl ?_
      refine am_xiadd 2 (6 * x1) x3 (pc := 47) (ls := [.ref 58, .int (zi x1), .int (zi x2), .int (zi x3)]) (st := [.ref 67]) rfl ?_
      obtain ⟨r4, hv⟩ := hv
      refine am_xald rfl rfl rfl r4 ?_
      refine am_xn 0 (c1 := (48, [.ref 58, .int (zi x1), .int (zi x2), .int (zi x3)], [.int (zi (iv M 67 ((6 * x1) + x3)))], M)) rfl ?_
      refine am_ximul 5 6 x1 (pc := 56) (ls := [.ref 58, .int (zi x1), .int (zi x2), .int (zi x3)]) (st := [.ref 79, .int (zi (iv M 67 ((6 * x1) + x3)))]) rfl ?_
      refine am_xiadd 2 (6 * x1) x3 (pc := 58) (ls := [.ref 58, .int (zi x1), .int (zi x2), .int (zi x3)]) (st := [.ref 79, .int (zi (iv M 67 ((6 * x1) + x3)))]) rfl ?_
      obtain ⟨r5, hv⟩ := hv
      refine am_xald rfl rfl rfl r5 ?_
      refine am_xn 0 (c1 := (59, [.ref 58, .int (zi x1), .int (zi x2), .int (zi x3)], [.int (zi (iv M 79 ((6 * x1) + x3))), .int (zi (iv M 67 ((6 * x1) + x3)))], M)) rfl ?_
      refine am_xn 1 (c1 := (if zi (iv M 67 ((6 * x1) + x3)) = zi (iv M 79 ((6 * x1) + x3)) then 62 else 66, [.ref 58, .int (zi x1), .int (zi x2), .int (zi x3)], [], M)) rfl (am_xeq (iv_r _ _ _) (iv_r _ _ _) (fun h => ?_) (fun h => ?_))
      · replace hv := hv.1 h
        refine am_xn 4 (c1 := (71, [.ref 58, .int (zi x1), .int (zi 1), .int (zi x3 + zi 1)], [], M)) rfl ?_
        rw [zi_add]
        refine am_xn 1 (c1 := (23, [.ref 58, .int (zi x1), .int (zi 1), .int (zi (x3 + 1))], [], M)) rfl ?_
        exact hv
      · replace hv := hv.2 h
        refine am_xn 3 (c1 := (71, [.ref 58, .int (zi x1), .int (zi 0), .int (zi x3 + zi 1)], [], M)) rfl ?_
        rw [zi_add]
        refine am_xn 1 (c1 := (23, [.ref 58, .int (zi x1), .int (zi 0), .int (zi (x3 + 1))], [], M)) rfl ?_
        exact hv
  · replace hv := hv.2 h
    refine am_xn 1 (c1 := (75, [.ref 58, .int (zi x1), .int (zi x2), .int (zi x3)], [.int (zi x2)], M)) rfl ?_
    exact am_xr (some (.int (zi x2))) ⟨rfl, rfl, .boolean, rfl, zi_nb hv.1⟩ hv.2
set_option maxRecDepth 100000 in
theorem vc_m_difference (d : Int) (e : Int) (w : Int) (M : am_M) (Q : Option Value → am_M → Prop) (hv : (zr d) ∧ ((0 ≤ d ∧ d ≤ 9999 → (zr e) ∧ ((0 ≤ e ∧ e ≤ 9999 → (zr w ∧ zr (0 : Int) ∧ zr (3 : Int)) ∧ ((0 ≤ w ∧ w ≤ 3 → ∃ M1, am_call t_Mo_laws [.ref 58, .int (zi d), .int (zi (-1))] M none M1 ∧ (∃ M2, am_call t_Mo_setsAside [.ref 58] M1 none M2 ∧ (∃ M3, am_call t_Mo_laws [.ref 58, .int (zi e), .int (zi (-1))] M2 none M3 ∧ (am_x t_Mo_difference (48, [.ref 58, .null, .null, .int (zi w), .int (zi 0), .int (zi 0), .null, .null], [], M3) Q)))) ∧ (¬ (0 ≤ w ∧ w ≤ 3) → Q (some (.int (zi (-2)))) M))) ∧ (¬ (0 ≤ e ∧ e ≤ 9999) → Q (some (.int (zi (-2)))) M))) ∧ (¬ (0 ≤ d ∧ d ≤ 9999) → Q (some (.int (zi (-2)))) M))) : am_x t_Mo_difference (0, am_ent (am_mL t_Mo_difference) [.ref 58, .int (zi d), .int (zi e), .int (zi w)], [], M) Q := by
  refine am_xn 0 (c1 := (0, [.ref 58, .int (zi d), .int (zi e), .int (zi w), .null, .null, .null, .null], [], M)) rfl ?_
  refine am_xn 1 (c1 := (1, [.ref 58, .int (zi d), .int (zi e), .int (zi w), .null, .null, .null, .null], [.int (zi d)], M)) rfl ?_
  obtain ⟨g, hv⟩ := hv
  by_cases c6 : 0 ≤ d ∧ d ≤ 9999
  · replace hv := hv.1 c6
    refine am_xc t_Mo_isDay (.invokestatic 80) 80 (av := [.int (zi d)]) (rest := []) (rv := some (.int (zi 1))) (M' := M) rfl rfl rfl rfl (Nat.le_of_ble_eq_true rfl) (fun h => nomatch h) (by have q := sp_isDay M d g; rwa [if_pos c6] at q) ?_
    refine am_xn 0 (c1 := (4, [.ref 58, .int (zi d), .int (zi e), .int (zi w), .null, .null, .null, .null], [.int (zi 1)], M)) rfl ?_
    refine am_xn 2 (c1 := (8, [.ref 58, .int (zi d), .int (zi e), .int (zi w), .null, .null, .null, .null], [.int (zi e)], M)) rfl ?_
    obtain ⟨g, hv⟩ := hv
    by_cases c5 : 0 ≤ e ∧ e ≤ 9999
    · replace hv := hv.1 c5
      refine am_xc t_Mo_isDay (.invokestatic 80) 80 (av := [.int (zi e)]) (rest := []) (rv := some (.int (zi 1))) (M' := M) rfl rfl rfl rfl (Nat.le_of_ble_eq_true rfl) (fun h => nomatch h) (by have q := sp_isDay M e g; rwa [if_pos c5] at q) ?_
      refine am_xn 0 (c1 := (11, [.ref 58, .int (zi d), .int (zi e), .int (zi w), .null, .null, .null, .null], [.int (zi 1)], M)) rfl ?_
      refine am_xn 4 (c1 := (17, [.ref 58, .int (zi d), .int (zi e), .int (zi w), .null, .null, .null, .null], [.int (zi 3), .int (zi 0), .int (zi w)], M)) rfl ?_
      obtain ⟨g, hv⟩ := hv
      by_cases c4 : 0 ≤ w ∧ w ≤ 3
      · replace hv := hv.1 c4
        refine am_xc t_Mo_in (.invokestatic 76) 76 (av := [.int (zi w), .int (zi 0), .int (zi 3)]) (rest := []) (rv := some (.int (zi 1))) (M' := M) rfl rfl rfl rfl (Nat.le_of_ble_eq_true rfl) (fun h => nomatch h) (by have q := sp_in M w 0 3 g; rwa [if_pos c4] at q) ?_
        refine am_xn 0 (c1 := (20, [.ref 58, .int (zi d), .int (zi e), .int (zi w), .null, .null, .null, .null], [.int (zi 1)], M)) rfl ?_
        refine am_xn 4 (c1 := (29, [.ref 58, .int (zi d), .int (zi e), .int (zi w), .null, .null, .null, .null], [.int (zi (-1)), .int (zi d), .ref 58], M)) rfl ?_
        obtain ⟨M1, hc, hv⟩ := hv
        refine am_xc t_Mo_laws (.invokevirtual 140) 140 (av := [.ref 58, .int (zi d), .int (zi (-1))]) (rest := []) (rv := none) (M' := M1) rfl rfl rfl rfl (Nat.le_of_ble_eq_true rfl) (fun _ => rfl) (hc) ?_
        refine am_xn 0 (c1 := (32, [.ref 58, .int (zi d), .int (zi e), .int (zi w), .null, .null, .null, .null], [], M1)) rfl ?_
        refine am_xn 1 (c1 := (33, [.ref 58, .int (zi d), .int (zi e), .int (zi w), .null, .null, .null, .null], [.ref 58], M1)) rfl ?_
        obtain ⟨M2, hc, hv⟩ := hv
        refine am_xc t_Mo_setsAside (.invokevirtual 290) 290 (av := [.ref 58]) (rest := []) (rv := none) (M' := M2) rfl rfl rfl rfl (Nat.le_of_ble_eq_true rfl) (fun _ => rfl) (hc) ?_
        refine am_xn 0 (c1 := (36, [.ref 58, .int (zi d), .int (zi e), .int (zi w), .null, .null, .null, .null], [], M2)) rfl ?_
        refine am_xn 3 (c1 := (39, [.ref 58, .int (zi d), .int (zi e), .int (zi w), .null, .null, .null, .null], [.int (zi (-1)), .int (zi e), .ref 58], M2)) rfl ?_
        obtain ⟨M3, hc, hv⟩ := hv
        refine am_xc t_Mo_laws (.invokevirtual 140) 140 (av := [.ref 58, .int (zi e), .int (zi (-1))]) (rest := []) (rv := none) (M' := M3) rfl rfl rfl rfl (Nat.le_of_ble_eq_true rfl) (fun _ => rfl) (hc) ?_
        refine am_xn 0 (c1 := (42, [.ref 58, .int (zi d), .int (zi e), .int (zi w), .null, .null, .null, .null], [], M3)) rfl ?_
        refine am_xn 4 (c1 := (48, [.ref 58, .int (zi d), .int (zi e), .int (zi w), .int (zi 0), .int (zi 0), .null, .null], [], M3)) rfl ?_
        refine am_xf 1 ?_
        refine am_xf 2 ?_
        exact hv
      · replace hv := hv.2 c4
        refine am_xc t_Mo_in (.invokestatic 76) 76 (av := [.int (zi w), .int (zi 0), .int (zi 3)]) (rest := []) (rv := some (.int (zi 0))) (M' := M) rfl rfl rfl rfl (Nat.le_of_ble_eq_true rfl) (fun h => nomatch h) (by have q := sp_in M w 0 3 g; rwa [if_neg c4] at q) ?_
        refine am_xn 0 (c1 := (20, [.ref 58, .int (zi d), .int (zi e), .int (zi w), .null, .null, .null, .null], [.int (zi 0)], M)) rfl ?_
        refine am_xn 2 (c1 := (25, [.ref 58, .int (zi d), .int (zi e), .int (zi w), .null, .null, .null, .null], [.int (zi (-2))], M)) rfl ?_
        exact am_xr (some (.int (zi (-2)))) ⟨rfl, rfl, .int, rfl, rfl⟩ hv
    · replace hv := hv.2 c5
      refine am_xc t_Mo_isDay (.invokestatic 80) 80 (av := [.int (zi e)]) (rest := []) (rv := some (.int (zi 0))) (M' := M) rfl rfl rfl rfl (Nat.le_of_ble_eq_true rfl) (fun h => nomatch h) (by have q := sp_isDay M e g; rwa [if_neg c5] at q) ?_
      refine am_xn 0 (c1 := (11, [.ref 58, .int (zi d), .int (zi e), .int (zi w), .null, .null, .null, .null], [.int (zi 0)], M)) rfl ?_
      refine am_xn 2 (c1 := (25, [.ref 58, .int (zi d), .int (zi e), .int (zi w), .null, .null, .null, .null], [.int (zi (-2))], M)) rfl ?_
      exact am_xr (some (.int (zi (-2)))) ⟨rfl, rfl, .int, rfl, rfl⟩ hv
  · replace hv := hv.2 c6
    refine am_xc t_Mo_isDay (.invokestatic 80) 80 (av := [.int (zi d)]) (rest := []) (rv := some (.int (zi 0))) (M' := M) rfl rfl rfl rfl (Nat.le_of_ble_eq_true rfl) (fun h => nomatch h) (by have q := sp_isDay M d g; rwa [if_neg c6] at q) ?_
    refine am_xn 0 (c1 := (4, [.ref 58, .int (zi d), .int (zi e), .int (zi w), .null, .null, .null, .null], [.int (zi 0)], M)) rfl ?_
    refine am_xn 2 (c1 := (25, [.ref 58, .int (zi d), .int (zi e), .int (zi w), .null, .null, .null, .null], [.int (zi (-2))], M)) rfl ?_
    exact am_xr (some (.int (zi (-2)))) ⟨rfl, rfl, .int, rfl, rfl⟩ hv
set_option maxRecDepth 100000 in
theorem vc_m_difference_48 (x3 : Int) (x4 : Int) (x5 : Int) (M : am_M) (Q : Option Value → am_M → Prop) (hv : (zr x5) ∧ ((x5 < 40 → (0 ≤ x5 ∧ x5 < 40) ∧ (((iv M 64 x5) = 1 → (0 ≤ x5 ∧ x5 < 40) ∧ (((iv M 76 x5) = 1 → (zr x3) ∧ ((x3 = 0 → (0 ≤ x5 ∧ x5 < 40) ∧ ((0 ≤ x5 ∧ x5 < 40) ∧ (((iv M 76 x5) < (iv M 64 x5) → am_x t_Mo_difference (48, [.ref 58, .null, .null, .int (zi x3), .int (zi (x4 + 1)), .int (zi (x5 + 1)), .null, .null], [], M) Q) ∧ ((iv M 64 x5) ≤ (iv M 76 x5) → am_x t_Mo_difference (48, [.ref 58, .null, .null, .int (zi x3), .int (zi (x4 + 0)), .int (zi (x5 + 1)), .null, .null], [], M) Q)))) ∧ (¬ x3 = 0 → (x3 = 1 → (0 ≤ x5 ∧ x5 < 40) ∧ ((0 ≤ x5 ∧ x5 < 40) ∧ (((iv M 64 x5) < (iv M 76 x5) → am_x t_Mo_difference (48, [.ref 58, .null, .null, .int (zi x3), .int (zi (x4 + 1)), .int (zi (x5 + 1)), .null, .null], [], M) Q) ∧ ((iv M 76 x5) ≤ (iv M 64 x5) → am_x t_Mo_difference (48, [.ref 58, .null, .null, .int (zi x3), .int (zi (x4 + 0)), .int (zi (x5 + 1)), .null, .null], [], M) Q)))) ∧ (¬ x3 = 1 → (x3 = 2 → (0 ≤ x5 ∧ x5 < 40) ∧ ((0 ≤ x5 ∧ x5 < 40) ∧ (((iv M 65 x5) = (iv M 77 x5) → am_x t_Mo_difference (48, [.ref 58, .null, .null, .int (zi x3), .int (zi (x4 + 0)), .int (zi (x5 + 1)), .null, .null], [], M) Q) ∧ (¬ (iv M 65 x5) = (iv M 77 x5) → am_x t_Mo_difference (48, [.ref 58, .null, .null, .int (zi x3), .int (zi (x4 + 1)), .int (zi (x5 + 1)), .null, .null], [], M) Q)))) ∧ (¬ x3 = 2 → ∃ (r12 : Int) (M11 : am_M), am_call t_Mo_isSameText [.ref 58, .int (zi x5)] M (some (.int (zi r12))) M11 ∧ ((zr r12) ∧ ((r12 = 0 → am_x t_Mo_difference (48, [.ref 58, .null, .null, .int (zi x3), .int (zi (x4 + 1)), .int (zi (x5 + 1)), .null, .null], [], M11) Q) ∧ (¬ r12 = 0 → am_x t_Mo_difference (48, [.ref 58, .null, .null, .int (zi x3), .int (zi (x4 + 0)), .int (zi (x5 + 1)), .null, .null], [], M11) Q)))))))) ∧ (¬ (iv M 76 x5) = 1 → (zr x3) ∧ ((x3 = 0 → (0 ≤ x5 ∧ x5 < 40) ∧ ((0 ≤ x5 ∧ x5 < 40) ∧ (((iv M 76 x5) < (iv M 64 x5) → am_x t_Mo_difference (48, [.ref 58, .null, .null, .int (zi x3), .int (zi (x4 + 1)), .int (zi (x5 + 1)), .null, .null], [], M) Q) ∧ ((iv M 64 x5) ≤ (iv M 76 x5) → am_x t_Mo_difference (48, [.ref 58, .null, .null, .int (zi x3), .int (zi (x4 + 0)), .int (zi (x5 + 1)), .null, .null], [], M) Q)))) ∧ (¬ x3 = 0 → (x3 = 1 → (0 ≤ x5 ∧ x5 < 40) ∧ ((0 ≤ x5 ∧ x5 < 40) ∧ (((iv M 64 x5) < (iv M 76 x5) → am_x t_Mo_difference (48, [.ref 58, .null, .null, .int (zi x3), .int (zi (x4 + 1)), .int (zi (x5 + 1)), .null, .null], [], M) Q) ∧ ((iv M 76 x5) ≤ (iv M 64 x5) → am_x t_Mo_difference (48, [.ref 58, .null, .null, .int (zi x3), .int (zi (x4 + 0)), .int (zi (x5 + 1)), .null, .null], [], M) Q)))) ∧ (¬ x3 = 1 → am_x t_Mo_difference (48, [.ref 58, .null, .null, .int (zi x3), .int (zi (x4 + 0)), .int (zi (x5 + 1)), .null, .null], [], M) Q)))))) ∧ (¬ (iv M 64 x5) = 1 → (zr x3) ∧ ((x3 = 0 → (0 ≤ x5 ∧ x5 < 40) ∧ ((0 ≤ x5 ∧ x5 < 40) ∧ (((iv M 76 x5) < (iv M 64 x5) → am_x t_Mo_difference (48, [.ref 58, .null, .null, .int (zi x3), .int (zi (x4 + 1)), .int (zi (x5 + 1)), .null, .null], [], M) Q) ∧ ((iv M 64 x5) ≤ (iv M 76 x5) → am_x t_Mo_difference (48, [.ref 58, .null, .null, .int (zi x3), .int (zi (x4 + 0)), .int (zi (x5 + 1)), .null, .null], [], M) Q)))) ∧ (¬ x3 = 0 → (x3 = 1 → (0 ≤ x5 ∧ x5 < 40) ∧ ((0 ≤ x5 ∧ x5 < 40) ∧ (((iv M 64 x5) < (iv M 76 x5) → am_x t_Mo_difference (48, [.ref 58, .null, .null, .int (zi x3), .int (zi (x4 + 1)), .int (zi (x5 + 1)), .null, .null], [], M) Q) ∧ ((iv M 76 x5) ≤ (iv M 64 x5) → am_x t_Mo_difference (48, [.ref 58, .null, .null, .int (zi x3), .int (zi (x4 + 0)), .int (zi (x5 + 1)), .null, .null], [], M) Q)))) ∧ (¬ x3 = 1 → am_x t_Mo_difference (48, [.ref 58, .null, .null, .int (zi x3), .int (zi (x4 + 0)), .int (zi (x5 + 1)), .null, .null], [], M) Q)))))) ∧ (40 ≤ x5 → Q (some (.int (zi x4))) M))) : am_x t_Mo_difference (48, [.ref 58, .null, .null, .int (zi x3), .int (zi x4), .int (zi x5), .null, .null], [], M) Q := by
  obtain ⟨r1, hv⟩ := hv
  refine am_xn 3 (c1 := (if zi x5 < zi 40 then 55 else 210, [.ref 58, .null, .null, .int (zi x3), .int (zi x4), .int (zi x5), .null, .null], [], M)) rfl (am_xlt r1 (by decide) (fun h => ?_) (fun h => ?_))
  · replace hv := hv.1 h
    obtain ⟨r2, hv⟩ := hv
    refine am_xn 3 (c1 := (61, [.ref 58, .null, .null, .int (zi x3), .int (zi x4), .int (zi x5), .null, .null], [.int (zi x5), .ref 64], M)) rfl ?_
    refine am_xald rfl rfl rfl r2 ?_
    refine am_xn 0 (c1 := (62, [.ref 58, .null, .null, .int (zi x3), .int (zi x4), .int (zi x5), .null, .null], [.int (zi (iv M 64 x5))], M)) rfl ?_
    refine am_xn 2 (c1 := (if zi (iv M 64 x5) = zi 1 then 66 else 81, [.ref 58, .null, .null, .int (zi x3), .int (zi x4), .int (zi x5), .null, .null], [], M)) rfl (am_xeq (iv_r _ _ _) (by decide) (fun h => ?_) (fun h => ?_))
    · replace hv := hv.1 h
      obtain ⟨r3, hv⟩ := hv
      refine am_xn 3 (c1 := (72, [.ref 58, .null, .null, .int (zi x3), .int (zi x4), .int (zi x5), .null, .null], [.int (zi x5), .ref 76], M)) rfl ?_
      refine am_xald rfl rfl rfl r3 ?_
      refine am_xn 0 (c1 := (73, [.ref 58, .null, .null, .int (zi x3), .int (zi x4), .int (zi x5), .null, .null], [.int (zi (iv M 76 x5))], M)) rfl ?_
      refine am_xn 2 (c1 := (if zi (iv M 76 x5) = zi 1 then 77 else 81, [.ref 58, .null, .null, .int (zi x3), .int (zi x4), .int (zi x5), .null, .null], [], M)) rfl (am_xeq (iv_r _ _ _) (by decide) (fun h => ?_) (fun h => ?_))
      · replace hv := hv.1 h
        obtain ⟨r4, hv⟩ := hv
        refine am_xn 5 (c1 := (if zi x3 = zi 0 then 88 else 113, [.ref 58, .null, .null, .int (zi x3), .int (zi x4), .int (zi x5), .int (zi 1), .null], [], M)) rfl (am_xeq r4 (by decide) (fun h => ?_) (fun h => ?_))
        · replace hv := hv.1 h
          obtain ⟨r5, hv⟩ := hv
          refine am_xn 3 (c1 := (94, [.ref 58, .null, .null, .int (zi x3), .int (zi x4), .int (zi x5), .int (zi 1), .null], [.int (zi x5), .ref 64], M)) rfl ?_
          refine am_xald rfl rfl rfl r5 ?_
          refine am_xn 0 (c1 := (95, [.ref 58, .null, .null, .int (zi x3), .int (zi x4), .int (zi x5), .int (zi 1), .null], [.int (zi (iv M 64 x5))], M)) rfl ?_
          obtain ⟨r6, hv⟩ := hv
          refine am_xn 3 (c1 := (101, [.ref 58, .null, .null, .int (zi x3), .int (zi x4), .int (zi x5), .int (zi 1), .null], [.int (zi x5), .ref 76, .int (zi (iv M 64 x5))], M)) rfl ?_
          refine am_xald rfl rfl rfl r6 ?_
          refine am_xn 0 (c1 := (102, [.ref 58, .null, .null, .int (zi x3), .int (zi x4), .int (zi x5), .int (zi 1), .null], [.int (zi (iv M 76 x5)), .int (zi (iv M 64 x5))], M)) rfl ?_
          refine am_xn 1 (c1 := (if zi (iv M 76 x5) < zi (iv M 64 x5) then 105 else 109, [.ref 58, .null, .null, .int (zi x3), .int (zi x4), .int (zi x5), .int (zi 1), .null], [], M)) rfl (am_xlt (iv_r _ _ _) (iv_r _ _ _) (fun h => ?_) (fun h => ?_))
          · replace hv := hv.1 h
            refine am_xiadd 9 x4 1 (pc := 202) (ls := [.ref 58, .null, .null, .int (zi x3), .int (zi x4), .int (zi x5), .int (zi 1), .int (zi 1)]) (st := []) rfl ?_
            refine am_xn 2 (c1 := (207, [.ref 58, .null, .null, .int (zi x3), .int (zi (x4 + 1)), .int (zi x5 + zi 1), .int (zi 1), .int (zi 1)], [], M)) rfl ?_
            rw [zi_add]
            refine am_xn 1 (c1 := (48, [.ref 58, .null, .null, .int (zi x3), .int (zi (x4 + 1)), .int (zi (x5 + 1)), .int (zi 1), .int (zi 1)], [], M)) rfl ?_
            refine am_xf 6 ?_
            refine am_xf 7 ?_
            exact hv
          · replace hv := hv.2 h
            refine am_xiadd 8 x4 0 (pc := 202) (ls := [.ref 58, .null, .null, .int (zi x3), .int (zi x4), .int (zi x5), .int (zi 1), .int (zi 0)]) (st := []) rfl ?_
            refine am_xn 2 (c1 := (207, [.ref 58, .null, .null, .int (zi x3), .int (zi (x4 + 0)), .int (zi x5 + zi 1), .int (zi 1), .int (zi 0)], [], M)) rfl ?_
            rw [zi_add]
            refine am_xn 1 (c1 := (48, [.ref 58, .null, .null, .int (zi x3), .int (zi (x4 + 0)), .int (zi (x5 + 1)), .int (zi 1), .int (zi 0)], [], M)) rfl ?_
            refine am_xf 6 ?_
            refine am_xf 7 ?_
            exact hv
        · replace hv := hv.2 h
          refine am_xn 3 (c1 := (if zi x3 = zi 1 then 118 else 143, [.ref 58, .null, .null, .int (zi x3), .int (zi x4), .int (zi x5), .int (zi 1), .null], [], M)) rfl (am_xeq r4 (by decide) (fun h => ?_) (fun h => ?_))
          · replace hv := hv.1 h
            obtain ⟨r7, hv⟩ := hv
            refine am_xn 3 (c1 := (124, [.ref 58, .null, .null, .int (zi x3), .int (zi x4), .int (zi x5), .int (zi 1), .null], [.int (zi x5), .ref 64], M)) rfl ?_
            refine am_xald rfl rfl rfl r7 ?_
            refine am_xn 0 (c1 := (125, [.ref 58, .null, .null, .int (zi x3), .int (zi x4), .int (zi x5), .int (zi 1), .null], [.int (zi (iv M 64 x5))], M)) rfl ?_
            obtain ⟨r8, hv⟩ := hv
            refine am_xn 3 (c1 := (131, [.ref 58, .null, .null, .int (zi x3), .int (zi x4), .int (zi x5), .int (zi 1), .null], [.int (zi x5), .ref 76, .int (zi (iv M 64 x5))], M)) rfl ?_
            refine am_xald rfl rfl rfl r8 ?_
            refine am_xn 0 (c1 := (132, [.ref 58, .null, .null, .int (zi x3), .int (zi x4), .int (zi x5), .int (zi 1), .null], [.int (zi (iv M 76 x5)), .int (zi (iv M 64 x5))], M)) rfl ?_
            refine am_xn 1 (c1 := (if zi (iv M 64 x5) < zi (iv M 76 x5) then 135 else 139, [.ref 58, .null, .null, .int (zi x3), .int (zi x4), .int (zi x5), .int (zi 1), .null], [], M)) rfl (am_xlt (iv_r _ _ _) (iv_r _ _ _) (fun h => ?_) (fun h => ?_))
            · replace hv := hv.1 h
              refine am_xiadd 9 x4 1 (pc := 202) (ls := [.ref 58, .null, .null, .int (zi x3), .int (zi x4), .int (zi x5), .int (zi 1), .int (zi 1)]) (st := []) rfl ?_
              refine am_xn 2 (c1 := (207, [.ref 58, .null, .null, .int (zi x3), .int (zi (x4 + 1)), .int (zi x5 + zi 1), .int (zi 1), .int (zi 1)], [], M)) rfl ?_
              rw [zi_add]
              refine am_xn 1 (c1 := (48, [.ref 58, .null, .null, .int (zi x3), .int (zi (x4 + 1)), .int (zi (x5 + 1)), .int (zi 1), .int (zi 1)], [], M)) rfl ?_
              refine am_xf 6 ?_
              refine am_xf 7 ?_
              exact hv
            · replace hv := hv.2 h
              refine am_xiadd 8 x4 0 (pc := 202) (ls := [.ref 58, .null, .null, .int (zi x3), .int (zi x4), .int (zi x5), .int (zi 1), .int (zi 0)]) (st := []) rfl ?_
              refine am_xn 2 (c1 := (207, [.ref 58, .null, .null, .int (zi x3), .int (zi (x4 + 0)), .int (zi x5 + zi 1), .int (zi 1), .int (zi 0)], [], M)) rfl ?_
              rw [zi_add]
              refine am_xn 1 (c1 := (48, [.ref 58, .null, .null, .int (zi x3), .int (zi (x4 + 0)), .int (zi (x5 + 1)), .int (zi 1), .int (zi 0)], [], M)) rfl ?_
              refine am_xf 6 ?_
              refine am_xf 7 ?_
              exact hv
          · replace hv := hv.2 h
            refine am_xn 5 (c1 := (if zi x3 = zi 2 then 153 else 173, [.ref 58, .null, .null, .int (zi x3), .int (zi x4), .int (zi x5), .int (zi 1), .null], [], M)) rfl (am_xeq r4 (by decide) (fun h => ?_) (fun h => ?_))
            · replace hv := hv.1 h
              obtain ⟨r9, hv⟩ := hv
              refine am_xn 3 (c1 := (159, [.ref 58, .null, .null, .int (zi x3), .int (zi x4), .int (zi x5), .int (zi 1), .null], [.int (zi x5), .ref 65], M)) rfl ?_
              refine am_xald rfl rfl rfl r9 ?_
              refine am_xn 0 (c1 := (160, [.ref 58, .null, .null, .int (zi x3), .int (zi x4), .int (zi x5), .int (zi 1), .null], [.int (zi (iv M 65 x5))], M)) rfl ?_
              obtain ⟨r10, hv⟩ := hv
              refine am_xn 3 (c1 := (166, [.ref 58, .null, .null, .int (zi x3), .int (zi x4), .int (zi x5), .int (zi 1), .null], [.int (zi x5), .ref 77, .int (zi (iv M 65 x5))], M)) rfl ?_
              refine am_xald rfl rfl rfl r10 ?_
              refine am_xn 0 (c1 := (167, [.ref 58, .null, .null, .int (zi x3), .int (zi x4), .int (zi x5), .int (zi 1), .null], [.int (zi (iv M 77 x5)), .int (zi (iv M 65 x5))], M)) rfl ?_
              refine am_xn 1 (c1 := (if zi (iv M 65 x5) = zi (iv M 77 x5) then 186 else 170, [.ref 58, .null, .null, .int (zi x3), .int (zi x4), .int (zi x5), .int (zi 1), .null], [], M)) rfl (am_xeq (iv_r _ _ _) (iv_r _ _ _) (fun h => ?_) (fun h => ?_))
              · replace hv := hv.1 h
                refine am_xiadd 7 x4 0 (pc := 202) (ls := [.ref 58, .null, .null, .int (zi x3), .int (zi x4), .int (zi x5), .int (zi 1), .int (zi 0)]) (st := []) rfl ?_
                refine am_xn 2 (c1 := (207, [.ref 58, .null, .null, .int (zi x3), .int (zi (x4 + 0)), .int (zi x5 + zi 1), .int (zi 1), .int (zi 0)], [], M)) rfl ?_
                rw [zi_add]
                refine am_xn 1 (c1 := (48, [.ref 58, .null, .null, .int (zi x3), .int (zi (x4 + 0)), .int (zi (x5 + 1)), .int (zi 1), .int (zi 0)], [], M)) rfl ?_
                refine am_xf 6 ?_
                refine am_xf 7 ?_
                exact hv
              · replace hv := hv.2 h
                refine am_xiadd 10 x4 1 (pc := 202) (ls := [.ref 58, .null, .null, .int (zi x3), .int (zi x4), .int (zi x5), .int (zi 1), .int (zi 1)]) (st := []) rfl ?_
                refine am_xn 2 (c1 := (207, [.ref 58, .null, .null, .int (zi x3), .int (zi (x4 + 1)), .int (zi x5 + zi 1), .int (zi 1), .int (zi 1)], [], M)) rfl ?_
                rw [zi_add]
                refine am_xn 1 (c1 := (48, [.ref 58, .null, .null, .int (zi x3), .int (zi (x4 + 1)), .int (zi (x5 + 1)), .int (zi 1), .int (zi 1)], [], M)) rfl ?_
                refine am_xf 6 ?_
                refine am_xf 7 ?_
                exact hv
            · replace hv := hv.2 h
              refine am_xn 2 (c1 := (176, [.ref 58, .null, .null, .int (zi x3), .int (zi x4), .int (zi x5), .int (zi 1), .null], [.int (zi x5), .ref 58], M)) rfl ?_
              obtain ⟨r12, M11, hc, hv⟩ := hv
              refine am_xc t_Mo_isSameText (.invokevirtual 293) 293 (av := [.ref 58, .int (zi x5)]) (rest := []) (rv := some (.int (zi r12))) (M' := M11) rfl rfl rfl rfl (Nat.le_of_ble_eq_true rfl) (fun _ => rfl) (hc) ?_
              refine am_xn 0 (c1 := (179, [.ref 58, .null, .null, .int (zi x3), .int (zi x4), .int (zi x5), .int (zi 1), .null], [.int (zi r12)], M11)) rfl ?_
              obtain ⟨r13, hv⟩ := hv
              refine am_xn 1 (c1 := (if zi r12 = zi 0 then 182 else 186, [.ref 58, .null, .null, .int (zi x3), .int (zi x4), .int (zi x5), .int (zi 1), .null], [], M11)) rfl (am_xeq r13 (by decide) (fun h => ?_) (fun h => ?_))
              · replace hv := hv.1 h
                refine am_xiadd 9 x4 1 (pc := 202) (ls := [.ref 58, .null, .null, .int (zi x3), .int (zi x4), .int (zi x5), .int (zi 1), .int (zi 1)]) (st := []) rfl ?_
                refine am_xn 2 (c1 := (207, [.ref 58, .null, .null, .int (zi x3), .int (zi (x4 + 1)), .int (zi x5 + zi 1), .int (zi 1), .int (zi 1)], [], M11)) rfl ?_
                rw [zi_add]
                refine am_xn 1 (c1 := (48, [.ref 58, .null, .null, .int (zi x3), .int (zi (x4 + 1)), .int (zi (x5 + 1)), .int (zi 1), .int (zi 1)], [], M11)) rfl ?_
                refine am_xf 6 ?_
                refine am_xf 7 ?_
                exact hv
              · replace hv := hv.2 h
                refine am_xiadd 7 x4 0 (pc := 202) (ls := [.ref 58, .null, .null, .int (zi x3), .int (zi x4), .int (zi x5), .int (zi 1), .int (zi 0)]) (st := []) rfl ?_
                refine am_xn 2 (c1 := (207, [.ref 58, .null, .null, .int (zi x3), .int (zi (x4 + 0)), .int (zi x5 + zi 1), .int (zi 1), .int (zi 0)], [], M11)) rfl ?_
                rw [zi_add]
                refine am_xn 1 (c1 := (48, [.ref 58, .null, .null, .int (zi x3), .int (zi (x4 + 0)), .int (zi (x5 + 1)), .int (zi 1), .int (zi 0)], [], M11)) rfl ?_
                refine am_xf 6 ?_
                refine am_xf 7 ?_
                exact hv
      · replace hv := hv.2 h
        obtain ⟨r14, hv⟩ := hv
        refine am_xn 4 (c1 := (if zi x3 = zi 0 then 88 else 113, [.ref 58, .null, .null, .int (zi x3), .int (zi x4), .int (zi x5), .int (zi 0), .null], [], M)) rfl (am_xeq r14 (by decide) (fun h => ?_) (fun h => ?_))
        · replace hv := hv.1 h
          obtain ⟨r15, hv⟩ := hv
          refine am_xn 3 (c1 := (94, [.ref 58, .null, .null, .int (zi x3), .int (zi x4), .int (zi x5), .int (zi 0), .null], [.int (zi x5), .ref 64], M)) rfl ?_
          refine am_xald rfl rfl rfl r15 ?_
          refine am_xn 0 (c1 := (95, [.ref 58, .null, .null, .int (zi x3), .int (zi x4), .int (zi x5), .int (zi 0), .null], [.int (zi (iv M 64 x5))], M)) rfl ?_
          obtain ⟨r16, hv⟩ := hv
          refine am_xn 3 (c1 := (101, [.ref 58, .null, .null, .int (zi x3), .int (zi x4), .int (zi x5), .int (zi 0), .null], [.int (zi x5), .ref 76, .int (zi (iv M 64 x5))], M)) rfl ?_
          refine am_xald rfl rfl rfl r16 ?_
          refine am_xn 0 (c1 := (102, [.ref 58, .null, .null, .int (zi x3), .int (zi x4), .int (zi x5), .int (zi 0), .null], [.int (zi (iv M 76 x5)), .int (zi (iv M 64 x5))], M)) rfl ?_
          refine am_xn 1 (c1 := (if zi (iv M 76 x5) < zi (iv M 64 x5) then 105 else 109, [.ref 58, .null, .null, .int (zi x3), .int (zi x4), .int (zi x5), .int (zi 0), .null], [], M)) rfl (am_xlt (iv_r _ _ _) (iv_r _ _ _) (fun h => ?_) (fun h => ?_))
          · replace hv := hv.1 h
            refine am_xiadd 9 x4 1 (pc := 202) (ls := [.ref 58, .null, .null, .int (zi x3), .int (zi x4), .int (zi x5), .int (zi 0), .int (zi 1)]) (st := []) rfl ?_
            refine am_xn 2 (c1 := (207, [.ref 58, .null, .null, .int (zi x3), .int (zi (x4 + 1)), .int (zi x5 + zi 1), .int (zi 0), .int (zi 1)], [], M)) rfl ?_
            rw [zi_add]
            refine am_xn 1 (c1 := (48, [.ref 58, .null, .null, .int (zi x3), .int (zi (x4 + 1)), .int (zi (x5 + 1)), .int (zi 0), .int (zi 1)], [], M)) rfl ?_
            refine am_xf 6 ?_
            refine am_xf 7 ?_
            exact hv
          · replace hv := hv.2 h
            refine am_xiadd 8 x4 0 (pc := 202) (ls := [.ref 58, .null, .null, .int (zi x3), .int (zi x4), .int (zi x5), .int (zi 0), .int (zi 0)]) (st := []) rfl ?_
            refine am_xn 2 (c1 := (207, [.ref 58, .null, .null, .int (zi x3), .int (zi (x4 + 0)), .int (zi x5 + zi 1), .int (zi 0), .int (zi 0)], [], M)) rfl ?_
            rw [zi_add]
            refine am_xn 1 (c1 := (48, [.ref 58, .null, .null, .int (zi x3), .int (zi (x4 + 0)), .int (zi (x5 + 1)), .int (zi 0), .int (zi 0)], [], M)) rfl ?_
            refine am_xf 6 ?_
            refine am_xf 7 ?_
            exact hv
        · replace hv := hv.2 h
          refine am_xn 3 (c1 := (if zi x3 = zi 1 then 118 else 143, [.ref 58, .null, .null, .int (zi x3), .int (zi x4), .int (zi x5), .int (zi 0), .null], [], M)) rfl (am_xeq r14 (by decide) (fun h => ?_) (fun h => ?_))
          · replace hv := hv.1 h
            obtain ⟨r17, hv⟩ := hv
            refine am_xn 3 (c1 := (124, [.ref 58, .null, .null, .int (zi x3), .int (zi x4), .int (zi x5), .int (zi 0), .null], [.int (zi x5), .ref 64], M)) rfl ?_
            refine am_xald rfl rfl rfl r17 ?_
            refine am_xn 0 (c1 := (125, [.ref 58, .null, .null, .int (zi x3), .int (zi x4), .int (zi x5), .int (zi 0), .null], [.int (zi (iv M 64 x5))], M)) rfl ?_
            obtain ⟨r18, hv⟩ := hv
            refine am_xn 3 (c1 := (131, [.ref 58, .null, .null, .int (zi x3), .int (zi x4), .int (zi x5), .int (zi 0), .null], [.int (zi x5), .ref 76, .int (zi (iv M 64 x5))], M)) rfl ?_
            refine am_xald rfl rfl rfl r18 ?_
            refine am_xn 0 (c1 := (132, [.ref 58, .null, .null, .int (zi x3), .int (zi x4), .int (zi x5), .int (zi 0), .null], [.int (zi (iv M 76 x5)), .int (zi (iv M 64 x5))], M)) rfl ?_
            refine am_xn 1 (c1 := (if zi (iv M 64 x5) < zi (iv M 76 x5) then 135 else 139, [.ref 58, .null, .null, .int (zi x3), .int (zi x4), .int (zi x5), .int (zi 0), .null], [], M)) rfl (am_xlt (iv_r _ _ _) (iv_r _ _ _) (fun h => ?_) (fun h => ?_))
            · replace hv := hv.1 h
              refine am_xiadd 9 x4 1 (pc := 202) (ls := [.ref 58, .null, .null, .int (zi x3), .int (zi x4), .int (zi x5), .int (zi 0), .int (zi 1)]) (st := []) rfl ?_
              refine am_xn 2 (c1 := (207, [.ref 58, .null, .null, .int (zi x3), .int (zi (x4 + 1)), .int (zi x5 + zi 1), .int (zi 0), .int (zi 1)], [], M)) rfl ?_
              rw [zi_add]
              refine am_xn 1 (c1 := (48, [.ref 58, .null, .null, .int (zi x3), .int (zi (x4 + 1)), .int (zi (x5 + 1)), .int (zi 0), .int (zi 1)], [], M)) rfl ?_
              refine am_xf 6 ?_
              refine am_xf 7 ?_
              exact hv
            · replace hv := hv.2 h
              refine am_xiadd 8 x4 0 (pc := 202) (ls := [.ref 58, .null, .null, .int (zi x3), .int (zi x4), .int (zi x5), .int (zi 0), .int (zi 0)]) (st := []) rfl ?_
              refine am_xn 2 (c1 := (207, [.ref 58, .null, .null, .int (zi x3), .int (zi (x4 + 0)), .int (zi x5 + zi 1), .int (zi 0), .int (zi 0)], [], M)) rfl ?_
              rw [zi_add]
              refine am_xn 1 (c1 := (48, [.ref 58, .null, .null, .int (zi x3), .int (zi (x4 + 0)), .int (zi (x5 + 1)), .int (zi 0), .int (zi 0)], [], M)) rfl ?_
              refine am_xf 6 ?_
              refine am_xf 7 ?_
              exact hv
          · replace hv := hv.2 h
            refine am_xiadd 9 x4 0 (pc := 202) (ls := [.ref 58, .null, .null, .int (zi x3), .int (zi x4), .int (zi x5), .int (zi 0), .int (zi 0)]) (st := []) rfl ?_
            refine am_xn 2 (c1 := (207, [.ref 58, .null, .null, .int (zi x3), .int (zi (x4 + 0)), .int (zi x5 + zi 1), .int (zi 0), .int (zi 0)], [], M)) rfl ?_
            rw [zi_add]
            refine am_xn 1 (c1 := (48, [.ref 58, .null, .null, .int (zi x3), .int (zi (x4 + 0)), .int (zi (x5 + 1)), .int (zi 0), .int (zi 0)], [], M)) rfl ?_
            refine am_xf 6 ?_
            refine am_xf 7 ?_
            exact hv
    · replace hv := hv.2 h
      obtain ⟨r19, hv⟩ := hv
      refine am_xn 4 (c1 := (if zi x3 = zi 0 then 88 else 113, [.ref 58, .null, .null, .int (zi x3), .int (zi x4), .int (zi x5), .int (zi 0), .null], [], M)) rfl (am_xeq r19 (by decide) (fun h => ?_) (fun h => ?_))
      · replace hv := hv.1 h
        obtain ⟨r20, hv⟩ := hv
        refine am_xn 3 (c1 := (94, [.ref 58, .null, .null, .int (zi x3), .int (zi x4), .int (zi x5), .int (zi 0), .null], [.int (zi x5), .ref 64], M)) rfl ?_
        refine am_xald rfl rfl rfl r20 ?_
        refine am_xn 0 (c1 := (95, [.ref 58, .null, .null, .int (zi x3), .int (zi x4), .int (zi x5), .int (zi 0), .null], [.int (zi (iv M 64 x5))], M)) rfl ?_
        obtain ⟨r21, hv⟩ := hv
        refine am_xn 3 (c1 := (101, [.ref 58, .null, .null, .int (zi x3), .int (zi x4), .int (zi x5), .int (zi 0), .null], [.int (zi x5), .ref 76, .int (zi (iv M 64 x5))], M)) rfl ?_
        refine am_xald rfl rfl rfl r21 ?_
        refine am_xn 0 (c1 := (102, [.ref 58, .null, .null, .int (zi x3), .int (zi x4), .int (zi x5), .int (zi 0), .null], [.int (zi (iv M 76 x5)), .int (zi (iv M 64 x5))], M)) rfl ?_
        refine am_xn 1 (c1 := (if zi (iv M 76 x5) < zi (iv M 64 x5) then 105 else 109, [.ref 58, .null, .null, .int (zi x3), .int (zi x4), .int (zi x5), .int (zi 0), .null], [], M)) rfl (am_xlt (iv_r _ _ _) (iv_r _ _ _) (fun h => ?_) (fun h => ?_))
        · replace hv := hv.1 h
          refine am_xiadd 9 x4 1 (pc := 202) (ls := [.ref 58, .null, .null, .int (zi x3), .int (zi x4), .int (zi x5), .int (zi 0), .int (zi 1)]) (st := []) rfl ?_
          refine am_xn 2 (c1 := (207, [.ref 58, .null, .null, .int (zi x3), .int (zi (x4 + 1)), .int (zi x5 + zi 1), .int (zi 0), .int (zi 1)], [], M)) rfl ?_
          rw [zi_add]
          refine am_xn 1 (c1 := (48, [.ref 58, .null, .null, .int (zi x3), .int (zi (x4 + 1)), .int (zi (x5 + 1)), .int (zi 0), .int (zi 1)], [], M)) rfl ?_
          refine am_xf 6 ?_
          refine am_xf 7 ?_
          exact hv
        · replace hv := hv.2 h
          refine am_xiadd 8 x4 0 (pc := 202) (ls := [.ref 58, .null, .null, .int (zi x3), .int (zi x4), .int (zi x5), .int (zi 0), .int (zi 0)]) (st := []) rfl ?_
          refine am_xn 2 (c1 := (207, [.ref 58, .null, .null, .int (zi x3), .int (zi (x4 + 0)), .int (zi x5 + zi 1), .int (zi 0), .int (zi 0)], [], M)) rfl ?_
          rw [zi_add]
          refine am_xn 1 (c1 := (48, [.ref 58, .null, .null, .int (zi x3), .int (zi (x4 + 0)), .int (zi (x5 + 1)), .int (zi 0), .int (zi 0)], [], M)) rfl ?_
          refine am_xf 6 ?_
          refine am_xf 7 ?_
          exact hv
      · replace hv := hv.2 h
        refine am_xn 3 (c1 := (if zi x3 = zi 1 then 118 else 143, [.ref 58, .null, .null, .int (zi x3), .int (zi x4), .int (zi x5), .int (zi 0), .null], [], M)) rfl (am_xeq r19 (by decide) (fun h => ?_) (fun h => ?_))
        · replace hv := hv.1 h
          obtain ⟨r22, hv⟩ := hv
          refine am_xn 3 (c1 := (124, [.ref 58, .null, .null, .int (zi x3), .int (zi x4), .int (zi x5), .int (zi 0), .null], [.int (zi x5), .ref 64], M)) rfl ?_
          refine am_xald rfl rfl rfl r22 ?_
          refine am_xn 0 (c1 := (125, [.ref 58, .null, .null, .int (zi x3), .int (zi x4), .int (zi x5), .int (zi 0), .null], [.int (zi (iv M 64 x5))], M)) rfl ?_
          obtain ⟨r23, hv⟩ := hv
          refine am_xn 3 (c1 := (131, [.ref 58, .null, .null, .int (zi x3), .int (zi x4), .int (zi x5), .int (zi 0), .null], [.int (zi x5), .ref 76, .int (zi (iv M 64 x5))], M)) rfl ?_
          refine am_xald rfl rfl rfl r23 ?_
          refine am_xn 0 (c1 := (132, [.ref 58, .null, .null, .int (zi x3), .int (zi x4), .int (zi x5), .int (zi 0), .null], [.int (zi (iv M 76 x5)), .int (zi (iv M 64 x5))], M)) rfl ?_
          refine am_xn 1 (c1 := (if zi (iv M 64 x5) < zi (iv M 76 x5) then 135 else 139, [.ref 58, .null, .null, .int (zi x3), .int (zi x4), .int (zi x5), .int (zi 0), .null], [], M)) rfl (am_xlt (iv_r _ _ _) (iv_r _ _ _) (fun h => ?_) (fun h => ?_))
          · replace hv := hv.1 h
            refine am_xiadd 9 x4 1 (pc := 202) (ls := [.ref 58, .null, .null, .int (zi x3), .int (zi x4), .int (zi x5), .int (zi 0), .int (zi 1)]) (st := []) rfl ?_
            refine am_xn 2 (c1 := (207, [.ref 58, .null, .null, .int (zi x3), .int (zi (x4 + 1)), .int (zi x5 + zi 1), .int (zi 0), .int (zi 1)], [], M)) rfl ?_
            rw [zi_add]
            refine am_xn 1 (c1 := (48, [.ref 58, .null, .null, .int (zi x3), .int (zi (x4 + 1)), .int (zi (x5 + 1)), .int (zi 0), .int (zi 1)], [], M)) rfl ?_
            refine am_xf 6 ?_
            refine am_xf 7 ?_
            exact hv
          · replace hv := hv.2 h
            refine am_xiadd 8 x4 0 (pc := 202) (ls := [.ref 58, .null, .null, .int (zi x3), .int (zi x4), .int (zi x5), .int (zi 0), .int (zi 0)]) (st := []) rfl ?_
            refine am_xn 2 (c1 := (207, [.ref 58, .null, .null, .int (zi x3), .int (zi (x4 + 0)), .int (zi x5 + zi 1), .int (zi 0), .int (zi 0)], [], M)) rfl ?_
            rw [zi_add]
            refine am_xn 1 (c1 := (48, [.ref 58, .null, .null, .int (zi x3), .int (zi (x4 + 0)), .int (zi (x5 + 1)), .int (zi 0), .int (zi 0)], [], M)) rfl ?_
            refine am_xf 6 ?_
            refine am_xf 7 ?_
            exact hv
        · replace hv := hv.2 h
          refine am_xiadd 9 x4 0 (pc := 202) (ls := [.ref 58, .null, .null, .int (zi x3), .int (zi x4), .int (zi x5), .int (zi 0), .int (zi 0)]) (st := []) rfl ?_
          refine am_xn 2 (c1 := (207, [.ref 58, .null, .null, .int (zi x3), .int (zi (x4 + 0)), .int (zi x5 + zi 1), .int (zi 0), .int (zi 0)], [], M)) rfl ?_
          rw [zi_add]
          refine am_xn 1 (c1 := (48, [.ref 58, .null, .null, .int (zi x3), .int (zi (x4 + 0)), .int (zi (x5 + 1)), .int (zi 0), .int (zi 0)], [], M)) rfl ?_
          refine am_xf 6 ?_
          refine am_xf 7 ?_
          exact hv
  · replace hv := hv.2 h
    refine am_xn 1 (c1 := (212, [.ref 58, .null, .null, .int (zi x3), .int (zi x4), .int (zi x5), .null, .null], [.int (zi x4)], M)) rfl ?_
    exact am_xr (some (.int (zi x4))) ⟨rfl, rfl, .int, rfl, rfl⟩ hv
set_option maxRecDepth 100000 in
theorem vc_m_effect (a : Int) (d : Int) (M : am_M) (Q : Option Value → am_M → Prop) (hv : (zr a ∧ 0 ≤ iv M 59 0) ∧ ((0 ≤ a ∧ a < iv M 59 0 → (zr d) ∧ ((0 ≤ d ∧ d ≤ 9999 → ∃ M1, am_call t_Mo_laws [.ref 58, .int (zi d), .int (zi (-1))] M none M1 ∧ (∃ M2, am_call t_Mo_setsAside [.ref 58] M1 none M2 ∧ ((0 ≤ a ∧ a < 20) ∧ ((0 ≤ a ∧ a < 20) ∧ (∀ M4, M4 = zup M2 63 a (1 - (iv M2 63 a)) → ∃ M6, am_call t_Mo_consolidates [.ref 58, .int (zi d), .int (zi (-1))] M4 none M6 ∧ (am_x t_Mo_effect (53, [.ref 58, .null, .null, .int (zi 0), .int (zi 0), .null], [], M6) Q)))))) ∧ (¬ (0 ≤ d ∧ d ≤ 9999) → Q (some (.int (zi (-2)))) M))) ∧ (¬ (0 ≤ a ∧ a < iv M 59 0) → Q (some (.int (zi (-2)))) M))) : am_x t_Mo_effect (0, am_ent (am_mL t_Mo_effect) [.ref 58, .int (zi a), .int (zi d)], [], M) Q := by
  refine am_xn 0 (c1 := (0, [.ref 58, .int (zi a), .int (zi d), .null, .null, .null], [], M)) rfl ?_
  refine am_xn 2 (c1 := (2, [.ref 58, .int (zi a), .int (zi d), .null, .null, .null], [.int (zi a), .ref 58], M)) rfl ?_
  obtain ⟨g, hv⟩ := hv
  by_cases c8 : 0 ≤ a ∧ a < iv M 59 0
  · replace hv := hv.1 c8
    refine am_xc t_Mo_isAmendment (.invokevirtual 239) 239 (av := [.ref 58, .int (zi a)]) (rest := []) (rv := some (.int (zi 1))) (M' := M) rfl rfl rfl rfl (Nat.le_of_ble_eq_true rfl) (fun _ => rfl) (by have q := sp_isAmendment M a g; rwa [if_pos c8] at q) ?_
    refine am_xn 0 (c1 := (5, [.ref 58, .int (zi a), .int (zi d), .null, .null, .null], [.int (zi 1)], M)) rfl ?_
    refine am_xn 2 (c1 := (9, [.ref 58, .int (zi a), .int (zi d), .null, .null, .null], [.int (zi d)], M)) rfl ?_
    obtain ⟨g, hv⟩ := hv
    by_cases c7 : 0 ≤ d ∧ d ≤ 9999
    · replace hv := hv.1 c7
      refine am_xc t_Mo_isDay (.invokestatic 80) 80 (av := [.int (zi d)]) (rest := []) (rv := some (.int (zi 1))) (M' := M) rfl rfl rfl rfl (Nat.le_of_ble_eq_true rfl) (fun h => nomatch h) (by have q := sp_isDay M d g; rwa [if_pos c7] at q) ?_
      refine am_xn 0 (c1 := (12, [.ref 58, .int (zi a), .int (zi d), .null, .null, .null], [.int (zi 1)], M)) rfl ?_
      refine am_xn 4 (c1 := (21, [.ref 58, .int (zi a), .int (zi d), .null, .null, .null], [.int (zi (-1)), .int (zi d), .ref 58], M)) rfl ?_
      obtain ⟨M1, hc, hv⟩ := hv
      refine am_xc t_Mo_laws (.invokevirtual 140) 140 (av := [.ref 58, .int (zi d), .int (zi (-1))]) (rest := []) (rv := none) (M' := M1) rfl rfl rfl rfl (Nat.le_of_ble_eq_true rfl) (fun _ => rfl) (hc) ?_
      refine am_xn 0 (c1 := (24, [.ref 58, .int (zi a), .int (zi d), .null, .null, .null], [], M1)) rfl ?_
      refine am_xn 1 (c1 := (25, [.ref 58, .int (zi a), .int (zi d), .null, .null, .null], [.ref 58], M1)) rfl ?_
      obtain ⟨M2, hc, hv⟩ := hv
      refine am_xc t_Mo_setsAside (.invokevirtual 290) 290 (av := [.ref 58]) (rest := []) (rv := none) (M' := M2) rfl rfl rfl rfl (Nat.le_of_ble_eq_true rfl) (fun _ => rfl) (hc) ?_
      refine am_xn 0 (c1 := (28, [.ref 58, .int (zi a), .int (zi d), .null, .null, .null], [], M2)) rfl ?_
      obtain ⟨r3, hv⟩ := hv
      refine am_xn 7 (c1 := (39, [.ref 58, .int (zi a), .int (zi d), .null, .null, .null], [.int (zi a), .ref 63, .int (zi 1), .int (zi a), .ref 63], M2)) rfl ?_
      refine am_xald rfl rfl rfl r3 ?_
      refine am_xn 0 (c1 := (40, [.ref 58, .int (zi a), .int (zi d), .null, .null, .null], [.int (zi (iv M2 63 a)), .int (zi 1), .int (zi a), .ref 63], M2)) rfl ?_
      refine am_xisub 1 1 (iv M2 63 a) (pc := 41) (ls := [.ref 58, .int (zi a), .int (zi d), .null, .null, .null]) (st := [.int (zi a), .ref 63]) rfl ?_
      obtain ⟨r5, hv⟩ := hv
      refine am_xast rfl rfl rfl r5 ?_
      refine am_xn 0 (c1 := (42, [.ref 58, .int (zi a), .int (zi d), .null, .null, .null], [], zup M2 63 a (1 - (iv M2 63 a)))) rfl ?_
      obtain ⟨M4, eM4⟩ : ∃ m, m = zup M2 63 a (1 - (iv M2 63 a)) := ⟨_, rfl⟩
      replace hv := hv M4 eM4
      rw [← eM4]
      refine am_xn 3 (c1 := (45, [.ref 58, .int (zi a), .int (zi d), .null, .null, .null], [.int (zi (-1)), .int (zi d), .ref 58], M4)) rfl ?_
      obtain ⟨M6, hc, hv⟩ := hv
      refine am_xc t_Mo_consolidates (.invokevirtual 137) 137 (av := [.ref 58, .int (zi d), .int (zi (-1))]) (rest := []) (rv := none) (M' := M6) rfl rfl rfl rfl (Nat.le_of_ble_eq_true rfl) (fun _ => rfl) (hc) ?_
      refine am_xn 0 (c1 := (48, [.ref 58, .int (zi a), .int (zi d), .null, .null, .null], [], M6)) rfl ?_
      refine am_xn 4 (c1 := (53, [.ref 58, .int (zi a), .int (zi d), .int (zi 0), .int (zi 0), .null], [], M6)) rfl ?_
      refine am_xf 1 ?_
      refine am_xf 2 ?_
      exact hv
    · replace hv := hv.2 c7
      refine am_xc t_Mo_isDay (.invokestatic 80) 80 (av := [.int (zi d)]) (rest := []) (rv := some (.int (zi 0))) (M' := M) rfl rfl rfl rfl (Nat.le_of_ble_eq_true rfl) (fun h => nomatch h) (by have q := sp_isDay M d g; rwa [if_neg c7] at q) ?_
      refine am_xn 0 (c1 := (12, [.ref 58, .int (zi a), .int (zi d), .null, .null, .null], [.int (zi 0)], M)) rfl ?_
      refine am_xn 2 (c1 := (17, [.ref 58, .int (zi a), .int (zi d), .null, .null, .null], [.int (zi (-2))], M)) rfl ?_
      exact am_xr (some (.int (zi (-2)))) ⟨rfl, rfl, .int, rfl, rfl⟩ hv
  · replace hv := hv.2 c8
    refine am_xc t_Mo_isAmendment (.invokevirtual 239) 239 (av := [.ref 58, .int (zi a)]) (rest := []) (rv := some (.int (zi 0))) (M' := M) rfl rfl rfl rfl (Nat.le_of_ble_eq_true rfl) (fun _ => rfl) (by have q := sp_isAmendment M a g; rwa [if_neg c8] at q) ?_
    refine am_xn 0 (c1 := (5, [.ref 58, .int (zi a), .int (zi d), .null, .null, .null], [.int (zi 0)], M)) rfl ?_
    refine am_xn 2 (c1 := (17, [.ref 58, .int (zi a), .int (zi d), .null, .null, .null], [.int (zi (-2))], M)) rfl ?_
    exact am_xr (some (.int (zi (-2)))) ⟨rfl, rfl, .int, rfl, rfl⟩ hv
set_option maxRecDepth 100000 in
theorem vc_m_effect_53 (x3 : Int) (x4 : Int) (M : am_M) (Q : Option Value → am_M → Prop) (hv : (zr x4) ∧ ((x4 < 40 → (0 ≤ x4 ∧ x4 < 40) ∧ ((0 ≤ x4 ∧ x4 < 40) ∧ (((iv M 64 x4) = (iv M 76 x4) → (0 ≤ x4 ∧ x4 < 40) ∧ (((iv M 64 x4) = 0 → am_x t_Mo_effect (53, [.ref 58, .null, .null, .int (zi (x3 + 0)), .int (zi (x4 + 1)), .null], [], M) Q) ∧ (¬ (iv M 64 x4) = 0 → (0 ≤ x4 ∧ x4 < 40) ∧ ((0 ≤ x4 ∧ x4 < 40) ∧ (((iv M 65 x4) = (iv M 77 x4) → ∃ (r8 : Int) (M7 : am_M), am_call t_Mo_isSameText [.ref 58, .int (zi x4)] M (some (.int (zi r8))) M7 ∧ ((zr r8) ∧ ((r8 = 0 → am_x t_Mo_effect (53, [.ref 58, .null, .null, .int (zi (x3 + 1)), .int (zi (x4 + 1)), .null], [], M7) Q) ∧ (¬ r8 = 0 → am_x t_Mo_effect (53, [.ref 58, .null, .null, .int (zi (x3 + 0)), .int (zi (x4 + 1)), .null], [], M7) Q)))) ∧ (¬ (iv M 65 x4) = (iv M 77 x4) → am_x t_Mo_effect (53, [.ref 58, .null, .null, .int (zi (x3 + 1)), .int (zi (x4 + 1)), .null], [], M) Q)))))) ∧ (¬ (iv M 64 x4) = (iv M 76 x4) → am_x t_Mo_effect (53, [.ref 58, .null, .null, .int (zi (x3 + 1)), .int (zi (x4 + 1)), .null], [], M) Q)))) ∧ (40 ≤ x4 → Q (some (.int (zi x3))) M))) : am_x t_Mo_effect (53, [.ref 58, .null, .null, .int (zi x3), .int (zi x4), .null], [], M) Q := by
  obtain ⟨r1, hv⟩ := hv
  refine am_xn 3 (c1 := (if zi x4 < zi 40 then 60 else 139, [.ref 58, .null, .null, .int (zi x3), .int (zi x4), .null], [], M)) rfl (am_xlt r1 (by decide) (fun h => ?_) (fun h => ?_))
  · replace hv := hv.1 h
    obtain ⟨r2, hv⟩ := hv
    refine am_xn 3 (c1 := (66, [.ref 58, .null, .null, .int (zi x3), .int (zi x4), .null], [.int (zi x4), .ref 64], M)) rfl ?_
    refine am_xald rfl rfl rfl r2 ?_
    refine am_xn 0 (c1 := (67, [.ref 58, .null, .null, .int (zi x3), .int (zi x4), .null], [.int (zi (iv M 64 x4))], M)) rfl ?_
    obtain ⟨r3, hv⟩ := hv
    refine am_xn 3 (c1 := (73, [.ref 58, .null, .null, .int (zi x3), .int (zi x4), .null], [.int (zi x4), .ref 76, .int (zi (iv M 64 x4))], M)) rfl ?_
    refine am_xald rfl rfl rfl r3 ?_
    refine am_xn 0 (c1 := (74, [.ref 58, .null, .null, .int (zi x3), .int (zi x4), .null], [.int (zi (iv M 76 x4)), .int (zi (iv M 64 x4))], M)) rfl ?_
    refine am_xn 1 (c1 := (if zi (iv M 64 x4) = zi (iv M 76 x4) then 77 else 117, [.ref 58, .null, .null, .int (zi x3), .int (zi x4), .null], [], M)) rfl (am_xeq (iv_r _ _ _) (iv_r _ _ _) (fun h => ?_) (fun h => ?_))
    · replace hv := hv.1 h
      obtain ⟨r4, hv⟩ := hv
      refine am_xn 3 (c1 := (83, [.ref 58, .null, .null, .int (zi x3), .int (zi x4), .null], [.int (zi x4), .ref 64], M)) rfl ?_
      refine am_xald rfl rfl rfl r4 ?_
      refine am_xn 0 (c1 := (84, [.ref 58, .null, .null, .int (zi x3), .int (zi x4), .null], [.int (zi (iv M 64 x4))], M)) rfl ?_
      refine am_xn 1 (c1 := (if zi (iv M 64 x4) = zi 0 then 113 else 87, [.ref 58, .null, .null, .int (zi x3), .int (zi x4), .null], [], M)) rfl (am_xeq (iv_r _ _ _) (by decide) (fun h => ?_) (fun h => ?_))
      · replace hv := hv.1 h
        refine am_xiadd 9 x3 0 (pc := 132) (ls := [.ref 58, .null, .null, .int (zi x3), .int (zi x4), .int (zi 1)]) (st := []) rfl ?_
        refine am_xn 2 (c1 := (136, [.ref 58, .null, .null, .int (zi (x3 + 0)), .int (zi x4 + zi 1), .int (zi 1)], [], M)) rfl ?_
        rw [zi_add]
        refine am_xn 1 (c1 := (53, [.ref 58, .null, .null, .int (zi (x3 + 0)), .int (zi (x4 + 1)), .int (zi 1)], [], M)) rfl ?_
        refine am_xf 5 ?_
        exact hv
      · replace hv := hv.2 h
        obtain ⟨r5, hv⟩ := hv
        refine am_xn 3 (c1 := (93, [.ref 58, .null, .null, .int (zi x3), .int (zi x4), .null], [.int (zi x4), .ref 65], M)) rfl ?_
        refine am_xald rfl rfl rfl r5 ?_
        refine am_xn 0 (c1 := (94, [.ref 58, .null, .null, .int (zi x3), .int (zi x4), .null], [.int (zi (iv M 65 x4))], M)) rfl ?_
        obtain ⟨r6, hv⟩ := hv
        refine am_xn 3 (c1 := (100, [.ref 58, .null, .null, .int (zi x3), .int (zi x4), .null], [.int (zi x4), .ref 77, .int (zi (iv M 65 x4))], M)) rfl ?_
        refine am_xald rfl rfl rfl r6 ?_
        refine am_xn 0 (c1 := (101, [.ref 58, .null, .null, .int (zi x3), .int (zi x4), .null], [.int (zi (iv M 77 x4)), .int (zi (iv M 65 x4))], M)) rfl ?_
        refine am_xn 1 (c1 := (if zi (iv M 65 x4) = zi (iv M 77 x4) then 104 else 117, [.ref 58, .null, .null, .int (zi x3), .int (zi x4), .null], [], M)) rfl (am_xeq (iv_r _ _ _) (iv_r _ _ _) (fun h => ?_) (fun h => ?_))
        · replace hv := hv.1 h
          refine am_xn 2 (c1 := (107, [.ref 58, .null, .null, .int (zi x3), .int (zi x4), .null], [.int (zi x4), .ref 58], M)) rfl ?_
          obtain ⟨r8, M7, hc, hv⟩ := hv
          refine am_xc t_Mo_isSameText (.invokevirtual 293) 293 (av := [.ref 58, .int (zi x4)]) (rest := []) (rv := some (.int (zi r8))) (M' := M7) rfl rfl rfl rfl (Nat.le_of_ble_eq_true rfl) (fun _ => rfl) (hc) ?_
          refine am_xn 0 (c1 := (110, [.ref 58, .null, .null, .int (zi x3), .int (zi x4), .null], [.int (zi r8)], M7)) rfl ?_
          obtain ⟨r9, hv⟩ := hv
          refine am_xn 1 (c1 := (if zi r8 = zi 0 then 117 else 113, [.ref 58, .null, .null, .int (zi x3), .int (zi x4), .null], [], M7)) rfl (am_xeq r9 (by decide) (fun h => ?_) (fun h => ?_))
          · replace hv := hv.1 h
            refine am_xiadd 7 x3 1 (pc := 132) (ls := [.ref 58, .null, .null, .int (zi x3), .int (zi x4), .int (zi 0)]) (st := []) rfl ?_
            refine am_xn 2 (c1 := (136, [.ref 58, .null, .null, .int (zi (x3 + 1)), .int (zi x4 + zi 1), .int (zi 0)], [], M7)) rfl ?_
            rw [zi_add]
            refine am_xn 1 (c1 := (53, [.ref 58, .null, .null, .int (zi (x3 + 1)), .int (zi (x4 + 1)), .int (zi 0)], [], M7)) rfl ?_
            refine am_xf 5 ?_
            exact hv
          · replace hv := hv.2 h
            refine am_xiadd 9 x3 0 (pc := 132) (ls := [.ref 58, .null, .null, .int (zi x3), .int (zi x4), .int (zi 1)]) (st := []) rfl ?_
            refine am_xn 2 (c1 := (136, [.ref 58, .null, .null, .int (zi (x3 + 0)), .int (zi x4 + zi 1), .int (zi 1)], [], M7)) rfl ?_
            rw [zi_add]
            refine am_xn 1 (c1 := (53, [.ref 58, .null, .null, .int (zi (x3 + 0)), .int (zi (x4 + 1)), .int (zi 1)], [], M7)) rfl ?_
            refine am_xf 5 ?_
            exact hv
        · replace hv := hv.2 h
          refine am_xiadd 7 x3 1 (pc := 132) (ls := [.ref 58, .null, .null, .int (zi x3), .int (zi x4), .int (zi 0)]) (st := []) rfl ?_
          refine am_xn 2 (c1 := (136, [.ref 58, .null, .null, .int (zi (x3 + 1)), .int (zi x4 + zi 1), .int (zi 0)], [], M)) rfl ?_
          rw [zi_add]
          refine am_xn 1 (c1 := (53, [.ref 58, .null, .null, .int (zi (x3 + 1)), .int (zi (x4 + 1)), .int (zi 0)], [], M)) rfl ?_
          refine am_xf 5 ?_
          exact hv
    · replace hv := hv.2 h
      refine am_xiadd 7 x3 1 (pc := 132) (ls := [.ref 58, .null, .null, .int (zi x3), .int (zi x4), .int (zi 0)]) (st := []) rfl ?_
      refine am_xn 2 (c1 := (136, [.ref 58, .null, .null, .int (zi (x3 + 1)), .int (zi x4 + zi 1), .int (zi 0)], [], M)) rfl ?_
      rw [zi_add]
      refine am_xn 1 (c1 := (53, [.ref 58, .null, .null, .int (zi (x3 + 1)), .int (zi (x4 + 1)), .int (zi 0)], [], M)) rfl ?_
      refine am_xf 5 ?_
      exact hv
  · replace hv := hv.2 h
    refine am_xn 1 (c1 := (140, [.ref 58, .null, .null, .int (zi x3), .int (zi x4), .null], [.int (zi x3)], M)) rfl ?_
    exact am_xr (some (.int (zi x3))) ⟨rfl, rfl, .int, rfl, rfl⟩ hv
theorem sp_saysTheSame {L K : Lw} {M : am_M} (v : VL L) (vk : VL K) (r : CLR15 L M) (rk : CLR34 K M) {c : Int} (c0 : 0 ≤ c) (c1 : c < 40) (n : ¬ L.code c = 0) (nk : ¬ K.code c = 0) : am_call t_Law_saysTheSame [.ref 15, .ref 34, .int (zi c)] M (some (.int (zi (bz (smt L K c))))) M := by
  obtain ⟨e1, _, e3⟩ := r.2.1 c c0 c1 n
  obtain ⟨f1, _, f3⟩ := rk.2.1 c c0 c1 nk
  have ln := v.ln c c0 c1 n
  have no : ¬ smt L K c → (some (Value.int (zi 0)) = some (.int (zi (bz (smt L K c)))) ∧ M = M) := fun q => ⟨by rw [bz_f q], rfl⟩
  refine am_call_of ⟨Nat.le_of_ble_eq_true rfl, rfl⟩ (vc_saysTheSame c M _ ⟨⟨c0, c1⟩, ⟨c0, c1⟩, ?_⟩)
  rw [e1, f1]
  refine ⟨fun q => ?_, fun q => no (fun z => q z.1)⟩
  refine loop_up (fun i (s : Int) => (17, [.ref 15, .ref 34, .int (zi c), .int (zi i)], [], M)) (L.len c) (fun i s => ∀ k, 0 ≤ k → k < i → L.tx c k = K.tx c k) ?_ ?_ 0 0 (by omega) ln.1 (fun k k0 k1 => by omega)
  · intro s hs
    refine vc_saysTheSame_17 _ _ M _ ⟨⟨c0, c1⟩, ⟨by omega, by omega⟩, fun z => by omega, fun _ => ⟨?_, rfl⟩⟩
    rw [bz_t ⟨q, hs⟩]
  · intro i s i0 i1 hs k
    refine vc_saysTheSame_17 _ _ M _ ⟨⟨c0, c1⟩, ⟨by omega, by omega⟩, fun z => ⟨⟨c0, c1, i0, by omega⟩, ⟨c0, c1, i0, by omega⟩, ?_⟩, fun z => by omega⟩
    rw [e3 i i0 i1, f3 i i0 (by omega)]
    refine ⟨fun y => k s (fun j j0 j1 => ?_), fun y => no (fun z => y (z.2 i i0 i1))⟩
    by_cases u : j = i
    · rw [u]; exact y
    · exact hs j j0 (by omega)
theorem sp_differs {L K : Lw} {M : am_M} (v : VL L) (vk : VL K) (r : CLR15 L M) (rk : CLR34 K M) {c x : Int} (c0 : 0 ≤ c) (c1 : c < 40) (xz : zr x) : am_call t_SB_differs [.ref 0, .int (zi c), .int (zi x)] M (some (.int (zi (bz (dif L K c x))))) M := by
  have yes : dif L K c x → (some (Value.int (zi 1)) = some (.int (zi (bz (dif L K c x)))) ∧ M = M) := fun q => ⟨by rw [bz_t q], rfl⟩
  have no : ¬ dif L K c x → (some (Value.int (zi 0)) = some (.int (zi (bz (dif L K c x)))) ∧ M = M) := fun q => ⟨by rw [bz_f q], rfl⟩
  have d0 : x = 0 → (dif L K c x ↔ (L.code c = 0 ∧ ¬ K.code c = 0)) := fun h => by unfold dif; rw [if_pos h]
  have d1 : x = 1 → (dif L K c x ↔ (¬ L.code c = 0 ∧ K.code c = 0)) := fun h => by unfold dif; rw [if_neg (by omega), if_pos h]
  have d2 : x = 2 → (dif L K c x ↔ ((¬ L.code c = 0 ∧ ¬ K.code c = 0) ∧ ¬ L.code c = K.code c)) := fun h => by unfold dif; rw [if_neg (by omega), if_neg (by omega), if_pos h]
  have d3 : ¬ x = 0 → ¬ x = 1 → ¬ x = 2 → (dif L K c x ↔ ((¬ L.code c = 0 ∧ ¬ K.code c = 0) ∧ ¬ smt L K c)) := fun h h' h'' => by unfold dif; rw [if_neg h, if_neg h', if_neg h'']
  refine am_call_of ⟨Nat.le_of_ble_eq_true rfl, rfl⟩ (vc_differs c x M _ ⟨⟨c0, c1⟩, ⟨c0, c1⟩, ?_⟩)
  rw [r.1 c c0 c1, rk.1 c c0 c1]
  refine ⟨fun n => ⟨xz, fun h => ⟨fun q => no (fun z => ((d0 h).mp z).2 q), fun q => yes ((d0 h).mpr ⟨n, q⟩)⟩, fun h => no (fun z => ((d1 h).mp z).1 n), fun h => no (fun z => ((d2 h).mp z).1.1 n), fun h h' h'' => no (fun z => ((d3 h h' h'').mp z).1.1 n)⟩, fun n => ⟨fun q => ⟨xz, fun h => no (fun z => ((d0 h).mp z).2 q), fun h => yes ((d1 h).mpr ⟨n, q⟩), fun h => no (fun z => ((d2 h).mp z).1.2 q), fun h h' h'' => no (fun z => ((d3 h h' h'').mp z).1.2 q)⟩, fun q => ⟨xz, fun h => no (fun z => n ((d0 h).mp z).1), fun h => no (fun z => q ((d1 h).mp z).2), fun h => ⟨fun y => no (fun z => ((d2 h).mp z).2 y), fun y => yes ((d2 h).mpr ⟨⟨n, q⟩, y⟩)⟩, fun h h' h'' => ⟨_, M, sp_saysTheSame v vk r rk c0 c1 n q, ?_, fun y => yes ((d3 h h' h'').mpr ⟨⟨n, q⟩, fun u => by rw [bz_t u] at y; omega⟩), fun y => no (fun z => y (bz_f ((d3 h h' h'').mp z).2))⟩⟩⟩⟩
  rcases bz_01 (smt L K c) with u | u <;> (rw [u]; decide)
/-- the reference's other law -/
def MTR (L : Lw) (M : am_M) : Prop := (∀ c, 0 ≤ c → c < 40 → iv M 76 c = if L.code c = 0 then 0 else 1) ∧ (∀ c, 0 ≤ c → c < 40 → ¬ L.code c = 0 → iv M 77 c = L.code c ∧ iv M 78 c = L.len c ∧ ∀ k, 0 ≤ k → k < L.len c → iv M 79 (6 * c + k) = L.tx c k)
theorem sp_setsAside {L : Lw} {M : am_M} (v : VL L) (r : MLR L M) : ∃ M', am_call t_Mo_setsAside [.ref 58] M none M' ∧ (∀ a, ¬ (76 ≤ a ∧ a ≤ 79) → M' a = M a) ∧ MTR L M' := by
  suffices h : am_x t_Mo_setsAside (0, am_ent (am_mL t_Mo_setsAside) [.ref 58], [], M) (fun rv M' => rv = none ∧ (∀ a, ¬ (76 ≤ a ∧ a ≤ 79) → M' a = M a) ∧ MTR L M') by
    obtain ⟨rv, M', h1, h2, h3⟩ := am_call_ex (by exact ⟨Nat.le_of_ble_eq_true rfl, rfl⟩) h
    subst h2
    exact ⟨M', h1, h3⟩
  refine vc_setsAside M _ ?_
  refine loop_up (fun i (s : am_M) => (2, [.ref 58, .int (zi i)], [], s)) 40 (fun i s => (∀ a, ¬ (76 ≤ a ∧ a ≤ 79) → s a = M a) ∧ ∀ c, 0 ≤ c → c < i → iv s 76 c = iv M 64 c ∧ iv s 77 c = iv M 65 c ∧ iv s 78 c = iv M 66 c) ?_ ?_ 0 M (by omega) (by omega) ⟨fun _ _ => rfl, fun c c0 c1 => by omega⟩
  · intro s ⟨s1, s2⟩
    refine vc_setsAside_2 _ s _ ⟨by decide, fun h => by omega, fun _ => ?_⟩
    refine loop_up (fun i (s : am_M) => (52, [.ref 58, .int (zi i)], [], s)) 240 (fun i s => (∀ a, ¬ (76 ≤ a ∧ a ≤ 79) → s a = M a) ∧ (∀ c, 0 ≤ c → c < 40 → iv s 76 c = iv M 64 c ∧ iv s 77 c = iv M 65 c ∧ iv s 78 c = iv M 66 c) ∧ ∀ k, 0 ≤ k → k < i → iv s 79 k = iv M 67 k) ?_ ?_ 0 s (by omega) (by omega) ⟨s1, s2, fun c c0 c1 => by omega⟩
    · intro s ⟨s1, s2, s3⟩
      refine vc_setsAside_52 _ s _ ⟨by decide, fun h => by omega, fun _ => ⟨rfl, s1, fun c c0 c1 => ?_, fun c c0 c1 n => ?_⟩⟩
      · rw [(s2 c c0 c1).1, r.1 c c0 c1]
      · obtain ⟨a1, a2, a3, a4⟩ := r.2.1 c c0 c1 n
        have ln := v.ln c c0 c1 n
        rw [(s2 c c0 c1).2.1, (s2 c c0 c1).2.2]
        exact ⟨a1, a2, fun k k0 k1 => by rw [s3 _ (by omega) (by omega), a4 k k0 k1]⟩
    · intro i s i0 i1 ⟨s1, s2, s3⟩ k
      refine vc_setsAside_52 _ s _ ⟨⟨by omega, by omega⟩, fun h => ⟨⟨i0, i1⟩, ⟨i0, i1⟩, fun M3 e3 => k M3 ⟨fun a ha => by rw [e3, zupr _ (by omega), s1 a ha], fun c c0 c1 => ?_, fun j j0 j1 => ?_⟩⟩, fun h => by omega⟩
      · rw [e3, ivr _ (by decide), ivr _ (by decide), ivr _ (by decide)]; exact s2 c c0 c1
      · rw [e3, ivs _ _ i0 j0 (iv_r _ _ _), iv_row (s1 67 (by decide))]
        by_cases q : j = i
        · rw [if_pos q, q]
        · rw [if_neg q]; exact s3 j j0 (by omega)
  · intro i s i0 i1 ⟨s1, s2⟩ k
    refine vc_setsAside_2 _ s _ ⟨⟨by omega, by omega⟩, fun h => ⟨⟨i0, i1⟩, ⟨i0, i1⟩, fun M3 e3 => ⟨⟨i0, i1⟩, ⟨i0, i1⟩, fun M6 e6 => ⟨⟨i0, i1⟩, ⟨i0, i1⟩, fun M9 e9 => k M9 ⟨fun a ha => by rw [e9, zupr _ (by omega), e6, zupr _ (by omega), e3, zupr _ (by omega), s1 a ha], fun c c0 c1 => ?_⟩⟩⟩⟩, fun h => by omega⟩
    have a3 : iv M3 65 = iv M 65 := by rw [e3, ivr _ (by decide), iv_row (s1 65 (by decide))]
    have a6 : iv M6 66 = iv M 66 := by rw [e6, ivr _ (by decide), e3, ivr _ (by decide), iv_row (s1 66 (by decide))]
    have b1 : iv M9 76 c = if c = i then iv M 64 i else iv s 76 c := by rw [e9, ivr _ (by decide), e6, ivr _ (by decide), e3, ivs _ _ i0 c0 (iv_r _ _ _), iv_row (s1 64 (by decide))]
    have b2 : iv M9 77 c = if c = i then iv M 65 i else iv s 77 c := by rw [e9, ivr _ (by decide), e6, a3, ivs _ _ i0 c0 (iv_r _ _ _), e3, ivr _ (by decide)]
    have b3 : iv M9 78 c = if c = i then iv M 66 i else iv s 78 c := by rw [e9, a6, ivs _ _ i0 c0 (iv_r _ _ _), e6, ivr _ (by decide), e3, ivr _ (by decide)]
    rw [b1, b2, b3]
    by_cases q : c = i
    · rw [if_pos q, if_pos q, if_pos q, q]; exact ⟨rfl, rfl, rfl⟩
    · rw [if_neg q, if_neg q, if_neg q]; exact s2 c c0 (by omega)
theorem mtr_rows {L : Lw} {M M' : am_M} (r : MTR L M) (h : ∀ a, (76 ≤ a ∧ a ≤ 79) → M' a = M a) : MTR L M' := by
  unfold MTR at r ⊢
  rw [iv_row (h 76 (by decide)), iv_row (h 77 (by decide)), iv_row (h 78 (by decide)), iv_row (h 79 (by decide))]
  exact r
theorem sp_isSameText {L K : Lw} {M : am_M} (v : VL L) (vk : VL K) (r : MTR L M) (rk : MLR K M) {c : Int} (c0 : 0 ≤ c) (c1 : c < 40) (n : ¬ L.code c = 0) (nk : ¬ K.code c = 0) : am_call t_Mo_isSameText [.ref 58, .int (zi c)] M (some (.int (zi (bz (smt L K c))))) M := by
  obtain ⟨_, e1, e3⟩ := r.2 c c0 c1 n
  obtain ⟨_, f1, _, f3⟩ := rk.2.1 c c0 c1 nk
  have ln := v.ln c c0 c1 n
  have lk := vk.ln c c0 c1 nk
  refine am_call_of ⟨Nat.le_of_ble_eq_true rfl, rfl⟩ (vc_isSameText c M _ ⟨⟨c0, c1⟩, ⟨c0, c1⟩, ?_⟩)
  have bad : ∀ i, 0 ≤ i → i ≤ 100 → ¬ smt L K c → am_x t_Mo_isSameText (23, [.ref 58, .int (zi c), .int (zi 0), .int (zi i)], [], M) (fun r m => r = some (.int (zi (bz (smt L K c)))) ∧ m = M) := by
    intro i i0 i1 q
    have z : some (Value.int (zi 0)) = some (.int (zi (bz (smt L K c)))) := by rw [bz_f q]
    exact vc_isSameText_23 _ _ _ M _ ⟨⟨c0, c1⟩, ⟨by omega, by omega⟩, fun _ => ⟨by decide, fun _ => ⟨Or.inl rfl, z, rfl⟩, fun y => absurd rfl y⟩, fun _ => ⟨Or.inl rfl, z, rfl⟩⟩
  rw [e1, f1]
  refine ⟨fun q => ?_, fun q => bad 0 (by omega) (by omega) (fun z => q z.1.symm)⟩
  refine loop_up (fun i (s : Int) => (23, [.ref 58, .int (zi c), .int (zi 1), .int (zi i)], [], M)) (L.len c) (fun i s => ∀ k, 0 ≤ k → k < i → L.tx c k = K.tx c k) ?_ ?_ 0 0 (by omega) ln.1 (fun k k0 k1 => by omega)
  · intro s hs
    refine vc_isSameText_23 _ _ _ M _ ⟨⟨c0, c1⟩, ⟨by omega, by omega⟩, fun z => by omega, fun _ => ⟨Or.inr rfl, ?_, rfl⟩⟩
    rw [bz_t ⟨q.symm, hs⟩]
  · intro i s i0 i1 hs k
    refine vc_isSameText_23 _ _ _ M _ ⟨⟨c0, c1⟩, ⟨by omega, by omega⟩, fun z => ⟨by decide, fun y => by omega, fun _ => ⟨⟨by omega, by omega⟩, ⟨by omega, by omega⟩, ?_⟩⟩, fun z => by omega⟩
    rw [e3 i i0 i1, f3 i i0 (by omega)]
    refine ⟨fun y => k s (fun j j0 j1 => ?_), fun y => bad (i + 1) (by omega) (by omega) (fun z => y (z.2 i i0 i1).symm)⟩
    by_cases u : j = i
    · rw [u]; exact y.symm
    · exact hs j j0 (by omega)
