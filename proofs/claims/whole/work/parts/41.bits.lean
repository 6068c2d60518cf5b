/-! how many bits: Integer.bitCount -/
theorem nx_and (a b : Nat) : nI a &&& nI b = nI (a &&& b) := by
  apply Int32.toBitVec_inj.1
  show BitVec.ofNat 32 a &&& BitVec.ofNat 32 b = BitVec.ofNat 32 (a &&& b)
  apply BitVec.eq_of_getLsbD_eq
  intro i hi
  simp [hi]
theorem and_split (x u m w : Nat) (hx : x < 256) (hm : m < 256) : (x + 256 * u) &&& (m + 256 * w) = (x &&& m) + 256 * (u &&& w) := by
  have ha : x &&& m < 256 := Nat.lt_of_le_of_lt Nat.and_le_left hx
  apply Nat.eq_of_testBit_eq
  intro i
  have e1 : x + 256 * u = 2 ^ 8 * u + x := by omega
  have e2 : m + 256 * w = 2 ^ 8 * w + m := by omega
  have e3 : (x &&& m) + 256 * (u &&& w) = 2 ^ 8 * (u &&& w) + (x &&& m) := by omega
  rw [Nat.testBit_and, e1, e2, e3, Nat.testBit_two_pow_mul_add _ hx, Nat.testBit_two_pow_mul_add _ hm, Nat.testBit_two_pow_mul_add _ ha]
  by_cases h : i < 8
  · rw [if_pos h, if_pos h, if_pos h, Nat.testBit_and]
  · rw [if_neg h, if_neg h, if_neg h, Nat.testBit_and]
def bg1 (x : Nat) : Nat := x - (x / 2 &&& 85)
def bg2 (x : Nat) : Nat := (x &&& 51) + (x / 4 &&& 51)
def bgG (x : Nat) : Nat := bg2 (bg1 x)
def bgF (x : Nat) : Nat := (bgG x + bgG x / 16) &&& 15
theorem bg_a : ∀ x, x < 128 → ∀ t, t < 2 → (x + 128 * t) &&& 85 = x &&& 85 := by decide +kernel
theorem bg_b : ∀ x, x < 64 → ∀ t, t < 4 → (x + 64 * t) &&& 51 = x &&& 51 := by decide +kernel
theorem bg_c : ∀ x, x < 256 → bg1 x < 256 ∧ bgG x ≤ 68 ∧ bgG x % 16 ≤ 4 := by decide +kernel
theorem bg_d : ∀ p, p < 69 → ∀ t, t < 5 → (p + p / 16 + 16 * t) &&& 15 = (p + p / 16) &&& 15 := by decide +kernel
theorem bg_e : ∀ x, x < 256 → bgF x = x / 2 ^ 0 % 2 + x / 2 ^ 1 % 2 + x / 2 ^ 2 % 2 + x / 2 ^ 3 % 2 + x / 2 ^ 4 % 2 + x / 2 ^ 5 % 2 + x / 2 ^ 6 % 2 + x / 2 ^ 7 % 2 := by decide +kernel
theorem bg_e4 : ∀ x, x < 16 → bgF x = x / 2 ^ 0 % 2 + x / 2 ^ 1 % 2 + x / 2 ^ 2 % 2 + x / 2 ^ 3 % 2 := by decide +kernel
theorem bg_f : ∀ x, x < 256 → bgF x ≤ 8 := by decide +kernel
theorem bg_lo (x y z a : Nat) (ha : a < 8) : (x + 256 * (y + 256 * z)) / 2 ^ a % 2 = x / 2 ^ a % 2 := by
  have : a = 0 ∨ a = 1 ∨ a = 2 ∨ a = 3 ∨ a = 4 ∨ a = 5 ∨ a = 6 ∨ a = 7 := by omega
  rcases this with e | e | e | e | e | e | e | e <;> (subst e; omega)
theorem bg_mi {x : Nat} (hx : x < 256) (y z a : Nat) (ha : a < 8) : (x + 256 * (y + 256 * z)) / 2 ^ (8 + a) % 2 = y / 2 ^ a % 2 := by
  have e : (x + 256 * (y + 256 * z)) / 2 ^ (8 + a) = (y + 256 * z) / 2 ^ a := by
    rw [Nat.pow_add, ← Nat.div_div_eq_div_mul]
    congr 1
    omega
  rw [e]
  have := bg_lo y z 0 a ha
  rw [Nat.mul_zero, Nat.add_zero] at this
  exact this
theorem bg_hi {x y : Nat} (hx : x < 256) (hy : y < 256) (z a : Nat) : (x + 256 * (y + 256 * z)) / 2 ^ (16 + a) % 2 = z / 2 ^ a % 2 := by
  have e : (x + 256 * (y + 256 * z)) / 2 ^ (16 + a) = z / 2 ^ a := by
    rw [Nat.pow_add, ← Nat.div_div_eq_div_mul]
    congr 1
    omega
  rw [e]
theorem bg_end {p q r : Nat} (hp : p ≤ 8) (hq : q ≤ 8) (hr : r ≤ 8) : ((p + 256 * (q + 256 * r)) + (p + 256 * (q + 256 * r)) / 256 + ((p + 256 * (q + 256 * r)) + (p + 256 * (q + 256 * r)) / 256) / 65536) % 64 = p + q + r := by
  have e : (p + 256 * (q + 256 * r)) / 256 = q + 256 * r := by omega
  rw [e]
  have f : (p + 256 * (q + 256 * r) + (q + 256 * r)) / 65536 = r := by omega
  rw [f]
  omega
theorem bg_key (X Y Z : Nat → Nat) : (0 : Int) + (X 0 : Nat) + (X 1 : Nat) + (X 2 : Nat) + (X 3 : Nat) + (X 4 : Nat) + (X 5 : Nat) + (X 6 : Nat) + (X 7 : Nat) + (Y 0 : Nat) + (Y 1 : Nat) + (Y 2 : Nat) + (Y 3 : Nat) + (Y 4 : Nat) + (Y 5 : Nat) + (Y 6 : Nat) + (Y 7 : Nat) + (Z 0 : Nat) + (Z 1 : Nat) + (Z 2 : Nat) + (Z 3 : Nat) = (((X 0 + X 1 + X 2 + X 3 + X 4 + X 5 + X 6 + X 7) + (Y 0 + Y 1 + Y 2 + Y 3 + Y 4 + Y 5 + Y 6 + Y 7) + (Z 0 + Z 1 + Z 2 + Z 3) : Nat) : Int) := by omega
theorem zi_nat (m : Nat) : nI m = zi ((m : Nat) : Int) := (zi_nI (Int.natCast_nonneg m)).symm
theorem nat_ia (p q : Nat) : (p : Int) + (q : Int) = ((p + q : Nat) : Int) := rfl
theorem bg_1 {x y z : Nat} (hx : x < 256) (hy : y < 256) (hz : z < 16) : (x + 256 * (y + 256 * z)) - ((x + 256 * (y + 256 * z)) / 2 &&& 1431655765) = bg1 x + 256 * (bg1 y + 256 * bg1 z) := by
  have e : (x + 256 * (y + 256 * z)) / 2 = (x / 2 + 128 * ((y + 256 * z) % 2)) + 256 * ((y / 2 + 128 * (z % 2)) + 256 * (z / 2)) := by omega
  have m : 1431655765 = 85 + 256 * (85 + 256 * (85 + 256 * 85)) := rfl
  have z2 : z / 2 &&& (85 + 256 * 85) = z / 2 &&& 85 := by
    have := and_split (z / 2) 0 85 85 (by omega) (by decide)
    rw [Nat.mul_zero, Nat.add_zero, Nat.zero_and, Nat.mul_zero, Nat.add_zero] at this
    exact this
  rw [e, m, and_split _ _ _ _ (by omega) (by decide), and_split _ _ _ _ (by omega) (by decide), bg_a _ (by omega) _ (by omega), bg_a _ (by omega) _ (by omega), z2]
  have a1 : x / 2 &&& 85 ≤ x / 2 := Nat.and_le_left
  have a2 : y / 2 &&& 85 ≤ y / 2 := Nat.and_le_left
  have a3 : z / 2 &&& 85 ≤ z / 2 := Nat.and_le_left
  unfold bg1
  omega
theorem bg_3 {x y z : Nat} (hx : x < 256) (hy : y < 256) (hz : z < 256) : ((x + 256 * (y + 256 * z)) &&& 858993459) + ((x + 256 * (y + 256 * z)) / 4 &&& 858993459) = bg2 x + 256 * (bg2 y + 256 * bg2 z) := by
  have e : (x + 256 * (y + 256 * z)) / 4 = (x / 4 + 64 * ((y + 256 * z) % 4)) + 256 * ((y / 4 + 64 * (z % 4)) + 256 * (z / 4)) := by omega
  have m : 858993459 = 51 + 256 * (51 + 256 * (51 + 256 * 51)) := rfl
  have zz : ∀ q, q < 256 → q &&& (51 + 256 * 51) = q &&& 51 := fun q hq => by
    have := and_split q 0 51 51 hq (by decide)
    rw [Nat.mul_zero, Nat.add_zero, Nat.zero_and, Nat.mul_zero, Nat.add_zero] at this
    exact this
  rw [e, m, and_split x _ _ _ hx (by decide), and_split y _ _ _ hy (by decide), zz z hz, and_split _ _ _ _ (by omega) (by decide), and_split _ _ _ _ (by omega) (by decide), bg_b _ (by omega) _ (by omega), bg_b _ (by omega) _ (by omega), zz (z / 4) (by omega)]
  unfold bg2
  omega
theorem bg_5 {p q r : Nat} (hp : p ≤ 68) (hq : q ≤ 68) (hr : r ≤ 68) (q4 : q % 16 ≤ 4) (r4 : r % 16 ≤ 4) : ((p + 256 * (q + 256 * r)) + (p + 256 * (q + 256 * r)) / 16) &&& 252645135 = ((p + p / 16) &&& 15) + 256 * (((q + q / 16) &&& 15) + 256 * ((r + r / 16) &&& 15)) := by
  have e : (p + 256 * (q + 256 * r)) + (p + 256 * (q + 256 * r)) / 16 = (p + p / 16 + 16 * (q % 16)) + 256 * ((q + q / 16 + 16 * (r % 16)) + 256 * (r + r / 16)) := by omega
  have m : 252645135 = 15 + 256 * (15 + 256 * (15 + 256 * 15)) := rfl
  have zz : ∀ q, q < 256 → q &&& (15 + 256 * 15) = q &&& 15 := fun q hq => by
    have := and_split q 0 15 15 hq (by decide)
    rw [Nat.mul_zero, Nat.add_zero, Nat.zero_and, Nat.mul_zero, Nat.add_zero] at this
    exact this
  rw [e, m, and_split _ _ _ _ (by omega) (by decide), and_split _ _ _ _ (by omega) (by decide), bg_d _ (by omega) _ (by omega), bg_d _ (by omega) _ (by omega), zz _ (by omega)]
def nbits (v : Int) : Int := sm (fun a => if zbt v a = true then 1 else 0) 20
theorem zbt_div {v : Int} (h0 : 0 ≤ v) {a : Nat} (ha : a < 32) : (if zbt v a = true then (1 : Int) else 0) = ((v.toNat / 2 ^ a % 2 : Nat) : Int) := by
  unfold zbt
  rw [zi_nI h0]
  show (if (BitVec.ofNat 32 v.toNat).getLsbD ((a : Int).toNat) = true then (1 : Int) else 0) = _
  rw [BitVec.getLsbD_ofNat, show ((a : Int).toNat) = a from rfl, decide_eq_true ha, Bool.true_and, Nat.testBit_eq_decide_div_mod_eq]
  have : v.toNat / 2 ^ a % 2 < 2 := Nat.mod_lt _ (by decide)
  by_cases q : v.toNat / 2 ^ a % 2 = 1
  · rw [q]; rfl
  · rw [if_neg (by rw [decide_eq_false q]; decide)]
    omega
theorem zushr_n {n k : Nat} (hn : n < 2 ^ 31) (hk : k < 32) : zushr (n : Int) (k : Int) = ((n / 2 ^ k : Nat) : Int) := by
  have : ((nI n).toUInt32 >>> ((nI k).toUInt32 &&& Int32.toUInt32 31)).toInt32 = nI (n / 2 ^ k) := pk_ushrN (by omega) _ k (s_u k hk)
  unfold zushr
  rw [zi_nI (by omega), zi_nI (by omega), Int.toNat_natCast, Int.toNat_natCast, this]
  rw [zi_nat]
  have : n / 2 ^ k ≤ n := Nat.div_le_self ..
  generalize n / 2 ^ k = w at this ⊢
  exact zi_toInt ⟨by omega, by omega⟩
theorem zand_n {a b : Nat} (ha : a < 2 ^ 31) : zand (a : Int) (b : Int) = ((a &&& b : Nat) : Int) := by
  unfold zand
  rw [zi_nI (by omega), zi_nI (by omega), Int.toNat_natCast, Int.toNat_natCast, nx_and]
  rw [zi_nat]
  have : a &&& b ≤ a := Nat.and_le_left
  exact zi_toInt ⟨by omega, by omega⟩
set_option maxRecDepth 100000 in
theorem vc_bitCount (v : Int) (M : am_M) (Q : Option Value → am_M → Prop) (hv : Q (some (.int (zi (zand (((zand (((zand (v - (zand (zushr v 1) 1431655765)) 858993459) + (zand (zushr (v - (zand (zushr v 1) 1431655765)) 2) 858993459)) + (zushr ((zand (v - (zand (zushr v 1) 1431655765)) 858993459) + (zand (zushr (v - (zand (zushr v 1) 1431655765)) 2) 858993459)) 4)) 252645135) + (zushr (zand (((zand (v - (zand (zushr v 1) 1431655765)) 858993459) + (zand (zushr (v - (zand (zushr v 1) 1431655765)) 2) 858993459)) + (zushr ((zand (v - (zand (zushr v 1) 1431655765)) 858993459) + (zand (zushr (v - (zand (zushr v 1) 1431655765)) 2) 858993459)) 4)) 252645135) 8)) + (zushr ((zand (((zand (v - (zand (zushr v 1) 1431655765)) 858993459) + (zand (zushr (v - (zand (zushr v 1) 1431655765)) 2) 858993459)) + (zushr ((zand (v - (zand (zushr v 1) 1431655765)) 858993459) + (zand (zushr (v - (zand (zushr v 1) 1431655765)) 2) 858993459)) 4)) 252645135) + (zushr (zand (((zand (v - (zand (zushr v 1) 1431655765)) 858993459) + (zand (zushr (v - (zand (zushr v 1) 1431655765)) 2) 858993459)) + (zushr ((zand (v - (zand (zushr v 1) 1431655765)) 858993459) + (zand (zushr (v - (zand (zushr v 1) 1431655765)) 2) 858993459)) 4)) 252645135) 8)) 16)) 63)))) M) : am_x t_Int_bitCount (0, am_ent (am_mL t_Int_bitCount) [.int (zi v)], [], M) Q := by
  refine am_xn 0 (c1 := (0, [.int (zi v)], [], M)) rfl ?_
  refine am_xbit 4 (((zi v).toUInt32 >>> ((zi 1).toUInt32 &&& Int32.toUInt32 31)).toInt32) (pc := 4) (ls := [.int (zi v)]) (st := [.int (zi v)]) rfl ?_
  refine am_xn 0 (c1 := (4, [.int (zi v)], [.int (zi (zushr v 1)), .int (zi v)], M)) rfl ?_
  refine am_xbit 2 (zi (zushr v 1) &&& zi 1431655765) (pc := 8) (ls := [.int (zi v)]) (st := [.int (zi v)]) rfl ?_
  refine am_xn 0 (c1 := (8, [.int (zi v)], [.int (zi (zand (zushr v 1) 1431655765)), .int (zi v)], M)) rfl ?_
  refine am_xisub 1 v (zand (zushr v 1) 1431655765) (pc := 9) (ls := [.int (zi v)]) (st := []) rfl ?_
  refine am_xbit 4 (zi (v - (zand (zushr v 1) 1431655765)) &&& zi 858993459) (pc := 15) (ls := [.int (zi (v - (zand (zushr v 1) 1431655765)))]) (st := []) rfl ?_
  refine am_xn 0 (c1 := (15, [.int (zi (v - (zand (zushr v 1) 1431655765)))], [.int (zi (zand (v - (zand (zushr v 1) 1431655765)) 858993459))], M)) rfl ?_
  refine am_xbit 3 (((zi (v - (zand (zushr v 1) 1431655765))).toUInt32 >>> ((zi 2).toUInt32 &&& Int32.toUInt32 31)).toInt32) (pc := 18) (ls := [.int (zi (v - (zand (zushr v 1) 1431655765)))]) (st := [.int (zi (zand (v - (zand (zushr v 1) 1431655765)) 858993459))]) rfl ?_
  refine am_xn 0 (c1 := (18, [.int (zi (v - (zand (zushr v 1) 1431655765)))], [.int (zi (zushr (v - (zand (zushr v 1) 1431655765)) 2)), .int (zi (zand (v - (zand (zushr v 1) 1431655765)) 858993459))], M)) rfl ?_
  refine am_xbit 2 (zi (zushr (v - (zand (zushr v 1) 1431655765)) 2) &&& zi 858993459) (pc := 22) (ls := [.int (zi (v - (zand (zushr v 1) 1431655765)))]) (st := [.int (zi (zand (v - (zand (zushr v 1) 1431655765)) 858993459))]) rfl ?_
  refine am_xn 0 (c1 := (22, [.int (zi (v - (zand (zushr v 1) 1431655765)))], [.int (zi (zand (zushr (v - (zand (zushr v 1) 1431655765)) 2) 858993459)), .int (zi (zand (v - (zand (zushr v 1) 1431655765)) 858993459))], M)) rfl ?_
  refine am_xiadd 1 (zand (v - (zand (zushr v 1) 1431655765)) 858993459) (zand (zushr (v - (zand (zushr v 1) 1431655765)) 2) 858993459) (pc := 23) (ls := [.int (zi (v - (zand (zushr v 1) 1431655765)))]) (st := []) rfl ?_
  refine am_xbit 5 (((zi ((zand (v - (zand (zushr v 1) 1431655765)) 858993459) + (zand (zushr (v - (zand (zushr v 1) 1431655765)) 2) 858993459))).toUInt32 >>> ((zi 4).toUInt32 &&& Int32.toUInt32 31)).toInt32) (pc := 28) (ls := [.int (zi ((zand (v - (zand (zushr v 1) 1431655765)) 858993459) + (zand (zushr (v - (zand (zushr v 1) 1431655765)) 2) 858993459)))]) (st := [.int (zi ((zand (v - (zand (zushr v 1) 1431655765)) 858993459) + (zand (zushr (v - (zand (zushr v 1) 1431655765)) 2) 858993459)))]) rfl ?_
  refine am_xn 0 (c1 := (28, [.int (zi ((zand (v - (zand (zushr v 1) 1431655765)) 858993459) + (zand (zushr (v - (zand (zushr v 1) 1431655765)) 2) 858993459)))], [.int (zi (zushr ((zand (v - (zand (zushr v 1) 1431655765)) 858993459) + (zand (zushr (v - (zand (zushr v 1) 1431655765)) 2) 858993459)) 4)), .int (zi ((zand (v - (zand (zushr v 1) 1431655765)) 858993459) + (zand (zushr (v - (zand (zushr v 1) 1431655765)) 2) 858993459)))], M)) rfl ?_
  refine am_xiadd 1 ((zand (v - (zand (zushr v 1) 1431655765)) 858993459) + (zand (zushr (v - (zand (zushr v 1) 1431655765)) 2) 858993459)) (zushr ((zand (v - (zand (zushr v 1) 1431655765)) 858993459) + (zand (zushr (v - (zand (zushr v 1) 1431655765)) 2) 858993459)) 4) (pc := 29) (ls := [.int (zi ((zand (v - (zand (zushr v 1) 1431655765)) 858993459) + (zand (zushr (v - (zand (zushr v 1) 1431655765)) 2) 858993459)))]) (st := []) rfl ?_
  refine am_xbit 2 (zi (((zand (v - (zand (zushr v 1) 1431655765)) 858993459) + (zand (zushr (v - (zand (zushr v 1) 1431655765)) 2) 858993459)) + (zushr ((zand (v - (zand (zushr v 1) 1431655765)) 858993459) + (zand (zushr (v - (zand (zushr v 1) 1431655765)) 2) 858993459)) 4)) &&& zi 252645135) (pc := 33) (ls := [.int (zi ((zand (v - (zand (zushr v 1) 1431655765)) 858993459) + (zand (zushr (v - (zand (zushr v 1) 1431655765)) 2) 858993459)))]) (st := []) rfl ?_
  refine am_xn 0 (c1 := (33, [.int (zi ((zand (v - (zand (zushr v 1) 1431655765)) 858993459) + (zand (zushr (v - (zand (zushr v 1) 1431655765)) 2) 858993459)))], [.int (zi (zand (((zand (v - (zand (zushr v 1) 1431655765)) 858993459) + (zand (zushr (v - (zand (zushr v 1) 1431655765)) 2) 858993459)) + (zushr ((zand (v - (zand (zushr v 1) 1431655765)) 858993459) + (zand (zushr (v - (zand (zushr v 1) 1431655765)) 2) 858993459)) 4)) 252645135))], M)) rfl ?_
  refine am_xbit 5 (((zi (zand (((zand (v - (zand (zushr v 1) 1431655765)) 858993459) + (zand (zushr (v - (zand (zushr v 1) 1431655765)) 2) 858993459)) + (zushr ((zand (v - (zand (zushr v 1) 1431655765)) 858993459) + (zand (zushr (v - (zand (zushr v 1) 1431655765)) 2) 858993459)) 4)) 252645135)).toUInt32 >>> ((zi 8).toUInt32 &&& Int32.toUInt32 31)).toInt32) (pc := 39) (ls := [.int (zi (zand (((zand (v - (zand (zushr v 1) 1431655765)) 858993459) + (zand (zushr (v - (zand (zushr v 1) 1431655765)) 2) 858993459)) + (zushr ((zand (v - (zand (zushr v 1) 1431655765)) 858993459) + (zand (zushr (v - (zand (zushr v 1) 1431655765)) 2) 858993459)) 4)) 252645135))]) (st := [.int (zi (zand (((zand (v - (zand (zushr v 1) 1431655765)) 858993459) + (zand (zushr (v - (zand (zushr v 1) 1431655765)) 2) 858993459)) + (zushr ((zand (v - (zand (zushr v 1) 1431655765)) 858993459) + (zand (zushr (v - (zand (zushr v 1) 1431655765)) 2) 858993459)) 4)) 252645135))]) rfl ?_
  refine am_xn 0 (c1 := (39, [.int (zi (zand (((zand (v - (zand (zushr v 1) 1431655765)) 858993459) + (zand (zushr (v - (zand (zushr v 1) 1431655765)) 2) 858993459)) + (zushr ((zand (v - (zand (zushr v 1) 1431655765)) 858993459) + (zand (zushr (v - (zand (zushr v 1) 1431655765)) 2) 858993459)) 4)) 252645135))], [.int (zi (zushr (zand (((zand (v - (zand (zushr v 1) 1431655765)) 858993459) + (zand (zushr (v - (zand (zushr v 1) 1431655765)) 2) 858993459)) + (zushr ((zand (v - (zand (zushr v 1) 1431655765)) 858993459) + (zand (zushr (v - (zand (zushr v 1) 1431655765)) 2) 858993459)) 4)) 252645135) 8)), .int (zi (zand (((zand (v - (zand (zushr v 1) 1431655765)) 858993459) + (zand (zushr (v - (zand (zushr v 1) 1431655765)) 2) 858993459)) + (zushr ((zand (v - (zand (zushr v 1) 1431655765)) 858993459) + (zand (zushr (v - (zand (zushr v 1) 1431655765)) 2) 858993459)) 4)) 252645135))], M)) rfl ?_
  refine am_xiadd 1 (zand (((zand (v - (zand (zushr v 1) 1431655765)) 858993459) + (zand (zushr (v - (zand (zushr v 1) 1431655765)) 2) 858993459)) + (zushr ((zand (v - (zand (zushr v 1) 1431655765)) 858993459) + (zand (zushr (v - (zand (zushr v 1) 1431655765)) 2) 858993459)) 4)) 252645135) (zushr (zand (((zand (v - (zand (zushr v 1) 1431655765)) 858993459) + (zand (zushr (v - (zand (zushr v 1) 1431655765)) 2) 858993459)) + (zushr ((zand (v - (zand (zushr v 1) 1431655765)) 858993459) + (zand (zushr (v - (zand (zushr v 1) 1431655765)) 2) 858993459)) 4)) 252645135) 8) (pc := 40) (ls := [.int (zi (zand (((zand (v - (zand (zushr v 1) 1431655765)) 858993459) + (zand (zushr (v - (zand (zushr v 1) 1431655765)) 2) 858993459)) + (zushr ((zand (v - (zand (zushr v 1) 1431655765)) 858993459) + (zand (zushr (v - (zand (zushr v 1) 1431655765)) 2) 858993459)) 4)) 252645135))]) (st := []) rfl ?_
  refine am_xbit 5 (((zi ((zand (((zand (v - (zand (zushr v 1) 1431655765)) 858993459) + (zand (zushr (v - (zand (zushr v 1) 1431655765)) 2) 858993459)) + (zushr ((zand (v - (zand (zushr v 1) 1431655765)) 858993459) + (zand (zushr (v - (zand (zushr v 1) 1431655765)) 2) 858993459)) 4)) 252645135) + (zushr (zand (((zand (v - (zand (zushr v 1) 1431655765)) 858993459) + (zand (zushr (v - (zand (zushr v 1) 1431655765)) 2) 858993459)) + (zushr ((zand (v - (zand (zushr v 1) 1431655765)) 858993459) + (zand (zushr (v - (zand (zushr v 1) 1431655765)) 2) 858993459)) 4)) 252645135) 8))).toUInt32 >>> ((zi 16).toUInt32 &&& Int32.toUInt32 31)).toInt32) (pc := 46) (ls := [.int (zi ((zand (((zand (v - (zand (zushr v 1) 1431655765)) 858993459) + (zand (zushr (v - (zand (zushr v 1) 1431655765)) 2) 858993459)) + (zushr ((zand (v - (zand (zushr v 1) 1431655765)) 858993459) + (zand (zushr (v - (zand (zushr v 1) 1431655765)) 2) 858993459)) 4)) 252645135) + (zushr (zand (((zand (v - (zand (zushr v 1) 1431655765)) 858993459) + (zand (zushr (v - (zand (zushr v 1) 1431655765)) 2) 858993459)) + (zushr ((zand (v - (zand (zushr v 1) 1431655765)) 858993459) + (zand (zushr (v - (zand (zushr v 1) 1431655765)) 2) 858993459)) 4)) 252645135) 8)))]) (st := [.int (zi ((zand (((zand (v - (zand (zushr v 1) 1431655765)) 858993459) + (zand (zushr (v - (zand (zushr v 1) 1431655765)) 2) 858993459)) + (zushr ((zand (v - (zand (zushr v 1) 1431655765)) 858993459) + (zand (zushr (v - (zand (zushr v 1) 1431655765)) 2) 858993459)) 4)) 252645135) + (zushr (zand (((zand (v - (zand (zushr v 1) 1431655765)) 858993459) + (zand (zushr (v - (zand (zushr v 1) 1431655765)) 2) 858993459)) + (zushr ((zand (v - (zand (zushr v 1) 1431655765)) 858993459) + (zand (zushr (v - (zand (zushr v 1) 1431655765)) 2) 858993459)) 4)) 252645135) 8)))]) rfl ?_
  refine am_xn 0 (c1 := (46, [.int (zi ((zand (((zand (v - (zand (zushr v 1) 1431655765)) 858993459) + (zand (zushr (v - (zand (zushr v 1) 1431655765)) 2) 858993459)) + (zushr ((zand (v - (zand (zushr v 1) 1431655765)) 858993459) + (zand (zushr (v - (zand (zushr v 1) 1431655765)) 2) 858993459)) 4)) 252645135) + (zushr (zand (((zand (v - (zand (zushr v 1) 1431655765)) 858993459) + (zand (zushr (v - (zand (zushr v 1) 1431655765)) 2) 858993459)) + (zushr ((zand (v - (zand (zushr v 1) 1431655765)) 858993459) + (zand (zushr (v - (zand (zushr v 1) 1431655765)) 2) 858993459)) 4)) 252645135) 8)))], [.int (zi (zushr ((zand (((zand (v - (zand (zushr v 1) 1431655765)) 858993459) + (zand (zushr (v - (zand (zushr v 1) 1431655765)) 2) 858993459)) + (zushr ((zand (v - (zand (zushr v 1) 1431655765)) 858993459) + (zand (zushr (v - (zand (zushr v 1) 1431655765)) 2) 858993459)) 4)) 252645135) + (zushr (zand (((zand (v - (zand (zushr v 1) 1431655765)) 858993459) + (zand (zushr (v - (zand (zushr v 1) 1431655765)) 2) 858993459)) + (zushr ((zand (v - (zand (zushr v 1) 1431655765)) 858993459) + (zand (zushr (v - (zand (zushr v 1) 1431655765)) 2) 858993459)) 4)) 252645135) 8)) 16)), .int (zi ((zand (((zand (v - (zand (zushr v 1) 1431655765)) 858993459) + (zand (zushr (v - (zand (zushr v 1) 1431655765)) 2) 858993459)) + (zushr ((zand (v - (zand (zushr v 1) 1431655765)) 858993459) + (zand (zushr (v - (zand (zushr v 1) 1431655765)) 2) 858993459)) 4)) 252645135) + (zushr (zand (((zand (v - (zand (zushr v 1) 1431655765)) 858993459) + (zand (zushr (v - (zand (zushr v 1) 1431655765)) 2) 858993459)) + (zushr ((zand (v - (zand (zushr v 1) 1431655765)) 858993459) + (zand (zushr (v - (zand (zushr v 1) 1431655765)) 2) 858993459)) 4)) 252645135) 8)))], M)) rfl ?_
  refine am_xiadd 1 ((zand (((zand (v - (zand (zushr v 1) 1431655765)) 858993459) + (zand (zushr (v - (zand (zushr v 1) 1431655765)) 2) 858993459)) + (zushr ((zand (v - (zand (zushr v 1) 1431655765)) 858993459) + (zand (zushr (v - (zand (zushr v 1) 1431655765)) 2) 858993459)) 4)) 252645135) + (zushr (zand (((zand (v - (zand (zushr v 1) 1431655765)) 858993459) + (zand (zushr (v - (zand (zushr v 1) 1431655765)) 2) 858993459)) + (zushr ((zand (v - (zand (zushr v 1) 1431655765)) 858993459) + (zand (zushr (v - (zand (zushr v 1) 1431655765)) 2) 858993459)) 4)) 252645135) 8)) (zushr ((zand (((zand (v - (zand (zushr v 1) 1431655765)) 858993459) + (zand (zushr (v - (zand (zushr v 1) 1431655765)) 2) 858993459)) + (zushr ((zand (v - (zand (zushr v 1) 1431655765)) 858993459) + (zand (zushr (v - (zand (zushr v 1) 1431655765)) 2) 858993459)) 4)) 252645135) + (zushr (zand (((zand (v - (zand (zushr v 1) 1431655765)) 858993459) + (zand (zushr (v - (zand (zushr v 1) 1431655765)) 2) 858993459)) + (zushr ((zand (v - (zand (zushr v 1) 1431655765)) 858993459) + (zand (zushr (v - (zand (zushr v 1) 1431655765)) 2) 858993459)) 4)) 252645135) 8)) 16) (pc := 47) (ls := [.int (zi ((zand (((zand (v - (zand (zushr v 1) 1431655765)) 858993459) + (zand (zushr (v - (zand (zushr v 1) 1431655765)) 2) 858993459)) + (zushr ((zand (v - (zand (zushr v 1) 1431655765)) 858993459) + (zand (zushr (v - (zand (zushr v 1) 1431655765)) 2) 858993459)) 4)) 252645135) + (zushr (zand (((zand (v - (zand (zushr v 1) 1431655765)) 858993459) + (zand (zushr (v - (zand (zushr v 1) 1431655765)) 2) 858993459)) + (zushr ((zand (v - (zand (zushr v 1) 1431655765)) 858993459) + (zand (zushr (v - (zand (zushr v 1) 1431655765)) 2) 858993459)) 4)) 252645135) 8)))]) (st := []) rfl ?_
  refine am_xbit 4 (zi (((zand (((zand (v - (zand (zushr v 1) 1431655765)) 858993459) + (zand (zushr (v - (zand (zushr v 1) 1431655765)) 2) 858993459)) + (zushr ((zand (v - (zand (zushr v 1) 1431655765)) 858993459) + (zand (zushr (v - (zand (zushr v 1) 1431655765)) 2) 858993459)) 4)) 252645135) + (zushr (zand (((zand (v - (zand (zushr v 1) 1431655765)) 858993459) + (zand (zushr (v - (zand (zushr v 1) 1431655765)) 2) 858993459)) + (zushr ((zand (v - (zand (zushr v 1) 1431655765)) 858993459) + (zand (zushr (v - (zand (zushr v 1) 1431655765)) 2) 858993459)) 4)) 252645135) 8)) + (zushr ((zand (((zand (v - (zand (zushr v 1) 1431655765)) 858993459) + (zand (zushr (v - (zand (zushr v 1) 1431655765)) 2) 858993459)) + (zushr ((zand (v - (zand (zushr v 1) 1431655765)) 858993459) + (zand (zushr (v - (zand (zushr v 1) 1431655765)) 2) 858993459)) 4)) 252645135) + (zushr (zand (((zand (v - (zand (zushr v 1) 1431655765)) 858993459) + (zand (zushr (v - (zand (zushr v 1) 1431655765)) 2) 858993459)) + (zushr ((zand (v - (zand (zushr v 1) 1431655765)) 858993459) + (zand (zushr (v - (zand (zushr v 1) 1431655765)) 2) 858993459)) 4)) 252645135) 8)) 16)) &&& zi 63) (pc := 52) (ls := [.int (zi (((zand (((zand (v - (zand (zushr v 1) 1431655765)) 858993459) + (zand (zushr (v - (zand (zushr v 1) 1431655765)) 2) 858993459)) + (zushr ((zand (v - (zand (zushr v 1) 1431655765)) 858993459) + (zand (zushr (v - (zand (zushr v 1) 1431655765)) 2) 858993459)) 4)) 252645135) + (zushr (zand (((zand (v - (zand (zushr v 1) 1431655765)) 858993459) + (zand (zushr (v - (zand (zushr v 1) 1431655765)) 2) 858993459)) + (zushr ((zand (v - (zand (zushr v 1) 1431655765)) 858993459) + (zand (zushr (v - (zand (zushr v 1) 1431655765)) 2) 858993459)) 4)) 252645135) 8)) + (zushr ((zand (((zand (v - (zand (zushr v 1) 1431655765)) 858993459) + (zand (zushr (v - (zand (zushr v 1) 1431655765)) 2) 858993459)) + (zushr ((zand (v - (zand (zushr v 1) 1431655765)) 858993459) + (zand (zushr (v - (zand (zushr v 1) 1431655765)) 2) 858993459)) 4)) 252645135) + (zushr (zand (((zand (v - (zand (zushr v 1) 1431655765)) 858993459) + (zand (zushr (v - (zand (zushr v 1) 1431655765)) 2) 858993459)) + (zushr ((zand (v - (zand (zushr v 1) 1431655765)) 858993459) + (zand (zushr (v - (zand (zushr v 1) 1431655765)) 2) 858993459)) 4)) 252645135) 8)) 16)))]) (st := []) rfl ?_
  refine am_xn 0 (c1 := (52, [.int (zi (((zand (((zand (v - (zand (zushr v 1) 1431655765)) 858993459) + (zand (zushr (v - (zand (zushr v 1) 1431655765)) 2) 858993459)) + (zushr ((zand (v - (zand (zushr v 1) 1431655765)) 858993459) + (zand (zushr (v - (zand (zushr v 1) 1431655765)) 2) 858993459)) 4)) 252645135) + (zushr (zand (((zand (v - (zand (zushr v 1) 1431655765)) 858993459) + (zand (zushr (v - (zand (zushr v 1) 1431655765)) 2) 858993459)) + (zushr ((zand (v - (zand (zushr v 1) 1431655765)) 858993459) + (zand (zushr (v - (zand (zushr v 1) 1431655765)) 2) 858993459)) 4)) 252645135) 8)) + (zushr ((zand (((zand (v - (zand (zushr v 1) 1431655765)) 858993459) + (zand (zushr (v - (zand (zushr v 1) 1431655765)) 2) 858993459)) + (zushr ((zand (v - (zand (zushr v 1) 1431655765)) 858993459) + (zand (zushr (v - (zand (zushr v 1) 1431655765)) 2) 858993459)) 4)) 252645135) + (zushr (zand (((zand (v - (zand (zushr v 1) 1431655765)) 858993459) + (zand (zushr (v - (zand (zushr v 1) 1431655765)) 2) 858993459)) + (zushr ((zand (v - (zand (zushr v 1) 1431655765)) 858993459) + (zand (zushr (v - (zand (zushr v 1) 1431655765)) 2) 858993459)) 4)) 252645135) 8)) 16)))], [.int (zi (zand (((zand (((zand (v - (zand (zushr v 1) 1431655765)) 858993459) + (zand (zushr (v - (zand (zushr v 1) 1431655765)) 2) 858993459)) + (zushr ((zand (v - (zand (zushr v 1) 1431655765)) 858993459) + (zand (zushr (v - (zand (zushr v 1) 1431655765)) 2) 858993459)) 4)) 252645135) + (zushr (zand (((zand (v - (zand (zushr v 1) 1431655765)) 858993459) + (zand (zushr (v - (zand (zushr v 1) 1431655765)) 2) 858993459)) + (zushr ((zand (v - (zand (zushr v 1) 1431655765)) 858993459) + (zand (zushr (v - (zand (zushr v 1) 1431655765)) 2) 858993459)) 4)) 252645135) 8)) + (zushr ((zand (((zand (v - (zand (zushr v 1) 1431655765)) 858993459) + (zand (zushr (v - (zand (zushr v 1) 1431655765)) 2) 858993459)) + (zushr ((zand (v - (zand (zushr v 1) 1431655765)) 858993459) + (zand (zushr (v - (zand (zushr v 1) 1431655765)) 2) 858993459)) 4)) 252645135) + (zushr (zand (((zand (v - (zand (zushr v 1) 1431655765)) 858993459) + (zand (zushr (v - (zand (zushr v 1) 1431655765)) 2) 858993459)) + (zushr ((zand (v - (zand (zushr v 1) 1431655765)) 858993459) + (zand (zushr (v - (zand (zushr v 1) 1431655765)) 2) 858993459)) 4)) 252645135) 8)) 16)) 63))], M)) rfl ?_
  exact am_xr (some (.int (zi (zand (((zand (((zand (v - (zand (zushr v 1) 1431655765)) 858993459) + (zand (zushr (v - (zand (zushr v 1) 1431655765)) 2) 858993459)) + (zushr ((zand (v - (zand (zushr v 1) 1431655765)) 858993459) + (zand (zushr (v - (zand (zushr v 1) 1431655765)) 2) 858993459)) 4)) 252645135) + (zushr (zand (((zand (v - (zand (zushr v 1) 1431655765)) 858993459) + (zand (zushr (v - (zand (zushr v 1) 1431655765)) 2) 858993459)) + (zushr ((zand (v - (zand (zushr v 1) 1431655765)) 858993459) + (zand (zushr (v - (zand (zushr v 1) 1431655765)) 2) 858993459)) 4)) 252645135) 8)) + (zushr ((zand (((zand (v - (zand (zushr v 1) 1431655765)) 858993459) + (zand (zushr (v - (zand (zushr v 1) 1431655765)) 2) 858993459)) + (zushr ((zand (v - (zand (zushr v 1) 1431655765)) 858993459) + (zand (zushr (v - (zand (zushr v 1) 1431655765)) 2) 858993459)) 4)) 252645135) + (zushr (zand (((zand (v - (zand (zushr v 1) 1431655765)) 858993459) + (zand (zushr (v - (zand (zushr v 1) 1431655765)) 2) 858993459)) + (zushr ((zand (v - (zand (zushr v 1) 1431655765)) 858993459) + (zand (zushr (v - (zand (zushr v 1) 1431655765)) 2) 858993459)) 4)) 252645135) 8)) 16)) 63)))) ⟨rfl, rfl, .int, rfl, rfl⟩ hv
theorem sp_bitCount (M : am_M) {v : Int} (h0 : 0 ≤ v) (h1 : v < 1048576) : am_call t_Int_bitCount [.int (zi v)] M (some (.int (zi (nbits v)))) M := by
  obtain ⟨x, y, z, hx, hy, hz, hv⟩ : ∃ x y z : Nat, x < 256 ∧ y < 256 ∧ z < 16 ∧ v = ((x + 256 * (y + 256 * z) : Nat) : Int) := ⟨v.toNat % 256, v.toNat / 256 % 256, v.toNat / 65536, by omega, by omega, by omega, by omega⟩
  refine am_call_of ⟨Nat.le_of_ble_eq_true rfl, rfl⟩ (vc_bitCount v M _ ?_)
  have gx := bg_c x hx
  have gy := bg_c y hy
  have gz := bg_c z (by omega)
  obtain ⟨n1, e1⟩ : ∃ n1 : Nat, n1 = bg1 x + 256 * (bg1 y + 256 * bg1 z) := ⟨_, rfl⟩
  have s1 : v - zand (zushr v 1) 1431655765 = (n1 : Int) := by
    rw [hv, show (1 : Int) = ((1 : Nat) : Int) from rfl, zushr_n (by omega) (by decide), show (1431655765 : Int) = ((1431655765 : Nat) : Int) from rfl, zand_n (by omega)]
    have a := bg_1 hx hy hz
    have b : (x + 256 * (y + 256 * z)) / 2 ^ 1 &&& 1431655765 ≤ (x + 256 * (y + 256 * z)) / 2 ^ 1 := Nat.and_le_left
    rw [show (2 : Nat) ^ 1 = 2 from rfl] at b ⊢
    rw [e1, ← a]
    omega
  rw [s1]
  obtain ⟨n2, e2⟩ : ∃ n2 : Nat, n2 = bgG x + 256 * (bgG y + 256 * bgG z) := ⟨_, rfl⟩
  have s2 : zand (n1 : Int) 858993459 + zand (zushr (n1 : Int) 2) 858993459 = (n2 : Int) := by
    have a := bg_3 gx.1 gy.1 gz.1
    rw [show (2 : Int) = ((2 : Nat) : Int) from rfl, zushr_n (by omega) (by decide), show (858993459 : Int) = ((858993459 : Nat) : Int) from rfl, zand_n (by omega), zand_n (by omega), e2]
    unfold bgG
    rw [← a, ← e1, nat_ia]
  rw [s2]
  obtain ⟨n3, e3⟩ : ∃ n3 : Nat, n3 = bgF x + 256 * (bgF y + 256 * bgF z) := ⟨_, rfl⟩
  have s3 : zand ((n2 : Int) + zushr (n2 : Int) 4) 252645135 = (n3 : Int) := by
    have a := bg_5 gx.2.1 gy.2.1 gz.2.1 gy.2.2 gz.2.2
    rw [show (4 : Int) = ((4 : Nat) : Int) from rfl, zushr_n (by omega) (by decide), show (252645135 : Int) = ((252645135 : Nat) : Int) from rfl, show (n2 : Int) + ((n2 / 2 ^ 4 : Nat) : Int) = ((n2 + n2 / 2 ^ 4 : Nat) : Int) by omega, zand_n (by omega), e3]
    unfold bgF
    rw [← a, ← e2]
  rw [s3]
  have l3 : n3 < 1000000 := by
    have a := bg_f x hx
    have b := bg_f y hy
    have c := bg_f z (by omega)
    clear s1 s2 s3 e1 e2 gx gy gz
    omega
  have s4 : (n3 : Int) + zushr (n3 : Int) 8 = ((n3 + n3 / 256 : Nat) : Int) := by
    rw [show (8 : Int) = ((8 : Nat) : Int) from rfl, zushr_n (by omega) (by decide)]
    omega
  rw [s4]
  have s5 : ((n3 + n3 / 256 : Nat) : Int) + zushr ((n3 + n3 / 256 : Nat) : Int) 16 = ((n3 + n3 / 256 + (n3 + n3 / 256) / 65536 : Nat) : Int) := by
    rw [show (16 : Int) = ((16 : Nat) : Int) from rfl, zushr_n (by omega) (by decide)]
    omega
  rw [s5]
  have s6 : zand ((n3 + n3 / 256 + (n3 + n3 / 256) / 65536 : Nat) : Int) 63 = ((bgF x + bgF y + bgF z : Nat) : Int) := by
    have a := bg_end (bg_f x hx) (bg_f y hy) (bg_f z (by omega))
    rw [← e3] at a
    rw [show (63 : Int) = ((63 : Nat) : Int) from rfl, zand_n (by omega), show (63 : Nat) = 2 ^ 6 - 1 from rfl, Nat.and_two_pow_sub_one_eq_mod, show (2 : Nat) ^ 6 = 64 from rfl, a]
  rw [s6]
  refine ⟨?_, rfl⟩
  have hn : v.toNat = x + 256 * (y + 256 * z) := by omega
  have bit : ∀ a : Nat, a < 20 → (if zbt v a = true then (1 : Int) else 0) = (((x + 256 * (y + 256 * z)) / 2 ^ a % 2 : Nat) : Int) := fun a ha => by rw [zbt_div h0 (by omega), hn]
  have e : nbits v = ((bgF x + bgF y + bgF z : Nat) : Int) := by
    show zsum _ 20 = _
    show 0 + (if zbt v ((0 : Nat) : Int) = true then (1 : Int) else 0) + (if zbt v ((1 : Nat) : Int) = true then (1 : Int) else 0) + (if zbt v ((2 : Nat) : Int) = true then (1 : Int) else 0) + (if zbt v ((3 : Nat) : Int) = true then (1 : Int) else 0) + (if zbt v ((4 : Nat) : Int) = true then (1 : Int) else 0) + (if zbt v ((5 : Nat) : Int) = true then (1 : Int) else 0) + (if zbt v ((6 : Nat) : Int) = true then (1 : Int) else 0) + (if zbt v ((7 : Nat) : Int) = true then (1 : Int) else 0) + (if zbt v ((8 : Nat) : Int) = true then (1 : Int) else 0) + (if zbt v ((9 : Nat) : Int) = true then (1 : Int) else 0) + (if zbt v ((10 : Nat) : Int) = true then (1 : Int) else 0) + (if zbt v ((11 : Nat) : Int) = true then (1 : Int) else 0) + (if zbt v ((12 : Nat) : Int) = true then (1 : Int) else 0) + (if zbt v ((13 : Nat) : Int) = true then (1 : Int) else 0) + (if zbt v ((14 : Nat) : Int) = true then (1 : Int) else 0) + (if zbt v ((15 : Nat) : Int) = true then (1 : Int) else 0) + (if zbt v ((16 : Nat) : Int) = true then (1 : Int) else 0) + (if zbt v ((17 : Nat) : Int) = true then (1 : Int) else 0) + (if zbt v ((18 : Nat) : Int) = true then (1 : Int) else 0) + (if zbt v ((19 : Nat) : Int) = true then (1 : Int) else 0) = _
    rw [bit 0 (by decide), bit 1 (by decide), bit 2 (by decide), bit 3 (by decide), bit 4 (by decide), bit 5 (by decide), bit 6 (by decide), bit 7 (by decide), bit 8 (by decide), bit 9 (by decide), bit 10 (by decide), bit 11 (by decide), bit 12 (by decide), bit 13 (by decide), bit 14 (by decide), bit 15 (by decide), bit 16 (by decide), bit 17 (by decide), bit 18 (by decide), bit 19 (by decide)]
    rw [bg_e x hx, bg_e y hy, bg_e4 z hz]
    have k := bg_key (fun a => x / 2 ^ a % 2) (fun a => y / 2 ^ a % 2) (fun a => z / 2 ^ a % 2)
    rw [bg_lo x y z 0 (by decide), bg_lo x y z 1 (by decide), bg_lo x y z 2 (by decide), bg_lo x y z 3 (by decide), bg_lo x y z 4 (by decide), bg_lo x y z 5 (by decide), bg_lo x y z 6 (by decide), bg_lo x y z 7 (by decide), bg_mi hx y z 0 (by decide), bg_mi hx y z 1 (by decide), bg_mi hx y z 2 (by decide), bg_mi hx y z 3 (by decide), bg_mi hx y z 4 (by decide), bg_mi hx y z 5 (by decide), bg_mi hx y z 6 (by decide), bg_mi hx y z 7 (by decide), bg_hi hx hy z 0, bg_hi hx hy z 1, bg_hi hx hy z 2, bg_hi hx hy z 3]
    exact k
  rw [e]
