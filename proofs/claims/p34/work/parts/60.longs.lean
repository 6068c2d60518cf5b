/-! longs over the integers: rules, and the packing of an operation -/
def zland (a b : Int) : Int := (zl a &&& zl b).toInt
def zlor (a b : Int) : Int := (zl a ||| zl b).toInt
def zlshl (a b : Int) : Int := (zl a <<< ((zi b).toInt64 &&& 63)).toInt
def zlshr (a b : Int) : Int := (zl a >>> ((zi b).toInt64 &&& 63)).toInt
def zl2i (a : Int) : Int := (zl a).toInt32.toInt
theorem zlr_toInt (x : Int64) : zlr x.toInt := by
  have h1 := Int64.le_toInt x
  have h2 := Int64.toInt_lt x
  constructor <;> omega
section AMXL
variable {t : am_T} {pc n : Nat} {ls st : List Value} {M : am_M} {Q : Option Value → am_M → Prop} {i x : Int} {c : am_C}
theorem am_xlbit (n : Nat) (v : Int64) (h : am_steps t n c = some (pc, ls, .long v :: st, M)) (kk : am_x t (pc, ls, .long (zl v.toInt) :: st, M) Q) : am_x t c Q := am_xn n h (by rw [zl_of] at kk; exact kk)
theorem am_xlald (hc : am_as (am_cd t) pc = some (.laload, 1)) (hg : 0 ≤ i ∧ i < 16) (k : am_x t (pc + 1, ls, .long (zl (lv M 58 i)) :: st, M) Q) : am_x t (pc, ls, .int (zi i) :: .ref 58 :: st, M) Q := by
  refine am_x1 ?_ k
  rw [am_step_of hc]
  dsimp only [am_ex, am_ll]
  rw [show Nat.beq 58 58 = true from rfl]
  dsimp only [cond_true]
  rw [if_neg (zi_in (n := 16) rfl hg), zi_clamp hg.1 (by omega)]
  unfold lv
  rw [zl_of]
theorem am_xlast (hc : am_as (am_cd t) pc = some (.lastore, 1)) (hg : 0 ≤ i ∧ i < 16) (k : am_x t (pc + 1, ls, st, zupl M 58 i x) Q) : am_x t (pc, ls, .long (zl x) :: .int (zi i) :: .ref 58 :: st, M) Q := by
  refine am_x1 ?_ k
  rw [am_step_of hc]
  dsimp only [am_ex, am_lst]
  rw [show Nat.beq 58 58 = true from rfl]
  dsimp only [cond_true]
  rw [if_neg (zi_in (n := 16) rfl hg), zi_clamp hg.1 (by omega)]
  rfl
end AMXL
theorem lv_zup_ne (M : am_M) {a : Nat} {k v : Int} {b : Nat} (j : Int) (hb : b ≠ a) : lv (zup M a k v) b j = lv M b j := by
  unfold lv
  rw [zup_ne M _ hb, zup_ne M _ hb]
theorem lv_row {M M' : am_M} {a : Nat} (h : M' a = M a) : lv M' a = lv M a := by
  funext j
  unfold lv
  rw [h]
theorem zupl_ne (M : am_M) {a : Nat} {k v : Int} {b : Nat} (hb : b ≠ a) : zupl M a k v b = M b := by
  funext j
  unfold zupl
  rw [am_up_ne _ _ _ _ (fun q => hb q.1), am_up_ne _ _ _ _ (fun q => hb q.1)]
theorem lvl_set (M : am_M) {k v : Int} {j : Int} (k0 : 0 ≤ k) (k1 : k < 16) (j0 : 0 ≤ j) (j1 : j < 16) (hv : zlr v) : lv (zupl M 58 k v) 58 j = if j = k then v else lv M 58 j := by
  by_cases h : j = k
  · subst h
    rw [if_pos rfl]
    have := lv_zupl M 58 j v
    have h2 := congrArg Int64.toInt this
    rwa [zl_toInt (lv_r _ _ _), zl_toInt hv] at h2
  · rw [if_neg h]
    unfold lv zupl
    rw [am_up_ne _ _ _ _ (by omega), am_up_ne _ _ _ _ (by omega), am_up_ne _ _ _ _ (by omega), am_up_ne _ _ _ _ (by omega)]
/-! bits -/
theorem zl_nat {m : Nat} (h : m < 2 ^ 63) : (zl (m : Int)).toBitVec.toNat = m := by
  unfold zl
  rw [Int64.toBitVec_ofInt, BitVec.ofInt_natCast, BitVec.toNat_ofNat]
  omega
theorem zl_back {x : Int64} {m : Nat} (h : x.toBitVec.toNat = m) (hm : m < 2 ^ 63) : x.toInt = (m : Int) := by
  rw [← Int64.toInt_toBitVec, BitVec.toInt_eq_toNat_of_lt (by omega), h]
theorem zlor_nat {a b : Nat} (ha : a < 2 ^ 63) (hb : b < 2 ^ 63) : zlor (a : Int) (b : Int) = ((a ||| b : Nat) : Int) := by
  unfold zlor
  refine zl_back ?_ (Nat.or_lt_two_pow ha hb)
  rw [Int64.toBitVec_or, BitVec.toNat_or, zl_nat ha, zl_nat hb]
theorem zland_nat {a b : Nat} (ha : a < 2 ^ 63) (hb : b < 2 ^ 63) : zland (a : Int) (b : Int) = ((a &&& b : Nat) : Int) := by
  unfold zland
  refine zl_back ?_ (Nat.and_lt_two_pow _ hb)
  rw [Int64.toBitVec_and, BitVec.toNat_and, zl_nat ha, zl_nat hb]
theorem zlshl_nat {a s : Nat} {k : Int} (hk : ((zi k).toInt64 &&& 63).toBitVec.smod 64 = BitVec.ofNat 64 s) (hs : s < 64) (h : a * 2 ^ s < 2 ^ 63) : zlshl (a : Int) k = ((a * 2 ^ s : Nat) : Int) := by
  have ha : a < 2 ^ 63 := Nat.lt_of_le_of_lt (Nat.le_mul_of_pos_right a (Nat.two_pow_pos s)) h
  unfold zlshl
  refine zl_back ?_ h
  have hs2 : s % 2 ^ 64 = s := Nat.mod_eq_of_lt (by omega)
  rw [Int64.toBitVec_shiftLeft, hk, BitVec.shiftLeft_eq', BitVec.toNat_shiftLeft, zl_nat ha, BitVec.toNat_ofNat, hs2, Nat.shiftLeft_eq, Nat.mod_eq_of_lt (by omega)]
theorem zlshr_is {a : Int} {s : Nat} {k : Int} (ha : zlr a) (hk : ((zi k).toInt64 &&& 63).toBitVec.smod 64 = BitVec.ofNat 64 s) (hs : s < 64) : zlshr a k = a / 2 ^ s := by
  unfold zlshr
  rw [← Int64.toInt_toBitVec, Int64.toBitVec_shiftRight, hk, BitVec.toInt_sshiftRight', BitVec.toNat_ofNat, Nat.mod_eq_of_lt (by omega), Int64.toInt_toBitVec, zl_toInt ha, Int.shiftRight_eq_div_pow]
  norm_cast
theorem zl2i_is {a : Int} (ha : zr a) : zl2i a = a := by
  unfold zl2i
  rw [Int64.toInt_toInt32, zl_toInt (zlr_of ha)]
  have h1 := ha.1
  have h2 := ha.2
  exact Int.bmod_eq_of_le (by omega) (by omega)
/-- an operation in one long -/
def pk (a b c d : Int) : Int := zlor (zlor (zlor (zlshl a 60) (zlshl b 40)) (zlshl c 20)) d
theorem pk_is {a b c d : Int} (a0 : 0 ≤ a) (a1 : a ≤ 4) (b0 : 0 ≤ b) (b1 : b < 1048576) (c0 : 0 ≤ c) (c1 : c < 1048576) (d0 : 0 ≤ d) (d1 : d < 1048576) : pk a b c d = a * 1152921504606846976 + b * 1099511627776 + c * 1048576 + d := by
  obtain ⟨a, rfl⟩ : ∃ n : Nat, a = n := ⟨a.toNat, by omega⟩
  obtain ⟨b, rfl⟩ : ∃ n : Nat, b = n := ⟨b.toNat, by omega⟩
  obtain ⟨c, rfl⟩ : ∃ n : Nat, c = n := ⟨c.toNat, by omega⟩
  obtain ⟨d, rfl⟩ : ∃ n : Nat, d = n := ⟨d.toNat, by omega⟩
  unfold pk
  rw [zlshl_nat (s := 60) (k := 60) (by decide +kernel) (by omega) (by omega), zlshl_nat (s := 40) (k := 40) (by decide +kernel) (by omega) (by omega), zlshl_nat (s := 20) (k := 20) (by decide +kernel) (by omega) (by omega)]
  have e1 : (a * 2 ^ 60 ||| b * 2 ^ 40 : Nat) = a * 2 ^ 60 + b * 2 ^ 40 := by
    have := Nat.two_pow_add_eq_or_of_lt (i := 60) (b := b * 2 ^ 40) (by omega) a
    rw [Nat.mul_comm (2 ^ 60) a] at this
    exact this.symm
  have e2 : (a * 2 ^ 60 + b * 2 ^ 40 ||| c * 2 ^ 20 : Nat) = a * 2 ^ 60 + b * 2 ^ 40 + c * 2 ^ 20 := by
    have := Nat.two_pow_add_eq_or_of_lt (i := 40) (b := c * 2 ^ 20) (by omega) (a * 2 ^ 20 + b)
    rw [show 2 ^ 40 * (a * 2 ^ 20 + b) = a * 2 ^ 60 + b * 2 ^ 40 by omega] at this
    exact this.symm
  have e3 : (a * 2 ^ 60 + b * 2 ^ 40 + c * 2 ^ 20 ||| d : Nat) = a * 2 ^ 60 + b * 2 ^ 40 + c * 2 ^ 20 + d := by
    have := Nat.two_pow_add_eq_or_of_lt (i := 20) (b := d) (by omega) (a * 2 ^ 40 + b * 2 ^ 20 + c)
    rw [show 2 ^ 20 * (a * 2 ^ 40 + b * 2 ^ 20 + c) = a * 2 ^ 60 + b * 2 ^ 40 + c * 2 ^ 20 by omega] at this
    exact this.symm
  rw [zlor_nat (by omega) (by omega), e1, zlor_nat (by omega) (by omega), e2, zlor_nat (by omega) (by omega), e3]
  omega
theorem zl_mask {v : Int} (h0 : 0 ≤ v) (hv : zlr v) : zland v 1048575 = v % 1048576 := by
  obtain ⟨m, rfl⟩ : ∃ n : Nat, v = n := ⟨v.toNat, by omega⟩
  have h := hv.2
  rw [show (1048575 : Int) = ((1048575 : Nat) : Int) from rfl, zland_nat (by omega) (by omega)]
  have := Nat.and_two_pow_sub_one_eq_mod m 20
  rw [show (2 ^ 20 - 1 : Nat) = 1048575 from rfl] at this
  rw [this]
  omega
def oK (M : am_M) (k : Int) : Int := zl2i (zlshr (lv M 58 k) 60)
def oC (M : am_M) (k : Int) : Int := zl2i (zland (zlshr (lv M 58 k) 40) 1048575)
def oO (M : am_M) (k : Int) : Int := zl2i (zland (zlshr (lv M 58 k) 20) 1048575)
def oT (M : am_M) (k : Int) : Int := zl2i (zland (lv M 58 k) 1048575)
theorem zr_zl2i (a : Int) : zr (zl2i a) := zr_toInt _
theorem oX_pk {M : am_M} {k a b c d : Int} (h : lv M 58 k = pk a b c d) (a0 : 0 ≤ a) (a1 : a ≤ 4) (b0 : 0 ≤ b) (b1 : b < 1048576) (c0 : 0 ≤ c) (c1 : c < 1048576) (d0 : 0 ≤ d) (d1 : d < 1048576) : oK M k = a ∧ oC M k = b ∧ oO M k = c ∧ oT M k = d := by
  have e := pk_is a0 a1 b0 b1 c0 c1 d0 d1
  have r : zlr (pk a b c d) := by rw [e]; constructor <;> omega
  have s60 : zlshr (pk a b c d) 60 = pk a b c d / 2 ^ 60 := zlshr_is r (by decide +kernel) (by omega)
  have s40 : zlshr (pk a b c d) 40 = pk a b c d / 2 ^ 40 := zlshr_is r (by decide +kernel) (by omega)
  have s20 : zlshr (pk a b c d) 20 = pk a b c d / 2 ^ 20 := zlshr_is r (by decide +kernel) (by omega)
  have f60 : zlshr (pk a b c d) 60 = a := by rw [s60, e]; omega
  have f40 : zlshr (pk a b c d) 40 = a * 1048576 + b := by rw [s40, e]; omega
  have f20 : zlshr (pk a b c d) 20 = a * 1099511627776 + b * 1048576 + c := by rw [s20, e]; omega
  unfold oK oC oO oT
  rw [h, f60, f40, f20, zl_mask (by omega) ⟨by omega, by omega⟩, zl_mask (by omega) ⟨by omega, by omega⟩, zl_mask (by rw [e]; omega) r, e]
  refine ⟨zl2i_is ⟨by omega, by omega⟩, ?_, ?_, ?_⟩
  · rw [zl2i_is ⟨by omega, by omega⟩]; omega
  · rw [zl2i_is ⟨by omega, by omega⟩]; omega
  · rw [zl2i_is ⟨by omega, by omega⟩]; omega
theorem oX_row {M M' : am_M} (h : M' 58 = M 58) (k : Int) : oK M' k = oK M k ∧ oC M' k = oC M k ∧ oO M' k = oO M k ∧ oT M' k = oT M k := by
  have e := congrFun (lv_row h) k
  unfold oK oC oO oT
  rw [e]
  exact ⟨rfl, rfl, rfl, rfl⟩
/-! ints -/
theorem zand_nn (a : Int) {b : Int} (h : 0 ≤ b) (hb : zr b) : 0 ≤ zand a b := by
  unfold zand
  rw [← Int32.toInt_toBitVec, Int32.toBitVec_and]
  refine BitVec.toInt_nonneg_of_msb_false ?_
  rw [BitVec.msb_and, BitVec.msb_eq_toInt (x := (zi b).toBitVec), Int32.toInt_toBitVec, zi_toInt hb, decide_eq_false (by omega), Bool.and_false]
theorem zi_nat {m : Nat} (h : m < 2 ^ 31) : (zi (m : Int)).toBitVec.toNat = m := by
  unfold zi
  rw [Int32.toBitVec_ofInt, BitVec.ofInt_natCast, BitVec.toNat_ofNat]
  omega
theorem zi_back {x : Int32} {m : Nat} (h : x.toBitVec.toNat = m) (hm : m < 2 ^ 31) : x.toInt = (m : Int) := by
  rw [← Int32.toInt_toBitVec, BitVec.toInt_eq_toNat_of_lt (by omega), h]
theorem zand_nat {a b : Nat} (ha : a < 2 ^ 31) (hb : b < 2 ^ 31) : zand (a : Int) (b : Int) = ((a &&& b : Nat) : Int) := by
  unfold zand
  refine zi_back ?_ (Nat.and_lt_two_pow _ hb)
  rw [Int32.toBitVec_and, BitVec.toNat_and, zi_nat ha, zi_nat hb]
theorem zand_1 {v : Int} (h0 : 0 ≤ v) (hv : zr v) : zand v 1 = v % 2 := by
  obtain ⟨m, rfl⟩ : ∃ n : Nat, v = n := ⟨v.toNat, by omega⟩
  have h := hv.2
  rw [show (1 : Int) = ((1 : Nat) : Int) from rfl, zand_nat (by omega) (by omega)]
  have := Nat.and_two_pow_sub_one_eq_mod m 1
  rw [show (2 ^ 1 - 1 : Nat) = 1 from rfl] at this
  rw [this]
  omega
theorem zand_7 {v : Int} (h0 : 0 ≤ v) (hv : zr v) : zand v 7 = v % 8 := by
  obtain ⟨m, rfl⟩ : ∃ n : Nat, v = n := ⟨v.toNat, by omega⟩
  have h := hv.2
  rw [show (7 : Int) = ((7 : Nat) : Int) from rfl, zand_nat (by omega) (by omega)]
  have := Nat.and_two_pow_sub_one_eq_mod m 3
  rw [show (2 ^ 3 - 1 : Nat) = 7 from rfl] at this
  rw [this]
  omega
theorem zshr_1 {v : Int} (hv : zr v) : zshr v 1 = v / 2 := by
  unfold zshr
  rw [← Int32.toInt_toBitVec, Int32.toBitVec_shiftRight, show ((zi 1) &&& 31).toBitVec.smod 32 = BitVec.ofNat 32 1 by decide +kernel, BitVec.toInt_sshiftRight', Int32.toInt_toBitVec, zi_toInt hv, Int.shiftRight_eq_div_pow]
  rfl
theorem zr_zand (a b : Int) : zr (zand a b) := zr_toInt _
theorem zr_zshr (a b : Int) : zr (zshr a b) := zr_toInt _
