/-! out of the proof of whole: rules -/
def zi (x : Int) : Int32 := Int32.ofInt x
def zl (x : Int) : Int64 := Int64.ofInt x
abbrev zr (x : Int) : Prop := -2147483648 ≤ x ∧ x ≤ 2147483647
abbrev zlr (x : Int) : Prop := -9223372036854775808 ≤ x ∧ x ≤ 9223372036854775807
def iv (M : am_M) (a : Nat) (k : Int) : Int := (M a k.toNat).toInt
def zup (M : am_M) (a : Nat) (k v : Int) : am_M := am_up M a k.toNat (zi v)
def lv (M : am_M) (a : Nat) (k : Int) : Int := (am_lg (M a k.toNat) (M a (k.toNat + 100))).toInt
def zupl (M : am_M) (a : Nat) (k v : Int) : am_M := am_up (am_up M a k.toNat (am_hi (zl v))) a (k.toNat + 100) (am_lw (zl v))
def zcp (M : am_M) (a0 a : Nat) (sp dp n : Int) : am_M := am_cpm M a0 a sp.toNat dp.toNat n.toNat
def zand (a b : Int) : Int := (zi a &&& zi b).toInt
def zor (a b : Int) : Int := (zi a ||| zi b).toInt
def zxor (a b : Int) : Int := (zi a ^^^ zi b).toInt
def zshl (a b : Int) : Int := (zi a <<< (zi b &&& 31)).toInt
def zshr (a b : Int) : Int := (zi a >>> (zi b &&& 31)).toInt
def zushr (a b : Int) : Int := (((zi a).toUInt32 >>> ((zi b).toUInt32 &&& Int32.toUInt32 31)).toInt32).toInt
def zcmp (a b : Int) : Int := if a < b then -1 else if a = b then 0 else 1
def zbyte (q : Nat) (i : Int) : Int := ((am_sb.getD q []).getD i.toNat 0).toInt
theorem zr_toInt (x : Int32) : zr x.toInt := by
  have h1 := Int32.le_toInt x
  have h2 := Int32.toInt_lt x
  constructor <;> omega
theorem zi_of (x : Int32) : zi x.toInt = x := Int32.ofInt_toInt x
theorem zl_of (x : Int64) : zl x.toInt = x := Int64.ofInt_toInt x
theorem zi_toInt {x : Int} (h : zr x) : (zi x).toInt = x := by
  unfold zi
  rw [Int32.toInt_ofInt]
  exact Int.bmod_eq_of_le (by have := h.1; show -(2 ^ 32 / 2 : Int) ≤ x; omega) (by have := h.2; show x < (2 ^ 32 + 1) / 2; omega)
theorem zl_toInt {x : Int} (h : zlr x) : (zl x).toInt = x := by
  unfold zl
  rw [Int64.toInt_ofInt]
  exact Int.bmod_eq_of_le (by have := h.1; show -(2 ^ 64 / 2 : Int) ≤ x; omega) (by have := h.2; show x < (2 ^ 64 + 1) / 2; omega)
theorem iv_r (M : am_M) (a : Nat) (k : Int) : zr (iv M a k) := zr_toInt _
theorem lv_r (M : am_M) (a : Nat) (k : Int) : zlr (lv M a k) := by
  unfold lv
  have h1 := Int64.le_toInt (am_lg (M a k.toNat) (M a (k.toNat + 100)))
  have h2 := Int64.toInt_lt (am_lg (M a k.toNat) (M a (k.toNat + 100)))
  constructor <;> omega
theorem zi_iv (M : am_M) (a : Nat) (k : Int) : zi (iv M a k) = M a k.toNat := zi_of _
theorem zi_inj {a b : Int} (ha : zr a) (hb : zr b) : zi a = zi b ↔ a = b := by
  constructor
  · intro h
    have := congrArg Int32.toInt h
    rwa [zi_toInt ha, zi_toInt hb] at this
  · rintro rfl; rfl
theorem zi_lt {a b : Int} (ha : zr a) (hb : zr b) : zi a < zi b ↔ a < b := by
  rw [Int32.lt_iff_toInt_lt, zi_toInt ha, zi_toInt hb]
theorem zi_add (a b : Int) : zi a + zi b = zi (a + b) := (Int32.ofInt_add a b).symm
theorem zi_sub (a b : Int) : zi a - zi b = zi (a - b) := (Int32.ofInt_sub a b).symm
theorem zi_mul (a b : Int) : zi a * zi b = zi (a * b) := (Int32.ofInt_mul a b).symm
theorem zl_add (a b : Int) : zl a + zl b = zl (a + b) := (Int64.ofInt_add a b).symm
theorem zl_sub (a b : Int) : zl a - zl b = zl (a - b) := (Int64.ofInt_sub a b).symm
theorem zl_mul (a b : Int) : zl a * zl b = zl (a * b) := (Int64.ofInt_mul a b).symm
theorem zlr_of {a : Int} (h : zr a) : zlr a := ⟨by have := h.1; omega, by have := h.2; omega⟩
theorem zr_zcmp (a b : Int) : zr (zcmp a b) := by
  unfold zcmp
  split
  · decide
  · split <;> decide
theorem zr_min {a b : Int} (ha : zr a) (hb : zr b) : zr (min a b) := by
  obtain ⟨h1, h2⟩ := ha
  obtain ⟨h3, h4⟩ := hb
  constructor <;> omega
theorem zr_div {a b : Int} (h0 : 0 ≤ a) (h1 : 0 < b) (ha : zr a) (_ : zr b) : zr (a / b) := by
  have h2 : 0 ≤ a / b := Int.ediv_nonneg h0 (Int.le_of_lt h1)
  have h3 : a / b ≤ a := Int.ediv_le_self b h0
  have := ha.2
  constructor <;> omega
theorem zr_rem {a b : Int} (_ : 0 ≤ a) (h1 : 0 < b) (_ : zr a) (hb : zr b) : zr (a % b) := by
  have h2 : 0 ≤ a % b := Int.emod_nonneg a (by omega)
  have h3 : a % b < b := Int.emod_lt_of_pos a h1
  have := hb.2
  constructor <;> omega
theorem zr_tdiv {a b : Int} (hb : 1 < b ∧ zr b) (ha : zr a) : zr (Int.tdiv a b) := by
  have h := Int.natAbs_tdiv_le_natAbs a b
  have h1 := ha.1
  have h2 := ha.2
  have h5 : (Int.tdiv a b).natAbs = a.natAbs / b.natAbs := Int.natAbs_tdiv a b
  have h6 : a.natAbs / b.natAbs ≤ a.natAbs / 2 := Nat.div_le_div_left (by omega) (by omega)
  constructor <;> omega
theorem zr_trem {a b : Int} (hb : 1 < b ∧ zr b) (ha : zr a) : zr (Int.tmod a b) := by
  have h1 := ha.1
  have h2 := ha.2
  have h5 : (Int.tmod a b).natAbs = a.natAbs % b.natAbs := Int.natAbs_tmod a b
  have h6 : a.natAbs % b.natAbs < b.natAbs := Nat.mod_lt _ (by omega)
  have h7 := hb.2.2
  constructor <;> omega
theorem zi_tdiv {a b : Int} (hb : 1 < b ∧ zr b) (ha : zr a) : zi a / zi b = zi (Int.tdiv a b) := by
  apply Int32.toInt_inj.mp
  rw [Int32.toInt_div, zi_toInt ha, zi_toInt hb.2, zi_toInt (zr_tdiv hb ha)]
  have := zr_tdiv hb ha
  exact Int.bmod_eq_of_le (by have := this.1; omega) (by have := this.2; omega)
theorem zi_trem {a b : Int} (hb : 1 < b ∧ zr b) (ha : zr a) : zi a - zi a / zi b * zi b = zi (Int.tmod a b) := by
  rw [zi_tdiv hb ha, zi_mul, zi_sub]
  congr 1
  have := Int.mul_tdiv_add_tmod a b
  have h2 : Int.tdiv a b * b = b * Int.tdiv a b := Int.mul_comm ..
  omega
theorem zi_div1 (a : Int) (ha : zr a) (h0 : 0 ≤ a) {b : Int} (h1 : 0 < b) (hb : zr b) : zi a / zi b = zi (a / b) := by
  apply Int32.toInt_inj.mp
  rw [Int32.toInt_div, zi_toInt ha, zi_toInt hb, zi_toInt (zr_div h0 h1 ha hb), Int.tdiv_eq_ediv_of_nonneg h0]
  have := zr_div h0 h1 ha hb
  exact Int.bmod_eq_of_le (by have := this.1; omega) (by have := this.2; omega)
theorem zi_ne0 {b : Int} (h1 : 0 < b) (hb : zr b) : ¬ zi b = 0 := by
  intro h
  have : b = 0 := (zi_inj hb (by decide)).mp (h.trans rfl)
  omega
theorem zi_nb {e : Int} (h : e = 0 ∨ e = 1) : narrow .boolean (.int (zi e)) = .int (zi e) := by
  rcases h with rfl | rfl <;> rfl
theorem zi_clamp {i : Int} (h0 : 0 ≤ i) (h1 : i ≤ 2147483647) : (zi i).toNatClampNeg = i.toNat := by
  show (zi i).toInt.toNat = i.toNat
  rw [zi_toInt ⟨by omega, h1⟩]
theorem zi_in {i : Int} {n : Nat} (hn : Nat.ble n 100000 = true) (h : 0 ≤ i ∧ i < n) : ¬ (zi i < 0 ∨ n ≤ (zi i).toNatClampNeg) := by
  have hn := Nat.le_of_ble_eq_true hn
  have hi : zr i := ⟨by omega, by omega⟩
  rw [zi_clamp h.1 hi.2]
  rintro (h2 | h2)
  · have : i < 0 := (zi_lt hi (by decide)).mp h2
    omega
  · omega
section AMXZ
variable {t : am_T} {pc n : Nat} {ls st : List Value} {M : am_M} {Q : Option Value → am_M → Prop} {a : Nat} {i x y : Int} {c : am_C}
theorem am_step_of {i : Instr} {n : Nat} {c : am_C} (h : am_as (am_cd t) c.1 = some (i, n)) : am_step t c = am_ex (am_ow t) i n c.1 c.2.1 c.2.2.1 c.2.2.2 := by
  unfold am_step
  rw [h]
theorem am_xrd (n a : Nat) (k : Int) (h : am_steps t n c = some (pc, ls, .int (M a k.toNat) :: st, M)) (kk : am_x t (pc, ls, .int (zi (iv M a k)) :: st, M) Q) : am_x t c Q := by
  refine am_xn n h ?_
  rwa [zi_iv] at kk
theorem am_xlrd (n a : Nat) (k : Int) (h : am_steps t n c = some (pc, ls, .long (am_lg (M a k.toNat) (M a (k.toNat + 100))) :: st, M)) (kk : am_x t (pc, ls, .long (zl (lv M a k)) :: st, M) Q) : am_x t c Q := by
  refine am_xn n h ?_
  unfold lv at kk
  rwa [zl_of] at kk
theorem am_xiadd (n : Nat) (a b : Int) (h : am_steps t n c = some (pc, ls, .int (zi a + zi b) :: st, M)) (kk : am_x t (pc, ls, .int (zi (a + b)) :: st, M) Q) : am_x t c Q := am_xn n h (by rw [zi_add]; exact kk)
theorem am_xisub (n : Nat) (a b : Int) (h : am_steps t n c = some (pc, ls, .int (zi a - zi b) :: st, M)) (kk : am_x t (pc, ls, .int (zi (a - b)) :: st, M) Q) : am_x t c Q := am_xn n h (by rw [zi_sub]; exact kk)
theorem am_ximul (n : Nat) (a b : Int) (h : am_steps t n c = some (pc, ls, .int (zi a * zi b) :: st, M)) (kk : am_x t (pc, ls, .int (zi (a * b)) :: st, M) Q) : am_x t c Q := am_xn n h (by rw [zi_mul]; exact kk)
theorem am_xladd (n : Nat) (a b : Int) (h : am_steps t n c = some (pc, ls, .long (zl a + zl b) :: st, M)) (kk : am_x t (pc, ls, .long (zl (a + b)) :: st, M) Q) : am_x t c Q := am_xn n h (by rw [zl_add]; exact kk)
theorem am_xlsub (n : Nat) (a b : Int) (h : am_steps t n c = some (pc, ls, .long (zl a - zl b) :: st, M)) (kk : am_x t (pc, ls, .long (zl (a - b)) :: st, M) Q) : am_x t c Q := am_xn n h (by rw [zl_sub]; exact kk)
theorem am_xlmul (n : Nat) (a b : Int) (h : am_steps t n c = some (pc, ls, .long (zl a * zl b) :: st, M)) (kk : am_x t (pc, ls, .long (zl (a * b)) :: st, M) Q) : am_x t c Q := am_xn n h (by rw [zl_mul]; exact kk)
theorem am_xbit (n : Nat) (v : Int32) (h : am_steps t n c = some (pc, ls, .int v :: st, M)) (kk : am_x t (pc, ls, .int (zi v.toInt) :: st, M) Q) : am_x t c Q := am_xn n h (by rw [zi_of] at kk; exact kk)
theorem am_xi2l (n : Nat) (a : Int) (ha : zr a) (h : am_steps t n c = some (pc, ls, .long (zi a).toInt64 :: st, M)) (kk : am_x t (pc, ls, .long (zl a) :: st, M) Q) : am_x t c Q := am_xn n h (by
  have : (zi a).toInt64 = zl a := by
    apply Int64.toInt_inj.mp
    rw [Int32.toInt_toInt64, zi_toInt ha, zl_toInt (zlr_of ha)]
  rw [this]; exact kk)
theorem am_xlcmp (n : Nat) (a b : Int) (ha : zlr a) (hb : zlr b) (h : am_steps t n c = some (pc, ls, .int (lg_cmp (zl a) (zl b)) :: st, M)) (kk : am_x t (pc, ls, .int (zi (zcmp a b)) :: st, M) Q) : am_x t c Q := am_xn n h (by
  have : lg_cmp (zl a) (zl b) = zi (zcmp a b) := by
    unfold lg_cmp zcmp
    have h1 : zl a < zl b ↔ a < b := by rw [Int64.lt_iff_toInt_lt, zl_toInt ha, zl_toInt hb]
    have h2 : zl b < zl a ↔ b < a := by rw [Int64.lt_iff_toInt_lt, zl_toInt ha, zl_toInt hb]
    have h3 : zl a = zl b ↔ a = b := by rw [← Int64.toInt_inj, zl_toInt ha, zl_toInt hb]
    simp only [h1, h2, h3, gt_iff_lt]
    repeat' split
    all_goals first | rfl | omega
  rw [this]; exact kk)
theorem am_xald (hc : am_as (am_cd t) pc = some (.iaload, 1)) (ha : am_al a = some n) (hn : Nat.ble n 100000 = true) (hg : 0 ≤ i ∧ i < n) (k : am_x t (pc + 1, ls, .int (zi (iv M a i)) :: st, M) Q) : am_x t (pc, ls, .int (zi i) :: .ref a :: st, M) Q := by
  refine am_x1 ?_ k
  rw [am_step_of hc]
  dsimp only [am_ex, am_il]
  rw [ha]
  dsimp only
  rw [if_neg (zi_in hn hg), zi_iv, zi_clamp hg.1 (by have := Nat.le_of_ble_eq_true hn; omega)]
theorem am_xsld (hc : am_as (am_cd t) pc = some (.iaload, 1)) (hg : 0 ≤ i ∧ i < iv M 5001 0) (k : am_x t (pc + 1, ls, .int (zi (iv M 5000 i)) :: st, M) Q) : am_x t (pc, ls, .int (zi i) :: .ref 5000 :: st, M) Q := by
  refine am_x1 ?_ k
  rw [am_step_of hc]
  dsimp only [am_ex, am_il]
  rw [show am_al 5000 = none from by decide +kernel]
  dsimp only
  rw [show Nat.beq 5000 5000 = true from rfl]
  dsimp only [cond_true]
  have h5 := iv_r M 5001 0
  have hi : zr i := ⟨by omega, by have := h5.2; omega⟩
  have e0 : (M 5001 0).toNatClampNeg = (iv M 5001 0).toNat := rfl
  have hq : ¬ (zi i < 0 ∨ (M 5001 0).toNatClampNeg ≤ (zi i).toNatClampNeg) := by
    rw [zi_clamp hg.1 hi.2, e0]
    rintro (h2 | h2)
    · have : i < 0 := (zi_lt hi (by decide)).mp h2
      omega
    · omega
  rw [if_neg hq, zi_iv, zi_clamp hg.1 hi.2]
theorem am_xbald {q : Nat} (hc : am_as (am_cd t) pc = some (.baload, 1)) (hn : am_sl[q]? = some n) (hb : Nat.ble n 100000 = true) (hg : 0 ≤ i ∧ i < n) (k : am_x t (pc + 1, ls, .int (zi (zbyte q i)) :: st, M) Q) : am_x t (pc, ls, .int (zi i) :: .ref (6100 + q) :: st, M) Q := by
  have hq : q < 9 := (List.getElem?_eq_some_iff.mp hn).1
  refine am_x1 ?_ k
  rw [am_step_of hc]
  dsimp only [am_ex, am_bl]
  have h1 : Nat.ble 6100 (6100 + q) = true := Nat.ble_eq.mpr (by omega)
  have h2 : Nat.blt (6100 + q) 6109 = true := Nat.ble_eq.mpr (by omega)
  rw [h1, h2, show 6100 + q - 6100 = q by omega]
  have h3 : am_sl.getD q 0 = n := by rw [List.getD_eq_getElem?_getD, hn]; rfl
  rw [h3]
  show (match (if zi i < 0 ∨ n ≤ (zi i).toNatClampNeg then (none : Option Int32) else some ((am_sb.getD q []).getD (zi i).toNatClampNeg 0)) with
      | some x => some (pc + 1, ls, Value.int x :: st, M)
      | none => none) = _
  rw [if_neg (zi_in hb hg), zi_clamp hg.1 (by have := Nat.le_of_ble_eq_true hb; omega)]
  unfold zbyte
  rw [zi_of]
theorem am_xast (hc : am_as (am_cd t) pc = some (.iastore, 1)) (ha : am_al a = some n) (hn : Nat.ble n 100000 = true) (hg : 0 ≤ i ∧ i < n) (k : am_x t (pc + 1, ls, st, zup M a i x) Q) : am_x t (pc, ls, .int (zi x) :: .int (zi i) :: .ref a :: st, M) Q := by
  refine am_x1 ?_ k
  rw [am_step_of hc]
  dsimp only [am_ex, am_is]
  rw [ha]
  dsimp only
  rw [if_neg (zi_in hn hg), zi_clamp hg.1 (by have := Nat.le_of_ble_eq_true hn; omega)]
  rfl
theorem am_xdiv (hc : am_as (am_cd t) pc = some (.idiv, 1)) (h0 : 0 ≤ x) (h1 : 0 < y) (hx : zr x) (hy : zr y) (k : am_x t (pc + 1, ls, .int (zi (x / y)) :: st, M) Q) : am_x t (pc, ls, .int (zi y) :: .int (zi x) :: st, M) Q := by
  refine am_x1 ?_ k
  rw [am_step_of hc]
  dsimp only [am_ex]
  rw [if_neg (zi_ne0 h1 hy), zi_div1 x hx h0 h1 hy]
theorem am_xrem (hc : am_as (am_cd t) pc = some (.irem, 1)) (h0 : 0 ≤ x) (h1 : 0 < y) (hx : zr x) (hy : zr y) (k : am_x t (pc + 1, ls, .int (zi (x % y)) :: st, M) Q) : am_x t (pc, ls, .int (zi y) :: .int (zi x) :: st, M) Q := by
  refine am_x1 ?_ k
  rw [am_step_of hc]
  dsimp only [am_ex]
  rw [if_neg (zi_ne0 h1 hy), zi_div1 x hx h0 h1 hy, zi_mul, zi_sub]
  have h2 := Int.mul_ediv_add_emod x y
  have h3 : x / y * y = y * (x / y) := Int.mul_comm ..
  rw [show x - x / y * y = x % y by omega]
theorem am_xtdiv (hc : am_as (am_cd t) pc = some (.idiv, 1)) (h1 : 1 < y ∧ zr y) (hx : zr x) (k : am_x t (pc + 1, ls, .int (zi (Int.tdiv x y)) :: st, M) Q) : am_x t (pc, ls, .int (zi y) :: .int (zi x) :: st, M) Q := by
  refine am_x1 ?_ k
  rw [am_step_of hc]
  dsimp only [am_ex]
  rw [if_neg (zi_ne0 (by omega) h1.2), zi_tdiv h1 hx]
theorem am_xtrem (hc : am_as (am_cd t) pc = some (.irem, 1)) (h1 : 1 < y ∧ zr y) (hx : zr x) (k : am_x t (pc + 1, ls, .int (zi (Int.tmod x y)) :: st, M) Q) : am_x t (pc, ls, .int (zi y) :: .int (zi x) :: st, M) Q := by
  refine am_x1 ?_ k
  rw [am_step_of hc]
  dsimp only [am_ex]
  rw [if_neg (zi_ne0 (by omega) h1.2), zi_trem h1 hx]
theorem am_xswt {d lo hi : Int} {os : Array Int} (hc : am_as (am_cd t) pc = some (.tableswitch d lo hi os, n)) (v : Int) (hx : (zi x).toInt = v) (tg : Nat) (ht : am_tgo pc (am_sw d lo hi os v) = some tg) (k : am_x t (tg, ls, st, M) Q) : am_x t (pc, ls, .int (zi x) :: st, M) Q := by
  refine am_x1 ?_ k
  rw [am_step_of hc]
  dsimp only [am_ex]
  rw [hx, ht]
theorem am_xswd {d lo hi : Int} {os : Array Int} (hc : am_as (am_cd t) pc = some (.tableswitch d lo hi os, n)) (hr : zr x) (hx : x < lo ∨ hi < x) (tg : Nat) (ht : am_tgo pc d = some tg) (k : am_x t (tg, ls, st, M) Q) : am_x t (pc, ls, .int (zi x) :: st, M) Q := by
  refine am_x1 ?_ k
  rw [am_step_of hc]
  dsimp only [am_ex]
  rw [zi_toInt hr]
  have : am_sw d lo hi os x = d := by
    unfold am_sw
    rcases hx with h | h
    · rw [if_pos h]
    · by_cases h2 : x < lo
      · rw [if_pos h2]
      · rw [if_neg h2, if_pos h]
  rw [this, ht]
theorem am_xswl {d : Int} {ps : Array (Int × Int)} (hc : am_as (am_cd t) pc = some (.lookupswitch d ps, n)) (v : Int) (hx : (zi x).toInt = v) (tg : Nat) (ht : am_tgo pc (Op.lookupswitch.offset ps.toList d v) = some tg) (k : am_x t (tg, ls, st, M) Q) : am_x t (pc, ls, .int (zi x) :: st, M) Q := by
  refine am_x1 ?_ k
  rw [am_step_of hc]
  dsimp only [am_ex]
  rw [hx, ht]
theorem am_xswld {d : Int} {ps : Array (Int × Int)} (hc : am_as (am_cd t) pc = some (.lookupswitch d ps, n)) (hr : zr x) (hx : ∀ q ∈ ps.toList, ¬ x = q.1) (tg : Nat) (ht : am_tgo pc d = some tg) (k : am_x t (tg, ls, st, M) Q) : am_x t (pc, ls, .int (zi x) :: st, M) Q := by
  refine am_x1 ?_ k
  rw [am_step_of hc]
  dsimp only [am_ex]
  rw [zi_toInt hr]
  have : Op.lookupswitch.offset ps.toList d x = d := Op.lookupswitch.offset_none (List.find?_eq_none.mpr (fun q hq e => hx q hq (by have := eq_of_beq e; exact this.symm)))
  rw [this, ht]
theorem am_xpfb {k : Nat} {ci s : Nat} {fs : List Nat} (hc : am_as (am_cd t) pc = some (.putfield k, 3)) (hf : am_fl (am_ow t) k = some (ci, s)) (hl : am_LL[a]? = some (.inr (ci, fs))) (hs : fs[s]? = some 2) (hv : x = 0 ∨ x = 1) (kk : am_x t (pc + 3, ls, st, zup M a s x) Q) : am_x t (pc, ls, .int (zi x) :: .ref a :: st, M) Q := by
  refine am_x1 ?_ kk
  rw [am_step_of hc]
  dsimp only [am_ex, am_pf]
  rw [hf]
  dsimp only
  rw [hl]
  dsimp only
  rw [show Nat.beq ci ci = true from Nat.beq_refl ci, hs]
  have : zi x = 0 ∨ zi x = 1 := by
    rcases hv with h | h
    · exact Or.inl (by rw [h]; rfl)
    · exact Or.inr (by rw [h]; rfl)
  show (match (if zi x = 0 ∨ zi x = 1 then some (am_up M a s (zi x)) else none) with
      | some M' => some (pc + 3, ls, st, M')
      | none => none) = _
  rw [if_pos this]
  rfl
theorem am_xlt {a b : Int} {p q : Nat} (ha : zr a) (hb : zr b) (ht : a < b → am_x t (p, ls, st, M) Q) (hf : b ≤ a → am_x t (q, ls, st, M) Q) : am_x t (if zi a < zi b then p else q, ls, st, M) Q := by
  by_cases h : a < b
  · rw [if_pos ((zi_lt ha hb).mpr h)]; exact ht h
  · rw [if_neg (fun q => h ((zi_lt ha hb).mp q))]; exact hf (by omega)
theorem am_xeq {a b : Int} {p q : Nat} (ha : zr a) (hb : zr b) (ht : a = b → am_x t (p, ls, st, M) Q) (hf : ¬ a = b → am_x t (q, ls, st, M) Q) : am_x t (if zi a = zi b then p else q, ls, st, M) Q := by
  by_cases h : a = b
  · rw [if_pos ((zi_inj ha hb).mpr h)]; exact ht h
  · rw [if_neg (fun q => h ((zi_inj ha hb).mp q))]; exact hf h
theorem am_xmin (k : Nat) (hc : am_as (am_cd t) pc = some (.invokestatic k, 3)) (hm : am_mnl (am_ow t) k = true) (hs : (st.map fun v => v.category).sum ≤ 8) (hx : zr x) (hy : zr y) (kk : am_x t (pc + 3, ls, .int (zi (min x y)) :: st, M) Q) : am_x t (pc, ls, .int (zi y) :: .int (zi x) :: st, M) Q := by
  refine am_xcp (c1 := (pc + 3, ls, .int (zi (min x y)) :: st, M)) (Or.inr (Or.inl ⟨k, zi x, zi y, st, hc, hm, rfl, hs, ?_⟩)) kk
  have : (if zi y < zi x then zi y else zi x) = zi (min x y) := by
    by_cases h : y < x
    · rw [if_pos ((zi_lt hy hx).mpr h), show min x y = y by omega]
    · rw [if_neg (fun q => h ((zi_lt hy hx).mp q)), show min x y = x by omega]
  rw [this]
theorem am_xacp {n0 n1 a0 : Nat} {sp dp nn : Int} (k : Nat) (hc : am_as (am_cd t) pc = some (.invokestatic k, 3)) (hk : am_ac (am_ow t) k = true) (h0 : am_al a0 = some n0) (h1 : am_al a = some n1) (b0 : Nat.ble n0 100000 = true) (b1 : Nat.ble n1 100000 = true) (hg : 0 ≤ sp ∧ 0 ≤ dp ∧ 0 ≤ nn ∧ sp + nn ≤ n0 ∧ dp + nn ≤ n1) (kk : am_x t (pc + 3, ls, [], zcp M a0 a sp dp nn) Q) : am_x t (pc, ls, [.int (zi nn), .int (zi dp), .ref a, .int (zi sp), .ref a0], M) Q := by
  obtain ⟨g1, g2, g3, g4, g5⟩ := hg
  have b0 := Nat.le_of_ble_eq_true b0
  have b1 := Nat.le_of_ble_eq_true b1
  have e1 := zi_clamp g1 (by omega)
  have e2 := zi_clamp g2 (by omega)
  have e3 := zi_clamp g3 (by omega)
  have nz : ∀ {z : Int}, 0 ≤ z → z ≤ 2147483647 → ¬ zi z < 0 := by
    intro z hz hz2 h
    have : z < 0 := (zi_lt ⟨by omega, hz2⟩ (by decide)).mp h
    omega
  refine am_xcp (c1 := (pc + 3, ls, [], zcp M a0 a sp dp nn)) (Or.inl ⟨k, a0, a, n0, n1, zi sp, zi dp, zi nn, hc, hk, rfl, h0, h1, nz g1 (by omega), nz g2 (by omega), nz g3 (by omega), by rw [e1, e3]; omega, by rw [e2, e3]; omega, ?_⟩) kk
  rw [e1, e2, e3]
  rfl
end AMXZ
theorem iv_zup (M : am_M) (a : Nat) {k v : Int} (b : Nat) {j : Int} (hk : 0 ≤ k) (hj : 0 ≤ j) (hv : zr v) : iv (zup M a k v) b j = if b = a ∧ j = k then v else iv M b j := by
  unfold iv zup am_up
  by_cases hb : b = a
  · by_cases h : j = k
    · subst h; rw [if_pos hb, if_pos rfl, if_pos ⟨hb, rfl⟩, zi_toInt hv]
    · rw [if_pos hb, if_neg (by omega), if_neg (fun q => h q.2)]
  · rw [if_neg hb, if_neg (fun q => hb q.1)]
theorem iv_zup_ne (M : am_M) {a : Nat} {k v : Int} {b : Nat} (j : Int) (hb : b ≠ a) : iv (zup M a k v) b j = iv M b j := by
  unfold iv zup am_up
  rw [if_neg hb]
theorem zup_ne (M : am_M) {a : Nat} {k v : Int} {b : Nat} (j : Nat) (hb : b ≠ a) : zup M a k v b j = M b j := by
  unfold zup am_up
  rw [if_neg hb]
theorem iv_zcp (M : am_M) (a0 a : Nat) {sp dp n : Int} (b : Nat) {j : Int} (h0 : 0 ≤ sp) (h1 : 0 ≤ dp) (h2 : 0 ≤ n) (hj : 0 ≤ j) : iv (zcp M a0 a sp dp n) b j = if b = a ∧ dp ≤ j ∧ j < dp + n then iv M a0 (sp + (j - dp)) else iv M b j := by
  unfold iv zcp am_cpm va_cpy
  by_cases hb : b = a
  · rw [if_pos hb]
    by_cases h : dp ≤ j ∧ j < dp + n
    · rw [if_pos (by omega), if_pos ⟨hb, h⟩, show sp.toNat + (j.toNat - dp.toNat) = (sp + (j - dp)).toNat by omega]
    · rw [if_neg (by omega), if_neg (fun q => h q.2), hb]
  · rw [if_neg hb, if_neg (fun q => hb q.1)]
theorem lv_zupl (M : am_M) (a : Nat) (k v : Int) : zl (lv (zupl M a k v) a k) = zl v := by
  unfold lv zupl
  rw [zl_of, am_up_self, am_up_ne _ _ _ _ (by omega), am_up_self, am_lg_hl]
