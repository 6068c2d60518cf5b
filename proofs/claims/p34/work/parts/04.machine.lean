/-! the abstract machine: a memory of ints (cell, place), references are numbers of cells; 5000 is the script, 6000 + i a String constant, 6100 + i its bytes, 7000 a static that nobody looks at -/
abbrev am_M : Type := Nat → Nat → Int32
abbrev am_C : Type := Nat × List Value × List Value × am_M
def am_up (M : am_M) (a k : Nat) (x : Int32) : am_M := fun b j => if b = a then (if j = k then x else M b j) else M b j
def am_hi (x : Int64) : Int32 := Int32.ofInt (x.toInt / 4294967296)
def am_lw (x : Int64) : Int32 := Int32.ofInt (x.toInt % 4294967296)
def am_lg (h l : Int32) : Int64 := Int64.ofInt (h.toInt * 4294967296 + l.toInt % 4294967296)
def am_fv (M : am_M) (a k : Nat) (f : Nat) : Value := match f with
  | 0 => .int (M a k)
  | 1 => .long (am_lg (M a k) (M a (k + 100)))
  | 2 => .int (M a k)
  | r + 3 => .ref r
def am_al (a : Nat) : Option Nat := match am_LL[a]? with
  | some (.inl n) => bif Nat.beq a 58 then none else some n
  | _ => none
/-- the one array of longs: its places k hold high words, k + 100 low ones -/
def am_ll (a : Nat) (i : Int32) (M : am_M) : Option Int64 := bif Nat.beq a 58 then (if i < 0 ∨ 16 ≤ i.toNatClampNeg then none else some (am_lg (M a i.toNatClampNeg) (M a (i.toNatClampNeg + 100)))) else none
def am_lst (a : Nat) (i : Int32) (x : Int64) (M : am_M) : Option am_M := bif Nat.beq a 58 then (if i < 0 ∨ 16 ≤ i.toNatClampNeg then none else some (am_up (am_up M a i.toNatClampNeg (am_hi x)) a (i.toNatClampNeg + 100) (am_lw x))) else none
def am_sl : List Nat := [6, 7, 6, 8, 2, 2, 3, 3, 6]
def am_sb : List (List Int32) := [[105, 110, 115, 101, 114, 116], [114, 101, 112, 108, 97, 99, 101], [114, 101, 112, 101, 97, 108], [114, 101, 110, 117, 109, 98, 101, 114], [105, 110], [116, 111], [102, 111, 114], [112, 117, 116], [115, 97, 118, 105, 110, 103]]
def am_ld (ls : List Value) (k : Nat) : Option Value := match ls[k]? with
  | some .null => none
  | o => o
def am_nl (ls : List Value) (k : Nat) : Bool := match k with
  | 0 => true
  | j + 1 => match ls[j]? with
    | some (.long _) => false
    | some (.double _) => false
    | _ => true
def am_s1 (ls : List Value) (k : Nat) (v : Value) : Option (List Value) := bif Nat.blt k ls.length && am_nl ls k then some (ls.set k v) else none
def am_s2 (ls : List Value) (k : Nat) (v : Value) : Option (List Value) := bif Nat.blt (k + 1) ls.length && am_nl ls k then some ((ls.set k v).set (k + 1) .null) else none
def am_tgo (pc : Nat) (off : Int) : Option Nat := if 0 ≤ (pc : Int) + off then some ((pc : Int) + off).toNat else none
def am_br (c : Jvm.ClassFile.Cond) (x y : Int32) (a b : Nat) : Nat := match c with
  | .eq => if x = y then a else b
  | .ne => if x = y then b else a
  | .lt => if x < y then a else b
  | .ge => if x < y then b else a
  | .gt => if y < x then a else b
  | .le => if y < x then b else a
def am_sw (d lo hi : Int) (os : Array Int) (x : Int) : Int := if x < lo then d else if hi < x then d else (os[(x - lo).toNat]?).getD d
def am_gs (ow idx : Nat) : Option Value := bif Nat.beq ow 14 then (bif Nat.beq idx 38 then some (.int 1) else bif Nat.beq idx 1053 then some (.ref 7000) else none) else none
def am_sf (ow idx a : Nat) : Option Value := bif Nat.beq ow 14 && Nat.ble 6000 a && Nat.blt a 6009 then (bif Nat.beq idx 9 then some (.ref (a + 100)) else bif Nat.beq idx 15 then some (.int 0) else none) else none
def am_gf (ow idx a : Nat) (M : am_M) : Option Value := match am_fl ow idx with
  | some (ci, k) => (match am_LL[a]? with
    | some (.inr (cj, fs)) => bif Nat.beq ci cj then (match fs[k]? with
      | some f => some (am_fv M a k f)
      | none => none) else none
    | _ => none)
  | none => am_sf ow idx a
def am_pf (ow idx a : Nat) (v : Value) (M : am_M) : Option am_M := match am_fl ow idx with
  | some (ci, k) => (match am_LL[a]? with
    | some (.inr (cj, fs)) => bif Nat.beq ci cj then (match fs[k]?, v with
      | some 0, .int x => some (am_up M a k x)
      | some 1, .long x => some (am_up (am_up M a k (am_hi x)) a (k + 100) (am_lw x))
      | some 2, .int x => if x = 0 ∨ x = 1 then some (am_up M a k x) else none
      | _, _ => none) else none
    | _ => none)
  | none => none
def am_len (a : Nat) (M : am_M) : Option Int32 := match am_al a with
  | some n => some (Int32.ofNat n)
  | none => bif Nat.beq a 5000 then some (M 5001 0) else bif Nat.ble 6100 a && Nat.blt a 6109 then some (Int32.ofNat (am_sl.getD (a - 6100) 0)) else none
def am_il (a : Nat) (i : Int32) (M : am_M) : Option Int32 := match am_al a with
  | some n => if i < 0 ∨ n ≤ i.toNatClampNeg then none else some (M a i.toNatClampNeg)
  | none => bif Nat.beq a 5000 then (if i < 0 ∨ (M 5001 0).toNatClampNeg ≤ i.toNatClampNeg then none else some (M 5000 i.toNatClampNeg)) else none
def am_bl (a : Nat) (i : Int32) : Option Int32 := bif Nat.ble 6100 a && Nat.blt a 6109 then (if i < 0 ∨ am_sl.getD (a - 6100) 0 ≤ i.toNatClampNeg then none else some ((am_sb.getD (a - 6100) []).getD i.toNatClampNeg 0)) else none
def am_is (a : Nat) (i x : Int32) (M : am_M) : Option am_M := match am_al a with
  | some n => if i < 0 ∨ n ≤ i.toNatClampNeg then none else some (am_up M a i.toNatClampNeg x)
  | none => none
/-- an instruction that is no call and no answer -/
def am_ex (ow : Nat) (i : Instr) (n pc : Nat) (ls st : List Value) (M : am_M) : Option am_C := match i with
  | .iconst v => some (pc + n, ls, .int (Int32.ofInt v) :: st, M)
  | .bipush v => some (pc + n, ls, .int (Int8.ofInt v).toInt32 :: st, M)
  | .sipush v => some (pc + n, ls, .int (Int16.ofInt v).toInt32 :: st, M)
  | .lconst v => some (pc + n, ls, .long (Int64.ofNat (v : Nat)) :: st, M)
  | .ldc k => (match am_as (am_ki ow) k with
    | some q => some (pc + n, ls, .int q.1 :: st, M)
    | none => bif Nat.beq ow 5 then (match am_as am_ks5 k with
      | some j => some (pc + n, ls, .ref (6000 + j) :: st, M)
      | none => none) else none)
  | .ldc_w k => (match am_as (am_ki ow) k with
    | some q => some (pc + n, ls, .int q.1 :: st, M)
    | none => none)
  | .ldc2_w k => (match am_as (am_kl ow) k with
    | some q => some (pc + n, ls, .long q.1 :: st, M)
    | none => none)
  | .iload k => (match am_ld ls k with
    | some (.int x) => some (pc + n, ls, .int x :: st, M)
    | _ => none)
  | .iload_n k => (match am_ld ls k.val with
    | some (.int x) => some (pc + n, ls, .int x :: st, M)
    | _ => none)
  | .lload k => (match am_ld ls k with
    | some (.long x) => some (pc + n, ls, .long x :: st, M)
    | _ => none)
  | .lload_n k => (match am_ld ls k.val with
    | some (.long x) => some (pc + n, ls, .long x :: st, M)
    | _ => none)
  | .aload k => (match am_ld ls k with
    | some (.ref x) => bif Nat.beq x 7000 then none else some (pc + n, ls, .ref x :: st, M)
    | _ => none)
  | .aload_n k => (match am_ld ls k.val with
    | some (.ref x) => bif Nat.beq x 7000 then none else some (pc + n, ls, .ref x :: st, M)
    | _ => none)
  | .istore k => (match st with
    | .int x :: st => (am_s1 ls k (.int x)).map fun l => (pc + n, l, st, M)
    | _ => none)
  | .istore_n k => (match st with
    | .int x :: st => (am_s1 ls k.val (.int x)).map fun l => (pc + n, l, st, M)
    | _ => none)
  | .lstore k => (match st with
    | .long x :: st => (am_s2 ls k (.long x)).map fun l => (pc + n, l, st, M)
    | _ => none)
  | .lstore_n k => (match st with
    | .long x :: st => (am_s2 ls k.val (.long x)).map fun l => (pc + n, l, st, M)
    | _ => none)
  | .iinc k v => (match am_ld ls k with
    | some (.int x) => (am_s1 ls k (.int (x + Int32.ofInt v))).map fun l => (pc + n, l, st, M)
    | _ => none)
  | .iadd => (match st with
    | .int y :: .int x :: st => some (pc + n, ls, .int (x + y) :: st, M)
    | _ => none)
  | .isub => (match st with
    | .int y :: .int x :: st => some (pc + n, ls, .int (x - y) :: st, M)
    | _ => none)
  | .imul => (match st with
    | .int y :: .int x :: st => some (pc + n, ls, .int (x * y) :: st, M)
    | _ => none)
  | .idiv => (match st with
    | .int y :: .int x :: st => if y = 0 then none else some (pc + n, ls, .int (x / y) :: st, M)
    | _ => none)
  | .irem => (match st with
    | .int y :: .int x :: st => if y = 0 then none else some (pc + n, ls, .int (x - x / y * y) :: st, M)
    | _ => none)
  | .iand => (match st with
    | .int y :: .int x :: st => some (pc + n, ls, .int (x &&& y) :: st, M)
    | _ => none)
  | .ior => (match st with
    | .int y :: .int x :: st => some (pc + n, ls, .int (x ||| y) :: st, M)
    | _ => none)
  | .ixor => (match st with
    | .int y :: .int x :: st => some (pc + n, ls, .int (x ^^^ y) :: st, M)
    | _ => none)
  | .ishl => (match st with
    | .int y :: .int x :: st => some (pc + n, ls, .int (x <<< (y &&& 31)) :: st, M)
    | _ => none)
  | .ishr => (match st with
    | .int y :: .int x :: st => some (pc + n, ls, .int (x >>> (y &&& 31)) :: st, M)
    | _ => none)
  | .iushr => (match st with
    | .int y :: .int x :: st => some (pc + n, ls, .int (x.toUInt32 >>> (y.toUInt32 &&& Int32.toUInt32 31)).toInt32 :: st, M)
    | _ => none)
  | .ladd => (match st with
    | .long y :: .long x :: st => some (pc + n, ls, .long (x + y) :: st, M)
    | _ => none)
  | .lsub => (match st with
    | .long y :: .long x :: st => some (pc + n, ls, .long (x - y) :: st, M)
    | _ => none)
  | .lmul => (match st with
    | .long y :: .long x :: st => some (pc + n, ls, .long (x * y) :: st, M)
    | _ => none)
  | .land => (match st with
    | .long y :: .long x :: st => some (pc + n, ls, .long (x &&& y) :: st, M)
    | _ => none)
  | .lor => (match st with
    | .long y :: .long x :: st => some (pc + n, ls, .long (x ||| y) :: st, M)
    | _ => none)
  | .lshl => (match st with
    | .int y :: .long x :: st => some (pc + n, ls, .long (x <<< (y.toInt64 &&& 63)) :: st, M)
    | _ => none)
  | .lshr => (match st with
    | .int y :: .long x :: st => some (pc + n, ls, .long (x >>> (y.toInt64 &&& 63)) :: st, M)
    | _ => none)
  | .l2i => (match st with
    | .long x :: st => some (pc + n, ls, .int x.toInt32 :: st, M)
    | _ => none)
  | .laload => (match st with
    | .int i :: .ref a :: st => (match am_ll a i M with
      | some x => some (pc + n, ls, .long x :: st, M)
      | none => none)
    | _ => none)
  | .lastore => (match st with
    | .long x :: .int i :: .ref a :: st => (match am_lst a i x M with
      | some M' => some (pc + n, ls, st, M')
      | none => none)
    | _ => none)
  | .lcmp => (match st with
    | .long y :: .long x :: st => some (pc + n, ls, .int (lg_cmp x y) :: st, M)
    | _ => none)
  | .i2l => (match st with
    | .int x :: st => some (pc + n, ls, .long x.toInt64 :: st, M)
    | _ => none)
  | .i2c => (match st with
    | .int x :: st => some (pc + n, ls, .int (x.toUInt32 % 65536).toInt32 :: st, M)
    | _ => none)
  | .dup => (match st with
    | .int x :: st => some (pc + n, ls, .int x :: .int x :: st, M)
    | .ref x :: st => some (pc + n, ls, .ref x :: .ref x :: st, M)
    | _ => none)
  | .dup2 => (match st with
    | .int x :: .ref y :: st => some (pc + n, ls, .int x :: .ref y :: .int x :: .ref y :: st, M)
    | _ => none)
  | .pop => (match st with
    | .int _ :: st => some (pc + n, ls, st, M)
    | _ => none)
  | .goto off => (match am_tgo pc off with
    | some tg => some (tg, ls, st, M)
    | none => none)
  | .ifCond c off => (match st with
    | .int x :: st => (match am_tgo pc off with
      | some tg => some (am_br c x 0 tg (pc + n), ls, st, M)
      | none => none)
    | _ => none)
  | .if_icmp c off => (match st with
    | .int y :: .int x :: st => (match am_tgo pc off with
      | some tg => some (am_br c x y tg (pc + n), ls, st, M)
      | none => none)
    | _ => none)
  | .tableswitch d lo hi os => (match st with
    | .int x :: st => (match am_tgo pc (am_sw d lo hi os x.toInt) with
      | some tg => some (tg, ls, st, M)
      | none => none)
    | _ => none)
  | .lookupswitch d ps => (match st with
    | .int x :: st => (match am_tgo pc (Op.lookupswitch.offset ps.toList d x.toInt) with
      | some tg => some (tg, ls, st, M)
      | none => none)
    | _ => none)
  | .getstatic k => (match am_gs ow k with
    | some v => some (pc + n, ls, v :: st, M)
    | none => none)
  | .getfield k => (match st with
    | .ref a :: st => (match am_gf ow k a M with
      | some v => some (pc + n, ls, v :: st, M)
      | none => none)
    | _ => none)
  | .putfield k => (match st with
    | v :: .ref a :: st => (match am_pf ow k a v M with
      | some M' => some (pc + n, ls, st, M')
      | none => none)
    | _ => none)
  | .arraylength => (match st with
    | .ref a :: st => (match am_len a M with
      | some x => some (pc + n, ls, .int x :: st, M)
      | none => none)
    | _ => none)
  | .iaload => (match st with
    | .int i :: .ref a :: st => (match am_il a i M with
      | some x => some (pc + n, ls, .int x :: st, M)
      | none => none)
    | _ => none)
  | .baload => (match st with
    | .int i :: .ref a :: st => (match am_bl a i with
      | some x => some (pc + n, ls, .int x :: st, M)
      | none => none)
    | _ => none)
  | .iastore => (match st with
    | .int x :: .int i :: .ref a :: st => (match am_is a i x M with
      | some M' => some (pc + n, ls, st, M')
      | none => none)
    | _ => none)
  | _ => none
def am_step (t : am_T) (c : am_C) : Option am_C := match am_as (am_cd t) c.1 with
  | some (i, n) => am_ex (am_ow t) i n c.1 c.2.1 c.2.2.1 c.2.2.2
  | none => none
/-- arraycopy between two arrays -/
def am_cpm (M : am_M) (a0 a : Nat) (sp dp n : Nat) : am_M := fun b j => if b = a then va_cpy (M a0) (M a) sp dp n j else M b j
def am_cp (t : am_T) (c c' : am_C) : Prop := ∃ (k : Nat) (a0 a n0 n1 : Nat) (sp dp n : Int32), am_as (am_cd t) c.1 = some (.invokestatic k, 3) ∧ am_ac (am_ow t) k = true ∧ c.2.2.1 = [.int n, .int dp, .ref a, .int sp, .ref a0] ∧ am_al a0 = some n0 ∧ am_al a = some n1 ∧
  ¬ sp < 0 ∧ ¬ dp < 0 ∧ ¬ n < 0 ∧ sp.toNatClampNeg + n.toNatClampNeg ≤ n0 ∧ dp.toNatClampNeg + n.toNatClampNeg ≤ n1 ∧ c' = (c.1 + 3, c.2.1, [], am_cpm c.2.2.2 a0 a sp.toNatClampNeg dp.toNatClampNeg n.toNatClampNeg)
/-- Math.min -/
def am_mn (t : am_T) (c c' : am_C) : Prop := ∃ (k : Nat) (x y : Int32) (st : List Value), am_as (am_cd t) c.1 = some (.invokestatic k, 3) ∧ am_mnl (am_ow t) k = true ∧ c.2.2.1 = .int y :: .int x :: st ∧ (st.map fun v => v.category).sum ≤ 8 ∧ c' = (c.1 + 3, c.2.1, .int (if y < x then y else x) :: st, c.2.2.2)
/-- locals that nobody reads any more -/
def am_fg (c c' : am_C) : Prop := ∃ ls' : List Value, ls'.length = c.2.1.length ∧ (∀ (i : Nat) (v : Value), ls'[i]? = some v → v = .null ∨ c.2.1[i]? = some v) ∧ c' = (c.1, ls', c.2.2.1, c.2.2.2)
def am_oth (t : am_T) (c c' : am_C) : Prop := am_cp t c c' ∨ am_mn t c c' ∨ am_fg c c'
abbrev am_Rn : Type := am_T → List Value → am_M → Option Value → am_M → Prop
def am_cw (st : List Value) : Nat := (st.map fun v => v.category).sum
/-- the receiver is an object of the class -/
def am_rv (ow : Nat) (av : List Value) : Bool := match av with
  | .ref a :: _ => (match am_LL[a]? with
    | some (.inr (ci, _)) => Nat.beq ci ow
    | _ => Nat.beq ow 14 && Nat.ble 6000 a && Nat.blt a 6009)
  | _ => false
/-- a call, by what is known of the method that is called -/
def am_cal (R : am_Rn) (t : am_T) (c c' : am_C) : Prop := ∃ (i : Instr) (k : Nat) (t' : am_T) (av rest : List Value) (rv : Option Value) (M' : am_M), am_as (am_cd t) c.1 = some (i, 3) ∧ am_iv i = some k ∧ am_ml (am_ow t) k = some t' ∧ c.2.2.1 = av.reverse ++ rest ∧ am_cw rest ≤ 8 ∧ (am_vi i = true → am_rv (am_ow t') av = true) ∧
  R t' av c.2.2.2 rv M' ∧ c' = (c.1 + 3, c.2.1, rv.toList ++ rest, M')
def am_go (R : am_Rn) (t : am_T) : Nat → am_C → am_C → Prop
  | 0, c, c' => c = c'
  | k + 1, c, c' => ∃ c1, (am_step t c = some c1 ∨ am_oth t c c1 ∨ am_cal R t c c1) ∧ am_go R t k c1 c'
/-- the answer at the end -/
def am_ret (t : am_T) (c : am_C) (rv : Option Value) : Prop := match rv with
  | none => am_as (am_cd t) c.1 = some (.return_, 1) ∧ c.2.2.1 = [] ∧ am_rt t = none
  | some (.int x) => am_as (am_cd t) c.1 = some (.ireturn, 1) ∧ c.2.2.1 = [.int x] ∧ ∃ ty, am_rt t = some ty ∧ narrow ty (.int x) = .int x
  | some (.long x) => am_as (am_cd t) c.1 = some (.lreturn, 1) ∧ c.2.2.1 = [.long x] ∧ am_rt t = some .long
  | some (.ref x) => am_as (am_cd t) c.1 = some (.areturn, 1) ∧ c.2.2.1 = [.ref x] ∧ False
  | _ => False
def am_sl1 (vs : List Value) : List Value := vs.flatMap fun v => if v.category = 2 then [v, .null] else [v]
/-- the locals with which a method begins -/
def am_ent (n : Nat) (av : List Value) : List Value := am_sl1 av ++ List.replicate (n - (am_sl1 av).length) .null
def am_run : Nat → am_Rn
  | 0 => fun _ _ _ _ _ => False
  | d + 1 => fun t av M rv M' => ((am_sl1 av).length ≤ am_mL t ∧ av.length = am_ar t) ∧ ∃ (k : Nat) (c : am_C), am_go (am_run d) t k (0, am_ent (am_mL t) av, [], M) c ∧ am_ret t c rv ∧ c.2.2.2 = M'
def am_call : am_Rn := fun t av M rv M' => ∃ d, am_run d t av M rv M'
/-- from here the method ends, and Q holds of the answer and the memory -/
def am_x (t : am_T) (c : am_C) (Q : Option Value → am_M → Prop) : Prop := ∃ (d k : Nat) (c' : am_C) (rv : Option Value), am_go (am_run d) t k c c' ∧ am_ret t c' rv ∧ Q rv c'.2.2.2
/-! its rules -/
theorem am_go_mono {R R' : am_Rn} (h : ∀ t av M rv M', R t av M rv M' → R' t av M rv M') (t : am_T) : ∀ (k : Nat) (c c' : am_C), am_go R t k c c' → am_go R' t k c c' := by
  intro k
  induction k with
  | zero => intro c c' hg; exact hg
  | succ k ih =>
    intro c c' hg
    obtain ⟨c1, h1, h2⟩ := hg
    refine ⟨c1, ?_, ih _ _ h2⟩
    rcases h1 with h1 | h1 | h1
    · exact Or.inl h1
    · exact Or.inr (Or.inl h1)
    · obtain ⟨i, k0, t', av, rest, rv, M', a1, a2, a3, a4, a5, a8, a6, a7⟩ := h1
      exact Or.inr (Or.inr ⟨i, k0, t', av, rest, rv, M', a1, a2, a3, a4, a5, a8, h _ _ _ _ _ a6, a7⟩)
theorem am_run_succ : ∀ (d : Nat) (t : am_T) (av : List Value) (M : am_M) (rv : Option Value) (M' : am_M), am_run d t av M rv M' → am_run (d + 1) t av M rv M' := by
  intro d
  induction d with
  | zero => intro t av M rv M' h; exact h.elim
  | succ d ih =>
    intro t av M rv M' h
    obtain ⟨h0, k, c, h1, h2, h3⟩ := h
    exact ⟨h0, k, c, am_go_mono ih t k _ _ h1, h2, h3⟩
theorem am_run_le {d d' : Nat} (h : d ≤ d') {t : am_T} {av : List Value} {M : am_M} {rv : Option Value} {M' : am_M} (hr : am_run d t av M rv M') : am_run d' t av M rv M' := by
  induction h with
  | refl => exact hr
  | step _ ih => exact am_run_succ _ _ _ _ _ _ ih
theorem am_go_le {d d' : Nat} (h : d ≤ d') {t : am_T} {k : Nat} {c c' : am_C} (hg : am_go (am_run d) t k c c') : am_go (am_run d') t k c c' := am_go_mono (fun _ _ _ _ _ => am_run_le h) t k c c' hg
def am_steps (t : am_T) : Nat → am_C → Option am_C
  | 0, c => some c
  | n + 1, c => match am_step t c with
    | some c' => am_steps t n c'
    | none => none
theorem am_x1 {t : am_T} {c c1 : am_C} {Q : Option Value → am_M → Prop} (h : am_step t c = some c1) (k : am_x t c1 Q) : am_x t c Q := by
  obtain ⟨d, n, c', rv, h1, h2, h3⟩ := k
  exact ⟨d, n + 1, c', rv, ⟨c1, Or.inl h, h1⟩, h2, h3⟩
theorem am_xn (n : Nat) {t : am_T} {c c1 : am_C} {Q : Option Value → am_M → Prop} (h : am_steps t n c = some c1) (k : am_x t c1 Q) : am_x t c Q := by
  induction n generalizing c with
  | zero => cases h; exact k
  | succ n ih =>
    unfold am_steps at h
    cases hs : am_step t c with
    | none => rw [hs] at h; cases h
    | some c2 => rw [hs] at h; exact am_x1 hs (ih h)
theorem am_xcp {t : am_T} {c c1 : am_C} {Q : Option Value → am_M → Prop} (h : am_oth t c c1) (k : am_x t c1 Q) : am_x t c Q := by
  obtain ⟨d, n, c', rv, h1, h2, h3⟩ := k
  exact ⟨d, n + 1, c', rv, ⟨c1, Or.inr (Or.inl h), h1⟩, h2, h3⟩
theorem am_xc {t : am_T} {pc : Nat} {ls av rest st : List Value} {M M' : am_M} {rv : Option Value} {Q : Option Value → am_M → Prop} (t' : am_T) (i : Instr) (k : Nat) (h1 : am_as (am_cd t) pc = some (i, 3)) (h2 : am_iv i = some k) (h3 : am_ml (am_ow t) k = some t') (h4 : st = av.reverse ++ rest) (h5 : am_cw rest ≤ 8) (h8 : am_vi i = true → am_rv (am_ow t') av = true)
    (h6 : am_call t' av M rv M') (kk : am_x t (pc + 3, ls, rv.toList ++ rest, M') Q) : am_x t (pc, ls, st, M) Q := by
  obtain ⟨d0, h6⟩ := h6
  obtain ⟨d, n, c', r2, g1, g2, g3⟩ := kk
  exact ⟨max d0 d, n + 1, c', r2, ⟨_, Or.inr (Or.inr ⟨i, k, t', av, rest, rv, M', h1, h2, h3, h4, h5, h8, am_run_le (Nat.le_max_left _ _) h6, rfl⟩), am_go_le (Nat.le_max_right _ _) g1⟩, g2, g3⟩
/-- a local is forgotten -/
theorem am_xf (i : Nat) {t : am_T} {pc : Nat} {ls st : List Value} {M : am_M} {Q : Option Value → am_M → Prop} (k : am_x t (pc, ls.set i .null, st, M) Q) : am_x t (pc, ls, st, M) Q := by
  refine am_xcp (c1 := (pc, ls.set i .null, st, M)) (Or.inr (Or.inr ⟨ls.set i .null, List.length_set .., fun j v h => ?_, rfl⟩)) k
  by_cases hj : i = j
  · subst hj
    have hl := (List.getElem?_eq_some_iff.mp h).1
    rw [List.length_set] at hl
    rw [List.getElem?_set_self hl] at h
    exact Or.inl (Option.some.inj h).symm
  · rw [List.getElem?_set_ne hj] at h
    exact Or.inr h
theorem am_xr {t : am_T} {c : am_C} {Q : Option Value → am_M → Prop} (rv : Option Value) (h : am_ret t c rv) (hq : Q rv c.2.2.2) : am_x t c Q := ⟨0, 0, c, rv, rfl, h, hq⟩
theorem am_call_of {t : am_T} {av : List Value} {M M' : am_M} {rv : Option Value} (h0 : (am_sl1 av).length ≤ am_mL t ∧ av.length = am_ar t) (h : am_x t (0, am_ent (am_mL t) av, [], M) (fun r m => r = rv ∧ m = M')) : am_call t av M rv M' := by
  obtain ⟨d, k, c', r, h1, h2, h3, h4⟩ := h
  subst h3
  exact ⟨d + 1, h0, k, c', h1, h2, h4⟩
theorem am_xif {t : am_T} {P : Prop} [Decidable P] {a b : Nat} {ls st : List Value} {M : am_M} {Q : Option Value → am_M → Prop} (ht : P → am_x t (a, ls, st, M) Q) (hf : ¬ P → am_x t (b, ls, st, M) Q) : am_x t (if P then a else b, ls, st, M) Q := by
  by_cases h : P
  · rw [if_pos h]; exact ht h
  · rw [if_neg h]; exact hf h
theorem am_xw {t : am_T} {c : am_C} {Q Q' : Option Value → am_M → Prop} (h : am_x t c Q) (hq : ∀ r m, Q r m → Q' r m) : am_x t c Q' := by
  obtain ⟨d, k, c', r, h1, h2, h3⟩ := h
  exact ⟨d, k, c', r, h1, h2, hq _ _ h3⟩
theorem am_lg_hl (x : Int64) : am_lg (am_hi x) (am_lw x) = x := by
  apply Int64.toInt_inj.mp
  have h1 := Int64.le_toInt x
  have h2 := Int64.toInt_lt x
  unfold am_lg am_hi am_lw
  rw [Int64.toInt_ofInt, Int32.toInt_ofInt, Int32.toInt_ofInt]
  have e1 : (x.toInt / 4294967296).bmod (2 ^ 32) = x.toInt / 4294967296 := Int.bmod_eq_of_le (by omega) (by omega)
  have e2 : (x.toInt % 4294967296).bmod (2 ^ 32) % 4294967296 = x.toInt % 4294967296 := by
    have := Int.bmod_emod (x := x.toInt % 4294967296) (m := 2 ^ 32)
    omega
  rw [show Int32.size = 2 ^ 32 from rfl, show Int64.size = 2 ^ 64 from rfl, e1, e2]
  have e3 : x.toInt / 4294967296 * 4294967296 + x.toInt % 4294967296 = x.toInt := by omega
  rw [e3]
  exact Int.bmod_eq_of_le (by omega) (by omega)
theorem am_up_self (M : am_M) (a k : Nat) (x : Int32) : am_up M a k x a k = x := by simp [am_up]
theorem am_up_ne (M : am_M) (a k : Nat) (x : Int32) {b j : Nat} (h : ¬ (b = a ∧ j = k)) : am_up M a k x b j = M b j := by
  unfold am_up
  by_cases hb : b = a
  · rw [if_pos hb, if_neg (fun q => h ⟨hb, q⟩)]
  · rw [if_neg hb]
