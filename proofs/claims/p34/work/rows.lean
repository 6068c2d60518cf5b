section
-- ===== PART A: goes FIRST, ahead of the names: the tables' words, and 'selects' of the private methods out of them =====
/-- a private method of a class that the tables say can be made, by its rows of tables_1 -/
def lw_okq (q : MethodName × Nat) : Prop := (q.1.cls ≠ "java/lang/invoke/MethodHandle" ∧ q.1.cls ≠ "java/lang/invoke/VarHandle") ∧ Cond.instantiable q.1.cls q.2 ∈ tables_1 ∧ Cond.privateMethod q.1 ∈ tables_1 ∧ Cond.instanceMethod q.1 ∈ tables_1
theorem lw_p0 : lw_okq (⟨"StatuteBook$Archive", "putAway", "(ILStatuteBook$Amendments;)V"⟩, 4) := ⟨⟨by decide +kernel, by decide +kernel⟩, List.mem_of_getElem? (i := 108) (by decide +kernel), List.mem_of_getElem? (i := 239) (by decide +kernel), List.mem_of_getElem? (i := 240) (by decide +kernel)⟩
theorem lw_p1 : lw_okq (⟨"StatuteBook", "consolidate", "(II)V"⟩, 7) := ⟨⟨by decide +kernel, by decide +kernel⟩, List.mem_of_getElem? (i := 19) (by decide +kernel), List.mem_of_getElem? (i := 284) (by decide +kernel), List.mem_of_getElem? (i := 285) (by decide +kernel)⟩
theorem lw_p2 : lw_okq (⟨"StatuteBook$Law", "carryOut", "(LStatuteBook$Amendments;II)V"⟩, 11) := ⟨⟨by decide +kernel, by decide +kernel⟩, List.mem_of_getElem? (i := 129) (by decide +kernel), List.mem_of_getElem? (i := 304) (by decide +kernel), List.mem_of_getElem? (i := 305) (by decide +kernel)⟩
theorem lw_p3 : lw_okq (⟨"StatuteBook$Law", "holder", "(I)I"⟩, 11) := ⟨⟨by decide +kernel, by decide +kernel⟩, List.mem_of_getElem? (i := 129) (by decide +kernel), List.mem_of_getElem? (i := 316) (by decide +kernel), List.mem_of_getElem? (i := 317) (by decide +kernel)⟩
theorem lw_p4 : lw_okq (⟨"StatuteBook$Law", "resolves", "(LStatuteBook$Amendments;I)Z"⟩, 11) := ⟨⟨by decide +kernel, by decide +kernel⟩, List.mem_of_getElem? (i := 129) (by decide +kernel), List.mem_of_getElem? (i := 321) (by decide +kernel), List.mem_of_getElem? (i := 322) (by decide +kernel)⟩
theorem lw_p5 : lw_okq (⟨"StatuteBook$Law", "reason", "(LStatuteBook$Amendments;IIZ)I"⟩, 11) := ⟨⟨by decide +kernel, by decide +kernel⟩, List.mem_of_getElem? (i := 129) (by decide +kernel), List.mem_of_getElem? (i := 326) (by decide +kernel), List.mem_of_getElem? (i := 327) (by decide +kernel)⟩
theorem lw_p6 : lw_okq (⟨"StatuteBook$Law", "perform", "(LStatuteBook$Amendments;II)V"⟩, 11) := ⟨⟨by decide +kernel, by decide +kernel⟩, List.mem_of_getElem? (i := 129) (by decide +kernel), List.mem_of_getElem? (i := 334) (by decide +kernel), List.mem_of_getElem? (i := 335) (by decide +kernel)⟩
theorem lw_p7 : lw_okq (⟨"StatuteBook$Law", "setText", "(II)V"⟩, 11) := ⟨⟨by decide +kernel, by decide +kernel⟩, List.mem_of_getElem? (i := 129) (by decide +kernel), List.mem_of_getElem? (i := 338) (by decide +kernel), List.mem_of_getElem? (i := 339) (by decide +kernel)⟩
theorem lw_p8 : lw_okq (⟨"StatuteBook$Law", "change", "(III)V"⟩, 11) := ⟨⟨by decide +kernel, by decide +kernel⟩, List.mem_of_getElem? (i := 129) (by decide +kernel), List.mem_of_getElem? (i := 343) (by decide +kernel), List.mem_of_getElem? (i := 344) (by decide +kernel)⟩
theorem lw_p9 : lw_okq (⟨"StatuteBook$Law", "arrange", "()V"⟩, 11) := ⟨⟨by decide +kernel, by decide +kernel⟩, List.mem_of_getElem? (i := 129) (by decide +kernel), List.mem_of_getElem? (i := 347) (by decide +kernel), List.mem_of_getElem? (i := 348) (by decide +kernel)⟩
theorem lw_p10 : lw_okq (⟨"StatuteBook", "clausePart", "(II)I"⟩, 7) := ⟨⟨by decide +kernel, by decide +kernel⟩, List.mem_of_getElem? (i := 19) (by decide +kernel), List.mem_of_getElem? (i := 363) (by decide +kernel), List.mem_of_getElem? (i := 364) (by decide +kernel)⟩
theorem lw_p11 : lw_okq (⟨"StatuteBook", "consolidateFully", "()V"⟩, 7) := ⟨⟨by decide +kernel, by decide +kernel⟩, List.mem_of_getElem? (i := 19) (by decide +kernel), List.mem_of_getElem? (i := 396) (by decide +kernel), List.mem_of_getElem? (i := 397) (by decide +kernel)⟩
theorem lw_p12 : lw_okq (⟨"StatuteBook", "countPart", "(I)I"⟩, 7) := ⟨⟨by decide +kernel, by decide +kernel⟩, List.mem_of_getElem? (i := 19) (by decide +kernel), List.mem_of_getElem? (i := 400) (by decide +kernel), List.mem_of_getElem? (i := 401) (by decide +kernel)⟩
theorem lw_p13 : lw_okq (⟨"StatuteBook$Reader", "readOperation", "()V"⟩, 4) := ⟨⟨by decide +kernel, by decide +kernel⟩, List.mem_of_getElem? (i := 27) (by decide +kernel), List.mem_of_getElem? (i := 526) (by decide +kernel), List.mem_of_getElem? (i := 527) (by decide +kernel)⟩
theorem lw_p14 : lw_okq (⟨"StatuteBook$Reader", "skipBlanks", "()V"⟩, 4) := ⟨⟨by decide +kernel, by decide +kernel⟩, List.mem_of_getElem? (i := 27) (by decide +kernel), List.mem_of_getElem? (i := 530) (by decide +kernel), List.mem_of_getElem? (i := 531) (by decide +kernel)⟩
theorem lw_p15 : lw_okq (⟨"StatuteBook$Reader", "readKind", "()I"⟩, 4) := ⟨⟨by decide +kernel, by decide +kernel⟩, List.mem_of_getElem? (i := 27) (by decide +kernel), List.mem_of_getElem? (i := 543) (by decide +kernel), List.mem_of_getElem? (i := 544) (by decide +kernel)⟩
def lw_privs_1 : List (MethodName × Nat) := [(⟨"StatuteBook$Archive", "putAway", "(ILStatuteBook$Amendments;)V"⟩, 4), (⟨"StatuteBook", "consolidate", "(II)V"⟩, 7), (⟨"StatuteBook$Law", "carryOut", "(LStatuteBook$Amendments;II)V"⟩, 11), (⟨"StatuteBook$Law", "holder", "(I)I"⟩, 11), (⟨"StatuteBook$Law", "resolves", "(LStatuteBook$Amendments;I)Z"⟩, 11), (⟨"StatuteBook$Law", "reason", "(LStatuteBook$Amendments;IIZ)I"⟩, 11), (⟨"StatuteBook$Law", "perform", "(LStatuteBook$Amendments;II)V"⟩, 11), (⟨"StatuteBook$Law", "setText", "(II)V"⟩, 11), (⟨"StatuteBook$Law", "change", "(III)V"⟩, 11), (⟨"StatuteBook$Law", "arrange", "()V"⟩, 11), (⟨"StatuteBook", "clausePart", "(II)I"⟩, 7), (⟨"StatuteBook", "consolidateFully", "()V"⟩, 7), (⟨"StatuteBook", "countPart", "(I)I"⟩, 7), (⟨"StatuteBook$Reader", "readOperation", "()V"⟩, 4), (⟨"StatuteBook$Reader", "skipBlanks", "()V"⟩, 4), (⟨"StatuteBook$Reader", "readKind", "()I"⟩, 4)]
theorem lw_r1 : ∀ q ∈ lw_privs_1, lw_okq q := List.forall_mem_cons.mpr ⟨lw_p0, List.forall_mem_cons.mpr ⟨lw_p1, List.forall_mem_cons.mpr ⟨lw_p2, List.forall_mem_cons.mpr ⟨lw_p3, List.forall_mem_cons.mpr ⟨lw_p4, List.forall_mem_cons.mpr ⟨lw_p5, List.forall_mem_cons.mpr ⟨lw_p6, List.forall_mem_cons.mpr ⟨lw_p7, List.forall_mem_cons.mpr ⟨lw_p8, List.forall_mem_cons.mpr ⟨lw_p9, List.forall_mem_cons.mpr ⟨lw_p10, List.forall_mem_cons.mpr ⟨lw_p11, List.forall_mem_cons.mpr ⟨lw_p12, List.forall_mem_cons.mpr ⟨lw_p13, List.forall_mem_cons.mpr ⟨lw_p14, List.forall_mem_cons.mpr ⟨lw_p15, fun _ h => absurd h List.not_mem_nil⟩⟩⟩⟩⟩⟩⟩⟩⟩⟩⟩⟩⟩⟩⟩⟩
theorem lw_p16 : lw_okq (⟨"StatuteBook$Reader", "passes", "(Ljava/lang/String;)Z"⟩, 4) := ⟨⟨by decide +kernel, by decide +kernel⟩, List.mem_of_getElem? (i := 27) (by decide +kernel), List.mem_of_getElem? (i := 548) (by decide +kernel), List.mem_of_getElem? (i := 549) (by decide +kernel)⟩
theorem lw_p17 : lw_okq (⟨"StatuteBook$Reader", "fail", "(I)V"⟩, 4) := ⟨⟨by decide +kernel, by decide +kernel⟩, List.mem_of_getElem? (i := 27) (by decide +kernel), List.mem_of_getElem? (i := 607) (by decide +kernel), List.mem_of_getElem? (i := 608) (by decide +kernel)⟩
theorem lw_p18 : lw_okq (⟨"StatuteBook$Reader", "readNumber", "()I"⟩, 4) := ⟨⟨by decide +kernel, by decide +kernel⟩, List.mem_of_getElem? (i := 27) (by decide +kernel), List.mem_of_getElem? (i := 611) (by decide +kernel), List.mem_of_getElem? (i := 612) (by decide +kernel)⟩
theorem lw_p19 : lw_okq (⟨"StatuteBook$Reader", "readDigits", "(I)I"⟩, 4) := ⟨⟨by decide +kernel, by decide +kernel⟩, List.mem_of_getElem? (i := 27) (by decide +kernel), List.mem_of_getElem? (i := 615) (by decide +kernel), List.mem_of_getElem? (i := 616) (by decide +kernel)⟩
theorem lw_p20 : lw_okq (⟨"StatuteBook$Reader", "readWords", "()V"⟩, 4) := ⟨⟨by decide +kernel, by decide +kernel⟩, List.mem_of_getElem? (i := 27) (by decide +kernel), List.mem_of_getElem? (i := 628) (by decide +kernel), List.mem_of_getElem? (i := 629) (by decide +kernel)⟩
theorem lw_p21 : lw_okq (⟨"StatuteBook$Reader", "isAtWord", "()Z"⟩, 4) := ⟨⟨by decide +kernel, by decide +kernel⟩, List.mem_of_getElem? (i := 27) (by decide +kernel), List.mem_of_getElem? (i := 632) (by decide +kernel), List.mem_of_getElem? (i := 633) (by decide +kernel)⟩
theorem lw_p22 : lw_okq (⟨"StatuteBook$Reader", "expect", "(Ljava/lang/String;)V"⟩, 4) := ⟨⟨by decide +kernel, by decide +kernel⟩, List.mem_of_getElem? (i := 27) (by decide +kernel), List.mem_of_getElem? (i := 642) (by decide +kernel), List.mem_of_getElem? (i := 643) (by decide +kernel)⟩
theorem lw_p23 : lw_okq (⟨"StatuteBook$Reader", "readPlain", "()I"⟩, 4) := ⟨⟨by decide +kernel, by decide +kernel⟩, List.mem_of_getElem? (i := 27) (by decide +kernel), List.mem_of_getElem? (i := 648) (by decide +kernel), List.mem_of_getElem? (i := 649) (by decide +kernel)⟩
theorem lw_p24 : lw_okq (⟨"StatuteBook$Reader", "readSaving", "()V"⟩, 4) := ⟨⟨by decide +kernel, by decide +kernel⟩, List.mem_of_getElem? (i := 27) (by decide +kernel), List.mem_of_getElem? (i := 653) (by decide +kernel), List.mem_of_getElem? (i := 654) (by decide +kernel)⟩
theorem lw_p25 : lw_okq (⟨"StatuteBook$Reader", "readSemicolon", "()Z"⟩, 4) := ⟨⟨by decide +kernel, by decide +kernel⟩, List.mem_of_getElem? (i := 27) (by decide +kernel), List.mem_of_getElem? (i := 658) (by decide +kernel), List.mem_of_getElem? (i := 659) (by decide +kernel)⟩
theorem lw_p26 : lw_okq (⟨"StatuteBook", "addDraft", "(I)I"⟩, 7) := ⟨⟨by decide +kernel, by decide +kernel⟩, List.mem_of_getElem? (i := 19) (by decide +kernel), List.mem_of_getElem? (i := 662) (by decide +kernel), List.mem_of_getElem? (i := 663) (by decide +kernel)⟩
theorem lw_p27 : lw_okq (⟨"StatuteBook", "presentWord", "(II)I"⟩, 7) := ⟨⟨by decide +kernel, by decide +kernel⟩, List.mem_of_getElem? (i := 19) (by decide +kernel), List.mem_of_getElem? (i := 699) (by decide +kernel), List.mem_of_getElem? (i := 700) (by decide +kernel)⟩
def lw_privs_2 : List (MethodName × Nat) := [(⟨"StatuteBook$Reader", "passes", "(Ljava/lang/String;)Z"⟩, 4), (⟨"StatuteBook$Reader", "fail", "(I)V"⟩, 4), (⟨"StatuteBook$Reader", "readNumber", "()I"⟩, 4), (⟨"StatuteBook$Reader", "readDigits", "(I)I"⟩, 4), (⟨"StatuteBook$Reader", "readWords", "()V"⟩, 4), (⟨"StatuteBook$Reader", "isAtWord", "()Z"⟩, 4), (⟨"StatuteBook$Reader", "expect", "(Ljava/lang/String;)V"⟩, 4), (⟨"StatuteBook$Reader", "readPlain", "()I"⟩, 4), (⟨"StatuteBook$Reader", "readSaving", "()V"⟩, 4), (⟨"StatuteBook$Reader", "readSemicolon", "()Z"⟩, 4), (⟨"StatuteBook", "addDraft", "(I)I"⟩, 7), (⟨"StatuteBook", "presentWord", "(II)I"⟩, 7)]
theorem lw_r2 : ∀ q ∈ lw_privs_2, lw_okq q := List.forall_mem_cons.mpr ⟨lw_p16, List.forall_mem_cons.mpr ⟨lw_p17, List.forall_mem_cons.mpr ⟨lw_p18, List.forall_mem_cons.mpr ⟨lw_p19, List.forall_mem_cons.mpr ⟨lw_p20, List.forall_mem_cons.mpr ⟨lw_p21, List.forall_mem_cons.mpr ⟨lw_p22, List.forall_mem_cons.mpr ⟨lw_p23, List.forall_mem_cons.mpr ⟨lw_p24, List.forall_mem_cons.mpr ⟨lw_p25, List.forall_mem_cons.mpr ⟨lw_p26, List.forall_mem_cons.mpr ⟨lw_p27, fun _ h => absurd h List.not_mem_nil⟩⟩⟩⟩⟩⟩⟩⟩⟩⟩⟩⟩
def lw_privs : List (MethodName × Nat) := lw_privs_1 ++ (lw_privs_2)
def lw_tbl : List Cond := k2_sels lw_privs ++ tables_1
theorem lw_privs_ok : ∀ q ∈ lw_privs, lw_okq q := by
  show ∀ q ∈ lw_privs_1 ++ (lw_privs_2), lw_okq q
  exact List.forall_mem_append.mpr ⟨lw_r1, lw_r2⟩

/-- the words of the tables that stay, whatever is warmed -/
def am_tbl : List Cond := lw_tbl.filter goodWord
theorem am_mem {w : Cond} {i : Nat} (h : lw_tbl[i]? = some w) (g : goodWord w = true) : w ∈ am_tbl := List.mem_filter.mpr ⟨List.mem_of_getElem? h, g⟩
theorem am_tbl_good : am_tbl.all goodWord = true := List.all_eq_true.mpr fun w h => (List.mem_filter.mp h).2
theorem am_tbl_before {args : Array Value} {s : State} (h : ∀ w ∈ lw_tbl, w.before args s = true) : ∀ w ∈ am_tbl, w.before args s = true := fun w hw => h w (List.mem_filter.mp hw).1
def RX0 : String := "StatuteBook$Amendments"
def TX0 : u_T := fun k => match k with
  | _ => ("StatuteBook$Amendments", "cells", "LStatuteBook$Row;", true)
def tyX0 : Nat → FieldType := fun k => match k with
  | _ => .object "StatuteBook$Row"
abbrev wsX00 : List Cond := u_ws RX0 TX0 1
theorem nmX0 : ∀ a, a < 1 → ∀ b, b < 1 → a ≠ b → (TX0 a).2.1 ≠ (TX0 b).2.1 := by decide +kernel
theorem tyX0_ok : ∀ k, k < 1 → parseFieldDescriptor (TX0 k).2.2.1 = some (tyX0 k) := by decide +kernel
def RX1 : String := "StatuteBook$Archive"
def TX1 : u_T := fun k => match k with
  | 0 => ("StatuteBook$Archive", "cells", "LStatuteBook$Row;", true)
  | 1 => ("StatuteBook$Archive", "states", "I", false)
  | 2 => ("StatuteBook$Archive", "newest", "I", false)
  | _ => ("StatuteBook$Archive", "saved", "I", false)
def tyX1 : Nat → FieldType := fun k => match k with
  | 0 => .object "StatuteBook$Row"
  | 1 => .int
  | 2 => .int
  | _ => .int
abbrev wsX10 : List Cond := u_ws RX1 TX1 4
theorem nmX1 : ∀ a, a < 4 → ∀ b, b < 4 → a ≠ b → (TX1 a).2.1 ≠ (TX1 b).2.1 := by decide +kernel
theorem tyX1_ok : ∀ k, k < 4 → parseFieldDescriptor (TX1 k).2.2.1 = some (tyX1 k) := by decide +kernel
def RX2 : String := "StatuteBook$Draft"
def TX2 : u_T := fun k => match k with
  | 0 => ("StatuteBook$Draft", "cells", "LStatuteBook$Row;", true)
  | 1 => ("StatuteBook$Draft", "size", "I", false)
  | _ => ("StatuteBook$Draft", "inserts", "I", false)
def tyX2 : Nat → FieldType := fun k => match k with
  | 0 => .object "StatuteBook$Row"
  | 1 => .int
  | _ => .int
abbrev wsX20 : List Cond := u_ws RX2 TX2 3
theorem nmX2 : ∀ a, a < 3 → ∀ b, b < 3 → a ≠ b → (TX2 a).2.1 ≠ (TX2 b).2.1 := by decide +kernel
theorem tyX2_ok : ∀ k, k < 3 → parseFieldDescriptor (TX2 k).2.2.1 = some (tyX2 k) := by decide +kernel
def RX3 : String := "StatuteBook$Law"
def TX3 : u_T := fun k => match k with
  | 0 => ("StatuteBook$Law", "codes", "LStatuteBook$Row;", true)
  | 1 => ("StatuteBook$Law", "lastDays", "LStatuteBook$Row;", true)
  | 2 => ("StatuteBook$Law", "lengths", "LStatuteBook$Row;", true)
  | 3 => ("StatuteBook$Law", "texts", "LStatuteBook$Row;", true)
  | 4 => ("StatuteBook$Law", "order", "LStatuteBook$Row;", true)
  | 5 => ("StatuteBook$Law", "statuses", "LStatuteBook$Row;", true)
  | 6 => ("StatuteBook$Law", "affected", "LStatuteBook$Row;", true)
  | 7 => ("StatuteBook$Law", "effects", "LStatuteBook$Row;", true)
  | 8 => ("StatuteBook$Law", "resolved", "LStatuteBook$Row;", true)
  | 9 => ("StatuteBook$Law", "size", "I", false)
  | _ => ("StatuteBook$Law", "effectCount", "I", false)
def tyX3 : Nat → FieldType := fun k => match k with
  | 0 => .object "StatuteBook$Row"
  | 1 => .object "StatuteBook$Row"
  | 2 => .object "StatuteBook$Row"
  | 3 => .object "StatuteBook$Row"
  | 4 => .object "StatuteBook$Row"
  | 5 => .object "StatuteBook$Row"
  | 6 => .object "StatuteBook$Row"
  | 7 => .object "StatuteBook$Row"
  | 8 => .object "StatuteBook$Row"
  | 9 => .int
  | _ => .int
abbrev wsX30 : List Cond := u_ws RX3 TX3 11
theorem nmX3 : ∀ a, a < 11 → ∀ b, b < 11 → a ≠ b → (TX3 a).2.1 ≠ (TX3 b).2.1 := by decide +kernel
theorem tyX3_ok : ∀ k, k < 11 → parseFieldDescriptor (TX3 k).2.2.1 = some (tyX3 k) := by decide +kernel
def RX4 : String := "StatuteBook$Page"
def TX4 : u_T := fun k => match k with
  | 0 => ("StatuteBook$Page", "bytes", "[I", true)
  | _ => ("StatuteBook$Page", "written", "I", false)
def tyX4 : Nat → FieldType := fun k => match k with
  | 0 => .array .int
  | _ => .int
abbrev wsX40 : List Cond := u_ws RX4 TX4 2
theorem nmX4 : ∀ a, a < 2 → ∀ b, b < 2 → a ≠ b → (TX4 a).2.1 ≠ (TX4 b).2.1 := by decide +kernel
theorem tyX4_ok : ∀ k, k < 2 → parseFieldDescriptor (TX4 k).2.2.1 = some (tyX4 k) := by decide +kernel
def RX5 : String := "StatuteBook$Reader"
def TX5 : u_T := fun k => match k with
  | 0 => ("StatuteBook$Reader", "text", "LStatuteBook$Page;", true)
  | 1 => ("StatuteBook$Reader", "draft", "LStatuteBook$Draft;", true)
  | 2 => ("StatuteBook$Reader", "place", "I", false)
  | _ => ("StatuteBook$Reader", "fault", "I", false)
def tyX5 : Nat → FieldType := fun k => match k with
  | 0 => .object "StatuteBook$Page"
  | 1 => .object "StatuteBook$Draft"
  | 2 => .int
  | _ => .int
abbrev wsX50 : List Cond := u_ws RX5 TX5 4
theorem nmX5 : ∀ a, a < 4 → ∀ b, b < 4 → a ≠ b → (TX5 a).2.1 ≠ (TX5 b).2.1 := by decide +kernel
theorem tyX5_ok : ∀ k, k < 4 → parseFieldDescriptor (TX5 k).2.2.1 = some (tyX5 k) := by decide +kernel
def RX6 : String := "StatuteBook$Row"
def TX6 : u_T := fun k => match k with
  | _ => ("StatuteBook$Row", "cells", "[I", true)
def tyX6 : Nat → FieldType := fun k => match k with
  | _ => .array .int
abbrev wsX60 : List Cond := u_ws RX6 TX6 1
theorem nmX6 : ∀ a, a < 1 → ∀ b, b < 1 → a ≠ b → (TX6 a).2.1 ≠ (TX6 b).2.1 := by decide +kernel
theorem tyX6_ok : ∀ k, k < 1 → parseFieldDescriptor (TX6 k).2.2.1 = some (tyX6 k) := by decide +kernel
def RX7 : String := "StatuteBook$Walk"
def TX7 : u_T := fun k => match k with
  | 0 => ("StatuteBook$Walk", "distances", "LStatuteBook$Row;", true)
  | 1 => ("StatuteBook$Walk", "queue", "LStatuteBook$Row;", true)
  | 2 => ("StatuteBook$Walk", "reached", "I", false)
  | _ => ("StatuteBook$Walk", "comesBack", "Z", false)
def tyX7 : Nat → FieldType := fun k => match k with
  | 0 => .object "StatuteBook$Row"
  | 1 => .object "StatuteBook$Row"
  | 2 => .int
  | _ => .boolean
abbrev wsX70 : List Cond := u_ws RX7 TX7 4
theorem nmX7 : ∀ a, a < 4 → ∀ b, b < 4 → a ≠ b → (TX7 a).2.1 ≠ (TX7 b).2.1 := by decide +kernel
theorem tyX7_ok : ∀ k, k < 4 → parseFieldDescriptor (TX7 k).2.2.1 = some (tyX7 k) := by decide +kernel
def RX8 : String := "StatuteBook"
def TX8 : u_T := fun k => match k with
  | 0 => ("StatuteBook", "reader", "LStatuteBook$Reader;", true)
  | 1 => ("StatuteBook", "output", "LStatuteBook$Page;", true)
  | 2 => ("StatuteBook", "book", "LStatuteBook$Amendments;", true)
  | 3 => ("StatuteBook", "archive", "LStatuteBook$Archive;", true)
  | 4 => ("StatuteBook", "law", "LStatuteBook$Law;", true)
  | 5 => ("StatuteBook", "otherLaw", "LStatuteBook$Law;", true)
  | _ => ("StatuteBook", "walk", "LStatuteBook$Walk;", true)
def tyX8 : Nat → FieldType := fun k => match k with
  | 0 => .object "StatuteBook$Reader"
  | 1 => .object "StatuteBook$Page"
  | 2 => .object "StatuteBook$Amendments"
  | 3 => .object "StatuteBook$Archive"
  | 4 => .object "StatuteBook$Law"
  | 5 => .object "StatuteBook$Law"
  | _ => .object "StatuteBook$Walk"
abbrev wsX80 : List Cond := u_ws RX8 TX8 7
theorem nmX8 : ∀ a, a < 7 → ∀ b, b < 7 → a ≠ b → (TX8 a).2.1 ≠ (TX8 b).2.1 := by decide +kernel
theorem tyX8_ok : ∀ k, k < 7 → parseFieldDescriptor (TX8 k).2.2.1 = some (tyX8 k) := by decide +kernel
def RX9 : String := "StatuteBookModel"
def TX9 : u_T := fun k => match k with
  | _ => ("", "", "", false)
def tyX9 : Nat → FieldType := fun k => match k with
  | _ => .int
abbrev wsX90 : List Cond := u_ws RX9 TX9 0
theorem nmX9 : ∀ a, a < 0 → ∀ b, b < 0 → a ≠ b → (TX9 a).2.1 ≠ (TX9 b).2.1 := by decide +kernel
theorem tyX9_ok : ∀ k, k < 0 → parseFieldDescriptor (TX9 k).2.2.1 = some (tyX9 k) := by decide +kernel
theorem am_ws0 : ∀ w ∈ u_ws RX0 TX0 1, w ∈ am_tbl := by
  intro w hw
  obtain ⟨k, hk, rfl⟩ := List.mem_map.mp hw
  have hk := List.mem_range.mp hk
  have h : ∀ k, k < 1 → ∃ i : Nat, lw_tbl[i]? = some (u_lay RX0 TX0 k) ∧ goodWord (u_lay RX0 TX0 k) = true := by
    intro k hk
    match k, hk with
    | 0, _ => exact ⟨132, by decide +kernel, by decide +kernel⟩
    | k + 1, hk => exact absurd hk (by omega)
  obtain ⟨i, h1, h2⟩ := h k hk
  exact am_mem h1 h2
theorem am_ws1 : ∀ w ∈ u_ws RX1 TX1 4, w ∈ am_tbl := by
  intro w hw
  obtain ⟨k, hk, rfl⟩ := List.mem_map.mp hw
  have hk := List.mem_range.mp hk
  have h : ∀ k, k < 4 → ∃ i : Nat, lw_tbl[i]? = some (u_lay RX1 TX1 k) ∧ goodWord (u_lay RX1 TX1 k) = true := by
    intro k hk
    match k, hk with
    | 0, _ => exact ⟨147, by decide +kernel, by decide +kernel⟩
    | 1, _ => exact ⟨149, by decide +kernel, by decide +kernel⟩
    | 2, _ => exact ⟨151, by decide +kernel, by decide +kernel⟩
    | 3, _ => exact ⟨153, by decide +kernel, by decide +kernel⟩
    | k + 4, hk => exact absurd hk (by omega)
  obtain ⟨i, h1, h2⟩ := h k hk
  exact am_mem h1 h2
theorem am_ws2 : ∀ w ∈ u_ws RX2 TX2 3, w ∈ am_tbl := by
  intro w hw
  obtain ⟨k, hk, rfl⟩ := List.mem_map.mp hw
  have hk := List.mem_range.mp hk
  have h : ∀ k, k < 3 → ∃ i : Nat, lw_tbl[i]? = some (u_lay RX2 TX2 k) ∧ goodWord (u_lay RX2 TX2 k) = true := by
    intro k hk
    match k, hk with
    | 0, _ => exact ⟨98, by decide +kernel, by decide +kernel⟩
    | 1, _ => exact ⟨100, by decide +kernel, by decide +kernel⟩
    | 2, _ => exact ⟨102, by decide +kernel, by decide +kernel⟩
    | k + 3, hk => exact absurd hk (by omega)
  obtain ⟨i, h1, h2⟩ := h k hk
  exact am_mem h1 h2
theorem am_ws3 : ∀ w ∈ u_ws RX3 TX3 11, w ∈ am_tbl := by
  intro w hw
  obtain ⟨k, hk, rfl⟩ := List.mem_map.mp hw
  have hk := List.mem_range.mp hk
  have h : ∀ k, k < 11 → ∃ i : Nat, lw_tbl[i]? = some (u_lay RX3 TX3 k) ∧ goodWord (u_lay RX3 TX3 k) = true := by
    intro k hk
    match k, hk with
    | 0, _ => exact ⟨175, by decide +kernel, by decide +kernel⟩
    | 1, _ => exact ⟨177, by decide +kernel, by decide +kernel⟩
    | 2, _ => exact ⟨179, by decide +kernel, by decide +kernel⟩
    | 3, _ => exact ⟨181, by decide +kernel, by decide +kernel⟩
    | 4, _ => exact ⟨183, by decide +kernel, by decide +kernel⟩
    | 5, _ => exact ⟨185, by decide +kernel, by decide +kernel⟩
    | 6, _ => exact ⟨187, by decide +kernel, by decide +kernel⟩
    | 7, _ => exact ⟨189, by decide +kernel, by decide +kernel⟩
    | 8, _ => exact ⟨191, by decide +kernel, by decide +kernel⟩
    | 9, _ => exact ⟨193, by decide +kernel, by decide +kernel⟩
    | 10, _ => exact ⟨195, by decide +kernel, by decide +kernel⟩
    | k + 11, hk => exact absurd hk (by omega)
  obtain ⟨i, h1, h2⟩ := h k hk
  exact am_mem h1 h2
theorem am_ws4 : ∀ w ∈ u_ws RX4 TX4 2, w ∈ am_tbl := by
  intro w hw
  obtain ⟨k, hk, rfl⟩ := List.mem_map.mp hw
  have hk := List.mem_range.mp hk
  have h : ∀ k, k < 2 → ∃ i : Nat, lw_tbl[i]? = some (u_lay RX4 TX4 k) ∧ goodWord (u_lay RX4 TX4 k) = true := by
    intro k hk
    match k, hk with
    | 0, _ => exact ⟨71, by decide +kernel, by decide +kernel⟩
    | 1, _ => exact ⟨73, by decide +kernel, by decide +kernel⟩
    | k + 2, hk => exact absurd hk (by omega)
  obtain ⟨i, h1, h2⟩ := h k hk
  exact am_mem h1 h2
theorem am_ws5 : ∀ w ∈ u_ws RX5 TX5 4, w ∈ am_tbl := by
  intro w hw
  obtain ⟨k, hk, rfl⟩ := List.mem_map.mp hw
  have hk := List.mem_range.mp hk
  have h : ∀ k, k < 4 → ∃ i : Nat, lw_tbl[i]? = some (u_lay RX5 TX5 k) ∧ goodWord (u_lay RX5 TX5 k) = true := by
    intro k hk
    match k, hk with
    | 0, _ => exact ⟨111, by decide +kernel, by decide +kernel⟩
    | 1, _ => exact ⟨113, by decide +kernel, by decide +kernel⟩
    | 2, _ => exact ⟨115, by decide +kernel, by decide +kernel⟩
    | 3, _ => exact ⟨117, by decide +kernel, by decide +kernel⟩
    | k + 4, hk => exact absurd hk (by omega)
  obtain ⟨i, h1, h2⟩ := h k hk
  exact am_mem h1 h2
theorem am_ws6 : ∀ w ∈ u_ws RX6 TX6 1, w ∈ am_tbl := by
  intro w hw
  obtain ⟨k, hk, rfl⟩ := List.mem_map.mp hw
  have hk := List.mem_range.mp hk
  have h : ∀ k, k < 1 → ∃ i : Nat, lw_tbl[i]? = some (u_lay RX6 TX6 k) ∧ goodWord (u_lay RX6 TX6 k) = true := by
    intro k hk
    match k, hk with
    | 0, _ => exact ⟨91, by decide +kernel, by decide +kernel⟩
    | k + 1, hk => exact absurd hk (by omega)
  obtain ⟨i, h1, h2⟩ := h k hk
  exact am_mem h1 h2
theorem am_ws7 : ∀ w ∈ u_ws RX7 TX7 4, w ∈ am_tbl := by
  intro w hw
  obtain ⟨k, hk, rfl⟩ := List.mem_map.mp hw
  have hk := List.mem_range.mp hk
  have h : ∀ k, k < 4 → ∃ i : Nat, lw_tbl[i]? = some (u_lay RX7 TX7 k) ∧ goodWord (u_lay RX7 TX7 k) = true := by
    intro k hk
    match k, hk with
    | 0, _ => exact ⟨208, by decide +kernel, by decide +kernel⟩
    | 1, _ => exact ⟨210, by decide +kernel, by decide +kernel⟩
    | 2, _ => exact ⟨212, by decide +kernel, by decide +kernel⟩
    | 3, _ => exact ⟨214, by decide +kernel, by decide +kernel⟩
    | k + 4, hk => exact absurd hk (by omega)
  obtain ⟨i, h1, h2⟩ := h k hk
  exact am_mem h1 h2
theorem am_ws8 : ∀ w ∈ u_ws RX8 TX8 7, w ∈ am_tbl := by
  intro w hw
  obtain ⟨k, hk, rfl⟩ := List.mem_map.mp hw
  have hk := List.mem_range.mp hk
  have h : ∀ k, k < 7 → ∃ i : Nat, lw_tbl[i]? = some (u_lay RX8 TX8 k) ∧ goodWord (u_lay RX8 TX8 k) = true := by
    intro k hk
    match k, hk with
    | 0, _ => exact ⟨224, by decide +kernel, by decide +kernel⟩
    | 1, _ => exact ⟨226, by decide +kernel, by decide +kernel⟩
    | 2, _ => exact ⟨228, by decide +kernel, by decide +kernel⟩
    | 3, _ => exact ⟨230, by decide +kernel, by decide +kernel⟩
    | 4, _ => exact ⟨232, by decide +kernel, by decide +kernel⟩
    | 5, _ => exact ⟨234, by decide +kernel, by decide +kernel⟩
    | 6, _ => exact ⟨236, by decide +kernel, by decide +kernel⟩
    | k + 7, hk => exact absurd hk (by omega)
  obtain ⟨i, h1, h2⟩ := h k hk
  exact am_mem h1 h2
end
section
/-! the abstract machine's tables: code of every method, where fields, methods and constants stand -/
def am_as {β : Type} : List (Nat × β) → Nat → Option β
  | [], _ => none
  | q :: l, k => bif Nat.beq q.1 k then some q.2 else am_as l k
theorem am_as_mem {β : Type} {l : List (Nat × β)} {k : Nat} {v : β} (h : am_as l k = some v) : (k, v) ∈ l := by
  induction l with
  | nil => cases h
  | cons q l ih =>
    unfold am_as at h
    cases hb : Nat.beq q.1 k with
    | true =>
      rw [hb] at h
      simp only [cond_true, Option.some.injEq] at h
      have := Nat.eq_of_beq_eq_true hb
      subst this; subst h
      exact List.mem_cons_self
    | false =>
      rw [hb] at h
      exact List.mem_cons_of_mem _ (ih h)
/-- name, bytes, locals, answer, class, frames and locals of the room, how many arguments, code (place, instruction, length) -/
abbrev am_T : Type := MethodName × ByteArray × Nat × Option FieldType × Nat × (Nat × Nat × Nat) × List (Nat × Instr × Nat)
abbrev am_nm (t : am_T) : MethodName := t.1
abbrev am_by (t : am_T) : ByteArray := t.2.1
abbrev am_mL (t : am_T) : Nat := t.2.2.1
abbrev am_rt (t : am_T) : Option FieldType := t.2.2.2.1
abbrev am_ow (t : am_T) : Nat := t.2.2.2.2.1
abbrev am_fr (t : am_T) : Nat := t.2.2.2.2.2.1.1
abbrev am_lo (t : am_T) : Nat := t.2.2.2.2.2.1.2.1
abbrev am_ar (t : am_T) : Nat := t.2.2.2.2.2.1.2.2
abbrev am_cd (t : am_T) : List (Nat × Instr × Nat) := t.2.2.2.2.2.2
def R_law : String := "StatuteBookLaw"
def am_cn : Nat → String := fun k => match k with
  | 0 => RX0
  | 1 => RX1
  | 2 => RX2
  | 3 => RX3
  | 4 => RX4
  | 5 => RX5
  | 6 => RX6
  | 7 => RX7
  | 8 => RX8
  | 9 => RX9
  | 10 => R_law
  | 11 => "java/lang/Math"
  | 12 => "java/lang/Integer"
  | 13 => "java/util/Arrays"
  | 14 => "java/lang/String"
  | 15 => "java/lang/StringLatin1"
  | _ => "jdk/internal/util/Preconditions"
def t_SB_revoke : am_T := (⟨RX8, "revoke", "(IZ)I"⟩, prog_1_method_6_code, 3, (some .int), 8, (4, 86, 3), [(0, .aload_n 0, 1), (1, .getfield 28, 3), (4, .iload_n 1, 1), (5, .invokevirtual 99, 3), (8, .ifCond .ne 6, 3), (11, .bipush (-2), 2), (13, .ireturn, 1), (14, .aload_n 0, 1), (15, .getfield 28, 3), (18, .iload_n 1, 1), (19, .invokevirtual 103, 3), (22, .iload_n 2, 1), (23, .if_icmp .ne 6, 3), (26, .bipush (-3), 2), (28, .ireturn, 1), (29, .aload_n 0, 1), (30, .getfield 35, 3), (33, .aload_n 0, 1), (34, .getfield 28, 3), (37, .invokevirtual 88, 3), (40, .aload_n 0, 1), (41, .getfield 28, 3), (44, .aload_n 0, 1), (45, .getfield 28, 3), (48, .invokevirtual 106, 3), (51, .iconst 1, 1), (52, .iload_n 1, 1), (53, .ishl, 1), (54, .ixor, 1), (55, .invokevirtual 109, 3), (58, .iconst 1, 1), (59, .ireturn, 1)])
def t_Amd_has : am_T := (⟨RX0, "has", "(I)Z"⟩, prog_2_method_12_code, 2, (some .boolean), 0, (2, 41, 2), [(0, .iload_n 1, 1), (1, .ifCond .lt 15, 3), (4, .iload_n 1, 1), (5, .aload_n 0, 1), (6, .invokevirtual 31, 3), (9, .if_icmp .ge 7, 3), (12, .iconst 1, 1), (13, .goto 4, 3), (16, .iconst 0, 1), (17, .ireturn, 1)])
def t_Amd_size : am_T := (⟨RX0, "size", "()I"⟩, prog_2_method_2_code, 1, (some .int), 0, (1, 21, 1), [(0, .aload_n 0, 1), (1, .getfield 16, 3), (4, .iconst 0, 1), (5, .invokevirtual 20, 3), (8, .ireturn, 1)])
def t_Row_get : am_T := (⟨RX6, "get", "(I)I"⟩, prog_8_method_2_code, 2, (some .int), 6, (0, 0, 2), [(0, .iload_n 1, 1), (1, .ifCond .lt 21, 3), (4, .iload_n 1, 1), (5, .aload_n 0, 1), (6, .getfield 13, 3), (9, .arraylength, 1), (10, .if_icmp .ge 12, 3), (13, .aload_n 0, 1), (14, .getfield 13, 3), (17, .iload_n 1, 1), (18, .iaload, 1), (19, .goto 4, 3), (22, .iconst 0, 1), (23, .ireturn, 1)])
def t_Amd_isRevoked : am_T := (⟨RX0, "isRevoked", "(I)Z"⟩, prog_2_method_7_code, 2, (some .boolean), 0, (1, 21, 2), [(0, .aload_n 0, 1), (1, .getfield 16, 3), (4, .iconst 3, 1), (5, .invokevirtual 20, 3), (8, .iload_n 1, 1), (9, .ishr, 1), (10, .iconst 1, 1), (11, .iand, 1), (12, .iconst 1, 1), (13, .if_icmp .ne 7, 3), (16, .iconst 1, 1), (17, .goto 4, 3), (20, .iconst 0, 1), (21, .ireturn, 1)])
def t_Arc_push : am_T := (⟨RX1, "push", "(LStatuteBook$Amendments;)V"⟩, prog_3_method_5_code, 2, none, 1, (3, 65, 2), [(0, .aload_n 0, 1), (1, .aload_n 0, 1), (2, .getfield 31, 3), (5, .iconst 1, 1), (6, .iadd, 1), (7, .bipush 10, 2), (9, .irem, 1), (10, .putfield 31, 3), (13, .aload_n 0, 1), (14, .aload_n 0, 1), (15, .getfield 22, 3), (18, .iconst 1, 1), (19, .iadd, 1), (20, .bipush 10, 2), (22, .invokestatic 34, 3), (25, .putfield 22, 3), (28, .aload_n 0, 1), (29, .aload_n 0, 1), (30, .getfield 31, 3), (33, .aload_n 1, 1), (34, .invokevirtual 40, 3), (37, .return_, 1)])
def t_Arc_putAway : am_T := (⟨RX1, "putAway", "(ILStatuteBook$Amendments;)V"⟩, prog_3_method_3_code, 3, none, 1, (2, 43, 3), [(0, .aload_n 0, 1), (1, .getfield 16, 3), (4, .aload_n 2, 1), (5, .getfield 26, 3), (8, .iconst 0, 1), (9, .iload_n 1, 1), (10, .sipush 1605, 3), (13, .imul, 1), (14, .sipush 1605, 3), (17, .invokevirtual 27, 3), (20, .return_, 1)])
def t_Row_take : am_T := (⟨RX6, "take", "(LStatuteBook$Row;III)V"⟩, prog_8_method_5_code, 6, none, 6, (1, 18, 5), [(0, .iload_n 2, 1), (1, .ifCond .lt 24, 3), (4, .iload 4, 2), (6, .ifCond .lt 19, 3), (9, .iload_n 2, 1), (10, .aload_n 1, 1), (11, .getfield 13, 3), (14, .arraylength, 1), (15, .iload 4, 2), (17, .isub, 1), (18, .if_icmp .gt 7, 3), (21, .iconst 1, 1), (22, .goto 4, 3), (25, .iconst 0, 1), (26, .istore 5, 2), (28, .iload 5, 2), (30, .ifCond .eq 34, 3), (33, .iload_n 3, 1), (34, .ifCond .lt 30, 3), (37, .iload_n 3, 1), (38, .aload_n 0, 1), (39, .getfield 13, 3), (42, .arraylength, 1), (43, .iload 4, 2), (45, .isub, 1), (46, .if_icmp .gt 18, 3), (49, .aload_n 1, 1), (50, .getfield 13, 3), (53, .iload_n 2, 1), (54, .aload_n 0, 1), (55, .getfield 13, 3), (58, .iload_n 3, 1), (59, .iload 4, 2), (61, .invokestatic 25, 3), (64, .return_, 1)])
def t_Amd_revoked : am_T := (⟨RX0, "revoked", "()I"⟩, prog_2_method_5_code, 1, (some .int), 0, (1, 21, 1), [(0, .aload_n 0, 1), (1, .getfield 16, 3), (4, .iconst 3, 1), (5, .invokevirtual 20, 3), (8, .ireturn, 1)])
def t_Amd_setRevoked : am_T := (⟨RX0, "setRevoked", "(I)V"⟩, prog_2_method_6_code, 2, none, 0, (1, 22, 2), [(0, .aload_n 0, 1), (1, .getfield 16, 3), (4, .iconst 3, 1), (5, .iload_n 1, 1), (6, .invokevirtual 24, 3), (9, .return_, 1)])
def t_Row_set : am_T := (⟨RX6, "set", "(II)V"⟩, prog_8_method_3_code, 3, none, 6, (0, 0, 3), [(0, .iload_n 1, 1), (1, .ifCond .lt 19, 3), (4, .iload_n 1, 1), (5, .aload_n 0, 1), (6, .getfield 13, 3), (9, .arraylength, 1), (10, .if_icmp .ge 10, 3), (13, .aload_n 0, 1), (14, .getfield 13, 3), (17, .iload_n 1, 1), (18, .iload_n 2, 1), (19, .iastore, 1), (20, .return_, 1)])
def t_SB_commence : am_T := (⟨RX8, "commence", "(II)I"⟩, prog_1_method_7_code, 4, (some .int), 8, (4, 86, 3), [(0, .aload_n 0, 1), (1, .getfield 28, 3), (4, .iload_n 1, 1), (5, .invokevirtual 99, 3), (8, .ifCond .eq 13, 3), (11, .iload_n 2, 1), (12, .sipush 9999, 3), (15, .invokestatic 56, 3), (18, .ifCond .ne 6, 3), (21, .bipush (-2), 2), (23, .ireturn, 1), (24, .aload_n 0, 1), (25, .getfield 28, 3), (28, .iload_n 1, 1), (29, .invokevirtual 112, 3), (32, .istore_n 3, 1), (33, .aload_n 0, 1), (34, .getfield 35, 3), (37, .aload_n 0, 1), (38, .getfield 28, 3), (41, .invokevirtual 88, 3), (44, .aload_n 0, 1), (45, .getfield 28, 3), (48, .iload_n 1, 1), (49, .iload_n 2, 1), (50, .invokevirtual 115, 3), (53, .iload_n 3, 1), (54, .ireturn, 1)])
def t_SB_within : am_T := (⟨RX8, "within", "(II)Z"⟩, prog_1_method_56_code, 2, (some .boolean), 8, (0, 0, 2), [(0, .iload_n 0, 1), (1, .ifCond .lt 12, 3), (4, .iload_n 0, 1), (5, .iload_n 1, 1), (6, .if_icmp .gt 7, 3), (9, .iconst 1, 1), (10, .goto 4, 3), (13, .iconst 0, 1), (14, .ireturn, 1)])
def t_Amd_day : am_T := (⟨RX0, "day", "(I)I"⟩, prog_2_method_8_code, 2, (some .int), 0, (1, 21, 2), [(0, .aload_n 0, 1), (1, .getfield 16, 3), (4, .iconst 4, 1), (5, .iload_n 1, 1), (6, .iadd, 1), (7, .invokevirtual 20, 3), (10, .ireturn, 1)])
def t_Amd_setDay : am_T := (⟨RX0, "setDay", "(II)V"⟩, prog_2_method_9_code, 3, none, 0, (1, 22, 3), [(0, .aload_n 0, 1), (1, .getfield 16, 3), (4, .iconst 4, 1), (5, .iload_n 1, 1), (6, .iadd, 1), (7, .iload_n 2, 1), (8, .invokevirtual 24, 3), (11, .return_, 1)])
def t_SB_clauses : am_T := (⟨RX8, "clauses", "(II)I"⟩, prog_1_method_15_code, 3, (some .int), 8, (7, 166, 3), [(0, .iload_n 1, 1), (1, .iload_n 2, 1), (2, .invokestatic 159, 3), (5, .ifCond .ne 6, 3), (8, .bipush (-2), 2), (10, .ireturn, 1), (11, .aload_n 0, 1), (12, .iload_n 1, 1), (13, .iload_n 2, 1), (14, .invokevirtual 162, 3), (17, .aload_n 0, 1), (18, .getfield 42, 3), (21, .invokevirtual 165, 3), (24, .ireturn, 1)])
def t_SB_isLaw : am_T := (⟨RX8, "isLaw", "(II)Z"⟩, prog_1_method_57_code, 2, (some .boolean), 8, (1, 21, 2), [(0, .iload_n 0, 1), (1, .sipush 9999, 3), (4, .invokestatic 56, 3), (7, .ifCond .eq 22, 3), (10, .iload_n 1, 1), (11, .iconst (-1), 1), (12, .if_icmp .eq 13, 3), (15, .iload_n 1, 1), (16, .sipush 9999, 3), (19, .invokestatic 56, 3), (22, .ifCond .eq 7, 3), (25, .iconst 1, 1), (26, .goto 4, 3), (29, .iconst 0, 1), (30, .ireturn, 1)])
def t_SB_consolidate : am_T := (⟨RX8, "consolidate", "(II)V"⟩, prog_1_method_54_code, 3, none, 8, (6, 144, 3), [(0, .aload_n 0, 1), (1, .getfield 42, 3), (4, .aload_n 0, 1), (5, .getfield 28, 3), (8, .iload_n 1, 1), (9, .iload_n 2, 1), (10, .aload_n 0, 1), (11, .getfield 28, 3), (14, .invokevirtual 106, 3), (17, .invokevirtual 217, 3), (20, .return_, 1)])
def t_Law_consolidate : am_T := (⟨RX3, "consolidate", "(LStatuteBook$Amendments;III)V"⟩, prog_5_method_2_code, 7, none, 3, (5, 118, 5), [(0, .aload_n 0, 1), (1, .getfield 14, 3), (4, .iconst 0, 1), (5, .invokevirtual 44, 3), (8, .aload_n 0, 1), (9, .getfield 32, 3), (12, .iconst 5, 1), (13, .invokevirtual 44, 3), (16, .aload_n 0, 1), (17, .getfield 35, 3), (20, .iconst (-1), 1), (21, .invokevirtual 44, 3), (24, .aload_n 0, 1), (25, .iconst 0, 1), (26, .putfield 47, 3), (29, .aload_n 1, 1), (30, .iload_n 2, 1), (31, .iload 4, 2), (33, .iconst (-1), 1), (34, .invokestatic 51, 3), (37, .istore 5, 2), (39, .iconst 0, 1), (40, .istore 6, 2), (42, .iload 6, 2), (44, .bipush 20, 2), (46, .if_icmp .ge 37, 3), (49, .iload 5, 2), (51, .iconst (-1), 1), (52, .if_icmp .eq 31, 3), (55, .aload_n 0, 1), (56, .aload_n 1, 1), (57, .iload 5, 2), (59, .bipush 20, 2), (61, .irem, 1), (62, .iload_n 3, 1), (63, .invokevirtual 55, 3), (66, .aload_n 1, 1), (67, .iload_n 2, 1), (68, .iload 4, 2), (70, .iload 5, 2), (72, .invokestatic 51, 3), (75, .istore 5, 2), (77, .iinc 6 1, 3), (80, .goto (-38), 3), (83, .aload_n 0, 1), (84, .invokevirtual 59, 3), (87, .return_, 1)])
def t_Row_fill : am_T := (⟨RX6, "fill", "(I)V"⟩, prog_8_method_4_code, 2, none, 6, (1, 23, 2), [(0, .aload_n 0, 1), (1, .getfield 13, 3), (4, .iload_n 1, 1), (5, .invokestatic 19, 3), (8, .return_, 1)])
def t_Arr_fill : am_T := (⟨"java/util/Arrays", "fill", "([II)V"⟩, prog_18_method_103_code, 4, none, 13, (0, 0, 2), [(0, .iconst 0, 1), (1, .istore_n 2, 1), (2, .aload_n 0, 1), (3, .arraylength, 1), (4, .istore_n 3, 1), (5, .iload_n 2, 1), (6, .iload_n 3, 1), (7, .if_icmp .ge 13, 3), (10, .aload_n 0, 1), (11, .iload_n 2, 1), (12, .iload_n 1, 1), (13, .iastore, 1), (14, .iinc 2 1, 3), (17, .goto (-12), 3), (20, .return_, 1)])
def t_Law_nextKey : am_T := (⟨RX3, "nextKey", "(LStatuteBook$Amendments;III)I"⟩, prog_5_method_3_code, 8, (some .int), 3, (2, 42, 4), [(0, .iconst (-1), 1), (1, .istore 4, 2), (3, .iconst 0, 1), (4, .istore 5, 2), (6, .iload 5, 2), (8, .aload_n 0, 1), (9, .invokevirtual 62, 3), (12, .if_icmp .ge 77, 3), (15, .aload_n 0, 1), (16, .iload 5, 2), (18, .invokevirtual 68, 3), (21, .bipush 20, 2), (23, .imul, 1), (24, .iload 5, 2), (26, .iadd, 1), (27, .istore 6, 2), (29, .iload_n 2, 1), (30, .iload 5, 2), (32, .ishr, 1), (33, .iconst 1, 1), (34, .iand, 1), (35, .ifCond .ne 17, 3), (38, .aload_n 0, 1), (39, .iload 5, 2), (41, .invokevirtual 68, 3), (44, .iload_n 1, 1), (45, .if_icmp .gt 7, 3), (48, .iconst 1, 1), (49, .goto 4, 3), (52, .iconst 0, 1), (53, .istore 7, 2), (55, .iload 7, 2), (57, .ifCond .eq 26, 3), (60, .iload 6, 2), (62, .iload_n 3, 1), (63, .if_icmp .le 20, 3), (66, .iload 4, 2), (68, .iconst (-1), 1), (69, .if_icmp .eq 10, 3), (72, .iload 6, 2), (74, .iload 4, 2), (76, .if_icmp .ge 7, 3), (79, .iload 6, 2), (81, .istore 4, 2), (83, .iinc 5 1, 3), (86, .goto (-80), 3), (89, .iload 4, 2), (91, .ireturn, 1)])
def t_Law_carryOut : am_T := (⟨RX3, "carryOut", "(LStatuteBook$Amendments;II)V"⟩, prog_5_method_4_code, 11, none, 3, (4, 88, 4), [(0, .aload_n 1, 1), (1, .iload_n 2, 1), (2, .invokevirtual 68, 3), (5, .istore 4, 2), (7, .iload_n 3, 1), (8, .iconst (-1), 1), (9, .if_icmp .eq 13, 3), (12, .iload_n 3, 1), (13, .iload 4, 2), (15, .if_icmp .ge 7, 3), (18, .iconst 1, 1), (19, .goto 4, 3), (22, .iconst 0, 1), (23, .istore 5, 2), (25, .aload_n 1, 1), (26, .iload_n 2, 1), (27, .iconst 1, 1), (28, .iadd, 1), (29, .invokevirtual 72, 3), (32, .istore 6, 2), (34, .aload_n 1, 1), (35, .iload_n 2, 1), (36, .invokevirtual 72, 3), (39, .istore 7, 2), (41, .iload 7, 2), (43, .iload 6, 2), (45, .if_icmp .ge 154, 3), (48, .iload 5, 2), (50, .ifCond .eq 17, 3), (53, .aload_n 1, 1), (54, .iload 7, 2), (56, .iconst 4, 1), (57, .invokevirtual 75, 3), (60, .iconst 1, 1), (61, .if_icmp .ne 6, 3), (64, .goto 129, 3), (67, .aload_n 0, 1), (68, .aload_n 1, 1), (69, .iload 7, 2), (71, .iconst 1, 1), (72, .invokevirtual 75, 3), (75, .invokevirtual 79, 3), (78, .istore 8, 2), (80, .aload_n 0, 1), (81, .aload_n 1, 1), (82, .iload 7, 2), (84, .iload 8, 2), (86, .aload_n 0, 1), (87, .aload_n 1, 1), (88, .iload 7, 2), (90, .invokevirtual 82, 3), (93, .invokevirtual 86, 3), (96, .istore 9, 2), (98, .aload_n 0, 1), (99, .getfield 32, 3), (102, .iload 7, 2), (104, .iload 9, 2), (106, .invokevirtual 90, 3), (109, .iload 9, 2), (111, .ifCond .ne 82, 3), (114, .aload_n 1, 1), (115, .iload 7, 2), (117, .iconst 0, 1), (118, .invokevirtual 75, 3), (121, .ifCond .ne 14, 3), (124, .aload_n 1, 1), (125, .iload 7, 2), (127, .bipush 6, 2), (129, .invokevirtual 75, 3), (132, .goto 5, 3), (135, .iload 8, 2), (137, .istore 10, 2), (139, .aload_n 0, 1), (140, .aload_n 1, 1), (141, .iload 7, 2), (143, .iload 10, 2), (145, .invokevirtual 94, 3), (148, .aload_n 0, 1), (149, .getfield 20, 3), (152, .iload 10, 2), (154, .iload 4, 2), (156, .invokevirtual 90, 3), (159, .aload_n 0, 1), (160, .getfield 35, 3), (163, .iload 7, 2), (165, .iload 10, 2), (167, .invokevirtual 90, 3), (170, .aload_n 0, 1), (171, .getfield 38, 3), (174, .aload_n 0, 1), (175, .getfield 47, 3), (178, .iload 7, 2), (180, .invokevirtual 90, 3), (183, .aload_n 0, 1), (184, .dup, 1), (185, .getfield 47, 3), (188, .iconst 1, 1), (189, .iadd, 1), (190, .putfield 47, 3), (193, .iinc 7 1, 3), (196, .goto (-155), 3), (199, .return_, 1)])
def t_Amd_start : am_T := (⟨RX0, "start", "(I)I"⟩, prog_2_method_10_code, 2, (some .int), 0, (1, 21, 2), [(0, .aload_n 0, 1), (1, .getfield 16, 3), (4, .bipush 24, 2), (6, .iload_n 1, 1), (7, .iadd, 1), (8, .invokevirtual 20, 3), (11, .ireturn, 1)])
def t_Amd_cell : am_T := (⟨RX0, "cell", "(II)I"⟩, prog_2_method_14_code, 3, (some .int), 0, (1, 21, 3), [(0, .aload_n 0, 1), (1, .getfield 16, 3), (4, .bipush 45, 2), (6, .iload_n 1, 1), (7, .bipush 13, 2), (9, .imul, 1), (10, .iadd, 1), (11, .iload_n 2, 1), (12, .iadd, 1), (13, .invokevirtual 20, 3), (16, .ireturn, 1)])
def t_Law_holder : am_T := (⟨RX3, "holder", "(I)I"⟩, prog_5_method_5_code, 3, (some .int), 3, (1, 21, 2), [(0, .iconst 0, 1), (1, .istore_n 2, 1), (2, .iload_n 2, 1), (3, .bipush 40, 2), (5, .if_icmp .ge 23, 3), (8, .aload_n 0, 1), (9, .getfield 14, 3), (12, .iload_n 2, 1), (13, .invokevirtual 97, 3), (16, .iload_n 1, 1), (17, .if_icmp .ne 5, 3), (20, .iload_n 2, 1), (21, .ireturn, 1), (22, .iinc 2 1, 3), (25, .goto (-23), 3), (28, .iconst (-1), 1), (29, .ireturn, 1)])
def t_Law_resolves : am_T := (⟨RX3, "resolves", "(LStatuteBook$Amendments;I)Z"⟩, prog_5_method_6_code, 6, (some .boolean), 3, (2, 43, 3), [(0, .iconst 0, 1), (1, .istore_n 3, 1), (2, .iload_n 3, 1), (3, .aload_n 1, 1), (4, .iload_n 2, 1), (5, .iconst 5, 1), (6, .invokevirtual 75, 3), (9, .if_icmp .ge 66, 3), (12, .aload_n 1, 1), (13, .iload_n 2, 1), (14, .bipush 7, 2), (16, .iload_n 3, 1), (17, .iadd, 1), (18, .invokevirtual 75, 3), (21, .istore 4, 2), (23, .iload 4, 2), (25, .sipush 1000, 3), (28, .if_icmp .lt 31, 3), (31, .aload_n 0, 1), (32, .iload 4, 2), (34, .sipush 1000, 3), (37, .isub, 1), (38, .invokevirtual 79, 3), (41, .istore 5, 2), (43, .iload 5, 2), (45, .iconst (-1), 1), (46, .if_icmp .ne 5, 3), (49, .iconst 0, 1), (50, .ireturn, 1), (51, .sipush 1000, 3), (54, .iload 5, 2), (56, .iadd, 1), (57, .istore 4, 2), (59, .aload_n 0, 1), (60, .getfield 41, 3), (63, .iload_n 3, 1), (64, .iload 4, 2), (66, .invokevirtual 90, 3), (69, .iinc 3 1, 3), (72, .goto (-70), 3), (75, .iconst 1, 1), (76, .ireturn, 1)])
def t_Law_reason : am_T := (⟨RX3, "reason", "(LStatuteBook$Amendments;IIZ)I"⟩, prog_5_method_7_code, 6, (some .int), 3, (2, 46, 5), [(0, .aload_n 1, 1), (1, .iload_n 2, 1), (2, .iconst 0, 1), (3, .invokevirtual 75, 3), (6, .istore 5, 2), (8, .iload 5, 2), (10, .ifCond .eq 10, 3), (13, .iload_n 3, 1), (14, .iconst (-1), 1), (15, .if_icmp .ne 5, 3), (18, .iconst 1, 1), (19, .ireturn, 1), (20, .iload 5, 2), (22, .ifCond .ne 10, 3), (25, .iload_n 3, 1), (26, .iconst (-1), 1), (27, .if_icmp .eq 5, 3), (30, .iconst 2, 1), (31, .ireturn, 1), (32, .iload 5, 2), (34, .iconst 3, 1), (35, .if_icmp .ne 19, 3), (38, .aload_n 0, 1), (39, .aload_n 1, 1), (40, .iload_n 2, 1), (41, .iconst 2, 1), (42, .invokevirtual 75, 3), (45, .invokevirtual 79, 3), (48, .iconst (-1), 1), (49, .if_icmp .eq 5, 3), (52, .iconst 2, 1), (53, .ireturn, 1), (54, .iload 5, 2), (56, .iconst 4, 1), (57, .if_icmp .ne 19, 3), (60, .aload_n 0, 1), (61, .iload_n 3, 1), (62, .aload_n 1, 1), (63, .iload_n 2, 1), (64, .iconst 2, 1), (65, .invokevirtual 75, 3), (68, .invokevirtual 100, 3), (71, .ifCond .ne 5, 3), (74, .iconst 3, 1), (75, .ireturn, 1), (76, .iload 4, 2), (78, .ifCond .eq 7, 3), (81, .iconst 0, 1), (82, .goto 4, 3), (85, .iconst 4, 1), (86, .ireturn, 1)])
def t_Law_contains : am_T := (⟨RX3, "contains", "(II)Z"⟩, prog_5_method_20_code, 6, (some .boolean), 3, (1, 21, 3), [(0, .iload_n 1, 1), (1, .bipush 6, 2), (3, .imul, 1), (4, .istore_n 3, 1), (5, .iload_n 3, 1), (6, .aload_n 0, 1), (7, .getfield 23, 3), (10, .iload_n 1, 1), (11, .invokevirtual 97, 3), (14, .iadd, 1), (15, .istore 4, 2), (17, .iload_n 3, 1), (18, .istore 5, 2), (20, .iload 5, 2), (22, .iload 4, 2), (24, .if_icmp .ge 24, 3), (27, .aload_n 0, 1), (28, .getfield 26, 3), (31, .iload 5, 2), (33, .invokevirtual 97, 3), (36, .iload_n 2, 1), (37, .if_icmp .ne 5, 3), (40, .iconst 1, 1), (41, .ireturn, 1), (42, .iinc 5 1, 3), (45, .goto (-25), 3), (48, .iconst 0, 1), (49, .ireturn, 1)])
def t_Law_perform : am_T := (⟨RX3, "perform", "(LStatuteBook$Amendments;II)V"⟩, prog_5_method_8_code, 4, none, 3, (3, 65, 4), [(0, .aload_n 1, 1), (1, .iload_n 2, 1), (2, .iconst 0, 1), (3, .invokevirtual 75, 3), (6, .tableswitch 101 0 3 #[30, 58, 72, 84], 30), (36, .aload_n 0, 1), (37, .getfield 14, 3), (40, .iload_n 3, 1), (41, .aload_n 1, 1), (42, .iload_n 2, 1), (43, .iconst 1, 1), (44, .invokevirtual 75, 3), (47, .invokevirtual 90, 3), (50, .aload_n 0, 1), (51, .iload_n 3, 1), (52, .aload_n 1, 1), (53, .iload_n 2, 1), (54, .iconst 5, 1), (55, .invokevirtual 75, 3), (58, .invokevirtual 104, 3), (61, .goto 63, 3), (64, .aload_n 0, 1), (65, .iload_n 3, 1), (66, .aload_n 1, 1), (67, .iload_n 2, 1), (68, .iconst 5, 1), (69, .invokevirtual 75, 3), (72, .invokevirtual 104, 3), (75, .goto 49, 3), (78, .aload_n 0, 1), (79, .getfield 14, 3), (82, .iload_n 3, 1), (83, .iconst 0, 1), (84, .invokevirtual 90, 3), (87, .goto 37, 3), (90, .aload_n 0, 1), (91, .getfield 14, 3), (94, .iload_n 3, 1), (95, .aload_n 1, 1), (96, .iload_n 2, 1), (97, .iconst 2, 1), (98, .invokevirtual 75, 3), (101, .invokevirtual 90, 3), (104, .goto 20, 3), (107, .aload_n 0, 1), (108, .iload_n 3, 1), (109, .aload_n 1, 1), (110, .iload_n 2, 1), (111, .iconst 2, 1), (112, .invokevirtual 75, 3), (115, .aload_n 1, 1), (116, .iload_n 2, 1), (117, .iconst 3, 1), (118, .invokevirtual 75, 3), (121, .invokevirtual 107, 3), (124, .return_, 1)])
def t_Law_setText : am_T := (⟨RX3, "setText", "(II)V"⟩, prog_5_method_9_code, 3, none, 3, (2, 43, 3), [(0, .aload_n 0, 1), (1, .getfield 23, 3), (4, .iload_n 1, 1), (5, .iload_n 2, 1), (6, .invokevirtual 90, 3), (9, .aload_n 0, 1), (10, .getfield 26, 3), (13, .aload_n 0, 1), (14, .getfield 41, 3), (17, .iconst 0, 1), (18, .iload_n 1, 1), (19, .bipush 6, 2), (21, .imul, 1), (22, .iload_n 2, 1), (23, .invokevirtual 111, 3), (26, .return_, 1)])
def t_Law_change : am_T := (⟨RX3, "change", "(III)V"⟩, prog_5_method_10_code, 7, none, 3, (1, 22, 4), [(0, .iload_n 1, 1), (1, .bipush 6, 2), (3, .imul, 1), (4, .istore 4, 2), (6, .iload 4, 2), (8, .aload_n 0, 1), (9, .getfield 23, 3), (12, .iload_n 1, 1), (13, .invokevirtual 97, 3), (16, .iadd, 1), (17, .istore 5, 2), (19, .iload 4, 2), (21, .istore 6, 2), (23, .iload 6, 2), (25, .iload 5, 2), (27, .if_icmp .ge 32, 3), (30, .aload_n 0, 1), (31, .getfield 26, 3), (34, .iload 6, 2), (36, .invokevirtual 97, 3), (39, .iload_n 2, 1), (40, .if_icmp .ne 13, 3), (43, .aload_n 0, 1), (44, .getfield 26, 3), (47, .iload 6, 2), (49, .iload_n 3, 1), (50, .invokevirtual 90, 3), (53, .iinc 6 1, 3), (56, .goto (-33), 3), (59, .return_, 1)])
def t_Law_arrange : am_T := (⟨RX3, "arrange", "()V"⟩, prog_5_method_11_code, 4, none, 3, (1, 22, 1), [(0, .aload_n 0, 1), (1, .iconst 0, 1), (2, .putfield 115, 3), (5, .iconst 0, 1), (6, .istore_n 1, 1), (7, .iload_n 1, 1), (8, .bipush 40, 2), (10, .if_icmp .ge 95, 3), (13, .aload_n 0, 1), (14, .getfield 14, 3), (17, .iload_n 1, 1), (18, .invokevirtual 97, 3), (21, .istore_n 2, 1), (22, .iload_n 2, 1), (23, .ifCond .eq 76, 3), (26, .aload_n 0, 1), (27, .getfield 115, 3), (30, .istore_n 3, 1), (31, .iload_n 3, 1), (32, .ifCond .le 48, 3), (35, .aload_n 0, 1), (36, .getfield 14, 3), (39, .aload_n 0, 1), (40, .getfield 29, 3), (43, .iload_n 3, 1), (44, .iconst 1, 1), (45, .isub, 1), (46, .invokevirtual 97, 3), (49, .invokevirtual 97, 3), (52, .iload_n 2, 1), (53, .if_icmp .le 27, 3), (56, .aload_n 0, 1), (57, .getfield 29, 3), (60, .iload_n 3, 1), (61, .aload_n 0, 1), (62, .getfield 29, 3), (65, .iload_n 3, 1), (66, .iconst 1, 1), (67, .isub, 1), (68, .invokevirtual 97, 3), (71, .invokevirtual 90, 3), (74, .iinc 3 (-1), 3), (77, .goto (-46), 3), (80, .aload_n 0, 1), (81, .getfield 29, 3), (84, .iload_n 3, 1), (85, .iload_n 1, 1), (86, .invokevirtual 90, 3), (89, .aload_n 0, 1), (90, .dup, 1), (91, .getfield 115, 3), (94, .iconst 1, 1), (95, .iadd, 1), (96, .putfield 115, 3), (99, .iinc 1 1, 3), (102, .goto (-95), 3), (105, .return_, 1)])
def t_Law_size : am_T := (⟨RX3, "size", "()I"⟩, prog_5_method_12_code, 1, (some .int), 3, (0, 0, 1), [(0, .aload_n 0, 1), (1, .getfield 115, 3), (4, .ireturn, 1)])
def t_SB_clause : am_T := (⟨RX8, "clause", "(IIII)I"⟩, prog_1_method_16_code, 5, (some .int), 8, (7, 166, 5), [(0, .iload_n 1, 1), (1, .iload_n 2, 1), (2, .invokestatic 159, 3), (5, .ifCond .eq 12, 3), (8, .iload 4, 2), (10, .iconst 3, 1), (11, .invokestatic 56, 3), (14, .ifCond .ne 6, 3), (17, .bipush (-2), 2), (19, .ireturn, 1), (20, .aload_n 0, 1), (21, .iload_n 1, 1), (22, .iload_n 2, 1), (23, .invokevirtual 162, 3), (26, .iload_n 3, 1), (27, .ifCond .lt 14, 3), (30, .iload_n 3, 1), (31, .aload_n 0, 1), (32, .getfield 42, 3), (35, .invokevirtual 165, 3), (38, .if_icmp .lt 8, 3), (41, .bipush (-2), 2), (43, .goto 17, 3), (46, .aload_n 0, 1), (47, .aload_n 0, 1), (48, .getfield 42, 3), (51, .iload_n 3, 1), (52, .invokevirtual 166, 3), (55, .iload 4, 2), (57, .invokevirtual 169, 3), (60, .ireturn, 1)])
def t_Law_at : am_T := (⟨RX3, "at", "(I)I"⟩, prog_5_method_13_code, 2, (some .int), 3, (1, 21, 2), [(0, .aload_n 0, 1), (1, .getfield 29, 3), (4, .iload_n 1, 1), (5, .invokevirtual 97, 3), (8, .ireturn, 1)])
def t_SB_clausePart : am_T := (⟨RX8, "clausePart", "(II)I"⟩, prog_1_method_17_code, 3, (some .int), 8, (2, 42, 3), [(0, .iload_n 2, 1), (1, .tableswitch 47 0 2 #[27, 36, 38], 27), (28, .aload_n 0, 1), (29, .getfield 42, 3), (32, .iload_n 1, 1), (33, .invokevirtual 172, 3), (36, .ireturn, 1), (37, .iload_n 1, 1), (38, .ireturn, 1), (39, .aload_n 0, 1), (40, .getfield 42, 3), (43, .iload_n 1, 1), (44, .invokevirtual 175, 3), (47, .ireturn, 1), (48, .aload_n 0, 1), (49, .getfield 42, 3), (52, .iload_n 1, 1), (53, .invokevirtual 178, 3), (56, .ireturn, 1)])
def t_Law_code : am_T := (⟨RX3, "code", "(I)I"⟩, prog_5_method_14_code, 2, (some .int), 3, (1, 21, 2), [(0, .aload_n 0, 1), (1, .getfield 14, 3), (4, .iload_n 1, 1), (5, .invokevirtual 97, 3), (8, .ireturn, 1)])
def t_Law_length : am_T := (⟨RX3, "length", "(I)I"⟩, prog_5_method_16_code, 2, (some .int), 3, (1, 21, 2), [(0, .aload_n 0, 1), (1, .getfield 23, 3), (4, .iload_n 1, 1), (5, .invokevirtual 97, 3), (8, .ireturn, 1)])
def t_Law_lastDay : am_T := (⟨RX3, "lastDay", "(I)I"⟩, prog_5_method_15_code, 2, (some .int), 3, (1, 21, 2), [(0, .aload_n 0, 1), (1, .getfield 20, 3), (4, .iload_n 1, 1), (5, .invokevirtual 97, 3), (8, .ireturn, 1)])
def t_SB_find : am_T := (⟨RX8, "find", "(III)I"⟩, prog_1_method_20_code, 4, (some .int), 8, (7, 166, 4), [(0, .iload_n 1, 1), (1, .iload_n 2, 1), (2, .invokestatic 159, 3), (5, .ifCond .eq 10, 3), (8, .iload_n 3, 1), (9, .invokestatic 187, 3), (12, .ifCond .ne 6, 3), (15, .bipush (-2), 2), (17, .ireturn, 1), (18, .aload_n 0, 1), (19, .iload_n 1, 1), (20, .iload_n 2, 1), (21, .invokevirtual 162, 3), (24, .aload_n 0, 1), (25, .getfield 42, 3), (28, .iload_n 3, 1), (29, .invokevirtual 190, 3), (32, .ireturn, 1)])
def t_SB_isCode : am_T := (⟨RX8, "isCode", "(I)Z"⟩, prog_1_method_59_code, 4, (some .boolean), 8, (0, 0, 1), [(0, .iload_n 0, 1), (1, .sipush 729, 3), (4, .idiv, 1), (5, .istore_n 1, 1), (6, .iload_n 0, 1), (7, .sipush 729, 3), (10, .irem, 1), (11, .bipush 27, 2), (13, .idiv, 1), (14, .istore_n 2, 1), (15, .iload_n 0, 1), (16, .bipush 27, 2), (18, .irem, 1), (19, .istore_n 3, 1), (20, .iload_n 1, 1), (21, .iconst 1, 1), (22, .if_icmp .lt 22, 3), (25, .iload_n 1, 1), (26, .sipush 999, 3), (29, .if_icmp .gt 15, 3), (32, .iload_n 2, 1), (33, .ifCond .gt 7, 3), (36, .iload_n 3, 1), (37, .ifCond .ne 7, 3), (40, .iconst 1, 1), (41, .goto 4, 3), (44, .iconst 0, 1), (45, .ireturn, 1)])
def t_Law_indexOf : am_T := (⟨RX3, "indexOf", "(I)I"⟩, prog_5_method_19_code, 3, (some .int), 3, (2, 42, 2), [(0, .iconst 0, 1), (1, .istore_n 2, 1), (2, .iload_n 2, 1), (3, .aload_n 0, 1), (4, .getfield 115, 3), (7, .if_icmp .ge 24, 3), (10, .aload_n 0, 1), (11, .aload_n 0, 1), (12, .iload_n 2, 1), (13, .invokevirtual 120, 3), (16, .invokevirtual 123, 3), (19, .iload_n 1, 1), (20, .if_icmp .ne 5, 3), (23, .iload_n 2, 1), (24, .ireturn, 1), (25, .iinc 2 1, 3), (28, .goto (-26), 3), (31, .iconst (-1), 1), (32, .ireturn, 1)])
def t_SB_count : am_T := (⟨RX8, "count", "(I)I"⟩, prog_1_method_47_code, 2, (some .int), 8, (7, 164, 2), [(0, .iload_n 1, 1), (1, .bipush 8, 2), (3, .invokestatic 56, 3), (6, .ifCond .ne 6, 3), (9, .bipush (-2), 2), (11, .ireturn, 1), (12, .aload_n 0, 1), (13, .invokevirtual 128, 3), (16, .aload_n 0, 1), (17, .iload_n 1, 1), (18, .invokevirtual 301, 3), (21, .ireturn, 1)])
def t_SB_consolidateFully : am_T := (⟨RX8, "consolidateFully", "()V"⟩, prog_1_method_55_code, 1, none, 8, (6, 144, 1), [(0, .aload_n 0, 1), (1, .getfield 42, 3), (4, .aload_n 0, 1), (5, .getfield 28, 3), (8, .sipush 9999, 3), (11, .iconst (-1), 1), (12, .aload_n 0, 1), (13, .getfield 28, 3), (16, .invokevirtual 106, 3), (19, .invokevirtual 217, 3), (22, .return_, 1)])
def t_SB_countPart : am_T := (⟨RX8, "countPart", "(I)I"⟩, prog_1_method_48_code, 2, (some .int), 8, (2, 41, 2), [(0, .iload_n 1, 1), (1, .tableswitch 117 0 7 #[47, 55, 63, 71, 79, 90, 98, 109], 47), (48, .aload_n 0, 1), (49, .getfield 28, 3), (52, .invokevirtual 96, 3), (55, .ireturn, 1), (56, .aload_n 0, 1), (57, .getfield 28, 3), (60, .invokevirtual 256, 3), (63, .ireturn, 1), (64, .aload_n 0, 1), (65, .getfield 28, 3), (68, .invokevirtual 304, 3), (71, .ireturn, 1), (72, .aload_n 0, 1), (73, .getfield 35, 3), (76, .invokevirtual 122, 3), (79, .ireturn, 1), (80, .aload_n 0, 1), (81, .getfield 12, 3), (84, .getfield 60, 3), (87, .invokevirtual 63, 3), (90, .ireturn, 1), (91, .aload_n 0, 1), (92, .getfield 21, 3), (95, .invokevirtual 63, 3), (98, .ireturn, 1), (99, .aload_n 0, 1), (100, .getfield 28, 3), (103, .invokevirtual 106, 3), (106, .invokestatic 307, 3), (109, .ireturn, 1), (110, .aload_n 0, 1), (111, .getfield 35, 3), (114, .invokevirtual 312, 3), (117, .ireturn, 1), (118, .aload_n 0, 1), (119, .getfield 42, 3), (122, .invokevirtual 165, 3), (125, .ireturn, 1)])
def t_Amd_operations : am_T := (⟨RX0, "operations", "()I"⟩, prog_2_method_3_code, 1, (some .int), 0, (1, 21, 1), [(0, .aload_n 0, 1), (1, .getfield 16, 3), (4, .iconst 1, 1), (5, .invokevirtual 20, 3), (8, .ireturn, 1)])
def t_Amd_identities : am_T := (⟨RX0, "identities", "()I"⟩, prog_2_method_4_code, 1, (some .int), 0, (1, 21, 1), [(0, .aload_n 0, 1), (1, .getfield 16, 3), (4, .iconst 2, 1), (5, .invokevirtual 20, 3), (8, .ireturn, 1)])
def t_Arc_states : am_T := (⟨RX1, "states", "()I"⟩, prog_3_method_2_code, 1, (some .int), 1, (0, 0, 1), [(0, .aload_n 0, 1), (1, .getfield 22, 3), (4, .ireturn, 1)])
def t_Pag_kept : am_T := (⟨RX4, "kept", "()I"⟩, prog_6_method_4_code, 1, (some .int), 4, (1, 21, 1), [(0, .aload_n 0, 1), (1, .getfield 21, 3), (4, .aload_n 0, 1), (5, .getfield 15, 3), (8, .arraylength, 1), (9, .invokestatic 25, 3), (12, .ireturn, 1)])
def t_Int_bitCount : am_T := (⟨"java/lang/Integer", "bitCount", "(I)I"⟩, prog_12_method_49_code, 1, (some .int), 12, (0, 0, 1), [(0, .iload_n 0, 1), (1, .iload_n 0, 1), (2, .iconst 1, 1), (3, .iushr, 1), (4, .ldc_w 265, 3), (7, .iand, 1), (8, .isub, 1), (9, .istore_n 0, 1), (10, .iload_n 0, 1), (11, .ldc_w 266, 3), (14, .iand, 1), (15, .iload_n 0, 1), (16, .iconst 2, 1), (17, .iushr, 1), (18, .ldc_w 266, 3), (21, .iand, 1), (22, .iadd, 1), (23, .istore_n 0, 1), (24, .iload_n 0, 1), (25, .iload_n 0, 1), (26, .iconst 4, 1), (27, .iushr, 1), (28, .iadd, 1), (29, .ldc_w 267, 3), (32, .iand, 1), (33, .istore_n 0, 1), (34, .iload_n 0, 1), (35, .iload_n 0, 1), (36, .bipush 8, 2), (38, .iushr, 1), (39, .iadd, 1), (40, .istore_n 0, 1), (41, .iload_n 0, 1), (42, .iload_n 0, 1), (43, .bipush 16, 2), (45, .iushr, 1), (46, .iadd, 1), (47, .istore_n 0, 1), (48, .iload_n 0, 1), (49, .bipush 63, 2), (51, .iand, 1), (52, .ireturn, 1)])
def t_Arc_snapshots : am_T := (⟨RX1, "snapshots", "()I"⟩, prog_3_method_7_code, 1, (some .int), 1, (1, 20, 1), [(0, .aload_n 0, 1), (1, .getfield 47, 3), (4, .invokestatic 50, 3), (7, .ireturn, 1)])
def t_LAW_cell : am_T := (⟨R_law, "cell", "([II)I"⟩, method_2_code, 2, (some .int), 10, (0, 0, 2), [(0, .iload_n 1, 1), (1, .aload_n 0, 1), (2, .arraylength, 1), (3, .if_icmp .ge 9, 3), (6, .aload_n 0, 1), (7, .iload_n 1, 1), (8, .iaload, 1), (9, .goto 9, 3), (12, .ldc 7, 2), (14, .iload_n 1, 1), (15, .iconst 1, 1), (16, .iadd, 1), (17, .imul, 1), (18, .ireturn, 1)])
def t_LAW_low : am_T := (⟨R_law, "low", "(II)I"⟩, method_3_code, 2, (some .int), 10, (0, 0, 2), [(0, .iload_n 0, 1), (1, .ldc 8, 2), (3, .iand, 1), (4, .iload_n 1, 1), (5, .irem, 1), (6, .ireturn, 1)])
def t_LAW_lays : am_T := (⟨R_law, "lays", "([I[J[I[III[I[I[I)V"⟩, method_16_code, 12, none, 10, (3, 77, 9), [(0, .iconst 0, 1), (1, .istore 9, 2), (3, .iload 9, 2), (5, .bipush 60, 2), (7, .if_icmp .ge 14, 3), (10, .aload_n 0, 1), (11, .iload 9, 2), (13, .iconst 0, 1), (14, .iastore, 1), (15, .iinc 9 1, 3), (18, .goto (-15), 3), (21, .iconst 0, 1), (22, .istore 9, 2), (24, .iload 9, 2), (26, .bipush 16, 2), (28, .if_icmp .ge 22, 3), (31, .aload 6, 2), (33, .iload 9, 2), (35, .bipush 6, 2), (37, .iastore, 1), (38, .aload 7, 2), (40, .iload 9, 2), (42, .iconst (-1), 1), (43, .iastore, 1), (44, .iinc 9 1, 3), (47, .goto (-23), 3), (50, .aload_n 3, 1), (51, .iconst (-1), 1), (52, .iconst (-1), 1), (53, .iload 4, 2), (55, .invokestatic 49, 3), (58, .istore 9, 2), (60, .iload 9, 2), (62, .iconst (-1), 1), (63, .if_icmp .eq 119, 3), (66, .iload 9, 2), (68, .iconst 1, 1), (69, .iadd, 1), (70, .aload_n 3, 1), (71, .iconst 0, 1), (72, .iaload, 1), (73, .if_icmp .ge 13, 3), (76, .aload_n 3, 1), (77, .bipush 18, 2), (79, .iload 9, 2), (81, .iadd, 1), (82, .iaload, 1), (83, .goto 7, 3), (86, .aload_n 3, 1), (87, .bipush 25, 2), (89, .iaload, 1), (90, .istore 10, 2), (92, .aload_n 3, 1), (93, .bipush 17, 2), (95, .iload 9, 2), (97, .iadd, 1), (98, .iaload, 1), (99, .istore 11, 2), (101, .iload 11, 2), (103, .iload 10, 2), (105, .if_icmp .ge 58, 3), (108, .aload_n 2, 1), (109, .iload 11, 2), (111, .iaload, 1), (112, .iconst 1, 1), (113, .iand, 1), (114, .ifCond .eq 20, 3), (117, .iload 5, 2), (119, .iconst (-1), 1), (120, .if_icmp .eq 14, 3), (123, .iload 5, 2), (125, .aload_n 3, 1), (126, .iconst 1, 1), (127, .iload 9, 2), (129, .iadd, 1), (130, .iaload, 1), (131, .if_icmp .lt 26, 3), (134, .aload 6, 2), (136, .iload 11, 2), (138, .aload_n 0, 1), (139, .aload_n 1, 1), (140, .aload_n 2, 1), (141, .iload 11, 2), (143, .aload 7, 2), (145, .aload 8, 2), (147, .aload_n 3, 1), (148, .iconst 1, 1), (149, .iload 9, 2), (151, .iadd, 1), (152, .iaload, 1), (153, .invokestatic 53, 3), (156, .iastore, 1), (157, .iinc 11 1, 3), (160, .goto (-59), 3), (163, .aload_n 3, 1), (164, .aload_n 3, 1), (165, .iconst 1, 1), (166, .iload 9, 2), (168, .iadd, 1), (169, .iaload, 1), (170, .iload 9, 2), (172, .iload 4, 2), (174, .invokestatic 49, 3), (177, .istore 9, 2), (179, .goto (-119), 3), (182, .return_, 1)])
def t_LAW_next : am_T := (⟨R_law, "next", "([IIII)I"⟩, method_14_code, 7, (some .int), 10, (0, 0, 4), [(0, .iconst (-1), 1), (1, .istore 4, 2), (3, .aload_n 0, 1), (4, .iconst 0, 1), (5, .iaload, 1), (6, .iconst 1, 1), (7, .isub, 1), (8, .istore 5, 2), (10, .iload 5, 2), (12, .ifCond .lt 92, 3), (15, .aload_n 0, 1), (16, .iconst 1, 1), (17, .iload 5, 2), (19, .iadd, 1), (20, .iaload, 1), (21, .iload_n 1, 1), (22, .if_icmp .gt 19, 3), (25, .aload_n 0, 1), (26, .iconst 1, 1), (27, .iload 5, 2), (29, .iadd, 1), (30, .iaload, 1), (31, .iload_n 1, 1), (32, .if_icmp .ne 13, 3), (35, .iload 5, 2), (37, .iload_n 2, 1), (38, .if_icmp .le 7, 3), (41, .iconst 1, 1), (42, .goto 4, 3), (45, .iconst 0, 1), (46, .istore 6, 2), (48, .aload_n 0, 1), (49, .bipush 9, 2), (51, .iload 5, 2), (53, .iadd, 1), (54, .iaload, 1), (55, .ifCond .ne 43, 3), (58, .iload 6, 2), (60, .ifCond .eq 38, 3), (63, .aload_n 0, 1), (64, .iconst 1, 1), (65, .iload 5, 2), (67, .iadd, 1), (68, .iaload, 1), (69, .iload_n 3, 1), (70, .if_icmp .gt 28, 3), (73, .iload 4, 2), (75, .iconst (-1), 1), (76, .if_icmp .eq 18, 3), (79, .aload_n 0, 1), (80, .iconst 1, 1), (81, .iload 5, 2), (83, .iadd, 1), (84, .iaload, 1), (85, .aload_n 0, 1), (86, .iconst 1, 1), (87, .iload 4, 2), (89, .iadd, 1), (90, .iaload, 1), (91, .if_icmp .gt 7, 3), (94, .iload 5, 2), (96, .istore 4, 2), (98, .iinc 5 (-1), 3), (101, .goto (-91), 3), (104, .iload 4, 2), (106, .ireturn, 1)])
def t_LAW_carries : am_T := (⟨R_law, "carries", "([I[J[II[I[II)I"⟩, method_15_code, 14, (some .int), 10, (2, 44, 7), [(0, .aload_n 0, 1), (1, .aload_n 1, 1), (2, .iload_n 3, 1), (3, .invokestatic 32, 3), (6, .invokestatic 35, 3), (9, .istore 7, 2), (11, .aload_n 1, 1), (12, .iload_n 3, 1), (13, .invokestatic 28, 3), (16, .istore 8, 2), (18, .aload_n 2, 1), (19, .iload_n 3, 1), (20, .iaload, 1), (21, .iconst 1, 1), (22, .ishr, 1), (23, .bipush 7, 2), (25, .iand, 1), (26, .istore 9, 2), (28, .iload 9, 2), (30, .ifCond .le 11, 3), (33, .aload_n 1, 1), (34, .iload_n 3, 1), (35, .invokestatic 39, 3), (38, .goto 4, 3), (41, .iconst 0, 1), (42, .istore 10, 2), (44, .iload 9, 2), (46, .iconst 1, 1), (47, .if_icmp .le 11, 3), (50, .aload_n 1, 1), (51, .iload_n 3, 1), (52, .invokestatic 42, 3), (55, .goto 4, 3), (58, .iconst 0, 1), (59, .istore 11, 2), (61, .iload 8, 2), (63, .ifCond .le 11, 3), (66, .iload 7, 2), (68, .iconst (-1), 1), (69, .if_icmp .ne 5, 3), (72, .iconst 1, 1), (73, .ireturn, 1), (74, .iload 8, 2), (76, .ifCond .ne 9, 3), (79, .iload 7, 2), (81, .iconst (-1), 1), (82, .if_icmp .ne 22, 3), (85, .iload 8, 2), (87, .iconst 3, 1), (88, .if_icmp .ne 18, 3), (91, .aload_n 0, 1), (92, .aload_n 1, 1), (93, .iload_n 3, 1), (94, .invokestatic 39, 3), (97, .invokestatic 35, 3), (100, .iconst (-1), 1), (101, .if_icmp .eq 5, 3), (104, .iconst 2, 1), (105, .ireturn, 1), (106, .iload 8, 2), (108, .iconst 4, 1), (109, .if_icmp .ne 73, 3), (112, .iconst 0, 1), (113, .istore 12, 2), (115, .iconst 0, 1), (116, .istore 13, 2), (118, .iload 13, 2), (120, .aload_n 0, 1), (121, .iconst 5, 1), (122, .iload 7, 2), (124, .imul, 1), (125, .iconst 2, 1), (126, .iadd, 1), (127, .iaload, 1), (128, .if_icmp .ge 47, 3), (131, .aload_n 0, 1), (132, .iconst 5, 1), (133, .iload 7, 2), (135, .imul, 1), (136, .iconst 3, 1), (137, .iadd, 1), (138, .iload 13, 2), (140, .iadd, 1), (141, .iaload, 1), (142, .aload_n 1, 1), (143, .iload_n 3, 1), (144, .invokestatic 39, 3), (147, .if_icmp .ne 22, 3), (150, .aload_n 0, 1), (151, .iconst 5, 1), (152, .iload 7, 2), (154, .imul, 1), (155, .iconst 3, 1), (156, .iadd, 1), (157, .iload 13, 2), (159, .iadd, 1), (160, .aload_n 1, 1), (161, .iload_n 3, 1), (162, .invokestatic 42, 3), (165, .iastore, 1), (166, .iinc 12 1, 3), (169, .iinc 13 1, 3), (172, .goto (-54), 3), (175, .iload 12, 2), (177, .ifCond .ne 5, 3), (180, .iconst 3, 1), (181, .ireturn, 1), (182, .iload 8, 2), (184, .iconst 2, 1), (185, .if_icmp .ge 152, 3), (188, .iload 10, 2), (190, .sipush 1000, 3), (193, .if_icmp .lt 17, 3), (196, .aload_n 0, 1), (197, .iload 10, 2), (199, .sipush 1000, 3), (202, .isub, 1), (203, .invokestatic 35, 3), (206, .iconst (-1), 1), (207, .if_icmp .eq 25, 3), (210, .iload 11, 2), (212, .sipush 1000, 3), (215, .if_icmp .lt 19, 3), (218, .aload_n 0, 1), (219, .iload 11, 2), (221, .sipush 1000, 3), (224, .isub, 1), (225, .invokestatic 35, 3), (228, .iconst (-1), 1), (229, .if_icmp .ne 5, 3), (232, .iconst 4, 1), (233, .ireturn, 1), (234, .iload 10, 2), (236, .sipush 1000, 3), (239, .if_icmp .lt 19, 3), (242, .ldc 45, 2), (244, .aload_n 0, 1), (245, .iload 10, 2), (247, .sipush 1000, 3), (250, .isub, 1), (251, .invokestatic 35, 3), (254, .iadd, 1), (255, .goto 5, 3), (258, .iload 10, 2), (260, .istore 10, 2), (262, .iload 11, 2), (264, .sipush 1000, 3), (267, .if_icmp .lt 19, 3), (270, .ldc 45, 2), (272, .aload_n 0, 1), (273, .iload 11, 2), (275, .sipush 1000, 3), (278, .isub, 1), (279, .invokestatic 35, 3), (282, .iadd, 1), (283, .goto 5, 3), (286, .iload 11, 2), (288, .istore 11, 2), (290, .iload 8, 2), (292, .ifCond .ne 11, 3), (295, .aload_n 1, 1), (296, .iload_n 3, 1), (297, .invokestatic 46, 3), (300, .goto 5, 3), (303, .iload 7, 2), (305, .istore 7, 2), (307, .aload_n 0, 1), (308, .iconst 5, 1), (309, .iload 7, 2), (311, .imul, 1), (312, .iconst 2, 1), (313, .iadd, 1), (314, .iload 9, 2), (316, .iastore, 1), (317, .aload_n 0, 1), (318, .iconst 5, 1), (319, .iload 7, 2), (321, .imul, 1), (322, .iconst 3, 1), (323, .iadd, 1), (324, .iload 10, 2), (326, .iastore, 1), (327, .aload_n 0, 1), (328, .iconst 5, 1), (329, .iload 7, 2), (331, .imul, 1), (332, .iconst 4, 1), (333, .iadd, 1), (334, .iload 11, 2), (336, .iastore, 1), (337, .aload_n 0, 1), (338, .iconst 5, 1), (339, .iload 7, 2), (341, .imul, 1), (342, .iload 8, 2), (344, .iconst 2, 1), (345, .if_icmp .ne 7, 3), (348, .iconst 0, 1), (349, .goto 4, 3), (352, .iconst 1, 1), (353, .iastore, 1), (354, .aload_n 0, 1), (355, .iconst 5, 1), (356, .iload 7, 2), (358, .imul, 1), (359, .iconst 1, 1), (360, .iadd, 1), (361, .iload 8, 2), (363, .ifCond .ne 11, 3), (366, .aload_n 1, 1), (367, .iload_n 3, 1), (368, .invokestatic 32, 3), (371, .goto 25, 3), (374, .iload 8, 2), (376, .iconst 3, 1), (377, .if_icmp .ne 11, 3), (380, .aload_n 1, 1), (381, .iload_n 3, 1), (382, .invokestatic 39, 3), (385, .goto 11, 3), (388, .aload_n 0, 1), (389, .iconst 5, 1), (390, .iload 7, 2), (392, .imul, 1), (393, .iconst 1, 1), (394, .iadd, 1), (395, .iaload, 1), (396, .iastore, 1), (397, .aload 4, 2), (399, .iload_n 3, 1), (400, .iload 7, 2), (402, .iastore, 1), (403, .aload 5, 2), (405, .iload 7, 2), (407, .iload 6, 2), (409, .iastore, 1), (410, .iconst 0, 1), (411, .ireturn, 1)])
def t_LAW_code : am_T := (⟨R_law, "code", "([JI)I"⟩, method_9_code, 2, (some .int), 10, (0, 0, 2), [(0, .aload_n 0, 1), (1, .iload_n 1, 1), (2, .laload, 1), (3, .bipush 40, 2), (5, .lshr, 1), (6, .ldc2_w 26, 3), (9, .land, 1), (10, .l2i, 1), (11, .ireturn, 1)])
def t_LAW_at : am_T := (⟨R_law, "at", "([II)I"⟩, method_13_code, 3, (some .int), 10, (0, 0, 2), [(0, .iconst 0, 1), (1, .istore_n 2, 1), (2, .iload_n 2, 1), (3, .bipush 12, 2), (5, .if_icmp .ge 31, 3), (8, .aload_n 0, 1), (9, .iconst 5, 1), (10, .iload_n 2, 1), (11, .imul, 1), (12, .iaload, 1), (13, .iconst 1, 1), (14, .if_icmp .ne 16, 3), (17, .aload_n 0, 1), (18, .iconst 5, 1), (19, .iload_n 2, 1), (20, .imul, 1), (21, .iconst 1, 1), (22, .iadd, 1), (23, .iaload, 1), (24, .iload_n 1, 1), (25, .if_icmp .ne 5, 3), (28, .iload_n 2, 1), (29, .ireturn, 1), (30, .iinc 2 1, 3), (33, .goto (-31), 3), (36, .iconst (-1), 1), (37, .ireturn, 1)])
def t_LAW_kind : am_T := (⟨R_law, "kind", "([JI)I"⟩, method_8_code, 2, (some .int), 10, (0, 0, 2), [(0, .aload_n 0, 1), (1, .iload_n 1, 1), (2, .laload, 1), (3, .bipush 60, 2), (5, .lshr, 1), (6, .l2i, 1), (7, .ireturn, 1)])
def t_LAW_one : am_T := (⟨R_law, "one", "([JI)I"⟩, method_10_code, 2, (some .int), 10, (0, 0, 2), [(0, .aload_n 0, 1), (1, .iload_n 1, 1), (2, .laload, 1), (3, .bipush 20, 2), (5, .lshr, 1), (6, .ldc2_w 26, 3), (9, .land, 1), (10, .l2i, 1), (11, .ireturn, 1)])
def t_LAW_two : am_T := (⟨R_law, "two", "([JI)I"⟩, method_11_code, 2, (some .int), 10, (0, 0, 2), [(0, .aload_n 0, 1), (1, .iload_n 1, 1), (2, .laload, 1), (3, .ldc2_w 26, 3), (6, .land, 1), (7, .l2i, 1), (8, .ireturn, 1)])
def t_LAW_identity : am_T := (⟨R_law, "identity", "([JI)I"⟩, method_12_code, 4, (some .int), 10, (1, 21, 2), [(0, .iconst 0, 1), (1, .istore_n 2, 1), (2, .iconst 0, 1), (3, .istore_n 3, 1), (4, .iload_n 3, 1), (5, .iload_n 1, 1), (6, .if_icmp .ge 25, 3), (9, .iload_n 2, 1), (10, .aload_n 0, 1), (11, .iload_n 3, 1), (12, .invokestatic 28, 3), (15, .ifCond .ne 7, 3), (18, .iconst 1, 1), (19, .goto 4, 3), (22, .iconst 0, 1), (23, .iadd, 1), (24, .istore_n 2, 1), (25, .iinc 3 1, 3), (28, .goto (-24), 3), (31, .iload_n 2, 1), (32, .ireturn, 1)])
def t_LAW_enacts : am_T := (⟨R_law, "enacts", "(LStatuteBook;[J[I[I[II)Z"⟩, method_20_code, 10, (some .boolean), 10, (10, 214, 6), [(0, .aload 4, 2), (2, .iload 5, 2), (4, .invokestatic 96, 3), (7, .istore 6, 2), (9, .iconst 1, 1), (10, .iload 6, 2), (12, .iconst 3, 1), (13, .invokestatic 57, 3), (16, .iadd, 1), (17, .istore 7, 2), (19, .aload_n 3, 1), (20, .iconst 0, 1), (21, .iaload, 1), (22, .istore 8, 2), (24, .aload_n 3, 1), (25, .bipush 17, 2), (27, .iload 8, 2), (29, .iadd, 1), (30, .aload_n 3, 1), (31, .bipush 25, 2), (33, .iaload, 1), (34, .iastore, 1), (35, .iconst 0, 1), (36, .istore 9, 2), (38, .iload 9, 2), (40, .iload 7, 2), (42, .if_icmp .ge 72, 3), (45, .aload_n 3, 1), (46, .bipush 25, 2), (48, .iaload, 1), (49, .bipush 15, 2), (51, .if_icmp .ge 63, 3), (54, .iload 9, 2), (56, .ifCond .le 12, 3), (59, .aload_n 0, 1), (60, .bipush 59, 2), (62, .invokevirtual 11, 3), (65, .ifCond .lt 41, 3), (68, .aload_n 0, 1), (69, .aload_n 1, 1), (70, .aload_n 2, 1), (71, .aload_n 3, 1), (72, .aload 4, 2), (74, .iload 5, 2), (76, .iconst 1, 1), (77, .iadd, 1), (78, .iconst 2, 1), (79, .iload 9, 2), (81, .imul, 1), (82, .iadd, 1), (83, .invokestatic 96, 3), (86, .aload 4, 2), (88, .iload 5, 2), (90, .iconst 2, 1), (91, .iadd, 1), (92, .iconst 2, 1), (93, .iload 9, 2), (95, .imul, 1), (96, .iadd, 1), (97, .invokestatic 96, 3), (100, .invokestatic 99, 3), (103, .ifCond .ne 5, 3), (106, .iconst 0, 1), (107, .ireturn, 1), (108, .iinc 9 1, 3), (111, .goto (-73), 3), (114, .aload_n 3, 1), (115, .iconst 1, 1), (116, .iload 8, 2), (118, .iadd, 1), (119, .iload 6, 2), (121, .iconst 3, 1), (122, .ishr, 1), (123, .bipush 6, 2), (125, .invokestatic 57, 3), (128, .iastore, 1), (129, .aload_n 3, 1), (130, .bipush 9, 2), (132, .iload 8, 2), (134, .iadd, 1), (135, .iconst 0, 1), (136, .iastore, 1), (137, .aload_n 3, 1), (138, .iconst 0, 1), (139, .iload 8, 2), (141, .iconst 1, 1), (142, .iadd, 1), (143, .iastore, 1), (144, .aload_n 0, 1), (145, .aload_n 3, 1), (146, .iconst 1, 1), (147, .iload 8, 2), (149, .iadd, 1), (150, .iaload, 1), (151, .invokevirtual 103, 3), (154, .iload 8, 2), (156, .if_icmp .ne 27, 3), (159, .aload_n 0, 1), (160, .iconst 4, 1), (161, .invokevirtual 106, 3), (164, .ifCond .ne 19, 3), (167, .aload_n 0, 1), (168, .iconst 1, 1), (169, .invokevirtual 106, 3), (172, .aload_n 3, 1), (173, .bipush 25, 2), (175, .iaload, 1), (176, .if_icmp .ne 7, 3), (179, .iconst 1, 1), (180, .goto 4, 3), (183, .iconst 0, 1), (184, .ireturn, 1)])
def t_SB_type : am_T := (⟨RX8, "type", "(I)I"⟩, prog_1_method_2_code, 2, (some .int), 8, (2, 41, 2), [(0, .iload_n 1, 1), (1, .bipush 127, 2), (3, .invokestatic 56, 3), (6, .ifCond .ne 6, 3), (9, .bipush (-2), 2), (11, .ireturn, 1), (12, .aload_n 0, 1), (13, .getfield 12, 3), (16, .getfield 60, 3), (19, .invokevirtual 63, 3), (22, .bipush 120, 2), (24, .if_icmp .lt 6, 3), (27, .bipush (-4), 2), (29, .ireturn, 1), (30, .aload_n 0, 1), (31, .getfield 12, 3), (34, .getfield 60, 3), (37, .iload_n 1, 1), (38, .invokevirtual 67, 3), (41, .aload_n 0, 1), (42, .getfield 12, 3), (45, .getfield 60, 3), (48, .invokevirtual 63, 3), (51, .ireturn, 1)])
def t_Pag_append : am_T := (⟨RX4, "append", "(I)V"⟩, prog_6_method_6_code, 2, none, 4, (0, 0, 2), [(0, .aload_n 0, 1), (1, .getfield 21, 3), (4, .ifCond .lt 25, 3), (7, .aload_n 0, 1), (8, .getfield 21, 3), (11, .aload_n 0, 1), (12, .getfield 15, 3), (15, .arraylength, 1), (16, .if_icmp .ge 13, 3), (19, .aload_n 0, 1), (20, .getfield 15, 3), (23, .aload_n 0, 1), (24, .getfield 21, 3), (27, .iload_n 1, 1), (28, .iastore, 1), (29, .aload_n 0, 1), (30, .dup, 1), (31, .getfield 21, 3), (34, .iconst 1, 1), (35, .iadd, 1), (36, .putfield 21, 3), (39, .return_, 1)])
def t_LAW_typesOperation : am_T := (⟨R_law, "typesOperation", "(LStatuteBook;[J[I[III)Z"⟩, method_19_code, 14, (some .boolean), 10, (6, 127, 6), [(0, .aload_n 3, 1), (1, .bipush 25, 2), (3, .iaload, 1), (4, .istore 6, 2), (6, .iload 4, 2), (8, .bipush 7, 2), (10, .invokestatic 57, 3), (13, .istore 7, 2), (15, .iload 7, 2), (17, .iconst 4, 1), (18, .if_icmp .le 7, 3), (21, .iconst 0, 1), (22, .goto 5, 3), (25, .iload 7, 2), (27, .istore 7, 2), (29, .iload 7, 2), (31, .ifCond .ne 18, 3), (34, .aload_n 1, 1), (35, .iload 6, 2), (37, .invokestatic 46, 3), (40, .bipush 12, 2), (42, .if_icmp .ne 7, 3), (45, .iconst 2, 1), (46, .goto 5, 3), (49, .iload 7, 2), (51, .istore 7, 2), (53, .iload 4, 2), (55, .iconst 3, 1), (56, .ishr, 1), (57, .invokestatic 61, 3), (60, .istore 8, 2), (62, .iload 7, 2), (64, .ifCond .eq 25, 3), (67, .iload 7, 2), (69, .iconst 3, 1), (70, .if_icmp .eq 19, 3), (73, .iload 4, 2), (75, .bipush 11, 2), (77, .ishr, 1), (78, .iconst 4, 1), (79, .invokestatic 57, 3), (82, .ifCond .ne 7, 3), (85, .iconst 1, 1), (86, .goto 4, 3), (89, .iconst 0, 1), (90, .istore 9, 2), (92, .iload 7, 2), (94, .iconst 2, 1), (95, .if_icmp .ge 15, 3), (98, .iload 4, 2), (100, .bipush 13, 2), (102, .ishr, 1), (103, .iconst 3, 1), (104, .invokestatic 57, 3), (107, .goto 4, 3), (110, .iconst 0, 1), (111, .istore 10, 2), (113, .iload 7, 2), (115, .iconst 2, 1), (116, .if_icmp .ge 11, 3), (119, .iload 5, 2), (121, .invokestatic 64, 3), (124, .goto 23, 3), (127, .iload 7, 2), (129, .iconst 3, 1), (130, .if_icmp .ne 11, 3), (133, .iload 5, 2), (135, .invokestatic 61, 3), (138, .goto 9, 3), (141, .iload 5, 2), (143, .iconst 4, 1), (144, .invokestatic 57, 3), (147, .istore 11, 2), (149, .iload 7, 2), (151, .iconst 2, 1), (152, .if_icmp .ge 14, 3), (155, .iload 5, 2), (157, .bipush 12, 2), (159, .ishr, 1), (160, .invokestatic 64, 3), (163, .goto 12, 3), (166, .iload 5, 2), (168, .bipush 12, 2), (170, .ishr, 1), (171, .iconst 4, 1), (172, .invokestatic 57, 3), (175, .istore 12, 2), (177, .iload 7, 2), (179, .ifCond .ne 13, 3), (182, .aload_n 0, 1), (183, .ldc2_w 67, 3), (186, .invokestatic 69, 3), (189, .goto 76, 3), (192, .iload 7, 2), (194, .iconst 1, 1), (195, .if_icmp .ne 31, 3), (198, .aload_n 0, 1), (199, .ldc2_w 73, 3), (202, .invokestatic 69, 3), (205, .ifCond .eq 17, 3), (208, .aload_n 0, 1), (209, .ldc2_w 75, 3), (212, .invokestatic 69, 3), (215, .ifCond .eq 7, 3), (218, .iconst 1, 1), (219, .goto 46, 3), (222, .iconst 0, 1), (223, .goto 42, 3), (226, .iload 7, 2), (228, .iconst 2, 1), (229, .if_icmp .ne 13, 3), (232, .aload_n 0, 1), (233, .ldc2_w 77, 3), (236, .invokestatic 69, 3), (239, .goto 26, 3), (242, .iload 7, 2), (244, .iconst 3, 1), (245, .if_icmp .ne 13, 3), (248, .aload_n 0, 1), (249, .ldc2_w 79, 3), (252, .invokestatic 69, 3), (255, .goto 10, 3), (258, .aload_n 0, 1), (259, .ldc2_w 81, 3), (262, .invokestatic 69, 3), (265, .istore 13, 2), (267, .iload 13, 2), (269, .ifCond .eq 25, 3), (272, .aload_n 0, 1), (273, .bipush 32, 2), (275, .invokevirtual 11, 3), (278, .ifCond .le 16, 3), (281, .aload_n 0, 1), (282, .iload 8, 2), (284, .invokestatic 23, 3), (287, .ifCond .eq 7, 3), (290, .iconst 1, 1), (291, .goto 4, 3), (294, .iconst 0, 1), (295, .istore 13, 2), (297, .iload 7, 2), (299, .iconst 2, 1), (300, .if_icmp .ge 45, 3), (303, .iload 13, 2), (305, .ifCond .eq 37, 3), (308, .iload 10, 2), (310, .iconst 1, 1), (311, .if_icmp .lt 12, 3), (314, .aload_n 0, 1), (315, .iload 11, 2), (317, .invokestatic 83, 3), (320, .ifCond .eq 22, 3), (323, .iload 10, 2), (325, .iconst 2, 1), (326, .if_icmp .lt 12, 3), (329, .aload_n 0, 1), (330, .iload 12, 2), (332, .invokestatic 83, 3), (335, .ifCond .eq 7, 3), (338, .iconst 1, 1), (339, .goto 4, 3), (342, .iconst 0, 1), (343, .istore 13, 2), (345, .iload 7, 2), (347, .iconst 3, 1), (348, .if_icmp .ne 34, 3), (351, .iload 13, 2), (353, .ifCond .eq 26, 3), (356, .aload_n 0, 1), (357, .ldc2_w 86, 3), (360, .invokestatic 69, 3), (363, .ifCond .eq 16, 3), (366, .aload_n 0, 1), (367, .iload 11, 2), (369, .invokestatic 23, 3), (372, .ifCond .eq 7, 3), (375, .iconst 1, 1), (376, .goto 4, 3), (379, .iconst 0, 1), (380, .istore 13, 2), (382, .iload 7, 2), (384, .iconst 4, 1), (385, .if_icmp .ne 53, 3), (388, .iload 13, 2), (390, .ifCond .eq 45, 3), (393, .aload_n 0, 1), (394, .ldc2_w 88, 3), (397, .invokestatic 69, 3), (400, .ifCond .eq 35, 3), (403, .aload_n 0, 1), (404, .iload 11, 2), (406, .invokestatic 83, 3), (409, .ifCond .eq 26, 3), (412, .aload_n 0, 1), (413, .ldc2_w 90, 3), (416, .invokestatic 69, 3), (419, .ifCond .eq 16, 3), (422, .aload_n 0, 1), (423, .iload 12, 2), (425, .invokestatic 83, 3), (428, .ifCond .eq 7, 3), (431, .iconst 1, 1), (432, .goto 4, 3), (435, .iconst 0, 1), (436, .istore 13, 2), (438, .iload 13, 2), (440, .ifCond .eq 32, 3), (443, .iload 9, 2), (445, .ifCond .eq 23, 3), (448, .aload_n 0, 1), (449, .ldc2_w 92, 3), (452, .invokestatic 69, 3), (455, .ifCond .eq 17, 3), (458, .aload_n 0, 1), (459, .ldc2_w 94, 3), (462, .invokestatic 69, 3), (465, .ifCond .eq 7, 3), (468, .iconst 1, 1), (469, .goto 4, 3), (472, .iconst 0, 1), (473, .istore 13, 2), (475, .aload_n 1, 1), (476, .iload 6, 2), (478, .iload 7, 2), (480, .i2l, 1), (481, .bipush 60, 2), (483, .lshl, 1), (484, .iload 8, 2), (486, .i2l, 1), (487, .bipush 40, 2), (489, .lshl, 1), (490, .lor, 1), (491, .iload 11, 2), (493, .i2l, 1), (494, .bipush 20, 2), (496, .lshl, 1), (497, .lor, 1), (498, .iload 12, 2), (500, .i2l, 1), (501, .lor, 1), (502, .lastore, 1), (503, .aload_n 2, 1), (504, .iload 6, 2), (506, .iload 9, 2), (508, .ifCond .eq 7, 3), (511, .iconst 1, 1), (512, .goto 4, 3), (515, .iconst 0, 1), (516, .iconst 2, 1), (517, .iload 10, 2), (519, .imul, 1), (520, .iadd, 1), (521, .bipush 16, 2), (523, .aload_n 3, 1), (524, .iconst 0, 1), (525, .iaload, 1), (526, .imul, 1), (527, .iadd, 1), (528, .iastore, 1), (529, .aload_n 3, 1), (530, .bipush 25, 2), (532, .iload 6, 2), (534, .iconst 1, 1), (535, .iadd, 1), (536, .iastore, 1), (537, .iload 13, 2), (539, .ireturn, 1)])
def t_LAW_number : am_T := (⟨R_law, "number", "(I)I"⟩, method_17_code, 3, (some .int), 10, (1, 21, 1), [(0, .iload_n 0, 1), (1, .iconst 3, 1), (2, .ishr, 1), (3, .iconst 3, 1), (4, .invokestatic 57, 3), (7, .istore_n 1, 1), (8, .iload_n 1, 1), (9, .ifCond .le 17, 3), (12, .iload_n 0, 1), (13, .iconst 5, 1), (14, .ishr, 1), (15, .iconst 4, 1), (16, .invokestatic 57, 3), (19, .ifCond .ne 7, 3), (22, .iconst 1, 1), (23, .goto 4, 3), (26, .iconst 0, 1), (27, .istore_n 2, 1), (28, .sipush 729, 3), (31, .iconst 1, 1), (32, .iload_n 0, 1), (33, .iconst 3, 1), (34, .invokestatic 57, 3), (37, .iadd, 1), (38, .imul, 1), (39, .bipush 27, 2), (41, .iload_n 1, 1), (42, .imul, 1), (43, .iadd, 1), (44, .iload_n 2, 1), (45, .iadd, 1), (46, .ireturn, 1)])
def t_LAW_aWord : am_T := (⟨R_law, "aWord", "(I)I"⟩, method_18_code, 1, (some .int), 10, (2, 43, 1), [(0, .iload_n 0, 1), (1, .iconst 3, 1), (2, .invokestatic 57, 3), (5, .ifCond .ne 16, 3), (8, .sipush 1000, 3), (11, .iload_n 0, 1), (12, .iconst 3, 1), (13, .ishr, 1), (14, .invokestatic 61, 3), (17, .iadd, 1), (18, .goto 10, 3), (21, .iload_n 0, 1), (22, .iconst 3, 1), (23, .ishr, 1), (24, .iconst 4, 1), (25, .invokestatic 57, 3), (28, .ireturn, 1)])
def t_LAW_types : am_T := (⟨R_law, "types", "(LStatuteBook;J)Z"⟩, method_4_code, 6, (some .boolean), 10, (3, 62, 2), [(0, .iconst 1, 1), (1, .istore_n 3, 1), (2, .bipush 56, 2), (4, .istore 4, 2), (6, .iload 4, 2), (8, .ifCond .lt 44, 3), (11, .lload_n 1, 1), (12, .iload 4, 2), (14, .lshr, 1), (15, .ldc2_w 9, 3), (18, .land, 1), (19, .l2i, 1), (20, .istore 5, 2), (22, .iload_n 3, 1), (23, .ifCond .eq 21, 3), (26, .iload 5, 2), (28, .ifCond .eq 12, 3), (31, .aload_n 0, 1), (32, .iload 5, 2), (34, .invokevirtual 11, 3), (37, .ifCond .le 7, 3), (40, .iconst 1, 1), (41, .goto 4, 3), (44, .iconst 0, 1), (45, .istore_n 3, 1), (46, .iinc 4 (-8), 3), (49, .goto (-43), 3), (52, .iload_n 3, 1), (53, .ireturn, 1)])
def t_LAW_typesNumber : am_T := (⟨R_law, "typesNumber", "(LStatuteBook;I)Z"⟩, method_6_code, 4, (some .boolean), 10, (4, 83, 2), [(0, .iload_n 1, 1), (1, .sipush 729, 3), (4, .irem, 1), (5, .bipush 27, 2), (7, .idiv, 1), (8, .istore_n 2, 1), (9, .iload_n 1, 1), (10, .bipush 27, 2), (12, .irem, 1), (13, .istore_n 3, 1), (14, .aload_n 0, 1), (15, .iload_n 1, 1), (16, .sipush 729, 3), (19, .idiv, 1), (20, .invokestatic 17, 3), (23, .ifCond .eq 41, 3), (26, .iload_n 2, 1), (27, .ifCond .eq 16, 3), (30, .aload_n 0, 1), (31, .bipush 65, 2), (33, .iload_n 2, 1), (34, .iadd, 1), (35, .iconst 1, 1), (36, .isub, 1), (37, .invokevirtual 11, 3), (40, .ifCond .le 24, 3), (43, .iload_n 3, 1), (44, .ifCond .eq 16, 3), (47, .aload_n 0, 1), (48, .bipush 65, 2), (50, .iload_n 3, 1), (51, .iadd, 1), (52, .iconst 1, 1), (53, .isub, 1), (54, .invokevirtual 11, 3), (57, .ifCond .le 7, 3), (60, .iconst 1, 1), (61, .goto 4, 3), (64, .iconst 0, 1), (65, .ireturn, 1)])
def t_LAW_typesInteger : am_T := (⟨R_law, "typesInteger", "(LStatuteBook;I)Z"⟩, method_5_code, 2, (some .boolean), 10, (3, 62, 2), [(0, .iload_n 1, 1), (1, .bipush 100, 2), (3, .if_icmp .lt 17, 3), (6, .aload_n 0, 1), (7, .bipush 48, 2), (9, .iload_n 1, 1), (10, .bipush 100, 2), (12, .idiv, 1), (13, .iadd, 1), (14, .invokevirtual 11, 3), (17, .ifCond .le 44, 3), (20, .iload_n 1, 1), (21, .bipush 10, 2), (23, .if_icmp .lt 20, 3), (26, .aload_n 0, 1), (27, .bipush 48, 2), (29, .iload_n 1, 1), (30, .bipush 10, 2), (32, .idiv, 1), (33, .bipush 10, 2), (35, .irem, 1), (36, .iadd, 1), (37, .invokevirtual 11, 3), (40, .ifCond .le 21, 3), (43, .aload_n 0, 1), (44, .bipush 48, 2), (46, .iload_n 1, 1), (47, .bipush 10, 2), (49, .irem, 1), (50, .iadd, 1), (51, .invokevirtual 11, 3), (54, .ifCond .le 7, 3), (57, .iconst 1, 1), (58, .goto 4, 3), (61, .iconst 0, 1), (62, .ireturn, 1)])
def t_LAW_typesWord : am_T := (⟨R_law, "typesWord", "(LStatuteBook;I)Z"⟩, method_7_code, 2, (some .boolean), 10, (5, 106, 2), [(0, .aload_n 0, 1), (1, .bipush 32, 2), (3, .invokevirtual 11, 3), (6, .ifCond .le 46, 3), (9, .iload_n 1, 1), (10, .sipush 1000, 3), (13, .if_icmp .ge 14, 3), (16, .aload_n 0, 1), (17, .iload_n 1, 1), (18, .invokestatic 17, 3), (21, .ifCond .eq 31, 3), (24, .goto 24, 3), (27, .aload_n 0, 1), (28, .bipush 64, 2), (30, .invokevirtual 11, 3), (33, .ifCond .le 19, 3), (36, .aload_n 0, 1), (37, .iload_n 1, 1), (38, .sipush 1000, 3), (41, .isub, 1), (42, .invokestatic 23, 3), (45, .ifCond .eq 7, 3), (48, .iconst 1, 1), (49, .goto 4, 3), (52, .iconst 0, 1), (53, .ireturn, 1)])
def t_SB_enact : am_T := (⟨RX8, "enact", "(I)I"⟩, prog_1_method_4_code, 4, (some .int), 8, (9, 191, 2), [(0, .iload_n 1, 1), (1, .sipush 9999, 3), (4, .invokestatic 56, 3), (7, .ifCond .ne 6, 3), (10, .bipush (-2), 2), (12, .ireturn, 1), (13, .aload_n 0, 1), (14, .getfield 12, 3), (17, .invokevirtual 73, 3), (20, .istore_n 2, 1), (21, .iload_n 2, 1), (22, .iconst (-1), 1), (23, .if_icmp .eq 9, 3), (26, .sipush (-2000), 3), (29, .iload_n 2, 1), (30, .isub, 1), (31, .ireturn, 1), (32, .aload_n 0, 1), (33, .iload_n 1, 1), (34, .invokevirtual 76, 3), (37, .istore_n 3, 1), (38, .iload_n 3, 1), (39, .bipush (-4), 2), (41, .if_icmp .eq 13, 3), (44, .aload_n 0, 1), (45, .getfield 12, 3), (48, .getfield 60, 3), (51, .invokevirtual 70, 3), (54, .iload_n 3, 1), (55, .ireturn, 1)])
def t_Rea_readAmendment : am_T := (⟨RX5, "readAmendment", "()I"⟩, prog_7_method_2_code, 3, (some .int), 5, (8, 169, 1), [(0, .aload_n 0, 1), (1, .getfield 23, 3), (4, .invokevirtual 27, 3), (7, .aload_n 0, 1), (8, .iconst 0, 1), (9, .putfield 30, 3), (12, .aload_n 0, 1), (13, .iconst (-1), 1), (14, .putfield 34, 3), (17, .iconst 1, 1), (18, .istore_n 1, 1), (19, .iconst 0, 1), (20, .istore_n 2, 1), (21, .iload_n 1, 1), (22, .ifCond .eq 40, 3), (25, .iload_n 2, 1), (26, .bipush 40, 2), (28, .if_icmp .gt 34, 3), (31, .aload_n 0, 1), (32, .invokevirtual 37, 3), (35, .aload_n 0, 1), (36, .getfield 34, 3), (39, .iconst (-1), 1), (40, .if_icmp .ne 14, 3), (43, .aload_n 0, 1), (44, .invokevirtual 40, 3), (47, .ifCond .eq 7, 3), (50, .iconst 1, 1), (51, .goto 4, 3), (54, .iconst 0, 1), (55, .istore_n 1, 1), (56, .iinc 2 1, 3), (59, .goto (-38), 3), (62, .aload_n 0, 1), (63, .getfield 34, 3), (66, .ireturn, 1)])
def t_Dra_makeEmpty : am_T := (⟨RX2, "makeEmpty", "()V"⟩, prog_4_method_2_code, 1, none, 2, (0, 0, 1), [(0, .aload_n 0, 1), (1, .iconst 0, 1), (2, .putfield 20, 3), (5, .aload_n 0, 1), (6, .iconst 0, 1), (7, .putfield 24, 3), (10, .return_, 1)])
def t_Rea_readOperation : am_T := (⟨RX5, "readOperation", "()V"⟩, prog_7_method_4_code, 2, none, 5, (7, 148, 1), [(0, .aload_n 0, 1), (1, .invokevirtual 44, 3), (4, .aload_n 0, 1), (5, .getfield 23, 3), (8, .invokevirtual 47, 3), (11, .bipush 40, 2), (13, .if_icmp .ge 10, 3), (16, .aload_n 0, 1), (17, .invokevirtual 51, 3), (20, .goto 4, 3), (23, .iconst (-1), 1), (24, .istore_n 1, 1), (25, .iload_n 1, 1), (26, .iconst (-1), 1), (27, .if_icmp .ne 12, 3), (30, .aload_n 0, 1), (31, .aload_n 0, 1), (32, .getfield 30, 3), (35, .invokevirtual 54, 3), (38, .return_, 1), (39, .aload_n 0, 1), (40, .invokevirtual 44, 3), (43, .aload_n 0, 1), (44, .getfield 23, 3), (47, .iload_n 1, 1), (48, .aload_n 0, 1), (49, .invokevirtual 57, 3), (52, .invokevirtual 60, 3), (55, .iload_n 1, 1), (56, .ifCond .eq 8, 3), (59, .iload_n 1, 1), (60, .iconst 1, 1), (61, .if_icmp .ne 10, 3), (64, .aload_n 0, 1), (65, .invokevirtual 64, 3), (68, .goto 74, 3), (71, .iload_n 1, 1), (72, .iconst 3, 1), (73, .if_icmp .ne 28, 3), (76, .aload_n 0, 1), (77, .ldc 67, 2), (79, .invokevirtual 69, 3), (82, .aload_n 0, 1), (83, .invokevirtual 44, 3), (86, .aload_n 0, 1), (87, .getfield 23, 3), (90, .iconst 2, 1), (91, .aload_n 0, 1), (92, .invokevirtual 57, 3), (95, .invokevirtual 73, 3), (98, .goto 44, 3), (101, .iload_n 1, 1), (102, .iconst 4, 1), (103, .if_icmp .ne 39, 3), (106, .aload_n 0, 1), (107, .ldc 76, 2), (109, .invokevirtual 69, 3), (112, .aload_n 0, 1), (113, .getfield 23, 3), (116, .iconst 2, 1), (117, .aload_n 0, 1), (118, .invokevirtual 78, 3), (121, .invokevirtual 73, 3), (124, .aload_n 0, 1), (125, .ldc 81, 2), (127, .invokevirtual 69, 3), (130, .aload_n 0, 1), (131, .getfield 23, 3), (134, .iconst 3, 1), (135, .aload_n 0, 1), (136, .invokevirtual 78, 3), (139, .invokevirtual 73, 3), (142, .iload_n 1, 1), (143, .ifCond .eq 12, 3), (146, .iload_n 1, 1), (147, .iconst 3, 1), (148, .if_icmp .eq 7, 3), (151, .aload_n 0, 1), (152, .invokevirtual 82, 3), (155, .return_, 1)])
def t_Rea_skipBlanks : am_T := (⟨RX5, "skipBlanks", "()V"⟩, prog_7_method_15_code, 1, none, 5, (2, 41, 1), [(0, .aload_n 0, 1), (1, .getfield 30, 3), (4, .aload_n 0, 1), (5, .getfield 14, 3), (8, .invokevirtual 118, 3), (11, .if_icmp .ge 32, 3), (14, .aload_n 0, 1), (15, .getfield 14, 3), (18, .aload_n 0, 1), (19, .getfield 30, 3), (22, .invokevirtual 102, 3), (25, .bipush 32, 2), (27, .if_icmp .ne 16, 3), (30, .aload_n 0, 1), (31, .dup, 1), (32, .getfield 30, 3), (35, .iconst 1, 1), (36, .iadd, 1), (37, .putfield 30, 3), (40, .goto (-40), 3), (43, .return_, 1)])
def t_Pag_byteAt : am_T := (⟨RX4, "byteAt", "(I)I"⟩, prog_6_method_5_code, 2, (some .int), 4, (0, 0, 2), [(0, .iload_n 1, 1), (1, .ifCond .lt 29, 3), (4, .iload_n 1, 1), (5, .aload_n 0, 1), (6, .getfield 21, 3), (9, .if_icmp .ge 21, 3), (12, .iload_n 1, 1), (13, .aload_n 0, 1), (14, .getfield 15, 3), (17, .arraylength, 1), (18, .if_icmp .ge 12, 3), (21, .aload_n 0, 1), (22, .getfield 15, 3), (25, .iload_n 1, 1), (26, .iaload, 1), (27, .goto 4, 3), (30, .iconst (-1), 1), (31, .ireturn, 1)])
def t_Dra_size : am_T := (⟨RX2, "size", "()I"⟩, prog_4_method_3_code, 1, (some .int), 2, (0, 0, 1), [(0, .aload_n 0, 1), (1, .getfield 20, 3), (4, .ireturn, 1)])
def t_Rea_readKind : am_T := (⟨RX5, "readKind", "()I"⟩, prog_7_method_5_code, 1, (some .int), 5, (5, 107, 1), [(0, .aload_n 0, 1), (1, .ldc 85, 2), (3, .invokevirtual 87, 3), (6, .ifCond .eq 5, 3), (9, .iconst 0, 1), (10, .ireturn, 1), (11, .aload_n 0, 1), (12, .ldc 91, 2), (14, .invokevirtual 87, 3), (17, .ifCond .eq 5, 3), (20, .iconst 1, 1), (21, .ireturn, 1), (22, .aload_n 0, 1), (23, .ldc 93, 2), (25, .invokevirtual 87, 3), (28, .ifCond .eq 5, 3), (31, .iconst 2, 1), (32, .ireturn, 1), (33, .aload_n 0, 1), (34, .ldc 95, 2), (36, .invokevirtual 87, 3), (39, .ifCond .eq 5, 3), (42, .iconst 3, 1), (43, .ireturn, 1), (44, .aload_n 0, 1), (45, .ldc 97, 2), (47, .invokevirtual 87, 3), (50, .ifCond .eq 7, 3), (53, .iconst 4, 1), (54, .goto 4, 3), (57, .iconst (-1), 1), (58, .ireturn, 1)])
def t_Rea_passes : am_T := (⟨RX5, "passes", "(Ljava/lang/String;)Z"⟩, prog_7_method_14_code, 3, (some .boolean), 5, (4, 85, 2), [(0, .iconst 0, 1), (1, .istore_n 2, 1), (2, .iload_n 2, 1), (3, .aload_n 1, 1), (4, .invokevirtual 121, 3), (7, .if_icmp .ge 32, 3), (10, .aload_n 0, 1), (11, .getfield 14, 3), (14, .aload_n 0, 1), (15, .getfield 30, 3), (18, .iload_n 2, 1), (19, .iadd, 1), (20, .invokevirtual 102, 3), (23, .aload_n 1, 1), (24, .iload_n 2, 1), (25, .invokevirtual 126, 3), (28, .if_icmp .eq 5, 3), (31, .iconst 0, 1), (32, .ireturn, 1), (33, .iinc 2 1, 3), (36, .goto (-34), 3), (39, .aload_n 0, 1), (40, .getfield 14, 3), (43, .aload_n 0, 1), (44, .getfield 30, 3), (47, .aload_n 1, 1), (48, .invokevirtual 121, 3), (51, .iadd, 1), (52, .invokevirtual 102, 3), (55, .bipush 97, 2), (57, .bipush 122, 2), (59, .invokestatic 112, 3), (62, .ifCond .eq 5, 3), (65, .iconst 0, 1), (66, .ireturn, 1), (67, .aload_n 0, 1), (68, .dup, 1), (69, .getfield 30, 3), (72, .aload_n 1, 1), (73, .invokevirtual 121, 3), (76, .iadd, 1), (77, .putfield 30, 3), (80, .iconst 1, 1), (81, .ireturn, 1)])
def t_Str_length : am_T := (⟨"java/lang/String", "length", "()I"⟩, prog_14_method_54_code, 1, (some .int), 14, (1, 20, 1), [(0, .aload_n 0, 1), (1, .getfield 9, 3), (4, .arraylength, 1), (5, .aload_n 0, 1), (6, .invokevirtual 335, 3), (9, .ishr, 1), (10, .ireturn, 1)])
def t_Str_coder : am_T := (⟨"java/lang/String", "coder", "()B"⟩, prog_14_method_152_code, 1, (some .byte), 14, (0, 0, 1), [(0, .getstatic 38, 3), (3, .ifCond .eq 10, 3), (6, .aload_n 0, 1), (7, .getfield 15, 3), (10, .goto 4, 3), (13, .iconst 1, 1), (14, .ireturn, 1)])
def t_Str_charAt : am_T := (⟨"java/lang/String", "charAt", "(I)C"⟩, prog_14_method_56_code, 2, (some .char), 14, (3, 64, 2), [(0, .aload_n 0, 1), (1, .invokevirtual 492, 3), (4, .ifCond .eq 12, 3), (7, .aload_n 0, 1), (8, .getfield 9, 3), (11, .iload_n 1, 1), (12, .invokestatic 495, 3), (15, .ireturn, 1), (16, .aload_n 0, 1), (17, .getfield 9, 3), (20, .iload_n 1, 1), (21, .invokestatic 498, 3), (24, .ireturn, 1)])
def t_Str_isLatin1 : am_T := (⟨"java/lang/String", "isLatin1", "()Z"⟩, prog_14_method_154_code, 1, (some .boolean), 14, (0, 0, 1), [(0, .getstatic 38, 3), (3, .ifCond .eq 14, 3), (6, .aload_n 0, 1), (7, .getfield 15, 3), (10, .ifCond .ne 7, 3), (13, .iconst 1, 1), (14, .goto 4, 3), (17, .iconst 0, 1), (18, .ireturn, 1)])
def t_SL1_charAt : am_T := (⟨"java/lang/StringLatin1", "charAt", "([BI)C"⟩, prog_15_method_2_code, 2, (some .char), 15, (2, 43, 2), [(0, .iload_n 1, 1), (1, .aload_n 0, 1), (2, .arraylength, 1), (3, .invokestatic 9, 3), (6, .aload_n 0, 1), (7, .iload_n 1, 1), (8, .baload, 1), (9, .sipush 255, 3), (12, .iand, 1), (13, .i2c, 1), (14, .ireturn, 1)])
def t_Str_checkIndex : am_T := (⟨"java/lang/String", "checkIndex", "(II)V"⟩, prog_14_method_155_code, 2, none, 14, (1, 22, 2), [(0, .iload_n 0, 1), (1, .iload_n 1, 1), (2, .getstatic 1053, 3), (5, .invokestatic 1059, 3), (8, .pop, 1), (9, .return_, 1)])
def t_Pre_checkIndex : am_T := (⟨"jdk/internal/util/Preconditions", "checkIndex", "(IILjava/util/function/BiFunction;)I"⟩, prog_19_method_11_code, 3, (some .int), 16, (0, 0, 3), [(0, .iload_n 0, 1), (1, .ifCond .lt 8, 3), (4, .iload_n 0, 1), (5, .iload_n 1, 1), (6, .if_icmp .lt 10, 3), (9, .aload_n 2, 1), (10, .iload_n 0, 1), (11, .iload_n 1, 1), (12, .invokestatic 95, 3), (15, .athrow, 1), (16, .iload_n 0, 1), (17, .ireturn, 1)])
def t_Rea_isBetween : am_T := (⟨RX5, "isBetween", "(ICC)Z"⟩, prog_7_method_16_code, 3, (some .boolean), 5, (0, 0, 3), [(0, .iload_n 0, 1), (1, .iload_n 1, 1), (2, .if_icmp .lt 12, 3), (5, .iload_n 0, 1), (6, .iload_n 2, 1), (7, .if_icmp .gt 7, 3), (10, .iconst 1, 1), (11, .goto 4, 3), (14, .iconst 0, 1), (15, .ireturn, 1)])
def t_Rea_fail : am_T := (⟨RX5, "fail", "(I)V"⟩, prog_7_method_3_code, 2, none, 5, (0, 0, 2), [(0, .aload_n 0, 1), (1, .getfield 34, 3), (4, .iconst (-1), 1), (5, .if_icmp .ne 8, 3), (8, .aload_n 0, 1), (9, .iload_n 1, 1), (10, .putfield 34, 3), (13, .return_, 1)])
def t_Rea_readNumber : am_T := (⟨RX5, "readNumber", "()I"⟩, prog_7_method_11_code, 2, (some .int), 5, (2, 45, 1), [(0, .aload_n 0, 1), (1, .iconst 1, 1), (2, .invokevirtual 109, 3), (5, .sipush 729, 3), (8, .imul, 1), (9, .istore_n 1, 1), (10, .aload_n 0, 1), (11, .getfield 14, 3), (14, .aload_n 0, 1), (15, .getfield 30, 3), (18, .invokevirtual 102, 3), (21, .bipush 65, 2), (23, .bipush 90, 2), (25, .invokestatic 112, 3), (28, .ifCond .eq 85, 3), (31, .iload_n 1, 1), (32, .aload_n 0, 1), (33, .getfield 14, 3), (36, .aload_n 0, 1), (37, .getfield 30, 3), (40, .invokevirtual 102, 3), (43, .bipush 65, 2), (45, .isub, 1), (46, .iconst 1, 1), (47, .iadd, 1), (48, .bipush 27, 2), (50, .imul, 1), (51, .iadd, 1), (52, .istore_n 1, 1), (53, .aload_n 0, 1), (54, .dup, 1), (55, .getfield 30, 3), (58, .iconst 1, 1), (59, .iadd, 1), (60, .putfield 30, 3), (63, .aload_n 0, 1), (64, .getfield 14, 3), (67, .aload_n 0, 1), (68, .getfield 30, 3), (71, .invokevirtual 102, 3), (74, .bipush 65, 2), (76, .bipush 90, 2), (78, .invokestatic 112, 3), (81, .ifCond .eq 32, 3), (84, .iload_n 1, 1), (85, .aload_n 0, 1), (86, .getfield 14, 3), (89, .aload_n 0, 1), (90, .getfield 30, 3), (93, .invokevirtual 102, 3), (96, .bipush 65, 2), (98, .isub, 1), (99, .iconst 1, 1), (100, .iadd, 1), (101, .iadd, 1), (102, .istore_n 1, 1), (103, .aload_n 0, 1), (104, .dup, 1), (105, .getfield 30, 3), (108, .iconst 1, 1), (109, .iadd, 1), (110, .putfield 30, 3), (113, .iload_n 1, 1), (114, .ireturn, 1)])
def t_Rea_readDigits : am_T := (⟨RX5, "readDigits", "(I)I"⟩, prog_7_method_12_code, 4, (some .int), 5, (1, 22, 2), [(0, .aload_n 0, 1), (1, .getfield 30, 3), (4, .istore_n 2, 1), (5, .iconst 0, 1), (6, .istore_n 3, 1), (7, .aload_n 0, 1), (8, .getfield 30, 3), (11, .iload_n 2, 1), (12, .iconst 3, 1), (13, .iadd, 1), (14, .if_icmp .ge 57, 3), (17, .aload_n 0, 1), (18, .getfield 14, 3), (21, .aload_n 0, 1), (22, .getfield 30, 3), (25, .invokevirtual 102, 3), (28, .bipush 48, 2), (30, .bipush 57, 2), (32, .invokestatic 112, 3), (35, .ifCond .eq 36, 3), (38, .iload_n 3, 1), (39, .bipush 10, 2), (41, .imul, 1), (42, .aload_n 0, 1), (43, .getfield 14, 3), (46, .aload_n 0, 1), (47, .getfield 30, 3), (50, .invokevirtual 102, 3), (53, .iadd, 1), (54, .bipush 48, 2), (56, .isub, 1), (57, .istore_n 3, 1), (58, .aload_n 0, 1), (59, .dup, 1), (60, .getfield 30, 3), (63, .iconst 1, 1), (64, .iadd, 1), (65, .putfield 30, 3), (68, .goto (-61), 3), (71, .iload_n 3, 1), (72, .iload_n 1, 1), (73, .if_icmp .ge 8, 3), (76, .aload_n 0, 1), (77, .iload_n 2, 1), (78, .invokevirtual 54, 3), (81, .aload_n 0, 1), (82, .getfield 30, 3), (85, .iload_n 2, 1), (86, .if_icmp .eq 24, 3), (89, .aload_n 0, 1), (90, .getfield 14, 3), (93, .aload_n 0, 1), (94, .getfield 30, 3), (97, .invokevirtual 102, 3), (100, .bipush 48, 2), (102, .bipush 57, 2), (104, .invokestatic 112, 3), (107, .ifCond .eq 11, 3), (110, .aload_n 0, 1), (111, .aload_n 0, 1), (112, .getfield 30, 3), (115, .invokevirtual 54, 3), (118, .iload_n 3, 1), (119, .ireturn, 1)])
def t_Dra_begin : am_T := (⟨RX2, "begin", "(II)V"⟩, prog_4_method_5_code, 3, none, 2, (2, 44, 3), [(0, .aload_n 0, 1), (1, .dup, 1), (2, .getfield 20, 3), (5, .iconst 1, 1), (6, .iadd, 1), (7, .putfield 20, 3), (10, .aload_n 0, 1), (11, .iconst 0, 1), (12, .iload_n 1, 1), (13, .invokevirtual 27, 3), (16, .aload_n 0, 1), (17, .iconst 1, 1), (18, .iload_n 2, 1), (19, .invokevirtual 27, 3), (22, .aload_n 0, 1), (23, .iconst 2, 1), (24, .iconst (-1), 1), (25, .invokevirtual 27, 3), (28, .aload_n 0, 1), (29, .iconst 3, 1), (30, .iconst (-1), 1), (31, .invokevirtual 27, 3), (34, .aload_n 0, 1), (35, .iconst 4, 1), (36, .iconst 0, 1), (37, .invokevirtual 27, 3), (40, .aload_n 0, 1), (41, .iconst 5, 1), (42, .iconst 0, 1), (43, .invokevirtual 27, 3), (46, .aload_n 0, 1), (47, .bipush 6, 2), (49, .iconst (-1), 1), (50, .invokevirtual 27, 3), (53, .iload_n 1, 1), (54, .ifCond .ne 13, 3), (57, .aload_n 0, 1), (58, .dup, 1), (59, .getfield 24, 3), (62, .iconst 1, 1), (63, .iadd, 1), (64, .putfield 24, 3), (67, .return_, 1)])
def t_Dra_put : am_T := (⟨RX2, "put", "(II)V"⟩, prog_4_method_6_code, 3, none, 2, (1, 22, 3), [(0, .aload_n 0, 1), (1, .getfield 14, 3), (4, .aload_n 0, 1), (5, .getfield 20, 3), (8, .iconst 1, 1), (9, .isub, 1), (10, .bipush 13, 2), (12, .imul, 1), (13, .iload_n 1, 1), (14, .iadd, 1), (15, .iload_n 2, 1), (16, .invokevirtual 31, 3), (19, .return_, 1)])
def t_Rea_readWords : am_T := (⟨RX5, "readWords", "()V"⟩, prog_7_method_6_code, 2, none, 5, (4, 81, 1), [(0, .iconst 0, 1), (1, .istore_n 1, 1), (2, .iload_n 1, 1), (3, .bipush 6, 2), (5, .if_icmp .ge 80, 3), (8, .aload_n 0, 1), (9, .getfield 34, 3), (12, .iconst (-1), 1), (13, .if_icmp .ne 72, 3), (16, .aload_n 0, 1), (17, .invokevirtual 99, 3), (20, .ifCond .eq 65, 3), (23, .aload_n 0, 1), (24, .getfield 14, 3), (27, .aload_n 0, 1), (28, .getfield 30, 3), (31, .invokevirtual 102, 3), (34, .bipush 64, 2), (36, .if_icmp .ne 31, 3), (39, .aload_n 0, 1), (40, .dup, 1), (41, .getfield 30, 3), (44, .iconst 1, 1), (45, .iadd, 1), (46, .putfield 30, 3), (49, .aload_n 0, 1), (50, .getfield 23, 3), (53, .sipush 1000, 3), (56, .aload_n 0, 1), (57, .invokevirtual 57, 3), (60, .iadd, 1), (61, .invokevirtual 106, 3), (64, .goto 15, 3), (67, .aload_n 0, 1), (68, .getfield 23, 3), (71, .aload_n 0, 1), (72, .iconst 0, 1), (73, .invokevirtual 109, 3), (76, .invokevirtual 106, 3), (79, .iinc 1 1, 3), (82, .goto (-80), 3), (85, .return_, 1)])
def t_Rea_isAtWord : am_T := (⟨RX5, "isAtWord", "()Z"⟩, prog_7_method_7_code, 1, (some .boolean), 5, (3, 61, 1), [(0, .aload_n 0, 1), (1, .invokevirtual 44, 3), (4, .aload_n 0, 1), (5, .getfield 14, 3), (8, .aload_n 0, 1), (9, .getfield 30, 3), (12, .invokevirtual 102, 3), (15, .bipush 64, 2), (17, .if_icmp .eq 24, 3), (20, .aload_n 0, 1), (21, .getfield 14, 3), (24, .aload_n 0, 1), (25, .getfield 30, 3), (28, .invokevirtual 102, 3), (31, .bipush 48, 2), (33, .bipush 57, 2), (35, .invokestatic 112, 3), (38, .ifCond .eq 7, 3), (41, .iconst 1, 1), (42, .goto 4, 3), (45, .iconst 0, 1), (46, .ireturn, 1)])
def t_Dra_addWord : am_T := (⟨RX2, "addWord", "(I)V"⟩, prog_4_method_7_code, 3, none, 2, (2, 44, 2), [(0, .aload_n 0, 1), (1, .getfield 14, 3), (4, .aload_n 0, 1), (5, .getfield 20, 3), (8, .iconst 1, 1), (9, .isub, 1), (10, .bipush 13, 2), (12, .imul, 1), (13, .iconst 5, 1), (14, .iadd, 1), (15, .invokevirtual 34, 3), (18, .istore_n 2, 1), (19, .aload_n 0, 1), (20, .bipush 7, 2), (22, .iload_n 2, 1), (23, .iadd, 1), (24, .iload_n 1, 1), (25, .invokevirtual 27, 3), (28, .aload_n 0, 1), (29, .iconst 5, 1), (30, .iload_n 2, 1), (31, .iconst 1, 1), (32, .iadd, 1), (33, .invokevirtual 27, 3), (36, .return_, 1)])
def t_Rea_expect : am_T := (⟨RX5, "expect", "(Ljava/lang/String;)V"⟩, prog_7_method_13_code, 2, none, 5, (5, 107, 2), [(0, .aload_n 0, 1), (1, .invokevirtual 44, 3), (4, .aload_n 0, 1), (5, .aload_n 1, 1), (6, .invokevirtual 87, 3), (9, .ifCond .ne 11, 3), (12, .aload_n 0, 1), (13, .aload_n 0, 1), (14, .getfield 30, 3), (17, .invokevirtual 54, 3), (20, .return_, 1)])
def t_Rea_readPlain : am_T := (⟨RX5, "readPlain", "()I"⟩, prog_7_method_10_code, 1, (some .int), 5, (3, 61, 1), [(0, .aload_n 0, 1), (1, .invokevirtual 44, 3), (4, .aload_n 0, 1), (5, .iconst 0, 1), (6, .invokevirtual 109, 3), (9, .ireturn, 1)])
def t_Rea_readSaving : am_T := (⟨RX5, "readSaving", "()V"⟩, prog_7_method_8_code, 1, none, 5, (6, 128, 1), [(0, .aload_n 0, 1), (1, .invokevirtual 44, 3), (4, .aload_n 0, 1), (5, .getfield 34, 3), (8, .iconst (-1), 1), (9, .if_icmp .ne 39, 3), (12, .aload_n 0, 1), (13, .getfield 14, 3), (16, .aload_n 0, 1), (17, .getfield 30, 3), (20, .invokevirtual 102, 3), (23, .bipush 97, 2), (25, .bipush 122, 2), (27, .invokestatic 112, 3), (30, .ifCond .eq 18, 3), (33, .aload_n 0, 1), (34, .ldc 116, 2), (36, .invokevirtual 69, 3), (39, .aload_n 0, 1), (40, .getfield 23, 3), (43, .iconst 4, 1), (44, .iconst 1, 1), (45, .invokevirtual 73, 3), (48, .return_, 1)])
def t_Rea_readSemicolon : am_T := (⟨RX5, "readSemicolon", "()Z"⟩, prog_7_method_9_code, 1, (some .boolean), 5, (3, 61, 1), [(0, .aload_n 0, 1), (1, .invokevirtual 44, 3), (4, .aload_n 0, 1), (5, .getfield 14, 3), (8, .aload_n 0, 1), (9, .getfield 30, 3), (12, .invokevirtual 102, 3), (15, .bipush 59, 2), (17, .if_icmp .ne 15, 3), (20, .aload_n 0, 1), (21, .dup, 1), (22, .getfield 30, 3), (25, .iconst 1, 1), (26, .iadd, 1), (27, .putfield 30, 3), (30, .iconst 1, 1), (31, .ireturn, 1), (32, .aload_n 0, 1), (33, .getfield 30, 3), (36, .aload_n 0, 1), (37, .getfield 14, 3), (40, .invokevirtual 118, 3), (43, .if_icmp .ge 11, 3), (46, .aload_n 0, 1), (47, .aload_n 0, 1), (48, .getfield 30, 3), (51, .invokevirtual 54, 3), (54, .iconst 0, 1), (55, .ireturn, 1)])
def t_SB_addDraft : am_T := (⟨RX8, "addDraft", "(I)I"⟩, prog_1_method_5_code, 2, (some .int), 8, (4, 86, 2), [(0, .aload_n 0, 1), (1, .getfield 28, 3), (4, .aload_n 0, 1), (5, .getfield 12, 3), (8, .getfield 80, 3), (11, .invokevirtual 84, 3), (14, .ifCond .ne 6, 3), (17, .bipush (-4), 2), (19, .ireturn, 1), (20, .aload_n 0, 1), (21, .getfield 35, 3), (24, .aload_n 0, 1), (25, .getfield 28, 3), (28, .invokevirtual 88, 3), (31, .aload_n 0, 1), (32, .getfield 28, 3), (35, .aload_n 0, 1), (36, .getfield 12, 3), (39, .getfield 80, 3), (42, .iload_n 1, 1), (43, .invokevirtual 92, 3), (46, .aload_n 0, 1), (47, .getfield 28, 3), (50, .invokevirtual 96, 3), (53, .iconst 1, 1), (54, .isub, 1), (55, .ireturn, 1)])
def t_Amd_hasRoomFor : am_T := (⟨RX0, "hasRoomFor", "(LStatuteBook$Draft;)Z"⟩, prog_2_method_16_code, 2, (some .boolean), 0, (2, 41, 2), [(0, .aload_n 0, 1), (1, .invokevirtual 31, 3), (4, .bipush 20, 2), (6, .if_icmp .ge 35, 3), (9, .aload_n 0, 1), (10, .invokevirtual 42, 3), (13, .aload_n 1, 1), (14, .invokevirtual 45, 3), (17, .iadd, 1), (18, .bipush 120, 2), (20, .if_icmp .gt 21, 3), (23, .aload_n 0, 1), (24, .invokevirtual 48, 3), (27, .aload_n 1, 1), (28, .invokevirtual 51, 3), (31, .iadd, 1), (32, .bipush 40, 2), (34, .if_icmp .gt 7, 3), (37, .iconst 1, 1), (38, .goto 4, 3), (41, .iconst 0, 1), (42, .ireturn, 1)])
def t_Dra_inserts : am_T := (⟨RX2, "inserts", "()I"⟩, prog_4_method_4_code, 1, (some .int), 2, (0, 0, 1), [(0, .aload_n 0, 1), (1, .getfield 24, 3), (4, .ireturn, 1)])
def t_Amd_add : am_T := (⟨RX0, "add", "(LStatuteBook$Draft;I)V"⟩, prog_2_method_17_code, 7, none, 0, (2, 44, 3), [(0, .aload_n 0, 1), (1, .invokevirtual 42, 3), (4, .istore_n 3, 1), (5, .iload_n 3, 1), (6, .aload_n 1, 1), (7, .invokevirtual 45, 3), (10, .iadd, 1), (11, .istore 4, 2), (13, .bipush 45, 2), (15, .iload_n 3, 1), (16, .bipush 13, 2), (18, .imul, 1), (19, .iadd, 1), (20, .istore 5, 2), (22, .aload_n 0, 1), (23, .getfield 16, 3), (26, .aload_n 1, 1), (27, .getfield 54, 3), (30, .iconst 0, 1), (31, .iload 5, 2), (33, .aload_n 1, 1), (34, .invokevirtual 45, 3), (37, .bipush 13, 2), (39, .imul, 1), (40, .invokevirtual 55, 3), (43, .iload_n 3, 1), (44, .istore 6, 2), (46, .iload 6, 2), (48, .iload 4, 2), (50, .if_icmp .ge 55, 3), (53, .aload_n 0, 1), (54, .iload 6, 2), (56, .iconst 0, 1), (57, .invokevirtual 59, 3), (60, .ifCond .ne 39, 3), (63, .aload_n 0, 1), (64, .getfield 16, 3), (67, .bipush 45, 2), (69, .iload 6, 2), (71, .bipush 13, 2), (73, .imul, 1), (74, .iadd, 1), (75, .bipush 6, 2), (77, .iadd, 1), (78, .aload_n 0, 1), (79, .invokevirtual 48, 3), (82, .invokevirtual 24, 3), (85, .aload_n 0, 1), (86, .getfield 16, 3), (89, .iconst 2, 1), (90, .aload_n 0, 1), (91, .invokevirtual 48, 3), (94, .iconst 1, 1), (95, .iadd, 1), (96, .invokevirtual 24, 3), (99, .iinc 6 1, 3), (102, .goto (-56), 3), (105, .aload_n 0, 1), (106, .aload_n 0, 1), (107, .invokevirtual 31, 3), (110, .iload_n 2, 1), (111, .invokevirtual 63, 3), (114, .aload_n 0, 1), (115, .getfield 16, 3), (118, .iconst 0, 1), (119, .aload_n 0, 1), (120, .invokevirtual 31, 3), (123, .iconst 1, 1), (124, .iadd, 1), (125, .invokevirtual 24, 3), (128, .aload_n 0, 1), (129, .getfield 16, 3), (132, .bipush 24, 2), (134, .aload_n 0, 1), (135, .invokevirtual 31, 3), (138, .iadd, 1), (139, .iload 4, 2), (141, .invokevirtual 24, 3), (144, .aload_n 0, 1), (145, .getfield 16, 3), (148, .iconst 1, 1), (149, .iload 4, 2), (151, .invokevirtual 24, 3), (154, .return_, 1)])
def t_Pag_makeEmpty : am_T := (⟨RX4, "makeEmpty", "()V"⟩, prog_6_method_2_code, 1, none, 4, (0, 0, 1), [(0, .aload_n 0, 1), (1, .iconst 0, 1), (2, .putfield 21, 3), (5, .return_, 1)])
def t_LAW_isSame : am_T := (⟨R_law, "isSame", "(LStatuteBook;[I[III)Z"⟩, method_23_code, 10, (some .boolean), 10, (8, 190, 5), [(0, .iconst 0, 1), (1, .istore 5, 2), (3, .iconst 0, 1), (4, .istore 6, 2), (6, .iload 6, 2), (8, .bipush 12, 2), (10, .if_icmp .ge 216, 3), (13, .aload_n 1, 1), (14, .iconst 5, 1), (15, .iload 6, 2), (17, .imul, 1), (18, .iaload, 1), (19, .iconst 1, 1), (20, .if_icmp .ne 200, 3), (23, .aload_n 1, 1), (24, .iload 6, 2), (26, .invokestatic 109, 3), (29, .istore 7, 2), (31, .aload_n 0, 1), (32, .iload_n 3, 1), (33, .iload 4, 2), (35, .iload 7, 2), (37, .iconst 0, 1), (38, .invokevirtual 112, 3), (41, .aload_n 1, 1), (42, .iconst 5, 1), (43, .iload 6, 2), (45, .imul, 1), (46, .iconst 1, 1), (47, .iadd, 1), (48, .iaload, 1), (49, .if_icmp .ne 60, 3), (52, .aload_n 0, 1), (53, .iload_n 3, 1), (54, .iload 4, 2), (56, .iload 7, 2), (58, .iconst 1, 1), (59, .invokevirtual 112, 3), (62, .iload 6, 2), (64, .if_icmp .ne 45, 3), (67, .aload_n 0, 1), (68, .iload_n 3, 1), (69, .iload 4, 2), (71, .iload 7, 2), (73, .iconst 2, 1), (74, .invokevirtual 112, 3), (77, .aload_n 1, 1), (78, .iconst 5, 1), (79, .iload 6, 2), (81, .imul, 1), (82, .iconst 2, 1), (83, .iadd, 1), (84, .iaload, 1), (85, .if_icmp .ne 24, 3), (88, .aload_n 0, 1), (89, .iload_n 3, 1), (90, .iload 4, 2), (92, .iload 7, 2), (94, .iconst 3, 1), (95, .invokevirtual 112, 3), (98, .aload_n 2, 1), (99, .iload 6, 2), (101, .iaload, 1), (102, .if_icmp .ne 7, 3), (105, .iconst 1, 1), (106, .goto 4, 3), (109, .iconst 0, 1), (110, .istore 8, 2), (112, .iconst 0, 1), (113, .istore 9, 2), (115, .iload 9, 2), (117, .aload_n 1, 1), (118, .iconst 5, 1), (119, .iload 6, 2), (121, .imul, 1), (122, .iconst 2, 1), (123, .iadd, 1), (124, .iaload, 1), (125, .if_icmp .ge 43, 3), (128, .iload 8, 2), (130, .ifCond .eq 38, 3), (133, .aload_n 0, 1), (134, .iload_n 3, 1), (135, .iload 4, 2), (137, .iload 7, 2), (139, .iload 9, 2), (141, .invokevirtual 116, 3), (144, .aload_n 1, 1), (145, .iload 6, 2), (147, .iload 9, 2), (149, .invokestatic 119, 3), (152, .if_icmp .ne 7, 3), (155, .iconst 1, 1), (156, .goto 4, 3), (159, .iconst 0, 1), (160, .istore 8, 2), (162, .iinc 9 1, 3), (165, .goto (-50), 3), (168, .iload 8, 2), (170, .ifCond .eq 45, 3), (173, .aload_n 0, 1), (174, .iload_n 3, 1), (175, .iload 4, 2), (177, .aload_n 1, 1), (178, .iconst 5, 1), (179, .iload 6, 2), (181, .imul, 1), (182, .iconst 1, 1), (183, .iadd, 1), (184, .iaload, 1), (185, .invokevirtual 123, 3), (188, .iload 7, 2), (190, .if_icmp .ne 25, 3), (193, .aload_n 0, 1), (194, .iload_n 3, 1), (195, .iload 4, 2), (197, .iload 7, 2), (199, .aload_n 1, 1), (200, .iconst 5, 1), (201, .iload 6, 2), (203, .imul, 1), (204, .iconst 2, 1), (205, .iadd, 1), (206, .iaload, 1), (207, .invokevirtual 116, 3), (210, .bipush (-2), 2), (212, .if_icmp .eq 5, 3), (215, .iconst 0, 1), (216, .ireturn, 1), (217, .iinc 5 1, 3), (220, .iinc 6 1, 3), (223, .goto (-217), 3), (226, .aload_n 0, 1), (227, .iload_n 3, 1), (228, .iload 4, 2), (230, .invokevirtual 127, 3), (233, .iload 5, 2), (235, .if_icmp .ne 22, 3), (238, .aload_n 0, 1), (239, .iload_n 3, 1), (240, .iload 4, 2), (242, .iload 5, 2), (244, .iconst 0, 1), (245, .invokevirtual 112, 3), (248, .bipush (-2), 2), (250, .if_icmp .ne 7, 3), (253, .iconst 1, 1), (254, .goto 4, 3), (257, .iconst 0, 1), (258, .ireturn, 1)])
def t_LAW_indexOf : am_T := (⟨R_law, "indexOf", "([II)I"⟩, method_21_code, 4, (some .int), 10, (0, 0, 2), [(0, .iconst 0, 1), (1, .istore_n 2, 1), (2, .iconst 0, 1), (3, .istore_n 3, 1), (4, .iload_n 3, 1), (5, .bipush 12, 2), (7, .if_icmp .ge 43, 3), (10, .iload_n 2, 1), (11, .aload_n 0, 1), (12, .iconst 5, 1), (13, .iload_n 3, 1), (14, .imul, 1), (15, .iaload, 1), (16, .iconst 1, 1), (17, .if_icmp .ne 24, 3), (20, .aload_n 0, 1), (21, .iconst 5, 1), (22, .iload_n 3, 1), (23, .imul, 1), (24, .iconst 1, 1), (25, .iadd, 1), (26, .iaload, 1), (27, .aload_n 0, 1), (28, .iconst 5, 1), (29, .iload_n 1, 1), (30, .imul, 1), (31, .iconst 1, 1), (32, .iadd, 1), (33, .iaload, 1), (34, .if_icmp .ge 7, 3), (37, .iconst 1, 1), (38, .goto 4, 3), (41, .iconst 0, 1), (42, .iadd, 1), (43, .istore_n 2, 1), (44, .iinc 3 1, 3), (47, .goto (-43), 3), (50, .iload_n 2, 1), (51, .ireturn, 1)])
def t_SB_textWord : am_T := (⟨RX8, "textWord", "(IIII)I"⟩, prog_1_method_18_code, 5, (some .int), 8, (7, 166, 5), [(0, .iload_n 1, 1), (1, .iload_n 2, 1), (2, .invokestatic 159, 3), (5, .ifCond .ne 6, 3), (8, .bipush (-2), 2), (10, .ireturn, 1), (11, .aload_n 0, 1), (12, .iload_n 1, 1), (13, .iload_n 2, 1), (14, .invokevirtual 162, 3), (17, .iload_n 3, 1), (18, .ifCond .lt 39, 3), (21, .iload_n 3, 1), (22, .aload_n 0, 1), (23, .getfield 42, 3), (26, .invokevirtual 165, 3), (29, .if_icmp .ge 28, 3), (32, .iload 4, 2), (34, .ifCond .lt 23, 3), (37, .iload 4, 2), (39, .aload_n 0, 1), (40, .getfield 42, 3), (43, .aload_n 0, 1), (44, .getfield 42, 3), (47, .iload_n 3, 1), (48, .invokevirtual 166, 3), (51, .invokevirtual 175, 3), (54, .if_icmp .lt 6, 3), (57, .bipush (-2), 2), (59, .ireturn, 1), (60, .aload_n 0, 1), (61, .aload_n 0, 1), (62, .getfield 42, 3), (65, .iload_n 3, 1), (66, .invokevirtual 166, 3), (69, .iload 4, 2), (71, .invokevirtual 181, 3), (74, .ireturn, 1)])
def t_SB_presentWord : am_T := (⟨RX8, "presentWord", "(II)I"⟩, prog_1_method_19_code, 5, (some .int), 8, (2, 43, 3), [(0, .aload_n 0, 1), (1, .getfield 42, 3), (4, .iload_n 1, 1), (5, .iload_n 2, 1), (6, .invokevirtual 184, 3), (9, .istore_n 3, 1), (10, .iload_n 3, 1), (11, .sipush 1000, 3), (14, .if_icmp .ge 5, 3), (17, .iload_n 3, 1), (18, .ireturn, 1), (19, .aload_n 0, 1), (20, .getfield 42, 3), (23, .iload_n 3, 1), (24, .sipush 1000, 3), (27, .isub, 1), (28, .invokevirtual 172, 3), (31, .istore 4, 2), (33, .iload 4, 2), (35, .ifCond .ne 8, 3), (38, .bipush (-5), 2), (40, .goto 9, 3), (43, .sipush 1000, 3), (46, .iload 4, 2), (48, .iadd, 1), (49, .ireturn, 1)])
def t_Law_said : am_T := (⟨RX3, "said", "(II)I"⟩, prog_5_method_17_code, 3, (some .int), 3, (1, 21, 3), [(0, .aload_n 0, 1), (1, .getfield 26, 3), (4, .iload_n 1, 1), (5, .bipush 6, 2), (7, .imul, 1), (8, .iload_n 2, 1), (9, .iadd, 1), (10, .invokevirtual 97, 3), (13, .ireturn, 1)])
def t_LAW_toldWord : am_T := (⟨R_law, "toldWord", "([III)I"⟩, method_22_code, 4, (some .int), 10, (0, 0, 3), [(0, .aload_n 0, 1), (1, .iconst 5, 1), (2, .iload_n 1, 1), (3, .imul, 1), (4, .iconst 3, 1), (5, .iadd, 1), (6, .iload_n 2, 1), (7, .iadd, 1), (8, .iaload, 1), (9, .istore_n 3, 1), (10, .iload_n 3, 1), (11, .ldc 45, 2), (13, .if_icmp .ge 7, 3), (16, .iload_n 3, 1), (17, .goto 34, 3), (20, .aload_n 0, 1), (21, .iconst 5, 1), (22, .iload_n 3, 1), (23, .ldc 45, 2), (25, .isub, 1), (26, .imul, 1), (27, .iaload, 1), (28, .iconst 1, 1), (29, .if_icmp .ne 20, 3), (32, .sipush 1000, 3), (35, .aload_n 0, 1), (36, .iconst 5, 1), (37, .iload_n 3, 1), (38, .ldc 45, 2), (40, .isub, 1), (41, .imul, 1), (42, .iconst 1, 1), (43, .iadd, 1), (44, .iaload, 1), (45, .iadd, 1), (46, .goto 5, 3), (49, .bipush (-5), 2), (51, .ireturn, 1)])
def k_LAW_0 : List (Nat × Instr × Nat) := [(0, .new 12, 3), (3, .dup, 1), (4, .invokespecial 130, 3), (7, .astore_n 1, 1), (8, .bipush 16, 2), (10, .newarray .long, 2), (12, .astore_n 2, 1), (13, .bipush 16, 2), (15, .newarray .int, 2), (17, .astore_n 3, 1), (18, .bipush 32, 2), (20, .newarray .int, 2), (22, .astore 4, 2), (24, .bipush 64, 2), (26, .newarray .int, 2), (28, .astore 5, 2), (30, .bipush 16, 2), (32, .newarray .int, 2), (34, .astore 6, 2), (36, .bipush 16, 2), (38, .newarray .int, 2), (40, .astore 7, 2), (42, .bipush 16, 2), (44, .newarray .int, 2), (46, .astore 8, 2), (48, .aload_n 1, 1), (49, .sipush 9999, 3), (52, .iconst (-1), 1), (53, .invokevirtual 127, 3), (56, .ifCond .ne 70, 3), (59, .aload_n 1, 1), (60, .sipush 10000, 3), (63, .iconst (-1), 1), (64, .invokevirtual 127, 3), (67, .bipush (-2), 2), (69, .if_icmp .ne 57, 3), (72, .aload_n 1, 1), (73, .iconst 0, 1), (74, .iconst 0, 1), (75, .iconst 0, 1)]
def k_LAW_1 : List (Nat × Instr × Nat) := [(76, .iconst 0, 1), (77, .invokevirtual 112, 3), (80, .bipush (-2), 2), (82, .if_icmp .ne 44, 3), (85, .aload_n 1, 1), (86, .iconst 0, 1), (87, .iconst (-1), 1), (88, .sipush 728, 3), (91, .invokevirtual 123, 3), (94, .bipush (-2), 2), (96, .if_icmp .ne 30, 3), (99, .aload_n 1, 1), (100, .iconst 0, 1), (101, .iconst (-1), 1), (102, .sipush 730, 3), (105, .invokevirtual 123, 3), (108, .bipush (-2), 2), (110, .if_icmp .ne 16, 3), (113, .aload_n 1, 1), (114, .iconst 0, 1), (115, .iconst (-1), 1), (116, .sipush 729, 3), (119, .invokevirtual 123, 3), (122, .iconst (-1), 1), (123, .if_icmp .eq 5, 3), (126, .iconst 0, 1), (127, .ireturn, 1), (128, .iconst 0, 1), (129, .istore 9, 2), (131, .iload 9, 2), (133, .iconst 5, 1), (134, .if_icmp .ge 297, 3), (137, .aload_n 1, 1), (138, .aload_n 2, 1), (139, .aload_n 3, 1), (140, .aload 4, 2), (142, .aload_n 0, 1), (143, .bipush 7, 2), (145, .iload 9, 2), (147, .imul, 1)]
def k_LAW_2 : List (Nat × Instr × Nat) := [(148, .invokestatic 131, 3), (151, .ifCond .ne 5, 3), (154, .iconst 0, 1), (155, .ireturn, 1), (156, .aload_n 0, 1), (157, .bipush 35, 2), (159, .iload 9, 2), (161, .iadd, 1), (162, .invokestatic 96, 3), (165, .istore 10, 2), (167, .iload 10, 2), (169, .iconst 4, 1), (170, .ishr, 1), (171, .aload 4, 2), (173, .iconst 0, 1), (174, .iaload, 1), (175, .invokestatic 57, 3), (178, .istore 11, 2), (180, .iload 10, 2), (182, .iconst 4, 1), (183, .invokestatic 57, 3), (186, .ifCond .ne 78, 3), (189, .aload 4, 2), (191, .bipush 9, 2), (193, .iload 11, 2), (195, .iadd, 1), (196, .iconst 1, 1), (197, .aload 4, 2), (199, .bipush 9, 2), (201, .iload 11, 2), (203, .iadd, 1), (204, .iaload, 1), (205, .isub, 1), (206, .iastore, 1), (207, .aload_n 1, 1), (208, .iload 11, 2), (210, .aload 4, 2), (212, .bipush 9, 2), (214, .iload 11, 2), (216, .iadd, 1)]
def k_LAW_3 : List (Nat × Instr × Nat) := [(217, .iaload, 1), (218, .iconst 1, 1), (219, .if_icmp .ne 7, 3), (222, .iconst 1, 1), (223, .goto 4, 3), (226, .iconst 0, 1), (227, .invokevirtual 135, 3), (230, .iconst 1, 1), (231, .if_icmp .ne 31, 3), (234, .aload_n 1, 1), (235, .iload 11, 2), (237, .aload 4, 2), (239, .bipush 9, 2), (241, .iload 11, 2), (243, .iadd, 1), (244, .iaload, 1), (245, .iconst 1, 1), (246, .if_icmp .ne 7, 3), (249, .iconst 1, 1), (250, .goto 4, 3), (253, .iconst 0, 1), (254, .invokevirtual 135, 3), (257, .bipush (-3), 2), (259, .if_icmp .eq 5, 3), (262, .iconst 0, 1), (263, .ireturn, 1), (264, .iload 10, 2), (266, .iconst 4, 1), (267, .invokestatic 57, 3), (270, .iconst 1, 1), (271, .if_icmp .ne 49, 3), (274, .aload 4, 2), (276, .iconst 1, 1), (277, .iload 11, 2), (279, .iadd, 1), (280, .iaload, 1), (281, .istore 12, 2), (283, .aload 4, 2), (285, .iconst 1, 1), (286, .iload 11, 2)]
def k_LAW_4 : List (Nat × Instr × Nat) := [(288, .iadd, 1), (289, .iload 10, 2), (291, .bipush 8, 2), (293, .ishr, 1), (294, .bipush 6, 2), (296, .invokestatic 57, 3), (299, .iastore, 1), (300, .aload_n 1, 1), (301, .iload 11, 2), (303, .aload 4, 2), (305, .iconst 1, 1), (306, .iload 11, 2), (308, .iadd, 1), (309, .iaload, 1), (310, .invokevirtual 139, 3), (313, .iload 12, 2), (315, .if_icmp .eq 5, 3), (318, .iconst 0, 1), (319, .ireturn, 1), (320, .iconst 0, 1), (321, .istore 12, 2), (323, .iload 12, 2), (325, .bipush 7, 2), (327, .if_icmp .ge 62, 3), (330, .iload 10, 2), (332, .bipush 11, 2), (334, .iload 12, 2), (336, .iadd, 1), (337, .ishr, 1), (338, .bipush 8, 2), (340, .invokestatic 57, 3), (343, .iconst 1, 1), (344, .isub, 1), (345, .istore 13, 2), (347, .aload 5, 2), (349, .aload_n 2, 1), (350, .aload_n 3, 1), (351, .aload 4, 2), (353, .iload 12, 2), (355, .iload 13, 2)]
def k_LAW_5 : List (Nat × Instr × Nat) := [(357, .aload 6, 2), (359, .aload 7, 2), (361, .aload 8, 2), (363, .invokestatic 142, 3), (366, .aload_n 1, 1), (367, .aload 5, 2), (369, .aload 8, 2), (371, .iload 12, 2), (373, .iload 13, 2), (375, .invokestatic 146, 3), (378, .ifCond .ne 5, 3), (381, .iconst 0, 1), (382, .ireturn, 1), (383, .iinc 12 1, 3), (386, .goto (-63), 3), (389, .aload 5, 2), (391, .aload_n 2, 1), (392, .aload_n 3, 1), (393, .aload 4, 2), (395, .sipush 9999, 3), (398, .iconst (-1), 1), (399, .aload 6, 2), (401, .aload 7, 2), (403, .aload 8, 2), (405, .invokestatic 142, 3), (408, .aload_n 1, 1), (409, .aload 5, 2), (411, .aload 8, 2), (413, .sipush 9999, 3), (416, .iconst (-1), 1), (417, .invokestatic 146, 3), (420, .ifCond .ne 5, 3), (423, .iconst 0, 1), (424, .ireturn, 1), (425, .iinc 9 1, 3), (428, .goto (-297), 3), (431, .aload_n 1, 1), (432, .iconst 0, 1), (433, .invokevirtual 106, 3), (436, .iconst 5, 1)]
def k_LAW_6 : List (Nat × Instr × Nat) := [(437, .if_icmp .ne 7, 3), (440, .iconst 1, 1), (441, .goto 4, 3), (444, .iconst 0, 1), (445, .ireturn, 1)]
def t_LAW_law : am_T := (⟨R_law, "law", "([I)Z"⟩, code, 14, (some .boolean), 10, (14, 532, 1), k_LAW_0 ++ (k_LAW_1 ++ (k_LAW_2 ++ (k_LAW_3 ++ (k_LAW_4 ++ (k_LAW_5 ++ (k_LAW_6)))))))
/-- all methods, with the places of their words: code, the class initialised -/
def am_ts0 : List (am_T × Nat × Nat) := [(t_SB_revoke, 242, 29), (t_Amd_has, 246, 35), (t_Amd_size, 250, 35), (t_Row_get, 254, 34), (t_Amd_isRevoked, 258, 35), (t_Arc_push, 262, 36), (t_Arc_putAway, 269, 36), (t_Row_take, 273, 34), (t_Amd_revoked, 280, 35), (t_Amd_setRevoked, 284, 35), (t_Row_set, 288, 34), (t_SB_commence, 292, 29), (t_SB_within, 295, 29), (t_Amd_day, 299, 35), (t_Amd_setDay, 303, 35), (t_SB_clauses, 307, 29), (t_SB_isLaw, 310, 29), (t_SB_consolidate, 314, 29), (t_Law_consolidate, 318, 37), (t_Row_fill, 322, 34), (t_Arr_fill, 325, 39), (t_Law_nextKey, 328, 37), (t_Law_carryOut, 334, 37), (t_Amd_start, 338, 35), (t_Amd_cell, 342, 35), (t_Law_holder, 346, 37), (t_Law_resolves, 351, 37), (t_Law_reason, 356, 37), (t_Law_contains, 360, 37), (t_Law_perform, 364, 37), (t_Law_setText, 368, 37), (t_Law_change, 373, 37)]
def am_ts1 : List (am_T × Nat × Nat) := [(t_Law_arrange, 377, 37), (t_Law_size, 381, 37), (t_SB_clause, 385, 29), (t_Law_at, 389, 37), (t_SB_clausePart, 393, 29), (t_Law_code, 397, 37), (t_Law_length, 401, 37), (t_Law_lastDay, 405, 37), (t_SB_find, 409, 29), (t_SB_isCode, 412, 29), (t_Law_indexOf, 416, 37), (t_SB_count, 422, 29), (t_SB_consolidateFully, 426, 29), (t_SB_countPart, 430, 29), (t_Amd_operations, 435, 35), (t_Amd_identities, 439, 35), (t_Arc_states, 443, 36), (t_Pag_kept, 447, 31), (t_Int_bitCount, 451, 45), (t_Arc_snapshots, 458, 36), (t_LAW_cell, 462, 28), (t_LAW_low, 466, 28), (t_LAW_lays, 470, 28), (t_LAW_next, 473, 28), (t_LAW_carries, 476, 28), (t_LAW_code, 479, 28), (t_LAW_at, 483, 28), (t_LAW_kind, 486, 28), (t_LAW_one, 489, 28), (t_LAW_two, 492, 28), (t_LAW_identity, 496, 28), (t_LAW_enacts, 499, 28)]
def am_ts2 : List (am_T × Nat × Nat) := [(t_SB_type, 503, 29), (t_Pag_append, 507, 31), (t_LAW_typesOperation, 510, 28), (t_LAW_number, 513, 28), (t_LAW_aWord, 516, 28), (t_LAW_types, 520, 28), (t_LAW_typesNumber, 529, 28), (t_LAW_typesInteger, 532, 28), (t_LAW_typesWord, 535, 28), (t_SB_enact, 544, 29), (t_Rea_readAmendment, 548, 30), (t_Dra_makeEmpty, 552, 33), (t_Rea_readOperation, 556, 30), (t_Rea_skipBlanks, 560, 30), (t_Pag_byteAt, 565, 31), (t_Dra_size, 569, 33), (t_Rea_readKind, 573, 30), (t_Rea_passes, 578, 30), (t_Str_length, 582, 41), (t_Str_coder, 586, 41), (t_Str_charAt, 592, 41), (t_Str_isLatin1, 596, 41), (t_SL1_charAt, 599, 42), (t_Str_checkIndex, 602, 41), (t_Pre_checkIndex, 607, 43), (t_Rea_isBetween, 629, 30), (t_Rea_fail, 637, 30), (t_Rea_readNumber, 641, 30), (t_Rea_readDigits, 645, 30), (t_Dra_begin, 649, 33), (t_Dra_put, 653, 33), (t_Rea_readWords, 658, 30)]
def am_ts3 : List (am_T × Nat × Nat) := [(t_Rea_isAtWord, 662, 30), (t_Dra_addWord, 666, 33), (t_Rea_expect, 672, 30), (t_Rea_readPlain, 678, 30), (t_Rea_readSaving, 683, 30), (t_Rea_readSemicolon, 688, 30), (t_SB_addDraft, 692, 29), (t_Amd_hasRoomFor, 696, 35), (t_Dra_inserts, 703, 33), (t_Amd_add, 707, 35), (t_Pag_makeEmpty, 714, 31), (t_LAW_isSame, 718, 28), (t_LAW_indexOf, 721, 28), (t_SB_textWord, 725, 29), (t_SB_presentWord, 729, 29), (t_Law_said, 733, 37), (t_LAW_toldWord, 736, 28), (t_LAW_law, 0, 28)]
def am_ts : List (am_T × Nat × Nat) := am_ts0 ++ am_ts1 ++ am_ts2 ++ am_ts3
def am_m0 : List (Nat × Nat × Nat × Nat × Nat × Nat) := [(20, 3, 0, 251, 252, 253), (24, 10, 0, 285, 286, 287), (31, 2, 0, 247, 248, 249), (42, 46, 0, 697, 433, 434), (45, 79, 0, 698, 567, 568), (48, 47, 0, 699, 437, 438), (51, 104, 0, 700, 701, 702), (55, 7, 0, 708, 271, 272), (59, 24, 0, 709, 340, 341), (63, 14, 0, 710, 301, 302)]
def am_f0 : List (Nat × Nat × Nat × Nat × Nat) := [(16, 0, 0, 0, 130), (54, 2, 0, 1, 95)]
def am_ki0 : List (Nat × Int32 × Nat) := []
def am_kl0 : List (Nat × Int64 × Nat) := []
def am_m1 : List (Nat × Nat × Nat × Nat × Nat × Nat) := [(27, 7, 0, 270, 271, 272), (40, 6, 0, 266, 268, 0), (50, 50, 1, 459, 450, 0)]
def am_f1 : List (Nat × Nat × Nat × Nat × Nat) := [(16, 1, 0, 0, 143), (22, 1, 1, 0, 144), (26, 0, 0, 1, 131), (31, 1, 2, 0, 145), (47, 1, 3, 0, 146)]
def am_ki1 : List (Nat × Int32 × Nat) := []
def am_kl1 : List (Nat × Int64 × Nat) := []
def am_m2 : List (Nat × Nat × Nat × Nat × Nat × Nat) := [(27, 94, 0, 650, 651, 652), (31, 10, 0, 654, 286, 287), (34, 3, 0, 667, 252, 253)]
def am_f2 : List (Nat × Nat × Nat × Nat × Nat) := [(14, 2, 0, 0, 94), (20, 2, 1, 0, 96), (24, 2, 2, 0, 97)]
def am_ki2 : List (Nat × Int32 × Nat) := []
def am_kl2 : List (Nat × Int64 × Nat) := []
def am_m3 : List (Nat × Nat × Nat × Nat × Nat × Nat) := [(44, 19, 0, 319, 320, 321), (51, 21, 1, 326, 327, 0), (55, 22, 0, 331, 333, 2), (59, 32, 0, 374, 376, 9), (62, 2, 0, 329, 248, 249), (68, 13, 0, 330, 297, 298), (72, 23, 0, 335, 336, 337), (75, 24, 0, 339, 340, 341), (79, 25, 0, 343, 345, 3), (82, 26, 0, 348, 350, 4), (86, 27, 0, 353, 355, 5), (90, 10, 0, 352, 286, 287), (94, 29, 0, 361, 363, 6), (97, 3, 0, 347, 252, 253), (100, 28, 0, 357, 358, 359), (104, 30, 0, 365, 367, 7), (107, 31, 0, 370, 372, 8), (111, 7, 0, 369, 271, 272), (120, 35, 0, 417, 387, 388), (123, 37, 0, 418, 395, 396)]
def am_f3 : List (Nat × Nat × Nat × Nat × Nat) := [(14, 3, 0, 0, 164), (20, 3, 1, 0, 165), (23, 3, 2, 0, 166), (26, 3, 3, 0, 167), (29, 3, 4, 0, 168), (32, 3, 5, 0, 169), (35, 3, 6, 0, 170), (38, 3, 7, 0, 171), (41, 3, 8, 0, 172), (47, 3, 10, 0, 174), (115, 3, 9, 0, 173)]
def am_ki3 : List (Nat × Int32 × Nat) := []
def am_kl3 : List (Nat × Int64 × Nat) := []
def am_m4 : List (Nat × Nat × Nat × Nat × Nat × Nat) := []
def am_f4 : List (Nat × Nat × Nat × Nat × Nat) := [(15, 4, 0, 0, 69), (21, 4, 1, 0, 70)]
def am_ki4 : List (Nat × Int32 × Nat) := []
def am_kl4 : List (Nat × Int64 × Nat) := []
def am_m5 : List (Nat × Nat × Nat × Nat × Nat × Nat) := [(27, 75, 0, 549, 550, 551), (37, 76, 0, 553, 555, 13), (40, 101, 0, 685, 687, 25), (44, 77, 0, 557, 559, 14), (47, 79, 0, 566, 567, 568), (51, 80, 0, 570, 572, 15), (54, 90, 0, 634, 636, 17), (57, 91, 0, 638, 640, 18), (60, 93, 0, 646, 647, 648), (64, 95, 0, 655, 657, 20), (69, 98, 0, 669, 671, 22), (73, 94, 0, 673, 651, 652), (78, 99, 0, 675, 677, 23), (82, 100, 0, 680, 682, 24), (87, 81, 0, 575, 577, 16), (99, 96, 0, 659, 661, 21), (102, 78, 0, 562, 563, 564), (106, 97, 0, 663, 664, 665), (109, 92, 0, 642, 644, 19), (112, 89, 1, 627, 628, 0), (118, 49, 0, 561, 445, 446), (121, 82, 0, 579, 580, 581), (126, 84, 0, 589, 590, 591)]
def am_f5 : List (Nat × Nat × Nat × Nat × Nat) := [(14, 5, 0, 0, 105), (23, 5, 1, 0, 107), (30, 5, 2, 0, 109), (34, 5, 3, 0, 110)]
def am_ki5 : List (Nat × Int32 × Nat) := []
def am_kl5 : List (Nat × Int64 × Nat) := []
def am_m6 : List (Nat × Nat × Nat × Nat × Nat × Nat) := [(19, 20, 1, 323, 324, 0)]
def am_f6 : List (Nat × Nat × Nat × Nat × Nat) := [(13, 6, 0, 0, 90)]
def am_ki6 : List (Nat × Int32 × Nat) := []
def am_kl6 : List (Nat × Int64 × Nat) := []
def am_m7 : List (Nat × Nat × Nat × Nat × Nat × Nat) := []
def am_f7 : List (Nat × Nat × Nat × Nat × Nat) := [(14, 7, 0, 0, 206), (20, 7, 1, 0, 207)]
def am_ki7 : List (Nat × Int32 × Nat) := []
def am_kl7 : List (Nat × Int64 × Nat) := []
def am_m8 : List (Nat × Nat × Nat × Nat × Nat × Nat) := [(56, 12, 1, 293, 294, 0), (63, 49, 0, 444, 445, 446), (67, 65, 0, 504, 505, 506), (70, 106, 0, 711, 712, 713), (73, 74, 0, 545, 546, 547), (76, 102, 0, 689, 691, 26), (84, 103, 0, 693, 694, 695), (88, 5, 0, 259, 260, 261), (92, 105, 0, 704, 705, 706), (96, 2, 0, 431, 248, 249), (99, 1, 0, 243, 244, 245), (103, 4, 0, 255, 256, 257), (106, 8, 0, 277, 278, 279), (109, 9, 0, 281, 282, 283), (112, 13, 0, 296, 297, 298), (115, 14, 0, 300, 301, 302), (122, 48, 0, 440, 441, 442), (128, 44, 0, 423, 425, 11), (159, 16, 1, 308, 309, 0), (162, 17, 0, 311, 313, 1), (165, 33, 0, 378, 379, 380), (166, 35, 0, 386, 387, 388), (169, 36, 0, 390, 392, 10), (172, 37, 0, 394, 395, 396), (175, 38, 0, 398, 399, 400), (178, 39, 0, 402, 403, 404), (181, 110, 0, 726, 728, 27), (184, 111, 0, 730, 731, 732), (187, 41, 1, 410, 411, 0), (190, 42, 0, 413, 414, 415), (217, 18, 0, 315, 316, 317), (256, 46, 0, 432, 433, 434), (301, 45, 0, 427, 429, 12), (304, 47, 0, 436, 437, 438), (307, 50, 1, 449, 450, 0), (312, 51, 0, 455, 456, 457)]
def am_f8 : List (Nat × Nat × Nat × Nat × Nat) := [(12, 8, 0, 0, 217), (21, 8, 1, 0, 218), (28, 8, 2, 0, 219), (35, 8, 3, 0, 220), (42, 8, 4, 0, 221), (46, 8, 5, 0, 222), (52, 8, 6, 0, 223), (60, 5, 0, 1, 106), (80, 5, 1, 1, 108)]
def am_ki8 : List (Nat × Int32 × Nat) := []
def am_kl8 : List (Nat × Int64 × Nat) := []
def am_m9 : List (Nat × Nat × Nat × Nat × Nat × Nat) := []
def am_f9 : List (Nat × Nat × Nat × Nat × Nat) := []
def am_ki9 : List (Nat × Int32 × Nat) := []
def am_kl9 : List (Nat × Int64 × Nat) := []
def am_m10 : List (Nat × Nat × Nat × Nat × Nat × Nat) := [(11, 64, 0, 500, 501, 502), (17, 71, 1, 530, 531, 0), (23, 70, 1, 527, 528, 0), (28, 59, 1, 484, 485, 0), (32, 57, 1, 477, 478, 0), (35, 58, 1, 481, 482, 0), (39, 60, 1, 487, 488, 0), (42, 61, 1, 490, 491, 0), (46, 62, 1, 494, 495, 0), (49, 55, 1, 471, 472, 0), (53, 56, 1, 474, 475, 0), (57, 53, 1, 464, 465, 0), (61, 67, 1, 511, 512, 0), (64, 68, 1, 514, 515, 0), (69, 69, 1, 518, 519, 0), (83, 72, 1, 533, 534, 0), (96, 52, 1, 460, 461, 0), (99, 66, 1, 508, 509, 0), (103, 73, 0, 541, 542, 543), (106, 43, 0, 419, 420, 421), (109, 108, 1, 719, 720, 0), (112, 34, 0, 382, 383, 384), (116, 109, 0, 722, 723, 724), (119, 112, 1, 734, 735, 0), (123, 40, 0, 406, 407, 408), (127, 15, 0, 304, 305, 306), (131, 63, 1, 497, 498, 0), (135, 0, 0, 239, 240, 241), (139, 11, 0, 289, 290, 291), (142, 54, 1, 468, 469, 0), (146, 107, 1, 716, 717, 0)]
def am_f10 : List (Nat × Nat × Nat × Nat × Nat) := []
def am_ki10 : List (Nat × Int32 × Nat) := [(7, 1013904223, 463), (8, 2147483647, 467), (45, 2000000, 493)]
def am_kl10 : List (Nat × Int64 × Nat) := [(9, 127, 521), (26, 1048575, 480), (67, 115923103347316, 517), (73, 1919250540, 522), (75, 6382437, 523), (77, 125780002955628, 524), (79, 8243116143596954994, 525), (81, 26990, 526), (86, 544501536, 536), (88, 543584114, 537), (90, 544241012, 538), (92, 544432502, 539), (94, 6909543, 540)]
def am_m11 : List (Nat × Nat × Nat × Nat × Nat × Nat) := []
def am_f11 : List (Nat × Nat × Nat × Nat × Nat) := []
def am_ki11 : List (Nat × Int32 × Nat) := []
def am_kl11 : List (Nat × Int64 × Nat) := []
def am_m12 : List (Nat × Nat × Nat × Nat × Nat × Nat) := []
def am_f12 : List (Nat × Nat × Nat × Nat × Nat) := []
def am_ki12 : List (Nat × Int32 × Nat) := [(265, 1431655765, 452), (266, 858993459, 453), (267, 252645135, 454)]
def am_kl12 : List (Nat × Int64 × Nat) := []
def am_m13 : List (Nat × Nat × Nat × Nat × Nat × Nat) := []
def am_f13 : List (Nat × Nat × Nat × Nat × Nat) := []
def am_ki13 : List (Nat × Int32 × Nat) := []
def am_kl13 : List (Nat × Int64 × Nat) := []
def am_m14 : List (Nat × Nat × Nat × Nat × Nat × Nat) := [(335, 83, 0, 583, 584, 585), (492, 85, 0, 593, 594, 595), (495, 86, 1, 597, 598, 0), (1059, 88, 1, 605, 606, 0)]
def am_f14 : List (Nat × Nat × Nat × Nat × Nat) := []
def am_ki14 : List (Nat × Int32 × Nat) := []
def am_kl14 : List (Nat × Int64 × Nat) := []
def am_m15 : List (Nat × Nat × Nat × Nat × Nat × Nat) := [(9, 87, 1, 600, 601, 0)]
def am_f15 : List (Nat × Nat × Nat × Nat × Nat) := []
def am_ki15 : List (Nat × Int32 × Nat) := []
def am_kl15 : List (Nat × Int64 × Nat) := []
def am_m16 : List (Nat × Nat × Nat × Nat × Nat × Nat) := []
def am_f16 : List (Nat × Nat × Nat × Nat × Nat) := []
def am_ki16 : List (Nat × Int32 × Nat) := []
def am_kl16 : List (Nat × Int64 × Nat) := []
def am_ks5 : List (Nat × Nat) := [(67, 5), (76, 6), (81, 7), (85, 0), (91, 1), (93, 2), (95, 3), (97, 4), (116, 8)]
def am_m : Nat → List (Nat × Nat × Nat × Nat × Nat × Nat) := fun k => match k with
  | 0 => am_m0
  | 1 => am_m1
  | 2 => am_m2
  | 3 => am_m3
  | 4 => am_m4
  | 5 => am_m5
  | 6 => am_m6
  | 7 => am_m7
  | 8 => am_m8
  | 9 => am_m9
  | 10 => am_m10
  | 11 => am_m11
  | 12 => am_m12
  | 13 => am_m13
  | 14 => am_m14
  | 15 => am_m15
  | 16 => am_m16
  | _ => []
def am_f : Nat → List (Nat × Nat × Nat × Nat × Nat) := fun k => match k with
  | 0 => am_f0
  | 1 => am_f1
  | 2 => am_f2
  | 3 => am_f3
  | 4 => am_f4
  | 5 => am_f5
  | 6 => am_f6
  | 7 => am_f7
  | 8 => am_f8
  | 9 => am_f9
  | 10 => am_f10
  | 11 => am_f11
  | 12 => am_f12
  | 13 => am_f13
  | 14 => am_f14
  | 15 => am_f15
  | 16 => am_f16
  | _ => []
def am_ki : Nat → List (Nat × Int32 × Nat) := fun k => match k with
  | 0 => am_ki0
  | 1 => am_ki1
  | 2 => am_ki2
  | 3 => am_ki3
  | 4 => am_ki4
  | 5 => am_ki5
  | 6 => am_ki6
  | 7 => am_ki7
  | 8 => am_ki8
  | 9 => am_ki9
  | 10 => am_ki10
  | 11 => am_ki11
  | 12 => am_ki12
  | 13 => am_ki13
  | 14 => am_ki14
  | 15 => am_ki15
  | 16 => am_ki16
  | _ => []
def am_kl : Nat → List (Nat × Int64 × Nat) := fun k => match k with
  | 0 => am_kl0
  | 1 => am_kl1
  | 2 => am_kl2
  | 3 => am_kl3
  | 4 => am_kl4
  | 5 => am_kl5
  | 6 => am_kl6
  | 7 => am_kl7
  | 8 => am_kl8
  | 9 => am_kl9
  | 10 => am_kl10
  | 11 => am_kl11
  | 12 => am_kl12
  | 13 => am_kl13
  | 14 => am_kl14
  | 15 => am_kl15
  | 16 => am_kl16
  | _ => []
def am_ml (ow idx : Nat) : Option am_T := match am_as (am_m ow) idx with
  | some q => (match am_ts[q.1]? with | some t => some t.1 | none => none)
  | none => none
def am_fl (ow idx : Nat) : Option (Nat × Nat) := match am_as (am_f ow) idx with
  | some q => some (q.1, q.2.1)
  | none => none
def am_iv : Instr → Option Nat
  | .invokevirtual k => some k
  | .invokestatic k => some k
  | _ => none
def am_vi : Instr → Bool
  | .invokevirtual _ => true
  | _ => false
/-- arraycopy's links -/
def am_ac (ow idx : Nat) : Bool := (Nat.beq ow 6 && Nat.beq idx 25)
/-- the links of Math.min -/
def am_mnl (ow idx : Nat) : Bool := (Nat.beq ow 1 && Nat.beq idx 34) || (Nat.beq ow 4 && Nat.beq idx 25)
/-- the cells: an array of so many ints, or an object of a class: an int 0, a long 1, a boolean 2, k + 3 the cell k -/
def am_LL : List (Nat ⊕ (Nat × List Nat)) := [.inr (8, [4, 10, 12, 15, 18, 37, 56]), .inr (5, [5, 7, 0, 0]), .inr (4, [6, 0]), .inl 120, .inr (2, [8, 0, 0]), .inr (6, [9]), .inl 520, .inr (4, [11, 0]), .inl 1000, .inr (0, [13]), .inr (6, [14]), .inl 1605, .inr (1, [16, 0, 0, 0]), .inr (6, [17]), .inl 19260, .inr (3, [19, 21, 23, 25, 27, 29, 31, 33, 35, 0, 0]), .inr (6, [20]), .inl 40, .inr (6, [22]), .inl 40, .inr (6, [24]), .inl 40, .inr (6, [26]), .inl 240, .inr (6, [28]), .inl 40, .inr (6, [30]), .inl 120, .inr (6, [32]), .inl 120, .inr (6, [34]), .inl 120, .inr (6, [36]), .inl 6, .inr (3, [38, 40, 42, 44, 46, 48, 50, 52, 54, 0, 0]), .inr (6, [39]), .inl 40, .inr (6, [41]), .inl 40, .inr (6, [43]), .inl 40, .inr (6, [45]), .inl 240, .inr (6, [47]), .inl 40, .inr (6, [49]), .inl 120, .inr (6, [51]), .inl 120, .inr (6, [53]), .inl 120, .inr (6, [55]), .inl 6, .inr (7, [57, 59, 0, 2]), .inr (6, [58]), .inl 40, .inr (6, [60]), .inl 40, .inl 16, .inl 16, .inl 32, .inl 64, .inl 16, .inl 16, .inl 16]
abbrev am_cl : List vw_C := [(RX0, TX0, 1), (RX1, TX1, 4), (RX2, TX2, 3), (RX3, TX3, 11), (RX4, TX4, 2), (RX5, TX5, 4), (RX6, TX6, 1), (RX7, TX7, 4), (RX8, TX8, 7)]
end
section
/-! what the tables say of the code: decided by the kernel -/
def am_lnok (i : Instr) (n : Nat) : Bool := match i with
  | .tableswitch _ _ _ _ => true
  | .lookupswitch _ _ => true
  | .bipush _ => Nat.beq n 2
  | .ldc _ => Nat.beq n 2
  | .iload _ => Nat.beq n 2
  | .lload _ => Nat.beq n 2
  | .aload _ => Nat.beq n 2
  | .istore _ => Nat.beq n 2
  | .lstore _ => Nat.beq n 2
  | .astore _ => Nat.beq n 2
  | .newarray _ => Nat.beq n 2
  | .sipush _ => Nat.beq n 3
  | .ldc_w _ => Nat.beq n 3
  | .ldc2_w _ => Nat.beq n 3
  | .iinc _ _ => Nat.beq n 3
  | .goto _ => Nat.beq n 3
  | .ifCond _ _ => Nat.beq n 3
  | .if_icmp _ _ => Nat.beq n 3
  | .getstatic _ => Nat.beq n 3
  | .getfield _ => Nat.beq n 3
  | .putfield _ => Nat.beq n 3
  | .invokevirtual _ => Nat.beq n 3
  | .invokestatic _ => Nat.beq n 3
  | .invokespecial _ => Nat.beq n 3
  | .new _ => Nat.beq n 3
  | _ => Nat.beq n 1
def am_psok (i : Instr) : Bool := match i with
  | .lookupswitch _ ps => (ps.toList.zip (ps.toList.drop 1)).all (fun (a, next) => a.1 < next.1)
  | .tableswitch _ lo hi os => decide ((os.size : Int) = hi - lo + 1)
  | _ => true
def am_dok (b : ByteArray) (l : List (Nat × Instr × Nat)) : Bool := l.all fun e => decide (decode b e.1 = .ok (e.2.1, e.2.2)) && am_lnok e.2.1 e.2.2 && am_psok e.2.1
def am_cokI (k : Nat) (e : Nat × Instr × Nat) : Bool := match e.2.1 with
  | .invokevirtual i => (match am_as (am_m k) i with | some q => Nat.beq q.2.1 0 | none => true)
  | .invokestatic i => (match am_as (am_m k) i with | some q => Nat.beq q.2.1 1 | none => true)
  | _ => true
/-- the room for what a method calls -/
def am_rok (t : am_T) : Bool := (am_cd t).all fun e => match am_iv e.2.1 with
  | some k => (match am_ml (am_ow t) k with
    | some t' => Nat.ble (am_fr t' + 1) (am_fr t) && Nat.ble (8 + (am_mL t' + 11) + am_lo t') (am_lo t)
    | none => true) && (!am_ac (am_ow t) k || (Nat.ble 1 (am_fr t) && Nat.ble 18 (am_lo t))) && (!am_mnl (am_ow t) k || (Nat.ble 1 (am_fr t) && Nat.ble 21 (am_lo t)))
  | none => true
def am_nok (q : am_T × Nat × Nat) : Bool := plainName (am_nm q.1).cls && decide ((am_nm q.1).cls ≠ "java/lang/invoke/MethodHandle" ∧ (am_nm q.1).cls ≠ "java/lang/invoke/VarHandle") && decide (lw_tbl[q.2.2]? = some (.initialized (am_nm q.1).cls)) && decide ((am_nm q.1).cls = am_cn (am_ow q.1))
def am_P (q : am_T × Nat × Nat) : Prop := am_dok (am_by q.1) (am_cd q.1) = true ∧ (am_rok q.1 = true ∧ (am_cd q.1).all (am_cokI (am_ow q.1)) = true) ∧ am_nok q = true ∧ lw_tbl[q.2.1]? = some (.code (am_nm q.1) (am_by q.1) (am_mL q.1) (am_rt q.1))
theorem am_P_SB_revoke : am_P (t_SB_revoke, 242, 29) := ⟨by decide +kernel, ⟨by decide +kernel, by decide +kernel⟩, by decide +kernel, by decide +kernel⟩
theorem am_P_Amd_has : am_P (t_Amd_has, 246, 35) := ⟨by decide +kernel, ⟨by decide +kernel, by decide +kernel⟩, by decide +kernel, by decide +kernel⟩
theorem am_P_Amd_size : am_P (t_Amd_size, 250, 35) := ⟨by decide +kernel, ⟨by decide +kernel, by decide +kernel⟩, by decide +kernel, by decide +kernel⟩
theorem am_P_Row_get : am_P (t_Row_get, 254, 34) := ⟨by decide +kernel, ⟨by decide +kernel, by decide +kernel⟩, by decide +kernel, by decide +kernel⟩
theorem am_P_Amd_isRevoked : am_P (t_Amd_isRevoked, 258, 35) := ⟨by decide +kernel, ⟨by decide +kernel, by decide +kernel⟩, by decide +kernel, by decide +kernel⟩
theorem am_P_Arc_push : am_P (t_Arc_push, 262, 36) := ⟨by decide +kernel, ⟨by decide +kernel, by decide +kernel⟩, by decide +kernel, by decide +kernel⟩
theorem am_P_Arc_putAway : am_P (t_Arc_putAway, 269, 36) := ⟨by decide +kernel, ⟨by decide +kernel, by decide +kernel⟩, by decide +kernel, by decide +kernel⟩
theorem am_P_Row_take : am_P (t_Row_take, 273, 34) := ⟨by decide +kernel, ⟨by decide +kernel, by decide +kernel⟩, by decide +kernel, by decide +kernel⟩
theorem am_P_Amd_revoked : am_P (t_Amd_revoked, 280, 35) := ⟨by decide +kernel, ⟨by decide +kernel, by decide +kernel⟩, by decide +kernel, by decide +kernel⟩
theorem am_P_Amd_setRevoked : am_P (t_Amd_setRevoked, 284, 35) := ⟨by decide +kernel, ⟨by decide +kernel, by decide +kernel⟩, by decide +kernel, by decide +kernel⟩
theorem am_P_Row_set : am_P (t_Row_set, 288, 34) := ⟨by decide +kernel, ⟨by decide +kernel, by decide +kernel⟩, by decide +kernel, by decide +kernel⟩
theorem am_P_SB_commence : am_P (t_SB_commence, 292, 29) := ⟨by decide +kernel, ⟨by decide +kernel, by decide +kernel⟩, by decide +kernel, by decide +kernel⟩
theorem am_P_SB_within : am_P (t_SB_within, 295, 29) := ⟨by decide +kernel, ⟨by decide +kernel, by decide +kernel⟩, by decide +kernel, by decide +kernel⟩
theorem am_P_Amd_day : am_P (t_Amd_day, 299, 35) := ⟨by decide +kernel, ⟨by decide +kernel, by decide +kernel⟩, by decide +kernel, by decide +kernel⟩
theorem am_P_Amd_setDay : am_P (t_Amd_setDay, 303, 35) := ⟨by decide +kernel, ⟨by decide +kernel, by decide +kernel⟩, by decide +kernel, by decide +kernel⟩
theorem am_P_SB_clauses : am_P (t_SB_clauses, 307, 29) := ⟨by decide +kernel, ⟨by decide +kernel, by decide +kernel⟩, by decide +kernel, by decide +kernel⟩
theorem am_P_SB_isLaw : am_P (t_SB_isLaw, 310, 29) := ⟨by decide +kernel, ⟨by decide +kernel, by decide +kernel⟩, by decide +kernel, by decide +kernel⟩
theorem am_P_SB_consolidate : am_P (t_SB_consolidate, 314, 29) := ⟨by decide +kernel, ⟨by decide +kernel, by decide +kernel⟩, by decide +kernel, by decide +kernel⟩
theorem am_P_Law_consolidate : am_P (t_Law_consolidate, 318, 37) := ⟨by decide +kernel, ⟨by decide +kernel, by decide +kernel⟩, by decide +kernel, by decide +kernel⟩
theorem am_P_Row_fill : am_P (t_Row_fill, 322, 34) := ⟨by decide +kernel, ⟨by decide +kernel, by decide +kernel⟩, by decide +kernel, by decide +kernel⟩
theorem am_P_Arr_fill : am_P (t_Arr_fill, 325, 39) := ⟨by decide +kernel, ⟨by decide +kernel, by decide +kernel⟩, by decide +kernel, by decide +kernel⟩
theorem am_P_Law_nextKey : am_P (t_Law_nextKey, 328, 37) := ⟨by decide +kernel, ⟨by decide +kernel, by decide +kernel⟩, by decide +kernel, by decide +kernel⟩
theorem am_P_Law_carryOut : am_P (t_Law_carryOut, 334, 37) := ⟨by decide +kernel, ⟨by decide +kernel, by decide +kernel⟩, by decide +kernel, by decide +kernel⟩
theorem am_P_Amd_start : am_P (t_Amd_start, 338, 35) := ⟨by decide +kernel, ⟨by decide +kernel, by decide +kernel⟩, by decide +kernel, by decide +kernel⟩
theorem am_P_Amd_cell : am_P (t_Amd_cell, 342, 35) := ⟨by decide +kernel, ⟨by decide +kernel, by decide +kernel⟩, by decide +kernel, by decide +kernel⟩
theorem am_P_Law_holder : am_P (t_Law_holder, 346, 37) := ⟨by decide +kernel, ⟨by decide +kernel, by decide +kernel⟩, by decide +kernel, by decide +kernel⟩
theorem am_P_Law_resolves : am_P (t_Law_resolves, 351, 37) := ⟨by decide +kernel, ⟨by decide +kernel, by decide +kernel⟩, by decide +kernel, by decide +kernel⟩
theorem am_P_Law_reason : am_P (t_Law_reason, 356, 37) := ⟨by decide +kernel, ⟨by decide +kernel, by decide +kernel⟩, by decide +kernel, by decide +kernel⟩
theorem am_P_Law_contains : am_P (t_Law_contains, 360, 37) := ⟨by decide +kernel, ⟨by decide +kernel, by decide +kernel⟩, by decide +kernel, by decide +kernel⟩
theorem am_P_Law_perform : am_P (t_Law_perform, 364, 37) := ⟨by decide +kernel, ⟨by decide +kernel, by decide +kernel⟩, by decide +kernel, by decide +kernel⟩
theorem am_P_Law_setText : am_P (t_Law_setText, 368, 37) := ⟨by decide +kernel, ⟨by decide +kernel, by decide +kernel⟩, by decide +kernel, by decide +kernel⟩
theorem am_P_Law_change : am_P (t_Law_change, 373, 37) := ⟨by decide +kernel, ⟨by decide +kernel, by decide +kernel⟩, by decide +kernel, by decide +kernel⟩
theorem am_P_Law_arrange : am_P (t_Law_arrange, 377, 37) := ⟨by decide +kernel, ⟨by decide +kernel, by decide +kernel⟩, by decide +kernel, by decide +kernel⟩
theorem am_P_Law_size : am_P (t_Law_size, 381, 37) := ⟨by decide +kernel, ⟨by decide +kernel, by decide +kernel⟩, by decide +kernel, by decide +kernel⟩
theorem am_P_SB_clause : am_P (t_SB_clause, 385, 29) := ⟨by decide +kernel, ⟨by decide +kernel, by decide +kernel⟩, by decide +kernel, by decide +kernel⟩
theorem am_P_Law_at : am_P (t_Law_at, 389, 37) := ⟨by decide +kernel, ⟨by decide +kernel, by decide +kernel⟩, by decide +kernel, by decide +kernel⟩
theorem am_P_SB_clausePart : am_P (t_SB_clausePart, 393, 29) := ⟨by decide +kernel, ⟨by decide +kernel, by decide +kernel⟩, by decide +kernel, by decide +kernel⟩
theorem am_P_Law_code : am_P (t_Law_code, 397, 37) := ⟨by decide +kernel, ⟨by decide +kernel, by decide +kernel⟩, by decide +kernel, by decide +kernel⟩
theorem am_P_Law_length : am_P (t_Law_length, 401, 37) := ⟨by decide +kernel, ⟨by decide +kernel, by decide +kernel⟩, by decide +kernel, by decide +kernel⟩
theorem am_P_Law_lastDay : am_P (t_Law_lastDay, 405, 37) := ⟨by decide +kernel, ⟨by decide +kernel, by decide +kernel⟩, by decide +kernel, by decide +kernel⟩
theorem am_P_SB_find : am_P (t_SB_find, 409, 29) := ⟨by decide +kernel, ⟨by decide +kernel, by decide +kernel⟩, by decide +kernel, by decide +kernel⟩
theorem am_P_SB_isCode : am_P (t_SB_isCode, 412, 29) := ⟨by decide +kernel, ⟨by decide +kernel, by decide +kernel⟩, by decide +kernel, by decide +kernel⟩
theorem am_P_Law_indexOf : am_P (t_Law_indexOf, 416, 37) := ⟨by decide +kernel, ⟨by decide +kernel, by decide +kernel⟩, by decide +kernel, by decide +kernel⟩
theorem am_P_SB_count : am_P (t_SB_count, 422, 29) := ⟨by decide +kernel, ⟨by decide +kernel, by decide +kernel⟩, by decide +kernel, by decide +kernel⟩
theorem am_P_SB_consolidateFully : am_P (t_SB_consolidateFully, 426, 29) := ⟨by decide +kernel, ⟨by decide +kernel, by decide +kernel⟩, by decide +kernel, by decide +kernel⟩
theorem am_P_SB_countPart : am_P (t_SB_countPart, 430, 29) := ⟨by decide +kernel, ⟨by decide +kernel, by decide +kernel⟩, by decide +kernel, by decide +kernel⟩
theorem am_P_Amd_operations : am_P (t_Amd_operations, 435, 35) := ⟨by decide +kernel, ⟨by decide +kernel, by decide +kernel⟩, by decide +kernel, by decide +kernel⟩
theorem am_P_Amd_identities : am_P (t_Amd_identities, 439, 35) := ⟨by decide +kernel, ⟨by decide +kernel, by decide +kernel⟩, by decide +kernel, by decide +kernel⟩
theorem am_P_Arc_states : am_P (t_Arc_states, 443, 36) := ⟨by decide +kernel, ⟨by decide +kernel, by decide +kernel⟩, by decide +kernel, by decide +kernel⟩
theorem am_P_Pag_kept : am_P (t_Pag_kept, 447, 31) := ⟨by decide +kernel, ⟨by decide +kernel, by decide +kernel⟩, by decide +kernel, by decide +kernel⟩
theorem am_P_Int_bitCount : am_P (t_Int_bitCount, 451, 45) := ⟨by decide +kernel, ⟨by decide +kernel, by decide +kernel⟩, by decide +kernel, by decide +kernel⟩
theorem am_P_Arc_snapshots : am_P (t_Arc_snapshots, 458, 36) := ⟨by decide +kernel, ⟨by decide +kernel, by decide +kernel⟩, by decide +kernel, by decide +kernel⟩
theorem am_P_LAW_cell : am_P (t_LAW_cell, 462, 28) := ⟨by decide +kernel, ⟨by decide +kernel, by decide +kernel⟩, by decide +kernel, by decide +kernel⟩
theorem am_P_LAW_low : am_P (t_LAW_low, 466, 28) := ⟨by decide +kernel, ⟨by decide +kernel, by decide +kernel⟩, by decide +kernel, by decide +kernel⟩
theorem am_P_LAW_lays : am_P (t_LAW_lays, 470, 28) := ⟨by decide +kernel, ⟨by decide +kernel, by decide +kernel⟩, by decide +kernel, by decide +kernel⟩
theorem am_P_LAW_next : am_P (t_LAW_next, 473, 28) := ⟨by decide +kernel, ⟨by decide +kernel, by decide +kernel⟩, by decide +kernel, by decide +kernel⟩
theorem am_P_LAW_carries : am_P (t_LAW_carries, 476, 28) := ⟨by decide +kernel, ⟨by decide +kernel, by decide +kernel⟩, by decide +kernel, by decide +kernel⟩
theorem am_P_LAW_code : am_P (t_LAW_code, 479, 28) := ⟨by decide +kernel, ⟨by decide +kernel, by decide +kernel⟩, by decide +kernel, by decide +kernel⟩
theorem am_P_LAW_at : am_P (t_LAW_at, 483, 28) := ⟨by decide +kernel, ⟨by decide +kernel, by decide +kernel⟩, by decide +kernel, by decide +kernel⟩
theorem am_P_LAW_kind : am_P (t_LAW_kind, 486, 28) := ⟨by decide +kernel, ⟨by decide +kernel, by decide +kernel⟩, by decide +kernel, by decide +kernel⟩
theorem am_P_LAW_one : am_P (t_LAW_one, 489, 28) := ⟨by decide +kernel, ⟨by decide +kernel, by decide +kernel⟩, by decide +kernel, by decide +kernel⟩
theorem am_P_LAW_two : am_P (t_LAW_two, 492, 28) := ⟨by decide +kernel, ⟨by decide +kernel, by decide +kernel⟩, by decide +kernel, by decide +kernel⟩
theorem am_P_LAW_identity : am_P (t_LAW_identity, 496, 28) := ⟨by decide +kernel, ⟨by decide +kernel, by decide +kernel⟩, by decide +kernel, by decide +kernel⟩
theorem am_P_LAW_enacts : am_P (t_LAW_enacts, 499, 28) := ⟨by decide +kernel, ⟨by decide +kernel, by decide +kernel⟩, by decide +kernel, by decide +kernel⟩
theorem am_P_SB_type : am_P (t_SB_type, 503, 29) := ⟨by decide +kernel, ⟨by decide +kernel, by decide +kernel⟩, by decide +kernel, by decide +kernel⟩
theorem am_P_Pag_append : am_P (t_Pag_append, 507, 31) := ⟨by decide +kernel, ⟨by decide +kernel, by decide +kernel⟩, by decide +kernel, by decide +kernel⟩
theorem am_P_LAW_typesOperation : am_P (t_LAW_typesOperation, 510, 28) := ⟨by decide +kernel, ⟨by decide +kernel, by decide +kernel⟩, by decide +kernel, by decide +kernel⟩
theorem am_P_LAW_number : am_P (t_LAW_number, 513, 28) := ⟨by decide +kernel, ⟨by decide +kernel, by decide +kernel⟩, by decide +kernel, by decide +kernel⟩
theorem am_P_LAW_aWord : am_P (t_LAW_aWord, 516, 28) := ⟨by decide +kernel, ⟨by decide +kernel, by decide +kernel⟩, by decide +kernel, by decide +kernel⟩
theorem am_P_LAW_types : am_P (t_LAW_types, 520, 28) := ⟨by decide +kernel, ⟨by decide +kernel, by decide +kernel⟩, by decide +kernel, by decide +kernel⟩
theorem am_P_LAW_typesNumber : am_P (t_LAW_typesNumber, 529, 28) := ⟨by decide +kernel, ⟨by decide +kernel, by decide +kernel⟩, by decide +kernel, by decide +kernel⟩
theorem am_P_LAW_typesInteger : am_P (t_LAW_typesInteger, 532, 28) := ⟨by decide +kernel, ⟨by decide +kernel, by decide +kernel⟩, by decide +kernel, by decide +kernel⟩
theorem am_P_LAW_typesWord : am_P (t_LAW_typesWord, 535, 28) := ⟨by decide +kernel, ⟨by decide +kernel, by decide +kernel⟩, by decide +kernel, by decide +kernel⟩
theorem am_P_SB_enact : am_P (t_SB_enact, 544, 29) := ⟨by decide +kernel, ⟨by decide +kernel, by decide +kernel⟩, by decide +kernel, by decide +kernel⟩
theorem am_P_Rea_readAmendment : am_P (t_Rea_readAmendment, 548, 30) := ⟨by decide +kernel, ⟨by decide +kernel, by decide +kernel⟩, by decide +kernel, by decide +kernel⟩
theorem am_P_Dra_makeEmpty : am_P (t_Dra_makeEmpty, 552, 33) := ⟨by decide +kernel, ⟨by decide +kernel, by decide +kernel⟩, by decide +kernel, by decide +kernel⟩
theorem am_P_Rea_readOperation : am_P (t_Rea_readOperation, 556, 30) := ⟨by decide +kernel, ⟨by decide +kernel, by decide +kernel⟩, by decide +kernel, by decide +kernel⟩
theorem am_P_Rea_skipBlanks : am_P (t_Rea_skipBlanks, 560, 30) := ⟨by decide +kernel, ⟨by decide +kernel, by decide +kernel⟩, by decide +kernel, by decide +kernel⟩
theorem am_P_Pag_byteAt : am_P (t_Pag_byteAt, 565, 31) := ⟨by decide +kernel, ⟨by decide +kernel, by decide +kernel⟩, by decide +kernel, by decide +kernel⟩
theorem am_P_Dra_size : am_P (t_Dra_size, 569, 33) := ⟨by decide +kernel, ⟨by decide +kernel, by decide +kernel⟩, by decide +kernel, by decide +kernel⟩
theorem am_P_Rea_readKind : am_P (t_Rea_readKind, 573, 30) := ⟨by decide +kernel, ⟨by decide +kernel, by decide +kernel⟩, by decide +kernel, by decide +kernel⟩
theorem am_P_Rea_passes : am_P (t_Rea_passes, 578, 30) := ⟨by decide +kernel, ⟨by decide +kernel, by decide +kernel⟩, by decide +kernel, by decide +kernel⟩
theorem am_P_Str_length : am_P (t_Str_length, 582, 41) := ⟨by decide +kernel, ⟨by decide +kernel, by decide +kernel⟩, by decide +kernel, by decide +kernel⟩
theorem am_P_Str_coder : am_P (t_Str_coder, 586, 41) := ⟨by decide +kernel, ⟨by decide +kernel, by decide +kernel⟩, by decide +kernel, by decide +kernel⟩
theorem am_P_Str_charAt : am_P (t_Str_charAt, 592, 41) := ⟨by decide +kernel, ⟨by decide +kernel, by decide +kernel⟩, by decide +kernel, by decide +kernel⟩
theorem am_P_Str_isLatin1 : am_P (t_Str_isLatin1, 596, 41) := ⟨by decide +kernel, ⟨by decide +kernel, by decide +kernel⟩, by decide +kernel, by decide +kernel⟩
theorem am_P_SL1_charAt : am_P (t_SL1_charAt, 599, 42) := ⟨by decide +kernel, ⟨by decide +kernel, by decide +kernel⟩, by decide +kernel, by decide +kernel⟩
theorem am_P_Str_checkIndex : am_P (t_Str_checkIndex, 602, 41) := ⟨by decide +kernel, ⟨by decide +kernel, by decide +kernel⟩, by decide +kernel, by decide +kernel⟩
theorem am_P_Pre_checkIndex : am_P (t_Pre_checkIndex, 607, 43) := ⟨by decide +kernel, ⟨by decide +kernel, by decide +kernel⟩, by decide +kernel, by decide +kernel⟩
theorem am_P_Rea_isBetween : am_P (t_Rea_isBetween, 629, 30) := ⟨by decide +kernel, ⟨by decide +kernel, by decide +kernel⟩, by decide +kernel, by decide +kernel⟩
theorem am_P_Rea_fail : am_P (t_Rea_fail, 637, 30) := ⟨by decide +kernel, ⟨by decide +kernel, by decide +kernel⟩, by decide +kernel, by decide +kernel⟩
theorem am_P_Rea_readNumber : am_P (t_Rea_readNumber, 641, 30) := ⟨by decide +kernel, ⟨by decide +kernel, by decide +kernel⟩, by decide +kernel, by decide +kernel⟩
theorem am_P_Rea_readDigits : am_P (t_Rea_readDigits, 645, 30) := ⟨by decide +kernel, ⟨by decide +kernel, by decide +kernel⟩, by decide +kernel, by decide +kernel⟩
theorem am_P_Dra_begin : am_P (t_Dra_begin, 649, 33) := ⟨by decide +kernel, ⟨by decide +kernel, by decide +kernel⟩, by decide +kernel, by decide +kernel⟩
theorem am_P_Dra_put : am_P (t_Dra_put, 653, 33) := ⟨by decide +kernel, ⟨by decide +kernel, by decide +kernel⟩, by decide +kernel, by decide +kernel⟩
theorem am_P_Rea_readWords : am_P (t_Rea_readWords, 658, 30) := ⟨by decide +kernel, ⟨by decide +kernel, by decide +kernel⟩, by decide +kernel, by decide +kernel⟩
theorem am_P_Rea_isAtWord : am_P (t_Rea_isAtWord, 662, 30) := ⟨by decide +kernel, ⟨by decide +kernel, by decide +kernel⟩, by decide +kernel, by decide +kernel⟩
theorem am_P_Dra_addWord : am_P (t_Dra_addWord, 666, 33) := ⟨by decide +kernel, ⟨by decide +kernel, by decide +kernel⟩, by decide +kernel, by decide +kernel⟩
theorem am_P_Rea_expect : am_P (t_Rea_expect, 672, 30) := ⟨by decide +kernel, ⟨by decide +kernel, by decide +kernel⟩, by decide +kernel, by decide +kernel⟩
theorem am_P_Rea_readPlain : am_P (t_Rea_readPlain, 678, 30) := ⟨by decide +kernel, ⟨by decide +kernel, by decide +kernel⟩, by decide +kernel, by decide +kernel⟩
theorem am_P_Rea_readSaving : am_P (t_Rea_readSaving, 683, 30) := ⟨by decide +kernel, ⟨by decide +kernel, by decide +kernel⟩, by decide +kernel, by decide +kernel⟩
theorem am_P_Rea_readSemicolon : am_P (t_Rea_readSemicolon, 688, 30) := ⟨by decide +kernel, ⟨by decide +kernel, by decide +kernel⟩, by decide +kernel, by decide +kernel⟩
theorem am_P_SB_addDraft : am_P (t_SB_addDraft, 692, 29) := ⟨by decide +kernel, ⟨by decide +kernel, by decide +kernel⟩, by decide +kernel, by decide +kernel⟩
theorem am_P_Amd_hasRoomFor : am_P (t_Amd_hasRoomFor, 696, 35) := ⟨by decide +kernel, ⟨by decide +kernel, by decide +kernel⟩, by decide +kernel, by decide +kernel⟩
theorem am_P_Dra_inserts : am_P (t_Dra_inserts, 703, 33) := ⟨by decide +kernel, ⟨by decide +kernel, by decide +kernel⟩, by decide +kernel, by decide +kernel⟩
theorem am_P_Amd_add : am_P (t_Amd_add, 707, 35) := ⟨by decide +kernel, ⟨by decide +kernel, by decide +kernel⟩, by decide +kernel, by decide +kernel⟩
theorem am_P_Pag_makeEmpty : am_P (t_Pag_makeEmpty, 714, 31) := ⟨by decide +kernel, ⟨by decide +kernel, by decide +kernel⟩, by decide +kernel, by decide +kernel⟩
theorem am_P_LAW_isSame : am_P (t_LAW_isSame, 718, 28) := ⟨by decide +kernel, ⟨by decide +kernel, by decide +kernel⟩, by decide +kernel, by decide +kernel⟩
theorem am_P_LAW_indexOf : am_P (t_LAW_indexOf, 721, 28) := ⟨by decide +kernel, ⟨by decide +kernel, by decide +kernel⟩, by decide +kernel, by decide +kernel⟩
theorem am_P_SB_textWord : am_P (t_SB_textWord, 725, 29) := ⟨by decide +kernel, ⟨by decide +kernel, by decide +kernel⟩, by decide +kernel, by decide +kernel⟩
theorem am_P_SB_presentWord : am_P (t_SB_presentWord, 729, 29) := ⟨by decide +kernel, ⟨by decide +kernel, by decide +kernel⟩, by decide +kernel, by decide +kernel⟩
theorem am_P_Law_said : am_P (t_Law_said, 733, 37) := ⟨by decide +kernel, ⟨by decide +kernel, by decide +kernel⟩, by decide +kernel, by decide +kernel⟩
theorem am_P_LAW_toldWord : am_P (t_LAW_toldWord, 736, 28) := ⟨by decide +kernel, ⟨by decide +kernel, by decide +kernel⟩, by decide +kernel, by decide +kernel⟩
theorem am_Ps0 : ∀ q ∈ am_ts0,  am_P q := (List.forall_mem_cons.mpr ⟨am_P_SB_revoke, (List.forall_mem_cons.mpr ⟨am_P_Amd_has, (List.forall_mem_cons.mpr ⟨am_P_Amd_size, (List.forall_mem_cons.mpr ⟨am_P_Row_get, (List.forall_mem_cons.mpr ⟨am_P_Amd_isRevoked, (List.forall_mem_cons.mpr ⟨am_P_Arc_push, (List.forall_mem_cons.mpr ⟨am_P_Arc_putAway, (List.forall_mem_cons.mpr ⟨am_P_Row_take, (List.forall_mem_cons.mpr ⟨am_P_Amd_revoked, (List.forall_mem_cons.mpr ⟨am_P_Amd_setRevoked, (List.forall_mem_cons.mpr ⟨am_P_Row_set, (List.forall_mem_cons.mpr ⟨am_P_SB_commence, (List.forall_mem_cons.mpr ⟨am_P_SB_within, (List.forall_mem_cons.mpr ⟨am_P_Amd_day, (List.forall_mem_cons.mpr ⟨am_P_Amd_setDay, (List.forall_mem_cons.mpr ⟨am_P_SB_clauses, (List.forall_mem_cons.mpr ⟨am_P_SB_isLaw, (List.forall_mem_cons.mpr ⟨am_P_SB_consolidate, (List.forall_mem_cons.mpr ⟨am_P_Law_consolidate, (List.forall_mem_cons.mpr ⟨am_P_Row_fill, (List.forall_mem_cons.mpr ⟨am_P_Arr_fill, (List.forall_mem_cons.mpr ⟨am_P_Law_nextKey, (List.forall_mem_cons.mpr ⟨am_P_Law_carryOut, (List.forall_mem_cons.mpr ⟨am_P_Amd_start, (List.forall_mem_cons.mpr ⟨am_P_Amd_cell, (List.forall_mem_cons.mpr ⟨am_P_Law_holder, (List.forall_mem_cons.mpr ⟨am_P_Law_resolves, (List.forall_mem_cons.mpr ⟨am_P_Law_reason, (List.forall_mem_cons.mpr ⟨am_P_Law_contains, (List.forall_mem_cons.mpr ⟨am_P_Law_perform, (List.forall_mem_cons.mpr ⟨am_P_Law_setText, (List.forall_mem_cons.mpr ⟨am_P_Law_change, (fun _ h => absurd h List.not_mem_nil)⟩)⟩)⟩)⟩)⟩)⟩)⟩)⟩)⟩)⟩)⟩)⟩)⟩)⟩)⟩)⟩)⟩)⟩)⟩)⟩)⟩)⟩)⟩)⟩)⟩)⟩)⟩)⟩)⟩)⟩)⟩)⟩)
theorem am_Ps1 : ∀ q ∈ am_ts1,  am_P q := (List.forall_mem_cons.mpr ⟨am_P_Law_arrange, (List.forall_mem_cons.mpr ⟨am_P_Law_size, (List.forall_mem_cons.mpr ⟨am_P_SB_clause, (List.forall_mem_cons.mpr ⟨am_P_Law_at, (List.forall_mem_cons.mpr ⟨am_P_SB_clausePart, (List.forall_mem_cons.mpr ⟨am_P_Law_code, (List.forall_mem_cons.mpr ⟨am_P_Law_length, (List.forall_mem_cons.mpr ⟨am_P_Law_lastDay, (List.forall_mem_cons.mpr ⟨am_P_SB_find, (List.forall_mem_cons.mpr ⟨am_P_SB_isCode, (List.forall_mem_cons.mpr ⟨am_P_Law_indexOf, (List.forall_mem_cons.mpr ⟨am_P_SB_count, (List.forall_mem_cons.mpr ⟨am_P_SB_consolidateFully, (List.forall_mem_cons.mpr ⟨am_P_SB_countPart, (List.forall_mem_cons.mpr ⟨am_P_Amd_operations, (List.forall_mem_cons.mpr ⟨am_P_Amd_identities, (List.forall_mem_cons.mpr ⟨am_P_Arc_states, (List.forall_mem_cons.mpr ⟨am_P_Pag_kept, (List.forall_mem_cons.mpr ⟨am_P_Int_bitCount, (List.forall_mem_cons.mpr ⟨am_P_Arc_snapshots, (List.forall_mem_cons.mpr ⟨am_P_LAW_cell, (List.forall_mem_cons.mpr ⟨am_P_LAW_low, (List.forall_mem_cons.mpr ⟨am_P_LAW_lays, (List.forall_mem_cons.mpr ⟨am_P_LAW_next, (List.forall_mem_cons.mpr ⟨am_P_LAW_carries, (List.forall_mem_cons.mpr ⟨am_P_LAW_code, (List.forall_mem_cons.mpr ⟨am_P_LAW_at, (List.forall_mem_cons.mpr ⟨am_P_LAW_kind, (List.forall_mem_cons.mpr ⟨am_P_LAW_one, (List.forall_mem_cons.mpr ⟨am_P_LAW_two, (List.forall_mem_cons.mpr ⟨am_P_LAW_identity, (List.forall_mem_cons.mpr ⟨am_P_LAW_enacts, (fun _ h => absurd h List.not_mem_nil)⟩)⟩)⟩)⟩)⟩)⟩)⟩)⟩)⟩)⟩)⟩)⟩)⟩)⟩)⟩)⟩)⟩)⟩)⟩)⟩)⟩)⟩)⟩)⟩)⟩)⟩)⟩)⟩)⟩)⟩)⟩)⟩)
theorem am_Ps2 : ∀ q ∈ am_ts2,  am_P q := (List.forall_mem_cons.mpr ⟨am_P_SB_type, (List.forall_mem_cons.mpr ⟨am_P_Pag_append, (List.forall_mem_cons.mpr ⟨am_P_LAW_typesOperation, (List.forall_mem_cons.mpr ⟨am_P_LAW_number, (List.forall_mem_cons.mpr ⟨am_P_LAW_aWord, (List.forall_mem_cons.mpr ⟨am_P_LAW_types, (List.forall_mem_cons.mpr ⟨am_P_LAW_typesNumber, (List.forall_mem_cons.mpr ⟨am_P_LAW_typesInteger, (List.forall_mem_cons.mpr ⟨am_P_LAW_typesWord, (List.forall_mem_cons.mpr ⟨am_P_SB_enact, (List.forall_mem_cons.mpr ⟨am_P_Rea_readAmendment, (List.forall_mem_cons.mpr ⟨am_P_Dra_makeEmpty, (List.forall_mem_cons.mpr ⟨am_P_Rea_readOperation, (List.forall_mem_cons.mpr ⟨am_P_Rea_skipBlanks, (List.forall_mem_cons.mpr ⟨am_P_Pag_byteAt, (List.forall_mem_cons.mpr ⟨am_P_Dra_size, (List.forall_mem_cons.mpr ⟨am_P_Rea_readKind, (List.forall_mem_cons.mpr ⟨am_P_Rea_passes, (List.forall_mem_cons.mpr ⟨am_P_Str_length, (List.forall_mem_cons.mpr ⟨am_P_Str_coder, (List.forall_mem_cons.mpr ⟨am_P_Str_charAt, (List.forall_mem_cons.mpr ⟨am_P_Str_isLatin1, (List.forall_mem_cons.mpr ⟨am_P_SL1_charAt, (List.forall_mem_cons.mpr ⟨am_P_Str_checkIndex, (List.forall_mem_cons.mpr ⟨am_P_Pre_checkIndex, (List.forall_mem_cons.mpr ⟨am_P_Rea_isBetween, (List.forall_mem_cons.mpr ⟨am_P_Rea_fail, (List.forall_mem_cons.mpr ⟨am_P_Rea_readNumber, (List.forall_mem_cons.mpr ⟨am_P_Rea_readDigits, (List.forall_mem_cons.mpr ⟨am_P_Dra_begin, (List.forall_mem_cons.mpr ⟨am_P_Dra_put, (List.forall_mem_cons.mpr ⟨am_P_Rea_readWords, (fun _ h => absurd h List.not_mem_nil)⟩)⟩)⟩)⟩)⟩)⟩)⟩)⟩)⟩)⟩)⟩)⟩)⟩)⟩)⟩)⟩)⟩)⟩)⟩)⟩)⟩)⟩)⟩)⟩)⟩)⟩)⟩)⟩)⟩)⟩)⟩)⟩)
theorem am_Ps3 : ∀ q ∈ am_ts3, q.1 ≠ t_LAW_law → am_P q := (List.forall_mem_cons.mpr ⟨(fun _ => am_P_Rea_isAtWord), (List.forall_mem_cons.mpr ⟨(fun _ => am_P_Dra_addWord), (List.forall_mem_cons.mpr ⟨(fun _ => am_P_Rea_expect), (List.forall_mem_cons.mpr ⟨(fun _ => am_P_Rea_readPlain), (List.forall_mem_cons.mpr ⟨(fun _ => am_P_Rea_readSaving), (List.forall_mem_cons.mpr ⟨(fun _ => am_P_Rea_readSemicolon), (List.forall_mem_cons.mpr ⟨(fun _ => am_P_SB_addDraft), (List.forall_mem_cons.mpr ⟨(fun _ => am_P_Amd_hasRoomFor), (List.forall_mem_cons.mpr ⟨(fun _ => am_P_Dra_inserts), (List.forall_mem_cons.mpr ⟨(fun _ => am_P_Amd_add), (List.forall_mem_cons.mpr ⟨(fun _ => am_P_Pag_makeEmpty), (List.forall_mem_cons.mpr ⟨(fun _ => am_P_LAW_isSame), (List.forall_mem_cons.mpr ⟨(fun _ => am_P_LAW_indexOf), (List.forall_mem_cons.mpr ⟨(fun _ => am_P_SB_textWord), (List.forall_mem_cons.mpr ⟨(fun _ => am_P_SB_presentWord), (List.forall_mem_cons.mpr ⟨(fun _ => am_P_Law_said), (List.forall_mem_cons.mpr ⟨(fun _ => am_P_LAW_toldWord), (List.forall_mem_cons.mpr ⟨(fun h => absurd rfl h), (fun _ h => absurd h List.not_mem_nil)⟩)⟩)⟩)⟩)⟩)⟩)⟩)⟩)⟩)⟩)⟩)⟩)⟩)⟩)⟩)⟩)⟩)⟩)
theorem am_Pt : ∀ q ∈ am_ts, q.1 ≠ t_LAW_law → am_P q := by
  intro q hq hn
  simp only [am_ts, List.mem_append] at hq
  rcases hq with ((hq | hq) | hq) | hq
  · exact am_Ps0 q hq
  · exact am_Ps1 q hq
  · exact am_Ps2 q hq
  · exact am_Ps3 q hq hn
/-- a link to a method: its words -/
def am_cok (k : Nat) (e : Nat × Nat × Nat × Nat × Nat × Nat) : Bool := match am_ts[e.2.1]? with
  | some q => decide (lw_tbl[e.2.2.2.1]? = some (.methodLink (am_cn k) e.1 (am_nm q.1))) && decide (am_nm q.1 ≠ am_nm t_LAW_law) &&
    (bif Nat.beq e.2.2.1 0 then decide (lw_tbl[e.2.2.2.2.1]? = some (.instanceMethod (am_nm q.1))) && decide (lw_tbl[e.2.2.2.2.2]? = some (.selects (am_nm q.1).cls (am_nm q.1) (am_nm q.1))) && decide ((parseMethodDescriptor (am_nm q.1).desc).map (fun d => d.parameters.length + 1) = some (am_ar q.1))
     else decide (lw_tbl[e.2.2.2.2.1]? = some (.static (am_nm q.1))) && decide ((parseMethodDescriptor (am_nm q.1).desc).map (fun d => d.parameters.length) = some (am_ar q.1)))
  | none => false
def am_fok (k : Nat) (e : Nat × Nat × Nat × Nat × Nat) : Bool := match am_cl[e.2.1]? with
  | some r => Nat.blt e.2.2.1 r.2.2 && decide (lw_tbl[e.2.2.2.2]? = some (bif Nat.beq e.2.2.2.1 0 then .fieldLink (am_cn k) e.1 (r.2.1 e.2.2.1).1 (r.2.1 e.2.2.1).2.1 (r.2.1 e.2.2.1).2.2.1 else .fieldLinkNest (am_cn k) e.1 (r.2.1 e.2.2.1).1 (r.2.1 e.2.2.1).2.1 (r.2.1 e.2.2.1).2.2.1 "StatuteBook"))
  | none => false
def am_kok (k : Nat) (e : Nat × Int32 × Nat) : Bool := decide (lw_tbl[e.2.2]? = some (.constant (am_cn k) e.1 e.2.1))
def am_lok (k : Nat) (e : Nat × Int64 × Nat) : Bool := decide (lw_tbl[e.2.2]? = some (.constantLong (am_cn k) e.1 e.2.1))
theorem am_mc0 : (am_m0).all (am_cok 0) = true := by decide +kernel
theorem am_fc0 : (am_f0).all (am_fok 0) = true := by decide +kernel
theorem am_kc0 : (am_ki0).all (am_kok 0) = true := by decide +kernel
theorem am_lc0 : (am_kl0).all (am_lok 0) = true := by decide +kernel
theorem am_mc1 : (am_m1).all (am_cok 1) = true := by decide +kernel
theorem am_fc1 : (am_f1).all (am_fok 1) = true := by decide +kernel
theorem am_kc1 : (am_ki1).all (am_kok 1) = true := by decide +kernel
theorem am_lc1 : (am_kl1).all (am_lok 1) = true := by decide +kernel
theorem am_mc2 : (am_m2).all (am_cok 2) = true := by decide +kernel
theorem am_fc2 : (am_f2).all (am_fok 2) = true := by decide +kernel
theorem am_kc2 : (am_ki2).all (am_kok 2) = true := by decide +kernel
theorem am_lc2 : (am_kl2).all (am_lok 2) = true := by decide +kernel
theorem am_mc3 : (am_m3).all (am_cok 3) = true := by decide +kernel
theorem am_fc3 : (am_f3).all (am_fok 3) = true := by decide +kernel
theorem am_kc3 : (am_ki3).all (am_kok 3) = true := by decide +kernel
theorem am_lc3 : (am_kl3).all (am_lok 3) = true := by decide +kernel
theorem am_mc4 : (am_m4).all (am_cok 4) = true := by decide +kernel
theorem am_fc4 : (am_f4).all (am_fok 4) = true := by decide +kernel
theorem am_kc4 : (am_ki4).all (am_kok 4) = true := by decide +kernel
theorem am_lc4 : (am_kl4).all (am_lok 4) = true := by decide +kernel
theorem am_mc5 : (am_m5).all (am_cok 5) = true := by decide +kernel
theorem am_fc5 : (am_f5).all (am_fok 5) = true := by decide +kernel
theorem am_kc5 : (am_ki5).all (am_kok 5) = true := by decide +kernel
theorem am_lc5 : (am_kl5).all (am_lok 5) = true := by decide +kernel
theorem am_mc6 : (am_m6).all (am_cok 6) = true := by decide +kernel
theorem am_fc6 : (am_f6).all (am_fok 6) = true := by decide +kernel
theorem am_kc6 : (am_ki6).all (am_kok 6) = true := by decide +kernel
theorem am_lc6 : (am_kl6).all (am_lok 6) = true := by decide +kernel
theorem am_mc7 : (am_m7).all (am_cok 7) = true := by decide +kernel
theorem am_fc7 : (am_f7).all (am_fok 7) = true := by decide +kernel
theorem am_kc7 : (am_ki7).all (am_kok 7) = true := by decide +kernel
theorem am_lc7 : (am_kl7).all (am_lok 7) = true := by decide +kernel
theorem am_mc8 : (am_m8).all (am_cok 8) = true := by decide +kernel
theorem am_fc8 : (am_f8).all (am_fok 8) = true := by decide +kernel
theorem am_kc8 : (am_ki8).all (am_kok 8) = true := by decide +kernel
theorem am_lc8 : (am_kl8).all (am_lok 8) = true := by decide +kernel
theorem am_mc9 : (am_m9).all (am_cok 9) = true := by decide +kernel
theorem am_fc9 : (am_f9).all (am_fok 9) = true := by decide +kernel
theorem am_kc9 : (am_ki9).all (am_kok 9) = true := by decide +kernel
theorem am_lc9 : (am_kl9).all (am_lok 9) = true := by decide +kernel
theorem am_mc10 : (am_m10).all (am_cok 10) = true := by decide +kernel
theorem am_fc10 : (am_f10).all (am_fok 10) = true := by decide +kernel
theorem am_kc10 : (am_ki10).all (am_kok 10) = true := by decide +kernel
theorem am_lc10 : (am_kl10).all (am_lok 10) = true := by decide +kernel
theorem am_mc11 : (am_m11).all (am_cok 11) = true := by decide +kernel
theorem am_fc11 : (am_f11).all (am_fok 11) = true := by decide +kernel
theorem am_kc11 : (am_ki11).all (am_kok 11) = true := by decide +kernel
theorem am_lc11 : (am_kl11).all (am_lok 11) = true := by decide +kernel
theorem am_mc12 : (am_m12).all (am_cok 12) = true := by decide +kernel
theorem am_fc12 : (am_f12).all (am_fok 12) = true := by decide +kernel
theorem am_kc12 : (am_ki12).all (am_kok 12) = true := by decide +kernel
theorem am_lc12 : (am_kl12).all (am_lok 12) = true := by decide +kernel
theorem am_mc13 : (am_m13).all (am_cok 13) = true := by decide +kernel
theorem am_fc13 : (am_f13).all (am_fok 13) = true := by decide +kernel
theorem am_kc13 : (am_ki13).all (am_kok 13) = true := by decide +kernel
theorem am_lc13 : (am_kl13).all (am_lok 13) = true := by decide +kernel
theorem am_mc14 : (am_m14).all (am_cok 14) = true := by decide +kernel
theorem am_fc14 : (am_f14).all (am_fok 14) = true := by decide +kernel
theorem am_kc14 : (am_ki14).all (am_kok 14) = true := by decide +kernel
theorem am_lc14 : (am_kl14).all (am_lok 14) = true := by decide +kernel
theorem am_mc15 : (am_m15).all (am_cok 15) = true := by decide +kernel
theorem am_fc15 : (am_f15).all (am_fok 15) = true := by decide +kernel
theorem am_kc15 : (am_ki15).all (am_kok 15) = true := by decide +kernel
theorem am_lc15 : (am_kl15).all (am_lok 15) = true := by decide +kernel
theorem am_mc16 : (am_m16).all (am_cok 16) = true := by decide +kernel
theorem am_fc16 : (am_f16).all (am_fok 16) = true := by decide +kernel
theorem am_kc16 : (am_ki16).all (am_kok 16) = true := by decide +kernel
theorem am_lc16 : (am_kl16).all (am_lok 16) = true := by decide +kernel
theorem am_m_all (k : Nat) : (am_m k).all (am_cok k) = true := match k with
  | 0 => am_mc0
  | 1 => am_mc1
  | 2 => am_mc2
  | 3 => am_mc3
  | 4 => am_mc4
  | 5 => am_mc5
  | 6 => am_mc6
  | 7 => am_mc7
  | 8 => am_mc8
  | 9 => am_mc9
  | 10 => am_mc10
  | 11 => am_mc11
  | 12 => am_mc12
  | 13 => am_mc13
  | 14 => am_mc14
  | 15 => am_mc15
  | 16 => am_mc16
  | _ + 17 => rfl
theorem am_f_all (k : Nat) : (am_f k).all (am_fok k) = true := match k with
  | 0 => am_fc0
  | 1 => am_fc1
  | 2 => am_fc2
  | 3 => am_fc3
  | 4 => am_fc4
  | 5 => am_fc5
  | 6 => am_fc6
  | 7 => am_fc7
  | 8 => am_fc8
  | 9 => am_fc9
  | 10 => am_fc10
  | 11 => am_fc11
  | 12 => am_fc12
  | 13 => am_fc13
  | 14 => am_fc14
  | 15 => am_fc15
  | 16 => am_fc16
  | _ + 17 => rfl
theorem am_ki_all (k : Nat) : (am_ki k).all (am_kok k) = true := match k with
  | 0 => am_kc0
  | 1 => am_kc1
  | 2 => am_kc2
  | 3 => am_kc3
  | 4 => am_kc4
  | 5 => am_kc5
  | 6 => am_kc6
  | 7 => am_kc7
  | 8 => am_kc8
  | 9 => am_kc9
  | 10 => am_kc10
  | 11 => am_kc11
  | 12 => am_kc12
  | 13 => am_kc13
  | 14 => am_kc14
  | 15 => am_kc15
  | 16 => am_kc16
  | _ + 17 => rfl
theorem am_kl_all (k : Nat) : (am_kl k).all (am_lok k) = true := match k with
  | 0 => am_lc0
  | 1 => am_lc1
  | 2 => am_lc2
  | 3 => am_lc3
  | 4 => am_lc4
  | 5 => am_lc5
  | 6 => am_lc6
  | 7 => am_lc7
  | 8 => am_lc8
  | 9 => am_lc9
  | 10 => am_lc10
  | 11 => am_lc11
  | 12 => am_lc12
  | 13 => am_lc13
  | 14 => am_lc14
  | 15 => am_lc15
  | 16 => am_lc16
  | _ + 17 => rfl
theorem am_law_dok0 : am_dok (am_by t_LAW_law) k_LAW_0 = true := by decide +kernel
theorem am_law_dok1 : am_dok (am_by t_LAW_law) k_LAW_1 = true := by decide +kernel
theorem am_law_dok2 : am_dok (am_by t_LAW_law) k_LAW_2 = true := by decide +kernel
theorem am_law_dok3 : am_dok (am_by t_LAW_law) k_LAW_3 = true := by decide +kernel
theorem am_law_dok4 : am_dok (am_by t_LAW_law) k_LAW_4 = true := by decide +kernel
theorem am_law_dok5 : am_dok (am_by t_LAW_law) k_LAW_5 = true := by decide +kernel
theorem am_law_dok6 : am_dok (am_by t_LAW_law) k_LAW_6 = true := by decide +kernel
theorem am_dok_app {b : ByteArray} {l l2 : List (Nat × Instr × Nat)} (h : am_dok b l = true) (h2 : am_dok b l2 = true) : am_dok b (l ++ l2) = true := by unfold am_dok at *; rw [List.all_append, h, h2]; rfl
theorem am_law_dok : am_dok (am_by t_LAW_law) (am_cd t_LAW_law) = true := am_dok_app am_law_dok0 (am_dok_app am_law_dok1 (am_dok_app am_law_dok2 (am_dok_app am_law_dok3 (am_dok_app am_law_dok4 (am_dok_app am_law_dok5 (am_law_dok6))))))
theorem am_law_rok : am_rok t_LAW_law = true := by decide +kernel
theorem am_law_cok : (am_cd t_LAW_law).all (am_cokI (am_ow t_LAW_law)) = true := by decide +kernel
/-- the objects' places and the classes' tables -/
def am_tyof (ci : Nat) : Nat → FieldType := match ci with
  | 0 => tyX0
  | 1 => tyX1
  | 2 => tyX2
  | 3 => tyX3
  | 4 => tyX4
  | 5 => tyX5
  | 6 => tyX6
  | 7 => tyX7
  | _ => tyX8
def am_fdok (r : vw_C) (k : Nat) (f : Nat) : Bool := match f with
  | 0 => decide ((r.2.1 k).2.2.1 = "I") && !(r.2.1 k).2.2.2
  | 1 => decide ((r.2.1 k).2.2.1 = "J") && !(r.2.1 k).2.2.2
  | 2 => decide ((r.2.1 k).2.2.1 = "Z") && !(r.2.1 k).2.2.2
  | _ => true
def am_LLok : Bool := am_LL.all fun e => match e with
  | .inl n => Nat.blt n 1000000
  | .inr (ci, fs) => (match am_cl[ci]? with
    | some r => (Nat.beq fs.length r.2.2 && Nat.blt fs.length 50) && (List.range fs.length).all (fun k => match fs[k]? with | some f => am_fdok r k f && decide (f ≠ 7003) | none => false)
    | none => false)
theorem am_LL_ok : am_LLok = true := by decide +kernel
theorem am_cls (ci : Nat) (r : vw_C) (h : am_cl[ci]? = some r) : (∀ k, k < r.2.2 → parseFieldDescriptor (r.2.1 k).2.2.1 = some (am_tyof ci k)) ∧ (∀ a, a < r.2.2 → ∀ b, b < r.2.2 → a ≠ b → (r.2.1 a).2.1 ≠ (r.2.1 b).2.1) ∧ ∀ w ∈ u_ws r.1 r.2.1 r.2.2, w ∈ am_tbl := by
  match ci, h with
  | 0, h => cases h; exact ⟨tyX0_ok, nmX0, am_ws0⟩
  | 1, h => cases h; exact ⟨tyX1_ok, nmX1, am_ws1⟩
  | 2, h => cases h; exact ⟨tyX2_ok, nmX2, am_ws2⟩
  | 3, h => cases h; exact ⟨tyX3_ok, nmX3, am_ws3⟩
  | 4, h => cases h; exact ⟨tyX4_ok, nmX4, am_ws4⟩
  | 5, h => cases h; exact ⟨tyX5_ok, nmX5, am_ws5⟩
  | 6, h => cases h; exact ⟨tyX6_ok, nmX6, am_ws6⟩
  | 7, h => cases h; exact ⟨tyX7_ok, nmX7, am_ws7⟩
  | 8, h => cases h; exact ⟨tyX8_ok, nmX8, am_ws8⟩
  | k + 9, h => simp [am_cl] at h
end
section
/-! the abstract machine: a memory of ints (cell, place), references are numbers of cells; 5000 is the script, 6000 + i a String constant, 6100 + i its bytes, 7000 a static that nobody looks at -/
abbrev am_M : Type := Nat → Nat → Int32
abbrev am_C : Type := Nat × List Value × List Value × am_M
def am_up (M : am_M) (a k : Nat) (x : Int32) : am_M := fun b j => if b = a then (if j = k then x else M b j) else M b j
def am_hi (x : Int64) : Int32 := Int32.ofInt (x.toInt / 4294967296)
def am_lw (x : Int64) : Int32 := Int32.ofInt (x.toInt % 4294967296)
def am_lg (h l : Int32) : Int64 := Int64.ofInt (h.toInt * 4294967296 + l.toInt % 4294967296)
def am_fv (M : am_M) (a k : Nat) (f : Nat) : Value := match f with
  | 0 => .int (M a k)
  | 1 => .long (am_lg (M a k) (M a (k + 100)))
  | 2 => .int (M a k)
  | r + 3 => .ref r
def am_al (a : Nat) : Option Nat := match am_LL[a]? with
  | some (.inl n) => bif Nat.beq a 58 then none else some n
  | _ => none
/-- the one array of longs: its places k hold high words, k + 100 low ones -/
def am_ll (a : Nat) (i : Int32) (M : am_M) : Option Int64 := bif Nat.beq a 58 then (if i < 0 ∨ 16 ≤ i.toNatClampNeg then none else some (am_lg (M a i.toNatClampNeg) (M a (i.toNatClampNeg + 100)))) else none
def am_lst (a : Nat) (i : Int32) (x : Int64) (M : am_M) : Option am_M := bif Nat.beq a 58 then (if i < 0 ∨ 16 ≤ i.toNatClampNeg then none else some (am_up (am_up M a i.toNatClampNeg (am_hi x)) a (i.toNatClampNeg + 100) (am_lw x))) else none
def am_sl : List Nat := [6, 7, 6, 8, 2, 2, 3, 3, 6]
def am_sb : List (List Int32) := [[105, 110, 115, 101, 114, 116], [114, 101, 112, 108, 97, 99, 101], [114, 101, 112, 101, 97, 108], [114, 101, 110, 117, 109, 98, 101, 114], [105, 110], [116, 111], [102, 111, 114], [112, 117, 116], [115, 97, 118, 105, 110, 103]]
def am_ld (ls : List Value) (k : Nat) : Option Value := match ls[k]? with
  | some .null => none
  | o => o
def am_nl (ls : List Value) (k : Nat) : Bool := match k with
  | 0 => true
  | j + 1 => match ls[j]? with
    | some (.long _) => false
    | some (.double _) => false
    | _ => true
def am_s1 (ls : List Value) (k : Nat) (v : Value) : Option (List Value) := bif Nat.blt k ls.length && am_nl ls k then some (ls.set k v) else none
def am_s2 (ls : List Value) (k : Nat) (v : Value) : Option (List Value) := bif Nat.blt (k + 1) ls.length && am_nl ls k then some ((ls.set k v).set (k + 1) .null) else none
def am_tgo (pc : Nat) (off : Int) : Option Nat := if 0 ≤ (pc : Int) + off then some ((pc : Int) + off).toNat else none
def am_br (c : Jvm.ClassFile.Cond) (x y : Int32) (a b : Nat) : Nat := match c with
  | .eq => if x = y then a else b
  | .ne => if x = y then b else a
  | .lt => if x < y then a else b
  | .ge => if x < y then b else a
  | .gt => if y < x then a else b
  | .le => if y < x then b else a
def am_sw (d lo hi : Int) (os : Array Int) (x : Int) : Int := if x < lo then d else if hi < x then d else (os[(x - lo).toNat]?).getD d
def am_gs (ow idx : Nat) : Option Value := bif Nat.beq ow 14 then (bif Nat.beq idx 38 then some (.int 1) else bif Nat.beq idx 1053 then some (.ref 7000) else none) else none
def am_sf (ow idx a : Nat) : Option Value := bif Nat.beq ow 14 && Nat.ble 6000 a && Nat.blt a 6009 then (bif Nat.beq idx 9 then some (.ref (a + 100)) else bif Nat.beq idx 15 then some (.int 0) else none) else none
def am_gf (ow idx a : Nat) (M : am_M) : Option Value := match am_fl ow idx with
  | some (ci, k) => (match am_LL[a]? with
    | some (.inr (cj, fs)) => bif Nat.beq ci cj then (match fs[k]? with
      | some f => some (am_fv M a k f)
      | none => none) else none
    | _ => none)
  | none => am_sf ow idx a
def am_pf (ow idx a : Nat) (v : Value) (M : am_M) : Option am_M := match am_fl ow idx with
  | some (ci, k) => (match am_LL[a]? with
    | some (.inr (cj, fs)) => bif Nat.beq ci cj then (match fs[k]?, v with
      | some 0, .int x => some (am_up M a k x)
      | some 1, .long x => some (am_up (am_up M a k (am_hi x)) a (k + 100) (am_lw x))
      | some 2, .int x => if x = 0 ∨ x = 1 then some (am_up M a k x) else none
      | _, _ => none) else none
    | _ => none)
  | none => none
def am_len (a : Nat) (M : am_M) : Option Int32 := match am_al a with
  | some n => some (Int32.ofNat n)
  | none => bif Nat.beq a 5000 then some (M 5001 0) else bif Nat.ble 6100 a && Nat.blt a 6109 then some (Int32.ofNat (am_sl.getD (a - 6100) 0)) else none
def am_il (a : Nat) (i : Int32) (M : am_M) : Option Int32 := match am_al a with
  | some n => if i < 0 ∨ n ≤ i.toNatClampNeg then none else some (M a i.toNatClampNeg)
  | none => bif Nat.beq a 5000 then (if i < 0 ∨ (M 5001 0).toNatClampNeg ≤ i.toNatClampNeg then none else some (M 5000 i.toNatClampNeg)) else none
def am_bl (a : Nat) (i : Int32) : Option Int32 := bif Nat.ble 6100 a && Nat.blt a 6109 then (if i < 0 ∨ am_sl.getD (a - 6100) 0 ≤ i.toNatClampNeg then none else some ((am_sb.getD (a - 6100) []).getD i.toNatClampNeg 0)) else none
def am_is (a : Nat) (i x : Int32) (M : am_M) : Option am_M := match am_al a with
  | some n => if i < 0 ∨ n ≤ i.toNatClampNeg then none else some (am_up M a i.toNatClampNeg x)
  | none => none
/-- an instruction that is no call and no answer -/
def am_ex (ow : Nat) (i : Instr) (n pc : Nat) (ls st : List Value) (M : am_M) : Option am_C := match i with
  | .iconst v => some (pc + n, ls, .int (Int32.ofInt v) :: st, M)
  | .bipush v => some (pc + n, ls, .int (Int8.ofInt v).toInt32 :: st, M)
  | .sipush v => some (pc + n, ls, .int (Int16.ofInt v).toInt32 :: st, M)
  | .lconst v => some (pc + n, ls, .long (Int64.ofNat (v : Nat)) :: st, M)
  | .ldc k => (match am_as (am_ki ow) k with
    | some q => some (pc + n, ls, .int q.1 :: st, M)
    | none => bif Nat.beq ow 5 then (match am_as am_ks5 k with
      | some j => some (pc + n, ls, .ref (6000 + j) :: st, M)
      | none => none) else none)
  | .ldc_w k => (match am_as (am_ki ow) k with
    | some q => some (pc + n, ls, .int q.1 :: st, M)
    | none => none)
  | .ldc2_w k => (match am_as (am_kl ow) k with
    | some q => some (pc + n, ls, .long q.1 :: st, M)
    | none => none)
  | .iload k => (match am_ld ls k with
    | some (.int x) => some (pc + n, ls, .int x :: st, M)
    | _ => none)
  | .iload_n k => (match am_ld ls k.val with
    | some (.int x) => some (pc + n, ls, .int x :: st, M)
    | _ => none)
  | .lload k => (match am_ld ls k with
    | some (.long x) => some (pc + n, ls, .long x :: st, M)
    | _ => none)
  | .lload_n k => (match am_ld ls k.val with
    | some (.long x) => some (pc + n, ls, .long x :: st, M)
    | _ => none)
  | .aload k => (match am_ld ls k with
    | some (.ref x) => bif Nat.beq x 7000 then none else some (pc + n, ls, .ref x :: st, M)
    | _ => none)
  | .aload_n k => (match am_ld ls k.val with
    | some (.ref x) => bif Nat.beq x 7000 then none else some (pc + n, ls, .ref x :: st, M)
    | _ => none)
  | .istore k => (match st with
    | .int x :: st => (am_s1 ls k (.int x)).map fun l => (pc + n, l, st, M)
    | _ => none)
  | .istore_n k => (match st with
    | .int x :: st => (am_s1 ls k.val (.int x)).map fun l => (pc + n, l, st, M)
    | _ => none)
  | .lstore k => (match st with
    | .long x :: st => (am_s2 ls k (.long x)).map fun l => (pc + n, l, st, M)
    | _ => none)
  | .lstore_n k => (match st with
    | .long x :: st => (am_s2 ls k.val (.long x)).map fun l => (pc + n, l, st, M)
    | _ => none)
  | .iinc k v => (match am_ld ls k with
    | some (.int x) => (am_s1 ls k (.int (x + Int32.ofInt v))).map fun l => (pc + n, l, st, M)
    | _ => none)
  | .iadd => (match st with
    | .int y :: .int x :: st => some (pc + n, ls, .int (x + y) :: st, M)
    | _ => none)
  | .isub => (match st with
    | .int y :: .int x :: st => some (pc + n, ls, .int (x - y) :: st, M)
    | _ => none)
  | .imul => (match st with
    | .int y :: .int x :: st => some (pc + n, ls, .int (x * y) :: st, M)
    | _ => none)
  | .idiv => (match st with
    | .int y :: .int x :: st => if y = 0 then none else some (pc + n, ls, .int (x / y) :: st, M)
    | _ => none)
  | .irem => (match st with
    | .int y :: .int x :: st => if y = 0 then none else some (pc + n, ls, .int (x - x / y * y) :: st, M)
    | _ => none)
  | .iand => (match st with
    | .int y :: .int x :: st => some (pc + n, ls, .int (x &&& y) :: st, M)
    | _ => none)
  | .ior => (match st with
    | .int y :: .int x :: st => some (pc + n, ls, .int (x ||| y) :: st, M)
    | _ => none)
  | .ixor => (match st with
    | .int y :: .int x :: st => some (pc + n, ls, .int (x ^^^ y) :: st, M)
    | _ => none)
  | .ishl => (match st with
    | .int y :: .int x :: st => some (pc + n, ls, .int (x <<< (y &&& 31)) :: st, M)
    | _ => none)
  | .ishr => (match st with
    | .int y :: .int x :: st => some (pc + n, ls, .int (x >>> (y &&& 31)) :: st, M)
    | _ => none)
  | .iushr => (match st with
    | .int y :: .int x :: st => some (pc + n, ls, .int (x.toUInt32 >>> (y.toUInt32 &&& Int32.toUInt32 31)).toInt32 :: st, M)
    | _ => none)
  | .ladd => (match st with
    | .long y :: .long x :: st => some (pc + n, ls, .long (x + y) :: st, M)
    | _ => none)
  | .lsub => (match st with
    | .long y :: .long x :: st => some (pc + n, ls, .long (x - y) :: st, M)
    | _ => none)
  | .lmul => (match st with
    | .long y :: .long x :: st => some (pc + n, ls, .long (x * y) :: st, M)
    | _ => none)
  | .land => (match st with
    | .long y :: .long x :: st => some (pc + n, ls, .long (x &&& y) :: st, M)
    | _ => none)
  | .lor => (match st with
    | .long y :: .long x :: st => some (pc + n, ls, .long (x ||| y) :: st, M)
    | _ => none)
  | .lshl => (match st with
    | .int y :: .long x :: st => some (pc + n, ls, .long (x <<< (y.toInt64 &&& 63)) :: st, M)
    | _ => none)
  | .lshr => (match st with
    | .int y :: .long x :: st => some (pc + n, ls, .long (x >>> (y.toInt64 &&& 63)) :: st, M)
    | _ => none)
  | .l2i => (match st with
    | .long x :: st => some (pc + n, ls, .int x.toInt32 :: st, M)
    | _ => none)
  | .laload => (match st with
    | .int i :: .ref a :: st => (match am_ll a i M with
      | some x => some (pc + n, ls, .long x :: st, M)
      | none => none)
    | _ => none)
  | .lastore => (match st with
    | .long x :: .int i :: .ref a :: st => (match am_lst a i x M with
      | some M' => some (pc + n, ls, st, M')
      | none => none)
    | _ => none)
  | .lcmp => (match st with
    | .long y :: .long x :: st => some (pc + n, ls, .int (lg_cmp x y) :: st, M)
    | _ => none)
  | .i2l => (match st with
    | .int x :: st => some (pc + n, ls, .long x.toInt64 :: st, M)
    | _ => none)
  | .i2c => (match st with
    | .int x :: st => some (pc + n, ls, .int (x.toUInt32 % 65536).toInt32 :: st, M)
    | _ => none)
  | .dup => (match st with
    | .int x :: st => some (pc + n, ls, .int x :: .int x :: st, M)
    | .ref x :: st => some (pc + n, ls, .ref x :: .ref x :: st, M)
    | _ => none)
  | .dup2 => (match st with
    | .int x :: .ref y :: st => some (pc + n, ls, .int x :: .ref y :: .int x :: .ref y :: st, M)
    | _ => none)
  | .pop => (match st with
    | .int _ :: st => some (pc + n, ls, st, M)
    | _ => none)
  | .goto off => (match am_tgo pc off with
    | some tg => some (tg, ls, st, M)
    | none => none)
  | .ifCond c off => (match st with
    | .int x :: st => (match am_tgo pc off with
      | some tg => some (am_br c x 0 tg (pc + n), ls, st, M)
      | none => none)
    | _ => none)
  | .if_icmp c off => (match st with
    | .int y :: .int x :: st => (match am_tgo pc off with
      | some tg => some (am_br c x y tg (pc + n), ls, st, M)
      | none => none)
    | _ => none)
  | .tableswitch d lo hi os => (match st with
    | .int x :: st => (match am_tgo pc (am_sw d lo hi os x.toInt) with
      | some tg => some (tg, ls, st, M)
      | none => none)
    | _ => none)
  | .lookupswitch d ps => (match st with
    | .int x :: st => (match am_tgo pc (Op.lookupswitch.offset ps.toList d x.toInt) with
      | some tg => some (tg, ls, st, M)
      | none => none)
    | _ => none)
  | .getstatic k => (match am_gs ow k with
    | some v => some (pc + n, ls, v :: st, M)
    | none => none)
  | .getfield k => (match st with
    | .ref a :: st => (match am_gf ow k a M with
      | some v => some (pc + n, ls, v :: st, M)
      | none => none)
    | _ => none)
  | .putfield k => (match st with
    | v :: .ref a :: st => (match am_pf ow k a v M with
      | some M' => some (pc + n, ls, st, M')
      | none => none)
    | _ => none)
  | .arraylength => (match st with
    | .ref a :: st => (match am_len a M with
      | some x => some (pc + n, ls, .int x :: st, M)
      | none => none)
    | _ => none)
  | .iaload => (match st with
    | .int i :: .ref a :: st => (match am_il a i M with
      | some x => some (pc + n, ls, .int x :: st, M)
      | none => none)
    | _ => none)
  | .baload => (match st with
    | .int i :: .ref a :: st => (match am_bl a i with
      | some x => some (pc + n, ls, .int x :: st, M)
      | none => none)
    | _ => none)
  | .iastore => (match st with
    | .int x :: .int i :: .ref a :: st => (match am_is a i x M with
      | some M' => some (pc + n, ls, st, M')
      | none => none)
    | _ => none)
  | _ => none
def am_step (t : am_T) (c : am_C) : Option am_C := match am_as (am_cd t) c.1 with
  | some (i, n) => am_ex (am_ow t) i n c.1 c.2.1 c.2.2.1 c.2.2.2
  | none => none
/-- arraycopy between two arrays -/
def am_cpm (M : am_M) (a0 a : Nat) (sp dp n : Nat) : am_M := fun b j => if b = a then va_cpy (M a0) (M a) sp dp n j else M b j
def am_cp (t : am_T) (c c' : am_C) : Prop := ∃ (k : Nat) (a0 a n0 n1 : Nat) (sp dp n : Int32), am_as (am_cd t) c.1 = some (.invokestatic k, 3) ∧ am_ac (am_ow t) k = true ∧ c.2.2.1 = [.int n, .int dp, .ref a, .int sp, .ref a0] ∧ am_al a0 = some n0 ∧ am_al a = some n1 ∧
  ¬ sp < 0 ∧ ¬ dp < 0 ∧ ¬ n < 0 ∧ sp.toNatClampNeg + n.toNatClampNeg ≤ n0 ∧ dp.toNatClampNeg + n.toNatClampNeg ≤ n1 ∧ c' = (c.1 + 3, c.2.1, [], am_cpm c.2.2.2 a0 a sp.toNatClampNeg dp.toNatClampNeg n.toNatClampNeg)
/-- Math.min -/
def am_mn (t : am_T) (c c' : am_C) : Prop := ∃ (k : Nat) (x y : Int32) (st : List Value), am_as (am_cd t) c.1 = some (.invokestatic k, 3) ∧ am_mnl (am_ow t) k = true ∧ c.2.2.1 = .int y :: .int x :: st ∧ (st.map fun v => v.category).sum ≤ 8 ∧ c' = (c.1 + 3, c.2.1, .int (if y < x then y else x) :: st, c.2.2.2)
/-- locals that nobody reads any more -/
def am_fg (c c' : am_C) : Prop := ∃ ls' : List Value, ls'.length = c.2.1.length ∧ (∀ (i : Nat) (v : Value), ls'[i]? = some v → v = .null ∨ c.2.1[i]? = some v) ∧ c' = (c.1, ls', c.2.2.1, c.2.2.2)
def am_oth (t : am_T) (c c' : am_C) : Prop := am_cp t c c' ∨ am_mn t c c' ∨ am_fg c c'
abbrev am_Rn : Type := am_T → List Value → am_M → Option Value → am_M → Prop
def am_cw (st : List Value) : Nat := (st.map fun v => v.category).sum
/-- the receiver is an object of the class -/
def am_rv (ow : Nat) (av : List Value) : Bool := match av with
  | .ref a :: _ => (match am_LL[a]? with
    | some (.inr (ci, _)) => Nat.beq ci ow
    | _ => Nat.beq ow 14 && Nat.ble 6000 a && Nat.blt a 6009)
  | _ => false
/-- a call, by what is known of the method that is called -/
def am_cal (R : am_Rn) (t : am_T) (c c' : am_C) : Prop := ∃ (i : Instr) (k : Nat) (t' : am_T) (av rest : List Value) (rv : Option Value) (M' : am_M), am_as (am_cd t) c.1 = some (i, 3) ∧ am_iv i = some k ∧ am_ml (am_ow t) k = some t' ∧ c.2.2.1 = av.reverse ++ rest ∧ am_cw rest ≤ 8 ∧ (am_vi i = true → am_rv (am_ow t') av = true) ∧
  R t' av c.2.2.2 rv M' ∧ c' = (c.1 + 3, c.2.1, rv.toList ++ rest, M')
def am_go (R : am_Rn) (t : am_T) : Nat → am_C → am_C → Prop
  | 0, c, c' => c = c'
  | k + 1, c, c' => ∃ c1, (am_step t c = some c1 ∨ am_oth t c c1 ∨ am_cal R t c c1) ∧ am_go R t k c1 c'
/-- the answer at the end -/
def am_ret (t : am_T) (c : am_C) (rv : Option Value) : Prop := match rv with
  | none => am_as (am_cd t) c.1 = some (.return_, 1) ∧ c.2.2.1 = [] ∧ am_rt t = none
  | some (.int x) => am_as (am_cd t) c.1 = some (.ireturn, 1) ∧ c.2.2.1 = [.int x] ∧ ∃ ty, am_rt t = some ty ∧ narrow ty (.int x) = .int x
  | some (.long x) => am_as (am_cd t) c.1 = some (.lreturn, 1) ∧ c.2.2.1 = [.long x] ∧ am_rt t = some .long
  | some (.ref x) => am_as (am_cd t) c.1 = some (.areturn, 1) ∧ c.2.2.1 = [.ref x] ∧ False
  | _ => False
def am_sl1 (vs : List Value) : List Value := vs.flatMap fun v => if v.category = 2 then [v, .null] else [v]
/-- the locals with which a method begins -/
def am_ent (n : Nat) (av : List Value) : List Value := am_sl1 av ++ List.replicate (n - (am_sl1 av).length) .null
def am_run : Nat → am_Rn
  | 0 => fun _ _ _ _ _ => False
  | d + 1 => fun t av M rv M' => ((am_sl1 av).length ≤ am_mL t ∧ av.length = am_ar t) ∧ ∃ (k : Nat) (c : am_C), am_go (am_run d) t k (0, am_ent (am_mL t) av, [], M) c ∧ am_ret t c rv ∧ c.2.2.2 = M'
def am_call : am_Rn := fun t av M rv M' => ∃ d, am_run d t av M rv M'
/-- from here the method ends, and Q holds of the answer and the memory -/
def am_x (t : am_T) (c : am_C) (Q : Option Value → am_M → Prop) : Prop := ∃ (d k : Nat) (c' : am_C) (rv : Option Value), am_go (am_run d) t k c c' ∧ am_ret t c' rv ∧ Q rv c'.2.2.2
/-! its rules -/
theorem am_go_mono {R R' : am_Rn} (h : ∀ t av M rv M', R t av M rv M' → R' t av M rv M') (t : am_T) : ∀ (k : Nat) (c c' : am_C), am_go R t k c c' → am_go R' t k c c' := by
  intro k
  induction k with
  | zero => intro c c' hg; exact hg
  | succ k ih =>
    intro c c' hg
    obtain ⟨c1, h1, h2⟩ := hg
    refine ⟨c1, ?_, ih _ _ h2⟩
    rcases h1 with h1 | h1 | h1
    · exact Or.inl h1
    · exact Or.inr (Or.inl h1)
    · obtain ⟨i, k0, t', av, rest, rv, M', a1, a2, a3, a4, a5, a8, a6, a7⟩ := h1
      exact Or.inr (Or.inr ⟨i, k0, t', av, rest, rv, M', a1, a2, a3, a4, a5, a8, h _ _ _ _ _ a6, a7⟩)
theorem am_run_succ : ∀ (d : Nat) (t : am_T) (av : List Value) (M : am_M) (rv : Option Value) (M' : am_M), am_run d t av M rv M' → am_run (d + 1) t av M rv M' := by
  intro d
  induction d with
  | zero => intro t av M rv M' h; exact h.elim
  | succ d ih =>
    intro t av M rv M' h
    obtain ⟨h0, k, c, h1, h2, h3⟩ := h
    exact ⟨h0, k, c, am_go_mono ih t k _ _ h1, h2, h3⟩
theorem am_run_le {d d' : Nat} (h : d ≤ d') {t : am_T} {av : List Value} {M : am_M} {rv : Option Value} {M' : am_M} (hr : am_run d t av M rv M') : am_run d' t av M rv M' := by
  induction h with
  | refl => exact hr
  | step _ ih => exact am_run_succ _ _ _ _ _ _ ih
theorem am_go_le {d d' : Nat} (h : d ≤ d') {t : am_T} {k : Nat} {c c' : am_C} (hg : am_go (am_run d) t k c c') : am_go (am_run d') t k c c' := am_go_mono (fun _ _ _ _ _ => am_run_le h) t k c c' hg
def am_steps (t : am_T) : Nat → am_C → Option am_C
  | 0, c => some c
  | n + 1, c => match am_step t c with
    | some c' => am_steps t n c'
    | none => none
theorem am_x1 {t : am_T} {c c1 : am_C} {Q : Option Value → am_M → Prop} (h : am_step t c = some c1) (k : am_x t c1 Q) : am_x t c Q := by
  obtain ⟨d, n, c', rv, h1, h2, h3⟩ := k
  exact ⟨d, n + 1, c', rv, ⟨c1, Or.inl h, h1⟩, h2, h3⟩
theorem am_xn (n : Nat) {t : am_T} {c c1 : am_C} {Q : Option Value → am_M → Prop} (h : am_steps t n c = some c1) (k : am_x t c1 Q) : am_x t c Q := by
  induction n generalizing c with
  | zero => cases h; exact k
  | succ n ih =>
    unfold am_steps at h
    cases hs : am_step t c with
    | none => rw [hs] at h; cases h
    | some c2 => rw [hs] at h; exact am_x1 hs (ih h)
theorem am_xcp {t : am_T} {c c1 : am_C} {Q : Option Value → am_M → Prop} (h : am_oth t c c1) (k : am_x t c1 Q) : am_x t c Q := by
  obtain ⟨d, n, c', rv, h1, h2, h3⟩ := k
  exact ⟨d, n + 1, c', rv, ⟨c1, Or.inr (Or.inl h), h1⟩, h2, h3⟩
theorem am_xc {t : am_T} {pc : Nat} {ls av rest st : List Value} {M M' : am_M} {rv : Option Value} {Q : Option Value → am_M → Prop} (t' : am_T) (i : Instr) (k : Nat) (h1 : am_as (am_cd t) pc = some (i, 3)) (h2 : am_iv i = some k) (h3 : am_ml (am_ow t) k = some t') (h4 : st = av.reverse ++ rest) (h5 : am_cw rest ≤ 8) (h8 : am_vi i = true → am_rv (am_ow t') av = true)
    (h6 : am_call t' av M rv M') (kk : am_x t (pc + 3, ls, rv.toList ++ rest, M') Q) : am_x t (pc, ls, st, M) Q := by
  obtain ⟨d0, h6⟩ := h6
  obtain ⟨d, n, c', r2, g1, g2, g3⟩ := kk
  exact ⟨max d0 d, n + 1, c', r2, ⟨_, Or.inr (Or.inr ⟨i, k, t', av, rest, rv, M', h1, h2, h3, h4, h5, h8, am_run_le (Nat.le_max_left _ _) h6, rfl⟩), am_go_le (Nat.le_max_right _ _) g1⟩, g2, g3⟩
/-- a local is forgotten -/
theorem am_xf (i : Nat) {t : am_T} {pc : Nat} {ls st : List Value} {M : am_M} {Q : Option Value → am_M → Prop} (k : am_x t (pc, ls.set i .null, st, M) Q) : am_x t (pc, ls, st, M) Q := by
  refine am_xcp (c1 := (pc, ls.set i .null, st, M)) (Or.inr (Or.inr ⟨ls.set i .null, List.length_set .., fun j v h => ?_, rfl⟩)) k
  by_cases hj : i = j
  · subst hj
    have hl := (List.getElem?_eq_some_iff.mp h).1
    rw [List.length_set] at hl
    rw [List.getElem?_set_self hl] at h
    exact Or.inl (Option.some.inj h).symm
  · rw [List.getElem?_set_ne hj] at h
    exact Or.inr h
theorem am_xr {t : am_T} {c : am_C} {Q : Option Value → am_M → Prop} (rv : Option Value) (h : am_ret t c rv) (hq : Q rv c.2.2.2) : am_x t c Q := ⟨0, 0, c, rv, rfl, h, hq⟩
theorem am_call_of {t : am_T} {av : List Value} {M M' : am_M} {rv : Option Value} (h0 : (am_sl1 av).length ≤ am_mL t ∧ av.length = am_ar t) (h : am_x t (0, am_ent (am_mL t) av, [], M) (fun r m => r = rv ∧ m = M')) : am_call t av M rv M' := by
  obtain ⟨d, k, c', r, h1, h2, h3, h4⟩ := h
  subst h3
  exact ⟨d + 1, h0, k, c', h1, h2, h4⟩
theorem am_xif {t : am_T} {P : Prop} [Decidable P] {a b : Nat} {ls st : List Value} {M : am_M} {Q : Option Value → am_M → Prop} (ht : P → am_x t (a, ls, st, M) Q) (hf : ¬ P → am_x t (b, ls, st, M) Q) : am_x t (if P then a else b, ls, st, M) Q := by
  by_cases h : P
  · rw [if_pos h]; exact ht h
  · rw [if_neg h]; exact hf h
theorem am_xw {t : am_T} {c : am_C} {Q Q' : Option Value → am_M → Prop} (h : am_x t c Q) (hq : ∀ r m, Q r m → Q' r m) : am_x t c Q' := by
  obtain ⟨d, k, c', r, h1, h2, h3⟩ := h
  exact ⟨d, k, c', r, h1, h2, hq _ _ h3⟩
theorem am_lg_hl (x : Int64) : am_lg (am_hi x) (am_lw x) = x := by
  apply Int64.toInt_inj.mp
  have h1 := Int64.le_toInt x
  have h2 := Int64.toInt_lt x
  unfold am_lg am_hi am_lw
  rw [Int64.toInt_ofInt, Int32.toInt_ofInt, Int32.toInt_ofInt]
  have e1 : (x.toInt / 4294967296).bmod (2 ^ 32) = x.toInt / 4294967296 := Int.bmod_eq_of_le (by omega) (by omega)
  have e2 : (x.toInt % 4294967296).bmod (2 ^ 32) % 4294967296 = x.toInt % 4294967296 := by
    have := Int.bmod_emod (x := x.toInt % 4294967296) (m := 2 ^ 32)
    omega
  rw [show Int32.size = 2 ^ 32 from rfl, show Int64.size = 2 ^ 64 from rfl, e1, e2]
  have e3 : x.toInt / 4294967296 * 4294967296 + x.toInt % 4294967296 = x.toInt := by omega
  rw [e3]
  exact Int.bmod_eq_of_le (by omega) (by omega)
theorem am_up_self (M : am_M) (a k : Nat) (x : Int32) : am_up M a k x a k = x := by simp [am_up]
theorem am_up_ne (M : am_M) (a k : Nat) (x : Int32) {b j : Nat} (h : ¬ (b = a ∧ j = k)) : am_up M a k x b j = M b j := by
  unfold am_up
  by_cases hb : b = a
  · rw [if_pos hb, if_neg (fun q => h ⟨hb, q⟩)]
  · rw [if_neg hb]
end
section
/-! the abstract machine's steps are the machine's: pictures -/
theorem am_w38 : Cond.fieldLink "java/lang/String" 38 "java/lang/String" "COMPACT_STRINGS" "Z" ∈ am_tbl := am_mem (i := 587) (by decide +kernel) (by decide +kernel)
theorem am_w1053 : Cond.fieldLink "java/lang/String" 1053 "jdk/internal/util/Preconditions" "SIOOBE_FORMATTER" "Ljava/util/function/BiFunction;" ∈ am_tbl := am_mem (i := 603) (by decide +kernel) (by decide +kernel)
theorem am_w9 : Cond.fieldLink "java/lang/String" 9 "java/lang/String" "value" "[B" ∈ am_tbl := am_mem (i := 738) (by decide +kernel) (by decide +kernel)
theorem am_w15 : Cond.fieldLink "java/lang/String" 15 "java/lang/String" "coder" "B" ∈ am_tbl := am_mem (i := 739) (by decide +kernel) (by decide +kernel)
theorem am_wac1 : Cond.methodLink (am_cn 6) 25 arraycopyName ∈ am_tbl := am_mem (i := 274) (by decide +kernel) (by decide +kernel)
theorem am_wac2 : Cond.native arraycopyName ∈ am_tbl := am_mem (i := 276) (by decide +kernel) (by decide +kernel)
theorem am_wac3 : Cond.static arraycopyName ∈ am_tbl := am_mem (i := 275) (by decide +kernel) (by decide +kernel)
theorem am_wac4 : Cond.initialized "java/lang/System" ∈ am_tbl := am_mem (i := 40) (by decide +kernel) (by decide +kernel)
def am_tv (ad : Nat → Nat) (z : Value) (v : Value) : Value := match v with
  | .ref r => if r = 7000 then z else .ref (ad r)
  | v => v
def am_zok (z : Value) : Prop := z = .null ∨ ∃ t : Nat, z = .ref t
theorem am_tv_ref {ad : Nat → Nat} {z : Value} {r : Nat} (h : r ≠ 7000) : am_tv ad z (.ref r) = .ref (ad r) := if_neg h
theorem am_tv_cat {ad : Nat → Nat} {z : Value} (hz : am_zok z) (v : Value) : (am_tv ad z v).category = v.category := by
  cases v with
  | ref r =>
    unfold am_tv
    dsimp only
    by_cases h : r = 7000
    · rw [if_pos h]
      rcases hz with rfl | ⟨t, rfl⟩ <;> rfl
    · rw [if_neg h]; rfl
  | _ => rfl
theorem am_cw_tv {ad : Nat → Nat} {z : Value} (hz : am_zok z) (st : List Value) : am_cw (st.map (am_tv ad z)) = am_cw st := by
  unfold am_cw
  rw [List.map_map]
  congr 1
  apply List.map_congr_left
  intro v _
  exact am_tv_cat hz v
def am_fw (ad : Nat → Nat) (M : am_M) (a k : Nat) (f : Nat) : Value := match f with
  | 0 => .int (M a k)
  | 1 => .long (am_lg (M a k) (M a (k + 100)))
  | 2 => .int (M a k)
  | r + 3 => .ref (ad r)
/-- the longs of a row of words -/
def am_lf (r : Nat → Int32) : Nat → Int64 := fun j => if j < 16 then am_lg (r j) (r (j + 100)) else 0
theorem am_lf_up (M : am_M) {i : Nat} (x : Int64) (h : i < 16) : am_lf (am_up (am_up M 58 i (am_hi x)) 58 (i + 100) (am_lw x) 58) = vp_updL (am_lf (M 58)) i x := by
  funext j
  unfold am_lf vp_updL
  dsimp only
  by_cases hj : j = i
  · subst hj
    rw [if_pos h, if_pos rfl, am_up_ne _ _ _ _ (by omega), am_up_self, am_up_self, am_lg_hl]
  · rw [if_neg hj]
    by_cases h16 : j < 16
    · rw [if_pos h16, if_pos h16, am_up_ne _ _ _ _ (by omega), am_up_ne _ _ _ _ (by omega), am_up_ne _ _ _ _ (by omega), am_up_ne _ _ _ _ (by omega)]
    · rw [if_neg h16, if_neg h16]
theorem am_lf_at (r : Nat → Int32) {i : Nat} (h : i < 16) : am_lf r i = am_lg (r i) (r (i + 100)) := if_pos h
def am_ce (cI : ClassId × ClassId) (ad : Nat → Nat) (M : am_M) (k : Nat) (e : Nat ⊕ (Nat × List Nat)) : va_E := match e with
  | .inl n => bif Nat.beq k 58 then .inl (cI.2, n, .inr (.inl (am_lf (M k)))) else .inl (cI.1, n, .inl (M k))
  | .inr q => .inr (q.1, q.2.mapIdx fun j f => am_fw ad M k j f)
def am_wd (cI : ClassId × ClassId) (ad : Nat → Nat) (M : am_M) : va_W := am_LL.mapIdx fun k e => (ad k, am_ce cI ad M k e)
theorem am_wd_get (cI : ClassId × ClassId) (ad : Nat → Nat) (M : am_M) (k : Nat) : (am_wd cI ad M)[k]? = (am_LL[k]?).map fun e => (ad k, am_ce cI ad M k e) := by
  unfold am_wd
  rw [List.getElem?_mapIdx]
theorem am_ce_congr {cI : ClassId × ClassId} {ad : Nat → Nat} {M M' : am_M} {k : Nat} (h : M k = M' k) (e : Nat ⊕ (Nat × List Nat)) : am_ce cI ad M k e = am_ce cI ad M' k e := by
  cases e with
  | inl n => unfold am_ce; dsimp only; rw [h]
  | inr q => unfold am_ce am_fw; dsimp only; rw [h]
theorem am_wd_set {cI : ClassId × ClassId} {ad : Nat → Nat} {M M' : am_M} {a : Nat} {e : Nat ⊕ (Nat × List Nat)} (he : am_LL[a]? = some e) (h : ∀ b, b ≠ a → M' b = M b) {x : va_E} (hx : x = am_ce cI ad M' a e) : (am_wd cI ad M).set a (ad a, x) = am_wd cI ad M' := by
  subst hx
  apply List.ext_getElem?
  intro j
  rw [List.getElem?_set, am_wd_get, am_wd_get]
  by_cases hj : a = j
  · subst hj
    rw [if_pos rfl, he]
    have hl : a < (am_wd cI ad M).length := by
      have : (am_wd cI ad M)[a]? = some (ad a, am_ce cI ad M a e) := by rw [am_wd_get, he]; rfl
      exact (List.getElem?_eq_some_iff.mp this).1
    rw [if_pos hl]; rfl
  · rw [if_neg hj]
    cases am_LL[j]? with
    | none => rfl
    | some e2 =>
      show some (ad j, am_ce cI ad M j e2) = some (ad j, am_ce cI ad M' j e2)
      rw [am_ce_congr (h j (Ne.symm hj)).symm]
theorem am_up_off (M : am_M) (a k : Nat) (x : Int32) : ∀ b, b ≠ a → am_up M a k x b = M b := by
  intro b hb
  funext j
  exact am_up_ne M a k x (fun q => hb q.1)
theorem am_al_get {a n : Nat} (h : am_al a = some n) : am_LL[a]? = some (.inl n) := by
  unfold am_al at h
  split at h
  · rename_i n' e
    cases hb : Nat.beq a 58 with
    | true => rw [hb] at h; cases h
    | false => rw [hb] at h; cases h; exact e
  · cases h
theorem am_al_ne {a n : Nat} (h : am_al a = some n) : Nat.beq a 58 = false := by
  unfold am_al at h
  split at h
  · cases hb : Nat.beq a 58 with
    | true => rw [hb] at h; cases h
    | false => rfl
  · cases h
theorem am_ce_int {cI : ClassId × ClassId} {ad : Nat → Nat} {M : am_M} {a n : Nat} (h : am_al a = some n) (n1 : Nat) : am_ce cI ad M a (.inl n1) = .inl (cI.1, n1, .inl (M a)) := by
  unfold am_ce
  dsimp only
  rw [am_al_ne h]
  rfl
theorem am_ce_long {cI : ClassId × ClassId} {ad : Nat → Nat} {M : am_M} (n1 : Nat) : am_ce cI ad M 58 (.inl n1) = .inl (cI.2, n1, .inr (.inl (am_lf (M 58)))) := rfl
theorem am_wd_int {cI : ClassId × ClassId} {ad : Nat → Nat} {M : am_M} {a n : Nat} (h : am_al a = some n) : (am_wd cI ad M)[a]? = some (ad a, .inl (cI.1, n, .inl (M a))) := by
  rw [am_wd_get, am_al_get h]
  show some (ad a, am_ce cI ad M a (.inl n)) = _
  rw [am_ce_int h]
theorem am_LL58 : am_LL[58]? = some (.inl 16) := by decide +kernel
theorem am_wd_long {cI : ClassId × ClassId} {ad : Nat → Nat} {M : am_M} : (am_wd cI ad M)[58]? = some (ad 58, .inl (cI.2, 16, .inr (.inl (am_lf (M 58))))) := by
  rw [am_wd_get, am_LL58]
  rfl
theorem am_lt {a : Nat} {e : Nat ⊕ (Nat × List Nat)} (h : am_LL[a]? = some e) : a < 65 := by
  have h1 := (List.getElem?_eq_some_iff.mp h).1
  have h2 : am_LL.length = 65 := by decide +kernel
  omega
/-! locals -/
def am_asc (ad : Nat → Nat) (z : Value) (ls : List Value) : List (Nat × Value) := (List.range ls.length).filterMap fun i => match (ls[i]? : Option Value) with
  | some .null => none
  | some v => some (i, am_tv ad z v)
  | none => none
theorem am_asc_mem {ad : Nat → Nat} {z : Value} {ls : List Value} {q : Nat × Value} : q ∈ am_asc ad z ls ↔ ∃ v, ls[q.1]? = some v ∧ v ≠ .null ∧ q.2 = am_tv ad z v := by
  unfold am_asc
  rw [List.mem_filterMap]
  constructor
  · rintro ⟨i, hi, h⟩
    split at h
    · cases h
    · rename_i v hn hv
      cases h
      exact ⟨v, hv, fun q => hn (by rw [q]), rfl⟩
    · cases h
  · rintro ⟨v, h1, h2, h3⟩
    refine ⟨q.1, List.mem_range.mpr (List.getElem?_eq_some_iff.mp h1).1, ?_⟩
    rw [h1]
    cases v with
    | null => exact absurd rfl h2
    | _ => simp only [← h3]
def am_lv (ad : Nat → Nat) (z : Value) (ls : List Value) (LS : Array Slot) (n : Nat) : Prop := ls.length = n ∧ lv_has LS n (am_asc ad z ls)
theorem am_lv_ld {ad : Nat → Nat} {z : Value} {ls : List Value} {LS : Array Slot} {n k : Nat} {v : Value} (h : am_lv ad z ls LS n) (hk : am_ld ls k = some v) : LS[k]? = some (.val (am_tv ad z v)) := by
  have h1 : ls[k]? = some v ∧ v ≠ .null := by
    unfold am_ld at hk
    split at hk
    · cases hk
    · rename_i o hn
      refine ⟨hk, fun q => hn (by rw [hk, q])⟩
  exact h.2.2.2 (k, am_tv ad z v) (am_asc_mem.mpr ⟨v, h1.1, h1.2, rfl⟩)
theorem lv_mono {LS : Array Slot} {n : Nat} {l l' : List (Nat × Value)} (h : lv_has LS n l) (hs : ∀ q ∈ l', q ∈ l) : lv_has LS n l' := ⟨h.1, h.2.1, fun q hq => h.2.2 q (hs q hq)⟩
theorem am_nl_cat {ls : List Value} {k : Nat} (h : am_nl ls k = true) {j : Nat} (hj : j + 1 = k) {v : Value} (hv : ls[j]? = some v) : ¬ v.category = 2 := by
  subst hj
  unfold am_nl at h
  dsimp only at h
  rw [hv] at h
  cases v <;> simp_all [Value.category]
theorem am_lv_s1 {ad : Nat → Nat} {z : Value} {ls ls' : List Value} {LS : Array Slot} {n k : Nat} {v : Value} (hz : am_zok z) (h : am_lv ad z ls LS n) (hs : am_s1 ls k v = some ls') : k < n ∧ ∀ LS' : Array Slot, lv_has LS' n ((k, am_tv ad z v) :: (am_asc ad z ls).filter (fun q => !(q.1 == k) && !(q.1 + 1 == k && q.2.category == 2))) → am_lv ad z ls' LS' n := by
  unfold am_s1 at hs
  cases hc : (Nat.blt k ls.length && am_nl ls k) with
  | false => rw [hc] at hs; cases hs
  | true =>
    rw [hc] at hs
    cases hs
    rw [Bool.and_eq_true] at hc
    have hk : k < ls.length := by
      have := hc.1
      exact Nat.le_of_ble_eq_true this
    refine ⟨by rw [← h.1]; exact hk, fun LS' hl => ⟨by rw [List.length_set]; exact h.1, lv_mono hl ?_⟩⟩
    intro q hq
    obtain ⟨w, h1, h2, h3⟩ := am_asc_mem.mp hq
    by_cases hqk : k = q.1
    · rw [← hqk, List.getElem?_set_self hk] at h1
      cases h1
      rw [show q = (k, am_tv ad z v) from Prod.ext hqk.symm h3]
      exact List.mem_cons_self
    · rw [List.getElem?_set_ne hqk] at h1
      refine List.mem_cons_of_mem _ (List.mem_filter.mpr ⟨am_asc_mem.mpr ⟨w, h1, h2, h3⟩, ?_⟩)
      have e1 : (q.1 == k) = false := by simpa using Ne.symm hqk
      rw [e1]
      by_cases e2 : q.1 + 1 = k
      · have := am_nl_cat hc.2 e2 h1
        rw [← am_tv_cat (ad := ad) hz w, ← h3] at this
        simp [this]
      · simp [e2]
theorem am_lv_s2 {ad : Nat → Nat} {z : Value} {ls ls' : List Value} {LS : Array Slot} {n k : Nat} {v : Value} (hz : am_zok z) (h : am_lv ad z ls LS n) (hs : am_s2 ls k v = some ls') : k + 1 < n ∧ ∀ LS' : Array Slot, lv_has LS' n ((k, am_tv ad z v) :: (am_asc ad z ls).filter (fun q => !(q.1 == k) && (!(q.1 == k + 1) && !(q.1 + 1 == k && q.2.category == 2)))) → am_lv ad z ls' LS' n := by
  unfold am_s2 at hs
  cases hc : (Nat.blt (k + 1) ls.length && am_nl ls k) with
  | false => rw [hc] at hs; cases hs
  | true =>
    rw [hc] at hs
    cases hs
    rw [Bool.and_eq_true] at hc
    have hk : k + 1 < ls.length := by
      have := hc.1
      exact Nat.le_of_ble_eq_true this
    refine ⟨by rw [← h.1]; exact hk, fun LS' hl => ⟨by rw [List.length_set, List.length_set]; exact h.1, lv_mono hl ?_⟩⟩
    intro q hq
    obtain ⟨w, h1, h2, h3⟩ := am_asc_mem.mp hq
    by_cases hq1 : k + 1 = q.1
    · rw [← hq1, List.getElem?_set_self (by rw [List.length_set]; exact hk)] at h1
      cases h1
      exact absurd rfl h2
    · rw [List.getElem?_set_ne hq1] at h1
      by_cases hqk : k = q.1
      · rw [← hqk, List.getElem?_set_self (by omega)] at h1
        cases h1
        rw [show q = (k, am_tv ad z v) from Prod.ext hqk.symm h3]
        exact List.mem_cons_self
      · rw [List.getElem?_set_ne hqk] at h1
        refine List.mem_cons_of_mem _ (List.mem_filter.mpr ⟨am_asc_mem.mpr ⟨w, h1, h2, h3⟩, ?_⟩)
        have e1 : (q.1 == k) = false := by simpa using Ne.symm hqk
        have e3 : (q.1 == k + 1) = false := by simpa using Ne.symm hq1
        rw [e1, e3]
        by_cases e2 : q.1 + 1 = k
        · have := am_nl_cat hc.2 e2 h1
          rw [← am_tv_cat (ad := ad) hz w, ← h3] at this
          simp [this]
        · simp [e2]
theorem am_sl1_len (ad : Nat → Nat) {z : Value} (hz : am_zok z) (av : List Value) : (lg_sl (av.map (am_tv ad z))).length = (am_sl1 av).length := by
  unfold lg_sl am_sl1
  induction av with
  | nil => rfl
  | cons v av ih =>
    rw [List.map_cons, List.flatMap_cons, List.flatMap_cons, List.length_append, List.length_append, ih, am_tv_cat hz]
    by_cases h : v.category = 2
    · rw [if_pos h, if_pos h]; rfl
    · rw [if_neg h, if_neg h]; rfl
theorem am_sl1_args (ad : Nat → Nat) {z : Value} (hz : am_zok z) : ∀ (av : List Value) (off i : Nat) (v : Value), (am_sl1 av)[i]? = some v → v ≠ .null → (off + i, am_tv ad z v) ∈ lv_args off (av.map (am_tv ad z)) := by
  intro av
  induction av with
  | nil => intro off i v h; simp [am_sl1] at h
  | cons w av ih =>
    intro off i v h hn
    unfold am_sl1 at h
    rw [List.flatMap_cons] at h
    rw [List.map_cons]
    unfold lv_args
    rw [am_tv_cat hz]
    by_cases hw : w.category = 2
    · rw [if_pos hw] at h ⊢
      match i, h with
      | 0, h => cases h; exact List.mem_cons_self
      | 1, h => cases h; exact absurd rfl hn
      | i + 2, h =>
        have := ih (off + 2) i v h hn
        rw [show off + (i + 2) = off + 2 + i by omega]
        exact List.mem_cons_of_mem _ this
    · rw [if_neg hw] at h ⊢
      match i, h with
      | 0, h => cases h; exact List.mem_cons_self
      | i + 1, h =>
        have := ih (off + 1) i v h hn
        rw [show off + (i + 1) = off + 1 + i by omega]
        exact List.mem_cons_of_mem _ this
theorem am_lv_ent {ad : Nat → Nat} {z : Value} {n : Nat} {av : List Value} (hz : am_zok z) (hn : (am_sl1 av).length ≤ n) : am_lv ad z (am_ent n av) ((lg_sl (av.map (am_tv ad z)) ++ List.replicate (n - (lg_sl (av.map (am_tv ad z))).length) Slot.unset).toArray) n := by
  have h := lv_entry (av.map (am_tv ad z)) (n := n) (by rw [am_sl1_len ad hz]; exact hn)
  refine ⟨by unfold am_ent; rw [List.length_append, List.length_replicate]; omega, lv_mono h ?_⟩
  intro q hq
  obtain ⟨v, h1, h2, h3⟩ := am_asc_mem.mp hq
  unfold am_ent at h1
  by_cases hl : q.1 < (am_sl1 av).length
  · rw [List.getElem?_append_left hl] at h1
    have := am_sl1_args ad hz av 0 q.1 v h1 h2
    rw [Nat.zero_add, ← h3] at this
    exact this
  · rw [List.getElem?_append_right (by omega)] at h1
    rw [List.getElem?_replicate] at h1
    split at h1
    · cases h1; exact absurd rfl h2
    · cases h1
/-! what is never written -/
def am_Z (ad : Nat → Nat) (z : Value) (L : Nat) (xs : Nat → Int32) (A : Nat → Prop) (U : State) (H : Heap) : Prop :=
  (∀ i, i < 9 → va_O "java/lang/String" (ad (6000 + i)) A U H ∧ va_OF "java/lang/String" "coder" "B" (.int 0) (ad (6000 + i)) A U H ∧ va_OF "java/lang/String" "value" "[B" (.ref (ad (6100 + i))) (ad (6000 + i)) A U H ∧ va_T .byte (ad (6100 + i)) (am_sl.getD i 0) (fun j => .int ((am_sb.getD i []).getD j 0)) A U H) ∧
  va_Z "java/lang/String" "COMPACT_STRINGS" "Z" (.int 1) A U H ∧ va_Z "jdk/internal/util/Preconditions" "SIOOBE_FORMATTER" "Ljava/util/function/BiFunction;" z A U H ∧ am_zok z ∧
  (∀ k j, am_as am_ks5 k = some j → ∃ tx, vk_R "StatuteBook$Reader" k tx (ad (6000 + j)) U) ∧ va_X (ad 5000) L xs U H ∧ ad 5000 < H.size ∧ ¬ A (ad 5000) ∧ L < 2 ^ 31 ∧ ∀ (p : Nat) (a : String) (i : Nat) (b n d h : String), lw_tbl[p]? = some (.fieldLinkNest a i b n d h) → va_Nw (.fieldLinkNest a i b n d h) U
theorem am_Z.kept {ad : Nat → Nat} {z : Value} {L : Nat} {xs : Nat → Int32} {A : Nat → Prop} {U : State} {H H1 : Heap} (h : am_Z ad z L xs A U H) (hz : H.size ≤ H1.size) (hq : ∀ a : Nat, a < H.size → ¬ A a → H1[a]? = H[a]?) : am_Z ad z L xs A U H1 := by
  obtain ⟨h1, h2, h3, h4, h5, h6, h7, h8, h9, h10⟩ := h
  exact ⟨fun i hi => ⟨(h1 i hi).1.kept hq, (h1 i hi).2.1.kept hq, (h1 i hi).2.2.1.kept hq, (h1 i hi).2.2.2.kept hq⟩, h2.kept hq, h3.kept hq, h4, h5, h6.kept (hq _ h7 h8), Nat.lt_of_lt_of_le h7 hz, h8, h9, h10⟩
theorem am_Z.narrow {ad : Nat → Nat} {z : Value} {L : Nat} {xs : Nat → Int32} {A B : Nat → Prop} {U : State} {H : Heap} (h : am_Z ad z L xs A U H) (hAB : ∀ q, B q → A q) : am_Z ad z L xs B U H := by
  obtain ⟨h1, h2, h3, h4, h5, h6, h7, h8, h9, h10⟩ := h
  exact ⟨fun i hi => ⟨(h1 i hi).1.narrow hAB, (h1 i hi).2.1.narrow hAB, (h1 i hi).2.2.1.narrow hAB, (h1 i hi).2.2.2.narrow hAB⟩, h2.narrow hAB, h3.narrow hAB, h4, h5, h6, h7, fun q => h8 (hAB _ q), h9, h10⟩
theorem am_Z.warm {ad : Nat → Nat} {z : Value} {L : Nat} {xs : Nat → Int32} {A : Nat → Prop} {s U : State} {H : Heap} (hW : s.WarmedH U.vm) (h : am_Z ad z L xs A s H) : am_Z ad z L xs A U H := by
  obtain ⟨h1, h2, h3, h4, h5, h6, h7, h8, h9, h10⟩ := h
  have hv := hW.alike
  exact ⟨fun i hi => ⟨va_O.moved hv (h1 i hi).1, va_OF.moved hv (h1 i hi).2.1, va_OF.moved hv (h1 i hi).2.2.1, va_T.moved hv (h1 i hi).2.2.2⟩, va_Z.moved hv h2, va_Z.moved hv h3, h4, fun k j hk => by obtain ⟨tx, hr⟩ := h5 k j hk; exact ⟨tx, hr.warm hW⟩, va_X.moved hv h6, h7, h8, h9, fun p a i b n d h q => va_Nw.warmF hW (h10 p a i b n d h q)⟩
theorem am_Z.same {ad : Nat → Nat} {z : Value} {L : Nat} {xs : Nat → Int32} {A : Nat → Prop} {u U : State} {H : Heap} (hv : U.vm = u.vm) (h : am_Z ad z L xs A u H) : am_Z ad z L xs A U H := by
  obtain ⟨h1, h2, h3, h4, h5, h6, h7, h8, h9, h10⟩ := h
  have ha : u.vm.Alike U.vm := by rw [hv]; exact Vm.Alike.refl u.vm
  exact ⟨fun i hi => ⟨va_O.moved ha (h1 i hi).1, va_OF.moved ha (h1 i hi).2.1, va_OF.moved ha (h1 i hi).2.2.1, va_T.moved ha (h1 i hi).2.2.2⟩, va_Z.moved ha h2, va_Z.moved ha h3, h4, fun k j hk => by obtain ⟨tx, hr⟩ := h5 k j hk; exact ⟨tx, vk_R.same hv hr⟩, va_X.moved ha h6, h7, h8, h9, fun p a i b n d h q => va_Nw.same rfl hv.symm (h10 p a i b n d h q)⟩
/-- what is known within a method -/
def am_E (p : Program) (s : State) (m : MethodId) (args : Array Value) (c : Code) (t : am_T) (D : va_G) (cI : ClassId × ClassId) (ad : Nat → Nat) (z : Value) (A : Nat → Prop) (L : Nat) (xs : Nat → Int32) : Prop :=
  p.tables.exec = Jvm.exec ∧ c.code = am_by t ∧ c.maxLocals = am_mL t ∧ s.vm.findClass (am_cn (am_ow t)) = some m.cls ∧ (∀ w ∈ am_tbl, w.before args s = true) ∧ va_K D am_cl [(cI.1, .int), (cI.2, .long)] s ∧ am_Z ad z L xs A s s.heap ∧ ∀ q, s.heap.size ≤ q → A q
/-- the picture of a state: cells, what is written, locals, the script -/
def am_R (D : va_G) (cI : ClassId × ClassId) (ad : Nat → Nat) (z : Value) (A : Nat → Prop) (L : Nat) (xs : Nat → Int32) (s : State) (n : Nat) (H : Heap) (locs : List Loc) (LS : Array Slot) (ls : List Value) (M : am_M) : Prop :=
  va_P D am_cl (am_wd cI ad M) H ∧ va_D A (am_wd cI ad M) ∧ va_S A s.heap H locs ∧ am_lv ad z ls LS n ∧ (∀ j, j < L → M 5000 j = xs j) ∧ M 5001 0 = Int32.ofNat L
end
section
/-! the abstract machine's steps are the machine's: an instruction at a time -/
theorem am_tgo_eq {pc tg : Nat} {off : Int} (h : am_tgo pc off = some tg) : (pc : Int) + off = (tg : Int) := by
  unfold am_tgo at h
  split at h
  · cases h; omega
  · cases h
theorem am_i32_nlt {x y : Int32} : (¬ x < y) ↔ y ≤ x := Int32.not_lt
theorem am_as_ks {k j : Nat} (h : am_as am_ks5 k = some j) : j < 9 := by
  have h1 := am_as_mem h
  have h2 : ∀ q ∈ am_ks5, q.2 < 9 := by decide +kernel
  exact h2 _ h1
theorem am_fl_spec {ow k ci j : Nat} (h : am_fl ow k = some (ci, j)) : ∃ (r : vw_C) (nest pw : Nat), am_cl[ci]? = some r ∧ j < r.2.2 ∧ (nest = 0 → Cond.fieldLink (am_cn ow) k (r.2.1 j).1 (r.2.1 j).2.1 (r.2.1 j).2.2.1 ∈ am_tbl) ∧ (nest ≠ 0 → lw_tbl[pw]? = some (Cond.fieldLinkNest (am_cn ow) k (r.2.1 j).1 (r.2.1 j).2.1 (r.2.1 j).2.2.1 "StatuteBook")) := by
  unfold am_fl at h
  split at h
  · rename_i q hq
    cases h
    have hw := (List.all_eq_true.mp (am_f_all ow)) _ (am_as_mem hq)
    unfold am_fok at hw
    split at hw
    · rename_i r hr
      rw [Bool.and_eq_true] at hw
      have h1 : q.2.1 < r.2.2 := Nat.le_of_ble_eq_true hw.1
      have h2 := of_decide_eq_true hw.2
      refine ⟨r, q.2.2.1, q.2.2.2, hr, h1, fun h0 => ?_, fun h0 => ?_⟩
      · rw [h0] at h2
        exact am_mem h2 rfl
      · have : Nat.beq q.2.2.1 0 = false := by
          cases hb : Nat.beq q.2.2.1 0 with
          | false => rfl
          | true => exact absurd (Nat.eq_of_beq_eq_true hb) h0
        rw [this] at h2
        exact h2
    · cases hw
  · cases h
theorem am_LL_at {a ci : Nat} {fs : List Nat} (h : am_LL[a]? = some (.inr (ci, fs))) : ∃ r, am_cl[ci]? = some r ∧ fs.length = r.2.2 ∧ fs.length < 50 ∧ ∀ k f, fs[k]? = some f → am_fdok r k f = true ∧ f ≠ 7003 := by
  have h0 := am_LL_ok
  unfold am_LLok at h0
  have h1 := (List.all_eq_true.mp h0) _ (List.mem_of_getElem? h)
  dsimp only at h1
  split at h1
  · rename_i r hr
    rw [Bool.and_eq_true, Bool.and_eq_true] at h1
    have hlen := Nat.eq_of_beq_eq_true h1.1.1
    refine ⟨r, hr, hlen, Nat.le_of_ble_eq_true h1.1.2, fun k f hf => ?_⟩
    have hk : k < fs.length := (List.getElem?_eq_some_iff.mp hf).1
    have h2 := (List.all_eq_true.mp h1.2) k (List.mem_range.mpr hk)
    rw [hf] at h2
    dsimp only at h2
    rw [Bool.and_eq_true] at h2
    refine ⟨h2.1, fun q => ?_⟩
    subst q
    exact absurd h2.2 (by decide)
  · cases h1
theorem am_fld {a ci : Nat} {fs : List Nat} {j f : Nat} (h : am_LL[a]? = some (.inr (ci, fs))) (hf : fs[j]? = some f) : f ≠ 7003 := by
  obtain ⟨r, -, -, -, h4⟩ := am_LL_at h
  exact (h4 j f hf).2
theorem am_fw_tv {ad : Nat → Nat} {z : Value} {M : am_M} {a j f : Nat} (h : f ≠ 7003) : am_fw ad M a j f = am_tv ad z (am_fv M a j f) := by
  match f, h with
  | 0, _ => rfl
  | 1, _ => rfl
  | 2, _ => rfl
  | r + 3, h => exact (am_tv_ref (by omega)).symm
theorem am_fld2 {a ci : Nat} {fs : List Nat} {j f : Nat} {Cn : String} {T : u_T} {N : Nat} (h : am_LL[a]? = some (.inr (ci, fs))) (hf : fs[j]? = some f) (hcl : am_cl[ci]? = some (Cn, T, N)) : match f with
    | 0 => (T j).2.2.1 = "I" ∧ (T j).2.2.2 = false
    | 1 => (T j).2.2.1 = "J" ∧ (T j).2.2.2 = false
    | 2 => (T j).2.2.1 = "Z" ∧ (T j).2.2.2 = false
    | _ => True := by
  obtain ⟨r, h1, -, -, h4⟩ := am_LL_at h
  rw [hcl] at h1
  cases h1
  have h5 := (h4 j f hf).1
  match f, h5 with
  | 0, h5 => simpa [am_fdok] using h5
  | 1, h5 => simpa [am_fdok] using h5
  | 2, h5 => simpa [am_fdok] using h5
  | r + 3, h5 => trivial
theorem am_short {a ci : Nat} {fs : List Nat} {j f : Nat} (h : am_LL[a]? = some (.inr (ci, fs))) (hf : fs[j]? = some f) : j < 50 := by
  obtain ⟨r, -, -, h3, -⟩ := am_LL_at h
  have := (List.getElem?_eq_some_iff.mp hf).1
  omega
theorem am_kinds {a ci : Nat} {fs : List Nat} {j f : Nat} (h : am_LL[a]? = some (.inr (ci, fs))) (hf : fs[j]? = some f) : j < 50 := am_short h hf
theorem am_fw_up {ad : Nat → Nat} {M : am_M} {a i j f : Nat} {x : Int32} (hi : i ≠ j) (hs : i < 50) (_ : True = True) (hj : j < 50 := by assumption) : am_fw ad (am_up M a j x) a i f = am_fw ad M a i f := by
  match f with
  | 0 => show Value.int _ = Value.int _; rw [am_up_ne _ _ _ _ (by omega)]
  | 1 => show Value.long _ = Value.long _; rw [am_up_ne _ _ _ _ (by omega), am_up_ne _ _ _ _ (by omega)]
  | 2 => show Value.int _ = Value.int _; rw [am_up_ne _ _ _ _ (by omega)]
  | r + 3 => rfl
theorem am_fw_up2 {ad : Nat → Nat} {M : am_M} {a i j f : Nat} {x y : Int32} (hi : i ≠ j) (hs : i < 50) (hj : j < 50) : am_fw ad (am_up (am_up M a j x) a (j + 100) y) a i f = am_fw ad M a i f := by
  match f with
  | 0 => show Value.int _ = Value.int _; rw [am_up_ne _ _ _ _ (by omega), am_up_ne _ _ _ _ (by omega)]
  | 1 => show Value.long _ = Value.long _; rw [am_up_ne _ _ _ _ (by omega), am_up_ne _ _ _ _ (by omega), am_up_ne _ _ _ _ (by omega), am_up_ne _ _ _ _ (by omega)]
  | 2 => show Value.int _ = Value.int _; rw [am_up_ne _ _ _ _ (by omega), am_up_ne _ _ _ _ (by omega)]
  | r + 3 => rfl
theorem am_set_fw {ad : Nat → Nat} {M M' : am_M} {a j f0 : Nat} {fs : List Nat} {v : Value} (hf : fs[j]? = some f0) (hv : v = am_fw ad M' a j f0) (ho : ∀ i f, i ≠ j → fs[i]? = some f → am_fw ad M' a i f = am_fw ad M a i f) : (fs.mapIdx fun j f => am_fw ad M a j f).set j v = fs.mapIdx fun j f => am_fw ad M' a j f := by
  have hl : j < fs.length := (List.getElem?_eq_some_iff.mp hf).1
  apply List.ext_getElem?
  intro i
  rw [List.getElem?_set, List.getElem?_mapIdx, List.getElem?_mapIdx]
  by_cases hi : j = i
  · subst hi
    rw [if_pos rfl, if_pos (by rw [List.length_mapIdx]; exact hl), hf, hv]
    rfl
  · rw [if_neg hi]
    cases h9 : fs[i]? with
    | none => rfl
    | some f =>
      show some (am_fw ad M a i f) = some (am_fw ad M' a i f)
      rw [ho i f (Ne.symm hi) h9]
section AMW
variable {p : Program} {l : Launch} {e : Env} {R : Room} {s : State} {m : MethodId} {args : Array Value} {below : List Frame} {meth : Method} {c : Code} {cells slots : Nat} {Q : State → Prop}
variable {t : am_T} {D : va_G} {cI : ClassId × ClassId} {ad : Nat → Nat} {z : Value} {A : Nat → Prop} {L : Nat} {xs : Nat → Int32}
set_option maxHeartbeats 40000000 in
theorem am_ex_W (E : am_E p s m args c t D cI ad z A L xs) {i : Instr} {n pc : Nat} {ls st ls' st' : List Value} {M M' : am_M} {pc' : Nat}
    (hd : decode (am_by t) pc = .ok (i, n)) (hn : am_lnok i n = true) (hps : am_psok i = true) (h : am_ex (am_ow t) i n pc ls st M = some (pc', ls', st', M'))
    {H : Heap} {locs : List Loc} {LS : Array Slot} (hR : am_R D cI ad z A L xs s (am_mL t) H locs LS ls M)
    (kk : ∀ (H' : Heap) (locs' : List Loc) (LS' : Array Slot), am_R D cI ad z A L xs s (am_mL t) H' locs' LS' ls' M' → W p l e R s m args below meth c H' locs' cells slots Q (F0 m pc' LS' (st'.map (am_tv ad z)))) :
    W p l e R s m args below meth c H locs cells slots Q (F0 m pc LS (st.map (am_tv ad z))) := by
  obtain ⟨hx, hb, hml, hown, hts, hK, hZ, hA⟩ := E
  have hz := hZ.2.2.2.1
  cases i
  case iconst v =>
    have hn : n = 1 := Nat.eq_of_beq_eq_true hn
    subst hn
    dsimp only [am_ex] at h
    cases h
    exact lv_iconst hx hb hd rfl (kk _ _ _ hR)
  case bipush v =>
    have hn : n = 2 := Nat.eq_of_beq_eq_true hn
    subst hn
    dsimp only [am_ex] at h
    cases h
    exact lv_bipush hx hb hd rfl (kk _ _ _ hR)
  case sipush v =>
    have hn : n = 3 := Nat.eq_of_beq_eq_true hn
    subst hn
    dsimp only [am_ex] at h
    cases h
    exact lv_sipush hx hb hd rfl (kk _ _ _ hR)
  case lconst v =>
    have hn : n = 1 := Nat.eq_of_beq_eq_true hn
    subst hn
    dsimp only [am_ex] at h
    cases h
    exact lv_lconst hx hb hd rfl (kk _ _ _ hR)
  case ldc k =>
    have hn : n = 2 := Nat.eq_of_beq_eq_true hn
    subst hn
    dsimp only [am_ex] at h
    split at h
    · rename_i q hq
      cases h
      have hw := (List.all_eq_true.mp (am_ki_all (am_ow t))) _ (am_as_mem hq)
      exact lv_ldc hx hb hown (hts _ (am_mem (of_decide_eq_true hw) rfl)) hd (kk _ _ _ hR)
    · cases ho : Nat.beq (am_ow t) 5 with
      | false => rw [ho] at h; cases h
      | true =>
        rw [ho] at h
        dsimp only [cond_true] at h
        split at h
        · rename_i j hj
          cases h
          obtain ⟨tx, hr⟩ := hZ.2.2.2.2.1 k j hj
          have hj9 := am_as_ks hj
          have ho := Nat.eq_of_beq_eq_true ho
          rw [ho] at hown
          refine va_ldcS hx hb hown hr hd ?_
          have := kk _ _ _ hR
          rw [List.map_cons, am_tv_ref (by omega)] at this
          exact this
        · cases h
  case ldc_w k =>
    have hn : n = 3 := Nat.eq_of_beq_eq_true hn
    subst hn
    dsimp only [am_ex] at h
    split at h
    · rename_i q hq
      cases h
      have hw := (List.all_eq_true.mp (am_ki_all (am_ow t))) _ (am_as_mem hq)
      exact lv_ldcw hx hb hown (hts _ (am_mem (of_decide_eq_true hw) rfl)) hd (kk _ _ _ hR)
    · cases h
  case ldc2_w k =>
    have hn : n = 3 := Nat.eq_of_beq_eq_true hn
    subst hn
    dsimp only [am_ex] at h
    split at h
    · rename_i q hq
      cases h
      have hw := (List.all_eq_true.mp (am_kl_all (am_ow t))) _ (am_as_mem hq)
      exact lv_ldc2 hx hb hown (hts _ (am_mem (of_decide_eq_true hw) rfl)) hd (kk _ _ _ hR)
    · cases h
  case iload k =>
    have hn : n = 2 := Nat.eq_of_beq_eq_true hn
    subst hn
    dsimp only [am_ex] at h
    split at h
    · rename_i x hx0
      cases h
      exact lv_iload hx hb hd (am_lv_ld hR.2.2.2.1 hx0) (kk _ _ _ hR)
    · cases h
  case iload_n k =>
    have hn : n = 1 := Nat.eq_of_beq_eq_true hn
    subst hn
    dsimp only [am_ex] at h
    split at h
    · rename_i x hx0
      cases h
      exact lv_iload_n hx hb hd rfl (am_lv_ld hR.2.2.2.1 hx0) (kk _ _ _ hR)
    · cases h
  case lload k =>
    have hn : n = 2 := Nat.eq_of_beq_eq_true hn
    subst hn
    dsimp only [am_ex] at h
    split at h
    · rename_i x hx0
      cases h
      exact lv_lload hx hb hd (am_lv_ld hR.2.2.2.1 hx0) (kk _ _ _ hR)
    · cases h
  case lload_n k =>
    have hn : n = 1 := Nat.eq_of_beq_eq_true hn
    subst hn
    dsimp only [am_ex] at h
    split at h
    · rename_i x hx0
      cases h
      exact lv_lload_n hx hb hd rfl (am_lv_ld hR.2.2.2.1 hx0) (kk _ _ _ hR)
    · cases h
  case aload k =>
    have hn : n = 2 := Nat.eq_of_beq_eq_true hn
    subst hn
    dsimp only [am_ex] at h
    split at h
    · rename_i x hx0
      cases h7 : Nat.beq x 7000 with
      | true => rw [h7] at h; cases h
      | false =>
        rw [h7] at h
        cases h
        have h7 : x ≠ 7000 := Nat.ne_of_beq_eq_false h7
        have hl := am_lv_ld hR.2.2.2.1 hx0
        rw [am_tv_ref h7] at hl
        refine lv_aload hx hb hd hl ?_
        have := kk _ _ _ hR
        rw [List.map_cons, am_tv_ref h7] at this
        exact this
    · cases h
  case aload_n k =>
    have hn : n = 1 := Nat.eq_of_beq_eq_true hn
    subst hn
    dsimp only [am_ex] at h
    split at h
    · rename_i x hx0
      cases h7 : Nat.beq x 7000 with
      | true => rw [h7] at h; cases h
      | false =>
        rw [h7] at h
        cases h
        have h7 : x ≠ 7000 := Nat.ne_of_beq_eq_false h7
        have hl := am_lv_ld hR.2.2.2.1 hx0
        rw [am_tv_ref h7] at hl
        refine lv_aload_n hx hb hd rfl hl ?_
        have := kk _ _ _ hR
        rw [List.map_cons, am_tv_ref h7] at this
        exact this
    · cases h
  case istore k =>
    have hn : n = 2 := Nat.eq_of_beq_eq_true hn
    subst hn
    dsimp only [am_ex] at h
    split at h
    · rename_i x st0
      cases hs : am_s1 ls k (.int x) with
      | none => rw [hs] at h; cases h
      | some l1 =>
        rw [hs] at h
        cases h
        obtain ⟨h1, h2⟩ := am_lv_s1 hz hR.2.2.2.1 hs
        exact lv_istore hx hb hd hR.2.2.2.1.2 h1 rfl (fun LS' hl => kk _ _ _ ⟨hR.1, hR.2.1, hR.2.2.1, h2 LS' hl, hR.2.2.2.2⟩)
    · cases h
  case istore_n k =>
    have hn : n = 1 := Nat.eq_of_beq_eq_true hn
    subst hn
    dsimp only [am_ex] at h
    split at h
    · rename_i x st0
      cases hs : am_s1 ls k.val (.int x) with
      | none => rw [hs] at h; cases h
      | some l1 =>
        rw [hs] at h
        cases h
        obtain ⟨h1, h2⟩ := am_lv_s1 hz hR.2.2.2.1 hs
        exact lv_istore_n hx hb hd rfl hR.2.2.2.1.2 h1 rfl (fun LS' hl => kk _ _ _ ⟨hR.1, hR.2.1, hR.2.2.1, h2 LS' hl, hR.2.2.2.2⟩)
    · cases h
  case lstore k =>
    have hn : n = 2 := Nat.eq_of_beq_eq_true hn
    subst hn
    dsimp only [am_ex] at h
    split at h
    · rename_i x st0
      cases hs : am_s2 ls k (.long x) with
      | none => rw [hs] at h; cases h
      | some l1 =>
        rw [hs] at h
        cases h
        obtain ⟨h1, h2⟩ := am_lv_s2 hz hR.2.2.2.1 hs
        exact lv_lstore hx hb hd hR.2.2.2.1.2 h1 rfl (fun LS' hl => kk _ _ _ ⟨hR.1, hR.2.1, hR.2.2.1, h2 LS' hl, hR.2.2.2.2⟩)
    · cases h
  case lstore_n k =>
    have hn : n = 1 := Nat.eq_of_beq_eq_true hn
    subst hn
    dsimp only [am_ex] at h
    split at h
    · rename_i x st0
      cases hs : am_s2 ls k.val (.long x) with
      | none => rw [hs] at h; cases h
      | some l1 =>
        rw [hs] at h
        cases h
        obtain ⟨h1, h2⟩ := am_lv_s2 hz hR.2.2.2.1 hs
        exact lv_lstore_n hx hb hd rfl hR.2.2.2.1.2 h1 rfl (fun LS' hl => kk _ _ _ ⟨hR.1, hR.2.1, hR.2.2.1, h2 LS' hl, hR.2.2.2.2⟩)
    · cases h
  case iinc k v =>
    have hn : n = 3 := Nat.eq_of_beq_eq_true hn
    subst hn
    dsimp only [am_ex] at h
    split at h
    · rename_i x hx0
      cases hs : am_s1 ls k (.int (x + Int32.ofInt v)) with
      | none => rw [hs] at h; cases h
      | some l1 =>
        rw [hs] at h
        cases h
        obtain ⟨h1, h2⟩ := am_lv_s1 hz hR.2.2.2.1 hs
        have hm : (k, Value.int x) ∈ am_asc ad z ls := by
          unfold am_ld at hx0
          split at hx0
          · cases hx0
          · exact am_asc_mem.mpr ⟨.int x, hx0, (fun q => by cases q), rfl⟩
        obtain ⟨j, hj⟩ := List.getElem?_of_mem hm
        exact lv_iinc hx hb hd hR.2.2.2.1.2 hj rfl h1 rfl (fun LS' hl => kk _ _ _ ⟨hR.1, hR.2.1, hR.2.2.1, h2 LS' hl, hR.2.2.2.2⟩)
    · cases h
  case iadd =>
    have hn : n = 1 := Nat.eq_of_beq_eq_true hn
    subst hn
    dsimp only [am_ex] at h
    split at h
    · cases h
      exact lv_iadd hx hb hd (kk _ _ _ hR)
    · cases h
  case isub =>
    have hn : n = 1 := Nat.eq_of_beq_eq_true hn
    subst hn
    dsimp only [am_ex] at h
    split at h
    · cases h
      exact lv_isub hx hb hd (kk _ _ _ hR)
    · cases h
  case imul =>
    have hn : n = 1 := Nat.eq_of_beq_eq_true hn
    subst hn
    dsimp only [am_ex] at h
    split at h
    · cases h
      exact lv_imul hx hb hd (kk _ _ _ hR)
    · cases h
  case iand =>
    have hn : n = 1 := Nat.eq_of_beq_eq_true hn
    subst hn
    dsimp only [am_ex] at h
    split at h
    · cases h
      exact lv_iand hx hb hd (kk _ _ _ hR)
    · cases h
  case ior =>
    have hn : n = 1 := Nat.eq_of_beq_eq_true hn
    subst hn
    dsimp only [am_ex] at h
    split at h
    · cases h
      exact lv_ior hx hb hd (kk _ _ _ hR)
    · cases h
  case ixor =>
    have hn : n = 1 := Nat.eq_of_beq_eq_true hn
    subst hn
    dsimp only [am_ex] at h
    split at h
    · cases h
      exact lv_ixor hx hb hd (kk _ _ _ hR)
    · cases h
  case ishl =>
    have hn : n = 1 := Nat.eq_of_beq_eq_true hn
    subst hn
    dsimp only [am_ex] at h
    split at h
    · cases h
      exact lv_ishl hx hb hd (kk _ _ _ hR)
    · cases h
  case ishr =>
    have hn : n = 1 := Nat.eq_of_beq_eq_true hn
    subst hn
    dsimp only [am_ex] at h
    split at h
    · cases h
      exact lv_ishr hx hb hd (kk _ _ _ hR)
    · cases h
  case iushr =>
    have hn : n = 1 := Nat.eq_of_beq_eq_true hn
    subst hn
    dsimp only [am_ex] at h
    split at h
    · cases h
      exact lv_iushr hx hb hd rfl (kk _ _ _ hR)
    · cases h
  case ladd =>
    have hn : n = 1 := Nat.eq_of_beq_eq_true hn
    subst hn
    dsimp only [am_ex] at h
    split at h
    · cases h
      exact lv_ladd hx hb hd (kk _ _ _ hR)
    · cases h
  case lsub =>
    have hn : n = 1 := Nat.eq_of_beq_eq_true hn
    subst hn
    dsimp only [am_ex] at h
    split at h
    · cases h
      exact lv_lsub hx hb hd (kk _ _ _ hR)
    · cases h
  case lmul =>
    have hn : n = 1 := Nat.eq_of_beq_eq_true hn
    subst hn
    dsimp only [am_ex] at h
    split at h
    · cases h
      exact lv_lmul hx hb hd (kk _ _ _ hR)
    · cases h
  case lcmp =>
    have hn : n = 1 := Nat.eq_of_beq_eq_true hn
    subst hn
    dsimp only [am_ex] at h
    split at h
    · cases h
      exact W.lcmp hx hb hd (kk _ _ _ hR)
    · cases h
  case i2l =>
    have hn : n = 1 := Nat.eq_of_beq_eq_true hn
    subst hn
    dsimp only [am_ex] at h
    split at h
    · cases h
      exact lv_i2l hx hb hd rfl (kk _ _ _ hR)
    · cases h
  case i2c =>
    have hn : n = 1 := Nat.eq_of_beq_eq_true hn
    subst hn
    dsimp only [am_ex] at h
    split at h
    · cases h
      exact lv_i2c hx hb hd rfl (kk _ _ _ hR)
    · cases h
  case dup2 =>
    have hn : n = 1 := Nat.eq_of_beq_eq_true hn
    subst hn
    dsimp only [am_ex] at h
    split at h
    · cases h
      exact lv_dup2_11 hx hb hd rfl (am_tv_cat hz (.ref _)) (kk _ _ _ hR)
    · cases h
  case pop =>
    have hn : n = 1 := Nat.eq_of_beq_eq_true hn
    subst hn
    dsimp only [am_ex] at h
    split at h
    · cases h
      exact lv_pop hx hb hd rfl (kk _ _ _ hR)
    · cases h
  case dup =>
    have hn : n = 1 := Nat.eq_of_beq_eq_true hn
    subst hn
    dsimp only [am_ex] at h
    split at h
    · cases h
      exact lv_dup hx hb hd rfl (kk _ _ _ hR)
    · cases h
      exact lv_dup hx hb hd (am_tv_cat hz (.ref _)) (kk _ _ _ hR)
    · cases h
  case idiv =>
    have hn : n = 1 := Nat.eq_of_beq_eq_true hn
    subst hn
    dsimp only [am_ex] at h
    split at h
    · rename_i y x st0
      by_cases hy : y = 0
      · rw [if_pos hy] at h; cases h
      · rw [if_neg hy] at h
        cases h
        exact lv_idiv hx hb hd hy (kk _ _ _ hR)
    · cases h
  case irem =>
    have hn : n = 1 := Nat.eq_of_beq_eq_true hn
    subst hn
    dsimp only [am_ex] at h
    split at h
    · rename_i y x st0
      by_cases hy : y = 0
      · rw [if_pos hy] at h; cases h
      · rw [if_neg hy] at h
        cases h
        exact lv_irem hx hb hd hy (kk _ _ _ hR)
    · cases h
  case goto off =>
    have hn : n = 3 := Nat.eq_of_beq_eq_true hn
    subst hn
    dsimp only [am_ex] at h
    split at h
    · rename_i tg htg
      cases h
      exact lv_goto hx hb hd (am_tgo_eq htg) (kk _ _ _ hR)
    · cases h
  case ifCond co off =>
    have hn : n = 3 := Nat.eq_of_beq_eq_true hn
    subst hn
    dsimp only [am_ex] at h
    split at h
    · rename_i x st0
      split at h
      · rename_i tg htg
        cases h
        have ht := am_tgo_eq htg
        have kk0 := kk _ _ _ hR
        cases co with
        | eq => exact lv_if_eq hx hb hd ht (fun hc => by
            rwa [show am_br .eq x 0 tg (pc + 3) = tg from if_pos hc] at kk0) (fun hc => by
            rwa [show am_br .eq x 0 tg (pc + 3) = pc + 3 from if_neg hc] at kk0)
        | ne => exact lv_if_ne hx hb hd ht (fun hc => by
            rwa [show am_br .ne x 0 tg (pc + 3) = tg from if_neg hc] at kk0) (fun hc => by
            rwa [show am_br .ne x 0 tg (pc + 3) = pc + 3 from if_pos hc] at kk0)
        | lt => exact lv_if_lt hx hb hd ht (fun hc => by
            rwa [show am_br .lt x 0 tg (pc + 3) = tg from if_pos hc] at kk0) (fun hc => by
            rwa [show am_br .lt x 0 tg (pc + 3) = pc + 3 from if_neg hc] at kk0)
        | ge => exact lv_if_ge hx hb hd ht (fun hc => by
            rwa [show am_br .ge x 0 tg (pc + 3) = tg from if_neg (Int32.not_lt.mpr hc)] at kk0) (fun hc => by
            rwa [show am_br .ge x 0 tg (pc + 3) = pc + 3 from if_pos (Int32.not_le.mp hc)] at kk0)
        | gt => exact lv_if_gt hx hb hd ht (fun hc => by
            rwa [show am_br .gt x 0 tg (pc + 3) = tg from if_pos hc] at kk0) (fun hc => by
            rwa [show am_br .gt x 0 tg (pc + 3) = pc + 3 from if_neg hc] at kk0)
        | le => exact lv_if_le hx hb hd ht (fun hc => by
            rwa [show am_br .le x 0 tg (pc + 3) = tg from if_neg (Int32.not_lt.mpr hc)] at kk0) (fun hc => by
            rwa [show am_br .le x 0 tg (pc + 3) = pc + 3 from if_pos (Int32.not_le.mp hc)] at kk0)
      · cases h
    · cases h
  case if_icmp co off =>
    have hn : n = 3 := Nat.eq_of_beq_eq_true hn
    subst hn
    dsimp only [am_ex] at h
    split at h
    · rename_i y x st0
      split at h
      · rename_i tg htg
        cases h
        have ht := am_tgo_eq htg
        have kk0 := kk _ _ _ hR
        cases co with
        | eq => exact lv_icmp_eq hx hb hd ht (fun hc => by
            rwa [show am_br .eq x y tg (pc + 3) = tg from if_pos hc] at kk0) (fun hc => by
            rwa [show am_br .eq x y tg (pc + 3) = pc + 3 from if_neg hc] at kk0)
        | ne => exact lv_icmp_ne hx hb hd ht (fun hc => by
            rwa [show am_br .ne x y tg (pc + 3) = tg from if_neg hc] at kk0) (fun hc => by
            rwa [show am_br .ne x y tg (pc + 3) = pc + 3 from if_pos hc] at kk0)
        | lt => exact lv_icmp_lt hx hb hd ht (fun hc => by
            rwa [show am_br .lt x y tg (pc + 3) = tg from if_pos hc] at kk0) (fun hc => by
            rwa [show am_br .lt x y tg (pc + 3) = pc + 3 from if_neg hc] at kk0)
        | ge => exact lv_icmp_ge hx hb hd ht (fun hc => by
            rwa [show am_br .ge x y tg (pc + 3) = tg from if_neg (Int32.not_lt.mpr hc)] at kk0) (fun hc => by
            rwa [show am_br .ge x y tg (pc + 3) = pc + 3 from if_pos (Int32.not_le.mp hc)] at kk0)
        | gt => exact lv_icmp_gt hx hb hd ht (fun hc => by
            rwa [show am_br .gt x y tg (pc + 3) = tg from if_pos hc] at kk0) (fun hc => by
            rwa [show am_br .gt x y tg (pc + 3) = pc + 3 from if_neg hc] at kk0)
        | le => exact lv_icmp_le hx hb hd ht (fun hc => by
            rwa [show am_br .le x y tg (pc + 3) = tg from if_neg (Int32.not_lt.mpr hc)] at kk0) (fun hc => by
            rwa [show am_br .le x y tg (pc + 3) = pc + 3 from if_pos (Int32.not_le.mp hc)] at kk0)
      · cases h
    · cases h
  case tableswitch d lo hi os =>
    dsimp only [am_ex] at h
    split at h
    · rename_i x st0
      split at h
      · rename_i tg htg
        cases h
        have ht := am_tgo_eq htg
        have kk0 := kk _ _ _ hR
        have hps : (os.size : Int) = hi - lo + 1 := of_decide_eq_true hps
        unfold am_sw at ht
        by_cases h1 : x.toInt < lo
        · rw [if_pos h1] at ht
          exact lv_tableOut hx hb hd (Or.inl h1) ht kk0
        · rw [if_neg h1] at ht
          by_cases h2 : hi < x.toInt
          · rw [if_pos h2] at ht
            exact lv_tableOut hx hb hd (Or.inr h2) ht kk0
          · rw [if_neg h2] at ht
            have hl : (x.toInt - lo).toNat < os.size := by omega
            rw [Array.getElem?_eq_getElem hl] at ht
            exact lv_tableIn hx hb hd h1 h2 (Array.getElem?_eq_getElem hl) ht kk0
      · cases h
    · cases h
  case lookupswitch d ps =>
    dsimp only [am_ex] at h
    split at h
    · rename_i x st0
      split at h
      · rename_i tg htg
        cases h
        exact lv_lookup hx hb hd hps rfl (am_tgo_eq htg) (kk _ _ _ hR)
      · cases h
    · cases h
  case getstatic k =>
    have hn : n = 3 := Nat.eq_of_beq_eq_true hn
    subst hn
    dsimp only [am_ex] at h
    split at h
    · rename_i v hv
      cases h
      unfold am_gs at hv
      cases ho : Nat.beq (am_ow t) 14 with
      | false => rw [ho] at hv; cases hv
      | true =>
        rw [ho] at hv
        have ho := Nat.eq_of_beq_eq_true ho
        rw [ho] at hown
        dsimp only [cond_true] at hv
        cases h38 : Nat.beq k 38 with
        | true =>
          rw [h38] at hv
          cases hv
          have h38 := Nat.eq_of_beq_eq_true h38
          subst h38
          exact va_gets hx hb hZ.2.1 hR.2.2.1 hown (hts _ am_w38) (fun _ h => h) hd (kk _ _ _ hR)
        | false =>
          rw [h38] at hv
          dsimp only [cond_false] at hv
          cases h10 : Nat.beq k 1053 with
          | false => rw [h10] at hv; cases hv
          | true =>
            rw [h10] at hv
            cases hv
            have h10 := Nat.eq_of_beq_eq_true h10
            subst h10
            exact va_gets hx hb hZ.2.2.1 hR.2.2.1 hown (hts _ am_w1053) (fun _ h => h) hd (kk _ _ _ hR)
    · cases h
  case getfield k =>
    have hn : n = 3 := Nat.eq_of_beq_eq_true hn
    subst hn
    dsimp only [am_ex] at h
    split at h
    · rename_i a st0
      obtain ⟨a, rfl⟩ : ∃ b : Nat, b = a := ⟨a, rfl⟩
      split at h
      · rename_i v hv
        cases h
        unfold am_gf at hv
        split at hv
        · rename_i ci j hfl
          split at hv
          · rename_i cj fs hLL
            cases hbq : Nat.beq ci cj with
            | false => rw [hbq] at hv; cases hv
            | true =>
              rw [hbq] at hv
              dsimp only [cond_true] at hv
              have hbq := Nat.eq_of_beq_eq_true hbq
              subst hbq
              split at hv
              · rename_i f hf
                cases hv
                obtain ⟨r, nest, pw, hcl, hk, hw, hw'⟩ := am_fl_spec hfl
                have ha : a ≠ 7000 := by have := am_lt hLL; omega
                have he : (am_wd cI ad M)[a]? = some (ad a, .inr (ci, fs.mapIdx fun j f => am_fw ad M a j f)) := by rw [am_wd_get, hLL]; rfl
                have hv9 : (fs.mapIdx fun j f => am_fw ad M a j f)[j]? = some (am_tv ad z (am_fv M a j f)) := by
                  rw [List.getElem?_mapIdx, hf, Option.map_some, am_fw_tv (am_fld hLL hf)]
                have kk0 := kk _ _ _ hR
                rw [List.map_cons, am_tv_ref ha]
                obtain ⟨Cn, T, N⟩ := r
                cases nest with
                | zero => exact va_get hx hb hts (am_cls ci _ hcl).2.2 hown hK hR.1 a he hcl j hk (hts _ (hw rfl)) (fun _ h => h) hv9 hd kk0
                | succ q => exact va_getN hx hb hts (am_cls ci _ hcl).2.2 hown hK hR.1 a he hcl j hk (va_Nw.use rfl (hZ.2.2.2.2.2.2.2.2.2 _ _ _ _ _ _ _ (hw' (by omega)))) (fun _ h => h) hv9 hd kk0
              · cases hv
          · cases hv
        · unfold am_sf at hv
          cases ho : (Nat.beq (am_ow t) 14 && Nat.ble 6000 a && Nat.blt a 6009) with
          | false => rw [ho] at hv; cases hv
          | true =>
            rw [ho] at hv
            rw [Bool.and_eq_true, Bool.and_eq_true] at ho
            obtain ⟨⟨ho, ha1⟩, ha2⟩ := ho
            have ho := Nat.eq_of_beq_eq_true ho
            rw [ho] at hown
            have ha1 : 6000 ≤ a := Nat.le_of_ble_eq_true ha1
            have ha2 : a < 6009 := Nat.le_of_ble_eq_true ha2
            obtain ⟨i, rfl⟩ : ∃ i, a = 6000 + i := ⟨a - 6000, by omega⟩
            have hZi := hZ.1 i (by omega)
            dsimp only [cond_true] at hv
            rw [List.map_cons, am_tv_ref (by omega)]
            have kk0 := kk _ _ _ hR
            cases h9 : Nat.beq k 9 with
            | true =>
              rw [h9] at hv
              cases hv
              have h9 := Nat.eq_of_beq_eq_true h9
              subst h9
              rw [List.map_cons, am_tv_ref (by omega), show 6000 + i + 100 = 6100 + i by omega] at kk0
              exact vk_getf hx hb hZi.2.2.1 hR.2.2.1 hown (hts _ am_w9) (fun _ h => h) hd kk0
            | false =>
              rw [h9] at hv
              dsimp only [cond_false] at hv
              cases h15 : Nat.beq k 15 with
              | false => rw [h15] at hv; cases hv
              | true =>
                rw [h15] at hv
                cases hv
                have h15 := Nat.eq_of_beq_eq_true h15
                subst h15
                exact vk_getf hx hb hZi.2.1 hR.2.2.1 hown (hts _ am_w15) (fun _ h => h) hd kk0
      · cases h
    · cases h
  case putfield k =>
    have hn : n = 3 := Nat.eq_of_beq_eq_true hn
    subst hn
    dsimp only [am_ex] at h
    split at h
    · rename_i v a st0
      obtain ⟨a, rfl⟩ : ∃ b : Nat, b = a := ⟨a, rfl⟩
      split at h
      · rename_i M2 hv
        cases h
        unfold am_pf at hv
        split at hv
        · rename_i ci j hfl
          split at hv
          · rename_i cj fs hLL
            cases hbq : Nat.beq ci cj with
            | false => rw [hbq] at hv; cases hv
            | true =>
              rw [hbq] at hv
              dsimp only [cond_true] at hv
              have hbq := Nat.eq_of_beq_eq_true hbq
              subst hbq
              obtain ⟨r, nest, pw, hcl, hk, hw, hw'⟩ := am_fl_spec hfl
              have ha80 := am_lt hLL
              have ha : a ≠ 7000 := by omega
              have he : (am_wd cI ad M)[a]? = some (ad a, .inr (ci, fs.mapIdx fun j f => am_fw ad M a j f)) := by rw [am_wd_get, hLL]; rfl
              rw [List.map_cons, List.map_cons, am_tv_ref ha]
              obtain ⟨Cn, T, N⟩ := r
              split at hv
              · rename_i x hf
                have hjl : j < fs.length := (List.getElem?_eq_some_iff.mp hf).1
                cases hv
                have hfd := am_fld2 hLL hf hcl
                have hnf : (T j).2.2.2 = false := hfd.2
                have hty : parseFieldDescriptor (T j).2.2.1 = some .int := by rw [hfd.1]; rfl
                have hoff : ∀ b, b ≠ a → (am_up M a j x) b = M b := am_up_off M a j x
                have hset : (am_wd cI ad M).set a (ad a, .inr (ci, (fs.mapIdx fun j f => am_fw ad M a j f).set j (.int x))) = am_wd cI ad (am_up M a j x) := am_wd_set hLL hoff (by
                  show (Sum.inr (ci, (fs.mapIdx fun j f => am_fw ad M a j f).set j (.int x)) : va_E) = Sum.inr (ci, fs.mapIdx fun j9 f9 => am_fw ad (am_up M a j x) a j9 f9)
                  rw [am_set_fw (M' := am_up M a j x) hf (by show _ = Value.int (am_up M a j x a j); rw [am_up_self]) (fun i f9 hi h9 => am_fw_up hi (am_kinds hLL h9) rfl (am_kinds hLL hf))])
                cases nest with
                | zero =>
                  refine va_put (Q := Q) (v := .int x) hx hb hts (am_cls ci _ hcl).2.2 (am_tyof ci) (am_cls ci _ hcl).1 (am_cls ci _ hcl).2.1 hown hK hR.1 hR.2.1 hR.2.2.1 a he hcl j hk (hts _ (hw rfl)) (fun _ h => h) hnf hty rfl rfl (by rw [List.length_mapIdx]; exact hjl) hd (fun H1 locs1 hP hD hS => ?_)
                  rw [hset] at hP hD
                  exact kk _ _ _ ⟨hP, hD, hS, hR.2.2.2.1, fun i hi => by rw [hoff _ (by omega)]; exact hR.2.2.2.2.1 i hi, by rw [hoff _ (by omega)]; exact hR.2.2.2.2.2⟩
                | succ q =>
                  refine va_putN (Q := Q) (v := .int x) hx hb hts (am_cls ci _ hcl).2.2 (am_tyof ci) (am_cls ci _ hcl).1 (am_cls ci _ hcl).2.1 hown hK hR.1 hR.2.1 hR.2.2.1 a he hcl j hk (va_Nw.use rfl (hZ.2.2.2.2.2.2.2.2.2 _ _ _ _ _ _ _ (hw' (by omega)))) (fun _ h => h) hnf hty rfl rfl (by rw [List.length_mapIdx]; exact hjl) hd (fun H1 locs1 hP hD hS => ?_)
                  rw [hset] at hP hD
                  exact kk _ _ _ ⟨hP, hD, hS, hR.2.2.2.1, fun i hi => by rw [hoff _ (by omega)]; exact hR.2.2.2.2.1 i hi, by rw [hoff _ (by omega)]; exact hR.2.2.2.2.2⟩
              · rename_i x hf
                have hjl : j < fs.length := (List.getElem?_eq_some_iff.mp hf).1
                cases hv
                have hfd := am_fld2 hLL hf hcl
                have hnf : (T j).2.2.2 = false := hfd.2
                have hty : parseFieldDescriptor (T j).2.2.1 = some .long := by rw [hfd.1]; rfl
                have hoff : ∀ b, b ≠ a → (am_up (am_up M a j (am_hi x)) a (j + 100) (am_lw x)) b = M b := fun b hb => by rw [am_up_off _ _ _ _ b hb, am_up_off _ _ _ _ b hb]
                have hset : (am_wd cI ad M).set a (ad a, .inr (ci, (fs.mapIdx fun j f => am_fw ad M a j f).set j (.long x))) = am_wd cI ad (am_up (am_up M a j (am_hi x)) a (j + 100) (am_lw x)) := am_wd_set hLL hoff (by
                  show (Sum.inr (ci, (fs.mapIdx fun j f => am_fw ad M a j f).set j (.long x)) : va_E) = Sum.inr (ci, fs.mapIdx fun j9 f9 => am_fw ad (am_up (am_up M a j (am_hi x)) a (j + 100) (am_lw x)) a j9 f9)
                  rw [am_set_fw (M' := am_up (am_up M a j (am_hi x)) a (j + 100) (am_lw x)) hf (by show _ = Value.long (am_lg (am_up (am_up M a j (am_hi x)) a (j + 100) (am_lw x) a j) (am_up (am_up M a j (am_hi x)) a (j + 100) (am_lw x) a (j + 100))); rw [am_up_self, am_up_ne _ _ _ _ (by omega), am_up_self, am_lg_hl]) (fun i f9 hi h9 => am_fw_up2 hi (am_short hLL h9) (am_short hLL hf))])
                cases nest with
                | zero =>
                  refine va_put (Q := Q) (v := .long x) hx hb hts (am_cls ci _ hcl).2.2 (am_tyof ci) (am_cls ci _ hcl).1 (am_cls ci _ hcl).2.1 hown hK hR.1 hR.2.1 hR.2.2.1 a he hcl j hk (hts _ (hw rfl)) (fun _ h => h) hnf hty rfl rfl (by rw [List.length_mapIdx]; exact hjl) hd (fun H1 locs1 hP hD hS => ?_)
                  rw [hset] at hP hD
                  exact kk _ _ _ ⟨hP, hD, hS, hR.2.2.2.1, fun i hi => by rw [hoff _ (by omega)]; exact hR.2.2.2.2.1 i hi, by rw [hoff _ (by omega)]; exact hR.2.2.2.2.2⟩
                | succ q =>
                  refine va_putN (Q := Q) (v := .long x) hx hb hts (am_cls ci _ hcl).2.2 (am_tyof ci) (am_cls ci _ hcl).1 (am_cls ci _ hcl).2.1 hown hK hR.1 hR.2.1 hR.2.2.1 a he hcl j hk (va_Nw.use rfl (hZ.2.2.2.2.2.2.2.2.2 _ _ _ _ _ _ _ (hw' (by omega)))) (fun _ h => h) hnf hty rfl rfl (by rw [List.length_mapIdx]; exact hjl) hd (fun H1 locs1 hP hD hS => ?_)
                  rw [hset] at hP hD
                  exact kk _ _ _ ⟨hP, hD, hS, hR.2.2.2.1, fun i hi => by rw [hoff _ (by omega)]; exact hR.2.2.2.2.1 i hi, by rw [hoff _ (by omega)]; exact hR.2.2.2.2.2⟩
              · rename_i x hf
                have hjl : j < fs.length := (List.getElem?_eq_some_iff.mp hf).1
                by_cases h01 : x = 0 ∨ x = 1
                · rw [if_pos h01] at hv
                  cases hv
                  have hnz : narrow .boolean (.int x) = .int x := by rcases h01 with rfl | rfl <;> rfl
                  have hfz : fits .boolean (.int x) = true := by rcases h01 with rfl | rfl <;> rfl
                  have hfd := am_fld2 hLL hf hcl
                  have hnf : (T j).2.2.2 = false := hfd.2
                  have hty : parseFieldDescriptor (T j).2.2.1 = some .boolean := by rw [hfd.1]; rfl
                  have hoff : ∀ b, b ≠ a → (am_up M a j x) b = M b := am_up_off M a j x
                  have hset : (am_wd cI ad M).set a (ad a, .inr (ci, (fs.mapIdx fun j f => am_fw ad M a j f).set j (.int x))) = am_wd cI ad (am_up M a j x) := am_wd_set hLL hoff (by
                    show (Sum.inr (ci, (fs.mapIdx fun j f => am_fw ad M a j f).set j (.int x)) : va_E) = Sum.inr (ci, fs.mapIdx fun j9 f9 => am_fw ad (am_up M a j x) a j9 f9)
                    rw [am_set_fw (M' := am_up M a j x) hf (by show _ = Value.int (am_up M a j x a j); rw [am_up_self]) (fun i f9 hi h9 => am_fw_up hi (am_kinds hLL h9) rfl (am_kinds hLL hf))])
                  cases nest with
                  | zero =>
                    refine va_put (Q := Q) (v := .int x) hx hb hts (am_cls ci _ hcl).2.2 (am_tyof ci) (am_cls ci _ hcl).1 (am_cls ci _ hcl).2.1 hown hK hR.1 hR.2.1 hR.2.2.1 a he hcl j hk (hts _ (hw rfl)) (fun _ h => h) hnf hty hnz hfz (by rw [List.length_mapIdx]; exact hjl) hd (fun H1 locs1 hP hD hS => ?_)
                    rw [hset] at hP hD
                    exact kk _ _ _ ⟨hP, hD, hS, hR.2.2.2.1, fun i hi => by rw [hoff _ (by omega)]; exact hR.2.2.2.2.1 i hi, by rw [hoff _ (by omega)]; exact hR.2.2.2.2.2⟩
                  | succ q =>
                    refine va_putN (Q := Q) (v := .int x) hx hb hts (am_cls ci _ hcl).2.2 (am_tyof ci) (am_cls ci _ hcl).1 (am_cls ci _ hcl).2.1 hown hK hR.1 hR.2.1 hR.2.2.1 a he hcl j hk (va_Nw.use rfl (hZ.2.2.2.2.2.2.2.2.2 _ _ _ _ _ _ _ (hw' (by omega)))) (fun _ h => h) hnf hty hnz hfz (by rw [List.length_mapIdx]; exact hjl) hd (fun H1 locs1 hP hD hS => ?_)
                    rw [hset] at hP hD
                    exact kk _ _ _ ⟨hP, hD, hS, hR.2.2.2.1, fun i hi => by rw [hoff _ (by omega)]; exact hR.2.2.2.2.1 i hi, by rw [hoff _ (by omega)]; exact hR.2.2.2.2.2⟩
                · rw [if_neg h01] at hv; cases hv
              · cases hv
          · cases hv
        · cases hv
      · cases h
    · cases h
  case arraylength =>
    have hn : n = 1 := Nat.eq_of_beq_eq_true hn
    subst hn
    dsimp only [am_ex] at h
    split at h
    · rename_i a st0
      obtain ⟨a, rfl⟩ : ∃ b : Nat, b = a := ⟨a, rfl⟩
      split at h
      · rename_i x hv
        cases h
        unfold am_len at hv
        have kk0 := kk _ _ _ hR
        split at hv
        · rename_i n9 hal
          cases hv
          have hLL := am_al_get hal
          have ha80 := am_lt hLL
          have he : (am_wd cI ad M)[a]? = some (ad a, .inl (cI.1, n9, .inl (M a))) := am_wd_int hal
          rw [List.map_cons, am_tv_ref (by omega)]
          exact va_alen hx hb hK hR.1 a 0 he rfl rfl hd kk0
        · cases h5 : Nat.beq a 5000 with
          | true =>
            rw [h5] at hv
            cases hv
            have h5 := Nat.eq_of_beq_eq_true h5
            subst h5
            rw [List.map_cons, am_tv_ref (by omega)]
            rw [List.map_cons] at kk0
            rw [hR.2.2.2.2.2] at kk0
            exact va_slen hx hb hZ.2.2.2.2.2.1 hZ.2.2.2.2.2.2.1 hZ.2.2.2.2.2.2.2.1 hR.2.2.1 hd kk0
          | false =>
            rw [h5] at hv
            dsimp only [cond_false] at hv
            cases h6 : (Nat.ble 6100 a && Nat.blt a 6109) with
            | false => rw [h6] at hv; cases hv
            | true =>
              rw [h6] at hv
              have hv := Option.some.inj hv
              subst hv
              rw [Bool.and_eq_true] at h6
              have ha1 : 6100 ≤ a := Nat.le_of_ble_eq_true h6.1
              have ha2 : a < 6109 := Nat.le_of_ble_eq_true h6.2
              obtain ⟨i, rfl⟩ : ∃ i, a = 6100 + i := ⟨a - 6100, by omega⟩
              have hZi := hZ.1 i (by omega)
              rw [List.map_cons, am_tv_ref (by omega)]
              rw [show 6100 + i - 6100 = i by omega] at kk0
              exact va_tlen hx hb hZi.2.2.2 hR.2.2.1 rfl hd kk0
      · cases h
    · cases h
  case iaload =>
    have hn : n = 1 := Nat.eq_of_beq_eq_true hn
    subst hn
    dsimp only [am_ex] at h
    split at h
    · rename_i i a st0
      obtain ⟨a, rfl⟩ : ∃ b : Nat, b = a := ⟨a, rfl⟩
      split at h
      · rename_i x hv
        cases h
        unfold am_il at hv
        have kk0 := kk _ _ _ hR
        split at hv
        · rename_i n9 hal
          have hLL := am_al_get hal
          have ha80 := am_lt hLL
          have he : (am_wd cI ad M)[a]? = some (ad a, .inl (cI.1, n9, .inl (M a))) := am_wd_int hal
          by_cases hin : i < 0 ∨ n9 ≤ i.toNatClampNeg
          · rw [if_pos hin] at hv; cases hv
          · rw [if_neg hin] at hv
            cases hv
            rw [List.map_cons, List.map_cons, am_tv_ref (by omega)]
            exact va_iald hx hb hK hR.1 a 0 he rfl hin hd kk0
        · cases h5 : Nat.beq a 5000 with
          | true =>
            rw [h5] at hv
            have h5 := Nat.eq_of_beq_eq_true h5
            subst h5
            dsimp only [cond_true] at hv
            by_cases hin : i < 0 ∨ (M 5001 0).toNatClampNeg ≤ i.toNatClampNeg
            · rw [if_pos hin] at hv; cases hv
            · rw [if_neg hin] at hv
              cases hv
              rw [List.map_cons, List.map_cons, am_tv_ref (by omega)]
              have hL : (M 5001 0).toNatClampNeg = L := by rw [hR.2.2.2.2.2]; exact clamp_of rfl hZ.2.2.2.2.2.2.2.2.1
              rw [hL] at hin
              have hlt : i.toNatClampNeg < L := Nat.not_le.mp fun q => hin (Or.inr q)
              rw [List.map_cons] at kk0
              rw [hR.2.2.2.2.1 _ hlt] at kk0
              exact va_sld hx hb hZ.2.2.2.2.2.1 hZ.2.2.2.2.2.2.1 hZ.2.2.2.2.2.2.2.1 hR.2.2.1 hin hd kk0
          | false => rw [h5] at hv; cases hv
      · cases h
    · cases h
  case baload =>
    have hn : n = 1 := Nat.eq_of_beq_eq_true hn
    subst hn
    dsimp only [am_ex] at h
    split at h
    · rename_i i a st0
      obtain ⟨a, rfl⟩ : ∃ b : Nat, b = a := ⟨a, rfl⟩
      split at h
      · rename_i x hv
        cases h
        unfold am_bl at hv
        have kk0 := kk _ _ _ hR
        cases h6 : (Nat.ble 6100 a && Nat.blt a 6109) with
        | false => rw [h6] at hv; cases hv
        | true =>
          rw [h6] at hv
          dsimp only [cond_true] at hv
          rw [Bool.and_eq_true] at h6
          have ha1 : 6100 ≤ a := Nat.le_of_ble_eq_true h6.1
          have ha2 : a < 6109 := Nat.le_of_ble_eq_true h6.2
          obtain ⟨q, rfl⟩ : ∃ q, a = 6100 + q := ⟨a - 6100, by omega⟩
          have hZi := hZ.1 q (by omega)
          rw [show 6100 + q - 6100 = q by omega] at hv
          by_cases hin : i < 0 ∨ am_sl.getD q 0 ≤ i.toNatClampNeg
          · rw [if_pos hin] at hv; cases hv
          · rw [if_neg hin] at hv
            cases hv
            rw [List.map_cons, List.map_cons, am_tv_ref (by omega)]
            exact va_tb hx hb hZi.2.2.2 hR.2.2.1 hin rfl hd kk0
      · cases h
    · cases h
  case iastore =>
    have hn : n = 1 := Nat.eq_of_beq_eq_true hn
    subst hn
    dsimp only [am_ex] at h
    split at h
    · rename_i x i a st0
      obtain ⟨a, rfl⟩ : ∃ b : Nat, b = a := ⟨a, rfl⟩
      split at h
      · rename_i M2 hv
        cases h
        unfold am_is at hv
        split at hv
        · rename_i n9 hal
          have hLL := am_al_get hal
          have ha80 := am_lt hLL
          have he : (am_wd cI ad M)[a]? = some (ad a, .inl (cI.1, n9, .inl (M a))) := am_wd_int hal
          by_cases hin : i < 0 ∨ n9 ≤ i.toNatClampNeg
          · rw [if_pos hin] at hv; cases hv
          · rw [if_neg hin] at hv
            cases hv
            rw [List.map_cons, List.map_cons, List.map_cons, am_tv_ref (by omega)]
            have hoff := am_up_off M a i.toNatClampNeg x
            have hset : (am_wd cI ad M).set a (ad a, .inl (cI.1, n9, .inl (upd (M a) i.toNatClampNeg x))) = am_wd cI ad (am_up M a i.toNatClampNeg x) := am_wd_set hLL hoff (by
              rw [am_ce_int hal]
              rw [show am_up M a i.toNatClampNeg x a = upd (M a) i.toNatClampNeg x from by funext j; simp [upd, am_up]])
            refine va_iast (Q := Q) hx hb hK hR.1 hR.2.1 hR.2.2.1 a 0 he rfl hin hd (fun H1 locs1 hP hD hS => ?_)
            rw [hset] at hP hD
            exact kk _ _ _ ⟨hP, hD, hS, hR.2.2.2.1, fun i hi => by rw [hoff _ (by omega)]; exact hR.2.2.2.2.1 i hi, by rw [hoff _ (by omega)]; exact hR.2.2.2.2.2⟩
        · cases hv
      · cases h
    · cases h
  case land =>
    have hn : n = 1 := Nat.eq_of_beq_eq_true hn
    subst hn
    dsimp only [am_ex] at h
    split at h
    · cases h
      exact lv_land hx hb hd (kk _ _ _ hR)
    · cases h
  case lor =>
    have hn : n = 1 := Nat.eq_of_beq_eq_true hn
    subst hn
    dsimp only [am_ex] at h
    split at h
    · cases h
      exact lv_lor hx hb hd (kk _ _ _ hR)
    · cases h
  case lshl =>
    have hn : n = 1 := Nat.eq_of_beq_eq_true hn
    subst hn
    dsimp only [am_ex] at h
    split at h
    · cases h
      exact lv_lshl hx hb hd rfl (kk _ _ _ hR)
    · cases h
  case lshr =>
    have hn : n = 1 := Nat.eq_of_beq_eq_true hn
    subst hn
    dsimp only [am_ex] at h
    split at h
    · cases h
      exact lv_lshr hx hb hd rfl (kk _ _ _ hR)
    · cases h
  case l2i =>
    have hn : n = 1 := Nat.eq_of_beq_eq_true hn
    subst hn
    dsimp only [am_ex] at h
    split at h
    · cases h
      exact lv_l2i hx hb hd rfl (kk _ _ _ hR)
    · cases h
  case laload =>
    have hn : n = 1 := Nat.eq_of_beq_eq_true hn
    subst hn
    dsimp only [am_ex] at h
    split at h
    · rename_i i a st0
      obtain ⟨a, rfl⟩ : ∃ b : Nat, b = a := ⟨a, rfl⟩
      split at h
      · rename_i x hv
        cases h
        unfold am_ll at hv
        have kk0 := kk _ _ _ hR
        cases h5 : Nat.beq a 58 with
        | false => rw [h5] at hv; cases hv
        | true =>
          rw [h5] at hv
          have h5 := Nat.eq_of_beq_eq_true h5
          subst h5
          dsimp only [cond_true] at hv
          by_cases hin : i < 0 ∨ 16 ≤ i.toNatClampNeg
          · rw [if_pos hin] at hv; cases hv
          · rw [if_neg hin] at hv
            cases hv
            rw [List.map_cons, List.map_cons, am_tv_ref (by omega)]
            refine va_lald hx hb hK hR.1 58 1 am_wd_long rfl hin hd ?_
            rw [am_lf_at _ (Nat.not_le.mp fun q => hin (Or.inr q))]
            exact kk0
      · cases h
    · cases h
  case lastore =>
    have hn : n = 1 := Nat.eq_of_beq_eq_true hn
    subst hn
    dsimp only [am_ex] at h
    split at h
    · rename_i x i a st0
      obtain ⟨a, rfl⟩ : ∃ b : Nat, b = a := ⟨a, rfl⟩
      split at h
      · rename_i M2 hv
        cases h
        unfold am_lst at hv
        cases h5 : Nat.beq a 58 with
        | false => rw [h5] at hv; cases hv
        | true =>
          rw [h5] at hv
          have h5 := Nat.eq_of_beq_eq_true h5
          subst h5
          dsimp only [cond_true] at hv
          by_cases hin : i < 0 ∨ 16 ≤ i.toNatClampNeg
          · rw [if_pos hin] at hv; cases hv
          · rw [if_neg hin] at hv
            cases hv
            rw [List.map_cons, List.map_cons, List.map_cons, am_tv_ref (by omega)]
            have hi16 : i.toNatClampNeg < 16 := Nat.not_le.mp fun q => hin (Or.inr q)
            have hoff : ∀ b, b ≠ 58 → am_up (am_up M 58 i.toNatClampNeg (am_hi x)) 58 (i.toNatClampNeg + 100) (am_lw x) b = M b := fun b hb => by rw [am_up_off _ _ _ _ b hb, am_up_off _ _ _ _ b hb]
            have hset : (am_wd cI ad M).set 58 (ad 58, am_ce cI ad (am_up (am_up M 58 i.toNatClampNeg (am_hi x)) 58 (i.toNatClampNeg + 100) (am_lw x)) 58 (.inl 16)) = am_wd cI ad (am_up (am_up M 58 i.toNatClampNeg (am_hi x)) 58 (i.toNatClampNeg + 100) (am_lw x)) := am_wd_set am_LL58 hoff rfl
            refine va_last (Q := Q) hx hb hK hR.1 hR.2.1 hR.2.2.1 58 1 am_wd_long rfl hin hd (fun H1 locs1 hP hD hS => ?_)
            rw [← am_lf_up M x hi16] at hP hD
            have hP : va_P D am_cl ((am_wd cI ad M).set 58 (ad 58, am_ce cI ad (am_up (am_up M 58 i.toNatClampNeg (am_hi x)) 58 (i.toNatClampNeg + 100) (am_lw x)) 58 (.inl 16))) H1 := hP
            have hD : va_D A ((am_wd cI ad M).set 58 (ad 58, am_ce cI ad (am_up (am_up M 58 i.toNatClampNeg (am_hi x)) 58 (i.toNatClampNeg + 100) (am_lw x)) 58 (.inl 16))) := hD
            rw [hset] at hP hD
            exact kk _ _ _ ⟨hP, hD, hS, hR.2.2.2.1, fun i hi => by rw [hoff _ (by omega)]; exact hR.2.2.2.2.1 i hi, by rw [hoff _ (by omega)]; exact hR.2.2.2.2.2⟩
      · cases h
    · cases h
  all_goals (dsimp only [am_ex] at h; cases h)
end AMW
end
section
/-! the abstract machine's calls are the machine's, and so its methods: by depth -/
theorem am_wmn1 : Cond.methodLink (am_cn 4) 25 Lib.Math.min.name ∈ am_tbl := am_mem (i := 448) (by decide +kernel) (by decide +kernel)
theorem am_wmn2 : Cond.methodLink (am_cn 1) 34 Lib.Math.min.name ∈ am_tbl := am_mem (i := 263) (by decide +kernel) (by decide +kernel)
theorem am_wmn3 : Cond.static Lib.Math.min.name ∈ am_tbl := am_mem (i := 264) (by decide +kernel) (by decide +kernel)
theorem am_wmn4 : Cond.initialized "java/lang/Math" ∈ am_tbl := am_mem (i := 32) (by decide +kernel) (by decide +kernel)
theorem am_wmn5 : Cond.code Lib.Math.min.name Lib.Math.min.code 2 (some .int) ∈ am_tbl := am_mem (i := 265) (by decide +kernel) (by decide +kernel)
theorem am_cl_cn {ci : Nat} {r : vw_C} (h : am_cl[ci]? = some r) : r.1 = am_cn ci := by
  match ci, h with
  | 0, h => cases h; rfl
  | 1, h => cases h; rfl
  | 2, h => cases h; rfl
  | 3, h => cases h; rfl
  | 4, h => cases h; rfl
  | 5, h => cases h; rfl
  | 6, h => cases h; rfl
  | 7, h => cases h; rfl
  | 8, h => cases h; rfl
  | k + 9, h => simp [am_cl] at h
def am_ws (t : am_T) : List Cond := Cond.code (am_nm t) (am_by t) (am_mL t) (am_rt t) :: am_tbl
def am_room (t : am_T) : Room := { frames := am_fr t, cells := 0, slots := 0, locals := am_lo t }
def am_good (t : am_T) : Prop := ∃ p1 p2, (t, p1, p2) ∈ am_ts ∧ t ≠ t_LAW_law
theorem am_good_P {t : am_T} (h : am_good t) : ∃ p1 p2, am_P (t, p1, p2) := by
  obtain ⟨p1, p2, h1, h2⟩ := h
  exact ⟨p1, p2, am_Pt _ h1 h2⟩
def am_wB (D : va_G) (cI : ClassId × ClassId) (ad : Nat → Nat) (L : Nat) (xs : Nat → Int32) (M : am_M) (A : Nat → Prop) (U : State) : Prop :=
  va_P D am_cl (am_wd cI ad M) U.heap ∧ va_K D am_cl [(cI.1, .int), (cI.2, .long)] U ∧ va_D A (am_wd cI ad M) ∧ (∀ j, j < L → M 5000 j = xs j) ∧ M 5001 0 = Int32.ofNat L
def am_pc (D : va_G) (cI : ClassId × ClassId) (ad : Nat → Nat) (z : Value) (L : Nat) (xs : Nat → Int32) (M : am_M) (av : List Value) (sz : Nat) : Array Value → State → Prop :=
  va_Pc (av.map (am_tv ad z)) (fun U => U.heap.size = sz ∧ am_wB D cI ad L xs M (fun _ => True) U ∧ am_Z ad z L xs (va_A (am_wd cI ad M) sz) U U.heap)
def am_qc (D : va_G) (cI : ClassId × ClassId) (ad : Nat → Nat) (z : Value) (L : Nat) (xs : Nat → Int32) (rv : Option Value) (M : am_M) (A : Nat → Prop) : Array Value → State → Outcome → State → Prop :=
  fun _ st oc t => oc = .returned (rv.map (am_tv ad z)) ∧ am_wB D cI ad L xs M A t ∧ va_F A st t
theorem am_pc_blind (D : va_G) (cI : ClassId × ClassId) (ad : Nat → Nat) (z : Value) (L : Nat) (xs : Nat → Int32) (M : am_M) (av : List Value) (sz : Nat) : FrameBlind (am_pc D cI ad z L xs M av sz) := by
  intro a U g mk q
  obtain ⟨q0, q1, ⟨qP, qK, qD, q5⟩, qZ⟩ := q
  exact ⟨q0, q1, ⟨qP, va_K.moved (u := U) (U := U.calling g mk a) (Vm.Alike.refl U.vm) qK, qD, q5⟩, am_Z.same (u := U) rfl qZ⟩
abbrev am_Mt (l : Launch) (t : am_T) (av : List Value) (M : am_M) (rv : Option Value) (M' : am_M) : Prop :=
  ∀ (D : va_G) (cI : ClassId × ClassId) (ad : Nat → Nat) (z : Value) (L : Nat) (xs : Nat → Int32) (sz : Nat), Met l (am_nm t) (am_ws t) (am_room t) (am_pc D cI ad z L xs M av sz) (am_qc D cI ad z L xs rv M' (va_A (am_wd cI ad M) sz)) 0 0 (va_A (am_wd cI ad M) sz)
theorem am_ml_spec {ow k : Nat} {t : am_T} (h : am_ml ow k = some t) : ∃ (q : Nat × Nat × Nat × Nat × Nat) (p1 p2 : Nat), am_as (am_m ow) k = some q ∧ (t, p1, p2) ∈ am_ts ∧ t ≠ t_LAW_law ∧ Cond.methodLink (am_cn ow) k (am_nm t) ∈ am_tbl ∧
    (q.2.1 = 0 → Cond.instanceMethod (am_nm t) ∈ am_tbl ∧ Cond.selects (am_nm t).cls (am_nm t) (am_nm t) ∈ am_tbl ∧ (parseMethodDescriptor (am_nm t).desc).map (fun d => d.parameters.length + 1) = some (am_ar t)) ∧
    (q.2.1 ≠ 0 → Cond.static (am_nm t) ∈ am_tbl ∧ (parseMethodDescriptor (am_nm t).desc).map (fun d => d.parameters.length) = some (am_ar t)) := by
  unfold am_ml at h
  split at h
  · rename_i q hq
    split at h
    · rename_i r hr
      cases h
      have hc := (List.all_eq_true.mp (am_m_all ow)) _ (am_as_mem hq)
      unfold am_cok at hc
      dsimp only at hc
      rw [hr] at hc
      dsimp only at hc
      rw [Bool.and_eq_true, Bool.and_eq_true] at hc
      obtain ⟨⟨hc1, hc2⟩, hc3⟩ := hc
      refine ⟨q, r.2.1, r.2.2, hq, List.mem_of_getElem? hr, fun e => (of_decide_eq_true hc2) (by rw [e]), am_mem (of_decide_eq_true hc1) rfl, fun h0 => ?_, fun h0 => ?_⟩
      · rw [h0] at hc3
        have hc3 : (decide _ && decide _ && decide _) = true := hc3
        rw [Bool.and_eq_true, Bool.and_eq_true] at hc3
        exact ⟨am_mem (of_decide_eq_true hc3.1.1) rfl, am_mem (of_decide_eq_true hc3.1.2) rfl, of_decide_eq_true hc3.2⟩
      · have : Nat.beq q.2.1 0 = false := by
          cases hb : Nat.beq q.2.1 0 with
          | false => rfl
          | true => exact absurd (Nat.eq_of_beq_eq_true hb) h0
        rw [this] at hc3
        have hc3 : (decide _ && decide _) = true := hc3
        rw [Bool.and_eq_true] at hc3
        exact ⟨am_mem (of_decide_eq_true hc3.1) rfl, of_decide_eq_true hc3.2⟩
    · cases h
  · cases h
section AMB
variable {p : Program} {l : Launch} {e : Env} {R : Room} {s : State} {m : MethodId} {args : Array Value} {below : List Frame} {meth : Method} {c : Code} {cells slots : Nat} {Q : State → Prop}
variable {t : am_T} {D : va_G} {cI : ClassId × ClassId} {ad : Nat → Nat} {z : Value} {A : Nat → Prop} {L : Nat} {xs : Nat → Int32}
theorem am_back {H : Heap} {locs : List Loc} {pc : Nat} {LS : Array Slot} {st0 rest : List Value} {rv : Option Value} {M' : am_M} {A1 : Nat → Prop} {a : Array Value} {free : Addr → Prop} {H0 : Heap}
    (hr : va_Run p l e R s m args below meth c H locs cells slots 0 0 (F0 m pc LS st0) rest (am_qc D cI ad z L xs rv M' A1 a) free) (hS : va_S A H0 H locs) (hA : ∀ q, A1 q → A q) (hf : ∀ q, free q → A q)
    (kk : ∀ (u : State) (H1 : Heap) (locs1 : List Loc), u.heap = H1 → am_wB D cI ad L xs M' A1 u → va_S A H0 H1 locs1 → W p l e R s m args below meth c H1 locs1 cells slots Q (F0 m (pc + 3) LS ((rv.map (am_tv ad z)).toList ++ rest))) : W p l e R s m args below meth c H locs cells slots Q (F0 m pc LS st0) := by
  intro T hT X
  obtain ⟨v, st₀, u, T', L9, h0, X', hL, e1, e2, ⟨hv, hB, hz, hk⟩, st⟩ := hr T hT X
  cases hv
  rw [h0] at hz hk
  obtain ⟨t2, a1, b1⟩ := kk u T'.heap (locs ++ L9) e1.symm hB
    ⟨Nat.le_trans hS.1 (by rw [e1]; exact hz), fun q h1 h2 => by rw [e1, hk q (Nat.lt_of_lt_of_le h1 hS.1) (fun z => h2 (hA q z))]; exact hS.2.1 q h1 h2, fun q hq => by
      rcases List.mem_append.mp hq with h | h
      · exact hS.2.2 q h
      · exact hf _ (hL q h)⟩ T' rfl X'
  exact ⟨t2, st t2 a1, b1⟩
theorem am_cal_W (E : am_E p s m args c t D cI ad z A L xs) (hrok : am_rok t = true) (hcokI : (am_cd t).all (am_cokI (am_ow t)) = true) (hdok : am_dok (am_by t) (am_cd t) = true) (hRf : am_fr t ≤ R.frames) (hRl : am_lo t ≤ R.locals) (hcs : cells ≤ R.cells ∧ slots ≤ R.slots)
    {d : Nat} (IH : ∀ (t' : am_T), am_good t' → ∀ (av : List Value) (M : am_M) (rv : Option Value) (M' : am_M), am_run d t' av M rv M' → am_Mt l t' av M rv M')
    (har : ∀ (t' : am_T) (av : List Value) (M : am_M) (rv : Option Value) (M' : am_M), am_run d t' av M rv M' → av.length = am_ar t') {c0 c1 : am_C} (h : am_cal (am_run d) t c0 c1)
    {H : Heap} {locs : List Loc} {LS : Array Slot} (hR : am_R D cI ad z A L xs s (am_mL t) H locs LS c0.2.1 c0.2.2.2)
    (kk : ∀ (H' : Heap) (locs' : List Loc) (LS' : Array Slot), am_R D cI ad z A L xs s (am_mL t) H' locs' LS' c1.2.1 c1.2.2.2 → W p l e R s m args below meth c H' locs' cells slots Q (F0 m c1.1 LS' (c1.2.2.1.map (am_tv ad z)))) :
    W p l e R s m args below meth c H locs cells slots Q (F0 m c0.1 LS (c0.2.2.1.map (am_tv ad z))) := by
  obtain ⟨hx, hb, hml, hown, hts, hK, hZ, hA⟩ := E
  have hz := hZ.2.2.2.1
  obtain ⟨pc, ls, st, M⟩ := c0
  obtain ⟨i, k, t', av, rest, rv, M', a1, a2, a3, a4, a5, a8, a6, a7⟩ := h
  subst a7
  dsimp only at a1 a4 a6 hR kk ⊢
  have hmem := am_as_mem a1
  have hde := (List.all_eq_true.mp hdok) _ hmem
  rw [Bool.and_eq_true, Bool.and_eq_true] at hde
  have hd := of_decide_eq_true hde.1.1
  dsimp only at hd
  have hro := (List.all_eq_true.mp hrok) _ hmem
  dsimp only at hro
  rw [a2] at hro
  dsimp only at hro
  rw [a3] at hro
  simp only [Bool.and_eq_true] at hro
  have hf1 : am_fr t' + 1 ≤ am_fr t := Nat.le_of_ble_eq_true hro.1.1.1
  have hl1 : 8 + (am_mL t' + 11) + am_lo t' ≤ am_lo t := Nat.le_of_ble_eq_true hro.1.1.2
  obtain ⟨q, p1, p2, b1, b2, b3, b4, b5, b6⟩ := am_ml_spec a3
  have hg : am_good t' := ⟨p1, p2, b2, b3⟩
  have hPt := am_Pt _ b2 b3
  have hnok := hPt.2.2.1
  unfold am_nok at hnok
  simp only [Bool.and_eq_true] at hnok
  have hMH := of_decide_eq_true hnok.1.1.2
  have hcn := of_decide_eq_true hnok.2
  have hin : Cond.initialized (am_nm t').cls ∈ am_tbl := am_mem (of_decide_eq_true hnok.1.2) rfl
  have hcode : Cond.code (am_nm t') (am_by t') (am_mL t') (am_rt t') ∈ am_tbl := am_mem hPt.2.2.2 rfl
  have hGw : GoodIn am_tbl (am_ws t') := fun w hw => by
    rcases List.mem_cons.mp hw with rfl | hw
    · exact ⟨hcode, good_of_word rfl⟩
    · exact ⟨hw, good_of_word ((List.all_eq_true.mp am_tbl_good) w hw)⟩
  have hlen := har _ _ _ _ _ a6
  have hMet := IH t' hg av M rv M' a6 D cI ad z L xs H.size
  have hF : ∀ q, va_A (am_wd cI ad M) H.size q → A q := by
    rintro q (⟨k, e, h⟩ | h)
    · exact hR.2.1.2 k _ h
    · exact hA q (Nat.le_trans hR.2.2.1.1 h)
  have hpre : ∀ U : State, U.heap = H → s.WarmedH U.vm → am_pc D cI ad z L xs M av H.size (av.map (am_tv ad z)).toArray U := fun U hU hW =>
    ⟨rfl, by rw [hU], ⟨by rw [hU]; exact hR.1, va_K.moved hW.alike hK, hR.2.1.weaken (fun _ _ _ _ => trivial), hR.2.2.2.2.1, hR.2.2.2.2.2⟩, by rw [hU]; exact ((hZ.kept hR.2.2.1.1 hR.2.2.1.2.1).narrow hF).warm hW⟩
  have hRm : (am_room t').frames + 1 ≤ R.frames ∧ 8 + (am_mL t' + 11) + (am_room t').locals ≤ R.locals := ⟨Nat.le_trans hf1 hRf, Nat.le_trans hl1 hRl⟩
  have hsz : (F0 m pc LS (st.map (am_tv ad z))).locals.size = am_mL t := hR.2.2.2.1.2.1
  have hwr : 2 * (F0 m pc LS (st.map (am_tv ad z))).monitorRoom + ((rest.map (am_tv ad z)).map fun v => v.category).sum ≤ 8 := lv_room (by have := am_cw_tv (ad := ad) hz rest; unfold am_cw at this a5; rw [this]; exact a5)
  have hend : ∀ (u : State) (H1 : Heap) (locs1 : List Loc), u.heap = H1 → am_wB D cI ad L xs M' (va_A (am_wd cI ad M) H.size) u → va_S A s.heap H1 locs1 → W p l e R s m args below meth c H1 locs1 cells slots Q (F0 m (pc + 3) LS ((rv.map (am_tv ad z)).toList ++ rest.map (am_tv ad z))) := by
    intro u H1 locs1 hu hB hS1
    obtain ⟨hP1, hK1, hD1, hs1, hs2⟩ := hB
    rw [hu] at hP1
    have := kk H1 locs1 LS ⟨hP1, hD1.weaken (fun k q _ h => hF q.1 h), hS1, hR.2.2.2.1, hs1, hs2⟩
    have e9 : (rv.toList ++ rest).map (am_tv ad z) = (rv.map (am_tv ad z)).toList ++ rest.map (am_tv ad z) := by
      cases rv <;> rfl
    rw [e9] at this
    exact this
  have hcI := (List.all_eq_true.mp hcokI) _ hmem
  cases i with
  | invokevirtual k2 =>
    cases a2
    have hkd : q.2.1 = 0 := by
      unfold am_cokI at hcI
      dsimp only at hcI
      rw [b1] at hcI
      exact Nat.eq_of_beq_eq_true hcI
    obtain ⟨w1, w2, w3⟩ := b5 hkd
    have hrv := a8 rfl
    unfold am_rv at hrv
    match av, hlen, hrv, hMet, hpre, a4 with
    | .ref a :: As, hlen, hrv, hMet, hpre, a4 =>
      obtain ⟨a, rfl⟩ : ∃ b : Nat, b = a := ⟨a, rfl⟩
      dsimp only at hrv
      have hn1 : (parseMethodDescriptor (am_nm t').desc).map (fun d => d.parameters.length) = some (As.map (am_tv ad z)).length := by
        cases hp9 : parseMethodDescriptor (am_nm t').desc with
        | none => rw [hp9] at w3; cases w3
        | some d9 =>
          rw [hp9] at w3
          have w3 := Option.some.inj w3
          dsimp only at w3
          rw [← hlen] at w3
          simp only [List.length_cons] at w3
          simp only [Option.map_some, List.length_map]
          congr 1
          omega
      have hG : GoodIn am_tbl (wsV (am_cn (am_ow t)) k (am_nm t').cls (am_nm t') (am_ws t')) := fun w hw => by
        unfold wsV at hw
        rcases List.mem_append.mp hw with hw | hw
        · simp only [List.mem_cons, List.not_mem_nil, or_false] at hw
          rcases hw with rfl | rfl | rfl | rfl
          · exact ⟨b4, good_of_word rfl⟩
          · exact ⟨w1, good_of_word rfl⟩
          · exact ⟨w2, good_of_word rfl⟩
          · exact ⟨hin, good_of_word rfl⟩
        · exact hGw w hw
      have hrecv : a ≠ 7000 ∧ ∃ cell : Cell, H[ad a]? = some cell ∧ cell.vm.isStatics = false ∧ s.vm.findClass (am_nm t').cls = some cell.cls := by
        split at hrv
        · rename_i ci fs hLL
          have hci := Nat.eq_of_beq_eq_true hrv
          obtain ⟨r, h1, h2, -, -⟩ := am_LL_at hLL
          have hlt := am_lt hLL
          refine ⟨by omega, ?_⟩
          have he : (am_wd cI ad M)[a]? = some (ad a, .inr (ci, fs.mapIdx fun j f => am_fw ad M a j f)) := by rw [am_wd_get, hLL]; rfl
          have := va_recv hK hR.1 h1 he
          rw [hcn, ← hci, ← am_cl_cn h1]
          exact this
        · simp only [Bool.and_eq_true] at hrv
          have ho := Nat.eq_of_beq_eq_true hrv.1.1
          have ha1 : 6000 ≤ a := Nat.le_of_ble_eq_true hrv.1.2
          have ha2 : a < 6009 := Nat.le_of_ble_eq_true hrv.2
          refine ⟨by omega, ?_⟩
          obtain ⟨j, rfl⟩ : ∃ j, a = 6000 + j := ⟨a - 6000, by omega⟩
          obtain ⟨cell, g1, g2, g3, -⟩ := (hZ.1 j (by omega)).1.kept hR.2.2.1.2.1
          exact ⟨cell, g1, g2, by rw [hcn, ho]; exact g3⟩
      have hst : st.map (am_tv ad z) = (As.map (am_tv ad z)).reverse ++ .ref (ad a) :: rest.map (am_tv ad z) := by
        rw [a4, List.map_append, List.reverse_cons, List.map_append, List.map_reverse, List.append_assoc]
        rw [List.map_cons, List.map_nil, am_tv_ref hrecv.1]
        rfl
      have hpre' : ∀ U : State, U.heap = H → s.WarmedH U.vm → am_pc D cI ad z L xs M (.ref a :: As) H.size (Value.ref (ad a) :: As.map (am_tv ad z)).toArray U := fun U hU hW => by
        have := hpre U hU hW
        rw [List.map_cons, am_tv_ref hrecv.1] at this
        exact this
      refine am_back (va_runV (As := As.map (am_tv ad z)) (rest := rest.map (am_tv ad z)) ⟨hx, hb, hml, hown, hts⟩ hMet (cwV _ hts hG rfl rfl rfl ⟨rfl, hMH.1, hMH.2, hn1⟩ hRm) ⟨am_pc_blind _ _ _ _ _ _ _ _ _, hrecv.2, hpre'⟩ rfl rfl hsz hst hwr hd ⟨hcs.1, hcs.2⟩) hR.2.2.1 hF hF hend
  | invokestatic k2 =>
    cases a2
    have hkd : q.2.1 ≠ 0 := by
      unfold am_cokI at hcI
      dsimp only at hcI
      rw [b1] at hcI
      have := Nat.eq_of_beq_eq_true hcI
      omega
    obtain ⟨w1, w3⟩ := b6 hkd
    have hn1 : (parseMethodDescriptor (am_nm t').desc).map (fun d => d.parameters.length) = some (av.map (am_tv ad z)).length := by
      rw [w3, List.length_map, hlen]
    have hG : GoodIn am_tbl (va_wsS (am_cn (am_ow t)) k (am_nm t') (am_ws t')) := fun w hw => by
      unfold va_wsS at hw
      rcases List.mem_append.mp hw with hw | hw
      · simp only [List.mem_cons, List.not_mem_nil, or_false] at hw
        rcases hw with rfl | rfl | rfl
        · exact ⟨b4, good_of_word rfl⟩
        · exact ⟨w1, good_of_word rfl⟩
        · exact ⟨hin, good_of_word rfl⟩
      · exact hGw w hw
    have hst : st.map (am_tv ad z) = (av.map (am_tv ad z)).reverse ++ rest.map (am_tv ad z) := by
      rw [a4, List.map_append, List.map_reverse]
    refine am_back (va_runS (As := av.map (am_tv ad z)) (rest := rest.map (am_tv ad z)) ⟨hx, hb, hml, hown, hts⟩ hMet (va_cwS _ hts hG rfl rfl rfl ⟨hMH.1, hMH.2, hn1⟩ hRm) ⟨am_pc_blind _ _ _ _ _ _ _ _ _, hpre⟩ rfl rfl hsz hst hwr hd ⟨hcs.1, hcs.2⟩) hR.2.2.1 hF hF hend
  | _ => cases a2
theorem am_cp_W (E : am_E p s m args c t D cI ad z A L xs) (hrok : am_rok t = true) (hdok : am_dok (am_by t) (am_cd t) = true) (hRf : am_fr t ≤ R.frames) (hRl : am_lo t ≤ R.locals) (hcs : cells ≤ R.cells ∧ slots ≤ R.slots)
    {c0 c1 : am_C} (h : am_oth t c0 c1)
    {H : Heap} {locs : List Loc} {LS : Array Slot} (hR : am_R D cI ad z A L xs s (am_mL t) H locs LS c0.2.1 c0.2.2.2)
    (kk : ∀ (H' : Heap) (locs' : List Loc) (LS' : Array Slot), am_R D cI ad z A L xs s (am_mL t) H' locs' LS' c1.2.1 c1.2.2.2 → W p l e R s m args below meth c H' locs' cells slots Q (F0 m c1.1 LS' (c1.2.2.1.map (am_tv ad z)))) :
    W p l e R s m args below meth c H locs cells slots Q (F0 m c0.1 LS (c0.2.2.1.map (am_tv ad z))) := by
  obtain ⟨hx, hb, hml, hown, hts, hK, hZ, hA⟩ := E
  have hz := hZ.2.2.2.1
  obtain ⟨pc, ls, st, M⟩ := c0
  have room : ∀ k, am_as (am_cd t) pc = some (.invokestatic k, 3) → decode (am_by t) pc = .ok (.invokestatic k, 3) ∧ (am_ac (am_ow t) k = true → 1 ≤ am_fr t ∧ 18 ≤ am_lo t) ∧ (am_mnl (am_ow t) k = true → 1 ≤ am_fr t ∧ 21 ≤ am_lo t) := by
    intro k a1
    have hmem := am_as_mem a1
    have hde := (List.all_eq_true.mp hdok) _ hmem
    rw [Bool.and_eq_true, Bool.and_eq_true] at hde
    have hd := of_decide_eq_true hde.1.1
    have hro := (List.all_eq_true.mp hrok) _ hmem
    unfold am_iv at hro
    dsimp only at hro
    simp only [Bool.and_eq_true] at hro
    refine ⟨hd, fun q => ?_, fun q => ?_⟩
    · have := hro.1.2
      rw [q] at this
      simp only [Bool.not_true, Bool.false_or, Bool.and_eq_true] at this
      exact ⟨Nat.le_of_ble_eq_true this.1, Nat.le_of_ble_eq_true this.2⟩
    · have := hro.2
      rw [q] at this
      simp only [Bool.not_true, Bool.false_or, Bool.and_eq_true] at this
      exact ⟨Nat.le_of_ble_eq_true this.1, Nat.le_of_ble_eq_true this.2⟩
  rcases h with h | h | h
  · obtain ⟨k, a0, a, n0, n1, sp, dp, n, a1, a2, a3, a4, a5, h1, h2, h3, h4, h5, h6⟩ := h
    subst h6
    dsimp only at a1 a3 hR kk ⊢
    subst a3
    obtain ⟨hd, hrq, -⟩ := room k a1
    obtain ⟨hr1, hr2⟩ := hrq a2
    clear hrq
    have hL0 := am_al_get a4
    have hL1 := am_al_get a5
    have hlt0 := am_lt hL0
    have hlt1 := am_lt hL1
    have he0 : (am_wd cI ad M)[a0]? = some (ad a0, .inl (cI.1, n0, .inl (M a0))) := am_wd_int a4
    have he1 : (am_wd cI ad M)[a]? = some (ad a, .inl (cI.1, n1, .inl (M a))) := am_wd_int a5
    have hac : am_ow t = 6 ∧ k = 25 := by
      unfold am_ac at a2
      rw [Bool.and_eq_true] at a2
      exact ⟨Nat.eq_of_beq_eq_true a2.1, Nat.eq_of_beq_eq_true a2.2⟩
    obtain ⟨ho, rfl⟩ := hac
    rw [ho] at hown
    have hoff : ∀ b, b ≠ a → am_cpm M a0 a sp.toNatClampNeg dp.toNatClampNeg n.toNatClampNeg b = M b := fun b hb => by
      funext j
      unfold am_cpm
      rw [if_neg hb]
    have hset : (am_wd cI ad M).set a (ad a, .inl (cI.1, n1, .inl (va_cpy (M a0) (M a) sp.toNatClampNeg dp.toNatClampNeg n.toNatClampNeg))) = am_wd cI ad (am_cpm M a0 a sp.toNatClampNeg dp.toNatClampNeg n.toNatClampNeg) := am_wd_set hL1 hoff (by
      rw [am_ce_int a5]
      rw [show am_cpm M a0 a sp.toNatClampNeg dp.toNatClampNeg n.toNatClampNeg a = va_cpy (M a0) (M a) sp.toNatClampNeg dp.toNatClampNeg n.toNatClampNeg from by funext j; simp [am_cpm]])
    have e9 : List.map (am_tv ad z) [.int n, .int dp, .ref a, .int sp, .ref a0] = [.int n, .int dp, .ref (ad a), .int sp, .ref (ad a0)] := by
      simp only [List.map_cons, List.map_nil]
      rw [am_tv_ref (by omega), am_tv_ref (by omega)]
      rfl
    rw [e9]
    refine va_copyi (Q := Q) (ty := .int) hx hb (hml.trans hR.2.2.2.1.2.1.symm) hown (hts _ am_wac1) (hts _ am_wac2) (hts _ am_wac3) (hts _ am_wac4) hK hR.1 hR.2.1 hR.2.2.1 a0 a 0 0 he0 he1 rfl rfl rfl h1 h2 h3 h4 h5 (fun _ _ => rfl) (Nat.le_trans hr1 hRf) (Nat.le_trans (show 18 ≤ am_lo t from hr2) hRl) hd (fun H1 locs1 hP hD hS => ?_)
    rw [hset] at hP hD
    exact kk _ _ _ ⟨hP, hD, hS, hR.2.2.2.1, fun i hi => by rw [hoff _ (by omega)]; exact hR.2.2.2.2.1 i hi, by rw [hoff _ (by omega)]; exact hR.2.2.2.2.2⟩
  · obtain ⟨k, x, y, st0, a1, a2, a3, a4, h6⟩ := h
    subst h6
    dsimp only at a1 a3 hR kk ⊢
    subst a3
    obtain ⟨hd, -, hrq⟩ := room k a1
    obtain ⟨hr1, hr2⟩ := hrq a2
    clear hrq
    have hw : Cond.methodLink (am_cn (am_ow t)) k Lib.Math.min.name ∈ am_tbl := by
      unfold am_mnl at a2
      rw [Bool.or_eq_true, Bool.and_eq_true, Bool.and_eq_true] at a2
      rcases a2 with ⟨h1, h2⟩ | ⟨h1, h2⟩
      · rw [Nat.eq_of_beq_eq_true h1, Nat.eq_of_beq_eq_true h2]; exact am_wmn2
      · rw [Nat.eq_of_beq_eq_true h1, Nat.eq_of_beq_eq_true h2]; exact am_wmn1
    refine va_mmin (Q := Q) hx hb (hml.trans hR.2.2.2.1.2.1.symm) hown (hts _ hw) (hts _ am_wmn3) (hts _ am_wmn4) (hts _ am_wmn5) (Nat.le_trans hr1 hRf) (by
      have := am_cw_tv (ad := ad) hz st0
      unfold am_cw at this
      rw [this]
      omega) hcs.1 hcs.2 hd (kk _ _ _ hR)
  · obtain ⟨ls', h1, h2, h3⟩ := h
    subst h3
    dsimp only at h1 h2 hR kk ⊢
    refine kk _ _ _ ⟨hR.1, hR.2.1, hR.2.2.1, ⟨h1.trans hR.2.2.2.1.1, lv_mono hR.2.2.2.1.2 fun q hq => ?_⟩, hR.2.2.2.2⟩
    obtain ⟨v, g1, g2, g3⟩ := am_asc_mem.mp hq
    rcases h2 _ _ g1 with g4 | g4
    · exact absurd g4 g2
    · exact am_asc_mem.mpr ⟨v, g4, g2, g3⟩
theorem am_go_W (E : am_E p s m args c t D cI ad z A L xs) (hrok : am_rok t = true) (hcokI : (am_cd t).all (am_cokI (am_ow t)) = true) (hdok : am_dok (am_by t) (am_cd t) = true) (hRf : am_fr t ≤ R.frames) (hRl : am_lo t ≤ R.locals) (hcs : cells ≤ R.cells ∧ slots ≤ R.slots)
    {d : Nat} (IH : ∀ (t' : am_T), am_good t' → ∀ (av : List Value) (M : am_M) (rv : Option Value) (M' : am_M), am_run d t' av M rv M' → am_Mt l t' av M rv M')
    (har : ∀ (t' : am_T) (av : List Value) (M : am_M) (rv : Option Value) (M' : am_M), am_run d t' av M rv M' → av.length = am_ar t') : ∀ (k : Nat) (c0 c1 : am_C), am_go (am_run d) t k c0 c1 →
    ∀ {H : Heap} {locs : List Loc} {LS : Array Slot}, am_R D cI ad z A L xs s (am_mL t) H locs LS c0.2.1 c0.2.2.2 →
    (∀ (H' : Heap) (locs' : List Loc) (LS' : Array Slot), am_R D cI ad z A L xs s (am_mL t) H' locs' LS' c1.2.1 c1.2.2.2 → W p l e R s m args below meth c H' locs' cells slots Q (F0 m c1.1 LS' (c1.2.2.1.map (am_tv ad z)))) →
    W p l e R s m args below meth c H locs cells slots Q (F0 m c0.1 LS (c0.2.2.1.map (am_tv ad z))) := by
  intro k
  induction k with
  | zero =>
    intro c0 c1 h H locs LS hR kk
    cases h
    exact kk _ _ _ hR
  | succ k ih =>
    intro c0 c1 h H locs LS hR kk
    obtain ⟨c2, h1, h2⟩ := h
    rcases h1 with h1 | h1 | h1
    · unfold am_step at h1
      split at h1
      · rename_i i n ha
        have hde := (List.all_eq_true.mp hdok) _ (am_as_mem ha)
        rw [Bool.and_eq_true, Bool.and_eq_true] at hde
        exact am_ex_W E (of_decide_eq_true hde.1.1) hde.1.2 hde.2 h1 hR (fun H' locs' LS' hR' => ih c2 c1 h2 hR' kk)
      · cases h1
    · exact am_cp_W E hrok hdok hRf hRl hcs h1 hR (fun H' locs' LS' hR' => ih c2 c1 h2 hR' kk)
    · exact am_cal_W E hrok hcokI hdok hRf hRl hcs IH har h1 hR (fun H' locs' LS' hR' => ih c2 c1 h2 hR' kk)
end AMB
theorem am_run_ar {d : Nat} {t : am_T} {av : List Value} {M : am_M} {rv : Option Value} {M' : am_M} (h : am_run d t av M rv M') : av.length = am_ar t := by
  cases d with
  | zero => exact h.elim
  | succ d => exact h.1.2
/-- every method that the abstract machine runs, the machine runs so -/
theorem am_sound (l : Launch) : ∀ (d : Nat) (t : am_T), am_good t → ∀ (av : List Value) (M : am_M) (rv : Option Value) (M' : am_M), am_run d t av M rv M' → am_Mt l t av M rv M' := by
  intro d
  induction d with
  | zero => intro t _ av M rv M' h; exact h.elim
  | succ d IH =>
    intro t hgd av M rv M' hrun D cI ad z L xs sz
    obtain ⟨⟨hlen, har⟩, k, c', hgo, hret, rfl⟩ := hrun
    obtain ⟨p1, p2, hPd, ⟨hPr, hPc⟩, hPn, hPw⟩ := am_good_P hgd
    unfold am_nok at hPn
    simp only [Bool.and_eq_true] at hPn
    have hcn := of_decide_eq_true hPn.2
    dsimp only at hPd hPr hPc hcn
    refine Met.ofW (cc := am_by t) (maxL := am_mL t) (ret := am_rt t) hPn.1.1.1 rfl ?_
    intro p e s m args below meth c s₁ B hml hv
    obtain ⟨rfl, hsz, ⟨hP, hK, hD0, hs1, hs2⟩, hZ⟩ := hv
    have hx := B.exec
    have hb := B.bytes
    have hr := B.returns
    have hts0 := atoms_spec (ws := am_ws t) B.pre
    have hts : ∀ w ∈ am_tbl, w.before (av.map (am_tv ad z)).toArray s = true := fun w hw => hts0 w (List.mem_cons_of_mem _ hw)
    have hown : s.vm.findClass (am_cn (am_ow t)) = some m.cls := by
      rw [← hcn]
      exact findClass_of_methodNamed B.named
    have hlocks := B.notSynchronized
    subst hsz
    have hD := hD0.self (sz := s.heap.size)
    have hA : ∀ q : Nat, s.heap.size ≤ q → va_A (am_wd cI ad M) s.heap.size q := fun q h => Or.inr h
    have hS : va_S (va_A (am_wd cI ad M) s.heap.size) s.heap s.heap [] := va_S.rf
    have hz := hZ.2.2.2.1
    rw [lg_entry_eq]
    have hl := am_lv_ent (n := am_mL t) (av := av) (ad := ad) hz hlen
    have E : am_E p s m (av.map (am_tv ad z)).toArray c t D cI ad z (va_A (am_wd cI ad M) s.heap.size) L xs := ⟨hx, hb, hml, hown, hts, hK, hZ, hA⟩
    generalize va_A (am_wd cI ad M) s.heap.size = A at *
    refine am_go_W (c0 := (0, am_ent (am_mL t) av, [], M)) (c1 := c') E hPr hPc hPd (Nat.le_refl _) (Nat.le_refl _) ⟨Nat.le_refl _, Nat.le_refl _⟩ IH (fun _ _ _ _ _ => am_run_ar) k hgo ⟨hP, hD, hS, hl, hs1, hs2⟩ (fun H' locs' LS' hR => ?_)
    obtain ⟨pc', ls', st', M'⟩ := c'
    have hdec : ∀ i n, am_as (am_cd t) pc' = some (i, n) → decode (am_by t) pc' = .ok (i, n) := fun i n h => by
      have hde := (List.all_eq_true.mp hPd) _ (am_as_mem h)
      rw [Bool.and_eq_true, Bool.and_eq_true] at hde
      exact of_decide_eq_true hde.1.1
    have hq : ∀ (v : Option Value) (u : State), v = rv.map (am_tv ad z) → u.heap = H' → s.WarmedH u.vm → am_qc D cI ad z L xs rv M' A (av.map (am_tv ad z)).toArray s (.returned v) u := fun v u hv hu hW =>
      ⟨by rw [hv], ⟨by rw [hu]; exact hR.1, va_K.moved hW.alike hK, hR.2.1, hR.2.2.2.2⟩, hR.2.2.1.F hu⟩
    unfold am_ret at hret
    split at hret
    · obtain ⟨h1, h2, h3⟩ := hret
      dsimp only at h1 h2 ⊢
      subst h2
      exact W.vret hx hb (by rw [hr, h3]) (fun u hu hW => hq none u rfl hu hW) hR.2.2.1.2.2 (hdec _ _ h1)
    · rename_i x
      obtain ⟨h1, h2, ty, h3, h4⟩ := hret
      dsimp only at h1 h2 ⊢
      subst h2
      exact W.zret hx hb (by rw [hr, h3]) h4 (fun u hu hW => hq (some (.int x)) u rfl hu hW) hR.2.2.1.2.2 (hdec _ _ h1)
    · rename_i x
      obtain ⟨h1, h2, h3⟩ := hret
      dsimp only at h1 h2 ⊢
      subst h2
      exact W.lret hx hb (by rw [hr, h3]) (fun u hu hW => hq (some (.long x)) u rfl hu hW) hR.2.2.1.2.2 (hdec _ _ h1)
    · exact hret.2.2.elim
    · exact hret.elim
end
section
/-! the constructors: what they make -/
theorem am_arrI {args : Array Value} {s : State} (h : (Cond.arrayClass .int).before args s = true) : ∃ cI : ClassId, ArrOfT s cI .int ∧ va_RA s cI .int := by
  obtain ⟨cA, kA, comp, hfind, hk, hkind⟩ := Cond.arrayClass_spec h
  exact ⟨cA, fun n z => ⟨fun k h => (by cases h), kA, hk, comp, hkind⟩, hfind⟩
def am_nsm (U : State) : Prop := ∀ (p : Nat) (a : String) (i : Nat) (x : MethodName) (h : String), lw_tbl[p]? = some (.methodLinkNest a i x h) → va_Nw (.methodLinkNest a i x h) U
theorem am_nsm.warm {s U : State} (hW : s.WarmedH U.vm) (h : am_nsm s) : am_nsm U := fun p a i x b q => va_Nw.warmM hW (h p a i x b q)
theorem am_nsm.same {u U : State} (hv : u.vm = U.vm) (h : am_nsm u) : am_nsm U := fun p a i x b q => va_Nw.same rfl hv (h p a i x b q)
section AMN
variable {p : Program} {l : Launch} {e : Env} {R : Room} {s : State} {m : MethodId} {args : Array Value} {below : List Frame} {meth : Method} {c : Code} {H : Heap} {locs : List Loc} {cells slots : Nat} {Q : State → Prop}
variable {cc : ByteArray} {pc : Nat} {ls : Array Slot} {rest : List Value} {D : va_G} {cl : List vw_C} {A : Nat → Prop} {ws : va_W} {H0 : Heap} {cI : ClassId}
theorem am_newa (hexec : p.tables.exec = Jvm.exec) (hb : c.code = cc) (harr : (Cond.arrayClass .int).before args s = true) (hK : va_K D cl [(cI, .int)] s) (hP : va_P D cl ws H) (hD : va_D A ws) (hS : va_S A H0 H locs) (hA : ∀ q, H0.size ≤ q → A q)
    {n : Int32} {N : Nat} (hn : ¬ n < 0) (hN : n.toNatClampNeg = N) (hbytes : N * componentBytes .int ≤ 536870912) (hcells : cells + 1 ≤ R.cells) (hslots : slots + N ≤ R.slots) (hdg : decode cc pc = .ok (.newarray .int, 2))
    (kk : ∀ (q : Nat) (H1 : Heap), va_P D cl (ws ++ [(q, .inl (cI, N, .inl (fun _ => 0)))]) H1 → va_D A (ws ++ [(q, .inl (cI, N, .inl (fun _ => 0)))]) → va_S A H0 H1 locs → W p l e R s m args below meth c H1 locs (cells + 1) (slots + N) Q (F0 m (pc + 2) ls (.ref q :: rest))) : W p l e R s m args below meth c H locs cells slots Q (F0 m pc ls (.int n :: rest)) := by
  refine va_newa (atype := .int) (ty := .int) (a0 := (N, .inl (fun _ => 0))) hexec hb harr rfl hK hP hD hS hA (fun cA => rfl) hn hN hbytes hcells hslots hdg (fun q cA H1 hK1 hP1 hD1 hS1 => ?_)
  have h1 := (hK1.2 1 (cA, .int) rfl).2
  have h2 := (hK.2 0 (cI, .int) rfl).2
  have : cA = cI := by
    unfold va_RA at h1 h2
    exact Option.some.inj (h1.symm.trans h2)
  subst this
  exact kk q H1 hP1 hD1 hS1
end AMN
theorem am_GoodWs {y : MethodName} {b : ByteArray} {n : Nat} {r : Option FieldType} (h : Cond.code y b n r ∈ am_tbl) : GoodIn am_tbl (Cond.code y b n r :: am_tbl) := fun w hw => by
  rcases List.mem_cons.mp hw with rfl | hw
  · exact ⟨h, good_of_word rfl⟩
  · exact ⟨hw, good_of_word ((List.all_eq_true.mp am_tbl_good) w hw)⟩
theorem am_wmx3 : Cond.static Lib.Math.max.name ∈ am_tbl := (am_mem (i := 67) (by decide +kernel) (by decide +kernel))
theorem am_wmx5 : Cond.code Lib.Math.max.name Lib.Math.max.code 2 (some .int) ∈ am_tbl := am_mem (i := 68) (by decide +kernel) (by decide +kernel)
theorem am_warr : Cond.arrayClass .int ∈ am_tbl := (am_mem (i := 76) (by decide +kernel) (by decide +kernel))
theorem am_wob1 : Cond.instanceMethod objectInit ∈ am_tbl := (am_mem (i := 52) (by decide +kernel) (by decide +kernel))
theorem am_wob2 : Cond.code objectInit ⟨#[0xb1]⟩ 1 none ∈ am_tbl := am_mem (i := 53) (by decide +kernel) (by decide +kernel)
theorem dc_Row_init_0 : decode prog_8_method_1_code 0 = .ok (.aload_n 0, 1) := by decide +kernel
theorem dc_Row_init_1 : decode prog_8_method_1_code 1 = .ok (.invokespecial 1, 3) := by decide +kernel
theorem dc_Row_init_4 : decode prog_8_method_1_code 4 = .ok (.aload_n 0, 1) := by decide +kernel
theorem dc_Row_init_5 : decode prog_8_method_1_code 5 = .ok (.iload_n 1, 1) := by decide +kernel
theorem dc_Row_init_6 : decode prog_8_method_1_code 6 = .ok (.iconst 0, 1) := by decide +kernel
theorem dc_Row_init_7 : decode prog_8_method_1_code 7 = .ok (.invokestatic 7, 3) := by decide +kernel
theorem dc_Row_init_10 : decode prog_8_method_1_code 10 = .ok (.newarray .int, 2) := by decide +kernel
theorem dc_Row_init_12 : decode prog_8_method_1_code 12 = .ok (.putfield 13, 3) := by decide +kernel
theorem dc_Row_init_15 : decode prog_8_method_1_code 15 = .ok (.return_, 1) := by decide +kernel
theorem wc_Row_init : Cond.code ⟨RX6, "<init>", "(I)V"⟩ prog_8_method_1_code 2 none ∈ am_tbl := am_mem (i := 87) (by decide +kernel) (by decide +kernel)
def aw_Row (cI : ClassId) (h0 : Nat) (n0 : Nat) (f : Nat → Nat) : va_W := [(h0, .inr (6, [.ref (f 1)])), ((f 1), .inl (cI, n0, .inl (fun _ => 0)))]
set_option maxHeartbeats 4000000 in
set_option maxRecDepth 100000 in
theorem c_Row_init (l : Launch) (D : va_G) (cI : ClassId) (h0 : Nat) (sz : Nat) (p0 : Int32) (n0 : Nat) (hp0 : ¬ p0 < 0) (hp1 : p0.toNatClampNeg = n0) (hp2 : n0 * componentBytes .int ≤ 536870912) (hmx : (if p0 < 0 then 0 else p0) = p0) : Met l ⟨RX6, "<init>", "(I)V"⟩ (Cond.code ⟨RX6, "<init>", "(I)V"⟩ prog_8_method_1_code 2 none :: am_tbl) ({ frames := 1, cells := 1, slots := n0, locals := 21 }) (va_Pc [.ref h0, .int p0] (fun U => U.heap.size = sz ∧ va_P D am_cl [(h0, .inr (6, [.null]))] U.heap ∧ va_K D am_cl [(cI, .int)] U ∧ va_D (fun _ => True) [(h0, .inr (6, [.null]))] ∧ am_nsm U)) (va_Qv (fun _ : Nat → Nat => True) (fun f t => va_P D am_cl (aw_Row cI h0 n0 f) t.heap ∧ va_K D am_cl [(cI, .int)] t ∧ va_D (va_A [(h0, .inr (6, [.null]))] sz) (aw_Row cI h0 n0 f)) (va_A [(h0, .inr (6, [.null]))] sz)) 1 n0 (va_A [(h0, .inr (6, [.null]))] sz) := by
  refine Met.ofW (cc := prog_8_method_1_code) (maxL := 2) (ret := none) (by decide) rfl ?_
  intro p e s m args below meth c s₁ B hml hv
  obtain ⟨rfl, hsz, hP, hK, hD0, hNw⟩ := hv
  have hx := B.exec
  have hb := B.bytes
  have hr := B.returns
  have hts0 := atoms_spec (ws := (Cond.code ⟨RX6, "<init>", "(I)V"⟩ prog_8_method_1_code 2 none :: am_tbl)) B.pre
  have hts : ∀ w ∈ am_tbl, w.before _ s = true := fun w hw => hts0 w (List.mem_cons_of_mem _ hw)
  have hown : s.vm.findClass RX6 = some m.cls := findClass_of_methodNamed B.named
  have hlocks := B.notSynchronized
  have hin : meth.name = "<init>" := (name_of_methodNamed B.named B.method).1
  subst hsz
  have hD := hD0.self (sz := s.heap.size)
  generalize hAe : va_A [(h0, .inr (6, [.null]))] s.heap.size = A at hD ⊢
  have hA : ∀ q : Nat, s.heap.size ≤ q → A q := fun q h => by rw [← hAe]; exact Or.inr h
  have hS : va_S A s.heap s.heap [] := va_S.rf
  have hl := lv_entry ([.ref h0, .int p0]) (n := 2) (Nat.le_of_ble_eq_true rfl)
  rw [lg_entry_eq]
  generalize (lg_sl ([.ref h0, .int p0]) ++ List.replicate (2 - (lg_sl ([.ref h0, .int p0])).length) Slot.unset).toArray = ls at hl ⊢
  have hl : lv_has ls 2 [(0, .ref h0), (1, .int p0)] := hl
  refine lv_aload_n hx hb dc_Row_init_0 rfl (lv_at hl 0 rfl) ?_
  refine W.objInit hx hb hown (hts (.methodLink RX6 1 objectInit) (am_mem (i := 88) (by decide +kernel) (by decide +kernel))) (hts _ am_wob1) (hts _ am_wob2) rfl (by rw [hml]; exact hl.1) rfl dc_Row_init_1 (Nat.le_of_ble_eq_true rfl) (Nat.le_of_ble_eq_true rfl) ?_
  refine W.eq (g2 := F0 m 4 ls []) rfl ?_
  refine lv_aload_n hx hb dc_Row_init_4 rfl (lv_at hl 0 rfl) ?_
  refine lv_iload_n hx hb dc_Row_init_5 rfl (lv_at hl 1 rfl) ?_
  refine lv_iconst (v := 0) hx hb dc_Row_init_6 (by decide) ?_
  refine va_mmax hx hb (hml.trans hl.1.symm) hown (hts (.methodLink RX6 7 Lib.Math.max.name) (am_mem (i := 89) (by decide +kernel) (by decide +kernel))) (hts _ am_wmx3) (hts _ am_wmn4) (hts _ am_wmx5) (Nat.le_of_ble_eq_true rfl) (Nat.le_of_ble_eq_true rfl) (Nat.le_of_ble_eq_true rfl) (Nat.zero_le _) dc_Row_init_7 ?_
  rw [hmx]
  refine am_newa (N := n0) hx hb (hts _ am_warr) hK hP hD hS hA hp0 hp1 hp2 (Nat.le_of_ble_eq_true rfl) (by show 0 + n0 ≤ n0; omega) dc_Row_init_10 (fun q1 H hP hD hS => ?_)
  have hP : va_P D am_cl [(h0, .inr (6, [.null])), (q1, .inl (cI, n0, .inl (fun _ => 0)))] H := hP
  have hD : va_D A [(h0, .inr (6, [.null])), (q1, .inl (cI, n0, .inl (fun _ => 0)))] := hD
  refine W.widen (k := 1) (n := n0) (by omega) (by omega) ?_
  refine va_putF (D := D) (ci := 6) (v := .ref q1) (ty := tyX6 0) (C := RX6) (T := TX6) (N := 1) hx hb hts am_ws6 tyX6 tyX6_ok nmX6 hown hK hP hD hS 0 rfl rfl 0 (by decide) (hts (.fieldLink RX6 13 "StatuteBook$Row" "cells" "[I") (am_mem (i := 90) (by decide +kernel) (by decide +kernel))) (fun _ h9 => h9) rfl hin rfl (by decide +kernel) rfl rfl (Nat.le_of_ble_eq_true rfl) dc_Row_init_12 (fun H locs hP hD hS => ?_)
  have hP : va_P D am_cl [(h0, .inr (6, [.ref q1])), (q1, .inl (cI, n0, .inl (fun _ => 0)))] H := hP
  have hD : va_D A [(h0, .inr (6, [.ref q1])), (q1, .inl (cI, n0, .inl (fun _ => 0)))] := hD
  have hP9 := hP.sub (ws' := [(h0, .inr (6, [.ref q1])), (q1, .inl (cI, n0, .inl (fun _ => 0)))]) [0, 1] rfl
  exact W.vret hx hb hr (fun t ht hW => ⟨⟨(fun k => match k with | 1 => q1 | _ => 0), rfl, trivial, by rw [ht]; exact hP9, va_K.moved hW.alike hK, hD⟩, hS.F ht⟩) hS.2.2 dc_Row_init_15
theorem dc_Pag_init_0 : decode prog_6_method_1_code 0 = .ok (.aload_n 0, 1) := by decide +kernel
theorem dc_Pag_init_1 : decode prog_6_method_1_code 1 = .ok (.invokespecial 3, 3) := by decide +kernel
theorem dc_Pag_init_4 : decode prog_6_method_1_code 4 = .ok (.aload_n 0, 1) := by decide +kernel
theorem dc_Pag_init_5 : decode prog_6_method_1_code 5 = .ok (.iload_n 1, 1) := by decide +kernel
theorem dc_Pag_init_6 : decode prog_6_method_1_code 6 = .ok (.iconst 0, 1) := by decide +kernel
theorem dc_Pag_init_7 : decode prog_6_method_1_code 7 = .ok (.invokestatic 9, 3) := by decide +kernel
theorem dc_Pag_init_10 : decode prog_6_method_1_code 10 = .ok (.newarray .int, 2) := by decide +kernel
theorem dc_Pag_init_12 : decode prog_6_method_1_code 12 = .ok (.putfield 15, 3) := by decide +kernel
theorem dc_Pag_init_15 : decode prog_6_method_1_code 15 = .ok (.return_, 1) := by decide +kernel
theorem wc_Pag_init : Cond.code ⟨RX4, "<init>", "(I)V"⟩ prog_6_method_1_code 2 none ∈ am_tbl := am_mem (i := 64) (by decide +kernel) (by decide +kernel)
def aw_Pag (cI : ClassId) (h0 : Nat) (n0 : Nat) (f : Nat → Nat) : va_W := [(h0, .inr (4, [.ref (f 1), .int 0])), ((f 1), .inl (cI, n0, .inl (fun _ => 0)))]
set_option maxHeartbeats 4000000 in
set_option maxRecDepth 100000 in
theorem c_Pag_init (l : Launch) (D : va_G) (cI : ClassId) (h0 : Nat) (sz : Nat) (p0 : Int32) (n0 : Nat) (hp0 : ¬ p0 < 0) (hp1 : p0.toNatClampNeg = n0) (hp2 : n0 * componentBytes .int ≤ 536870912) (hmx : (if p0 < 0 then 0 else p0) = p0) : Met l ⟨RX4, "<init>", "(I)V"⟩ (Cond.code ⟨RX4, "<init>", "(I)V"⟩ prog_6_method_1_code 2 none :: am_tbl) ({ frames := 1, cells := 1, slots := n0, locals := 21 }) (va_Pc [.ref h0, .int p0] (fun U => U.heap.size = sz ∧ va_P D am_cl [(h0, .inr (4, [.null, .int 0]))] U.heap ∧ va_K D am_cl [(cI, .int)] U ∧ va_D (fun _ => True) [(h0, .inr (4, [.null, .int 0]))] ∧ am_nsm U)) (va_Qv (fun _ : Nat → Nat => True) (fun f t => va_P D am_cl (aw_Pag cI h0 n0 f) t.heap ∧ va_K D am_cl [(cI, .int)] t ∧ va_D (va_A [(h0, .inr (4, [.null, .int 0]))] sz) (aw_Pag cI h0 n0 f)) (va_A [(h0, .inr (4, [.null, .int 0]))] sz)) 1 n0 (va_A [(h0, .inr (4, [.null, .int 0]))] sz) := by
  refine Met.ofW (cc := prog_6_method_1_code) (maxL := 2) (ret := none) (by decide) rfl ?_
  intro p e s m args below meth c s₁ B hml hv
  obtain ⟨rfl, hsz, hP, hK, hD0, hNw⟩ := hv
  have hx := B.exec
  have hb := B.bytes
  have hr := B.returns
  have hts0 := atoms_spec (ws := (Cond.code ⟨RX4, "<init>", "(I)V"⟩ prog_6_method_1_code 2 none :: am_tbl)) B.pre
  have hts : ∀ w ∈ am_tbl, w.before _ s = true := fun w hw => hts0 w (List.mem_cons_of_mem _ hw)
  have hown : s.vm.findClass RX4 = some m.cls := findClass_of_methodNamed B.named
  have hlocks := B.notSynchronized
  have hin : meth.name = "<init>" := (name_of_methodNamed B.named B.method).1
  subst hsz
  have hD := hD0.self (sz := s.heap.size)
  generalize hAe : va_A [(h0, .inr (4, [.null, .int 0]))] s.heap.size = A at hD ⊢
  have hA : ∀ q : Nat, s.heap.size ≤ q → A q := fun q h => by rw [← hAe]; exact Or.inr h
  have hS : va_S A s.heap s.heap [] := va_S.rf
  have hl := lv_entry ([.ref h0, .int p0]) (n := 2) (Nat.le_of_ble_eq_true rfl)
  rw [lg_entry_eq]
  generalize (lg_sl ([.ref h0, .int p0]) ++ List.replicate (2 - (lg_sl ([.ref h0, .int p0])).length) Slot.unset).toArray = ls at hl ⊢
  have hl : lv_has ls 2 [(0, .ref h0), (1, .int p0)] := hl
  refine lv_aload_n hx hb dc_Pag_init_0 rfl (lv_at hl 0 rfl) ?_
  refine W.objInit hx hb hown (hts (.methodLink RX4 3 objectInit) (am_mem (i := 65) (by decide +kernel) (by decide +kernel))) (hts _ am_wob1) (hts _ am_wob2) rfl (by rw [hml]; exact hl.1) rfl dc_Pag_init_1 (Nat.le_of_ble_eq_true rfl) (Nat.le_of_ble_eq_true rfl) ?_
  refine W.eq (g2 := F0 m 4 ls []) rfl ?_
  refine lv_aload_n hx hb dc_Pag_init_4 rfl (lv_at hl 0 rfl) ?_
  refine lv_iload_n hx hb dc_Pag_init_5 rfl (lv_at hl 1 rfl) ?_
  refine lv_iconst (v := 0) hx hb dc_Pag_init_6 (by decide) ?_
  refine va_mmax hx hb (hml.trans hl.1.symm) hown (hts (.methodLink RX4 9 Lib.Math.max.name) (am_mem (i := 66) (by decide +kernel) (by decide +kernel))) (hts _ am_wmx3) (hts _ am_wmn4) (hts _ am_wmx5) (Nat.le_of_ble_eq_true rfl) (Nat.le_of_ble_eq_true rfl) (Nat.le_of_ble_eq_true rfl) (Nat.zero_le _) dc_Pag_init_7 ?_
  rw [hmx]
  refine am_newa (N := n0) hx hb (hts _ am_warr) hK hP hD hS hA hp0 hp1 hp2 (Nat.le_of_ble_eq_true rfl) (by show 0 + n0 ≤ n0; omega) dc_Pag_init_10 (fun q1 H hP hD hS => ?_)
  have hP : va_P D am_cl [(h0, .inr (4, [.null, .int 0])), (q1, .inl (cI, n0, .inl (fun _ => 0)))] H := hP
  have hD : va_D A [(h0, .inr (4, [.null, .int 0])), (q1, .inl (cI, n0, .inl (fun _ => 0)))] := hD
  refine W.widen (k := 1) (n := n0) (by omega) (by omega) ?_
  refine va_putF (D := D) (ci := 4) (v := .ref q1) (ty := tyX4 0) (C := RX4) (T := TX4) (N := 2) hx hb hts am_ws4 tyX4 tyX4_ok nmX4 hown hK hP hD hS 0 rfl rfl 0 (by decide) (hts (.fieldLink RX4 15 "StatuteBook$Page" "bytes" "[I") (am_mem (i := 69) (by decide +kernel) (by decide +kernel))) (fun _ h9 => h9) rfl hin rfl (by decide +kernel) rfl rfl (Nat.le_of_ble_eq_true rfl) dc_Pag_init_12 (fun H locs hP hD hS => ?_)
  have hP : va_P D am_cl [(h0, .inr (4, [.ref q1, .int 0])), (q1, .inl (cI, n0, .inl (fun _ => 0)))] H := hP
  have hD : va_D A [(h0, .inr (4, [.ref q1, .int 0])), (q1, .inl (cI, n0, .inl (fun _ => 0)))] := hD
  have hP9 := hP.sub (ws' := [(h0, .inr (4, [.ref q1, .int 0])), (q1, .inl (cI, n0, .inl (fun _ => 0)))]) [0, 1] rfl
  exact W.vret hx hb hr (fun t ht hW => ⟨⟨(fun k => match k with | 1 => q1 | _ => 0), rfl, trivial, by rw [ht]; exact hP9, va_K.moved hW.alike hK, hD⟩, hS.F ht⟩) hS.2.2 dc_Pag_init_15
theorem dc_Dra_init_0 : decode prog_4_method_1_code 0 = .ok (.aload_n 0, 1) := by decide +kernel
theorem dc_Dra_init_1 : decode prog_4_method_1_code 1 = .ok (.invokespecial 3, 3) := by decide +kernel
theorem dc_Dra_init_4 : decode prog_4_method_1_code 4 = .ok (.aload_n 0, 1) := by decide +kernel
theorem dc_Dra_init_5 : decode prog_4_method_1_code 5 = .ok (.new 9, 3) := by decide +kernel
theorem dc_Dra_init_8 : decode prog_4_method_1_code 8 = .ok (.dup, 1) := by decide +kernel
theorem dc_Dra_init_9 : decode prog_4_method_1_code 9 = .ok (.sipush 520, 3) := by decide +kernel
theorem dc_Dra_init_12 : decode prog_4_method_1_code 12 = .ok (.invokespecial 11, 3) := by decide +kernel
theorem dc_Dra_init_15 : decode prog_4_method_1_code 15 = .ok (.putfield 14, 3) := by decide +kernel
theorem dc_Dra_init_18 : decode prog_4_method_1_code 18 = .ok (.return_, 1) := by decide +kernel
theorem wc_Dra_init : Cond.code ⟨RX2, "<init>", "()V"⟩ prog_4_method_1_code 1 none ∈ am_tbl := am_mem (i := 81) (by decide +kernel) (by decide +kernel)
def aw_Dra (cI : ClassId) (h0 : Nat) (f : Nat → Nat) : va_W := [(h0, .inr (2, [.ref (f 1), .int 0, .int 0])), ((f 1), .inr (6, [.ref (f 2)])), ((f 2), .inl (cI, 520, .inl (fun _ => 0)))]
set_option maxHeartbeats 4000000 in
set_option maxRecDepth 100000 in
theorem c_Dra_init (l : Launch) (D : va_G) (cI : ClassId) (h0 : Nat) (sz : Nat) : Met l ⟨RX2, "<init>", "()V"⟩ (Cond.code ⟨RX2, "<init>", "()V"⟩ prog_4_method_1_code 1 none :: am_tbl) ({ frames := 2, cells := 2, slots := 521, locals := 42 }) (va_Pc [.ref h0] (fun U => U.heap.size = sz ∧ va_P D am_cl [(h0, .inr (2, [.null, .int 0, .int 0]))] U.heap ∧ va_K D am_cl [(cI, .int)] U ∧ va_D (fun _ => True) [(h0, .inr (2, [.null, .int 0, .int 0]))] ∧ am_nsm U)) (va_Qv (fun _ : Nat → Nat => True) (fun f t => va_P D am_cl (aw_Dra cI h0 f) t.heap ∧ va_K D am_cl [(cI, .int)] t ∧ va_D (va_A [(h0, .inr (2, [.null, .int 0, .int 0]))] sz) (aw_Dra cI h0 f)) (va_A [(h0, .inr (2, [.null, .int 0, .int 0]))] sz)) 2 521 (va_A [(h0, .inr (2, [.null, .int 0, .int 0]))] sz) := by
  refine Met.ofW (cc := prog_4_method_1_code) (maxL := 1) (ret := none) (by decide) rfl ?_
  intro p e s m args below meth c s₁ B hml hv
  obtain ⟨rfl, hsz, hP, hK, hD0, hNw⟩ := hv
  have hx := B.exec
  have hb := B.bytes
  have hr := B.returns
  have hts0 := atoms_spec (ws := (Cond.code ⟨RX2, "<init>", "()V"⟩ prog_4_method_1_code 1 none :: am_tbl)) B.pre
  have hts : ∀ w ∈ am_tbl, w.before _ s = true := fun w hw => hts0 w (List.mem_cons_of_mem _ hw)
  have hown : s.vm.findClass RX2 = some m.cls := findClass_of_methodNamed B.named
  have hlocks := B.notSynchronized
  have hin : meth.name = "<init>" := (name_of_methodNamed B.named B.method).1
  subst hsz
  have hD := hD0.self (sz := s.heap.size)
  generalize hAe : va_A [(h0, .inr (2, [.null, .int 0, .int 0]))] s.heap.size = A at hD ⊢
  have hA : ∀ q : Nat, s.heap.size ≤ q → A q := fun q h => by rw [← hAe]; exact Or.inr h
  have hS : va_S A s.heap s.heap [] := va_S.rf
  have hl := lv_entry ([.ref h0]) (n := 1) (Nat.le_of_ble_eq_true rfl)
  rw [lg_entry_eq]
  generalize (lg_sl ([.ref h0]) ++ List.replicate (1 - (lg_sl ([.ref h0])).length) Slot.unset).toArray = ls at hl ⊢
  have hl : lv_has ls 1 [(0, .ref h0)] := hl
  refine lv_aload_n hx hb dc_Dra_init_0 rfl (lv_at hl 0 rfl) ?_
  refine W.objInit hx hb hown (hts (.methodLink RX2 3 objectInit) (am_mem (i := 82) (by decide +kernel) (by decide +kernel))) (hts _ am_wob1) (hts _ am_wob2) rfl (by rw [hml]; exact hl.1) rfl dc_Dra_init_1 (Nat.le_of_ble_eq_true rfl) (Nat.le_of_ble_eq_true rfl) ?_
  refine W.eq (g2 := F0 m 4 ls []) rfl ?_
  refine lv_aload_n hx hb dc_Dra_init_4 rfl (lv_at hl 0 rfl) ?_
  refine va_new (ci := 6) (fs := [.null]) (C := RX6) (T := TX6) (N := 1) hx hb hts am_ws6 tyX6 tyX6_ok hown (hts (.classLink RX2 9 RX6) (am_mem (i := 83) (by decide +kernel) (by decide +kernel))) (hts (.instantiable RX6 1) (am_mem (i := 84) (by decide +kernel) (by decide +kernel))) (hts (.initialized RX6) (am_mem (i := 34) (by decide +kernel) (by decide +kernel))) hK hP hD hS hA rfl (fun j hj => by match j, hj with | 0, _ => rfl | j + 1, hj => exact absurd hj (by omega)) (Nat.le_of_ble_eq_true rfl) (Nat.le_of_ble_eq_true rfl) dc_Dra_init_5 (fun q1 H hP hD hS => ?_)
  have hP : va_P D am_cl [(h0, .inr (2, [.null, .int 0, .int 0])), (q1, .inr (6, [.null]))] H := hP
  have hD : va_D A [(h0, .inr (2, [.null, .int 0, .int 0])), (q1, .inr (6, [.null]))] := hD
  refine W.widen (k := 1) (n := 1) (by omega) (by omega) ?_
  refine lv_dup hx hb dc_Dra_init_8 rfl ?_
  refine lv_sipush (v := 520) hx hb dc_Dra_init_9 (by decide) ?_
  have hPc := hP.sub (ws' := [(q1, .inr (6, [.null]))]) [1] rfl
  have hDc := hD.sub (ws' := [(q1, .inr (6, [.null]))]) [1] (by decide) rfl
  have hKc := hK.sub (tys' := [(cI, .int)]) [0] rfl
  have hFc := va_free (wc := [(q1, .inr (6, [.null]))]) hD hS hA [1] rfl
  refine va_callv (va_runI (As := [.int 520]) (rest := [.ref q1, .ref h0]) ⟨hx, hb, hml, hown, hts⟩ (c_Row_init l D cI q1 H.size 520 520 (by decide) rfl (Nat.le_of_ble_eq_true rfl) rfl) (cwI 1 hts (am_GoodWs wc_Row_init) rfl rfl rfl (hts (.initialized RX6) (am_mem (i := 34) (by decide +kernel) (by decide +kernel))) (hts (.methodLink RX2 11 (⟨RX6, "<init>", "(I)V"⟩ : MethodName)) (am_mem (i := 85) (by decide +kernel) (by decide +kernel))) (hts (.instanceMethod (⟨RX6, "<init>", "(I)V"⟩ : MethodName)) (am_mem (i := 86) (by decide +kernel) (by decide +kernel))) rfl (by decide +kernel) ⟨Nat.le_of_ble_eq_true rfl, Nat.le_of_ble_eq_true rfl⟩) ⟨fun a U g mk q => by obtain ⟨q0, q1, qP, qK, qD, qN⟩ := q; exact ⟨q0, q1, qP, va_K.moved (u := U) (U := U.calling g mk a) (Vm.Alike.refl U.vm) qK, qD, am_nsm.same (u := U) rfl qN⟩, fun U hU hW => ⟨rfl, by rw [hU], by rw [hU]; exact hPc, va_K.moved hW.alike hKc, hDc.weaken (fun _ _ _ _ => trivial), hNw.warm hW⟩⟩ rfl rfl hl.1 rfl (lv_room (Nat.le_of_ble_eq_true rfl)) dc_Dra_init_12 ⟨Nat.le_of_ble_eq_true rfl, Nat.le_of_ble_eq_true rfl⟩) hS (fun q _ h => hFc q h) hFc (fun u t H1 locs ht hvm hw hB hz1 hk1 hS => ?_)
  obtain ⟨f2, rfl⟩ : ∃ z, z = u := ⟨_, rfl⟩
  obtain ⟨hP1, hK1, hD1⟩ := hB
  rw [ht] at hP1
  obtain ⟨hP, hD⟩ := va_join (wr := [(h0, .inr (2, [.null, .int 0, .int 0]))]) (w1 := [(q1, .inr (6, [.ref (f2 1)])), ((f2 1), .inl (cI, 520, .inl (fun _ => 0)))]) hP hD [1] [0] rfl rfl (by decide) (by decide) hk1 hFc hP1 hD1
  generalize H1 = H at hP hS ⊢
  have hP : va_P D am_cl [(h0, .inr (2, [.null, .int 0, .int 0])), (q1, .inr (6, [.ref (f2 1)])), ((f2 1), .inl (cI, 520, .inl (fun _ => 0)))] H := hP
  have hD : va_D A [(h0, .inr (2, [.null, .int 0, .int 0])), (q1, .inr (6, [.ref (f2 1)])), ((f2 1), .inl (cI, 520, .inl (fun _ => 0)))] := hD
  refine W.widen (k := 2) (n := 521) (by omega) (by omega) ?_
  refine va_putF (D := D) (ci := 2) (v := .ref q1) (ty := tyX2 0) (C := RX2) (T := TX2) (N := 3) hx hb hts am_ws2 tyX2 tyX2_ok nmX2 hown hK hP hD hS 0 rfl rfl 0 (by decide) (hts (.fieldLink RX2 14 "StatuteBook$Draft" "cells" "LStatuteBook$Row;") (am_mem (i := 94) (by decide +kernel) (by decide +kernel))) (fun _ h9 => h9) rfl hin rfl (by decide +kernel) rfl rfl (Nat.le_of_ble_eq_true rfl) dc_Dra_init_15 (fun H locs hP hD hS => ?_)
  have hP : va_P D am_cl [(h0, .inr (2, [.ref q1, .int 0, .int 0])), (q1, .inr (6, [.ref (f2 1)])), ((f2 1), .inl (cI, 520, .inl (fun _ => 0)))] H := hP
  have hD : va_D A [(h0, .inr (2, [.ref q1, .int 0, .int 0])), (q1, .inr (6, [.ref (f2 1)])), ((f2 1), .inl (cI, 520, .inl (fun _ => 0)))] := hD
  have hP9 := hP.sub (ws' := [(h0, .inr (2, [.ref q1, .int 0, .int 0])), (q1, .inr (6, [.ref (f2 1)])), ((f2 1), .inl (cI, 520, .inl (fun _ => 0)))]) [0, 1, 2] rfl
  exact W.vret hx hb hr (fun t ht hW => ⟨⟨(fun k => match k with | 1 => q1 | 2 => (f2 1) | _ => 0), rfl, trivial, by rw [ht]; exact hP9, va_K.moved hW.alike hK, hD⟩, hS.F ht⟩) hS.2.2 dc_Dra_init_18
theorem dc_Amd_init_0 : decode prog_2_method_1_code 0 = .ok (.aload_n 0, 1) := by decide +kernel
theorem dc_Amd_init_1 : decode prog_2_method_1_code 1 = .ok (.invokespecial 5, 3) := by decide +kernel
theorem dc_Amd_init_4 : decode prog_2_method_1_code 4 = .ok (.aload_n 0, 1) := by decide +kernel
theorem dc_Amd_init_5 : decode prog_2_method_1_code 5 = .ok (.new 11, 3) := by decide +kernel
theorem dc_Amd_init_8 : decode prog_2_method_1_code 8 = .ok (.dup, 1) := by decide +kernel
theorem dc_Amd_init_9 : decode prog_2_method_1_code 9 = .ok (.sipush 1605, 3) := by decide +kernel
theorem dc_Amd_init_12 : decode prog_2_method_1_code 12 = .ok (.invokespecial 13, 3) := by decide +kernel
theorem dc_Amd_init_15 : decode prog_2_method_1_code 15 = .ok (.putfield 16, 3) := by decide +kernel
theorem dc_Amd_init_18 : decode prog_2_method_1_code 18 = .ok (.return_, 1) := by decide +kernel
theorem wc_Amd_init : Cond.code ⟨RX0, "<init>", "()V"⟩ prog_2_method_1_code 1 none ∈ am_tbl := am_mem (i := 126) (by decide +kernel) (by decide +kernel)
def aw_Amd (cI : ClassId) (h0 : Nat) (f : Nat → Nat) : va_W := [(h0, .inr (0, [.ref (f 1)])), ((f 1), .inr (6, [.ref (f 2)])), ((f 2), .inl (cI, 1605, .inl (fun _ => 0)))]
set_option maxHeartbeats 4000000 in
set_option maxRecDepth 100000 in
theorem c_Amd_init (l : Launch) (D : va_G) (cI : ClassId) (h0 : Nat) (sz : Nat) : Met l ⟨RX0, "<init>", "()V"⟩ (Cond.code ⟨RX0, "<init>", "()V"⟩ prog_2_method_1_code 1 none :: am_tbl) ({ frames := 2, cells := 2, slots := 1606, locals := 42 }) (va_Pc [.ref h0] (fun U => U.heap.size = sz ∧ va_P D am_cl [(h0, .inr (0, [.null]))] U.heap ∧ va_K D am_cl [(cI, .int)] U ∧ va_D (fun _ => True) [(h0, .inr (0, [.null]))] ∧ am_nsm U)) (va_Qv (fun _ : Nat → Nat => True) (fun f t => va_P D am_cl (aw_Amd cI h0 f) t.heap ∧ va_K D am_cl [(cI, .int)] t ∧ va_D (va_A [(h0, .inr (0, [.null]))] sz) (aw_Amd cI h0 f)) (va_A [(h0, .inr (0, [.null]))] sz)) 2 1606 (va_A [(h0, .inr (0, [.null]))] sz) := by
  refine Met.ofW (cc := prog_2_method_1_code) (maxL := 1) (ret := none) (by decide) rfl ?_
  intro p e s m args below meth c s₁ B hml hv
  obtain ⟨rfl, hsz, hP, hK, hD0, hNw⟩ := hv
  have hx := B.exec
  have hb := B.bytes
  have hr := B.returns
  have hts0 := atoms_spec (ws := (Cond.code ⟨RX0, "<init>", "()V"⟩ prog_2_method_1_code 1 none :: am_tbl)) B.pre
  have hts : ∀ w ∈ am_tbl, w.before _ s = true := fun w hw => hts0 w (List.mem_cons_of_mem _ hw)
  have hown : s.vm.findClass RX0 = some m.cls := findClass_of_methodNamed B.named
  have hlocks := B.notSynchronized
  have hin : meth.name = "<init>" := (name_of_methodNamed B.named B.method).1
  subst hsz
  have hD := hD0.self (sz := s.heap.size)
  generalize hAe : va_A [(h0, .inr (0, [.null]))] s.heap.size = A at hD ⊢
  have hA : ∀ q : Nat, s.heap.size ≤ q → A q := fun q h => by rw [← hAe]; exact Or.inr h
  have hS : va_S A s.heap s.heap [] := va_S.rf
  have hl := lv_entry ([.ref h0]) (n := 1) (Nat.le_of_ble_eq_true rfl)
  rw [lg_entry_eq]
  generalize (lg_sl ([.ref h0]) ++ List.replicate (1 - (lg_sl ([.ref h0])).length) Slot.unset).toArray = ls at hl ⊢
  have hl : lv_has ls 1 [(0, .ref h0)] := hl
  refine lv_aload_n hx hb dc_Amd_init_0 rfl (lv_at hl 0 rfl) ?_
  refine W.objInit hx hb hown (hts (.methodLink RX0 5 objectInit) (am_mem (i := 127) (by decide +kernel) (by decide +kernel))) (hts _ am_wob1) (hts _ am_wob2) rfl (by rw [hml]; exact hl.1) rfl dc_Amd_init_1 (Nat.le_of_ble_eq_true rfl) (Nat.le_of_ble_eq_true rfl) ?_
  refine W.eq (g2 := F0 m 4 ls []) rfl ?_
  refine lv_aload_n hx hb dc_Amd_init_4 rfl (lv_at hl 0 rfl) ?_
  refine va_new (ci := 6) (fs := [.null]) (C := RX6) (T := TX6) (N := 1) hx hb hts am_ws6 tyX6 tyX6_ok hown (hts (.classLink RX0 11 RX6) (am_mem (i := 128) (by decide +kernel) (by decide +kernel))) (hts (.instantiable RX6 1) (am_mem (i := 84) (by decide +kernel) (by decide +kernel))) (hts (.initialized RX6) (am_mem (i := 34) (by decide +kernel) (by decide +kernel))) hK hP hD hS hA rfl (fun j hj => by match j, hj with | 0, _ => rfl | j + 1, hj => exact absurd hj (by omega)) (Nat.le_of_ble_eq_true rfl) (Nat.le_of_ble_eq_true rfl) dc_Amd_init_5 (fun q1 H hP hD hS => ?_)
  have hP : va_P D am_cl [(h0, .inr (0, [.null])), (q1, .inr (6, [.null]))] H := hP
  have hD : va_D A [(h0, .inr (0, [.null])), (q1, .inr (6, [.null]))] := hD
  refine W.widen (k := 1) (n := 1) (by omega) (by omega) ?_
  refine lv_dup hx hb dc_Amd_init_8 rfl ?_
  refine lv_sipush (v := 1605) hx hb dc_Amd_init_9 (by decide) ?_
  have hPc := hP.sub (ws' := [(q1, .inr (6, [.null]))]) [1] rfl
  have hDc := hD.sub (ws' := [(q1, .inr (6, [.null]))]) [1] (by decide) rfl
  have hKc := hK.sub (tys' := [(cI, .int)]) [0] rfl
  have hFc := va_free (wc := [(q1, .inr (6, [.null]))]) hD hS hA [1] rfl
  refine va_callv (va_runI (As := [.int 1605]) (rest := [.ref q1, .ref h0]) ⟨hx, hb, hml, hown, hts⟩ (c_Row_init l D cI q1 H.size 1605 1605 (by decide) rfl (Nat.le_of_ble_eq_true rfl) rfl) (cwI 1 hts (am_GoodWs wc_Row_init) rfl rfl rfl (hts (.initialized RX6) (am_mem (i := 34) (by decide +kernel) (by decide +kernel))) (hts (.methodLink RX0 13 (⟨RX6, "<init>", "(I)V"⟩ : MethodName)) (am_mem (i := 129) (by decide +kernel) (by decide +kernel))) (hts (.instanceMethod (⟨RX6, "<init>", "(I)V"⟩ : MethodName)) (am_mem (i := 86) (by decide +kernel) (by decide +kernel))) rfl (by decide +kernel) ⟨Nat.le_of_ble_eq_true rfl, Nat.le_of_ble_eq_true rfl⟩) ⟨fun a U g mk q => by obtain ⟨q0, q1, qP, qK, qD, qN⟩ := q; exact ⟨q0, q1, qP, va_K.moved (u := U) (U := U.calling g mk a) (Vm.Alike.refl U.vm) qK, qD, am_nsm.same (u := U) rfl qN⟩, fun U hU hW => ⟨rfl, by rw [hU], by rw [hU]; exact hPc, va_K.moved hW.alike hKc, hDc.weaken (fun _ _ _ _ => trivial), hNw.warm hW⟩⟩ rfl rfl hl.1 rfl (lv_room (Nat.le_of_ble_eq_true rfl)) dc_Amd_init_12 ⟨Nat.le_of_ble_eq_true rfl, Nat.le_of_ble_eq_true rfl⟩) hS (fun q _ h => hFc q h) hFc (fun u t H1 locs ht hvm hw hB hz1 hk1 hS => ?_)
  obtain ⟨f2, rfl⟩ : ∃ z, z = u := ⟨_, rfl⟩
  obtain ⟨hP1, hK1, hD1⟩ := hB
  rw [ht] at hP1
  obtain ⟨hP, hD⟩ := va_join (wr := [(h0, .inr (0, [.null]))]) (w1 := [(q1, .inr (6, [.ref (f2 1)])), ((f2 1), .inl (cI, 1605, .inl (fun _ => 0)))]) hP hD [1] [0] rfl rfl (by decide) (by decide) hk1 hFc hP1 hD1
  generalize H1 = H at hP hS ⊢
  have hP : va_P D am_cl [(h0, .inr (0, [.null])), (q1, .inr (6, [.ref (f2 1)])), ((f2 1), .inl (cI, 1605, .inl (fun _ => 0)))] H := hP
  have hD : va_D A [(h0, .inr (0, [.null])), (q1, .inr (6, [.ref (f2 1)])), ((f2 1), .inl (cI, 1605, .inl (fun _ => 0)))] := hD
  refine W.widen (k := 2) (n := 1606) (by omega) (by omega) ?_
  refine va_putF (D := D) (ci := 0) (v := .ref q1) (ty := tyX0 0) (C := RX0) (T := TX0) (N := 1) hx hb hts am_ws0 tyX0 tyX0_ok nmX0 hown hK hP hD hS 0 rfl rfl 0 (by decide) (hts (.fieldLink RX0 16 "StatuteBook$Amendments" "cells" "LStatuteBook$Row;") (am_mem (i := 130) (by decide +kernel) (by decide +kernel))) (fun _ h9 => h9) rfl hin rfl (by decide +kernel) rfl rfl (Nat.le_of_ble_eq_true rfl) dc_Amd_init_15 (fun H locs hP hD hS => ?_)
  have hP : va_P D am_cl [(h0, .inr (0, [.ref q1])), (q1, .inr (6, [.ref (f2 1)])), ((f2 1), .inl (cI, 1605, .inl (fun _ => 0)))] H := hP
  have hD : va_D A [(h0, .inr (0, [.ref q1])), (q1, .inr (6, [.ref (f2 1)])), ((f2 1), .inl (cI, 1605, .inl (fun _ => 0)))] := hD
  have hP9 := hP.sub (ws' := [(h0, .inr (0, [.ref q1])), (q1, .inr (6, [.ref (f2 1)])), ((f2 1), .inl (cI, 1605, .inl (fun _ => 0)))]) [0, 1, 2] rfl
  exact W.vret hx hb hr (fun t ht hW => ⟨⟨(fun k => match k with | 1 => q1 | 2 => (f2 1) | _ => 0), rfl, trivial, by rw [ht]; exact hP9, va_K.moved hW.alike hK, hD⟩, hS.F ht⟩) hS.2.2 dc_Amd_init_18
theorem dc_Arc_init_0 : decode prog_3_method_1_code 0 = .ok (.aload_n 0, 1) := by decide +kernel
theorem dc_Arc_init_1 : decode prog_3_method_1_code 1 = .ok (.invokespecial 3, 3) := by decide +kernel
theorem dc_Arc_init_4 : decode prog_3_method_1_code 4 = .ok (.aload_n 0, 1) := by decide +kernel
theorem dc_Arc_init_5 : decode prog_3_method_1_code 5 = .ok (.new 9, 3) := by decide +kernel
theorem dc_Arc_init_8 : decode prog_3_method_1_code 8 = .ok (.dup, 1) := by decide +kernel
theorem dc_Arc_init_9 : decode prog_3_method_1_code 9 = .ok (.sipush 19260, 3) := by decide +kernel
theorem dc_Arc_init_12 : decode prog_3_method_1_code 12 = .ok (.invokespecial 13, 3) := by decide +kernel
theorem dc_Arc_init_15 : decode prog_3_method_1_code 15 = .ok (.putfield 16, 3) := by decide +kernel
theorem dc_Arc_init_18 : decode prog_3_method_1_code 18 = .ok (.return_, 1) := by decide +kernel
theorem wc_Arc_init : Cond.code ⟨RX1, "<init>", "()V"⟩ prog_3_method_1_code 1 none ∈ am_tbl := am_mem (i := 139) (by decide +kernel) (by decide +kernel)
def aw_Arc (cI : ClassId) (h0 : Nat) (f : Nat → Nat) : va_W := [(h0, .inr (1, [.ref (f 1), .int 0, .int 0, .int 0])), ((f 1), .inr (6, [.ref (f 2)])), ((f 2), .inl (cI, 19260, .inl (fun _ => 0)))]
set_option maxHeartbeats 4000000 in
set_option maxRecDepth 100000 in
theorem c_Arc_init (l : Launch) (D : va_G) (cI : ClassId) (h0 : Nat) (sz : Nat) : Met l ⟨RX1, "<init>", "()V"⟩ (Cond.code ⟨RX1, "<init>", "()V"⟩ prog_3_method_1_code 1 none :: am_tbl) ({ frames := 2, cells := 2, slots := 19261, locals := 42 }) (va_Pc [.ref h0] (fun U => U.heap.size = sz ∧ va_P D am_cl [(h0, .inr (1, [.null, .int 0, .int 0, .int 0]))] U.heap ∧ va_K D am_cl [(cI, .int)] U ∧ va_D (fun _ => True) [(h0, .inr (1, [.null, .int 0, .int 0, .int 0]))] ∧ am_nsm U)) (va_Qv (fun _ : Nat → Nat => True) (fun f t => va_P D am_cl (aw_Arc cI h0 f) t.heap ∧ va_K D am_cl [(cI, .int)] t ∧ va_D (va_A [(h0, .inr (1, [.null, .int 0, .int 0, .int 0]))] sz) (aw_Arc cI h0 f)) (va_A [(h0, .inr (1, [.null, .int 0, .int 0, .int 0]))] sz)) 2 19261 (va_A [(h0, .inr (1, [.null, .int 0, .int 0, .int 0]))] sz) := by
  refine Met.ofW (cc := prog_3_method_1_code) (maxL := 1) (ret := none) (by decide) rfl ?_
  intro p e s m args below meth c s₁ B hml hv
  obtain ⟨rfl, hsz, hP, hK, hD0, hNw⟩ := hv
  have hx := B.exec
  have hb := B.bytes
  have hr := B.returns
  have hts0 := atoms_spec (ws := (Cond.code ⟨RX1, "<init>", "()V"⟩ prog_3_method_1_code 1 none :: am_tbl)) B.pre
  have hts : ∀ w ∈ am_tbl, w.before _ s = true := fun w hw => hts0 w (List.mem_cons_of_mem _ hw)
  have hown : s.vm.findClass RX1 = some m.cls := findClass_of_methodNamed B.named
  have hlocks := B.notSynchronized
  have hin : meth.name = "<init>" := (name_of_methodNamed B.named B.method).1
  subst hsz
  have hD := hD0.self (sz := s.heap.size)
  generalize hAe : va_A [(h0, .inr (1, [.null, .int 0, .int 0, .int 0]))] s.heap.size = A at hD ⊢
  have hA : ∀ q : Nat, s.heap.size ≤ q → A q := fun q h => by rw [← hAe]; exact Or.inr h
  have hS : va_S A s.heap s.heap [] := va_S.rf
  have hl := lv_entry ([.ref h0]) (n := 1) (Nat.le_of_ble_eq_true rfl)
  rw [lg_entry_eq]
  generalize (lg_sl ([.ref h0]) ++ List.replicate (1 - (lg_sl ([.ref h0])).length) Slot.unset).toArray = ls at hl ⊢
  have hl : lv_has ls 1 [(0, .ref h0)] := hl
  refine lv_aload_n hx hb dc_Arc_init_0 rfl (lv_at hl 0 rfl) ?_
  refine W.objInit hx hb hown (hts (.methodLink RX1 3 objectInit) (am_mem (i := 140) (by decide +kernel) (by decide +kernel))) (hts _ am_wob1) (hts _ am_wob2) rfl (by rw [hml]; exact hl.1) rfl dc_Arc_init_1 (Nat.le_of_ble_eq_true rfl) (Nat.le_of_ble_eq_true rfl) ?_
  refine W.eq (g2 := F0 m 4 ls []) rfl ?_
  refine lv_aload_n hx hb dc_Arc_init_4 rfl (lv_at hl 0 rfl) ?_
  refine va_new (ci := 6) (fs := [.null]) (C := RX6) (T := TX6) (N := 1) hx hb hts am_ws6 tyX6 tyX6_ok hown (hts (.classLink RX1 9 RX6) (am_mem (i := 141) (by decide +kernel) (by decide +kernel))) (hts (.instantiable RX6 1) (am_mem (i := 84) (by decide +kernel) (by decide +kernel))) (hts (.initialized RX6) (am_mem (i := 34) (by decide +kernel) (by decide +kernel))) hK hP hD hS hA rfl (fun j hj => by match j, hj with | 0, _ => rfl | j + 1, hj => exact absurd hj (by omega)) (Nat.le_of_ble_eq_true rfl) (Nat.le_of_ble_eq_true rfl) dc_Arc_init_5 (fun q1 H hP hD hS => ?_)
  have hP : va_P D am_cl [(h0, .inr (1, [.null, .int 0, .int 0, .int 0])), (q1, .inr (6, [.null]))] H := hP
  have hD : va_D A [(h0, .inr (1, [.null, .int 0, .int 0, .int 0])), (q1, .inr (6, [.null]))] := hD
  refine W.widen (k := 1) (n := 1) (by omega) (by omega) ?_
  refine lv_dup hx hb dc_Arc_init_8 rfl ?_
  refine lv_sipush (v := 19260) hx hb dc_Arc_init_9 (by decide) ?_
  have hPc := hP.sub (ws' := [(q1, .inr (6, [.null]))]) [1] rfl
  have hDc := hD.sub (ws' := [(q1, .inr (6, [.null]))]) [1] (by decide) rfl
  have hKc := hK.sub (tys' := [(cI, .int)]) [0] rfl
  have hFc := va_free (wc := [(q1, .inr (6, [.null]))]) hD hS hA [1] rfl
  refine va_callv (va_runI (As := [.int 19260]) (rest := [.ref q1, .ref h0]) ⟨hx, hb, hml, hown, hts⟩ (c_Row_init l D cI q1 H.size 19260 19260 (by decide) rfl (Nat.le_of_ble_eq_true rfl) rfl) (cwI 1 hts (am_GoodWs wc_Row_init) rfl rfl rfl (hts (.initialized RX6) (am_mem (i := 34) (by decide +kernel) (by decide +kernel))) (hts (.methodLink RX1 13 (⟨RX6, "<init>", "(I)V"⟩ : MethodName)) (am_mem (i := 142) (by decide +kernel) (by decide +kernel))) (hts (.instanceMethod (⟨RX6, "<init>", "(I)V"⟩ : MethodName)) (am_mem (i := 86) (by decide +kernel) (by decide +kernel))) rfl (by decide +kernel) ⟨Nat.le_of_ble_eq_true rfl, Nat.le_of_ble_eq_true rfl⟩) ⟨fun a U g mk q => by obtain ⟨q0, q1, qP, qK, qD, qN⟩ := q; exact ⟨q0, q1, qP, va_K.moved (u := U) (U := U.calling g mk a) (Vm.Alike.refl U.vm) qK, qD, am_nsm.same (u := U) rfl qN⟩, fun U hU hW => ⟨rfl, by rw [hU], by rw [hU]; exact hPc, va_K.moved hW.alike hKc, hDc.weaken (fun _ _ _ _ => trivial), hNw.warm hW⟩⟩ rfl rfl hl.1 rfl (lv_room (Nat.le_of_ble_eq_true rfl)) dc_Arc_init_12 ⟨Nat.le_of_ble_eq_true rfl, Nat.le_of_ble_eq_true rfl⟩) hS (fun q _ h => hFc q h) hFc (fun u t H1 locs ht hvm hw hB hz1 hk1 hS => ?_)
  obtain ⟨f2, rfl⟩ : ∃ z, z = u := ⟨_, rfl⟩
  obtain ⟨hP1, hK1, hD1⟩ := hB
  rw [ht] at hP1
  obtain ⟨hP, hD⟩ := va_join (wr := [(h0, .inr (1, [.null, .int 0, .int 0, .int 0]))]) (w1 := [(q1, .inr (6, [.ref (f2 1)])), ((f2 1), .inl (cI, 19260, .inl (fun _ => 0)))]) hP hD [1] [0] rfl rfl (by decide) (by decide) hk1 hFc hP1 hD1
  generalize H1 = H at hP hS ⊢
  have hP : va_P D am_cl [(h0, .inr (1, [.null, .int 0, .int 0, .int 0])), (q1, .inr (6, [.ref (f2 1)])), ((f2 1), .inl (cI, 19260, .inl (fun _ => 0)))] H := hP
  have hD : va_D A [(h0, .inr (1, [.null, .int 0, .int 0, .int 0])), (q1, .inr (6, [.ref (f2 1)])), ((f2 1), .inl (cI, 19260, .inl (fun _ => 0)))] := hD
  refine W.widen (k := 2) (n := 19261) (by omega) (by omega) ?_
  refine va_putF (D := D) (ci := 1) (v := .ref q1) (ty := tyX1 0) (C := RX1) (T := TX1) (N := 4) hx hb hts am_ws1 tyX1 tyX1_ok nmX1 hown hK hP hD hS 0 rfl rfl 0 (by decide) (hts (.fieldLink RX1 16 "StatuteBook$Archive" "cells" "LStatuteBook$Row;") (am_mem (i := 143) (by decide +kernel) (by decide +kernel))) (fun _ h9 => h9) rfl hin rfl (by decide +kernel) rfl rfl (Nat.le_of_ble_eq_true rfl) dc_Arc_init_15 (fun H locs hP hD hS => ?_)
  have hP : va_P D am_cl [(h0, .inr (1, [.ref q1, .int 0, .int 0, .int 0])), (q1, .inr (6, [.ref (f2 1)])), ((f2 1), .inl (cI, 19260, .inl (fun _ => 0)))] H := hP
  have hD : va_D A [(h0, .inr (1, [.ref q1, .int 0, .int 0, .int 0])), (q1, .inr (6, [.ref (f2 1)])), ((f2 1), .inl (cI, 19260, .inl (fun _ => 0)))] := hD
  have hP9 := hP.sub (ws' := [(h0, .inr (1, [.ref q1, .int 0, .int 0, .int 0])), (q1, .inr (6, [.ref (f2 1)])), ((f2 1), .inl (cI, 19260, .inl (fun _ => 0)))]) [0, 1, 2] rfl
  exact W.vret hx hb hr (fun t ht hW => ⟨⟨(fun k => match k with | 1 => q1 | 2 => (f2 1) | _ => 0), rfl, trivial, by rw [ht]; exact hP9, va_K.moved hW.alike hK, hD⟩, hS.F ht⟩) hS.2.2 dc_Arc_init_18
theorem dc_Law_init_0 : decode prog_5_method_1_code 0 = .ok (.aload_n 0, 1) := by decide +kernel
theorem dc_Law_init_1 : decode prog_5_method_1_code 1 = .ok (.invokespecial 3, 3) := by decide +kernel
theorem dc_Law_init_4 : decode prog_5_method_1_code 4 = .ok (.aload_n 0, 1) := by decide +kernel
theorem dc_Law_init_5 : decode prog_5_method_1_code 5 = .ok (.new 9, 3) := by decide +kernel
theorem dc_Law_init_8 : decode prog_5_method_1_code 8 = .ok (.dup, 1) := by decide +kernel
theorem dc_Law_init_9 : decode prog_5_method_1_code 9 = .ok (.bipush 40, 2) := by decide +kernel
theorem dc_Law_init_11 : decode prog_5_method_1_code 11 = .ok (.invokespecial 11, 3) := by decide +kernel
theorem dc_Law_init_14 : decode prog_5_method_1_code 14 = .ok (.putfield 14, 3) := by decide +kernel
theorem dc_Law_init_17 : decode prog_5_method_1_code 17 = .ok (.aload_n 0, 1) := by decide +kernel
theorem dc_Law_init_18 : decode prog_5_method_1_code 18 = .ok (.new 9, 3) := by decide +kernel
theorem dc_Law_init_21 : decode prog_5_method_1_code 21 = .ok (.dup, 1) := by decide +kernel
theorem dc_Law_init_22 : decode prog_5_method_1_code 22 = .ok (.bipush 40, 2) := by decide +kernel
theorem dc_Law_init_24 : decode prog_5_method_1_code 24 = .ok (.invokespecial 11, 3) := by decide +kernel
theorem dc_Law_init_27 : decode prog_5_method_1_code 27 = .ok (.putfield 20, 3) := by decide +kernel
theorem dc_Law_init_30 : decode prog_5_method_1_code 30 = .ok (.aload_n 0, 1) := by decide +kernel
theorem dc_Law_init_31 : decode prog_5_method_1_code 31 = .ok (.new 9, 3) := by decide +kernel
theorem dc_Law_init_34 : decode prog_5_method_1_code 34 = .ok (.dup, 1) := by decide +kernel
theorem dc_Law_init_35 : decode prog_5_method_1_code 35 = .ok (.bipush 40, 2) := by decide +kernel
theorem dc_Law_init_37 : decode prog_5_method_1_code 37 = .ok (.invokespecial 11, 3) := by decide +kernel
theorem dc_Law_init_40 : decode prog_5_method_1_code 40 = .ok (.putfield 23, 3) := by decide +kernel
theorem dc_Law_init_43 : decode prog_5_method_1_code 43 = .ok (.aload_n 0, 1) := by decide +kernel
theorem dc_Law_init_44 : decode prog_5_method_1_code 44 = .ok (.new 9, 3) := by decide +kernel
theorem dc_Law_init_47 : decode prog_5_method_1_code 47 = .ok (.dup, 1) := by decide +kernel
theorem dc_Law_init_48 : decode prog_5_method_1_code 48 = .ok (.sipush 240, 3) := by decide +kernel
theorem dc_Law_init_51 : decode prog_5_method_1_code 51 = .ok (.invokespecial 11, 3) := by decide +kernel
theorem dc_Law_init_54 : decode prog_5_method_1_code 54 = .ok (.putfield 26, 3) := by decide +kernel
theorem dc_Law_init_57 : decode prog_5_method_1_code 57 = .ok (.aload_n 0, 1) := by decide +kernel
theorem dc_Law_init_58 : decode prog_5_method_1_code 58 = .ok (.new 9, 3) := by decide +kernel
theorem dc_Law_init_61 : decode prog_5_method_1_code 61 = .ok (.dup, 1) := by decide +kernel
theorem dc_Law_init_62 : decode prog_5_method_1_code 62 = .ok (.bipush 40, 2) := by decide +kernel
theorem dc_Law_init_64 : decode prog_5_method_1_code 64 = .ok (.invokespecial 11, 3) := by decide +kernel
theorem dc_Law_init_67 : decode prog_5_method_1_code 67 = .ok (.putfield 29, 3) := by decide +kernel
theorem dc_Law_init_70 : decode prog_5_method_1_code 70 = .ok (.aload_n 0, 1) := by decide +kernel
theorem dc_Law_init_71 : decode prog_5_method_1_code 71 = .ok (.new 9, 3) := by decide +kernel
theorem dc_Law_init_74 : decode prog_5_method_1_code 74 = .ok (.dup, 1) := by decide +kernel
theorem dc_Law_init_75 : decode prog_5_method_1_code 75 = .ok (.bipush 120, 2) := by decide +kernel
theorem dc_Law_init_77 : decode prog_5_method_1_code 77 = .ok (.invokespecial 11, 3) := by decide +kernel
theorem dc_Law_init_80 : decode prog_5_method_1_code 80 = .ok (.putfield 32, 3) := by decide +kernel
theorem dc_Law_init_83 : decode prog_5_method_1_code 83 = .ok (.aload_n 0, 1) := by decide +kernel
theorem dc_Law_init_84 : decode prog_5_method_1_code 84 = .ok (.new 9, 3) := by decide +kernel
theorem dc_Law_init_87 : decode prog_5_method_1_code 87 = .ok (.dup, 1) := by decide +kernel
theorem dc_Law_init_88 : decode prog_5_method_1_code 88 = .ok (.bipush 120, 2) := by decide +kernel
theorem dc_Law_init_90 : decode prog_5_method_1_code 90 = .ok (.invokespecial 11, 3) := by decide +kernel
theorem dc_Law_init_93 : decode prog_5_method_1_code 93 = .ok (.putfield 35, 3) := by decide +kernel
theorem dc_Law_init_96 : decode prog_5_method_1_code 96 = .ok (.aload_n 0, 1) := by decide +kernel
theorem dc_Law_init_97 : decode prog_5_method_1_code 97 = .ok (.new 9, 3) := by decide +kernel
theorem dc_Law_init_100 : decode prog_5_method_1_code 100 = .ok (.dup, 1) := by decide +kernel
theorem dc_Law_init_101 : decode prog_5_method_1_code 101 = .ok (.bipush 120, 2) := by decide +kernel
theorem dc_Law_init_103 : decode prog_5_method_1_code 103 = .ok (.invokespecial 11, 3) := by decide +kernel
theorem dc_Law_init_106 : decode prog_5_method_1_code 106 = .ok (.putfield 38, 3) := by decide +kernel
theorem dc_Law_init_109 : decode prog_5_method_1_code 109 = .ok (.aload_n 0, 1) := by decide +kernel
theorem dc_Law_init_110 : decode prog_5_method_1_code 110 = .ok (.new 9, 3) := by decide +kernel
theorem dc_Law_init_113 : decode prog_5_method_1_code 113 = .ok (.dup, 1) := by decide +kernel
theorem dc_Law_init_114 : decode prog_5_method_1_code 114 = .ok (.bipush 6, 2) := by decide +kernel
theorem dc_Law_init_116 : decode prog_5_method_1_code 116 = .ok (.invokespecial 11, 3) := by decide +kernel
theorem dc_Law_init_119 : decode prog_5_method_1_code 119 = .ok (.putfield 41, 3) := by decide +kernel
theorem dc_Law_init_122 : decode prog_5_method_1_code 122 = .ok (.return_, 1) := by decide +kernel
theorem wc_Law_init : Cond.code ⟨RX3, "<init>", "()V"⟩ prog_5_method_1_code 1 none ∈ am_tbl := am_mem (i := 160) (by decide +kernel) (by decide +kernel)
def aw_Law (cI : ClassId) (h0 : Nat) (f : Nat → Nat) : va_W := [(h0, .inr (3, [.ref (f 1), .ref (f 3), .ref (f 5), .ref (f 7), .ref (f 9), .ref (f 11), .ref (f 13), .ref (f 15), .ref (f 17), .int 0, .int 0])), ((f 1), .inr (6, [.ref (f 2)])), ((f 2), .inl (cI, 40, .inl (fun _ => 0))), ((f 3), .inr (6, [.ref (f 4)])), ((f 4), .inl (cI, 40, .inl (fun _ => 0))), ((f 5), .inr (6, [.ref (f 6)])), ((f 6), .inl (cI, 40, .inl (fun _ => 0))), ((f 7), .inr (6, [.ref (f 8)])), ((f 8), .inl (cI, 240, .inl (fun _ => 0))), ((f 9), .inr (6, [.ref (f 10)])), ((f 10), .inl (cI, 40, .inl (fun _ => 0))), ((f 11), .inr (6, [.ref (f 12)])), ((f 12), .inl (cI, 120, .inl (fun _ => 0))), ((f 13), .inr (6, [.ref (f 14)])), ((f 14), .inl (cI, 120, .inl (fun _ => 0))), ((f 15), .inr (6, [.ref (f 16)])), ((f 16), .inl (cI, 120, .inl (fun _ => 0))), ((f 17), .inr (6, [.ref (f 18)])), ((f 18), .inl (cI, 6, .inl (fun _ => 0)))]
set_option maxHeartbeats 4000000 in
set_option maxRecDepth 100000 in
theorem c_Law_init (l : Launch) (D : va_G) (cI : ClassId) (h0 : Nat) (sz : Nat) : Met l ⟨RX3, "<init>", "()V"⟩ (Cond.code ⟨RX3, "<init>", "()V"⟩ prog_5_method_1_code 1 none :: am_tbl) ({ frames := 2, cells := 18, slots := 775, locals := 42 }) (va_Pc [.ref h0] (fun U => U.heap.size = sz ∧ va_P D am_cl [(h0, .inr (3, [.null, .null, .null, .null, .null, .null, .null, .null, .null, .int 0, .int 0]))] U.heap ∧ va_K D am_cl [(cI, .int)] U ∧ va_D (fun _ => True) [(h0, .inr (3, [.null, .null, .null, .null, .null, .null, .null, .null, .null, .int 0, .int 0]))] ∧ am_nsm U)) (va_Qv (fun _ : Nat → Nat => True) (fun f t => va_P D am_cl (aw_Law cI h0 f) t.heap ∧ va_K D am_cl [(cI, .int)] t ∧ va_D (va_A [(h0, .inr (3, [.null, .null, .null, .null, .null, .null, .null, .null, .null, .int 0, .int 0]))] sz) (aw_Law cI h0 f)) (va_A [(h0, .inr (3, [.null, .null, .null, .null, .null, .null, .null, .null, .null, .int 0, .int 0]))] sz)) 18 775 (va_A [(h0, .inr (3, [.null, .null, .null, .null, .null, .null, .null, .null, .null, .int 0, .int 0]))] sz) := by
  refine Met.ofW (cc := prog_5_method_1_code) (maxL := 1) (ret := none) (by decide) rfl ?_
  intro p e s m args below meth c s₁ B hml hv
  obtain ⟨rfl, hsz, hP, hK, hD0, hNw⟩ := hv
  have hx := B.exec
  have hb := B.bytes
  have hr := B.returns
  have hts0 := atoms_spec (ws := (Cond.code ⟨RX3, "<init>", "()V"⟩ prog_5_method_1_code 1 none :: am_tbl)) B.pre
  have hts : ∀ w ∈ am_tbl, w.before _ s = true := fun w hw => hts0 w (List.mem_cons_of_mem _ hw)
  have hown : s.vm.findClass RX3 = some m.cls := findClass_of_methodNamed B.named
  have hlocks := B.notSynchronized
  have hin : meth.name = "<init>" := (name_of_methodNamed B.named B.method).1
  subst hsz
  have hD := hD0.self (sz := s.heap.size)
  generalize hAe : va_A [(h0, .inr (3, [.null, .null, .null, .null, .null, .null, .null, .null, .null, .int 0, .int 0]))] s.heap.size = A at hD ⊢
  have hA : ∀ q : Nat, s.heap.size ≤ q → A q := fun q h => by rw [← hAe]; exact Or.inr h
  have hS : va_S A s.heap s.heap [] := va_S.rf
  have hl := lv_entry ([.ref h0]) (n := 1) (Nat.le_of_ble_eq_true rfl)
  rw [lg_entry_eq]
  generalize (lg_sl ([.ref h0]) ++ List.replicate (1 - (lg_sl ([.ref h0])).length) Slot.unset).toArray = ls at hl ⊢
  have hl : lv_has ls 1 [(0, .ref h0)] := hl
  refine lv_aload_n hx hb dc_Law_init_0 rfl (lv_at hl 0 rfl) ?_
  refine W.objInit hx hb hown (hts (.methodLink RX3 3 objectInit) (am_mem (i := 161) (by decide +kernel) (by decide +kernel))) (hts _ am_wob1) (hts _ am_wob2) rfl (by rw [hml]; exact hl.1) rfl dc_Law_init_1 (Nat.le_of_ble_eq_true rfl) (Nat.le_of_ble_eq_true rfl) ?_
  refine W.eq (g2 := F0 m 4 ls []) rfl ?_
  refine lv_aload_n hx hb dc_Law_init_4 rfl (lv_at hl 0 rfl) ?_
  refine va_new (ci := 6) (fs := [.null]) (C := RX6) (T := TX6) (N := 1) hx hb hts am_ws6 tyX6 tyX6_ok hown (hts (.classLink RX3 9 RX6) (am_mem (i := 162) (by decide +kernel) (by decide +kernel))) (hts (.instantiable RX6 1) (am_mem (i := 84) (by decide +kernel) (by decide +kernel))) (hts (.initialized RX6) (am_mem (i := 34) (by decide +kernel) (by decide +kernel))) hK hP hD hS hA rfl (fun j hj => by match j, hj with | 0, _ => rfl | j + 1, hj => exact absurd hj (by omega)) (Nat.le_of_ble_eq_true rfl) (Nat.le_of_ble_eq_true rfl) dc_Law_init_5 (fun q1 H hP hD hS => ?_)
  have hP : va_P D am_cl [(h0, .inr (3, [.null, .null, .null, .null, .null, .null, .null, .null, .null, .int 0, .int 0])), (q1, .inr (6, [.null]))] H := hP
  have hD : va_D A [(h0, .inr (3, [.null, .null, .null, .null, .null, .null, .null, .null, .null, .int 0, .int 0])), (q1, .inr (6, [.null]))] := hD
  refine W.widen (k := 1) (n := 1) (by omega) (by omega) ?_
  refine lv_dup hx hb dc_Law_init_8 rfl ?_
  refine lv_bipush (v := 40) hx hb dc_Law_init_9 (by decide) ?_
  have hPc := hP.sub (ws' := [(q1, .inr (6, [.null]))]) [1] rfl
  have hDc := hD.sub (ws' := [(q1, .inr (6, [.null]))]) [1] (by decide) rfl
  have hKc := hK.sub (tys' := [(cI, .int)]) [0] rfl
  have hFc := va_free (wc := [(q1, .inr (6, [.null]))]) hD hS hA [1] rfl
  refine va_callv (va_runI (As := [.int 40]) (rest := [.ref q1, .ref h0]) ⟨hx, hb, hml, hown, hts⟩ (c_Row_init l D cI q1 H.size 40 40 (by decide) rfl (Nat.le_of_ble_eq_true rfl) rfl) (cwI 1 hts (am_GoodWs wc_Row_init) rfl rfl rfl (hts (.initialized RX6) (am_mem (i := 34) (by decide +kernel) (by decide +kernel))) (hts (.methodLink RX3 11 (⟨RX6, "<init>", "(I)V"⟩ : MethodName)) (am_mem (i := 163) (by decide +kernel) (by decide +kernel))) (hts (.instanceMethod (⟨RX6, "<init>", "(I)V"⟩ : MethodName)) (am_mem (i := 86) (by decide +kernel) (by decide +kernel))) rfl (by decide +kernel) ⟨Nat.le_of_ble_eq_true rfl, Nat.le_of_ble_eq_true rfl⟩) ⟨fun a U g mk q => by obtain ⟨q0, q1, qP, qK, qD, qN⟩ := q; exact ⟨q0, q1, qP, va_K.moved (u := U) (U := U.calling g mk a) (Vm.Alike.refl U.vm) qK, qD, am_nsm.same (u := U) rfl qN⟩, fun U hU hW => ⟨rfl, by rw [hU], by rw [hU]; exact hPc, va_K.moved hW.alike hKc, hDc.weaken (fun _ _ _ _ => trivial), hNw.warm hW⟩⟩ rfl rfl hl.1 rfl (lv_room (Nat.le_of_ble_eq_true rfl)) dc_Law_init_11 ⟨Nat.le_of_ble_eq_true rfl, Nat.le_of_ble_eq_true rfl⟩) hS (fun q _ h => hFc q h) hFc (fun u t H1 locs ht hvm hw hB hz1 hk1 hS => ?_)
  obtain ⟨f2, rfl⟩ : ∃ z, z = u := ⟨_, rfl⟩
  obtain ⟨hP1, hK1, hD1⟩ := hB
  rw [ht] at hP1
  obtain ⟨hP, hD⟩ := va_join (wr := [(h0, .inr (3, [.null, .null, .null, .null, .null, .null, .null, .null, .null, .int 0, .int 0]))]) (w1 := [(q1, .inr (6, [.ref (f2 1)])), ((f2 1), .inl (cI, 40, .inl (fun _ => 0)))]) hP hD [1] [0] rfl rfl (by decide) (by decide) hk1 hFc hP1 hD1
  generalize H1 = H at hP hS ⊢
  have hP : va_P D am_cl [(h0, .inr (3, [.null, .null, .null, .null, .null, .null, .null, .null, .null, .int 0, .int 0])), (q1, .inr (6, [.ref (f2 1)])), ((f2 1), .inl (cI, 40, .inl (fun _ => 0)))] H := hP
  have hD : va_D A [(h0, .inr (3, [.null, .null, .null, .null, .null, .null, .null, .null, .null, .int 0, .int 0])), (q1, .inr (6, [.ref (f2 1)])), ((f2 1), .inl (cI, 40, .inl (fun _ => 0)))] := hD
  refine W.widen (k := 2) (n := 41) (by omega) (by omega) ?_
  refine va_putF (D := D) (ci := 3) (v := .ref q1) (ty := tyX3 0) (C := RX3) (T := TX3) (N := 11) hx hb hts am_ws3 tyX3 tyX3_ok nmX3 hown hK hP hD hS 0 rfl rfl 0 (by decide) (hts (.fieldLink RX3 14 "StatuteBook$Law" "codes" "LStatuteBook$Row;") (am_mem (i := 164) (by decide +kernel) (by decide +kernel))) (fun _ h9 => h9) rfl hin rfl (by decide +kernel) rfl rfl (Nat.le_of_ble_eq_true rfl) dc_Law_init_14 (fun H locs hP hD hS => ?_)
  have hP : va_P D am_cl [(h0, .inr (3, [.ref q1, .null, .null, .null, .null, .null, .null, .null, .null, .int 0, .int 0])), (q1, .inr (6, [.ref (f2 1)])), ((f2 1), .inl (cI, 40, .inl (fun _ => 0)))] H := hP
  have hD : va_D A [(h0, .inr (3, [.ref q1, .null, .null, .null, .null, .null, .null, .null, .null, .int 0, .int 0])), (q1, .inr (6, [.ref (f2 1)])), ((f2 1), .inl (cI, 40, .inl (fun _ => 0)))] := hD
  refine lv_aload_n hx hb dc_Law_init_17 rfl (lv_at hl 0 rfl) ?_
  refine va_new (ci := 6) (fs := [.null]) (C := RX6) (T := TX6) (N := 1) hx hb hts am_ws6 tyX6 tyX6_ok hown (hts (.classLink RX3 9 RX6) (am_mem (i := 162) (by decide +kernel) (by decide +kernel))) (hts (.instantiable RX6 1) (am_mem (i := 84) (by decide +kernel) (by decide +kernel))) (hts (.initialized RX6) (am_mem (i := 34) (by decide +kernel) (by decide +kernel))) hK hP hD hS hA rfl (fun j hj => by match j, hj with | 0, _ => rfl | j + 1, hj => exact absurd hj (by omega)) (Nat.le_of_ble_eq_true rfl) (Nat.le_of_ble_eq_true rfl) dc_Law_init_18 (fun q3 H hP hD hS => ?_)
  have hP : va_P D am_cl [(h0, .inr (3, [.ref q1, .null, .null, .null, .null, .null, .null, .null, .null, .int 0, .int 0])), (q1, .inr (6, [.ref (f2 1)])), ((f2 1), .inl (cI, 40, .inl (fun _ => 0))), (q3, .inr (6, [.null]))] H := hP
  have hD : va_D A [(h0, .inr (3, [.ref q1, .null, .null, .null, .null, .null, .null, .null, .null, .int 0, .int 0])), (q1, .inr (6, [.ref (f2 1)])), ((f2 1), .inl (cI, 40, .inl (fun _ => 0))), (q3, .inr (6, [.null]))] := hD
  refine W.widen (k := 3) (n := 42) (by omega) (by omega) ?_
  refine lv_dup hx hb dc_Law_init_21 rfl ?_
  refine lv_bipush (v := 40) hx hb dc_Law_init_22 (by decide) ?_
  have hPc := hP.sub (ws' := [(q3, .inr (6, [.null]))]) [3] rfl
  have hDc := hD.sub (ws' := [(q3, .inr (6, [.null]))]) [3] (by decide) rfl
  have hKc := hK.sub (tys' := [(cI, .int)]) [0] rfl
  have hFc := va_free (wc := [(q3, .inr (6, [.null]))]) hD hS hA [3] rfl
  refine va_callv (va_runI (As := [.int 40]) (rest := [.ref q3, .ref h0]) ⟨hx, hb, hml, hown, hts⟩ (c_Row_init l D cI q3 H.size 40 40 (by decide) rfl (Nat.le_of_ble_eq_true rfl) rfl) (cwI 1 hts (am_GoodWs wc_Row_init) rfl rfl rfl (hts (.initialized RX6) (am_mem (i := 34) (by decide +kernel) (by decide +kernel))) (hts (.methodLink RX3 11 (⟨RX6, "<init>", "(I)V"⟩ : MethodName)) (am_mem (i := 163) (by decide +kernel) (by decide +kernel))) (hts (.instanceMethod (⟨RX6, "<init>", "(I)V"⟩ : MethodName)) (am_mem (i := 86) (by decide +kernel) (by decide +kernel))) rfl (by decide +kernel) ⟨Nat.le_of_ble_eq_true rfl, Nat.le_of_ble_eq_true rfl⟩) ⟨fun a U g mk q => by obtain ⟨q0, q1, qP, qK, qD, qN⟩ := q; exact ⟨q0, q1, qP, va_K.moved (u := U) (U := U.calling g mk a) (Vm.Alike.refl U.vm) qK, qD, am_nsm.same (u := U) rfl qN⟩, fun U hU hW => ⟨rfl, by rw [hU], by rw [hU]; exact hPc, va_K.moved hW.alike hKc, hDc.weaken (fun _ _ _ _ => trivial), hNw.warm hW⟩⟩ rfl rfl hl.1 rfl (lv_room (Nat.le_of_ble_eq_true rfl)) dc_Law_init_24 ⟨Nat.le_of_ble_eq_true rfl, Nat.le_of_ble_eq_true rfl⟩) hS (fun q _ h => hFc q h) hFc (fun u t H1 locs ht hvm hw hB hz1 hk1 hS => ?_)
  obtain ⟨f4, rfl⟩ : ∃ z, z = u := ⟨_, rfl⟩
  obtain ⟨hP1, hK1, hD1⟩ := hB
  rw [ht] at hP1
  obtain ⟨hP, hD⟩ := va_join (wr := [(h0, .inr (3, [.ref q1, .null, .null, .null, .null, .null, .null, .null, .null, .int 0, .int 0])), (q1, .inr (6, [.ref (f2 1)])), ((f2 1), .inl (cI, 40, .inl (fun _ => 0)))]) (w1 := [(q3, .inr (6, [.ref (f4 1)])), ((f4 1), .inl (cI, 40, .inl (fun _ => 0)))]) hP hD [3] [0, 1, 2] rfl rfl (by decide) (by decide) hk1 hFc hP1 hD1
  generalize H1 = H at hP hS ⊢
  have hP : va_P D am_cl [(h0, .inr (3, [.ref q1, .null, .null, .null, .null, .null, .null, .null, .null, .int 0, .int 0])), (q1, .inr (6, [.ref (f2 1)])), ((f2 1), .inl (cI, 40, .inl (fun _ => 0))), (q3, .inr (6, [.ref (f4 1)])), ((f4 1), .inl (cI, 40, .inl (fun _ => 0)))] H := hP
  have hD : va_D A [(h0, .inr (3, [.ref q1, .null, .null, .null, .null, .null, .null, .null, .null, .int 0, .int 0])), (q1, .inr (6, [.ref (f2 1)])), ((f2 1), .inl (cI, 40, .inl (fun _ => 0))), (q3, .inr (6, [.ref (f4 1)])), ((f4 1), .inl (cI, 40, .inl (fun _ => 0)))] := hD
  refine W.widen (k := 4) (n := 82) (by omega) (by omega) ?_
  refine va_putF (D := D) (ci := 3) (v := .ref q3) (ty := tyX3 1) (C := RX3) (T := TX3) (N := 11) hx hb hts am_ws3 tyX3 tyX3_ok nmX3 hown hK hP hD hS 0 rfl rfl 1 (by decide) (hts (.fieldLink RX3 20 "StatuteBook$Law" "lastDays" "LStatuteBook$Row;") (am_mem (i := 165) (by decide +kernel) (by decide +kernel))) (fun _ h9 => h9) rfl hin rfl (by decide +kernel) rfl rfl (Nat.le_of_ble_eq_true rfl) dc_Law_init_27 (fun H locs hP hD hS => ?_)
  have hP : va_P D am_cl [(h0, .inr (3, [.ref q1, .ref q3, .null, .null, .null, .null, .null, .null, .null, .int 0, .int 0])), (q1, .inr (6, [.ref (f2 1)])), ((f2 1), .inl (cI, 40, .inl (fun _ => 0))), (q3, .inr (6, [.ref (f4 1)])), ((f4 1), .inl (cI, 40, .inl (fun _ => 0)))] H := hP
  have hD : va_D A [(h0, .inr (3, [.ref q1, .ref q3, .null, .null, .null, .null, .null, .null, .null, .int 0, .int 0])), (q1, .inr (6, [.ref (f2 1)])), ((f2 1), .inl (cI, 40, .inl (fun _ => 0))), (q3, .inr (6, [.ref (f4 1)])), ((f4 1), .inl (cI, 40, .inl (fun _ => 0)))] := hD
  refine lv_aload_n hx hb dc_Law_init_30 rfl (lv_at hl 0 rfl) ?_
  refine va_new (ci := 6) (fs := [.null]) (C := RX6) (T := TX6) (N := 1) hx hb hts am_ws6 tyX6 tyX6_ok hown (hts (.classLink RX3 9 RX6) (am_mem (i := 162) (by decide +kernel) (by decide +kernel))) (hts (.instantiable RX6 1) (am_mem (i := 84) (by decide +kernel) (by decide +kernel))) (hts (.initialized RX6) (am_mem (i := 34) (by decide +kernel) (by decide +kernel))) hK hP hD hS hA rfl (fun j hj => by match j, hj with | 0, _ => rfl | j + 1, hj => exact absurd hj (by omega)) (Nat.le_of_ble_eq_true rfl) (Nat.le_of_ble_eq_true rfl) dc_Law_init_31 (fun q5 H hP hD hS => ?_)
  have hP : va_P D am_cl [(h0, .inr (3, [.ref q1, .ref q3, .null, .null, .null, .null, .null, .null, .null, .int 0, .int 0])), (q1, .inr (6, [.ref (f2 1)])), ((f2 1), .inl (cI, 40, .inl (fun _ => 0))), (q3, .inr (6, [.ref (f4 1)])), ((f4 1), .inl (cI, 40, .inl (fun _ => 0))), (q5, .inr (6, [.null]))] H := hP
  have hD : va_D A [(h0, .inr (3, [.ref q1, .ref q3, .null, .null, .null, .null, .null, .null, .null, .int 0, .int 0])), (q1, .inr (6, [.ref (f2 1)])), ((f2 1), .inl (cI, 40, .inl (fun _ => 0))), (q3, .inr (6, [.ref (f4 1)])), ((f4 1), .inl (cI, 40, .inl (fun _ => 0))), (q5, .inr (6, [.null]))] := hD
  refine W.widen (k := 5) (n := 83) (by omega) (by omega) ?_
  refine lv_dup hx hb dc_Law_init_34 rfl ?_
  refine lv_bipush (v := 40) hx hb dc_Law_init_35 (by decide) ?_
  have hPc := hP.sub (ws' := [(q5, .inr (6, [.null]))]) [5] rfl
  have hDc := hD.sub (ws' := [(q5, .inr (6, [.null]))]) [5] (by decide) rfl
  have hKc := hK.sub (tys' := [(cI, .int)]) [0] rfl
  have hFc := va_free (wc := [(q5, .inr (6, [.null]))]) hD hS hA [5] rfl
  refine va_callv (va_runI (As := [.int 40]) (rest := [.ref q5, .ref h0]) ⟨hx, hb, hml, hown, hts⟩ (c_Row_init l D cI q5 H.size 40 40 (by decide) rfl (Nat.le_of_ble_eq_true rfl) rfl) (cwI 1 hts (am_GoodWs wc_Row_init) rfl rfl rfl (hts (.initialized RX6) (am_mem (i := 34) (by decide +kernel) (by decide +kernel))) (hts (.methodLink RX3 11 (⟨RX6, "<init>", "(I)V"⟩ : MethodName)) (am_mem (i := 163) (by decide +kernel) (by decide +kernel))) (hts (.instanceMethod (⟨RX6, "<init>", "(I)V"⟩ : MethodName)) (am_mem (i := 86) (by decide +kernel) (by decide +kernel))) rfl (by decide +kernel) ⟨Nat.le_of_ble_eq_true rfl, Nat.le_of_ble_eq_true rfl⟩) ⟨fun a U g mk q => by obtain ⟨q0, q1, qP, qK, qD, qN⟩ := q; exact ⟨q0, q1, qP, va_K.moved (u := U) (U := U.calling g mk a) (Vm.Alike.refl U.vm) qK, qD, am_nsm.same (u := U) rfl qN⟩, fun U hU hW => ⟨rfl, by rw [hU], by rw [hU]; exact hPc, va_K.moved hW.alike hKc, hDc.weaken (fun _ _ _ _ => trivial), hNw.warm hW⟩⟩ rfl rfl hl.1 rfl (lv_room (Nat.le_of_ble_eq_true rfl)) dc_Law_init_37 ⟨Nat.le_of_ble_eq_true rfl, Nat.le_of_ble_eq_true rfl⟩) hS (fun q _ h => hFc q h) hFc (fun u t H1 locs ht hvm hw hB hz1 hk1 hS => ?_)
  obtain ⟨f6, rfl⟩ : ∃ z, z = u := ⟨_, rfl⟩
  obtain ⟨hP1, hK1, hD1⟩ := hB
  rw [ht] at hP1
  obtain ⟨hP, hD⟩ := va_join (wr := [(h0, .inr (3, [.ref q1, .ref q3, .null, .null, .null, .null, .null, .null, .null, .int 0, .int 0])), (q1, .inr (6, [.ref (f2 1)])), ((f2 1), .inl (cI, 40, .inl (fun _ => 0))), (q3, .inr (6, [.ref (f4 1)])), ((f4 1), .inl (cI, 40, .inl (fun _ => 0)))]) (w1 := [(q5, .inr (6, [.ref (f6 1)])), ((f6 1), .inl (cI, 40, .inl (fun _ => 0)))]) hP hD [5] [0, 1, 2, 3, 4] rfl rfl (by decide) (by decide) hk1 hFc hP1 hD1
  generalize H1 = H at hP hS ⊢
  have hP : va_P D am_cl [(h0, .inr (3, [.ref q1, .ref q3, .null, .null, .null, .null, .null, .null, .null, .int 0, .int 0])), (q1, .inr (6, [.ref (f2 1)])), ((f2 1), .inl (cI, 40, .inl (fun _ => 0))), (q3, .inr (6, [.ref (f4 1)])), ((f4 1), .inl (cI, 40, .inl (fun _ => 0))), (q5, .inr (6, [.ref (f6 1)])), ((f6 1), .inl (cI, 40, .inl (fun _ => 0)))] H := hP
  have hD : va_D A [(h0, .inr (3, [.ref q1, .ref q3, .null, .null, .null, .null, .null, .null, .null, .int 0, .int 0])), (q1, .inr (6, [.ref (f2 1)])), ((f2 1), .inl (cI, 40, .inl (fun _ => 0))), (q3, .inr (6, [.ref (f4 1)])), ((f4 1), .inl (cI, 40, .inl (fun _ => 0))), (q5, .inr (6, [.ref (f6 1)])), ((f6 1), .inl (cI, 40, .inl (fun _ => 0)))] := hD
  refine W.widen (k := 6) (n := 123) (by omega) (by omega) ?_
  refine va_putF (D := D) (ci := 3) (v := .ref q5) (ty := tyX3 2) (C := RX3) (T := TX3) (N := 11) hx hb hts am_ws3 tyX3 tyX3_ok nmX3 hown hK hP hD hS 0 rfl rfl 2 (by decide) (hts (.fieldLink RX3 23 "StatuteBook$Law" "lengths" "LStatuteBook$Row;") (am_mem (i := 166) (by decide +kernel) (by decide +kernel))) (fun _ h9 => h9) rfl hin rfl (by decide +kernel) rfl rfl (Nat.le_of_ble_eq_true rfl) dc_Law_init_40 (fun H locs hP hD hS => ?_)
  have hP : va_P D am_cl [(h0, .inr (3, [.ref q1, .ref q3, .ref q5, .null, .null, .null, .null, .null, .null, .int 0, .int 0])), (q1, .inr (6, [.ref (f2 1)])), ((f2 1), .inl (cI, 40, .inl (fun _ => 0))), (q3, .inr (6, [.ref (f4 1)])), ((f4 1), .inl (cI, 40, .inl (fun _ => 0))), (q5, .inr (6, [.ref (f6 1)])), ((f6 1), .inl (cI, 40, .inl (fun _ => 0)))] H := hP
  have hD : va_D A [(h0, .inr (3, [.ref q1, .ref q3, .ref q5, .null, .null, .null, .null, .null, .null, .int 0, .int 0])), (q1, .inr (6, [.ref (f2 1)])), ((f2 1), .inl (cI, 40, .inl (fun _ => 0))), (q3, .inr (6, [.ref (f4 1)])), ((f4 1), .inl (cI, 40, .inl (fun _ => 0))), (q5, .inr (6, [.ref (f6 1)])), ((f6 1), .inl (cI, 40, .inl (fun _ => 0)))] := hD
  refine lv_aload_n hx hb dc_Law_init_43 rfl (lv_at hl 0 rfl) ?_
  refine va_new (ci := 6) (fs := [.null]) (C := RX6) (T := TX6) (N := 1) hx hb hts am_ws6 tyX6 tyX6_ok hown (hts (.classLink RX3 9 RX6) (am_mem (i := 162) (by decide +kernel) (by decide +kernel))) (hts (.instantiable RX6 1) (am_mem (i := 84) (by decide +kernel) (by decide +kernel))) (hts (.initialized RX6) (am_mem (i := 34) (by decide +kernel) (by decide +kernel))) hK hP hD hS hA rfl (fun j hj => by match j, hj with | 0, _ => rfl | j + 1, hj => exact absurd hj (by omega)) (Nat.le_of_ble_eq_true rfl) (Nat.le_of_ble_eq_true rfl) dc_Law_init_44 (fun q7 H hP hD hS => ?_)
  have hP : va_P D am_cl [(h0, .inr (3, [.ref q1, .ref q3, .ref q5, .null, .null, .null, .null, .null, .null, .int 0, .int 0])), (q1, .inr (6, [.ref (f2 1)])), ((f2 1), .inl (cI, 40, .inl (fun _ => 0))), (q3, .inr (6, [.ref (f4 1)])), ((f4 1), .inl (cI, 40, .inl (fun _ => 0))), (q5, .inr (6, [.ref (f6 1)])), ((f6 1), .inl (cI, 40, .inl (fun _ => 0))), (q7, .inr (6, [.null]))] H := hP
  have hD : va_D A [(h0, .inr (3, [.ref q1, .ref q3, .ref q5, .null, .null, .null, .null, .null, .null, .int 0, .int 0])), (q1, .inr (6, [.ref (f2 1)])), ((f2 1), .inl (cI, 40, .inl (fun _ => 0))), (q3, .inr (6, [.ref (f4 1)])), ((f4 1), .inl (cI, 40, .inl (fun _ => 0))), (q5, .inr (6, [.ref (f6 1)])), ((f6 1), .inl (cI, 40, .inl (fun _ => 0))), (q7, .inr (6, [.null]))] := hD
  refine W.widen (k := 7) (n := 124) (by omega) (by omega) ?_
  refine lv_dup hx hb dc_Law_init_47 rfl ?_
  refine lv_sipush (v := 240) hx hb dc_Law_init_48 (by decide) ?_
  have hPc := hP.sub (ws' := [(q7, .inr (6, [.null]))]) [7] rfl
  have hDc := hD.sub (ws' := [(q7, .inr (6, [.null]))]) [7] (by decide) rfl
  have hKc := hK.sub (tys' := [(cI, .int)]) [0] rfl
  have hFc := va_free (wc := [(q7, .inr (6, [.null]))]) hD hS hA [7] rfl
  refine va_callv (va_runI (As := [.int 240]) (rest := [.ref q7, .ref h0]) ⟨hx, hb, hml, hown, hts⟩ (c_Row_init l D cI q7 H.size 240 240 (by decide) rfl (Nat.le_of_ble_eq_true rfl) rfl) (cwI 1 hts (am_GoodWs wc_Row_init) rfl rfl rfl (hts (.initialized RX6) (am_mem (i := 34) (by decide +kernel) (by decide +kernel))) (hts (.methodLink RX3 11 (⟨RX6, "<init>", "(I)V"⟩ : MethodName)) (am_mem (i := 163) (by decide +kernel) (by decide +kernel))) (hts (.instanceMethod (⟨RX6, "<init>", "(I)V"⟩ : MethodName)) (am_mem (i := 86) (by decide +kernel) (by decide +kernel))) rfl (by decide +kernel) ⟨Nat.le_of_ble_eq_true rfl, Nat.le_of_ble_eq_true rfl⟩) ⟨fun a U g mk q => by obtain ⟨q0, q1, qP, qK, qD, qN⟩ := q; exact ⟨q0, q1, qP, va_K.moved (u := U) (U := U.calling g mk a) (Vm.Alike.refl U.vm) qK, qD, am_nsm.same (u := U) rfl qN⟩, fun U hU hW => ⟨rfl, by rw [hU], by rw [hU]; exact hPc, va_K.moved hW.alike hKc, hDc.weaken (fun _ _ _ _ => trivial), hNw.warm hW⟩⟩ rfl rfl hl.1 rfl (lv_room (Nat.le_of_ble_eq_true rfl)) dc_Law_init_51 ⟨Nat.le_of_ble_eq_true rfl, Nat.le_of_ble_eq_true rfl⟩) hS (fun q _ h => hFc q h) hFc (fun u t H1 locs ht hvm hw hB hz1 hk1 hS => ?_)
  obtain ⟨f8, rfl⟩ : ∃ z, z = u := ⟨_, rfl⟩
  obtain ⟨hP1, hK1, hD1⟩ := hB
  rw [ht] at hP1
  obtain ⟨hP, hD⟩ := va_join (wr := [(h0, .inr (3, [.ref q1, .ref q3, .ref q5, .null, .null, .null, .null, .null, .null, .int 0, .int 0])), (q1, .inr (6, [.ref (f2 1)])), ((f2 1), .inl (cI, 40, .inl (fun _ => 0))), (q3, .inr (6, [.ref (f4 1)])), ((f4 1), .inl (cI, 40, .inl (fun _ => 0))), (q5, .inr (6, [.ref (f6 1)])), ((f6 1), .inl (cI, 40, .inl (fun _ => 0)))]) (w1 := [(q7, .inr (6, [.ref (f8 1)])), ((f8 1), .inl (cI, 240, .inl (fun _ => 0)))]) hP hD [7] [0, 1, 2, 3, 4, 5, 6] rfl rfl (by decide) (by decide) hk1 hFc hP1 hD1
  generalize H1 = H at hP hS ⊢
  have hP : va_P D am_cl [(h0, .inr (3, [.ref q1, .ref q3, .ref q5, .null, .null, .null, .null, .null, .null, .int 0, .int 0])), (q1, .inr (6, [.ref (f2 1)])), ((f2 1), .inl (cI, 40, .inl (fun _ => 0))), (q3, .inr (6, [.ref (f4 1)])), ((f4 1), .inl (cI, 40, .inl (fun _ => 0))), (q5, .inr (6, [.ref (f6 1)])), ((f6 1), .inl (cI, 40, .inl (fun _ => 0))), (q7, .inr (6, [.ref (f8 1)])), ((f8 1), .inl (cI, 240, .inl (fun _ => 0)))] H := hP
  have hD : va_D A [(h0, .inr (3, [.ref q1, .ref q3, .ref q5, .null, .null, .null, .null, .null, .null, .int 0, .int 0])), (q1, .inr (6, [.ref (f2 1)])), ((f2 1), .inl (cI, 40, .inl (fun _ => 0))), (q3, .inr (6, [.ref (f4 1)])), ((f4 1), .inl (cI, 40, .inl (fun _ => 0))), (q5, .inr (6, [.ref (f6 1)])), ((f6 1), .inl (cI, 40, .inl (fun _ => 0))), (q7, .inr (6, [.ref (f8 1)])), ((f8 1), .inl (cI, 240, .inl (fun _ => 0)))] := hD
  refine W.widen (k := 8) (n := 364) (by omega) (by omega) ?_
  refine va_putF (D := D) (ci := 3) (v := .ref q7) (ty := tyX3 3) (C := RX3) (T := TX3) (N := 11) hx hb hts am_ws3 tyX3 tyX3_ok nmX3 hown hK hP hD hS 0 rfl rfl 3 (by decide) (hts (.fieldLink RX3 26 "StatuteBook$Law" "texts" "LStatuteBook$Row;") (am_mem (i := 167) (by decide +kernel) (by decide +kernel))) (fun _ h9 => h9) rfl hin rfl (by decide +kernel) rfl rfl (Nat.le_of_ble_eq_true rfl) dc_Law_init_54 (fun H locs hP hD hS => ?_)
  have hP : va_P D am_cl [(h0, .inr (3, [.ref q1, .ref q3, .ref q5, .ref q7, .null, .null, .null, .null, .null, .int 0, .int 0])), (q1, .inr (6, [.ref (f2 1)])), ((f2 1), .inl (cI, 40, .inl (fun _ => 0))), (q3, .inr (6, [.ref (f4 1)])), ((f4 1), .inl (cI, 40, .inl (fun _ => 0))), (q5, .inr (6, [.ref (f6 1)])), ((f6 1), .inl (cI, 40, .inl (fun _ => 0))), (q7, .inr (6, [.ref (f8 1)])), ((f8 1), .inl (cI, 240, .inl (fun _ => 0)))] H := hP
  have hD : va_D A [(h0, .inr (3, [.ref q1, .ref q3, .ref q5, .ref q7, .null, .null, .null, .null, .null, .int 0, .int 0])), (q1, .inr (6, [.ref (f2 1)])), ((f2 1), .inl (cI, 40, .inl (fun _ => 0))), (q3, .inr (6, [.ref (f4 1)])), ((f4 1), .inl (cI, 40, .inl (fun _ => 0))), (q5, .inr (6, [.ref (f6 1)])), ((f6 1), .inl (cI, 40, .inl (fun _ => 0))), (q7, .inr (6, [.ref (f8 1)])), ((f8 1), .inl (cI, 240, .inl (fun _ => 0)))] := hD
  refine lv_aload_n hx hb dc_Law_init_57 rfl (lv_at hl 0 rfl) ?_
  refine va_new (ci := 6) (fs := [.null]) (C := RX6) (T := TX6) (N := 1) hx hb hts am_ws6 tyX6 tyX6_ok hown (hts (.classLink RX3 9 RX6) (am_mem (i := 162) (by decide +kernel) (by decide +kernel))) (hts (.instantiable RX6 1) (am_mem (i := 84) (by decide +kernel) (by decide +kernel))) (hts (.initialized RX6) (am_mem (i := 34) (by decide +kernel) (by decide +kernel))) hK hP hD hS hA rfl (fun j hj => by match j, hj with | 0, _ => rfl | j + 1, hj => exact absurd hj (by omega)) (Nat.le_of_ble_eq_true rfl) (Nat.le_of_ble_eq_true rfl) dc_Law_init_58 (fun q9 H hP hD hS => ?_)
  have hP : va_P D am_cl [(h0, .inr (3, [.ref q1, .ref q3, .ref q5, .ref q7, .null, .null, .null, .null, .null, .int 0, .int 0])), (q1, .inr (6, [.ref (f2 1)])), ((f2 1), .inl (cI, 40, .inl (fun _ => 0))), (q3, .inr (6, [.ref (f4 1)])), ((f4 1), .inl (cI, 40, .inl (fun _ => 0))), (q5, .inr (6, [.ref (f6 1)])), ((f6 1), .inl (cI, 40, .inl (fun _ => 0))), (q7, .inr (6, [.ref (f8 1)])), ((f8 1), .inl (cI, 240, .inl (fun _ => 0))), (q9, .inr (6, [.null]))] H := hP
  have hD : va_D A [(h0, .inr (3, [.ref q1, .ref q3, .ref q5, .ref q7, .null, .null, .null, .null, .null, .int 0, .int 0])), (q1, .inr (6, [.ref (f2 1)])), ((f2 1), .inl (cI, 40, .inl (fun _ => 0))), (q3, .inr (6, [.ref (f4 1)])), ((f4 1), .inl (cI, 40, .inl (fun _ => 0))), (q5, .inr (6, [.ref (f6 1)])), ((f6 1), .inl (cI, 40, .inl (fun _ => 0))), (q7, .inr (6, [.ref (f8 1)])), ((f8 1), .inl (cI, 240, .inl (fun _ => 0))), (q9, .inr (6, [.null]))] := hD
  refine W.widen (k := 9) (n := 365) (by omega) (by omega) ?_
  refine lv_dup hx hb dc_Law_init_61 rfl ?_
  refine lv_bipush (v := 40) hx hb dc_Law_init_62 (by decide) ?_
  have hPc := hP.sub (ws' := [(q9, .inr (6, [.null]))]) [9] rfl
  have hDc := hD.sub (ws' := [(q9, .inr (6, [.null]))]) [9] (by decide) rfl
  have hKc := hK.sub (tys' := [(cI, .int)]) [0] rfl
  have hFc := va_free (wc := [(q9, .inr (6, [.null]))]) hD hS hA [9] rfl
  refine va_callv (va_runI (As := [.int 40]) (rest := [.ref q9, .ref h0]) ⟨hx, hb, hml, hown, hts⟩ (c_Row_init l D cI q9 H.size 40 40 (by decide) rfl (Nat.le_of_ble_eq_true rfl) rfl) (cwI 1 hts (am_GoodWs wc_Row_init) rfl rfl rfl (hts (.initialized RX6) (am_mem (i := 34) (by decide +kernel) (by decide +kernel))) (hts (.methodLink RX3 11 (⟨RX6, "<init>", "(I)V"⟩ : MethodName)) (am_mem (i := 163) (by decide +kernel) (by decide +kernel))) (hts (.instanceMethod (⟨RX6, "<init>", "(I)V"⟩ : MethodName)) (am_mem (i := 86) (by decide +kernel) (by decide +kernel))) rfl (by decide +kernel) ⟨Nat.le_of_ble_eq_true rfl, Nat.le_of_ble_eq_true rfl⟩) ⟨fun a U g mk q => by obtain ⟨q0, q1, qP, qK, qD, qN⟩ := q; exact ⟨q0, q1, qP, va_K.moved (u := U) (U := U.calling g mk a) (Vm.Alike.refl U.vm) qK, qD, am_nsm.same (u := U) rfl qN⟩, fun U hU hW => ⟨rfl, by rw [hU], by rw [hU]; exact hPc, va_K.moved hW.alike hKc, hDc.weaken (fun _ _ _ _ => trivial), hNw.warm hW⟩⟩ rfl rfl hl.1 rfl (lv_room (Nat.le_of_ble_eq_true rfl)) dc_Law_init_64 ⟨Nat.le_of_ble_eq_true rfl, Nat.le_of_ble_eq_true rfl⟩) hS (fun q _ h => hFc q h) hFc (fun u t H1 locs ht hvm hw hB hz1 hk1 hS => ?_)
  obtain ⟨f10, rfl⟩ : ∃ z, z = u := ⟨_, rfl⟩
  obtain ⟨hP1, hK1, hD1⟩ := hB
  rw [ht] at hP1
  obtain ⟨hP, hD⟩ := va_join (wr := [(h0, .inr (3, [.ref q1, .ref q3, .ref q5, .ref q7, .null, .null, .null, .null, .null, .int 0, .int 0])), (q1, .inr (6, [.ref (f2 1)])), ((f2 1), .inl (cI, 40, .inl (fun _ => 0))), (q3, .inr (6, [.ref (f4 1)])), ((f4 1), .inl (cI, 40, .inl (fun _ => 0))), (q5, .inr (6, [.ref (f6 1)])), ((f6 1), .inl (cI, 40, .inl (fun _ => 0))), (q7, .inr (6, [.ref (f8 1)])), ((f8 1), .inl (cI, 240, .inl (fun _ => 0)))]) (w1 := [(q9, .inr (6, [.ref (f10 1)])), ((f10 1), .inl (cI, 40, .inl (fun _ => 0)))]) hP hD [9] [0, 1, 2, 3, 4, 5, 6, 7, 8] rfl rfl (by decide) (by decide) hk1 hFc hP1 hD1
  generalize H1 = H at hP hS ⊢
  have hP : va_P D am_cl [(h0, .inr (3, [.ref q1, .ref q3, .ref q5, .ref q7, .null, .null, .null, .null, .null, .int 0, .int 0])), (q1, .inr (6, [.ref (f2 1)])), ((f2 1), .inl (cI, 40, .inl (fun _ => 0))), (q3, .inr (6, [.ref (f4 1)])), ((f4 1), .inl (cI, 40, .inl (fun _ => 0))), (q5, .inr (6, [.ref (f6 1)])), ((f6 1), .inl (cI, 40, .inl (fun _ => 0))), (q7, .inr (6, [.ref (f8 1)])), ((f8 1), .inl (cI, 240, .inl (fun _ => 0))), (q9, .inr (6, [.ref (f10 1)])), ((f10 1), .inl (cI, 40, .inl (fun _ => 0)))] H := hP
  have hD : va_D A [(h0, .inr (3, [.ref q1, .ref q3, .ref q5, .ref q7, .null, .null, .null, .null, .null, .int 0, .int 0])), (q1, .inr (6, [.ref (f2 1)])), ((f2 1), .inl (cI, 40, .inl (fun _ => 0))), (q3, .inr (6, [.ref (f4 1)])), ((f4 1), .inl (cI, 40, .inl (fun _ => 0))), (q5, .inr (6, [.ref (f6 1)])), ((f6 1), .inl (cI, 40, .inl (fun _ => 0))), (q7, .inr (6, [.ref (f8 1)])), ((f8 1), .inl (cI, 240, .inl (fun _ => 0))), (q9, .inr (6, [.ref (f10 1)])), ((f10 1), .inl (cI, 40, .inl (fun _ => 0)))] := hD
  refine W.widen (k := 10) (n := 405) (by omega) (by omega) ?_
  refine va_putF (D := D) (ci := 3) (v := .ref q9) (ty := tyX3 4) (C := RX3) (T := TX3) (N := 11) hx hb hts am_ws3 tyX3 tyX3_ok nmX3 hown hK hP hD hS 0 rfl rfl 4 (by decide) (hts (.fieldLink RX3 29 "StatuteBook$Law" "order" "LStatuteBook$Row;") (am_mem (i := 168) (by decide +kernel) (by decide +kernel))) (fun _ h9 => h9) rfl hin rfl (by decide +kernel) rfl rfl (Nat.le_of_ble_eq_true rfl) dc_Law_init_67 (fun H locs hP hD hS => ?_)
  have hP : va_P D am_cl [(h0, .inr (3, [.ref q1, .ref q3, .ref q5, .ref q7, .ref q9, .null, .null, .null, .null, .int 0, .int 0])), (q1, .inr (6, [.ref (f2 1)])), ((f2 1), .inl (cI, 40, .inl (fun _ => 0))), (q3, .inr (6, [.ref (f4 1)])), ((f4 1), .inl (cI, 40, .inl (fun _ => 0))), (q5, .inr (6, [.ref (f6 1)])), ((f6 1), .inl (cI, 40, .inl (fun _ => 0))), (q7, .inr (6, [.ref (f8 1)])), ((f8 1), .inl (cI, 240, .inl (fun _ => 0))), (q9, .inr (6, [.ref (f10 1)])), ((f10 1), .inl (cI, 40, .inl (fun _ => 0)))] H := hP
  have hD : va_D A [(h0, .inr (3, [.ref q1, .ref q3, .ref q5, .ref q7, .ref q9, .null, .null, .null, .null, .int 0, .int 0])), (q1, .inr (6, [.ref (f2 1)])), ((f2 1), .inl (cI, 40, .inl (fun _ => 0))), (q3, .inr (6, [.ref (f4 1)])), ((f4 1), .inl (cI, 40, .inl (fun _ => 0))), (q5, .inr (6, [.ref (f6 1)])), ((f6 1), .inl (cI, 40, .inl (fun _ => 0))), (q7, .inr (6, [.ref (f8 1)])), ((f8 1), .inl (cI, 240, .inl (fun _ => 0))), (q9, .inr (6, [.ref (f10 1)])), ((f10 1), .inl (cI, 40, .inl (fun _ => 0)))] := hD
  refine lv_aload_n hx hb dc_Law_init_70 rfl (lv_at hl 0 rfl) ?_
  refine va_new (ci := 6) (fs := [.null]) (C := RX6) (T := TX6) (N := 1) hx hb hts am_ws6 tyX6 tyX6_ok hown (hts (.classLink RX3 9 RX6) (am_mem (i := 162) (by decide +kernel) (by decide +kernel))) (hts (.instantiable RX6 1) (am_mem (i := 84) (by decide +kernel) (by decide +kernel))) (hts (.initialized RX6) (am_mem (i := 34) (by decide +kernel) (by decide +kernel))) hK hP hD hS hA rfl (fun j hj => by match j, hj with | 0, _ => rfl | j + 1, hj => exact absurd hj (by omega)) (Nat.le_of_ble_eq_true rfl) (Nat.le_of_ble_eq_true rfl) dc_Law_init_71 (fun q11 H hP hD hS => ?_)
  have hP : va_P D am_cl [(h0, .inr (3, [.ref q1, .ref q3, .ref q5, .ref q7, .ref q9, .null, .null, .null, .null, .int 0, .int 0])), (q1, .inr (6, [.ref (f2 1)])), ((f2 1), .inl (cI, 40, .inl (fun _ => 0))), (q3, .inr (6, [.ref (f4 1)])), ((f4 1), .inl (cI, 40, .inl (fun _ => 0))), (q5, .inr (6, [.ref (f6 1)])), ((f6 1), .inl (cI, 40, .inl (fun _ => 0))), (q7, .inr (6, [.ref (f8 1)])), ((f8 1), .inl (cI, 240, .inl (fun _ => 0))), (q9, .inr (6, [.ref (f10 1)])), ((f10 1), .inl (cI, 40, .inl (fun _ => 0))), (q11, .inr (6, [.null]))] H := hP
  have hD : va_D A [(h0, .inr (3, [.ref q1, .ref q3, .ref q5, .ref q7, .ref q9, .null, .null, .null, .null, .int 0, .int 0])), (q1, .inr (6, [.ref (f2 1)])), ((f2 1), .inl (cI, 40, .inl (fun _ => 0))), (q3, .inr (6, [.ref (f4 1)])), ((f4 1), .inl (cI, 40, .inl (fun _ => 0))), (q5, .inr (6, [.ref (f6 1)])), ((f6 1), .inl (cI, 40, .inl (fun _ => 0))), (q7, .inr (6, [.ref (f8 1)])), ((f8 1), .inl (cI, 240, .inl (fun _ => 0))), (q9, .inr (6, [.ref (f10 1)])), ((f10 1), .inl (cI, 40, .inl (fun _ => 0))), (q11, .inr (6, [.null]))] := hD
  refine W.widen (k := 11) (n := 406) (by omega) (by omega) ?_
  refine lv_dup hx hb dc_Law_init_74 rfl ?_
  refine lv_bipush (v := 120) hx hb dc_Law_init_75 (by decide) ?_
  have hPc := hP.sub (ws' := [(q11, .inr (6, [.null]))]) [11] rfl
  have hDc := hD.sub (ws' := [(q11, .inr (6, [.null]))]) [11] (by decide) rfl
  have hKc := hK.sub (tys' := [(cI, .int)]) [0] rfl
  have hFc := va_free (wc := [(q11, .inr (6, [.null]))]) hD hS hA [11] rfl
  refine va_callv (va_runI (As := [.int 120]) (rest := [.ref q11, .ref h0]) ⟨hx, hb, hml, hown, hts⟩ (c_Row_init l D cI q11 H.size 120 120 (by decide) rfl (Nat.le_of_ble_eq_true rfl) rfl) (cwI 1 hts (am_GoodWs wc_Row_init) rfl rfl rfl (hts (.initialized RX6) (am_mem (i := 34) (by decide +kernel) (by decide +kernel))) (hts (.methodLink RX3 11 (⟨RX6, "<init>", "(I)V"⟩ : MethodName)) (am_mem (i := 163) (by decide +kernel) (by decide +kernel))) (hts (.instanceMethod (⟨RX6, "<init>", "(I)V"⟩ : MethodName)) (am_mem (i := 86) (by decide +kernel) (by decide +kernel))) rfl (by decide +kernel) ⟨Nat.le_of_ble_eq_true rfl, Nat.le_of_ble_eq_true rfl⟩) ⟨fun a U g mk q => by obtain ⟨q0, q1, qP, qK, qD, qN⟩ := q; exact ⟨q0, q1, qP, va_K.moved (u := U) (U := U.calling g mk a) (Vm.Alike.refl U.vm) qK, qD, am_nsm.same (u := U) rfl qN⟩, fun U hU hW => ⟨rfl, by rw [hU], by rw [hU]; exact hPc, va_K.moved hW.alike hKc, hDc.weaken (fun _ _ _ _ => trivial), hNw.warm hW⟩⟩ rfl rfl hl.1 rfl (lv_room (Nat.le_of_ble_eq_true rfl)) dc_Law_init_77 ⟨Nat.le_of_ble_eq_true rfl, Nat.le_of_ble_eq_true rfl⟩) hS (fun q _ h => hFc q h) hFc (fun u t H1 locs ht hvm hw hB hz1 hk1 hS => ?_)
  obtain ⟨f12, rfl⟩ : ∃ z, z = u := ⟨_, rfl⟩
  obtain ⟨hP1, hK1, hD1⟩ := hB
  rw [ht] at hP1
  obtain ⟨hP, hD⟩ := va_join (wr := [(h0, .inr (3, [.ref q1, .ref q3, .ref q5, .ref q7, .ref q9, .null, .null, .null, .null, .int 0, .int 0])), (q1, .inr (6, [.ref (f2 1)])), ((f2 1), .inl (cI, 40, .inl (fun _ => 0))), (q3, .inr (6, [.ref (f4 1)])), ((f4 1), .inl (cI, 40, .inl (fun _ => 0))), (q5, .inr (6, [.ref (f6 1)])), ((f6 1), .inl (cI, 40, .inl (fun _ => 0))), (q7, .inr (6, [.ref (f8 1)])), ((f8 1), .inl (cI, 240, .inl (fun _ => 0))), (q9, .inr (6, [.ref (f10 1)])), ((f10 1), .inl (cI, 40, .inl (fun _ => 0)))]) (w1 := [(q11, .inr (6, [.ref (f12 1)])), ((f12 1), .inl (cI, 120, .inl (fun _ => 0)))]) hP hD [11] [0, 1, 2, 3, 4, 5, 6, 7, 8, 9, 10] rfl rfl (by decide) (by decide) hk1 hFc hP1 hD1
  generalize H1 = H at hP hS ⊢
  have hP : va_P D am_cl [(h0, .inr (3, [.ref q1, .ref q3, .ref q5, .ref q7, .ref q9, .null, .null, .null, .null, .int 0, .int 0])), (q1, .inr (6, [.ref (f2 1)])), ((f2 1), .inl (cI, 40, .inl (fun _ => 0))), (q3, .inr (6, [.ref (f4 1)])), ((f4 1), .inl (cI, 40, .inl (fun _ => 0))), (q5, .inr (6, [.ref (f6 1)])), ((f6 1), .inl (cI, 40, .inl (fun _ => 0))), (q7, .inr (6, [.ref (f8 1)])), ((f8 1), .inl (cI, 240, .inl (fun _ => 0))), (q9, .inr (6, [.ref (f10 1)])), ((f10 1), .inl (cI, 40, .inl (fun _ => 0))), (q11, .inr (6, [.ref (f12 1)])), ((f12 1), .inl (cI, 120, .inl (fun _ => 0)))] H := hP
  have hD : va_D A [(h0, .inr (3, [.ref q1, .ref q3, .ref q5, .ref q7, .ref q9, .null, .null, .null, .null, .int 0, .int 0])), (q1, .inr (6, [.ref (f2 1)])), ((f2 1), .inl (cI, 40, .inl (fun _ => 0))), (q3, .inr (6, [.ref (f4 1)])), ((f4 1), .inl (cI, 40, .inl (fun _ => 0))), (q5, .inr (6, [.ref (f6 1)])), ((f6 1), .inl (cI, 40, .inl (fun _ => 0))), (q7, .inr (6, [.ref (f8 1)])), ((f8 1), .inl (cI, 240, .inl (fun _ => 0))), (q9, .inr (6, [.ref (f10 1)])), ((f10 1), .inl (cI, 40, .inl (fun _ => 0))), (q11, .inr (6, [.ref (f12 1)])), ((f12 1), .inl (cI, 120, .inl (fun _ => 0)))] := hD
  refine W.widen (k := 12) (n := 526) (by omega) (by omega) ?_
  refine va_putF (D := D) (ci := 3) (v := .ref q11) (ty := tyX3 5) (C := RX3) (T := TX3) (N := 11) hx hb hts am_ws3 tyX3 tyX3_ok nmX3 hown hK hP hD hS 0 rfl rfl 5 (by decide) (hts (.fieldLink RX3 32 "StatuteBook$Law" "statuses" "LStatuteBook$Row;") (am_mem (i := 169) (by decide +kernel) (by decide +kernel))) (fun _ h9 => h9) rfl hin rfl (by decide +kernel) rfl rfl (Nat.le_of_ble_eq_true rfl) dc_Law_init_80 (fun H locs hP hD hS => ?_)
  have hP : va_P D am_cl [(h0, .inr (3, [.ref q1, .ref q3, .ref q5, .ref q7, .ref q9, .ref q11, .null, .null, .null, .int 0, .int 0])), (q1, .inr (6, [.ref (f2 1)])), ((f2 1), .inl (cI, 40, .inl (fun _ => 0))), (q3, .inr (6, [.ref (f4 1)])), ((f4 1), .inl (cI, 40, .inl (fun _ => 0))), (q5, .inr (6, [.ref (f6 1)])), ((f6 1), .inl (cI, 40, .inl (fun _ => 0))), (q7, .inr (6, [.ref (f8 1)])), ((f8 1), .inl (cI, 240, .inl (fun _ => 0))), (q9, .inr (6, [.ref (f10 1)])), ((f10 1), .inl (cI, 40, .inl (fun _ => 0))), (q11, .inr (6, [.ref (f12 1)])), ((f12 1), .inl (cI, 120, .inl (fun _ => 0)))] H := hP
  have hD : va_D A [(h0, .inr (3, [.ref q1, .ref q3, .ref q5, .ref q7, .ref q9, .ref q11, .null, .null, .null, .int 0, .int 0])), (q1, .inr (6, [.ref (f2 1)])), ((f2 1), .inl (cI, 40, .inl (fun _ => 0))), (q3, .inr (6, [.ref (f4 1)])), ((f4 1), .inl (cI, 40, .inl (fun _ => 0))), (q5, .inr (6, [.ref (f6 1)])), ((f6 1), .inl (cI, 40, .inl (fun _ => 0))), (q7, .inr (6, [.ref (f8 1)])), ((f8 1), .inl (cI, 240, .inl (fun _ => 0))), (q9, .inr (6, [.ref (f10 1)])), ((f10 1), .inl (cI, 40, .inl (fun _ => 0))), (q11, .inr (6, [.ref (f12 1)])), ((f12 1), .inl (cI, 120, .inl (fun _ => 0)))] := hD
  refine lv_aload_n hx hb dc_Law_init_83 rfl (lv_at hl 0 rfl) ?_
  refine va_new (ci := 6) (fs := [.null]) (C := RX6) (T := TX6) (N := 1) hx hb hts am_ws6 tyX6 tyX6_ok hown (hts (.classLink RX3 9 RX6) (am_mem (i := 162) (by decide +kernel) (by decide +kernel))) (hts (.instantiable RX6 1) (am_mem (i := 84) (by decide +kernel) (by decide +kernel))) (hts (.initialized RX6) (am_mem (i := 34) (by decide +kernel) (by decide +kernel))) hK hP hD hS hA rfl (fun j hj => by match j, hj with | 0, _ => rfl | j + 1, hj => exact absurd hj (by omega)) (Nat.le_of_ble_eq_true rfl) (Nat.le_of_ble_eq_true rfl) dc_Law_init_84 (fun q13 H hP hD hS => ?_)
  have hP : va_P D am_cl [(h0, .inr (3, [.ref q1, .ref q3, .ref q5, .ref q7, .ref q9, .ref q11, .null, .null, .null, .int 0, .int 0])), (q1, .inr (6, [.ref (f2 1)])), ((f2 1), .inl (cI, 40, .inl (fun _ => 0))), (q3, .inr (6, [.ref (f4 1)])), ((f4 1), .inl (cI, 40, .inl (fun _ => 0))), (q5, .inr (6, [.ref (f6 1)])), ((f6 1), .inl (cI, 40, .inl (fun _ => 0))), (q7, .inr (6, [.ref (f8 1)])), ((f8 1), .inl (cI, 240, .inl (fun _ => 0))), (q9, .inr (6, [.ref (f10 1)])), ((f10 1), .inl (cI, 40, .inl (fun _ => 0))), (q11, .inr (6, [.ref (f12 1)])), ((f12 1), .inl (cI, 120, .inl (fun _ => 0))), (q13, .inr (6, [.null]))] H := hP
  have hD : va_D A [(h0, .inr (3, [.ref q1, .ref q3, .ref q5, .ref q7, .ref q9, .ref q11, .null, .null, .null, .int 0, .int 0])), (q1, .inr (6, [.ref (f2 1)])), ((f2 1), .inl (cI, 40, .inl (fun _ => 0))), (q3, .inr (6, [.ref (f4 1)])), ((f4 1), .inl (cI, 40, .inl (fun _ => 0))), (q5, .inr (6, [.ref (f6 1)])), ((f6 1), .inl (cI, 40, .inl (fun _ => 0))), (q7, .inr (6, [.ref (f8 1)])), ((f8 1), .inl (cI, 240, .inl (fun _ => 0))), (q9, .inr (6, [.ref (f10 1)])), ((f10 1), .inl (cI, 40, .inl (fun _ => 0))), (q11, .inr (6, [.ref (f12 1)])), ((f12 1), .inl (cI, 120, .inl (fun _ => 0))), (q13, .inr (6, [.null]))] := hD
  refine W.widen (k := 13) (n := 527) (by omega) (by omega) ?_
  refine lv_dup hx hb dc_Law_init_87 rfl ?_
  refine lv_bipush (v := 120) hx hb dc_Law_init_88 (by decide) ?_
  have hPc := hP.sub (ws' := [(q13, .inr (6, [.null]))]) [13] rfl
  have hDc := hD.sub (ws' := [(q13, .inr (6, [.null]))]) [13] (by decide) rfl
  have hKc := hK.sub (tys' := [(cI, .int)]) [0] rfl
  have hFc := va_free (wc := [(q13, .inr (6, [.null]))]) hD hS hA [13] rfl
  refine va_callv (va_runI (As := [.int 120]) (rest := [.ref q13, .ref h0]) ⟨hx, hb, hml, hown, hts⟩ (c_Row_init l D cI q13 H.size 120 120 (by decide) rfl (Nat.le_of_ble_eq_true rfl) rfl) (cwI 1 hts (am_GoodWs wc_Row_init) rfl rfl rfl (hts (.initialized RX6) (am_mem (i := 34) (by decide +kernel) (by decide +kernel))) (hts (.methodLink RX3 11 (⟨RX6, "<init>", "(I)V"⟩ : MethodName)) (am_mem (i := 163) (by decide +kernel) (by decide +kernel))) (hts (.instanceMethod (⟨RX6, "<init>", "(I)V"⟩ : MethodName)) (am_mem (i := 86) (by decide +kernel) (by decide +kernel))) rfl (by decide +kernel) ⟨Nat.le_of_ble_eq_true rfl, Nat.le_of_ble_eq_true rfl⟩) ⟨fun a U g mk q => by obtain ⟨q0, q1, qP, qK, qD, qN⟩ := q; exact ⟨q0, q1, qP, va_K.moved (u := U) (U := U.calling g mk a) (Vm.Alike.refl U.vm) qK, qD, am_nsm.same (u := U) rfl qN⟩, fun U hU hW => ⟨rfl, by rw [hU], by rw [hU]; exact hPc, va_K.moved hW.alike hKc, hDc.weaken (fun _ _ _ _ => trivial), hNw.warm hW⟩⟩ rfl rfl hl.1 rfl (lv_room (Nat.le_of_ble_eq_true rfl)) dc_Law_init_90 ⟨Nat.le_of_ble_eq_true rfl, Nat.le_of_ble_eq_true rfl⟩) hS (fun q _ h => hFc q h) hFc (fun u t H1 locs ht hvm hw hB hz1 hk1 hS => ?_)
  obtain ⟨f14, rfl⟩ : ∃ z, z = u := ⟨_, rfl⟩
  obtain ⟨hP1, hK1, hD1⟩ := hB
  rw [ht] at hP1
  obtain ⟨hP, hD⟩ := va_join (wr := [(h0, .inr (3, [.ref q1, .ref q3, .ref q5, .ref q7, .ref q9, .ref q11, .null, .null, .null, .int 0, .int 0])), (q1, .inr (6, [.ref (f2 1)])), ((f2 1), .inl (cI, 40, .inl (fun _ => 0))), (q3, .inr (6, [.ref (f4 1)])), ((f4 1), .inl (cI, 40, .inl (fun _ => 0))), (q5, .inr (6, [.ref (f6 1)])), ((f6 1), .inl (cI, 40, .inl (fun _ => 0))), (q7, .inr (6, [.ref (f8 1)])), ((f8 1), .inl (cI, 240, .inl (fun _ => 0))), (q9, .inr (6, [.ref (f10 1)])), ((f10 1), .inl (cI, 40, .inl (fun _ => 0))), (q11, .inr (6, [.ref (f12 1)])), ((f12 1), .inl (cI, 120, .inl (fun _ => 0)))]) (w1 := [(q13, .inr (6, [.ref (f14 1)])), ((f14 1), .inl (cI, 120, .inl (fun _ => 0)))]) hP hD [13] [0, 1, 2, 3, 4, 5, 6, 7, 8, 9, 10, 11, 12] rfl rfl (by decide) (by decide) hk1 hFc hP1 hD1
  generalize H1 = H at hP hS ⊢
  have hP : va_P D am_cl [(h0, .inr (3, [.ref q1, .ref q3, .ref q5, .ref q7, .ref q9, .ref q11, .null, .null, .null, .int 0, .int 0])), (q1, .inr (6, [.ref (f2 1)])), ((f2 1), .inl (cI, 40, .inl (fun _ => 0))), (q3, .inr (6, [.ref (f4 1)])), ((f4 1), .inl (cI, 40, .inl (fun _ => 0))), (q5, .inr (6, [.ref (f6 1)])), ((f6 1), .inl (cI, 40, .inl (fun _ => 0))), (q7, .inr (6, [.ref (f8 1)])), ((f8 1), .inl (cI, 240, .inl (fun _ => 0))), (q9, .inr (6, [.ref (f10 1)])), ((f10 1), .inl (cI, 40, .inl (fun _ => 0))), (q11, .inr (6, [.ref (f12 1)])), ((f12 1), .inl (cI, 120, .inl (fun _ => 0))), (q13, .inr (6, [.ref (f14 1)])), ((f14 1), .inl (cI, 120, .inl (fun _ => 0)))] H := hP
  have hD : va_D A [(h0, .inr (3, [.ref q1, .ref q3, .ref q5, .ref q7, .ref q9, .ref q11, .null, .null, .null, .int 0, .int 0])), (q1, .inr (6, [.ref (f2 1)])), ((f2 1), .inl (cI, 40, .inl (fun _ => 0))), (q3, .inr (6, [.ref (f4 1)])), ((f4 1), .inl (cI, 40, .inl (fun _ => 0))), (q5, .inr (6, [.ref (f6 1)])), ((f6 1), .inl (cI, 40, .inl (fun _ => 0))), (q7, .inr (6, [.ref (f8 1)])), ((f8 1), .inl (cI, 240, .inl (fun _ => 0))), (q9, .inr (6, [.ref (f10 1)])), ((f10 1), .inl (cI, 40, .inl (fun _ => 0))), (q11, .inr (6, [.ref (f12 1)])), ((f12 1), .inl (cI, 120, .inl (fun _ => 0))), (q13, .inr (6, [.ref (f14 1)])), ((f14 1), .inl (cI, 120, .inl (fun _ => 0)))] := hD
  refine W.widen (k := 14) (n := 647) (by omega) (by omega) ?_
  refine va_putF (D := D) (ci := 3) (v := .ref q13) (ty := tyX3 6) (C := RX3) (T := TX3) (N := 11) hx hb hts am_ws3 tyX3 tyX3_ok nmX3 hown hK hP hD hS 0 rfl rfl 6 (by decide) (hts (.fieldLink RX3 35 "StatuteBook$Law" "affected" "LStatuteBook$Row;") (am_mem (i := 170) (by decide +kernel) (by decide +kernel))) (fun _ h9 => h9) rfl hin rfl (by decide +kernel) rfl rfl (Nat.le_of_ble_eq_true rfl) dc_Law_init_93 (fun H locs hP hD hS => ?_)
  have hP : va_P D am_cl [(h0, .inr (3, [.ref q1, .ref q3, .ref q5, .ref q7, .ref q9, .ref q11, .ref q13, .null, .null, .int 0, .int 0])), (q1, .inr (6, [.ref (f2 1)])), ((f2 1), .inl (cI, 40, .inl (fun _ => 0))), (q3, .inr (6, [.ref (f4 1)])), ((f4 1), .inl (cI, 40, .inl (fun _ => 0))), (q5, .inr (6, [.ref (f6 1)])), ((f6 1), .inl (cI, 40, .inl (fun _ => 0))), (q7, .inr (6, [.ref (f8 1)])), ((f8 1), .inl (cI, 240, .inl (fun _ => 0))), (q9, .inr (6, [.ref (f10 1)])), ((f10 1), .inl (cI, 40, .inl (fun _ => 0))), (q11, .inr (6, [.ref (f12 1)])), ((f12 1), .inl (cI, 120, .inl (fun _ => 0))), (q13, .inr (6, [.ref (f14 1)])), ((f14 1), .inl (cI, 120, .inl (fun _ => 0)))] H := hP
  have hD : va_D A [(h0, .inr (3, [.ref q1, .ref q3, .ref q5, .ref q7, .ref q9, .ref q11, .ref q13, .null, .null, .int 0, .int 0])), (q1, .inr (6, [.ref (f2 1)])), ((f2 1), .inl (cI, 40, .inl (fun _ => 0))), (q3, .inr (6, [.ref (f4 1)])), ((f4 1), .inl (cI, 40, .inl (fun _ => 0))), (q5, .inr (6, [.ref (f6 1)])), ((f6 1), .inl (cI, 40, .inl (fun _ => 0))), (q7, .inr (6, [.ref (f8 1)])), ((f8 1), .inl (cI, 240, .inl (fun _ => 0))), (q9, .inr (6, [.ref (f10 1)])), ((f10 1), .inl (cI, 40, .inl (fun _ => 0))), (q11, .inr (6, [.ref (f12 1)])), ((f12 1), .inl (cI, 120, .inl (fun _ => 0))), (q13, .inr (6, [.ref (f14 1)])), ((f14 1), .inl (cI, 120, .inl (fun _ => 0)))] := hD
  refine lv_aload_n hx hb dc_Law_init_96 rfl (lv_at hl 0 rfl) ?_
  refine va_new (ci := 6) (fs := [.null]) (C := RX6) (T := TX6) (N := 1) hx hb hts am_ws6 tyX6 tyX6_ok hown (hts (.classLink RX3 9 RX6) (am_mem (i := 162) (by decide +kernel) (by decide +kernel))) (hts (.instantiable RX6 1) (am_mem (i := 84) (by decide +kernel) (by decide +kernel))) (hts (.initialized RX6) (am_mem (i := 34) (by decide +kernel) (by decide +kernel))) hK hP hD hS hA rfl (fun j hj => by match j, hj with | 0, _ => rfl | j + 1, hj => exact absurd hj (by omega)) (Nat.le_of_ble_eq_true rfl) (Nat.le_of_ble_eq_true rfl) dc_Law_init_97 (fun q15 H hP hD hS => ?_)
  have hP : va_P D am_cl [(h0, .inr (3, [.ref q1, .ref q3, .ref q5, .ref q7, .ref q9, .ref q11, .ref q13, .null, .null, .int 0, .int 0])), (q1, .inr (6, [.ref (f2 1)])), ((f2 1), .inl (cI, 40, .inl (fun _ => 0))), (q3, .inr (6, [.ref (f4 1)])), ((f4 1), .inl (cI, 40, .inl (fun _ => 0))), (q5, .inr (6, [.ref (f6 1)])), ((f6 1), .inl (cI, 40, .inl (fun _ => 0))), (q7, .inr (6, [.ref (f8 1)])), ((f8 1), .inl (cI, 240, .inl (fun _ => 0))), (q9, .inr (6, [.ref (f10 1)])), ((f10 1), .inl (cI, 40, .inl (fun _ => 0))), (q11, .inr (6, [.ref (f12 1)])), ((f12 1), .inl (cI, 120, .inl (fun _ => 0))), (q13, .inr (6, [.ref (f14 1)])), ((f14 1), .inl (cI, 120, .inl (fun _ => 0))), (q15, .inr (6, [.null]))] H := hP
  have hD : va_D A [(h0, .inr (3, [.ref q1, .ref q3, .ref q5, .ref q7, .ref q9, .ref q11, .ref q13, .null, .null, .int 0, .int 0])), (q1, .inr (6, [.ref (f2 1)])), ((f2 1), .inl (cI, 40, .inl (fun _ => 0))), (q3, .inr (6, [.ref (f4 1)])), ((f4 1), .inl (cI, 40, .inl (fun _ => 0))), (q5, .inr (6, [.ref (f6 1)])), ((f6 1), .inl (cI, 40, .inl (fun _ => 0))), (q7, .inr (6, [.ref (f8 1)])), ((f8 1), .inl (cI, 240, .inl (fun _ => 0))), (q9, .inr (6, [.ref (f10 1)])), ((f10 1), .inl (cI, 40, .inl (fun _ => 0))), (q11, .inr (6, [.ref (f12 1)])), ((f12 1), .inl (cI, 120, .inl (fun _ => 0))), (q13, .inr (6, [.ref (f14 1)])), ((f14 1), .inl (cI, 120, .inl (fun _ => 0))), (q15, .inr (6, [.null]))] := hD
  refine W.widen (k := 15) (n := 648) (by omega) (by omega) ?_
  refine lv_dup hx hb dc_Law_init_100 rfl ?_
  refine lv_bipush (v := 120) hx hb dc_Law_init_101 (by decide) ?_
  have hPc := hP.sub (ws' := [(q15, .inr (6, [.null]))]) [15] rfl
  have hDc := hD.sub (ws' := [(q15, .inr (6, [.null]))]) [15] (by decide) rfl
  have hKc := hK.sub (tys' := [(cI, .int)]) [0] rfl
  have hFc := va_free (wc := [(q15, .inr (6, [.null]))]) hD hS hA [15] rfl
  refine va_callv (va_runI (As := [.int 120]) (rest := [.ref q15, .ref h0]) ⟨hx, hb, hml, hown, hts⟩ (c_Row_init l D cI q15 H.size 120 120 (by decide) rfl (Nat.le_of_ble_eq_true rfl) rfl) (cwI 1 hts (am_GoodWs wc_Row_init) rfl rfl rfl (hts (.initialized RX6) (am_mem (i := 34) (by decide +kernel) (by decide +kernel))) (hts (.methodLink RX3 11 (⟨RX6, "<init>", "(I)V"⟩ : MethodName)) (am_mem (i := 163) (by decide +kernel) (by decide +kernel))) (hts (.instanceMethod (⟨RX6, "<init>", "(I)V"⟩ : MethodName)) (am_mem (i := 86) (by decide +kernel) (by decide +kernel))) rfl (by decide +kernel) ⟨Nat.le_of_ble_eq_true rfl, Nat.le_of_ble_eq_true rfl⟩) ⟨fun a U g mk q => by obtain ⟨q0, q1, qP, qK, qD, qN⟩ := q; exact ⟨q0, q1, qP, va_K.moved (u := U) (U := U.calling g mk a) (Vm.Alike.refl U.vm) qK, qD, am_nsm.same (u := U) rfl qN⟩, fun U hU hW => ⟨rfl, by rw [hU], by rw [hU]; exact hPc, va_K.moved hW.alike hKc, hDc.weaken (fun _ _ _ _ => trivial), hNw.warm hW⟩⟩ rfl rfl hl.1 rfl (lv_room (Nat.le_of_ble_eq_true rfl)) dc_Law_init_103 ⟨Nat.le_of_ble_eq_true rfl, Nat.le_of_ble_eq_true rfl⟩) hS (fun q _ h => hFc q h) hFc (fun u t H1 locs ht hvm hw hB hz1 hk1 hS => ?_)
  obtain ⟨f16, rfl⟩ : ∃ z, z = u := ⟨_, rfl⟩
  obtain ⟨hP1, hK1, hD1⟩ := hB
  rw [ht] at hP1
  obtain ⟨hP, hD⟩ := va_join (wr := [(h0, .inr (3, [.ref q1, .ref q3, .ref q5, .ref q7, .ref q9, .ref q11, .ref q13, .null, .null, .int 0, .int 0])), (q1, .inr (6, [.ref (f2 1)])), ((f2 1), .inl (cI, 40, .inl (fun _ => 0))), (q3, .inr (6, [.ref (f4 1)])), ((f4 1), .inl (cI, 40, .inl (fun _ => 0))), (q5, .inr (6, [.ref (f6 1)])), ((f6 1), .inl (cI, 40, .inl (fun _ => 0))), (q7, .inr (6, [.ref (f8 1)])), ((f8 1), .inl (cI, 240, .inl (fun _ => 0))), (q9, .inr (6, [.ref (f10 1)])), ((f10 1), .inl (cI, 40, .inl (fun _ => 0))), (q11, .inr (6, [.ref (f12 1)])), ((f12 1), .inl (cI, 120, .inl (fun _ => 0))), (q13, .inr (6, [.ref (f14 1)])), ((f14 1), .inl (cI, 120, .inl (fun _ => 0)))]) (w1 := [(q15, .inr (6, [.ref (f16 1)])), ((f16 1), .inl (cI, 120, .inl (fun _ => 0)))]) hP hD [15] [0, 1, 2, 3, 4, 5, 6, 7, 8, 9, 10, 11, 12, 13, 14] rfl rfl (by decide) (by decide) hk1 hFc hP1 hD1
  generalize H1 = H at hP hS ⊢
  have hP : va_P D am_cl [(h0, .inr (3, [.ref q1, .ref q3, .ref q5, .ref q7, .ref q9, .ref q11, .ref q13, .null, .null, .int 0, .int 0])), (q1, .inr (6, [.ref (f2 1)])), ((f2 1), .inl (cI, 40, .inl (fun _ => 0))), (q3, .inr (6, [.ref (f4 1)])), ((f4 1), .inl (cI, 40, .inl (fun _ => 0))), (q5, .inr (6, [.ref (f6 1)])), ((f6 1), .inl (cI, 40, .inl (fun _ => 0))), (q7, .inr (6, [.ref (f8 1)])), ((f8 1), .inl (cI, 240, .inl (fun _ => 0))), (q9, .inr (6, [.ref (f10 1)])), ((f10 1), .inl (cI, 40, .inl (fun _ => 0))), (q11, .inr (6, [.ref (f12 1)])), ((f12 1), .inl (cI, 120, .inl (fun _ => 0))), (q13, .inr (6, [.ref (f14 1)])), ((f14 1), .inl (cI, 120, .inl (fun _ => 0))), (q15, .inr (6, [.ref (f16 1)])), ((f16 1), .inl (cI, 120, .inl (fun _ => 0)))] H := hP
  have hD : va_D A [(h0, .inr (3, [.ref q1, .ref q3, .ref q5, .ref q7, .ref q9, .ref q11, .ref q13, .null, .null, .int 0, .int 0])), (q1, .inr (6, [.ref (f2 1)])), ((f2 1), .inl (cI, 40, .inl (fun _ => 0))), (q3, .inr (6, [.ref (f4 1)])), ((f4 1), .inl (cI, 40, .inl (fun _ => 0))), (q5, .inr (6, [.ref (f6 1)])), ((f6 1), .inl (cI, 40, .inl (fun _ => 0))), (q7, .inr (6, [.ref (f8 1)])), ((f8 1), .inl (cI, 240, .inl (fun _ => 0))), (q9, .inr (6, [.ref (f10 1)])), ((f10 1), .inl (cI, 40, .inl (fun _ => 0))), (q11, .inr (6, [.ref (f12 1)])), ((f12 1), .inl (cI, 120, .inl (fun _ => 0))), (q13, .inr (6, [.ref (f14 1)])), ((f14 1), .inl (cI, 120, .inl (fun _ => 0))), (q15, .inr (6, [.ref (f16 1)])), ((f16 1), .inl (cI, 120, .inl (fun _ => 0)))] := hD
  refine W.widen (k := 16) (n := 768) (by omega) (by omega) ?_
  refine va_putF (D := D) (ci := 3) (v := .ref q15) (ty := tyX3 7) (C := RX3) (T := TX3) (N := 11) hx hb hts am_ws3 tyX3 tyX3_ok nmX3 hown hK hP hD hS 0 rfl rfl 7 (by decide) (hts (.fieldLink RX3 38 "StatuteBook$Law" "effects" "LStatuteBook$Row;") (am_mem (i := 171) (by decide +kernel) (by decide +kernel))) (fun _ h9 => h9) rfl hin rfl (by decide +kernel) rfl rfl (Nat.le_of_ble_eq_true rfl) dc_Law_init_106 (fun H locs hP hD hS => ?_)
  have hP : va_P D am_cl [(h0, .inr (3, [.ref q1, .ref q3, .ref q5, .ref q7, .ref q9, .ref q11, .ref q13, .ref q15, .null, .int 0, .int 0])), (q1, .inr (6, [.ref (f2 1)])), ((f2 1), .inl (cI, 40, .inl (fun _ => 0))), (q3, .inr (6, [.ref (f4 1)])), ((f4 1), .inl (cI, 40, .inl (fun _ => 0))), (q5, .inr (6, [.ref (f6 1)])), ((f6 1), .inl (cI, 40, .inl (fun _ => 0))), (q7, .inr (6, [.ref (f8 1)])), ((f8 1), .inl (cI, 240, .inl (fun _ => 0))), (q9, .inr (6, [.ref (f10 1)])), ((f10 1), .inl (cI, 40, .inl (fun _ => 0))), (q11, .inr (6, [.ref (f12 1)])), ((f12 1), .inl (cI, 120, .inl (fun _ => 0))), (q13, .inr (6, [.ref (f14 1)])), ((f14 1), .inl (cI, 120, .inl (fun _ => 0))), (q15, .inr (6, [.ref (f16 1)])), ((f16 1), .inl (cI, 120, .inl (fun _ => 0)))] H := hP
  have hD : va_D A [(h0, .inr (3, [.ref q1, .ref q3, .ref q5, .ref q7, .ref q9, .ref q11, .ref q13, .ref q15, .null, .int 0, .int 0])), (q1, .inr (6, [.ref (f2 1)])), ((f2 1), .inl (cI, 40, .inl (fun _ => 0))), (q3, .inr (6, [.ref (f4 1)])), ((f4 1), .inl (cI, 40, .inl (fun _ => 0))), (q5, .inr (6, [.ref (f6 1)])), ((f6 1), .inl (cI, 40, .inl (fun _ => 0))), (q7, .inr (6, [.ref (f8 1)])), ((f8 1), .inl (cI, 240, .inl (fun _ => 0))), (q9, .inr (6, [.ref (f10 1)])), ((f10 1), .inl (cI, 40, .inl (fun _ => 0))), (q11, .inr (6, [.ref (f12 1)])), ((f12 1), .inl (cI, 120, .inl (fun _ => 0))), (q13, .inr (6, [.ref (f14 1)])), ((f14 1), .inl (cI, 120, .inl (fun _ => 0))), (q15, .inr (6, [.ref (f16 1)])), ((f16 1), .inl (cI, 120, .inl (fun _ => 0)))] := hD
  refine lv_aload_n hx hb dc_Law_init_109 rfl (lv_at hl 0 rfl) ?_
  refine va_new (ci := 6) (fs := [.null]) (C := RX6) (T := TX6) (N := 1) hx hb hts am_ws6 tyX6 tyX6_ok hown (hts (.classLink RX3 9 RX6) (am_mem (i := 162) (by decide +kernel) (by decide +kernel))) (hts (.instantiable RX6 1) (am_mem (i := 84) (by decide +kernel) (by decide +kernel))) (hts (.initialized RX6) (am_mem (i := 34) (by decide +kernel) (by decide +kernel))) hK hP hD hS hA rfl (fun j hj => by match j, hj with | 0, _ => rfl | j + 1, hj => exact absurd hj (by omega)) (Nat.le_of_ble_eq_true rfl) (Nat.le_of_ble_eq_true rfl) dc_Law_init_110 (fun q17 H hP hD hS => ?_)
  have hP : va_P D am_cl [(h0, .inr (3, [.ref q1, .ref q3, .ref q5, .ref q7, .ref q9, .ref q11, .ref q13, .ref q15, .null, .int 0, .int 0])), (q1, .inr (6, [.ref (f2 1)])), ((f2 1), .inl (cI, 40, .inl (fun _ => 0))), (q3, .inr (6, [.ref (f4 1)])), ((f4 1), .inl (cI, 40, .inl (fun _ => 0))), (q5, .inr (6, [.ref (f6 1)])), ((f6 1), .inl (cI, 40, .inl (fun _ => 0))), (q7, .inr (6, [.ref (f8 1)])), ((f8 1), .inl (cI, 240, .inl (fun _ => 0))), (q9, .inr (6, [.ref (f10 1)])), ((f10 1), .inl (cI, 40, .inl (fun _ => 0))), (q11, .inr (6, [.ref (f12 1)])), ((f12 1), .inl (cI, 120, .inl (fun _ => 0))), (q13, .inr (6, [.ref (f14 1)])), ((f14 1), .inl (cI, 120, .inl (fun _ => 0))), (q15, .inr (6, [.ref (f16 1)])), ((f16 1), .inl (cI, 120, .inl (fun _ => 0))), (q17, .inr (6, [.null]))] H := hP
  have hD : va_D A [(h0, .inr (3, [.ref q1, .ref q3, .ref q5, .ref q7, .ref q9, .ref q11, .ref q13, .ref q15, .null, .int 0, .int 0])), (q1, .inr (6, [.ref (f2 1)])), ((f2 1), .inl (cI, 40, .inl (fun _ => 0))), (q3, .inr (6, [.ref (f4 1)])), ((f4 1), .inl (cI, 40, .inl (fun _ => 0))), (q5, .inr (6, [.ref (f6 1)])), ((f6 1), .inl (cI, 40, .inl (fun _ => 0))), (q7, .inr (6, [.ref (f8 1)])), ((f8 1), .inl (cI, 240, .inl (fun _ => 0))), (q9, .inr (6, [.ref (f10 1)])), ((f10 1), .inl (cI, 40, .inl (fun _ => 0))), (q11, .inr (6, [.ref (f12 1)])), ((f12 1), .inl (cI, 120, .inl (fun _ => 0))), (q13, .inr (6, [.ref (f14 1)])), ((f14 1), .inl (cI, 120, .inl (fun _ => 0))), (q15, .inr (6, [.ref (f16 1)])), ((f16 1), .inl (cI, 120, .inl (fun _ => 0))), (q17, .inr (6, [.null]))] := hD
  refine W.widen (k := 17) (n := 769) (by omega) (by omega) ?_
  refine lv_dup hx hb dc_Law_init_113 rfl ?_
  refine lv_bipush (v := 6) hx hb dc_Law_init_114 (by decide) ?_
  have hPc := hP.sub (ws' := [(q17, .inr (6, [.null]))]) [17] rfl
  have hDc := hD.sub (ws' := [(q17, .inr (6, [.null]))]) [17] (by decide) rfl
  have hKc := hK.sub (tys' := [(cI, .int)]) [0] rfl
  have hFc := va_free (wc := [(q17, .inr (6, [.null]))]) hD hS hA [17] rfl
  refine va_callv (va_runI (As := [.int 6]) (rest := [.ref q17, .ref h0]) ⟨hx, hb, hml, hown, hts⟩ (c_Row_init l D cI q17 H.size 6 6 (by decide) rfl (Nat.le_of_ble_eq_true rfl) rfl) (cwI 1 hts (am_GoodWs wc_Row_init) rfl rfl rfl (hts (.initialized RX6) (am_mem (i := 34) (by decide +kernel) (by decide +kernel))) (hts (.methodLink RX3 11 (⟨RX6, "<init>", "(I)V"⟩ : MethodName)) (am_mem (i := 163) (by decide +kernel) (by decide +kernel))) (hts (.instanceMethod (⟨RX6, "<init>", "(I)V"⟩ : MethodName)) (am_mem (i := 86) (by decide +kernel) (by decide +kernel))) rfl (by decide +kernel) ⟨Nat.le_of_ble_eq_true rfl, Nat.le_of_ble_eq_true rfl⟩) ⟨fun a U g mk q => by obtain ⟨q0, q1, qP, qK, qD, qN⟩ := q; exact ⟨q0, q1, qP, va_K.moved (u := U) (U := U.calling g mk a) (Vm.Alike.refl U.vm) qK, qD, am_nsm.same (u := U) rfl qN⟩, fun U hU hW => ⟨rfl, by rw [hU], by rw [hU]; exact hPc, va_K.moved hW.alike hKc, hDc.weaken (fun _ _ _ _ => trivial), hNw.warm hW⟩⟩ rfl rfl hl.1 rfl (lv_room (Nat.le_of_ble_eq_true rfl)) dc_Law_init_116 ⟨Nat.le_of_ble_eq_true rfl, Nat.le_of_ble_eq_true rfl⟩) hS (fun q _ h => hFc q h) hFc (fun u t H1 locs ht hvm hw hB hz1 hk1 hS => ?_)
  obtain ⟨f18, rfl⟩ : ∃ z, z = u := ⟨_, rfl⟩
  obtain ⟨hP1, hK1, hD1⟩ := hB
  rw [ht] at hP1
  obtain ⟨hP, hD⟩ := va_join (wr := [(h0, .inr (3, [.ref q1, .ref q3, .ref q5, .ref q7, .ref q9, .ref q11, .ref q13, .ref q15, .null, .int 0, .int 0])), (q1, .inr (6, [.ref (f2 1)])), ((f2 1), .inl (cI, 40, .inl (fun _ => 0))), (q3, .inr (6, [.ref (f4 1)])), ((f4 1), .inl (cI, 40, .inl (fun _ => 0))), (q5, .inr (6, [.ref (f6 1)])), ((f6 1), .inl (cI, 40, .inl (fun _ => 0))), (q7, .inr (6, [.ref (f8 1)])), ((f8 1), .inl (cI, 240, .inl (fun _ => 0))), (q9, .inr (6, [.ref (f10 1)])), ((f10 1), .inl (cI, 40, .inl (fun _ => 0))), (q11, .inr (6, [.ref (f12 1)])), ((f12 1), .inl (cI, 120, .inl (fun _ => 0))), (q13, .inr (6, [.ref (f14 1)])), ((f14 1), .inl (cI, 120, .inl (fun _ => 0))), (q15, .inr (6, [.ref (f16 1)])), ((f16 1), .inl (cI, 120, .inl (fun _ => 0)))]) (w1 := [(q17, .inr (6, [.ref (f18 1)])), ((f18 1), .inl (cI, 6, .inl (fun _ => 0)))]) hP hD [17] [0, 1, 2, 3, 4, 5, 6, 7, 8, 9, 10, 11, 12, 13, 14, 15, 16] rfl rfl (by decide) (by decide) hk1 hFc hP1 hD1
  generalize H1 = H at hP hS ⊢
  have hP : va_P D am_cl [(h0, .inr (3, [.ref q1, .ref q3, .ref q5, .ref q7, .ref q9, .ref q11, .ref q13, .ref q15, .null, .int 0, .int 0])), (q1, .inr (6, [.ref (f2 1)])), ((f2 1), .inl (cI, 40, .inl (fun _ => 0))), (q3, .inr (6, [.ref (f4 1)])), ((f4 1), .inl (cI, 40, .inl (fun _ => 0))), (q5, .inr (6, [.ref (f6 1)])), ((f6 1), .inl (cI, 40, .inl (fun _ => 0))), (q7, .inr (6, [.ref (f8 1)])), ((f8 1), .inl (cI, 240, .inl (fun _ => 0))), (q9, .inr (6, [.ref (f10 1)])), ((f10 1), .inl (cI, 40, .inl (fun _ => 0))), (q11, .inr (6, [.ref (f12 1)])), ((f12 1), .inl (cI, 120, .inl (fun _ => 0))), (q13, .inr (6, [.ref (f14 1)])), ((f14 1), .inl (cI, 120, .inl (fun _ => 0))), (q15, .inr (6, [.ref (f16 1)])), ((f16 1), .inl (cI, 120, .inl (fun _ => 0))), (q17, .inr (6, [.ref (f18 1)])), ((f18 1), .inl (cI, 6, .inl (fun _ => 0)))] H := hP
  have hD : va_D A [(h0, .inr (3, [.ref q1, .ref q3, .ref q5, .ref q7, .ref q9, .ref q11, .ref q13, .ref q15, .null, .int 0, .int 0])), (q1, .inr (6, [.ref (f2 1)])), ((f2 1), .inl (cI, 40, .inl (fun _ => 0))), (q3, .inr (6, [.ref (f4 1)])), ((f4 1), .inl (cI, 40, .inl (fun _ => 0))), (q5, .inr (6, [.ref (f6 1)])), ((f6 1), .inl (cI, 40, .inl (fun _ => 0))), (q7, .inr (6, [.ref (f8 1)])), ((f8 1), .inl (cI, 240, .inl (fun _ => 0))), (q9, .inr (6, [.ref (f10 1)])), ((f10 1), .inl (cI, 40, .inl (fun _ => 0))), (q11, .inr (6, [.ref (f12 1)])), ((f12 1), .inl (cI, 120, .inl (fun _ => 0))), (q13, .inr (6, [.ref (f14 1)])), ((f14 1), .inl (cI, 120, .inl (fun _ => 0))), (q15, .inr (6, [.ref (f16 1)])), ((f16 1), .inl (cI, 120, .inl (fun _ => 0))), (q17, .inr (6, [.ref (f18 1)])), ((f18 1), .inl (cI, 6, .inl (fun _ => 0)))] := hD
  refine W.widen (k := 18) (n := 775) (by omega) (by omega) ?_
  refine va_putF (D := D) (ci := 3) (v := .ref q17) (ty := tyX3 8) (C := RX3) (T := TX3) (N := 11) hx hb hts am_ws3 tyX3 tyX3_ok nmX3 hown hK hP hD hS 0 rfl rfl 8 (by decide) (hts (.fieldLink RX3 41 "StatuteBook$Law" "resolved" "LStatuteBook$Row;") (am_mem (i := 172) (by decide +kernel) (by decide +kernel))) (fun _ h9 => h9) rfl hin rfl (by decide +kernel) rfl rfl (Nat.le_of_ble_eq_true rfl) dc_Law_init_119 (fun H locs hP hD hS => ?_)
  have hP : va_P D am_cl [(h0, .inr (3, [.ref q1, .ref q3, .ref q5, .ref q7, .ref q9, .ref q11, .ref q13, .ref q15, .ref q17, .int 0, .int 0])), (q1, .inr (6, [.ref (f2 1)])), ((f2 1), .inl (cI, 40, .inl (fun _ => 0))), (q3, .inr (6, [.ref (f4 1)])), ((f4 1), .inl (cI, 40, .inl (fun _ => 0))), (q5, .inr (6, [.ref (f6 1)])), ((f6 1), .inl (cI, 40, .inl (fun _ => 0))), (q7, .inr (6, [.ref (f8 1)])), ((f8 1), .inl (cI, 240, .inl (fun _ => 0))), (q9, .inr (6, [.ref (f10 1)])), ((f10 1), .inl (cI, 40, .inl (fun _ => 0))), (q11, .inr (6, [.ref (f12 1)])), ((f12 1), .inl (cI, 120, .inl (fun _ => 0))), (q13, .inr (6, [.ref (f14 1)])), ((f14 1), .inl (cI, 120, .inl (fun _ => 0))), (q15, .inr (6, [.ref (f16 1)])), ((f16 1), .inl (cI, 120, .inl (fun _ => 0))), (q17, .inr (6, [.ref (f18 1)])), ((f18 1), .inl (cI, 6, .inl (fun _ => 0)))] H := hP
  have hD : va_D A [(h0, .inr (3, [.ref q1, .ref q3, .ref q5, .ref q7, .ref q9, .ref q11, .ref q13, .ref q15, .ref q17, .int 0, .int 0])), (q1, .inr (6, [.ref (f2 1)])), ((f2 1), .inl (cI, 40, .inl (fun _ => 0))), (q3, .inr (6, [.ref (f4 1)])), ((f4 1), .inl (cI, 40, .inl (fun _ => 0))), (q5, .inr (6, [.ref (f6 1)])), ((f6 1), .inl (cI, 40, .inl (fun _ => 0))), (q7, .inr (6, [.ref (f8 1)])), ((f8 1), .inl (cI, 240, .inl (fun _ => 0))), (q9, .inr (6, [.ref (f10 1)])), ((f10 1), .inl (cI, 40, .inl (fun _ => 0))), (q11, .inr (6, [.ref (f12 1)])), ((f12 1), .inl (cI, 120, .inl (fun _ => 0))), (q13, .inr (6, [.ref (f14 1)])), ((f14 1), .inl (cI, 120, .inl (fun _ => 0))), (q15, .inr (6, [.ref (f16 1)])), ((f16 1), .inl (cI, 120, .inl (fun _ => 0))), (q17, .inr (6, [.ref (f18 1)])), ((f18 1), .inl (cI, 6, .inl (fun _ => 0)))] := hD
  have hP9 := hP.sub (ws' := [(h0, .inr (3, [.ref q1, .ref q3, .ref q5, .ref q7, .ref q9, .ref q11, .ref q13, .ref q15, .ref q17, .int 0, .int 0])), (q1, .inr (6, [.ref (f2 1)])), ((f2 1), .inl (cI, 40, .inl (fun _ => 0))), (q3, .inr (6, [.ref (f4 1)])), ((f4 1), .inl (cI, 40, .inl (fun _ => 0))), (q5, .inr (6, [.ref (f6 1)])), ((f6 1), .inl (cI, 40, .inl (fun _ => 0))), (q7, .inr (6, [.ref (f8 1)])), ((f8 1), .inl (cI, 240, .inl (fun _ => 0))), (q9, .inr (6, [.ref (f10 1)])), ((f10 1), .inl (cI, 40, .inl (fun _ => 0))), (q11, .inr (6, [.ref (f12 1)])), ((f12 1), .inl (cI, 120, .inl (fun _ => 0))), (q13, .inr (6, [.ref (f14 1)])), ((f14 1), .inl (cI, 120, .inl (fun _ => 0))), (q15, .inr (6, [.ref (f16 1)])), ((f16 1), .inl (cI, 120, .inl (fun _ => 0))), (q17, .inr (6, [.ref (f18 1)])), ((f18 1), .inl (cI, 6, .inl (fun _ => 0)))]) [0, 1, 2, 3, 4, 5, 6, 7, 8, 9, 10, 11, 12, 13, 14, 15, 16, 17, 18] rfl
  exact W.vret hx hb hr (fun t ht hW => ⟨⟨(fun k => match k with | 1 => q1 | 2 => (f2 1) | 3 => q3 | 4 => (f4 1) | 5 => q5 | 6 => (f6 1) | 7 => q7 | 8 => (f8 1) | 9 => q9 | 10 => (f10 1) | 11 => q11 | 12 => (f12 1) | 13 => q13 | 14 => (f14 1) | 15 => q15 | 16 => (f16 1) | 17 => q17 | 18 => (f18 1) | _ => 0), rfl, trivial, by rw [ht]; exact hP9, va_K.moved hW.alike hK, hD⟩, hS.F ht⟩) hS.2.2 dc_Law_init_122
theorem dc_Wal_init_0 : decode prog_9_method_1_code 0 = .ok (.aload_n 0, 1) := by decide +kernel
theorem dc_Wal_init_1 : decode prog_9_method_1_code 1 = .ok (.invokespecial 3, 3) := by decide +kernel
theorem dc_Wal_init_4 : decode prog_9_method_1_code 4 = .ok (.aload_n 0, 1) := by decide +kernel
theorem dc_Wal_init_5 : decode prog_9_method_1_code 5 = .ok (.new 9, 3) := by decide +kernel
theorem dc_Wal_init_8 : decode prog_9_method_1_code 8 = .ok (.dup, 1) := by decide +kernel
theorem dc_Wal_init_9 : decode prog_9_method_1_code 9 = .ok (.bipush 40, 2) := by decide +kernel
theorem dc_Wal_init_11 : decode prog_9_method_1_code 11 = .ok (.invokespecial 11, 3) := by decide +kernel
theorem dc_Wal_init_14 : decode prog_9_method_1_code 14 = .ok (.putfield 14, 3) := by decide +kernel
theorem dc_Wal_init_17 : decode prog_9_method_1_code 17 = .ok (.aload_n 0, 1) := by decide +kernel
theorem dc_Wal_init_18 : decode prog_9_method_1_code 18 = .ok (.new 9, 3) := by decide +kernel
theorem dc_Wal_init_21 : decode prog_9_method_1_code 21 = .ok (.dup, 1) := by decide +kernel
theorem dc_Wal_init_22 : decode prog_9_method_1_code 22 = .ok (.bipush 40, 2) := by decide +kernel
theorem dc_Wal_init_24 : decode prog_9_method_1_code 24 = .ok (.invokespecial 11, 3) := by decide +kernel
theorem dc_Wal_init_27 : decode prog_9_method_1_code 27 = .ok (.putfield 20, 3) := by decide +kernel
theorem dc_Wal_init_30 : decode prog_9_method_1_code 30 = .ok (.return_, 1) := by decide +kernel
theorem wc_Wal_init : Cond.code ⟨RX7, "<init>", "()V"⟩ prog_9_method_1_code 1 none ∈ am_tbl := am_mem (i := 202) (by decide +kernel) (by decide +kernel)
def aw_Wal (cI : ClassId) (h0 : Nat) (f : Nat → Nat) : va_W := [(h0, .inr (7, [.ref (f 1), .ref (f 3), .int 0, .int 0])), ((f 1), .inr (6, [.ref (f 2)])), ((f 2), .inl (cI, 40, .inl (fun _ => 0))), ((f 3), .inr (6, [.ref (f 4)])), ((f 4), .inl (cI, 40, .inl (fun _ => 0)))]
set_option maxHeartbeats 4000000 in
set_option maxRecDepth 100000 in
theorem c_Wal_init (l : Launch) (D : va_G) (cI : ClassId) (h0 : Nat) (sz : Nat) : Met l ⟨RX7, "<init>", "()V"⟩ (Cond.code ⟨RX7, "<init>", "()V"⟩ prog_9_method_1_code 1 none :: am_tbl) ({ frames := 2, cells := 4, slots := 82, locals := 42 }) (va_Pc [.ref h0] (fun U => U.heap.size = sz ∧ va_P D am_cl [(h0, .inr (7, [.null, .null, .int 0, .int 0]))] U.heap ∧ va_K D am_cl [(cI, .int)] U ∧ va_D (fun _ => True) [(h0, .inr (7, [.null, .null, .int 0, .int 0]))] ∧ am_nsm U)) (va_Qv (fun _ : Nat → Nat => True) (fun f t => va_P D am_cl (aw_Wal cI h0 f) t.heap ∧ va_K D am_cl [(cI, .int)] t ∧ va_D (va_A [(h0, .inr (7, [.null, .null, .int 0, .int 0]))] sz) (aw_Wal cI h0 f)) (va_A [(h0, .inr (7, [.null, .null, .int 0, .int 0]))] sz)) 4 82 (va_A [(h0, .inr (7, [.null, .null, .int 0, .int 0]))] sz) := by
  refine Met.ofW (cc := prog_9_method_1_code) (maxL := 1) (ret := none) (by decide) rfl ?_
  intro p e s m args below meth c s₁ B hml hv
  obtain ⟨rfl, hsz, hP, hK, hD0, hNw⟩ := hv
  have hx := B.exec
  have hb := B.bytes
  have hr := B.returns
  have hts0 := atoms_spec (ws := (Cond.code ⟨RX7, "<init>", "()V"⟩ prog_9_method_1_code 1 none :: am_tbl)) B.pre
  have hts : ∀ w ∈ am_tbl, w.before _ s = true := fun w hw => hts0 w (List.mem_cons_of_mem _ hw)
  have hown : s.vm.findClass RX7 = some m.cls := findClass_of_methodNamed B.named
  have hlocks := B.notSynchronized
  have hin : meth.name = "<init>" := (name_of_methodNamed B.named B.method).1
  subst hsz
  have hD := hD0.self (sz := s.heap.size)
  generalize hAe : va_A [(h0, .inr (7, [.null, .null, .int 0, .int 0]))] s.heap.size = A at hD ⊢
  have hA : ∀ q : Nat, s.heap.size ≤ q → A q := fun q h => by rw [← hAe]; exact Or.inr h
  have hS : va_S A s.heap s.heap [] := va_S.rf
  have hl := lv_entry ([.ref h0]) (n := 1) (Nat.le_of_ble_eq_true rfl)
  rw [lg_entry_eq]
  generalize (lg_sl ([.ref h0]) ++ List.replicate (1 - (lg_sl ([.ref h0])).length) Slot.unset).toArray = ls at hl ⊢
  have hl : lv_has ls 1 [(0, .ref h0)] := hl
  refine lv_aload_n hx hb dc_Wal_init_0 rfl (lv_at hl 0 rfl) ?_
  refine W.objInit hx hb hown (hts (.methodLink RX7 3 objectInit) (am_mem (i := 203) (by decide +kernel) (by decide +kernel))) (hts _ am_wob1) (hts _ am_wob2) rfl (by rw [hml]; exact hl.1) rfl dc_Wal_init_1 (Nat.le_of_ble_eq_true rfl) (Nat.le_of_ble_eq_true rfl) ?_
  refine W.eq (g2 := F0 m 4 ls []) rfl ?_
  refine lv_aload_n hx hb dc_Wal_init_4 rfl (lv_at hl 0 rfl) ?_
  refine va_new (ci := 6) (fs := [.null]) (C := RX6) (T := TX6) (N := 1) hx hb hts am_ws6 tyX6 tyX6_ok hown (hts (.classLink RX7 9 RX6) (am_mem (i := 204) (by decide +kernel) (by decide +kernel))) (hts (.instantiable RX6 1) (am_mem (i := 84) (by decide +kernel) (by decide +kernel))) (hts (.initialized RX6) (am_mem (i := 34) (by decide +kernel) (by decide +kernel))) hK hP hD hS hA rfl (fun j hj => by match j, hj with | 0, _ => rfl | j + 1, hj => exact absurd hj (by omega)) (Nat.le_of_ble_eq_true rfl) (Nat.le_of_ble_eq_true rfl) dc_Wal_init_5 (fun q1 H hP hD hS => ?_)
  have hP : va_P D am_cl [(h0, .inr (7, [.null, .null, .int 0, .int 0])), (q1, .inr (6, [.null]))] H := hP
  have hD : va_D A [(h0, .inr (7, [.null, .null, .int 0, .int 0])), (q1, .inr (6, [.null]))] := hD
  refine W.widen (k := 1) (n := 1) (by omega) (by omega) ?_
  refine lv_dup hx hb dc_Wal_init_8 rfl ?_
  refine lv_bipush (v := 40) hx hb dc_Wal_init_9 (by decide) ?_
  have hPc := hP.sub (ws' := [(q1, .inr (6, [.null]))]) [1] rfl
  have hDc := hD.sub (ws' := [(q1, .inr (6, [.null]))]) [1] (by decide) rfl
  have hKc := hK.sub (tys' := [(cI, .int)]) [0] rfl
  have hFc := va_free (wc := [(q1, .inr (6, [.null]))]) hD hS hA [1] rfl
  refine va_callv (va_runI (As := [.int 40]) (rest := [.ref q1, .ref h0]) ⟨hx, hb, hml, hown, hts⟩ (c_Row_init l D cI q1 H.size 40 40 (by decide) rfl (Nat.le_of_ble_eq_true rfl) rfl) (cwI 1 hts (am_GoodWs wc_Row_init) rfl rfl rfl (hts (.initialized RX6) (am_mem (i := 34) (by decide +kernel) (by decide +kernel))) (hts (.methodLink RX7 11 (⟨RX6, "<init>", "(I)V"⟩ : MethodName)) (am_mem (i := 205) (by decide +kernel) (by decide +kernel))) (hts (.instanceMethod (⟨RX6, "<init>", "(I)V"⟩ : MethodName)) (am_mem (i := 86) (by decide +kernel) (by decide +kernel))) rfl (by decide +kernel) ⟨Nat.le_of_ble_eq_true rfl, Nat.le_of_ble_eq_true rfl⟩) ⟨fun a U g mk q => by obtain ⟨q0, q1, qP, qK, qD, qN⟩ := q; exact ⟨q0, q1, qP, va_K.moved (u := U) (U := U.calling g mk a) (Vm.Alike.refl U.vm) qK, qD, am_nsm.same (u := U) rfl qN⟩, fun U hU hW => ⟨rfl, by rw [hU], by rw [hU]; exact hPc, va_K.moved hW.alike hKc, hDc.weaken (fun _ _ _ _ => trivial), hNw.warm hW⟩⟩ rfl rfl hl.1 rfl (lv_room (Nat.le_of_ble_eq_true rfl)) dc_Wal_init_11 ⟨Nat.le_of_ble_eq_true rfl, Nat.le_of_ble_eq_true rfl⟩) hS (fun q _ h => hFc q h) hFc (fun u t H1 locs ht hvm hw hB hz1 hk1 hS => ?_)
  obtain ⟨f2, rfl⟩ : ∃ z, z = u := ⟨_, rfl⟩
  obtain ⟨hP1, hK1, hD1⟩ := hB
  rw [ht] at hP1
  obtain ⟨hP, hD⟩ := va_join (wr := [(h0, .inr (7, [.null, .null, .int 0, .int 0]))]) (w1 := [(q1, .inr (6, [.ref (f2 1)])), ((f2 1), .inl (cI, 40, .inl (fun _ => 0)))]) hP hD [1] [0] rfl rfl (by decide) (by decide) hk1 hFc hP1 hD1
  generalize H1 = H at hP hS ⊢
  have hP : va_P D am_cl [(h0, .inr (7, [.null, .null, .int 0, .int 0])), (q1, .inr (6, [.ref (f2 1)])), ((f2 1), .inl (cI, 40, .inl (fun _ => 0)))] H := hP
  have hD : va_D A [(h0, .inr (7, [.null, .null, .int 0, .int 0])), (q1, .inr (6, [.ref (f2 1)])), ((f2 1), .inl (cI, 40, .inl (fun _ => 0)))] := hD
  refine W.widen (k := 2) (n := 41) (by omega) (by omega) ?_
  refine va_putF (D := D) (ci := 7) (v := .ref q1) (ty := tyX7 0) (C := RX7) (T := TX7) (N := 4) hx hb hts am_ws7 tyX7 tyX7_ok nmX7 hown hK hP hD hS 0 rfl rfl 0 (by decide) (hts (.fieldLink RX7 14 "StatuteBook$Walk" "distances" "LStatuteBook$Row;") (am_mem (i := 206) (by decide +kernel) (by decide +kernel))) (fun _ h9 => h9) rfl hin rfl (by decide +kernel) rfl rfl (Nat.le_of_ble_eq_true rfl) dc_Wal_init_14 (fun H locs hP hD hS => ?_)
  have hP : va_P D am_cl [(h0, .inr (7, [.ref q1, .null, .int 0, .int 0])), (q1, .inr (6, [.ref (f2 1)])), ((f2 1), .inl (cI, 40, .inl (fun _ => 0)))] H := hP
  have hD : va_D A [(h0, .inr (7, [.ref q1, .null, .int 0, .int 0])), (q1, .inr (6, [.ref (f2 1)])), ((f2 1), .inl (cI, 40, .inl (fun _ => 0)))] := hD
  refine lv_aload_n hx hb dc_Wal_init_17 rfl (lv_at hl 0 rfl) ?_
  refine va_new (ci := 6) (fs := [.null]) (C := RX6) (T := TX6) (N := 1) hx hb hts am_ws6 tyX6 tyX6_ok hown (hts (.classLink RX7 9 RX6) (am_mem (i := 204) (by decide +kernel) (by decide +kernel))) (hts (.instantiable RX6 1) (am_mem (i := 84) (by decide +kernel) (by decide +kernel))) (hts (.initialized RX6) (am_mem (i := 34) (by decide +kernel) (by decide +kernel))) hK hP hD hS hA rfl (fun j hj => by match j, hj with | 0, _ => rfl | j + 1, hj => exact absurd hj (by omega)) (Nat.le_of_ble_eq_true rfl) (Nat.le_of_ble_eq_true rfl) dc_Wal_init_18 (fun q3 H hP hD hS => ?_)
  have hP : va_P D am_cl [(h0, .inr (7, [.ref q1, .null, .int 0, .int 0])), (q1, .inr (6, [.ref (f2 1)])), ((f2 1), .inl (cI, 40, .inl (fun _ => 0))), (q3, .inr (6, [.null]))] H := hP
  have hD : va_D A [(h0, .inr (7, [.ref q1, .null, .int 0, .int 0])), (q1, .inr (6, [.ref (f2 1)])), ((f2 1), .inl (cI, 40, .inl (fun _ => 0))), (q3, .inr (6, [.null]))] := hD
  refine W.widen (k := 3) (n := 42) (by omega) (by omega) ?_
  refine lv_dup hx hb dc_Wal_init_21 rfl ?_
  refine lv_bipush (v := 40) hx hb dc_Wal_init_22 (by decide) ?_
  have hPc := hP.sub (ws' := [(q3, .inr (6, [.null]))]) [3] rfl
  have hDc := hD.sub (ws' := [(q3, .inr (6, [.null]))]) [3] (by decide) rfl
  have hKc := hK.sub (tys' := [(cI, .int)]) [0] rfl
  have hFc := va_free (wc := [(q3, .inr (6, [.null]))]) hD hS hA [3] rfl
  refine va_callv (va_runI (As := [.int 40]) (rest := [.ref q3, .ref h0]) ⟨hx, hb, hml, hown, hts⟩ (c_Row_init l D cI q3 H.size 40 40 (by decide) rfl (Nat.le_of_ble_eq_true rfl) rfl) (cwI 1 hts (am_GoodWs wc_Row_init) rfl rfl rfl (hts (.initialized RX6) (am_mem (i := 34) (by decide +kernel) (by decide +kernel))) (hts (.methodLink RX7 11 (⟨RX6, "<init>", "(I)V"⟩ : MethodName)) (am_mem (i := 205) (by decide +kernel) (by decide +kernel))) (hts (.instanceMethod (⟨RX6, "<init>", "(I)V"⟩ : MethodName)) (am_mem (i := 86) (by decide +kernel) (by decide +kernel))) rfl (by decide +kernel) ⟨Nat.le_of_ble_eq_true rfl, Nat.le_of_ble_eq_true rfl⟩) ⟨fun a U g mk q => by obtain ⟨q0, q1, qP, qK, qD, qN⟩ := q; exact ⟨q0, q1, qP, va_K.moved (u := U) (U := U.calling g mk a) (Vm.Alike.refl U.vm) qK, qD, am_nsm.same (u := U) rfl qN⟩, fun U hU hW => ⟨rfl, by rw [hU], by rw [hU]; exact hPc, va_K.moved hW.alike hKc, hDc.weaken (fun _ _ _ _ => trivial), hNw.warm hW⟩⟩ rfl rfl hl.1 rfl (lv_room (Nat.le_of_ble_eq_true rfl)) dc_Wal_init_24 ⟨Nat.le_of_ble_eq_true rfl, Nat.le_of_ble_eq_true rfl⟩) hS (fun q _ h => hFc q h) hFc (fun u t H1 locs ht hvm hw hB hz1 hk1 hS => ?_)
  obtain ⟨f4, rfl⟩ : ∃ z, z = u := ⟨_, rfl⟩
  obtain ⟨hP1, hK1, hD1⟩ := hB
  rw [ht] at hP1
  obtain ⟨hP, hD⟩ := va_join (wr := [(h0, .inr (7, [.ref q1, .null, .int 0, .int 0])), (q1, .inr (6, [.ref (f2 1)])), ((f2 1), .inl (cI, 40, .inl (fun _ => 0)))]) (w1 := [(q3, .inr (6, [.ref (f4 1)])), ((f4 1), .inl (cI, 40, .inl (fun _ => 0)))]) hP hD [3] [0, 1, 2] rfl rfl (by decide) (by decide) hk1 hFc hP1 hD1
  generalize H1 = H at hP hS ⊢
  have hP : va_P D am_cl [(h0, .inr (7, [.ref q1, .null, .int 0, .int 0])), (q1, .inr (6, [.ref (f2 1)])), ((f2 1), .inl (cI, 40, .inl (fun _ => 0))), (q3, .inr (6, [.ref (f4 1)])), ((f4 1), .inl (cI, 40, .inl (fun _ => 0)))] H := hP
  have hD : va_D A [(h0, .inr (7, [.ref q1, .null, .int 0, .int 0])), (q1, .inr (6, [.ref (f2 1)])), ((f2 1), .inl (cI, 40, .inl (fun _ => 0))), (q3, .inr (6, [.ref (f4 1)])), ((f4 1), .inl (cI, 40, .inl (fun _ => 0)))] := hD
  refine W.widen (k := 4) (n := 82) (by omega) (by omega) ?_
  refine va_putF (D := D) (ci := 7) (v := .ref q3) (ty := tyX7 1) (C := RX7) (T := TX7) (N := 4) hx hb hts am_ws7 tyX7 tyX7_ok nmX7 hown hK hP hD hS 0 rfl rfl 1 (by decide) (hts (.fieldLink RX7 20 "StatuteBook$Walk" "queue" "LStatuteBook$Row;") (am_mem (i := 207) (by decide +kernel) (by decide +kernel))) (fun _ h9 => h9) rfl hin rfl (by decide +kernel) rfl rfl (Nat.le_of_ble_eq_true rfl) dc_Wal_init_27 (fun H locs hP hD hS => ?_)
  have hP : va_P D am_cl [(h0, .inr (7, [.ref q1, .ref q3, .int 0, .int 0])), (q1, .inr (6, [.ref (f2 1)])), ((f2 1), .inl (cI, 40, .inl (fun _ => 0))), (q3, .inr (6, [.ref (f4 1)])), ((f4 1), .inl (cI, 40, .inl (fun _ => 0)))] H := hP
  have hD : va_D A [(h0, .inr (7, [.ref q1, .ref q3, .int 0, .int 0])), (q1, .inr (6, [.ref (f2 1)])), ((f2 1), .inl (cI, 40, .inl (fun _ => 0))), (q3, .inr (6, [.ref (f4 1)])), ((f4 1), .inl (cI, 40, .inl (fun _ => 0)))] := hD
  have hP9 := hP.sub (ws' := [(h0, .inr (7, [.ref q1, .ref q3, .int 0, .int 0])), (q1, .inr (6, [.ref (f2 1)])), ((f2 1), .inl (cI, 40, .inl (fun _ => 0))), (q3, .inr (6, [.ref (f4 1)])), ((f4 1), .inl (cI, 40, .inl (fun _ => 0)))]) [0, 1, 2, 3, 4] rfl
  exact W.vret hx hb hr (fun t ht hW => ⟨⟨(fun k => match k with | 1 => q1 | 2 => (f2 1) | 3 => q3 | 4 => (f4 1) | _ => 0), rfl, trivial, by rw [ht]; exact hP9, va_K.moved hW.alike hK, hD⟩, hS.F ht⟩) hS.2.2 dc_Wal_init_30
theorem dc_Rea_init_0 : decode prog_7_method_1_code 0 = .ok (.aload_n 0, 1) := by decide +kernel
theorem dc_Rea_init_1 : decode prog_7_method_1_code 1 = .ok (.invokespecial 3, 3) := by decide +kernel
theorem dc_Rea_init_4 : decode prog_7_method_1_code 4 = .ok (.aload_n 0, 1) := by decide +kernel
theorem dc_Rea_init_5 : decode prog_7_method_1_code 5 = .ok (.new 9, 3) := by decide +kernel
theorem dc_Rea_init_8 : decode prog_7_method_1_code 8 = .ok (.dup, 1) := by decide +kernel
theorem dc_Rea_init_9 : decode prog_7_method_1_code 9 = .ok (.bipush 120, 2) := by decide +kernel
theorem dc_Rea_init_11 : decode prog_7_method_1_code 11 = .ok (.invokespecial 11, 3) := by decide +kernel
theorem dc_Rea_init_14 : decode prog_7_method_1_code 14 = .ok (.putfield 14, 3) := by decide +kernel
theorem dc_Rea_init_17 : decode prog_7_method_1_code 17 = .ok (.aload_n 0, 1) := by decide +kernel
theorem dc_Rea_init_18 : decode prog_7_method_1_code 18 = .ok (.new 20, 3) := by decide +kernel
theorem dc_Rea_init_21 : decode prog_7_method_1_code 21 = .ok (.dup, 1) := by decide +kernel
theorem dc_Rea_init_22 : decode prog_7_method_1_code 22 = .ok (.invokespecial 22, 3) := by decide +kernel
theorem dc_Rea_init_25 : decode prog_7_method_1_code 25 = .ok (.putfield 23, 3) := by decide +kernel
theorem dc_Rea_init_28 : decode prog_7_method_1_code 28 = .ok (.return_, 1) := by decide +kernel
theorem wc_Rea_init : Cond.code ⟨RX5, "<init>", "()V"⟩ prog_7_method_1_code 1 none ∈ am_tbl := am_mem (i := 58) (by decide +kernel) (by decide +kernel)
def aw_Rea (cI : ClassId) (h0 : Nat) (f : Nat → Nat) : va_W := [(h0, .inr (5, [.ref (f 1), .ref (f 3), .int 0, .int 0])), ((f 1), .inr (4, [.ref (f 2), .int 0])), ((f 2), .inl (cI, 120, .inl (fun _ => 0))), ((f 3), .inr (2, [.ref (f 4), .int 0, .int 0])), ((f 4), .inr (6, [.ref (f 5)])), ((f 5), .inl (cI, 520, .inl (fun _ => 0)))]
set_option maxHeartbeats 4000000 in
set_option maxRecDepth 100000 in
theorem c_Rea_init (l : Launch) (D : va_G) (cI : ClassId) (h0 : Nat) (sz : Nat) : Met l ⟨RX5, "<init>", "()V"⟩ (Cond.code ⟨RX5, "<init>", "()V"⟩ prog_7_method_1_code 1 none :: am_tbl) ({ frames := 3, cells := 5, slots := 646, locals := 62 }) (va_Pc [.ref h0] (fun U => U.heap.size = sz ∧ va_P D am_cl [(h0, .inr (5, [.null, .null, .int 0, .int 0]))] U.heap ∧ va_K D am_cl [(cI, .int)] U ∧ va_D (fun _ => True) [(h0, .inr (5, [.null, .null, .int 0, .int 0]))] ∧ am_nsm U)) (va_Qv (fun _ : Nat → Nat => True) (fun f t => va_P D am_cl (aw_Rea cI h0 f) t.heap ∧ va_K D am_cl [(cI, .int)] t ∧ va_D (va_A [(h0, .inr (5, [.null, .null, .int 0, .int 0]))] sz) (aw_Rea cI h0 f)) (va_A [(h0, .inr (5, [.null, .null, .int 0, .int 0]))] sz)) 5 646 (va_A [(h0, .inr (5, [.null, .null, .int 0, .int 0]))] sz) := by
  refine Met.ofW (cc := prog_7_method_1_code) (maxL := 1) (ret := none) (by decide) rfl ?_
  intro p e s m args below meth c s₁ B hml hv
  obtain ⟨rfl, hsz, hP, hK, hD0, hNw⟩ := hv
  have hx := B.exec
  have hb := B.bytes
  have hr := B.returns
  have hts0 := atoms_spec (ws := (Cond.code ⟨RX5, "<init>", "()V"⟩ prog_7_method_1_code 1 none :: am_tbl)) B.pre
  have hts : ∀ w ∈ am_tbl, w.before _ s = true := fun w hw => hts0 w (List.mem_cons_of_mem _ hw)
  have hown : s.vm.findClass RX5 = some m.cls := findClass_of_methodNamed B.named
  have hlocks := B.notSynchronized
  have hin : meth.name = "<init>" := (name_of_methodNamed B.named B.method).1
  subst hsz
  have hD := hD0.self (sz := s.heap.size)
  generalize hAe : va_A [(h0, .inr (5, [.null, .null, .int 0, .int 0]))] s.heap.size = A at hD ⊢
  have hA : ∀ q : Nat, s.heap.size ≤ q → A q := fun q h => by rw [← hAe]; exact Or.inr h
  have hS : va_S A s.heap s.heap [] := va_S.rf
  have hl := lv_entry ([.ref h0]) (n := 1) (Nat.le_of_ble_eq_true rfl)
  rw [lg_entry_eq]
  generalize (lg_sl ([.ref h0]) ++ List.replicate (1 - (lg_sl ([.ref h0])).length) Slot.unset).toArray = ls at hl ⊢
  have hl : lv_has ls 1 [(0, .ref h0)] := hl
  refine lv_aload_n hx hb dc_Rea_init_0 rfl (lv_at hl 0 rfl) ?_
  refine W.objInit hx hb hown (hts (.methodLink RX5 3 objectInit) (am_mem (i := 59) (by decide +kernel) (by decide +kernel))) (hts _ am_wob1) (hts _ am_wob2) rfl (by rw [hml]; exact hl.1) rfl dc_Rea_init_1 (Nat.le_of_ble_eq_true rfl) (Nat.le_of_ble_eq_true rfl) ?_
  refine W.eq (g2 := F0 m 4 ls []) rfl ?_
  refine lv_aload_n hx hb dc_Rea_init_4 rfl (lv_at hl 0 rfl) ?_
  refine va_new (ci := 4) (fs := [.null, .int 0]) (C := RX4) (T := TX4) (N := 2) hx hb hts am_ws4 tyX4 tyX4_ok hown (hts (.classLink RX5 9 RX4) (am_mem (i := 60) (by decide +kernel) (by decide +kernel))) (hts (.instantiable RX4 2) (am_mem (i := 61) (by decide +kernel) (by decide +kernel))) (hts (.initialized RX4) (am_mem (i := 31) (by decide +kernel) (by decide +kernel))) hK hP hD hS hA rfl (fun j hj => by match j, hj with | 0, _ => rfl | 1, _ => rfl | j + 2, hj => exact absurd hj (by omega)) (Nat.le_of_ble_eq_true rfl) (Nat.le_of_ble_eq_true rfl) dc_Rea_init_5 (fun q1 H hP hD hS => ?_)
  have hP : va_P D am_cl [(h0, .inr (5, [.null, .null, .int 0, .int 0])), (q1, .inr (4, [.null, .int 0]))] H := hP
  have hD : va_D A [(h0, .inr (5, [.null, .null, .int 0, .int 0])), (q1, .inr (4, [.null, .int 0]))] := hD
  refine W.widen (k := 1) (n := 2) (by omega) (by omega) ?_
  refine lv_dup hx hb dc_Rea_init_8 rfl ?_
  refine lv_bipush (v := 120) hx hb dc_Rea_init_9 (by decide) ?_
  have hPc := hP.sub (ws' := [(q1, .inr (4, [.null, .int 0]))]) [1] rfl
  have hDc := hD.sub (ws' := [(q1, .inr (4, [.null, .int 0]))]) [1] (by decide) rfl
  have hKc := hK.sub (tys' := [(cI, .int)]) [0] rfl
  have hFc := va_free (wc := [(q1, .inr (4, [.null, .int 0]))]) hD hS hA [1] rfl
  refine va_callv (va_runI (As := [.int 120]) (rest := [.ref q1, .ref h0]) ⟨hx, hb, hml, hown, hts⟩ (c_Pag_init l D cI q1 H.size 120 120 (by decide) rfl (Nat.le_of_ble_eq_true rfl) rfl) (cwI 1 hts (am_GoodWs wc_Pag_init) rfl rfl rfl (hts (.initialized RX4) (am_mem (i := 31) (by decide +kernel) (by decide +kernel))) (hts (.methodLink RX5 11 (⟨RX4, "<init>", "(I)V"⟩ : MethodName)) (am_mem (i := 62) (by decide +kernel) (by decide +kernel))) (hts (.instanceMethod (⟨RX4, "<init>", "(I)V"⟩ : MethodName)) (am_mem (i := 63) (by decide +kernel) (by decide +kernel))) rfl (by decide +kernel) ⟨Nat.le_of_ble_eq_true rfl, Nat.le_of_ble_eq_true rfl⟩) ⟨fun a U g mk q => by obtain ⟨q0, q1, qP, qK, qD, qN⟩ := q; exact ⟨q0, q1, qP, va_K.moved (u := U) (U := U.calling g mk a) (Vm.Alike.refl U.vm) qK, qD, am_nsm.same (u := U) rfl qN⟩, fun U hU hW => ⟨rfl, by rw [hU], by rw [hU]; exact hPc, va_K.moved hW.alike hKc, hDc.weaken (fun _ _ _ _ => trivial), hNw.warm hW⟩⟩ rfl rfl hl.1 rfl (lv_room (Nat.le_of_ble_eq_true rfl)) dc_Rea_init_11 ⟨Nat.le_of_ble_eq_true rfl, Nat.le_of_ble_eq_true rfl⟩) hS (fun q _ h => hFc q h) hFc (fun u t H1 locs ht hvm hw hB hz1 hk1 hS => ?_)
  obtain ⟨f2, rfl⟩ : ∃ z, z = u := ⟨_, rfl⟩
  obtain ⟨hP1, hK1, hD1⟩ := hB
  rw [ht] at hP1
  obtain ⟨hP, hD⟩ := va_join (wr := [(h0, .inr (5, [.null, .null, .int 0, .int 0]))]) (w1 := [(q1, .inr (4, [.ref (f2 1), .int 0])), ((f2 1), .inl (cI, 120, .inl (fun _ => 0)))]) hP hD [1] [0] rfl rfl (by decide) (by decide) hk1 hFc hP1 hD1
  generalize H1 = H at hP hS ⊢
  have hP : va_P D am_cl [(h0, .inr (5, [.null, .null, .int 0, .int 0])), (q1, .inr (4, [.ref (f2 1), .int 0])), ((f2 1), .inl (cI, 120, .inl (fun _ => 0)))] H := hP
  have hD : va_D A [(h0, .inr (5, [.null, .null, .int 0, .int 0])), (q1, .inr (4, [.ref (f2 1), .int 0])), ((f2 1), .inl (cI, 120, .inl (fun _ => 0)))] := hD
  refine W.widen (k := 2) (n := 122) (by omega) (by omega) ?_
  refine va_putF (D := D) (ci := 5) (v := .ref q1) (ty := tyX5 0) (C := RX5) (T := TX5) (N := 4) hx hb hts am_ws5 tyX5 tyX5_ok nmX5 hown hK hP hD hS 0 rfl rfl 0 (by decide) (hts (.fieldLink RX5 14 "StatuteBook$Reader" "text" "LStatuteBook$Page;") (am_mem (i := 105) (by decide +kernel) (by decide +kernel))) (fun _ h9 => h9) rfl hin rfl (by decide +kernel) rfl rfl (Nat.le_of_ble_eq_true rfl) dc_Rea_init_14 (fun H locs hP hD hS => ?_)
  have hP : va_P D am_cl [(h0, .inr (5, [.ref q1, .null, .int 0, .int 0])), (q1, .inr (4, [.ref (f2 1), .int 0])), ((f2 1), .inl (cI, 120, .inl (fun _ => 0)))] H := hP
  have hD : va_D A [(h0, .inr (5, [.ref q1, .null, .int 0, .int 0])), (q1, .inr (4, [.ref (f2 1), .int 0])), ((f2 1), .inl (cI, 120, .inl (fun _ => 0)))] := hD
  refine lv_aload_n hx hb dc_Rea_init_17 rfl (lv_at hl 0 rfl) ?_
  refine va_new (ci := 2) (fs := [.null, .int 0, .int 0]) (C := RX2) (T := TX2) (N := 3) hx hb hts am_ws2 tyX2 tyX2_ok hown (hts (.classLink RX5 20 RX2) (am_mem (i := 77) (by decide +kernel) (by decide +kernel))) (hts (.instantiable RX2 3) (am_mem (i := 78) (by decide +kernel) (by decide +kernel))) (hts (.initialized RX2) (am_mem (i := 33) (by decide +kernel) (by decide +kernel))) hK hP hD hS hA rfl (fun j hj => by match j, hj with | 0, _ => rfl | 1, _ => rfl | 2, _ => rfl | j + 3, hj => exact absurd hj (by omega)) (Nat.le_of_ble_eq_true rfl) (Nat.le_of_ble_eq_true rfl) dc_Rea_init_18 (fun q3 H hP hD hS => ?_)
  have hP : va_P D am_cl [(h0, .inr (5, [.ref q1, .null, .int 0, .int 0])), (q1, .inr (4, [.ref (f2 1), .int 0])), ((f2 1), .inl (cI, 120, .inl (fun _ => 0))), (q3, .inr (2, [.null, .int 0, .int 0]))] H := hP
  have hD : va_D A [(h0, .inr (5, [.ref q1, .null, .int 0, .int 0])), (q1, .inr (4, [.ref (f2 1), .int 0])), ((f2 1), .inl (cI, 120, .inl (fun _ => 0))), (q3, .inr (2, [.null, .int 0, .int 0]))] := hD
  refine W.widen (k := 3) (n := 125) (by omega) (by omega) ?_
  refine lv_dup hx hb dc_Rea_init_21 rfl ?_
  have hPc := hP.sub (ws' := [(q3, .inr (2, [.null, .int 0, .int 0]))]) [3] rfl
  have hDc := hD.sub (ws' := [(q3, .inr (2, [.null, .int 0, .int 0]))]) [3] (by decide) rfl
  have hKc := hK.sub (tys' := [(cI, .int)]) [0] rfl
  have hFc := va_free (wc := [(q3, .inr (2, [.null, .int 0, .int 0]))]) hD hS hA [3] rfl
  refine va_callv (va_runIN (As := []) (rest := [.ref q3, .ref h0]) ⟨hx, hb, hml, hown, hts⟩ (c_Dra_init l D cI q3 H.size) ⟨va_cnB (host := "StatuteBook") 0 hts (am_GoodWs wc_Dra_init) rfl rfl rfl (hNw 79 _ _ _ _ (by decide +kernel)) (hts (.initialized RX2) (am_mem (i := 33) (by decide +kernel) (by decide +kernel))) (by decide +kernel) ⟨Nat.le_of_ble_eq_true rfl, Nat.le_of_ble_eq_true rfl⟩, rfl, (hts (.instanceMethod (⟨RX2, "<init>", "()V"⟩ : MethodName)) (am_mem (i := 80) (by decide +kernel) (by decide +kernel)))⟩ ⟨fun a U g mk q => by obtain ⟨q0, q1, qP, qK, qD, qN⟩ := q; exact ⟨q0, q1, qP, va_K.moved (u := U) (U := U.calling g mk a) (Vm.Alike.refl U.vm) qK, qD, am_nsm.same (u := U) rfl qN⟩, fun U hU hW => ⟨rfl, by rw [hU], by rw [hU]; exact hPc, va_K.moved hW.alike hKc, hDc.weaken (fun _ _ _ _ => trivial), hNw.warm hW⟩⟩ rfl rfl hl.1 rfl (lv_room (Nat.le_of_ble_eq_true rfl)) dc_Rea_init_22 ⟨Nat.le_of_ble_eq_true rfl, Nat.le_of_ble_eq_true rfl⟩) hS (fun q _ h => hFc q h) hFc (fun u t H1 locs ht hvm hw hB hz1 hk1 hS => ?_)
  obtain ⟨f4, rfl⟩ : ∃ z, z = u := ⟨_, rfl⟩
  obtain ⟨hP1, hK1, hD1⟩ := hB
  rw [ht] at hP1
  obtain ⟨hP, hD⟩ := va_join (wr := [(h0, .inr (5, [.ref q1, .null, .int 0, .int 0])), (q1, .inr (4, [.ref (f2 1), .int 0])), ((f2 1), .inl (cI, 120, .inl (fun _ => 0)))]) (w1 := [(q3, .inr (2, [.ref (f4 1), .int 0, .int 0])), ((f4 1), .inr (6, [.ref (f4 2)])), ((f4 2), .inl (cI, 520, .inl (fun _ => 0)))]) hP hD [3] [0, 1, 2] rfl rfl (by decide) (by decide) hk1 hFc hP1 hD1
  generalize H1 = H at hP hS ⊢
  have hP : va_P D am_cl [(h0, .inr (5, [.ref q1, .null, .int 0, .int 0])), (q1, .inr (4, [.ref (f2 1), .int 0])), ((f2 1), .inl (cI, 120, .inl (fun _ => 0))), (q3, .inr (2, [.ref (f4 1), .int 0, .int 0])), ((f4 1), .inr (6, [.ref (f4 2)])), ((f4 2), .inl (cI, 520, .inl (fun _ => 0)))] H := hP
  have hD : va_D A [(h0, .inr (5, [.ref q1, .null, .int 0, .int 0])), (q1, .inr (4, [.ref (f2 1), .int 0])), ((f2 1), .inl (cI, 120, .inl (fun _ => 0))), (q3, .inr (2, [.ref (f4 1), .int 0, .int 0])), ((f4 1), .inr (6, [.ref (f4 2)])), ((f4 2), .inl (cI, 520, .inl (fun _ => 0)))] := hD
  refine W.widen (k := 5) (n := 646) (by omega) (by omega) ?_
  refine va_putF (D := D) (ci := 5) (v := .ref q3) (ty := tyX5 1) (C := RX5) (T := TX5) (N := 4) hx hb hts am_ws5 tyX5 tyX5_ok nmX5 hown hK hP hD hS 0 rfl rfl 1 (by decide) (hts (.fieldLink RX5 23 "StatuteBook$Reader" "draft" "LStatuteBook$Draft;") (am_mem (i := 107) (by decide +kernel) (by decide +kernel))) (fun _ h9 => h9) rfl hin rfl (by decide +kernel) rfl rfl (Nat.le_of_ble_eq_true rfl) dc_Rea_init_25 (fun H locs hP hD hS => ?_)
  have hP : va_P D am_cl [(h0, .inr (5, [.ref q1, .ref q3, .int 0, .int 0])), (q1, .inr (4, [.ref (f2 1), .int 0])), ((f2 1), .inl (cI, 120, .inl (fun _ => 0))), (q3, .inr (2, [.ref (f4 1), .int 0, .int 0])), ((f4 1), .inr (6, [.ref (f4 2)])), ((f4 2), .inl (cI, 520, .inl (fun _ => 0)))] H := hP
  have hD : va_D A [(h0, .inr (5, [.ref q1, .ref q3, .int 0, .int 0])), (q1, .inr (4, [.ref (f2 1), .int 0])), ((f2 1), .inl (cI, 120, .inl (fun _ => 0))), (q3, .inr (2, [.ref (f4 1), .int 0, .int 0])), ((f4 1), .inr (6, [.ref (f4 2)])), ((f4 2), .inl (cI, 520, .inl (fun _ => 0)))] := hD
  have hP9 := hP.sub (ws' := [(h0, .inr (5, [.ref q1, .ref q3, .int 0, .int 0])), (q1, .inr (4, [.ref (f2 1), .int 0])), ((f2 1), .inl (cI, 120, .inl (fun _ => 0))), (q3, .inr (2, [.ref (f4 1), .int 0, .int 0])), ((f4 1), .inr (6, [.ref (f4 2)])), ((f4 2), .inl (cI, 520, .inl (fun _ => 0)))]) [0, 1, 2, 3, 4, 5] rfl
  exact W.vret hx hb hr (fun t ht hW => ⟨⟨(fun k => match k with | 1 => q1 | 2 => (f2 1) | 3 => q3 | 4 => (f4 1) | 5 => (f4 2) | _ => 0), rfl, trivial, by rw [ht]; exact hP9, va_K.moved hW.alike hK, hD⟩, hS.F ht⟩) hS.2.2 dc_Rea_init_28
theorem dc_SB_init_0 : decode prog_1_method_1_code 0 = .ok (.aload_n 0, 1) := by decide +kernel
theorem dc_SB_init_1 : decode prog_1_method_1_code 1 = .ok (.invokespecial 3, 3) := by decide +kernel
theorem dc_SB_init_4 : decode prog_1_method_1_code 4 = .ok (.aload_n 0, 1) := by decide +kernel
theorem dc_SB_init_5 : decode prog_1_method_1_code 5 = .ok (.new 9, 3) := by decide +kernel
theorem dc_SB_init_8 : decode prog_1_method_1_code 8 = .ok (.dup, 1) := by decide +kernel
theorem dc_SB_init_9 : decode prog_1_method_1_code 9 = .ok (.invokespecial 11, 3) := by decide +kernel
theorem dc_SB_init_12 : decode prog_1_method_1_code 12 = .ok (.putfield 12, 3) := by decide +kernel
theorem dc_SB_init_15 : decode prog_1_method_1_code 15 = .ok (.aload_n 0, 1) := by decide +kernel
theorem dc_SB_init_16 : decode prog_1_method_1_code 16 = .ok (.new 16, 3) := by decide +kernel
theorem dc_SB_init_19 : decode prog_1_method_1_code 19 = .ok (.dup, 1) := by decide +kernel
theorem dc_SB_init_20 : decode prog_1_method_1_code 20 = .ok (.sipush 1000, 3) := by decide +kernel
theorem dc_SB_init_23 : decode prog_1_method_1_code 23 = .ok (.invokespecial 18, 3) := by decide +kernel
theorem dc_SB_init_26 : decode prog_1_method_1_code 26 = .ok (.putfield 21, 3) := by decide +kernel
theorem dc_SB_init_29 : decode prog_1_method_1_code 29 = .ok (.aload_n 0, 1) := by decide +kernel
theorem dc_SB_init_30 : decode prog_1_method_1_code 30 = .ok (.new 25, 3) := by decide +kernel
theorem dc_SB_init_33 : decode prog_1_method_1_code 33 = .ok (.dup, 1) := by decide +kernel
theorem dc_SB_init_34 : decode prog_1_method_1_code 34 = .ok (.invokespecial 27, 3) := by decide +kernel
theorem dc_SB_init_37 : decode prog_1_method_1_code 37 = .ok (.putfield 28, 3) := by decide +kernel
theorem dc_SB_init_40 : decode prog_1_method_1_code 40 = .ok (.aload_n 0, 1) := by decide +kernel
theorem dc_SB_init_41 : decode prog_1_method_1_code 41 = .ok (.new 32, 3) := by decide +kernel
theorem dc_SB_init_44 : decode prog_1_method_1_code 44 = .ok (.dup, 1) := by decide +kernel
theorem dc_SB_init_45 : decode prog_1_method_1_code 45 = .ok (.invokespecial 34, 3) := by decide +kernel
theorem dc_SB_init_48 : decode prog_1_method_1_code 48 = .ok (.putfield 35, 3) := by decide +kernel
theorem dc_SB_init_51 : decode prog_1_method_1_code 51 = .ok (.aload_n 0, 1) := by decide +kernel
theorem dc_SB_init_52 : decode prog_1_method_1_code 52 = .ok (.new 39, 3) := by decide +kernel
theorem dc_SB_init_55 : decode prog_1_method_1_code 55 = .ok (.dup, 1) := by decide +kernel
theorem dc_SB_init_56 : decode prog_1_method_1_code 56 = .ok (.invokespecial 41, 3) := by decide +kernel
theorem dc_SB_init_59 : decode prog_1_method_1_code 59 = .ok (.putfield 42, 3) := by decide +kernel
theorem dc_SB_init_62 : decode prog_1_method_1_code 62 = .ok (.aload_n 0, 1) := by decide +kernel
theorem dc_SB_init_63 : decode prog_1_method_1_code 63 = .ok (.new 39, 3) := by decide +kernel
theorem dc_SB_init_66 : decode prog_1_method_1_code 66 = .ok (.dup, 1) := by decide +kernel
theorem dc_SB_init_67 : decode prog_1_method_1_code 67 = .ok (.invokespecial 41, 3) := by decide +kernel
theorem dc_SB_init_70 : decode prog_1_method_1_code 70 = .ok (.putfield 46, 3) := by decide +kernel
theorem dc_SB_init_73 : decode prog_1_method_1_code 73 = .ok (.aload_n 0, 1) := by decide +kernel
theorem dc_SB_init_74 : decode prog_1_method_1_code 74 = .ok (.new 49, 3) := by decide +kernel
theorem dc_SB_init_77 : decode prog_1_method_1_code 77 = .ok (.dup, 1) := by decide +kernel
theorem dc_SB_init_78 : decode prog_1_method_1_code 78 = .ok (.invokespecial 51, 3) := by decide +kernel
theorem dc_SB_init_81 : decode prog_1_method_1_code 81 = .ok (.putfield 52, 3) := by decide +kernel
theorem dc_SB_init_84 : decode prog_1_method_1_code 84 = .ok (.return_, 1) := by decide +kernel
theorem wc_SB_init : Cond.code ⟨RX8, "<init>", "()V"⟩ prog_1_method_1_code 1 none ∈ am_tbl := am_mem (i := 50) (by decide +kernel) (by decide +kernel)
def aw_SB (cI : ClassId) (h0 : Nat) (f : Nat → Nat) : va_W := [(h0, .inr (8, [.ref (f 1), .ref (f 7), .ref (f 9), .ref (f 12), .ref (f 15), .ref (f 34), .ref (f 53)])), ((f 1), .inr (5, [.ref (f 2), .ref (f 4), .int 0, .int 0])), ((f 2), .inr (4, [.ref (f 3), .int 0])), ((f 3), .inl (cI, 120, .inl (fun _ => 0))), ((f 4), .inr (2, [.ref (f 5), .int 0, .int 0])), ((f 5), .inr (6, [.ref (f 6)])), ((f 6), .inl (cI, 520, .inl (fun _ => 0))), ((f 7), .inr (4, [.ref (f 8), .int 0])), ((f 8), .inl (cI, 1000, .inl (fun _ => 0))), ((f 9), .inr (0, [.ref (f 10)])), ((f 10), .inr (6, [.ref (f 11)])), ((f 11), .inl (cI, 1605, .inl (fun _ => 0))), ((f 12), .inr (1, [.ref (f 13), .int 0, .int 0, .int 0])), ((f 13), .inr (6, [.ref (f 14)])), ((f 14), .inl (cI, 19260, .inl (fun _ => 0))), ((f 15), .inr (3, [.ref (f 16), .ref (f 18), .ref (f 20), .ref (f 22), .ref (f 24), .ref (f 26), .ref (f 28), .ref (f 30), .ref (f 32), .int 0, .int 0])), ((f 16), .inr (6, [.ref (f 17)])), ((f 17), .inl (cI, 40, .inl (fun _ => 0))), ((f 18), .inr (6, [.ref (f 19)])), ((f 19), .inl (cI, 40, .inl (fun _ => 0))), ((f 20), .inr (6, [.ref (f 21)])), ((f 21), .inl (cI, 40, .inl (fun _ => 0))), ((f 22), .inr (6, [.ref (f 23)])), ((f 23), .inl (cI, 240, .inl (fun _ => 0))), ((f 24), .inr (6, [.ref (f 25)])), ((f 25), .inl (cI, 40, .inl (fun _ => 0))), ((f 26), .inr (6, [.ref (f 27)])), ((f 27), .inl (cI, 120, .inl (fun _ => 0))), ((f 28), .inr (6, [.ref (f 29)])), ((f 29), .inl (cI, 120, .inl (fun _ => 0))), ((f 30), .inr (6, [.ref (f 31)])), ((f 31), .inl (cI, 120, .inl (fun _ => 0))), ((f 32), .inr (6, [.ref (f 33)])), ((f 33), .inl (cI, 6, .inl (fun _ => 0))), ((f 34), .inr (3, [.ref (f 35), .ref (f 37), .ref (f 39), .ref (f 41), .ref (f 43), .ref (f 45), .ref (f 47), .ref (f 49), .ref (f 51), .int 0, .int 0])), ((f 35), .inr (6, [.ref (f 36)])), ((f 36), .inl (cI, 40, .inl (fun _ => 0))), ((f 37), .inr (6, [.ref (f 38)])), ((f 38), .inl (cI, 40, .inl (fun _ => 0))), ((f 39), .inr (6, [.ref (f 40)])), ((f 40), .inl (cI, 40, .inl (fun _ => 0))), ((f 41), .inr (6, [.ref (f 42)])), ((f 42), .inl (cI, 240, .inl (fun _ => 0))), ((f 43), .inr (6, [.ref (f 44)])), ((f 44), .inl (cI, 40, .inl (fun _ => 0))), ((f 45), .inr (6, [.ref (f 46)])), ((f 46), .inl (cI, 120, .inl (fun _ => 0))), ((f 47), .inr (6, [.ref (f 48)])), ((f 48), .inl (cI, 120, .inl (fun _ => 0))), ((f 49), .inr (6, [.ref (f 50)])), ((f 50), .inl (cI, 120, .inl (fun _ => 0))), ((f 51), .inr (6, [.ref (f 52)])), ((f 52), .inl (cI, 6, .inl (fun _ => 0))), ((f 53), .inr (7, [.ref (f 54), .ref (f 56), .int 0, .int 0])), ((f 54), .inr (6, [.ref (f 55)])), ((f 55), .inl (cI, 40, .inl (fun _ => 0))), ((f 56), .inr (6, [.ref (f 57)])), ((f 57), .inl (cI, 40, .inl (fun _ => 0)))]
set_option maxHeartbeats 4000000 in
set_option maxRecDepth 100000 in
theorem c_SB_init (l : Launch) (D : va_G) (cI : ClassId) (h0 : Nat) (sz : Nat) : Met l ⟨RX8, "<init>", "()V"⟩ (Cond.code ⟨RX8, "<init>", "()V"⟩ prog_1_method_1_code 1 none :: am_tbl) ({ frames := 4, cells := 57, slots := 24182, locals := 82 }) (va_Pc [.ref h0] (fun U => U.heap.size = sz ∧ va_P D am_cl [(h0, .inr (8, [.null, .null, .null, .null, .null, .null, .null]))] U.heap ∧ va_K D am_cl [(cI, .int)] U ∧ va_D (fun _ => True) [(h0, .inr (8, [.null, .null, .null, .null, .null, .null, .null]))] ∧ am_nsm U)) (va_Qv (fun _ : Nat → Nat => True) (fun f t => va_P D am_cl (aw_SB cI h0 f) t.heap ∧ va_K D am_cl [(cI, .int)] t ∧ va_D (va_A [(h0, .inr (8, [.null, .null, .null, .null, .null, .null, .null]))] sz) (aw_SB cI h0 f)) (va_A [(h0, .inr (8, [.null, .null, .null, .null, .null, .null, .null]))] sz)) 57 24182 (va_A [(h0, .inr (8, [.null, .null, .null, .null, .null, .null, .null]))] sz) := by
  refine Met.ofW (cc := prog_1_method_1_code) (maxL := 1) (ret := none) (by decide) rfl ?_
  intro p e s m args below meth c s₁ B hml hv
  obtain ⟨rfl, hsz, hP, hK, hD0, hNw⟩ := hv
  have hx := B.exec
  have hb := B.bytes
  have hr := B.returns
  have hts0 := atoms_spec (ws := (Cond.code ⟨RX8, "<init>", "()V"⟩ prog_1_method_1_code 1 none :: am_tbl)) B.pre
  have hts : ∀ w ∈ am_tbl, w.before _ s = true := fun w hw => hts0 w (List.mem_cons_of_mem _ hw)
  have hown : s.vm.findClass RX8 = some m.cls := findClass_of_methodNamed B.named
  have hlocks := B.notSynchronized
  have hin : meth.name = "<init>" := (name_of_methodNamed B.named B.method).1
  subst hsz
  have hD := hD0.self (sz := s.heap.size)
  generalize hAe : va_A [(h0, .inr (8, [.null, .null, .null, .null, .null, .null, .null]))] s.heap.size = A at hD ⊢
  have hA : ∀ q : Nat, s.heap.size ≤ q → A q := fun q h => by rw [← hAe]; exact Or.inr h
  have hS : va_S A s.heap s.heap [] := va_S.rf
  have hl := lv_entry ([.ref h0]) (n := 1) (Nat.le_of_ble_eq_true rfl)
  rw [lg_entry_eq]
  generalize (lg_sl ([.ref h0]) ++ List.replicate (1 - (lg_sl ([.ref h0])).length) Slot.unset).toArray = ls at hl ⊢
  have hl : lv_has ls 1 [(0, .ref h0)] := hl
  refine lv_aload_n hx hb dc_SB_init_0 rfl (lv_at hl 0 rfl) ?_
  refine W.objInit hx hb hown (hts (.methodLink RX8 3 objectInit) (am_mem (i := 51) (by decide +kernel) (by decide +kernel))) (hts _ am_wob1) (hts _ am_wob2) rfl (by rw [hml]; exact hl.1) rfl dc_SB_init_1 (Nat.le_of_ble_eq_true rfl) (Nat.le_of_ble_eq_true rfl) ?_
  refine W.eq (g2 := F0 m 4 ls []) rfl ?_
  refine lv_aload_n hx hb dc_SB_init_4 rfl (lv_at hl 0 rfl) ?_
  refine va_new (ci := 5) (fs := [.null, .null, .int 0, .int 0]) (C := RX5) (T := TX5) (N := 4) hx hb hts am_ws5 tyX5 tyX5_ok hown (hts (.classLink RX8 9 RX5) (am_mem (i := 54) (by decide +kernel) (by decide +kernel))) (hts (.instantiable RX5 4) (am_mem (i := 55) (by decide +kernel) (by decide +kernel))) (hts (.initialized RX5) (am_mem (i := 30) (by decide +kernel) (by decide +kernel))) hK hP hD hS hA rfl (fun j hj => by match j, hj with | 0, _ => rfl | 1, _ => rfl | 2, _ => rfl | 3, _ => rfl | j + 4, hj => exact absurd hj (by omega)) (Nat.le_of_ble_eq_true rfl) (Nat.le_of_ble_eq_true rfl) dc_SB_init_5 (fun q1 H hP hD hS => ?_)
  have hP : va_P D am_cl [(h0, .inr (8, [.null, .null, .null, .null, .null, .null, .null])), (q1, .inr (5, [.null, .null, .int 0, .int 0]))] H := hP
  have hD : va_D A [(h0, .inr (8, [.null, .null, .null, .null, .null, .null, .null])), (q1, .inr (5, [.null, .null, .int 0, .int 0]))] := hD
  refine W.widen (k := 1) (n := 4) (by omega) (by omega) ?_
  refine lv_dup hx hb dc_SB_init_8 rfl ?_
  have hPc := hP.sub (ws' := [(q1, .inr (5, [.null, .null, .int 0, .int 0]))]) [1] rfl
  have hDc := hD.sub (ws' := [(q1, .inr (5, [.null, .null, .int 0, .int 0]))]) [1] (by decide) rfl
  have hKc := hK.sub (tys' := [(cI, .int)]) [0] rfl
  have hFc := va_free (wc := [(q1, .inr (5, [.null, .null, .int 0, .int 0]))]) hD hS hA [1] rfl
  refine va_callv (va_runIN (As := []) (rest := [.ref q1, .ref h0]) ⟨hx, hb, hml, hown, hts⟩ (c_Rea_init l D cI q1 H.size) ⟨va_cnB (host := "StatuteBook") 0 hts (am_GoodWs wc_Rea_init) rfl rfl rfl (hNw 56 _ _ _ _ (by decide +kernel)) (hts (.initialized RX5) (am_mem (i := 30) (by decide +kernel) (by decide +kernel))) (by decide +kernel) ⟨Nat.le_of_ble_eq_true rfl, Nat.le_of_ble_eq_true rfl⟩, rfl, (hts (.instanceMethod (⟨RX5, "<init>", "()V"⟩ : MethodName)) (am_mem (i := 57) (by decide +kernel) (by decide +kernel)))⟩ ⟨fun a U g mk q => by obtain ⟨q0, q1, qP, qK, qD, qN⟩ := q; exact ⟨q0, q1, qP, va_K.moved (u := U) (U := U.calling g mk a) (Vm.Alike.refl U.vm) qK, qD, am_nsm.same (u := U) rfl qN⟩, fun U hU hW => ⟨rfl, by rw [hU], by rw [hU]; exact hPc, va_K.moved hW.alike hKc, hDc.weaken (fun _ _ _ _ => trivial), hNw.warm hW⟩⟩ rfl rfl hl.1 rfl (lv_room (Nat.le_of_ble_eq_true rfl)) dc_SB_init_9 ⟨Nat.le_of_ble_eq_true rfl, Nat.le_of_ble_eq_true rfl⟩) hS (fun q _ h => hFc q h) hFc (fun u t H1 locs ht hvm hw hB hz1 hk1 hS => ?_)
  obtain ⟨f2, rfl⟩ : ∃ z, z = u := ⟨_, rfl⟩
  obtain ⟨hP1, hK1, hD1⟩ := hB
  rw [ht] at hP1
  obtain ⟨hP, hD⟩ := va_join (wr := [(h0, .inr (8, [.null, .null, .null, .null, .null, .null, .null]))]) (w1 := [(q1, .inr (5, [.ref (f2 1), .ref (f2 3), .int 0, .int 0])), ((f2 1), .inr (4, [.ref (f2 2), .int 0])), ((f2 2), .inl (cI, 120, .inl (fun _ => 0))), ((f2 3), .inr (2, [.ref (f2 4), .int 0, .int 0])), ((f2 4), .inr (6, [.ref (f2 5)])), ((f2 5), .inl (cI, 520, .inl (fun _ => 0)))]) hP hD [1] [0] rfl rfl (by decide) (by decide) hk1 hFc hP1 hD1
  generalize H1 = H at hP hS ⊢
  have hP : va_P D am_cl [(h0, .inr (8, [.null, .null, .null, .null, .null, .null, .null])), (q1, .inr (5, [.ref (f2 1), .ref (f2 3), .int 0, .int 0])), ((f2 1), .inr (4, [.ref (f2 2), .int 0])), ((f2 2), .inl (cI, 120, .inl (fun _ => 0))), ((f2 3), .inr (2, [.ref (f2 4), .int 0, .int 0])), ((f2 4), .inr (6, [.ref (f2 5)])), ((f2 5), .inl (cI, 520, .inl (fun _ => 0)))] H := hP
  have hD : va_D A [(h0, .inr (8, [.null, .null, .null, .null, .null, .null, .null])), (q1, .inr (5, [.ref (f2 1), .ref (f2 3), .int 0, .int 0])), ((f2 1), .inr (4, [.ref (f2 2), .int 0])), ((f2 2), .inl (cI, 120, .inl (fun _ => 0))), ((f2 3), .inr (2, [.ref (f2 4), .int 0, .int 0])), ((f2 4), .inr (6, [.ref (f2 5)])), ((f2 5), .inl (cI, 520, .inl (fun _ => 0)))] := hD
  refine W.widen (k := 6) (n := 650) (by omega) (by omega) ?_
  refine va_putF (D := D) (ci := 8) (v := .ref q1) (ty := tyX8 0) (C := RX8) (T := TX8) (N := 7) hx hb hts am_ws8 tyX8 tyX8_ok nmX8 hown hK hP hD hS 0 rfl rfl 0 (by decide) (hts (.fieldLink RX8 12 "StatuteBook" "reader" "LStatuteBook$Reader;") (am_mem (i := 217) (by decide +kernel) (by decide +kernel))) (fun _ h9 => h9) rfl hin rfl (by decide +kernel) rfl rfl (Nat.le_of_ble_eq_true rfl) dc_SB_init_12 (fun H locs hP hD hS => ?_)
  have hP : va_P D am_cl [(h0, .inr (8, [.ref q1, .null, .null, .null, .null, .null, .null])), (q1, .inr (5, [.ref (f2 1), .ref (f2 3), .int 0, .int 0])), ((f2 1), .inr (4, [.ref (f2 2), .int 0])), ((f2 2), .inl (cI, 120, .inl (fun _ => 0))), ((f2 3), .inr (2, [.ref (f2 4), .int 0, .int 0])), ((f2 4), .inr (6, [.ref (f2 5)])), ((f2 5), .inl (cI, 520, .inl (fun _ => 0)))] H := hP
  have hD : va_D A [(h0, .inr (8, [.ref q1, .null, .null, .null, .null, .null, .null])), (q1, .inr (5, [.ref (f2 1), .ref (f2 3), .int 0, .int 0])), ((f2 1), .inr (4, [.ref (f2 2), .int 0])), ((f2 2), .inl (cI, 120, .inl (fun _ => 0))), ((f2 3), .inr (2, [.ref (f2 4), .int 0, .int 0])), ((f2 4), .inr (6, [.ref (f2 5)])), ((f2 5), .inl (cI, 520, .inl (fun _ => 0)))] := hD
  refine lv_aload_n hx hb dc_SB_init_15 rfl (lv_at hl 0 rfl) ?_
  refine va_new (ci := 4) (fs := [.null, .int 0]) (C := RX4) (T := TX4) (N := 2) hx hb hts am_ws4 tyX4 tyX4_ok hown (hts (.classLink RX8 16 RX4) (am_mem (i := 120) (by decide +kernel) (by decide +kernel))) (hts (.instantiable RX4 2) (am_mem (i := 61) (by decide +kernel) (by decide +kernel))) (hts (.initialized RX4) (am_mem (i := 31) (by decide +kernel) (by decide +kernel))) hK hP hD hS hA rfl (fun j hj => by match j, hj with | 0, _ => rfl | 1, _ => rfl | j + 2, hj => exact absurd hj (by omega)) (Nat.le_of_ble_eq_true rfl) (Nat.le_of_ble_eq_true rfl) dc_SB_init_16 (fun q3 H hP hD hS => ?_)
  have hP : va_P D am_cl [(h0, .inr (8, [.ref q1, .null, .null, .null, .null, .null, .null])), (q1, .inr (5, [.ref (f2 1), .ref (f2 3), .int 0, .int 0])), ((f2 1), .inr (4, [.ref (f2 2), .int 0])), ((f2 2), .inl (cI, 120, .inl (fun _ => 0))), ((f2 3), .inr (2, [.ref (f2 4), .int 0, .int 0])), ((f2 4), .inr (6, [.ref (f2 5)])), ((f2 5), .inl (cI, 520, .inl (fun _ => 0))), (q3, .inr (4, [.null, .int 0]))] H := hP
  have hD : va_D A [(h0, .inr (8, [.ref q1, .null, .null, .null, .null, .null, .null])), (q1, .inr (5, [.ref (f2 1), .ref (f2 3), .int 0, .int 0])), ((f2 1), .inr (4, [.ref (f2 2), .int 0])), ((f2 2), .inl (cI, 120, .inl (fun _ => 0))), ((f2 3), .inr (2, [.ref (f2 4), .int 0, .int 0])), ((f2 4), .inr (6, [.ref (f2 5)])), ((f2 5), .inl (cI, 520, .inl (fun _ => 0))), (q3, .inr (4, [.null, .int 0]))] := hD
  refine W.widen (k := 7) (n := 652) (by omega) (by omega) ?_
  refine lv_dup hx hb dc_SB_init_19 rfl ?_
  refine lv_sipush (v := 1000) hx hb dc_SB_init_20 (by decide) ?_
  have hPc := hP.sub (ws' := [(q3, .inr (4, [.null, .int 0]))]) [7] rfl
  have hDc := hD.sub (ws' := [(q3, .inr (4, [.null, .int 0]))]) [7] (by decide) rfl
  have hKc := hK.sub (tys' := [(cI, .int)]) [0] rfl
  have hFc := va_free (wc := [(q3, .inr (4, [.null, .int 0]))]) hD hS hA [7] rfl
  refine va_callv (va_runI (As := [.int 1000]) (rest := [.ref q3, .ref h0]) ⟨hx, hb, hml, hown, hts⟩ (c_Pag_init l D cI q3 H.size 1000 1000 (by decide) rfl (Nat.le_of_ble_eq_true rfl) rfl) (cwI 1 hts (am_GoodWs wc_Pag_init) rfl rfl rfl (hts (.initialized RX4) (am_mem (i := 31) (by decide +kernel) (by decide +kernel))) (hts (.methodLink RX8 18 (⟨RX4, "<init>", "(I)V"⟩ : MethodName)) (am_mem (i := 121) (by decide +kernel) (by decide +kernel))) (hts (.instanceMethod (⟨RX4, "<init>", "(I)V"⟩ : MethodName)) (am_mem (i := 63) (by decide +kernel) (by decide +kernel))) rfl (by decide +kernel) ⟨Nat.le_of_ble_eq_true rfl, Nat.le_of_ble_eq_true rfl⟩) ⟨fun a U g mk q => by obtain ⟨q0, q1, qP, qK, qD, qN⟩ := q; exact ⟨q0, q1, qP, va_K.moved (u := U) (U := U.calling g mk a) (Vm.Alike.refl U.vm) qK, qD, am_nsm.same (u := U) rfl qN⟩, fun U hU hW => ⟨rfl, by rw [hU], by rw [hU]; exact hPc, va_K.moved hW.alike hKc, hDc.weaken (fun _ _ _ _ => trivial), hNw.warm hW⟩⟩ rfl rfl hl.1 rfl (lv_room (Nat.le_of_ble_eq_true rfl)) dc_SB_init_23 ⟨Nat.le_of_ble_eq_true rfl, Nat.le_of_ble_eq_true rfl⟩) hS (fun q _ h => hFc q h) hFc (fun u t H1 locs ht hvm hw hB hz1 hk1 hS => ?_)
  obtain ⟨f4, rfl⟩ : ∃ z, z = u := ⟨_, rfl⟩
  obtain ⟨hP1, hK1, hD1⟩ := hB
  rw [ht] at hP1
  obtain ⟨hP, hD⟩ := va_join (wr := [(h0, .inr (8, [.ref q1, .null, .null, .null, .null, .null, .null])), (q1, .inr (5, [.ref (f2 1), .ref (f2 3), .int 0, .int 0])), ((f2 1), .inr (4, [.ref (f2 2), .int 0])), ((f2 2), .inl (cI, 120, .inl (fun _ => 0))), ((f2 3), .inr (2, [.ref (f2 4), .int 0, .int 0])), ((f2 4), .inr (6, [.ref (f2 5)])), ((f2 5), .inl (cI, 520, .inl (fun _ => 0)))]) (w1 := [(q3, .inr (4, [.ref (f4 1), .int 0])), ((f4 1), .inl (cI, 1000, .inl (fun _ => 0)))]) hP hD [7] [0, 1, 2, 3, 4, 5, 6] rfl rfl (by decide) (by decide) hk1 hFc hP1 hD1
  generalize H1 = H at hP hS ⊢
  have hP : va_P D am_cl [(h0, .inr (8, [.ref q1, .null, .null, .null, .null, .null, .null])), (q1, .inr (5, [.ref (f2 1), .ref (f2 3), .int 0, .int 0])), ((f2 1), .inr (4, [.ref (f2 2), .int 0])), ((f2 2), .inl (cI, 120, .inl (fun _ => 0))), ((f2 3), .inr (2, [.ref (f2 4), .int 0, .int 0])), ((f2 4), .inr (6, [.ref (f2 5)])), ((f2 5), .inl (cI, 520, .inl (fun _ => 0))), (q3, .inr (4, [.ref (f4 1), .int 0])), ((f4 1), .inl (cI, 1000, .inl (fun _ => 0)))] H := hP
  have hD : va_D A [(h0, .inr (8, [.ref q1, .null, .null, .null, .null, .null, .null])), (q1, .inr (5, [.ref (f2 1), .ref (f2 3), .int 0, .int 0])), ((f2 1), .inr (4, [.ref (f2 2), .int 0])), ((f2 2), .inl (cI, 120, .inl (fun _ => 0))), ((f2 3), .inr (2, [.ref (f2 4), .int 0, .int 0])), ((f2 4), .inr (6, [.ref (f2 5)])), ((f2 5), .inl (cI, 520, .inl (fun _ => 0))), (q3, .inr (4, [.ref (f4 1), .int 0])), ((f4 1), .inl (cI, 1000, .inl (fun _ => 0)))] := hD
  refine W.widen (k := 8) (n := 1652) (by omega) (by omega) ?_
  refine va_putF (D := D) (ci := 8) (v := .ref q3) (ty := tyX8 1) (C := RX8) (T := TX8) (N := 7) hx hb hts am_ws8 tyX8 tyX8_ok nmX8 hown hK hP hD hS 0 rfl rfl 1 (by decide) (hts (.fieldLink RX8 21 "StatuteBook" "output" "LStatuteBook$Page;") (am_mem (i := 218) (by decide +kernel) (by decide +kernel))) (fun _ h9 => h9) rfl hin rfl (by decide +kernel) rfl rfl (Nat.le_of_ble_eq_true rfl) dc_SB_init_26 (fun H locs hP hD hS => ?_)
  have hP : va_P D am_cl [(h0, .inr (8, [.ref q1, .ref q3, .null, .null, .null, .null, .null])), (q1, .inr (5, [.ref (f2 1), .ref (f2 3), .int 0, .int 0])), ((f2 1), .inr (4, [.ref (f2 2), .int 0])), ((f2 2), .inl (cI, 120, .inl (fun _ => 0))), ((f2 3), .inr (2, [.ref (f2 4), .int 0, .int 0])), ((f2 4), .inr (6, [.ref (f2 5)])), ((f2 5), .inl (cI, 520, .inl (fun _ => 0))), (q3, .inr (4, [.ref (f4 1), .int 0])), ((f4 1), .inl (cI, 1000, .inl (fun _ => 0)))] H := hP
  have hD : va_D A [(h0, .inr (8, [.ref q1, .ref q3, .null, .null, .null, .null, .null])), (q1, .inr (5, [.ref (f2 1), .ref (f2 3), .int 0, .int 0])), ((f2 1), .inr (4, [.ref (f2 2), .int 0])), ((f2 2), .inl (cI, 120, .inl (fun _ => 0))), ((f2 3), .inr (2, [.ref (f2 4), .int 0, .int 0])), ((f2 4), .inr (6, [.ref (f2 5)])), ((f2 5), .inl (cI, 520, .inl (fun _ => 0))), (q3, .inr (4, [.ref (f4 1), .int 0])), ((f4 1), .inl (cI, 1000, .inl (fun _ => 0)))] := hD
  refine lv_aload_n hx hb dc_SB_init_29 rfl (lv_at hl 0 rfl) ?_
  refine va_new (ci := 0) (fs := [.null]) (C := RX0) (T := TX0) (N := 1) hx hb hts am_ws0 tyX0 tyX0_ok hown (hts (.classLink RX8 25 RX0) (am_mem (i := 122) (by decide +kernel) (by decide +kernel))) (hts (.instantiable RX0 1) (am_mem (i := 123) (by decide +kernel) (by decide +kernel))) (hts (.initialized RX0) (am_mem (i := 35) (by decide +kernel) (by decide +kernel))) hK hP hD hS hA rfl (fun j hj => by match j, hj with | 0, _ => rfl | j + 1, hj => exact absurd hj (by omega)) (Nat.le_of_ble_eq_true rfl) (Nat.le_of_ble_eq_true rfl) dc_SB_init_30 (fun q5 H hP hD hS => ?_)
  have hP : va_P D am_cl [(h0, .inr (8, [.ref q1, .ref q3, .null, .null, .null, .null, .null])), (q1, .inr (5, [.ref (f2 1), .ref (f2 3), .int 0, .int 0])), ((f2 1), .inr (4, [.ref (f2 2), .int 0])), ((f2 2), .inl (cI, 120, .inl (fun _ => 0))), ((f2 3), .inr (2, [.ref (f2 4), .int 0, .int 0])), ((f2 4), .inr (6, [.ref (f2 5)])), ((f2 5), .inl (cI, 520, .inl (fun _ => 0))), (q3, .inr (4, [.ref (f4 1), .int 0])), ((f4 1), .inl (cI, 1000, .inl (fun _ => 0))), (q5, .inr (0, [.null]))] H := hP
  have hD : va_D A [(h0, .inr (8, [.ref q1, .ref q3, .null, .null, .null, .null, .null])), (q1, .inr (5, [.ref (f2 1), .ref (f2 3), .int 0, .int 0])), ((f2 1), .inr (4, [.ref (f2 2), .int 0])), ((f2 2), .inl (cI, 120, .inl (fun _ => 0))), ((f2 3), .inr (2, [.ref (f2 4), .int 0, .int 0])), ((f2 4), .inr (6, [.ref (f2 5)])), ((f2 5), .inl (cI, 520, .inl (fun _ => 0))), (q3, .inr (4, [.ref (f4 1), .int 0])), ((f4 1), .inl (cI, 1000, .inl (fun _ => 0))), (q5, .inr (0, [.null]))] := hD
  refine W.widen (k := 9) (n := 1653) (by omega) (by omega) ?_
  refine lv_dup hx hb dc_SB_init_33 rfl ?_
  have hPc := hP.sub (ws' := [(q5, .inr (0, [.null]))]) [9] rfl
  have hDc := hD.sub (ws' := [(q5, .inr (0, [.null]))]) [9] (by decide) rfl
  have hKc := hK.sub (tys' := [(cI, .int)]) [0] rfl
  have hFc := va_free (wc := [(q5, .inr (0, [.null]))]) hD hS hA [9] rfl
  refine va_callv (va_runIN (As := []) (rest := [.ref q5, .ref h0]) ⟨hx, hb, hml, hown, hts⟩ (c_Amd_init l D cI q5 H.size) ⟨va_cnB (host := "StatuteBook") 0 hts (am_GoodWs wc_Amd_init) rfl rfl rfl (hNw 124 _ _ _ _ (by decide +kernel)) (hts (.initialized RX0) (am_mem (i := 35) (by decide +kernel) (by decide +kernel))) (by decide +kernel) ⟨Nat.le_of_ble_eq_true rfl, Nat.le_of_ble_eq_true rfl⟩, rfl, (hts (.instanceMethod (⟨RX0, "<init>", "()V"⟩ : MethodName)) (am_mem (i := 125) (by decide +kernel) (by decide +kernel)))⟩ ⟨fun a U g mk q => by obtain ⟨q0, q1, qP, qK, qD, qN⟩ := q; exact ⟨q0, q1, qP, va_K.moved (u := U) (U := U.calling g mk a) (Vm.Alike.refl U.vm) qK, qD, am_nsm.same (u := U) rfl qN⟩, fun U hU hW => ⟨rfl, by rw [hU], by rw [hU]; exact hPc, va_K.moved hW.alike hKc, hDc.weaken (fun _ _ _ _ => trivial), hNw.warm hW⟩⟩ rfl rfl hl.1 rfl (lv_room (Nat.le_of_ble_eq_true rfl)) dc_SB_init_34 ⟨Nat.le_of_ble_eq_true rfl, Nat.le_of_ble_eq_true rfl⟩) hS (fun q _ h => hFc q h) hFc (fun u t H1 locs ht hvm hw hB hz1 hk1 hS => ?_)
  obtain ⟨f6, rfl⟩ : ∃ z, z = u := ⟨_, rfl⟩
  obtain ⟨hP1, hK1, hD1⟩ := hB
  rw [ht] at hP1
  obtain ⟨hP, hD⟩ := va_join (wr := [(h0, .inr (8, [.ref q1, .ref q3, .null, .null, .null, .null, .null])), (q1, .inr (5, [.ref (f2 1), .ref (f2 3), .int 0, .int 0])), ((f2 1), .inr (4, [.ref (f2 2), .int 0])), ((f2 2), .inl (cI, 120, .inl (fun _ => 0))), ((f2 3), .inr (2, [.ref (f2 4), .int 0, .int 0])), ((f2 4), .inr (6, [.ref (f2 5)])), ((f2 5), .inl (cI, 520, .inl (fun _ => 0))), (q3, .inr (4, [.ref (f4 1), .int 0])), ((f4 1), .inl (cI, 1000, .inl (fun _ => 0)))]) (w1 := [(q5, .inr (0, [.ref (f6 1)])), ((f6 1), .inr (6, [.ref (f6 2)])), ((f6 2), .inl (cI, 1605, .inl (fun _ => 0)))]) hP hD [9] [0, 1, 2, 3, 4, 5, 6, 7, 8] rfl rfl (by decide) (by decide) hk1 hFc hP1 hD1
  generalize H1 = H at hP hS ⊢
  have hP : va_P D am_cl [(h0, .inr (8, [.ref q1, .ref q3, .null, .null, .null, .null, .null])), (q1, .inr (5, [.ref (f2 1), .ref (f2 3), .int 0, .int 0])), ((f2 1), .inr (4, [.ref (f2 2), .int 0])), ((f2 2), .inl (cI, 120, .inl (fun _ => 0))), ((f2 3), .inr (2, [.ref (f2 4), .int 0, .int 0])), ((f2 4), .inr (6, [.ref (f2 5)])), ((f2 5), .inl (cI, 520, .inl (fun _ => 0))), (q3, .inr (4, [.ref (f4 1), .int 0])), ((f4 1), .inl (cI, 1000, .inl (fun _ => 0))), (q5, .inr (0, [.ref (f6 1)])), ((f6 1), .inr (6, [.ref (f6 2)])), ((f6 2), .inl (cI, 1605, .inl (fun _ => 0)))] H := hP
  have hD : va_D A [(h0, .inr (8, [.ref q1, .ref q3, .null, .null, .null, .null, .null])), (q1, .inr (5, [.ref (f2 1), .ref (f2 3), .int 0, .int 0])), ((f2 1), .inr (4, [.ref (f2 2), .int 0])), ((f2 2), .inl (cI, 120, .inl (fun _ => 0))), ((f2 3), .inr (2, [.ref (f2 4), .int 0, .int 0])), ((f2 4), .inr (6, [.ref (f2 5)])), ((f2 5), .inl (cI, 520, .inl (fun _ => 0))), (q3, .inr (4, [.ref (f4 1), .int 0])), ((f4 1), .inl (cI, 1000, .inl (fun _ => 0))), (q5, .inr (0, [.ref (f6 1)])), ((f6 1), .inr (6, [.ref (f6 2)])), ((f6 2), .inl (cI, 1605, .inl (fun _ => 0)))] := hD
  refine W.widen (k := 11) (n := 3259) (by omega) (by omega) ?_
  refine va_putF (D := D) (ci := 8) (v := .ref q5) (ty := tyX8 2) (C := RX8) (T := TX8) (N := 7) hx hb hts am_ws8 tyX8 tyX8_ok nmX8 hown hK hP hD hS 0 rfl rfl 2 (by decide) (hts (.fieldLink RX8 28 "StatuteBook" "book" "LStatuteBook$Amendments;") (am_mem (i := 219) (by decide +kernel) (by decide +kernel))) (fun _ h9 => h9) rfl hin rfl (by decide +kernel) rfl rfl (Nat.le_of_ble_eq_true rfl) dc_SB_init_37 (fun H locs hP hD hS => ?_)
  have hP : va_P D am_cl [(h0, .inr (8, [.ref q1, .ref q3, .ref q5, .null, .null, .null, .null])), (q1, .inr (5, [.ref (f2 1), .ref (f2 3), .int 0, .int 0])), ((f2 1), .inr (4, [.ref (f2 2), .int 0])), ((f2 2), .inl (cI, 120, .inl (fun _ => 0))), ((f2 3), .inr (2, [.ref (f2 4), .int 0, .int 0])), ((f2 4), .inr (6, [.ref (f2 5)])), ((f2 5), .inl (cI, 520, .inl (fun _ => 0))), (q3, .inr (4, [.ref (f4 1), .int 0])), ((f4 1), .inl (cI, 1000, .inl (fun _ => 0))), (q5, .inr (0, [.ref (f6 1)])), ((f6 1), .inr (6, [.ref (f6 2)])), ((f6 2), .inl (cI, 1605, .inl (fun _ => 0)))] H := hP
  have hD : va_D A [(h0, .inr (8, [.ref q1, .ref q3, .ref q5, .null, .null, .null, .null])), (q1, .inr (5, [.ref (f2 1), .ref (f2 3), .int 0, .int 0])), ((f2 1), .inr (4, [.ref (f2 2), .int 0])), ((f2 2), .inl (cI, 120, .inl (fun _ => 0))), ((f2 3), .inr (2, [.ref (f2 4), .int 0, .int 0])), ((f2 4), .inr (6, [.ref (f2 5)])), ((f2 5), .inl (cI, 520, .inl (fun _ => 0))), (q3, .inr (4, [.ref (f4 1), .int 0])), ((f4 1), .inl (cI, 1000, .inl (fun _ => 0))), (q5, .inr (0, [.ref (f6 1)])), ((f6 1), .inr (6, [.ref (f6 2)])), ((f6 2), .inl (cI, 1605, .inl (fun _ => 0)))] := hD
  refine lv_aload_n hx hb dc_SB_init_40 rfl (lv_at hl 0 rfl) ?_
  refine va_new (ci := 1) (fs := [.null, .int 0, .int 0, .int 0]) (C := RX1) (T := TX1) (N := 4) hx hb hts am_ws1 tyX1 tyX1_ok hown (hts (.classLink RX8 32 RX1) (am_mem (i := 135) (by decide +kernel) (by decide +kernel))) (hts (.instantiable RX1 4) (am_mem (i := 136) (by decide +kernel) (by decide +kernel))) (hts (.initialized RX1) (am_mem (i := 36) (by decide +kernel) (by decide +kernel))) hK hP hD hS hA rfl (fun j hj => by match j, hj with | 0, _ => rfl | 1, _ => rfl | 2, _ => rfl | 3, _ => rfl | j + 4, hj => exact absurd hj (by omega)) (Nat.le_of_ble_eq_true rfl) (Nat.le_of_ble_eq_true rfl) dc_SB_init_41 (fun q7 H hP hD hS => ?_)
  have hP : va_P D am_cl [(h0, .inr (8, [.ref q1, .ref q3, .ref q5, .null, .null, .null, .null])), (q1, .inr (5, [.ref (f2 1), .ref (f2 3), .int 0, .int 0])), ((f2 1), .inr (4, [.ref (f2 2), .int 0])), ((f2 2), .inl (cI, 120, .inl (fun _ => 0))), ((f2 3), .inr (2, [.ref (f2 4), .int 0, .int 0])), ((f2 4), .inr (6, [.ref (f2 5)])), ((f2 5), .inl (cI, 520, .inl (fun _ => 0))), (q3, .inr (4, [.ref (f4 1), .int 0])), ((f4 1), .inl (cI, 1000, .inl (fun _ => 0))), (q5, .inr (0, [.ref (f6 1)])), ((f6 1), .inr (6, [.ref (f6 2)])), ((f6 2), .inl (cI, 1605, .inl (fun _ => 0))), (q7, .inr (1, [.null, .int 0, .int 0, .int 0]))] H := hP
  have hD : va_D A [(h0, .inr (8, [.ref q1, .ref q3, .ref q5, .null, .null, .null, .null])), (q1, .inr (5, [.ref (f2 1), .ref (f2 3), .int 0, .int 0])), ((f2 1), .inr (4, [.ref (f2 2), .int 0])), ((f2 2), .inl (cI, 120, .inl (fun _ => 0))), ((f2 3), .inr (2, [.ref (f2 4), .int 0, .int 0])), ((f2 4), .inr (6, [.ref (f2 5)])), ((f2 5), .inl (cI, 520, .inl (fun _ => 0))), (q3, .inr (4, [.ref (f4 1), .int 0])), ((f4 1), .inl (cI, 1000, .inl (fun _ => 0))), (q5, .inr (0, [.ref (f6 1)])), ((f6 1), .inr (6, [.ref (f6 2)])), ((f6 2), .inl (cI, 1605, .inl (fun _ => 0))), (q7, .inr (1, [.null, .int 0, .int 0, .int 0]))] := hD
  refine W.widen (k := 12) (n := 3263) (by omega) (by omega) ?_
  refine lv_dup hx hb dc_SB_init_44 rfl ?_
  have hPc := hP.sub (ws' := [(q7, .inr (1, [.null, .int 0, .int 0, .int 0]))]) [12] rfl
  have hDc := hD.sub (ws' := [(q7, .inr (1, [.null, .int 0, .int 0, .int 0]))]) [12] (by decide) rfl
  have hKc := hK.sub (tys' := [(cI, .int)]) [0] rfl
  have hFc := va_free (wc := [(q7, .inr (1, [.null, .int 0, .int 0, .int 0]))]) hD hS hA [12] rfl
  refine va_callv (va_runIN (As := []) (rest := [.ref q7, .ref h0]) ⟨hx, hb, hml, hown, hts⟩ (c_Arc_init l D cI q7 H.size) ⟨va_cnB (host := "StatuteBook") 0 hts (am_GoodWs wc_Arc_init) rfl rfl rfl (hNw 137 _ _ _ _ (by decide +kernel)) (hts (.initialized RX1) (am_mem (i := 36) (by decide +kernel) (by decide +kernel))) (by decide +kernel) ⟨Nat.le_of_ble_eq_true rfl, Nat.le_of_ble_eq_true rfl⟩, rfl, (hts (.instanceMethod (⟨RX1, "<init>", "()V"⟩ : MethodName)) (am_mem (i := 138) (by decide +kernel) (by decide +kernel)))⟩ ⟨fun a U g mk q => by obtain ⟨q0, q1, qP, qK, qD, qN⟩ := q; exact ⟨q0, q1, qP, va_K.moved (u := U) (U := U.calling g mk a) (Vm.Alike.refl U.vm) qK, qD, am_nsm.same (u := U) rfl qN⟩, fun U hU hW => ⟨rfl, by rw [hU], by rw [hU]; exact hPc, va_K.moved hW.alike hKc, hDc.weaken (fun _ _ _ _ => trivial), hNw.warm hW⟩⟩ rfl rfl hl.1 rfl (lv_room (Nat.le_of_ble_eq_true rfl)) dc_SB_init_45 ⟨Nat.le_of_ble_eq_true rfl, Nat.le_of_ble_eq_true rfl⟩) hS (fun q _ h => hFc q h) hFc (fun u t H1 locs ht hvm hw hB hz1 hk1 hS => ?_)
  obtain ⟨f8, rfl⟩ : ∃ z, z = u := ⟨_, rfl⟩
  obtain ⟨hP1, hK1, hD1⟩ := hB
  rw [ht] at hP1
  obtain ⟨hP, hD⟩ := va_join (wr := [(h0, .inr (8, [.ref q1, .ref q3, .ref q5, .null, .null, .null, .null])), (q1, .inr (5, [.ref (f2 1), .ref (f2 3), .int 0, .int 0])), ((f2 1), .inr (4, [.ref (f2 2), .int 0])), ((f2 2), .inl (cI, 120, .inl (fun _ => 0))), ((f2 3), .inr (2, [.ref (f2 4), .int 0, .int 0])), ((f2 4), .inr (6, [.ref (f2 5)])), ((f2 5), .inl (cI, 520, .inl (fun _ => 0))), (q3, .inr (4, [.ref (f4 1), .int 0])), ((f4 1), .inl (cI, 1000, .inl (fun _ => 0))), (q5, .inr (0, [.ref (f6 1)])), ((f6 1), .inr (6, [.ref (f6 2)])), ((f6 2), .inl (cI, 1605, .inl (fun _ => 0)))]) (w1 := [(q7, .inr (1, [.ref (f8 1), .int 0, .int 0, .int 0])), ((f8 1), .inr (6, [.ref (f8 2)])), ((f8 2), .inl (cI, 19260, .inl (fun _ => 0)))]) hP hD [12] [0, 1, 2, 3, 4, 5, 6, 7, 8, 9, 10, 11] rfl rfl (by decide) (by decide) hk1 hFc hP1 hD1
  generalize H1 = H at hP hS ⊢
  have hP : va_P D am_cl [(h0, .inr (8, [.ref q1, .ref q3, .ref q5, .null, .null, .null, .null])), (q1, .inr (5, [.ref (f2 1), .ref (f2 3), .int 0, .int 0])), ((f2 1), .inr (4, [.ref (f2 2), .int 0])), ((f2 2), .inl (cI, 120, .inl (fun _ => 0))), ((f2 3), .inr (2, [.ref (f2 4), .int 0, .int 0])), ((f2 4), .inr (6, [.ref (f2 5)])), ((f2 5), .inl (cI, 520, .inl (fun _ => 0))), (q3, .inr (4, [.ref (f4 1), .int 0])), ((f4 1), .inl (cI, 1000, .inl (fun _ => 0))), (q5, .inr (0, [.ref (f6 1)])), ((f6 1), .inr (6, [.ref (f6 2)])), ((f6 2), .inl (cI, 1605, .inl (fun _ => 0))), (q7, .inr (1, [.ref (f8 1), .int 0, .int 0, .int 0])), ((f8 1), .inr (6, [.ref (f8 2)])), ((f8 2), .inl (cI, 19260, .inl (fun _ => 0)))] H := hP
  have hD : va_D A [(h0, .inr (8, [.ref q1, .ref q3, .ref q5, .null, .null, .null, .null])), (q1, .inr (5, [.ref (f2 1), .ref (f2 3), .int 0, .int 0])), ((f2 1), .inr (4, [.ref (f2 2), .int 0])), ((f2 2), .inl (cI, 120, .inl (fun _ => 0))), ((f2 3), .inr (2, [.ref (f2 4), .int 0, .int 0])), ((f2 4), .inr (6, [.ref (f2 5)])), ((f2 5), .inl (cI, 520, .inl (fun _ => 0))), (q3, .inr (4, [.ref (f4 1), .int 0])), ((f4 1), .inl (cI, 1000, .inl (fun _ => 0))), (q5, .inr (0, [.ref (f6 1)])), ((f6 1), .inr (6, [.ref (f6 2)])), ((f6 2), .inl (cI, 1605, .inl (fun _ => 0))), (q7, .inr (1, [.ref (f8 1), .int 0, .int 0, .int 0])), ((f8 1), .inr (6, [.ref (f8 2)])), ((f8 2), .inl (cI, 19260, .inl (fun _ => 0)))] := hD
  refine W.widen (k := 14) (n := 22524) (by omega) (by omega) ?_
  refine va_putF (D := D) (ci := 8) (v := .ref q7) (ty := tyX8 3) (C := RX8) (T := TX8) (N := 7) hx hb hts am_ws8 tyX8 tyX8_ok nmX8 hown hK hP hD hS 0 rfl rfl 3 (by decide) (hts (.fieldLink RX8 35 "StatuteBook" "archive" "LStatuteBook$Archive;") (am_mem (i := 220) (by decide +kernel) (by decide +kernel))) (fun _ h9 => h9) rfl hin rfl (by decide +kernel) rfl rfl (Nat.le_of_ble_eq_true rfl) dc_SB_init_48 (fun H locs hP hD hS => ?_)
  have hP : va_P D am_cl [(h0, .inr (8, [.ref q1, .ref q3, .ref q5, .ref q7, .null, .null, .null])), (q1, .inr (5, [.ref (f2 1), .ref (f2 3), .int 0, .int 0])), ((f2 1), .inr (4, [.ref (f2 2), .int 0])), ((f2 2), .inl (cI, 120, .inl (fun _ => 0))), ((f2 3), .inr (2, [.ref (f2 4), .int 0, .int 0])), ((f2 4), .inr (6, [.ref (f2 5)])), ((f2 5), .inl (cI, 520, .inl (fun _ => 0))), (q3, .inr (4, [.ref (f4 1), .int 0])), ((f4 1), .inl (cI, 1000, .inl (fun _ => 0))), (q5, .inr (0, [.ref (f6 1)])), ((f6 1), .inr (6, [.ref (f6 2)])), ((f6 2), .inl (cI, 1605, .inl (fun _ => 0))), (q7, .inr (1, [.ref (f8 1), .int 0, .int 0, .int 0])), ((f8 1), .inr (6, [.ref (f8 2)])), ((f8 2), .inl (cI, 19260, .inl (fun _ => 0)))] H := hP
  have hD : va_D A [(h0, .inr (8, [.ref q1, .ref q3, .ref q5, .ref q7, .null, .null, .null])), (q1, .inr (5, [.ref (f2 1), .ref (f2 3), .int 0, .int 0])), ((f2 1), .inr (4, [.ref (f2 2), .int 0])), ((f2 2), .inl (cI, 120, .inl (fun _ => 0))), ((f2 3), .inr (2, [.ref (f2 4), .int 0, .int 0])), ((f2 4), .inr (6, [.ref (f2 5)])), ((f2 5), .inl (cI, 520, .inl (fun _ => 0))), (q3, .inr (4, [.ref (f4 1), .int 0])), ((f4 1), .inl (cI, 1000, .inl (fun _ => 0))), (q5, .inr (0, [.ref (f6 1)])), ((f6 1), .inr (6, [.ref (f6 2)])), ((f6 2), .inl (cI, 1605, .inl (fun _ => 0))), (q7, .inr (1, [.ref (f8 1), .int 0, .int 0, .int 0])), ((f8 1), .inr (6, [.ref (f8 2)])), ((f8 2), .inl (cI, 19260, .inl (fun _ => 0)))] := hD
  refine lv_aload_n hx hb dc_SB_init_51 rfl (lv_at hl 0 rfl) ?_
  refine va_new (ci := 3) (fs := [.null, .null, .null, .null, .null, .null, .null, .null, .null, .int 0, .int 0]) (C := RX3) (T := TX3) (N := 11) hx hb hts am_ws3 tyX3 tyX3_ok hown (hts (.classLink RX8 39 RX3) (am_mem (i := 156) (by decide +kernel) (by decide +kernel))) (hts (.instantiable RX3 11) (am_mem (i := 157) (by decide +kernel) (by decide +kernel))) (hts (.initialized RX3) (am_mem (i := 37) (by decide +kernel) (by decide +kernel))) hK hP hD hS hA rfl (fun j hj => by match j, hj with | 0, _ => rfl | 1, _ => rfl | 2, _ => rfl | 3, _ => rfl | 4, _ => rfl | 5, _ => rfl | 6, _ => rfl | 7, _ => rfl | 8, _ => rfl | 9, _ => rfl | 10, _ => rfl | j + 11, hj => exact absurd hj (by omega)) (Nat.le_of_ble_eq_true rfl) (Nat.le_of_ble_eq_true rfl) dc_SB_init_52 (fun q9 H hP hD hS => ?_)
  have hP : va_P D am_cl [(h0, .inr (8, [.ref q1, .ref q3, .ref q5, .ref q7, .null, .null, .null])), (q1, .inr (5, [.ref (f2 1), .ref (f2 3), .int 0, .int 0])), ((f2 1), .inr (4, [.ref (f2 2), .int 0])), ((f2 2), .inl (cI, 120, .inl (fun _ => 0))), ((f2 3), .inr (2, [.ref (f2 4), .int 0, .int 0])), ((f2 4), .inr (6, [.ref (f2 5)])), ((f2 5), .inl (cI, 520, .inl (fun _ => 0))), (q3, .inr (4, [.ref (f4 1), .int 0])), ((f4 1), .inl (cI, 1000, .inl (fun _ => 0))), (q5, .inr (0, [.ref (f6 1)])), ((f6 1), .inr (6, [.ref (f6 2)])), ((f6 2), .inl (cI, 1605, .inl (fun _ => 0))), (q7, .inr (1, [.ref (f8 1), .int 0, .int 0, .int 0])), ((f8 1), .inr (6, [.ref (f8 2)])), ((f8 2), .inl (cI, 19260, .inl (fun _ => 0))), (q9, .inr (3, [.null, .null, .null, .null, .null, .null, .null, .null, .null, .int 0, .int 0]))] H := hP
  have hD : va_D A [(h0, .inr (8, [.ref q1, .ref q3, .ref q5, .ref q7, .null, .null, .null])), (q1, .inr (5, [.ref (f2 1), .ref (f2 3), .int 0, .int 0])), ((f2 1), .inr (4, [.ref (f2 2), .int 0])), ((f2 2), .inl (cI, 120, .inl (fun _ => 0))), ((f2 3), .inr (2, [.ref (f2 4), .int 0, .int 0])), ((f2 4), .inr (6, [.ref (f2 5)])), ((f2 5), .inl (cI, 520, .inl (fun _ => 0))), (q3, .inr (4, [.ref (f4 1), .int 0])), ((f4 1), .inl (cI, 1000, .inl (fun _ => 0))), (q5, .inr (0, [.ref (f6 1)])), ((f6 1), .inr (6, [.ref (f6 2)])), ((f6 2), .inl (cI, 1605, .inl (fun _ => 0))), (q7, .inr (1, [.ref (f8 1), .int 0, .int 0, .int 0])), ((f8 1), .inr (6, [.ref (f8 2)])), ((f8 2), .inl (cI, 19260, .inl (fun _ => 0))), (q9, .inr (3, [.null, .null, .null, .null, .null, .null, .null, .null, .null, .int 0, .int 0]))] := hD
  refine W.widen (k := 15) (n := 22535) (by omega) (by omega) ?_
  refine lv_dup hx hb dc_SB_init_55 rfl ?_
  have hPc := hP.sub (ws' := [(q9, .inr (3, [.null, .null, .null, .null, .null, .null, .null, .null, .null, .int 0, .int 0]))]) [15] rfl
  have hDc := hD.sub (ws' := [(q9, .inr (3, [.null, .null, .null, .null, .null, .null, .null, .null, .null, .int 0, .int 0]))]) [15] (by decide) rfl
  have hKc := hK.sub (tys' := [(cI, .int)]) [0] rfl
  have hFc := va_free (wc := [(q9, .inr (3, [.null, .null, .null, .null, .null, .null, .null, .null, .null, .int 0, .int 0]))]) hD hS hA [15] rfl
  refine va_callv (va_runIN (As := []) (rest := [.ref q9, .ref h0]) ⟨hx, hb, hml, hown, hts⟩ (c_Law_init l D cI q9 H.size) ⟨va_cnB (host := "StatuteBook") 0 hts (am_GoodWs wc_Law_init) rfl rfl rfl (hNw 158 _ _ _ _ (by decide +kernel)) (hts (.initialized RX3) (am_mem (i := 37) (by decide +kernel) (by decide +kernel))) (by decide +kernel) ⟨Nat.le_of_ble_eq_true rfl, Nat.le_of_ble_eq_true rfl⟩, rfl, (hts (.instanceMethod (⟨RX3, "<init>", "()V"⟩ : MethodName)) (am_mem (i := 159) (by decide +kernel) (by decide +kernel)))⟩ ⟨fun a U g mk q => by obtain ⟨q0, q1, qP, qK, qD, qN⟩ := q; exact ⟨q0, q1, qP, va_K.moved (u := U) (U := U.calling g mk a) (Vm.Alike.refl U.vm) qK, qD, am_nsm.same (u := U) rfl qN⟩, fun U hU hW => ⟨rfl, by rw [hU], by rw [hU]; exact hPc, va_K.moved hW.alike hKc, hDc.weaken (fun _ _ _ _ => trivial), hNw.warm hW⟩⟩ rfl rfl hl.1 rfl (lv_room (Nat.le_of_ble_eq_true rfl)) dc_SB_init_56 ⟨Nat.le_of_ble_eq_true rfl, Nat.le_of_ble_eq_true rfl⟩) hS (fun q _ h => hFc q h) hFc (fun u t H1 locs ht hvm hw hB hz1 hk1 hS => ?_)
  obtain ⟨f10, rfl⟩ : ∃ z, z = u := ⟨_, rfl⟩
  obtain ⟨hP1, hK1, hD1⟩ := hB
  rw [ht] at hP1
  obtain ⟨hP, hD⟩ := va_join (wr := [(h0, .inr (8, [.ref q1, .ref q3, .ref q5, .ref q7, .null, .null, .null])), (q1, .inr (5, [.ref (f2 1), .ref (f2 3), .int 0, .int 0])), ((f2 1), .inr (4, [.ref (f2 2), .int 0])), ((f2 2), .inl (cI, 120, .inl (fun _ => 0))), ((f2 3), .inr (2, [.ref (f2 4), .int 0, .int 0])), ((f2 4), .inr (6, [.ref (f2 5)])), ((f2 5), .inl (cI, 520, .inl (fun _ => 0))), (q3, .inr (4, [.ref (f4 1), .int 0])), ((f4 1), .inl (cI, 1000, .inl (fun _ => 0))), (q5, .inr (0, [.ref (f6 1)])), ((f6 1), .inr (6, [.ref (f6 2)])), ((f6 2), .inl (cI, 1605, .inl (fun _ => 0))), (q7, .inr (1, [.ref (f8 1), .int 0, .int 0, .int 0])), ((f8 1), .inr (6, [.ref (f8 2)])), ((f8 2), .inl (cI, 19260, .inl (fun _ => 0)))]) (w1 := [(q9, .inr (3, [.ref (f10 1), .ref (f10 3), .ref (f10 5), .ref (f10 7), .ref (f10 9), .ref (f10 11), .ref (f10 13), .ref (f10 15), .ref (f10 17), .int 0, .int 0])), ((f10 1), .inr (6, [.ref (f10 2)])), ((f10 2), .inl (cI, 40, .inl (fun _ => 0))), ((f10 3), .inr (6, [.ref (f10 4)])), ((f10 4), .inl (cI, 40, .inl (fun _ => 0))), ((f10 5), .inr (6, [.ref (f10 6)])), ((f10 6), .inl (cI, 40, .inl (fun _ => 0))), ((f10 7), .inr (6, [.ref (f10 8)])), ((f10 8), .inl (cI, 240, .inl (fun _ => 0))), ((f10 9), .inr (6, [.ref (f10 10)])), ((f10 10), .inl (cI, 40, .inl (fun _ => 0))), ((f10 11), .inr (6, [.ref (f10 12)])), ((f10 12), .inl (cI, 120, .inl (fun _ => 0))), ((f10 13), .inr (6, [.ref (f10 14)])), ((f10 14), .inl (cI, 120, .inl (fun _ => 0))), ((f10 15), .inr (6, [.ref (f10 16)])), ((f10 16), .inl (cI, 120, .inl (fun _ => 0))), ((f10 17), .inr (6, [.ref (f10 18)])), ((f10 18), .inl (cI, 6, .inl (fun _ => 0)))]) hP hD [15] [0, 1, 2, 3, 4, 5, 6, 7, 8, 9, 10, 11, 12, 13, 14] rfl rfl (by decide) (by decide) hk1 hFc hP1 hD1
  generalize H1 = H at hP hS ⊢
  have hP : va_P D am_cl [(h0, .inr (8, [.ref q1, .ref q3, .ref q5, .ref q7, .null, .null, .null])), (q1, .inr (5, [.ref (f2 1), .ref (f2 3), .int 0, .int 0])), ((f2 1), .inr (4, [.ref (f2 2), .int 0])), ((f2 2), .inl (cI, 120, .inl (fun _ => 0))), ((f2 3), .inr (2, [.ref (f2 4), .int 0, .int 0])), ((f2 4), .inr (6, [.ref (f2 5)])), ((f2 5), .inl (cI, 520, .inl (fun _ => 0))), (q3, .inr (4, [.ref (f4 1), .int 0])), ((f4 1), .inl (cI, 1000, .inl (fun _ => 0))), (q5, .inr (0, [.ref (f6 1)])), ((f6 1), .inr (6, [.ref (f6 2)])), ((f6 2), .inl (cI, 1605, .inl (fun _ => 0))), (q7, .inr (1, [.ref (f8 1), .int 0, .int 0, .int 0])), ((f8 1), .inr (6, [.ref (f8 2)])), ((f8 2), .inl (cI, 19260, .inl (fun _ => 0))), (q9, .inr (3, [.ref (f10 1), .ref (f10 3), .ref (f10 5), .ref (f10 7), .ref (f10 9), .ref (f10 11), .ref (f10 13), .ref (f10 15), .ref (f10 17), .int 0, .int 0])), ((f10 1), .inr (6, [.ref (f10 2)])), ((f10 2), .inl (cI, 40, .inl (fun _ => 0))), ((f10 3), .inr (6, [.ref (f10 4)])), ((f10 4), .inl (cI, 40, .inl (fun _ => 0))), ((f10 5), .inr (6, [.ref (f10 6)])), ((f10 6), .inl (cI, 40, .inl (fun _ => 0))), ((f10 7), .inr (6, [.ref (f10 8)])), ((f10 8), .inl (cI, 240, .inl (fun _ => 0))), ((f10 9), .inr (6, [.ref (f10 10)])), ((f10 10), .inl (cI, 40, .inl (fun _ => 0))), ((f10 11), .inr (6, [.ref (f10 12)])), ((f10 12), .inl (cI, 120, .inl (fun _ => 0))), ((f10 13), .inr (6, [.ref (f10 14)])), ((f10 14), .inl (cI, 120, .inl (fun _ => 0))), ((f10 15), .inr (6, [.ref (f10 16)])), ((f10 16), .inl (cI, 120, .inl (fun _ => 0))), ((f10 17), .inr (6, [.ref (f10 18)])), ((f10 18), .inl (cI, 6, .inl (fun _ => 0)))] H := hP
  have hD : va_D A [(h0, .inr (8, [.ref q1, .ref q3, .ref q5, .ref q7, .null, .null, .null])), (q1, .inr (5, [.ref (f2 1), .ref (f2 3), .int 0, .int 0])), ((f2 1), .inr (4, [.ref (f2 2), .int 0])), ((f2 2), .inl (cI, 120, .inl (fun _ => 0))), ((f2 3), .inr (2, [.ref (f2 4), .int 0, .int 0])), ((f2 4), .inr (6, [.ref (f2 5)])), ((f2 5), .inl (cI, 520, .inl (fun _ => 0))), (q3, .inr (4, [.ref (f4 1), .int 0])), ((f4 1), .inl (cI, 1000, .inl (fun _ => 0))), (q5, .inr (0, [.ref (f6 1)])), ((f6 1), .inr (6, [.ref (f6 2)])), ((f6 2), .inl (cI, 1605, .inl (fun _ => 0))), (q7, .inr (1, [.ref (f8 1), .int 0, .int 0, .int 0])), ((f8 1), .inr (6, [.ref (f8 2)])), ((f8 2), .inl (cI, 19260, .inl (fun _ => 0))), (q9, .inr (3, [.ref (f10 1), .ref (f10 3), .ref (f10 5), .ref (f10 7), .ref (f10 9), .ref (f10 11), .ref (f10 13), .ref (f10 15), .ref (f10 17), .int 0, .int 0])), ((f10 1), .inr (6, [.ref (f10 2)])), ((f10 2), .inl (cI, 40, .inl (fun _ => 0))), ((f10 3), .inr (6, [.ref (f10 4)])), ((f10 4), .inl (cI, 40, .inl (fun _ => 0))), ((f10 5), .inr (6, [.ref (f10 6)])), ((f10 6), .inl (cI, 40, .inl (fun _ => 0))), ((f10 7), .inr (6, [.ref (f10 8)])), ((f10 8), .inl (cI, 240, .inl (fun _ => 0))), ((f10 9), .inr (6, [.ref (f10 10)])), ((f10 10), .inl (cI, 40, .inl (fun _ => 0))), ((f10 11), .inr (6, [.ref (f10 12)])), ((f10 12), .inl (cI, 120, .inl (fun _ => 0))), ((f10 13), .inr (6, [.ref (f10 14)])), ((f10 14), .inl (cI, 120, .inl (fun _ => 0))), ((f10 15), .inr (6, [.ref (f10 16)])), ((f10 16), .inl (cI, 120, .inl (fun _ => 0))), ((f10 17), .inr (6, [.ref (f10 18)])), ((f10 18), .inl (cI, 6, .inl (fun _ => 0)))] := hD
  refine W.widen (k := 33) (n := 23310) (by omega) (by omega) ?_
  refine va_putF (D := D) (ci := 8) (v := .ref q9) (ty := tyX8 4) (C := RX8) (T := TX8) (N := 7) hx hb hts am_ws8 tyX8 tyX8_ok nmX8 hown hK hP hD hS 0 rfl rfl 4 (by decide) (hts (.fieldLink RX8 42 "StatuteBook" "law" "LStatuteBook$Law;") (am_mem (i := 221) (by decide +kernel) (by decide +kernel))) (fun _ h9 => h9) rfl hin rfl (by decide +kernel) rfl rfl (Nat.le_of_ble_eq_true rfl) dc_SB_init_59 (fun H locs hP hD hS => ?_)
  have hP : va_P D am_cl [(h0, .inr (8, [.ref q1, .ref q3, .ref q5, .ref q7, .ref q9, .null, .null])), (q1, .inr (5, [.ref (f2 1), .ref (f2 3), .int 0, .int 0])), ((f2 1), .inr (4, [.ref (f2 2), .int 0])), ((f2 2), .inl (cI, 120, .inl (fun _ => 0))), ((f2 3), .inr (2, [.ref (f2 4), .int 0, .int 0])), ((f2 4), .inr (6, [.ref (f2 5)])), ((f2 5), .inl (cI, 520, .inl (fun _ => 0))), (q3, .inr (4, [.ref (f4 1), .int 0])), ((f4 1), .inl (cI, 1000, .inl (fun _ => 0))), (q5, .inr (0, [.ref (f6 1)])), ((f6 1), .inr (6, [.ref (f6 2)])), ((f6 2), .inl (cI, 1605, .inl (fun _ => 0))), (q7, .inr (1, [.ref (f8 1), .int 0, .int 0, .int 0])), ((f8 1), .inr (6, [.ref (f8 2)])), ((f8 2), .inl (cI, 19260, .inl (fun _ => 0))), (q9, .inr (3, [.ref (f10 1), .ref (f10 3), .ref (f10 5), .ref (f10 7), .ref (f10 9), .ref (f10 11), .ref (f10 13), .ref (f10 15), .ref (f10 17), .int 0, .int 0])), ((f10 1), .inr (6, [.ref (f10 2)])), ((f10 2), .inl (cI, 40, .inl (fun _ => 0))), ((f10 3), .inr (6, [.ref (f10 4)])), ((f10 4), .inl (cI, 40, .inl (fun _ => 0))), ((f10 5), .inr (6, [.ref (f10 6)])), ((f10 6), .inl (cI, 40, .inl (fun _ => 0))), ((f10 7), .inr (6, [.ref (f10 8)])), ((f10 8), .inl (cI, 240, .inl (fun _ => 0))), ((f10 9), .inr (6, [.ref (f10 10)])), ((f10 10), .inl (cI, 40, .inl (fun _ => 0))), ((f10 11), .inr (6, [.ref (f10 12)])), ((f10 12), .inl (cI, 120, .inl (fun _ => 0))), ((f10 13), .inr (6, [.ref (f10 14)])), ((f10 14), .inl (cI, 120, .inl (fun _ => 0))), ((f10 15), .inr (6, [.ref (f10 16)])), ((f10 16), .inl (cI, 120, .inl (fun _ => 0))), ((f10 17), .inr (6, [.ref (f10 18)])), ((f10 18), .inl (cI, 6, .inl (fun _ => 0)))] H := hP
  have hD : va_D A [(h0, .inr (8, [.ref q1, .ref q3, .ref q5, .ref q7, .ref q9, .null, .null])), (q1, .inr (5, [.ref (f2 1), .ref (f2 3), .int 0, .int 0])), ((f2 1), .inr (4, [.ref (f2 2), .int 0])), ((f2 2), .inl (cI, 120, .inl (fun _ => 0))), ((f2 3), .inr (2, [.ref (f2 4), .int 0, .int 0])), ((f2 4), .inr (6, [.ref (f2 5)])), ((f2 5), .inl (cI, 520, .inl (fun _ => 0))), (q3, .inr (4, [.ref (f4 1), .int 0])), ((f4 1), .inl (cI, 1000, .inl (fun _ => 0))), (q5, .inr (0, [.ref (f6 1)])), ((f6 1), .inr (6, [.ref (f6 2)])), ((f6 2), .inl (cI, 1605, .inl (fun _ => 0))), (q7, .inr (1, [.ref (f8 1), .int 0, .int 0, .int 0])), ((f8 1), .inr (6, [.ref (f8 2)])), ((f8 2), .inl (cI, 19260, .inl (fun _ => 0))), (q9, .inr (3, [.ref (f10 1), .ref (f10 3), .ref (f10 5), .ref (f10 7), .ref (f10 9), .ref (f10 11), .ref (f10 13), .ref (f10 15), .ref (f10 17), .int 0, .int 0])), ((f10 1), .inr (6, [.ref (f10 2)])), ((f10 2), .inl (cI, 40, .inl (fun _ => 0))), ((f10 3), .inr (6, [.ref (f10 4)])), ((f10 4), .inl (cI, 40, .inl (fun _ => 0))), ((f10 5), .inr (6, [.ref (f10 6)])), ((f10 6), .inl (cI, 40, .inl (fun _ => 0))), ((f10 7), .inr (6, [.ref (f10 8)])), ((f10 8), .inl (cI, 240, .inl (fun _ => 0))), ((f10 9), .inr (6, [.ref (f10 10)])), ((f10 10), .inl (cI, 40, .inl (fun _ => 0))), ((f10 11), .inr (6, [.ref (f10 12)])), ((f10 12), .inl (cI, 120, .inl (fun _ => 0))), ((f10 13), .inr (6, [.ref (f10 14)])), ((f10 14), .inl (cI, 120, .inl (fun _ => 0))), ((f10 15), .inr (6, [.ref (f10 16)])), ((f10 16), .inl (cI, 120, .inl (fun _ => 0))), ((f10 17), .inr (6, [.ref (f10 18)])), ((f10 18), .inl (cI, 6, .inl (fun _ => 0)))] := hD
  refine lv_aload_n hx hb dc_SB_init_62 rfl (lv_at hl 0 rfl) ?_
  refine va_new (ci := 3) (fs := [.null, .null, .null, .null, .null, .null, .null, .null, .null, .int 0, .int 0]) (C := RX3) (T := TX3) (N := 11) hx hb hts am_ws3 tyX3 tyX3_ok hown (hts (.classLink RX8 39 RX3) (am_mem (i := 156) (by decide +kernel) (by decide +kernel))) (hts (.instantiable RX3 11) (am_mem (i := 157) (by decide +kernel) (by decide +kernel))) (hts (.initialized RX3) (am_mem (i := 37) (by decide +kernel) (by decide +kernel))) hK hP hD hS hA rfl (fun j hj => by match j, hj with | 0, _ => rfl | 1, _ => rfl | 2, _ => rfl | 3, _ => rfl | 4, _ => rfl | 5, _ => rfl | 6, _ => rfl | 7, _ => rfl | 8, _ => rfl | 9, _ => rfl | 10, _ => rfl | j + 11, hj => exact absurd hj (by omega)) (Nat.le_of_ble_eq_true rfl) (Nat.le_of_ble_eq_true rfl) dc_SB_init_63 (fun q11 H hP hD hS => ?_)
  have hP : va_P D am_cl [(h0, .inr (8, [.ref q1, .ref q3, .ref q5, .ref q7, .ref q9, .null, .null])), (q1, .inr (5, [.ref (f2 1), .ref (f2 3), .int 0, .int 0])), ((f2 1), .inr (4, [.ref (f2 2), .int 0])), ((f2 2), .inl (cI, 120, .inl (fun _ => 0))), ((f2 3), .inr (2, [.ref (f2 4), .int 0, .int 0])), ((f2 4), .inr (6, [.ref (f2 5)])), ((f2 5), .inl (cI, 520, .inl (fun _ => 0))), (q3, .inr (4, [.ref (f4 1), .int 0])), ((f4 1), .inl (cI, 1000, .inl (fun _ => 0))), (q5, .inr (0, [.ref (f6 1)])), ((f6 1), .inr (6, [.ref (f6 2)])), ((f6 2), .inl (cI, 1605, .inl (fun _ => 0))), (q7, .inr (1, [.ref (f8 1), .int 0, .int 0, .int 0])), ((f8 1), .inr (6, [.ref (f8 2)])), ((f8 2), .inl (cI, 19260, .inl (fun _ => 0))), (q9, .inr (3, [.ref (f10 1), .ref (f10 3), .ref (f10 5), .ref (f10 7), .ref (f10 9), .ref (f10 11), .ref (f10 13), .ref (f10 15), .ref (f10 17), .int 0, .int 0])), ((f10 1), .inr (6, [.ref (f10 2)])), ((f10 2), .inl (cI, 40, .inl (fun _ => 0))), ((f10 3), .inr (6, [.ref (f10 4)])), ((f10 4), .inl (cI, 40, .inl (fun _ => 0))), ((f10 5), .inr (6, [.ref (f10 6)])), ((f10 6), .inl (cI, 40, .inl (fun _ => 0))), ((f10 7), .inr (6, [.ref (f10 8)])), ((f10 8), .inl (cI, 240, .inl (fun _ => 0))), ((f10 9), .inr (6, [.ref (f10 10)])), ((f10 10), .inl (cI, 40, .inl (fun _ => 0))), ((f10 11), .inr (6, [.ref (f10 12)])), ((f10 12), .inl (cI, 120, .inl (fun _ => 0))), ((f10 13), .inr (6, [.ref (f10 14)])), ((f10 14), .inl (cI, 120, .inl (fun _ => 0))), ((f10 15), .inr (6, [.ref (f10 16)])), ((f10 16), .inl (cI, 120, .inl (fun _ => 0))), ((f10 17), .inr (6, [.ref (f10 18)])), ((f10 18), .inl (cI, 6, .inl (fun _ => 0))), (q11, .inr (3, [.null, .null, .null, .null, .null, .null, .null, .null, .null, .int 0, .int 0]))] H := hP
  have hD : va_D A [(h0, .inr (8, [.ref q1, .ref q3, .ref q5, .ref q7, .ref q9, .null, .null])), (q1, .inr (5, [.ref (f2 1), .ref (f2 3), .int 0, .int 0])), ((f2 1), .inr (4, [.ref (f2 2), .int 0])), ((f2 2), .inl (cI, 120, .inl (fun _ => 0))), ((f2 3), .inr (2, [.ref (f2 4), .int 0, .int 0])), ((f2 4), .inr (6, [.ref (f2 5)])), ((f2 5), .inl (cI, 520, .inl (fun _ => 0))), (q3, .inr (4, [.ref (f4 1), .int 0])), ((f4 1), .inl (cI, 1000, .inl (fun _ => 0))), (q5, .inr (0, [.ref (f6 1)])), ((f6 1), .inr (6, [.ref (f6 2)])), ((f6 2), .inl (cI, 1605, .inl (fun _ => 0))), (q7, .inr (1, [.ref (f8 1), .int 0, .int 0, .int 0])), ((f8 1), .inr (6, [.ref (f8 2)])), ((f8 2), .inl (cI, 19260, .inl (fun _ => 0))), (q9, .inr (3, [.ref (f10 1), .ref (f10 3), .ref (f10 5), .ref (f10 7), .ref (f10 9), .ref (f10 11), .ref (f10 13), .ref (f10 15), .ref (f10 17), .int 0, .int 0])), ((f10 1), .inr (6, [.ref (f10 2)])), ((f10 2), .inl (cI, 40, .inl (fun _ => 0))), ((f10 3), .inr (6, [.ref (f10 4)])), ((f10 4), .inl (cI, 40, .inl (fun _ => 0))), ((f10 5), .inr (6, [.ref (f10 6)])), ((f10 6), .inl (cI, 40, .inl (fun _ => 0))), ((f10 7), .inr (6, [.ref (f10 8)])), ((f10 8), .inl (cI, 240, .inl (fun _ => 0))), ((f10 9), .inr (6, [.ref (f10 10)])), ((f10 10), .inl (cI, 40, .inl (fun _ => 0))), ((f10 11), .inr (6, [.ref (f10 12)])), ((f10 12), .inl (cI, 120, .inl (fun _ => 0))), ((f10 13), .inr (6, [.ref (f10 14)])), ((f10 14), .inl (cI, 120, .inl (fun _ => 0))), ((f10 15), .inr (6, [.ref (f10 16)])), ((f10 16), .inl (cI, 120, .inl (fun _ => 0))), ((f10 17), .inr (6, [.ref (f10 18)])), ((f10 18), .inl (cI, 6, .inl (fun _ => 0))), (q11, .inr (3, [.null, .null, .null, .null, .null, .null, .null, .null, .null, .int 0, .int 0]))] := hD
  refine W.widen (k := 34) (n := 23321) (by omega) (by omega) ?_
  refine lv_dup hx hb dc_SB_init_66 rfl ?_
  have hPc := hP.sub (ws' := [(q11, .inr (3, [.null, .null, .null, .null, .null, .null, .null, .null, .null, .int 0, .int 0]))]) [34] rfl
  have hDc := hD.sub (ws' := [(q11, .inr (3, [.null, .null, .null, .null, .null, .null, .null, .null, .null, .int 0, .int 0]))]) [34] (by decide) rfl
  have hKc := hK.sub (tys' := [(cI, .int)]) [0] rfl
  have hFc := va_free (wc := [(q11, .inr (3, [.null, .null, .null, .null, .null, .null, .null, .null, .null, .int 0, .int 0]))]) hD hS hA [34] rfl
  refine va_callv (va_runIN (As := []) (rest := [.ref q11, .ref h0]) ⟨hx, hb, hml, hown, hts⟩ (c_Law_init l D cI q11 H.size) ⟨va_cnB (host := "StatuteBook") 0 hts (am_GoodWs wc_Law_init) rfl rfl rfl (hNw 158 _ _ _ _ (by decide +kernel)) (hts (.initialized RX3) (am_mem (i := 37) (by decide +kernel) (by decide +kernel))) (by decide +kernel) ⟨Nat.le_of_ble_eq_true rfl, Nat.le_of_ble_eq_true rfl⟩, rfl, (hts (.instanceMethod (⟨RX3, "<init>", "()V"⟩ : MethodName)) (am_mem (i := 159) (by decide +kernel) (by decide +kernel)))⟩ ⟨fun a U g mk q => by obtain ⟨q0, q1, qP, qK, qD, qN⟩ := q; exact ⟨q0, q1, qP, va_K.moved (u := U) (U := U.calling g mk a) (Vm.Alike.refl U.vm) qK, qD, am_nsm.same (u := U) rfl qN⟩, fun U hU hW => ⟨rfl, by rw [hU], by rw [hU]; exact hPc, va_K.moved hW.alike hKc, hDc.weaken (fun _ _ _ _ => trivial), hNw.warm hW⟩⟩ rfl rfl hl.1 rfl (lv_room (Nat.le_of_ble_eq_true rfl)) dc_SB_init_67 ⟨Nat.le_of_ble_eq_true rfl, Nat.le_of_ble_eq_true rfl⟩) hS (fun q _ h => hFc q h) hFc (fun u t H1 locs ht hvm hw hB hz1 hk1 hS => ?_)
  obtain ⟨f12, rfl⟩ : ∃ z, z = u := ⟨_, rfl⟩
  obtain ⟨hP1, hK1, hD1⟩ := hB
  rw [ht] at hP1
  obtain ⟨hP, hD⟩ := va_join (wr := [(h0, .inr (8, [.ref q1, .ref q3, .ref q5, .ref q7, .ref q9, .null, .null])), (q1, .inr (5, [.ref (f2 1), .ref (f2 3), .int 0, .int 0])), ((f2 1), .inr (4, [.ref (f2 2), .int 0])), ((f2 2), .inl (cI, 120, .inl (fun _ => 0))), ((f2 3), .inr (2, [.ref (f2 4), .int 0, .int 0])), ((f2 4), .inr (6, [.ref (f2 5)])), ((f2 5), .inl (cI, 520, .inl (fun _ => 0))), (q3, .inr (4, [.ref (f4 1), .int 0])), ((f4 1), .inl (cI, 1000, .inl (fun _ => 0))), (q5, .inr (0, [.ref (f6 1)])), ((f6 1), .inr (6, [.ref (f6 2)])), ((f6 2), .inl (cI, 1605, .inl (fun _ => 0))), (q7, .inr (1, [.ref (f8 1), .int 0, .int 0, .int 0])), ((f8 1), .inr (6, [.ref (f8 2)])), ((f8 2), .inl (cI, 19260, .inl (fun _ => 0))), (q9, .inr (3, [.ref (f10 1), .ref (f10 3), .ref (f10 5), .ref (f10 7), .ref (f10 9), .ref (f10 11), .ref (f10 13), .ref (f10 15), .ref (f10 17), .int 0, .int 0])), ((f10 1), .inr (6, [.ref (f10 2)])), ((f10 2), .inl (cI, 40, .inl (fun _ => 0))), ((f10 3), .inr (6, [.ref (f10 4)])), ((f10 4), .inl (cI, 40, .inl (fun _ => 0))), ((f10 5), .inr (6, [.ref (f10 6)])), ((f10 6), .inl (cI, 40, .inl (fun _ => 0))), ((f10 7), .inr (6, [.ref (f10 8)])), ((f10 8), .inl (cI, 240, .inl (fun _ => 0))), ((f10 9), .inr (6, [.ref (f10 10)])), ((f10 10), .inl (cI, 40, .inl (fun _ => 0))), ((f10 11), .inr (6, [.ref (f10 12)])), ((f10 12), .inl (cI, 120, .inl (fun _ => 0))), ((f10 13), .inr (6, [.ref (f10 14)])), ((f10 14), .inl (cI, 120, .inl (fun _ => 0))), ((f10 15), .inr (6, [.ref (f10 16)])), ((f10 16), .inl (cI, 120, .inl (fun _ => 0))), ((f10 17), .inr (6, [.ref (f10 18)])), ((f10 18), .inl (cI, 6, .inl (fun _ => 0)))]) (w1 := [(q11, .inr (3, [.ref (f12 1), .ref (f12 3), .ref (f12 5), .ref (f12 7), .ref (f12 9), .ref (f12 11), .ref (f12 13), .ref (f12 15), .ref (f12 17), .int 0, .int 0])), ((f12 1), .inr (6, [.ref (f12 2)])), ((f12 2), .inl (cI, 40, .inl (fun _ => 0))), ((f12 3), .inr (6, [.ref (f12 4)])), ((f12 4), .inl (cI, 40, .inl (fun _ => 0))), ((f12 5), .inr (6, [.ref (f12 6)])), ((f12 6), .inl (cI, 40, .inl (fun _ => 0))), ((f12 7), .inr (6, [.ref (f12 8)])), ((f12 8), .inl (cI, 240, .inl (fun _ => 0))), ((f12 9), .inr (6, [.ref (f12 10)])), ((f12 10), .inl (cI, 40, .inl (fun _ => 0))), ((f12 11), .inr (6, [.ref (f12 12)])), ((f12 12), .inl (cI, 120, .inl (fun _ => 0))), ((f12 13), .inr (6, [.ref (f12 14)])), ((f12 14), .inl (cI, 120, .inl (fun _ => 0))), ((f12 15), .inr (6, [.ref (f12 16)])), ((f12 16), .inl (cI, 120, .inl (fun _ => 0))), ((f12 17), .inr (6, [.ref (f12 18)])), ((f12 18), .inl (cI, 6, .inl (fun _ => 0)))]) hP hD [34] [0, 1, 2, 3, 4, 5, 6, 7, 8, 9, 10, 11, 12, 13, 14, 15, 16, 17, 18, 19, 20, 21, 22, 23, 24, 25, 26, 27, 28, 29, 30, 31, 32, 33] rfl rfl (by decide) (by decide) hk1 hFc hP1 hD1
  generalize H1 = H at hP hS ⊢
  have hP : va_P D am_cl [(h0, .inr (8, [.ref q1, .ref q3, .ref q5, .ref q7, .ref q9, .null, .null])), (q1, .inr (5, [.ref (f2 1), .ref (f2 3), .int 0, .int 0])), ((f2 1), .inr (4, [.ref (f2 2), .int 0])), ((f2 2), .inl (cI, 120, .inl (fun _ => 0))), ((f2 3), .inr (2, [.ref (f2 4), .int 0, .int 0])), ((f2 4), .inr (6, [.ref (f2 5)])), ((f2 5), .inl (cI, 520, .inl (fun _ => 0))), (q3, .inr (4, [.ref (f4 1), .int 0])), ((f4 1), .inl (cI, 1000, .inl (fun _ => 0))), (q5, .inr (0, [.ref (f6 1)])), ((f6 1), .inr (6, [.ref (f6 2)])), ((f6 2), .inl (cI, 1605, .inl (fun _ => 0))), (q7, .inr (1, [.ref (f8 1), .int 0, .int 0, .int 0])), ((f8 1), .inr (6, [.ref (f8 2)])), ((f8 2), .inl (cI, 19260, .inl (fun _ => 0))), (q9, .inr (3, [.ref (f10 1), .ref (f10 3), .ref (f10 5), .ref (f10 7), .ref (f10 9), .ref (f10 11), .ref (f10 13), .ref (f10 15), .ref (f10 17), .int 0, .int 0])), ((f10 1), .inr (6, [.ref (f10 2)])), ((f10 2), .inl (cI, 40, .inl (fun _ => 0))), ((f10 3), .inr (6, [.ref (f10 4)])), ((f10 4), .inl (cI, 40, .inl (fun _ => 0))), ((f10 5), .inr (6, [.ref (f10 6)])), ((f10 6), .inl (cI, 40, .inl (fun _ => 0))), ((f10 7), .inr (6, [.ref (f10 8)])), ((f10 8), .inl (cI, 240, .inl (fun _ => 0))), ((f10 9), .inr (6, [.ref (f10 10)])), ((f10 10), .inl (cI, 40, .inl (fun _ => 0))), ((f10 11), .inr (6, [.ref (f10 12)])), ((f10 12), .inl (cI, 120, .inl (fun _ => 0))), ((f10 13), .inr (6, [.ref (f10 14)])), ((f10 14), .inl (cI, 120, .inl (fun _ => 0))), ((f10 15), .inr (6, [.ref (f10 16)])), ((f10 16), .inl (cI, 120, .inl (fun _ => 0))), ((f10 17), .inr (6, [.ref (f10 18)])), ((f10 18), .inl (cI, 6, .inl (fun _ => 0))), (q11, .inr (3, [.ref (f12 1), .ref (f12 3), .ref (f12 5), .ref (f12 7), .ref (f12 9), .ref (f12 11), .ref (f12 13), .ref (f12 15), .ref (f12 17), .int 0, .int 0])), ((f12 1), .inr (6, [.ref (f12 2)])), ((f12 2), .inl (cI, 40, .inl (fun _ => 0))), ((f12 3), .inr (6, [.ref (f12 4)])), ((f12 4), .inl (cI, 40, .inl (fun _ => 0))), ((f12 5), .inr (6, [.ref (f12 6)])), ((f12 6), .inl (cI, 40, .inl (fun _ => 0))), ((f12 7), .inr (6, [.ref (f12 8)])), ((f12 8), .inl (cI, 240, .inl (fun _ => 0))), ((f12 9), .inr (6, [.ref (f12 10)])), ((f12 10), .inl (cI, 40, .inl (fun _ => 0))), ((f12 11), .inr (6, [.ref (f12 12)])), ((f12 12), .inl (cI, 120, .inl (fun _ => 0))), ((f12 13), .inr (6, [.ref (f12 14)])), ((f12 14), .inl (cI, 120, .inl (fun _ => 0))), ((f12 15), .inr (6, [.ref (f12 16)])), ((f12 16), .inl (cI, 120, .inl (fun _ => 0))), ((f12 17), .inr (6, [.ref (f12 18)])), ((f12 18), .inl (cI, 6, .inl (fun _ => 0)))] H := hP
  have hD : va_D A [(h0, .inr (8, [.ref q1, .ref q3, .ref q5, .ref q7, .ref q9, .null, .null])), (q1, .inr (5, [.ref (f2 1), .ref (f2 3), .int 0, .int 0])), ((f2 1), .inr (4, [.ref (f2 2), .int 0])), ((f2 2), .inl (cI, 120, .inl (fun _ => 0))), ((f2 3), .inr (2, [.ref (f2 4), .int 0, .int 0])), ((f2 4), .inr (6, [.ref (f2 5)])), ((f2 5), .inl (cI, 520, .inl (fun _ => 0))), (q3, .inr (4, [.ref (f4 1), .int 0])), ((f4 1), .inl (cI, 1000, .inl (fun _ => 0))), (q5, .inr (0, [.ref (f6 1)])), ((f6 1), .inr (6, [.ref (f6 2)])), ((f6 2), .inl (cI, 1605, .inl (fun _ => 0))), (q7, .inr (1, [.ref (f8 1), .int 0, .int 0, .int 0])), ((f8 1), .inr (6, [.ref (f8 2)])), ((f8 2), .inl (cI, 19260, .inl (fun _ => 0))), (q9, .inr (3, [.ref (f10 1), .ref (f10 3), .ref (f10 5), .ref (f10 7), .ref (f10 9), .ref (f10 11), .ref (f10 13), .ref (f10 15), .ref (f10 17), .int 0, .int 0])), ((f10 1), .inr (6, [.ref (f10 2)])), ((f10 2), .inl (cI, 40, .inl (fun _ => 0))), ((f10 3), .inr (6, [.ref (f10 4)])), ((f10 4), .inl (cI, 40, .inl (fun _ => 0))), ((f10 5), .inr (6, [.ref (f10 6)])), ((f10 6), .inl (cI, 40, .inl (fun _ => 0))), ((f10 7), .inr (6, [.ref (f10 8)])), ((f10 8), .inl (cI, 240, .inl (fun _ => 0))), ((f10 9), .inr (6, [.ref (f10 10)])), ((f10 10), .inl (cI, 40, .inl (fun _ => 0))), ((f10 11), .inr (6, [.ref (f10 12)])), ((f10 12), .inl (cI, 120, .inl (fun _ => 0))), ((f10 13), .inr (6, [.ref (f10 14)])), ((f10 14), .inl (cI, 120, .inl (fun _ => 0))), ((f10 15), .inr (6, [.ref (f10 16)])), ((f10 16), .inl (cI, 120, .inl (fun _ => 0))), ((f10 17), .inr (6, [.ref (f10 18)])), ((f10 18), .inl (cI, 6, .inl (fun _ => 0))), (q11, .inr (3, [.ref (f12 1), .ref (f12 3), .ref (f12 5), .ref (f12 7), .ref (f12 9), .ref (f12 11), .ref (f12 13), .ref (f12 15), .ref (f12 17), .int 0, .int 0])), ((f12 1), .inr (6, [.ref (f12 2)])), ((f12 2), .inl (cI, 40, .inl (fun _ => 0))), ((f12 3), .inr (6, [.ref (f12 4)])), ((f12 4), .inl (cI, 40, .inl (fun _ => 0))), ((f12 5), .inr (6, [.ref (f12 6)])), ((f12 6), .inl (cI, 40, .inl (fun _ => 0))), ((f12 7), .inr (6, [.ref (f12 8)])), ((f12 8), .inl (cI, 240, .inl (fun _ => 0))), ((f12 9), .inr (6, [.ref (f12 10)])), ((f12 10), .inl (cI, 40, .inl (fun _ => 0))), ((f12 11), .inr (6, [.ref (f12 12)])), ((f12 12), .inl (cI, 120, .inl (fun _ => 0))), ((f12 13), .inr (6, [.ref (f12 14)])), ((f12 14), .inl (cI, 120, .inl (fun _ => 0))), ((f12 15), .inr (6, [.ref (f12 16)])), ((f12 16), .inl (cI, 120, .inl (fun _ => 0))), ((f12 17), .inr (6, [.ref (f12 18)])), ((f12 18), .inl (cI, 6, .inl (fun _ => 0)))] := hD
  refine W.widen (k := 52) (n := 24096) (by omega) (by omega) ?_
  refine va_putF (D := D) (ci := 8) (v := .ref q11) (ty := tyX8 5) (C := RX8) (T := TX8) (N := 7) hx hb hts am_ws8 tyX8 tyX8_ok nmX8 hown hK hP hD hS 0 rfl rfl 5 (by decide) (hts (.fieldLink RX8 46 "StatuteBook" "otherLaw" "LStatuteBook$Law;") (am_mem (i := 222) (by decide +kernel) (by decide +kernel))) (fun _ h9 => h9) rfl hin rfl (by decide +kernel) rfl rfl (Nat.le_of_ble_eq_true rfl) dc_SB_init_70 (fun H locs hP hD hS => ?_)
  have hP : va_P D am_cl [(h0, .inr (8, [.ref q1, .ref q3, .ref q5, .ref q7, .ref q9, .ref q11, .null])), (q1, .inr (5, [.ref (f2 1), .ref (f2 3), .int 0, .int 0])), ((f2 1), .inr (4, [.ref (f2 2), .int 0])), ((f2 2), .inl (cI, 120, .inl (fun _ => 0))), ((f2 3), .inr (2, [.ref (f2 4), .int 0, .int 0])), ((f2 4), .inr (6, [.ref (f2 5)])), ((f2 5), .inl (cI, 520, .inl (fun _ => 0))), (q3, .inr (4, [.ref (f4 1), .int 0])), ((f4 1), .inl (cI, 1000, .inl (fun _ => 0))), (q5, .inr (0, [.ref (f6 1)])), ((f6 1), .inr (6, [.ref (f6 2)])), ((f6 2), .inl (cI, 1605, .inl (fun _ => 0))), (q7, .inr (1, [.ref (f8 1), .int 0, .int 0, .int 0])), ((f8 1), .inr (6, [.ref (f8 2)])), ((f8 2), .inl (cI, 19260, .inl (fun _ => 0))), (q9, .inr (3, [.ref (f10 1), .ref (f10 3), .ref (f10 5), .ref (f10 7), .ref (f10 9), .ref (f10 11), .ref (f10 13), .ref (f10 15), .ref (f10 17), .int 0, .int 0])), ((f10 1), .inr (6, [.ref (f10 2)])), ((f10 2), .inl (cI, 40, .inl (fun _ => 0))), ((f10 3), .inr (6, [.ref (f10 4)])), ((f10 4), .inl (cI, 40, .inl (fun _ => 0))), ((f10 5), .inr (6, [.ref (f10 6)])), ((f10 6), .inl (cI, 40, .inl (fun _ => 0))), ((f10 7), .inr (6, [.ref (f10 8)])), ((f10 8), .inl (cI, 240, .inl (fun _ => 0))), ((f10 9), .inr (6, [.ref (f10 10)])), ((f10 10), .inl (cI, 40, .inl (fun _ => 0))), ((f10 11), .inr (6, [.ref (f10 12)])), ((f10 12), .inl (cI, 120, .inl (fun _ => 0))), ((f10 13), .inr (6, [.ref (f10 14)])), ((f10 14), .inl (cI, 120, .inl (fun _ => 0))), ((f10 15), .inr (6, [.ref (f10 16)])), ((f10 16), .inl (cI, 120, .inl (fun _ => 0))), ((f10 17), .inr (6, [.ref (f10 18)])), ((f10 18), .inl (cI, 6, .inl (fun _ => 0))), (q11, .inr (3, [.ref (f12 1), .ref (f12 3), .ref (f12 5), .ref (f12 7), .ref (f12 9), .ref (f12 11), .ref (f12 13), .ref (f12 15), .ref (f12 17), .int 0, .int 0])), ((f12 1), .inr (6, [.ref (f12 2)])), ((f12 2), .inl (cI, 40, .inl (fun _ => 0))), ((f12 3), .inr (6, [.ref (f12 4)])), ((f12 4), .inl (cI, 40, .inl (fun _ => 0))), ((f12 5), .inr (6, [.ref (f12 6)])), ((f12 6), .inl (cI, 40, .inl (fun _ => 0))), ((f12 7), .inr (6, [.ref (f12 8)])), ((f12 8), .inl (cI, 240, .inl (fun _ => 0))), ((f12 9), .inr (6, [.ref (f12 10)])), ((f12 10), .inl (cI, 40, .inl (fun _ => 0))), ((f12 11), .inr (6, [.ref (f12 12)])), ((f12 12), .inl (cI, 120, .inl (fun _ => 0))), ((f12 13), .inr (6, [.ref (f12 14)])), ((f12 14), .inl (cI, 120, .inl (fun _ => 0))), ((f12 15), .inr (6, [.ref (f12 16)])), ((f12 16), .inl (cI, 120, .inl (fun _ => 0))), ((f12 17), .inr (6, [.ref (f12 18)])), ((f12 18), .inl (cI, 6, .inl (fun _ => 0)))] H := hP
  have hD : va_D A [(h0, .inr (8, [.ref q1, .ref q3, .ref q5, .ref q7, .ref q9, .ref q11, .null])), (q1, .inr (5, [.ref (f2 1), .ref (f2 3), .int 0, .int 0])), ((f2 1), .inr (4, [.ref (f2 2), .int 0])), ((f2 2), .inl (cI, 120, .inl (fun _ => 0))), ((f2 3), .inr (2, [.ref (f2 4), .int 0, .int 0])), ((f2 4), .inr (6, [.ref (f2 5)])), ((f2 5), .inl (cI, 520, .inl (fun _ => 0))), (q3, .inr (4, [.ref (f4 1), .int 0])), ((f4 1), .inl (cI, 1000, .inl (fun _ => 0))), (q5, .inr (0, [.ref (f6 1)])), ((f6 1), .inr (6, [.ref (f6 2)])), ((f6 2), .inl (cI, 1605, .inl (fun _ => 0))), (q7, .inr (1, [.ref (f8 1), .int 0, .int 0, .int 0])), ((f8 1), .inr (6, [.ref (f8 2)])), ((f8 2), .inl (cI, 19260, .inl (fun _ => 0))), (q9, .inr (3, [.ref (f10 1), .ref (f10 3), .ref (f10 5), .ref (f10 7), .ref (f10 9), .ref (f10 11), .ref (f10 13), .ref (f10 15), .ref (f10 17), .int 0, .int 0])), ((f10 1), .inr (6, [.ref (f10 2)])), ((f10 2), .inl (cI, 40, .inl (fun _ => 0))), ((f10 3), .inr (6, [.ref (f10 4)])), ((f10 4), .inl (cI, 40, .inl (fun _ => 0))), ((f10 5), .inr (6, [.ref (f10 6)])), ((f10 6), .inl (cI, 40, .inl (fun _ => 0))), ((f10 7), .inr (6, [.ref (f10 8)])), ((f10 8), .inl (cI, 240, .inl (fun _ => 0))), ((f10 9), .inr (6, [.ref (f10 10)])), ((f10 10), .inl (cI, 40, .inl (fun _ => 0))), ((f10 11), .inr (6, [.ref (f10 12)])), ((f10 12), .inl (cI, 120, .inl (fun _ => 0))), ((f10 13), .inr (6, [.ref (f10 14)])), ((f10 14), .inl (cI, 120, .inl (fun _ => 0))), ((f10 15), .inr (6, [.ref (f10 16)])), ((f10 16), .inl (cI, 120, .inl (fun _ => 0))), ((f10 17), .inr (6, [.ref (f10 18)])), ((f10 18), .inl (cI, 6, .inl (fun _ => 0))), (q11, .inr (3, [.ref (f12 1), .ref (f12 3), .ref (f12 5), .ref (f12 7), .ref (f12 9), .ref (f12 11), .ref (f12 13), .ref (f12 15), .ref (f12 17), .int 0, .int 0])), ((f12 1), .inr (6, [.ref (f12 2)])), ((f12 2), .inl (cI, 40, .inl (fun _ => 0))), ((f12 3), .inr (6, [.ref (f12 4)])), ((f12 4), .inl (cI, 40, .inl (fun _ => 0))), ((f12 5), .inr (6, [.ref (f12 6)])), ((f12 6), .inl (cI, 40, .inl (fun _ => 0))), ((f12 7), .inr (6, [.ref (f12 8)])), ((f12 8), .inl (cI, 240, .inl (fun _ => 0))), ((f12 9), .inr (6, [.ref (f12 10)])), ((f12 10), .inl (cI, 40, .inl (fun _ => 0))), ((f12 11), .inr (6, [.ref (f12 12)])), ((f12 12), .inl (cI, 120, .inl (fun _ => 0))), ((f12 13), .inr (6, [.ref (f12 14)])), ((f12 14), .inl (cI, 120, .inl (fun _ => 0))), ((f12 15), .inr (6, [.ref (f12 16)])), ((f12 16), .inl (cI, 120, .inl (fun _ => 0))), ((f12 17), .inr (6, [.ref (f12 18)])), ((f12 18), .inl (cI, 6, .inl (fun _ => 0)))] := hD
  refine lv_aload_n hx hb dc_SB_init_73 rfl (lv_at hl 0 rfl) ?_
  refine va_new (ci := 7) (fs := [.null, .null, .int 0, .int 0]) (C := RX7) (T := TX7) (N := 4) hx hb hts am_ws7 tyX7 tyX7_ok hown (hts (.classLink RX8 49 RX7) (am_mem (i := 198) (by decide +kernel) (by decide +kernel))) (hts (.instantiable RX7 4) (am_mem (i := 199) (by decide +kernel) (by decide +kernel))) (hts (.initialized RX7) (am_mem (i := 38) (by decide +kernel) (by decide +kernel))) hK hP hD hS hA rfl (fun j hj => by match j, hj with | 0, _ => rfl | 1, _ => rfl | 2, _ => rfl | 3, _ => rfl | j + 4, hj => exact absurd hj (by omega)) (Nat.le_of_ble_eq_true rfl) (Nat.le_of_ble_eq_true rfl) dc_SB_init_74 (fun q13 H hP hD hS => ?_)
  have hP : va_P D am_cl [(h0, .inr (8, [.ref q1, .ref q3, .ref q5, .ref q7, .ref q9, .ref q11, .null])), (q1, .inr (5, [.ref (f2 1), .ref (f2 3), .int 0, .int 0])), ((f2 1), .inr (4, [.ref (f2 2), .int 0])), ((f2 2), .inl (cI, 120, .inl (fun _ => 0))), ((f2 3), .inr (2, [.ref (f2 4), .int 0, .int 0])), ((f2 4), .inr (6, [.ref (f2 5)])), ((f2 5), .inl (cI, 520, .inl (fun _ => 0))), (q3, .inr (4, [.ref (f4 1), .int 0])), ((f4 1), .inl (cI, 1000, .inl (fun _ => 0))), (q5, .inr (0, [.ref (f6 1)])), ((f6 1), .inr (6, [.ref (f6 2)])), ((f6 2), .inl (cI, 1605, .inl (fun _ => 0))), (q7, .inr (1, [.ref (f8 1), .int 0, .int 0, .int 0])), ((f8 1), .inr (6, [.ref (f8 2)])), ((f8 2), .inl (cI, 19260, .inl (fun _ => 0))), (q9, .inr (3, [.ref (f10 1), .ref (f10 3), .ref (f10 5), .ref (f10 7), .ref (f10 9), .ref (f10 11), .ref (f10 13), .ref (f10 15), .ref (f10 17), .int 0, .int 0])), ((f10 1), .inr (6, [.ref (f10 2)])), ((f10 2), .inl (cI, 40, .inl (fun _ => 0))), ((f10 3), .inr (6, [.ref (f10 4)])), ((f10 4), .inl (cI, 40, .inl (fun _ => 0))), ((f10 5), .inr (6, [.ref (f10 6)])), ((f10 6), .inl (cI, 40, .inl (fun _ => 0))), ((f10 7), .inr (6, [.ref (f10 8)])), ((f10 8), .inl (cI, 240, .inl (fun _ => 0))), ((f10 9), .inr (6, [.ref (f10 10)])), ((f10 10), .inl (cI, 40, .inl (fun _ => 0))), ((f10 11), .inr (6, [.ref (f10 12)])), ((f10 12), .inl (cI, 120, .inl (fun _ => 0))), ((f10 13), .inr (6, [.ref (f10 14)])), ((f10 14), .inl (cI, 120, .inl (fun _ => 0))), ((f10 15), .inr (6, [.ref (f10 16)])), ((f10 16), .inl (cI, 120, .inl (fun _ => 0))), ((f10 17), .inr (6, [.ref (f10 18)])), ((f10 18), .inl (cI, 6, .inl (fun _ => 0))), (q11, .inr (3, [.ref (f12 1), .ref (f12 3), .ref (f12 5), .ref (f12 7), .ref (f12 9), .ref (f12 11), .ref (f12 13), .ref (f12 15), .ref (f12 17), .int 0, .int 0])), ((f12 1), .inr (6, [.ref (f12 2)])), ((f12 2), .inl (cI, 40, .inl (fun _ => 0))), ((f12 3), .inr (6, [.ref (f12 4)])), ((f12 4), .inl (cI, 40, .inl (fun _ => 0))), ((f12 5), .inr (6, [.ref (f12 6)])), ((f12 6), .inl (cI, 40, .inl (fun _ => 0))), ((f12 7), .inr (6, [.ref (f12 8)])), ((f12 8), .inl (cI, 240, .inl (fun _ => 0))), ((f12 9), .inr (6, [.ref (f12 10)])), ((f12 10), .inl (cI, 40, .inl (fun _ => 0))), ((f12 11), .inr (6, [.ref (f12 12)])), ((f12 12), .inl (cI, 120, .inl (fun _ => 0))), ((f12 13), .inr (6, [.ref (f12 14)])), ((f12 14), .inl (cI, 120, .inl (fun _ => 0))), ((f12 15), .inr (6, [.ref (f12 16)])), ((f12 16), .inl (cI, 120, .inl (fun _ => 0))), ((f12 17), .inr (6, [.ref (f12 18)])), ((f12 18), .inl (cI, 6, .inl (fun _ => 0))), (q13, .inr (7, [.null, .null, .int 0, .int 0]))] H := hP
  have hD : va_D A [(h0, .inr (8, [.ref q1, .ref q3, .ref q5, .ref q7, .ref q9, .ref q11, .null])), (q1, .inr (5, [.ref (f2 1), .ref (f2 3), .int 0, .int 0])), ((f2 1), .inr (4, [.ref (f2 2), .int 0])), ((f2 2), .inl (cI, 120, .inl (fun _ => 0))), ((f2 3), .inr (2, [.ref (f2 4), .int 0, .int 0])), ((f2 4), .inr (6, [.ref (f2 5)])), ((f2 5), .inl (cI, 520, .inl (fun _ => 0))), (q3, .inr (4, [.ref (f4 1), .int 0])), ((f4 1), .inl (cI, 1000, .inl (fun _ => 0))), (q5, .inr (0, [.ref (f6 1)])), ((f6 1), .inr (6, [.ref (f6 2)])), ((f6 2), .inl (cI, 1605, .inl (fun _ => 0))), (q7, .inr (1, [.ref (f8 1), .int 0, .int 0, .int 0])), ((f8 1), .inr (6, [.ref (f8 2)])), ((f8 2), .inl (cI, 19260, .inl (fun _ => 0))), (q9, .inr (3, [.ref (f10 1), .ref (f10 3), .ref (f10 5), .ref (f10 7), .ref (f10 9), .ref (f10 11), .ref (f10 13), .ref (f10 15), .ref (f10 17), .int 0, .int 0])), ((f10 1), .inr (6, [.ref (f10 2)])), ((f10 2), .inl (cI, 40, .inl (fun _ => 0))), ((f10 3), .inr (6, [.ref (f10 4)])), ((f10 4), .inl (cI, 40, .inl (fun _ => 0))), ((f10 5), .inr (6, [.ref (f10 6)])), ((f10 6), .inl (cI, 40, .inl (fun _ => 0))), ((f10 7), .inr (6, [.ref (f10 8)])), ((f10 8), .inl (cI, 240, .inl (fun _ => 0))), ((f10 9), .inr (6, [.ref (f10 10)])), ((f10 10), .inl (cI, 40, .inl (fun _ => 0))), ((f10 11), .inr (6, [.ref (f10 12)])), ((f10 12), .inl (cI, 120, .inl (fun _ => 0))), ((f10 13), .inr (6, [.ref (f10 14)])), ((f10 14), .inl (cI, 120, .inl (fun _ => 0))), ((f10 15), .inr (6, [.ref (f10 16)])), ((f10 16), .inl (cI, 120, .inl (fun _ => 0))), ((f10 17), .inr (6, [.ref (f10 18)])), ((f10 18), .inl (cI, 6, .inl (fun _ => 0))), (q11, .inr (3, [.ref (f12 1), .ref (f12 3), .ref (f12 5), .ref (f12 7), .ref (f12 9), .ref (f12 11), .ref (f12 13), .ref (f12 15), .ref (f12 17), .int 0, .int 0])), ((f12 1), .inr (6, [.ref (f12 2)])), ((f12 2), .inl (cI, 40, .inl (fun _ => 0))), ((f12 3), .inr (6, [.ref (f12 4)])), ((f12 4), .inl (cI, 40, .inl (fun _ => 0))), ((f12 5), .inr (6, [.ref (f12 6)])), ((f12 6), .inl (cI, 40, .inl (fun _ => 0))), ((f12 7), .inr (6, [.ref (f12 8)])), ((f12 8), .inl (cI, 240, .inl (fun _ => 0))), ((f12 9), .inr (6, [.ref (f12 10)])), ((f12 10), .inl (cI, 40, .inl (fun _ => 0))), ((f12 11), .inr (6, [.ref (f12 12)])), ((f12 12), .inl (cI, 120, .inl (fun _ => 0))), ((f12 13), .inr (6, [.ref (f12 14)])), ((f12 14), .inl (cI, 120, .inl (fun _ => 0))), ((f12 15), .inr (6, [.ref (f12 16)])), ((f12 16), .inl (cI, 120, .inl (fun _ => 0))), ((f12 17), .inr (6, [.ref (f12 18)])), ((f12 18), .inl (cI, 6, .inl (fun _ => 0))), (q13, .inr (7, [.null, .null, .int 0, .int 0]))] := hD
  refine W.widen (k := 53) (n := 24100) (by omega) (by omega) ?_
  refine lv_dup hx hb dc_SB_init_77 rfl ?_
  have hPc := hP.sub (ws' := [(q13, .inr (7, [.null, .null, .int 0, .int 0]))]) [53] rfl
  have hDc := hD.sub (ws' := [(q13, .inr (7, [.null, .null, .int 0, .int 0]))]) [53] (by decide) rfl
  have hKc := hK.sub (tys' := [(cI, .int)]) [0] rfl
  have hFc := va_free (wc := [(q13, .inr (7, [.null, .null, .int 0, .int 0]))]) hD hS hA [53] rfl
  refine va_callv (va_runIN (As := []) (rest := [.ref q13, .ref h0]) ⟨hx, hb, hml, hown, hts⟩ (c_Wal_init l D cI q13 H.size) ⟨va_cnB (host := "StatuteBook") 0 hts (am_GoodWs wc_Wal_init) rfl rfl rfl (hNw 200 _ _ _ _ (by decide +kernel)) (hts (.initialized RX7) (am_mem (i := 38) (by decide +kernel) (by decide +kernel))) (by decide +kernel) ⟨Nat.le_of_ble_eq_true rfl, Nat.le_of_ble_eq_true rfl⟩, rfl, (hts (.instanceMethod (⟨RX7, "<init>", "()V"⟩ : MethodName)) (am_mem (i := 201) (by decide +kernel) (by decide +kernel)))⟩ ⟨fun a U g mk q => by obtain ⟨q0, q1, qP, qK, qD, qN⟩ := q; exact ⟨q0, q1, qP, va_K.moved (u := U) (U := U.calling g mk a) (Vm.Alike.refl U.vm) qK, qD, am_nsm.same (u := U) rfl qN⟩, fun U hU hW => ⟨rfl, by rw [hU], by rw [hU]; exact hPc, va_K.moved hW.alike hKc, hDc.weaken (fun _ _ _ _ => trivial), hNw.warm hW⟩⟩ rfl rfl hl.1 rfl (lv_room (Nat.le_of_ble_eq_true rfl)) dc_SB_init_78 ⟨Nat.le_of_ble_eq_true rfl, Nat.le_of_ble_eq_true rfl⟩) hS (fun q _ h => hFc q h) hFc (fun u t H1 locs ht hvm hw hB hz1 hk1 hS => ?_)
  obtain ⟨f14, rfl⟩ : ∃ z, z = u := ⟨_, rfl⟩
  obtain ⟨hP1, hK1, hD1⟩ := hB
  rw [ht] at hP1
  obtain ⟨hP, hD⟩ := va_join (wr := [(h0, .inr (8, [.ref q1, .ref q3, .ref q5, .ref q7, .ref q9, .ref q11, .null])), (q1, .inr (5, [.ref (f2 1), .ref (f2 3), .int 0, .int 0])), ((f2 1), .inr (4, [.ref (f2 2), .int 0])), ((f2 2), .inl (cI, 120, .inl (fun _ => 0))), ((f2 3), .inr (2, [.ref (f2 4), .int 0, .int 0])), ((f2 4), .inr (6, [.ref (f2 5)])), ((f2 5), .inl (cI, 520, .inl (fun _ => 0))), (q3, .inr (4, [.ref (f4 1), .int 0])), ((f4 1), .inl (cI, 1000, .inl (fun _ => 0))), (q5, .inr (0, [.ref (f6 1)])), ((f6 1), .inr (6, [.ref (f6 2)])), ((f6 2), .inl (cI, 1605, .inl (fun _ => 0))), (q7, .inr (1, [.ref (f8 1), .int 0, .int 0, .int 0])), ((f8 1), .inr (6, [.ref (f8 2)])), ((f8 2), .inl (cI, 19260, .inl (fun _ => 0))), (q9, .inr (3, [.ref (f10 1), .ref (f10 3), .ref (f10 5), .ref (f10 7), .ref (f10 9), .ref (f10 11), .ref (f10 13), .ref (f10 15), .ref (f10 17), .int 0, .int 0])), ((f10 1), .inr (6, [.ref (f10 2)])), ((f10 2), .inl (cI, 40, .inl (fun _ => 0))), ((f10 3), .inr (6, [.ref (f10 4)])), ((f10 4), .inl (cI, 40, .inl (fun _ => 0))), ((f10 5), .inr (6, [.ref (f10 6)])), ((f10 6), .inl (cI, 40, .inl (fun _ => 0))), ((f10 7), .inr (6, [.ref (f10 8)])), ((f10 8), .inl (cI, 240, .inl (fun _ => 0))), ((f10 9), .inr (6, [.ref (f10 10)])), ((f10 10), .inl (cI, 40, .inl (fun _ => 0))), ((f10 11), .inr (6, [.ref (f10 12)])), ((f10 12), .inl (cI, 120, .inl (fun _ => 0))), ((f10 13), .inr (6, [.ref (f10 14)])), ((f10 14), .inl (cI, 120, .inl (fun _ => 0))), ((f10 15), .inr (6, [.ref (f10 16)])), ((f10 16), .inl (cI, 120, .inl (fun _ => 0))), ((f10 17), .inr (6, [.ref (f10 18)])), ((f10 18), .inl (cI, 6, .inl (fun _ => 0))), (q11, .inr (3, [.ref (f12 1), .ref (f12 3), .ref (f12 5), .ref (f12 7), .ref (f12 9), .ref (f12 11), .ref (f12 13), .ref (f12 15), .ref (f12 17), .int 0, .int 0])), ((f12 1), .inr (6, [.ref (f12 2)])), ((f12 2), .inl (cI, 40, .inl (fun _ => 0))), ((f12 3), .inr (6, [.ref (f12 4)])), ((f12 4), .inl (cI, 40, .inl (fun _ => 0))), ((f12 5), .inr (6, [.ref (f12 6)])), ((f12 6), .inl (cI, 40, .inl (fun _ => 0))), ((f12 7), .inr (6, [.ref (f12 8)])), ((f12 8), .inl (cI, 240, .inl (fun _ => 0))), ((f12 9), .inr (6, [.ref (f12 10)])), ((f12 10), .inl (cI, 40, .inl (fun _ => 0))), ((f12 11), .inr (6, [.ref (f12 12)])), ((f12 12), .inl (cI, 120, .inl (fun _ => 0))), ((f12 13), .inr (6, [.ref (f12 14)])), ((f12 14), .inl (cI, 120, .inl (fun _ => 0))), ((f12 15), .inr (6, [.ref (f12 16)])), ((f12 16), .inl (cI, 120, .inl (fun _ => 0))), ((f12 17), .inr (6, [.ref (f12 18)])), ((f12 18), .inl (cI, 6, .inl (fun _ => 0)))]) (w1 := [(q13, .inr (7, [.ref (f14 1), .ref (f14 3), .int 0, .int 0])), ((f14 1), .inr (6, [.ref (f14 2)])), ((f14 2), .inl (cI, 40, .inl (fun _ => 0))), ((f14 3), .inr (6, [.ref (f14 4)])), ((f14 4), .inl (cI, 40, .inl (fun _ => 0)))]) hP hD [53] [0, 1, 2, 3, 4, 5, 6, 7, 8, 9, 10, 11, 12, 13, 14, 15, 16, 17, 18, 19, 20, 21, 22, 23, 24, 25, 26, 27, 28, 29, 30, 31, 32, 33, 34, 35, 36, 37, 38, 39, 40, 41, 42, 43, 44, 45, 46, 47, 48, 49, 50, 51, 52] rfl rfl (by decide) (by decide) hk1 hFc hP1 hD1
  generalize H1 = H at hP hS ⊢
  have hP : va_P D am_cl [(h0, .inr (8, [.ref q1, .ref q3, .ref q5, .ref q7, .ref q9, .ref q11, .null])), (q1, .inr (5, [.ref (f2 1), .ref (f2 3), .int 0, .int 0])), ((f2 1), .inr (4, [.ref (f2 2), .int 0])), ((f2 2), .inl (cI, 120, .inl (fun _ => 0))), ((f2 3), .inr (2, [.ref (f2 4), .int 0, .int 0])), ((f2 4), .inr (6, [.ref (f2 5)])), ((f2 5), .inl (cI, 520, .inl (fun _ => 0))), (q3, .inr (4, [.ref (f4 1), .int 0])), ((f4 1), .inl (cI, 1000, .inl (fun _ => 0))), (q5, .inr (0, [.ref (f6 1)])), ((f6 1), .inr (6, [.ref (f6 2)])), ((f6 2), .inl (cI, 1605, .inl (fun _ => 0))), (q7, .inr (1, [.ref (f8 1), .int 0, .int 0, .int 0])), ((f8 1), .inr (6, [.ref (f8 2)])), ((f8 2), .inl (cI, 19260, .inl (fun _ => 0))), (q9, .inr (3, [.ref (f10 1), .ref (f10 3), .ref (f10 5), .ref (f10 7), .ref (f10 9), .ref (f10 11), .ref (f10 13), .ref (f10 15), .ref (f10 17), .int 0, .int 0])), ((f10 1), .inr (6, [.ref (f10 2)])), ((f10 2), .inl (cI, 40, .inl (fun _ => 0))), ((f10 3), .inr (6, [.ref (f10 4)])), ((f10 4), .inl (cI, 40, .inl (fun _ => 0))), ((f10 5), .inr (6, [.ref (f10 6)])), ((f10 6), .inl (cI, 40, .inl (fun _ => 0))), ((f10 7), .inr (6, [.ref (f10 8)])), ((f10 8), .inl (cI, 240, .inl (fun _ => 0))), ((f10 9), .inr (6, [.ref (f10 10)])), ((f10 10), .inl (cI, 40, .inl (fun _ => 0))), ((f10 11), .inr (6, [.ref (f10 12)])), ((f10 12), .inl (cI, 120, .inl (fun _ => 0))), ((f10 13), .inr (6, [.ref (f10 14)])), ((f10 14), .inl (cI, 120, .inl (fun _ => 0))), ((f10 15), .inr (6, [.ref (f10 16)])), ((f10 16), .inl (cI, 120, .inl (fun _ => 0))), ((f10 17), .inr (6, [.ref (f10 18)])), ((f10 18), .inl (cI, 6, .inl (fun _ => 0))), (q11, .inr (3, [.ref (f12 1), .ref (f12 3), .ref (f12 5), .ref (f12 7), .ref (f12 9), .ref (f12 11), .ref (f12 13), .ref (f12 15), .ref (f12 17), .int 0, .int 0])), ((f12 1), .inr (6, [.ref (f12 2)])), ((f12 2), .inl (cI, 40, .inl (fun _ => 0))), ((f12 3), .inr (6, [.ref (f12 4)])), ((f12 4), .inl (cI, 40, .inl (fun _ => 0))), ((f12 5), .inr (6, [.ref (f12 6)])), ((f12 6), .inl (cI, 40, .inl (fun _ => 0))), ((f12 7), .inr (6, [.ref (f12 8)])), ((f12 8), .inl (cI, 240, .inl (fun _ => 0))), ((f12 9), .inr (6, [.ref (f12 10)])), ((f12 10), .inl (cI, 40, .inl (fun _ => 0))), ((f12 11), .inr (6, [.ref (f12 12)])), ((f12 12), .inl (cI, 120, .inl (fun _ => 0))), ((f12 13), .inr (6, [.ref (f12 14)])), ((f12 14), .inl (cI, 120, .inl (fun _ => 0))), ((f12 15), .inr (6, [.ref (f12 16)])), ((f12 16), .inl (cI, 120, .inl (fun _ => 0))), ((f12 17), .inr (6, [.ref (f12 18)])), ((f12 18), .inl (cI, 6, .inl (fun _ => 0))), (q13, .inr (7, [.ref (f14 1), .ref (f14 3), .int 0, .int 0])), ((f14 1), .inr (6, [.ref (f14 2)])), ((f14 2), .inl (cI, 40, .inl (fun _ => 0))), ((f14 3), .inr (6, [.ref (f14 4)])), ((f14 4), .inl (cI, 40, .inl (fun _ => 0)))] H := hP
  have hD : va_D A [(h0, .inr (8, [.ref q1, .ref q3, .ref q5, .ref q7, .ref q9, .ref q11, .null])), (q1, .inr (5, [.ref (f2 1), .ref (f2 3), .int 0, .int 0])), ((f2 1), .inr (4, [.ref (f2 2), .int 0])), ((f2 2), .inl (cI, 120, .inl (fun _ => 0))), ((f2 3), .inr (2, [.ref (f2 4), .int 0, .int 0])), ((f2 4), .inr (6, [.ref (f2 5)])), ((f2 5), .inl (cI, 520, .inl (fun _ => 0))), (q3, .inr (4, [.ref (f4 1), .int 0])), ((f4 1), .inl (cI, 1000, .inl (fun _ => 0))), (q5, .inr (0, [.ref (f6 1)])), ((f6 1), .inr (6, [.ref (f6 2)])), ((f6 2), .inl (cI, 1605, .inl (fun _ => 0))), (q7, .inr (1, [.ref (f8 1), .int 0, .int 0, .int 0])), ((f8 1), .inr (6, [.ref (f8 2)])), ((f8 2), .inl (cI, 19260, .inl (fun _ => 0))), (q9, .inr (3, [.ref (f10 1), .ref (f10 3), .ref (f10 5), .ref (f10 7), .ref (f10 9), .ref (f10 11), .ref (f10 13), .ref (f10 15), .ref (f10 17), .int 0, .int 0])), ((f10 1), .inr (6, [.ref (f10 2)])), ((f10 2), .inl (cI, 40, .inl (fun _ => 0))), ((f10 3), .inr (6, [.ref (f10 4)])), ((f10 4), .inl (cI, 40, .inl (fun _ => 0))), ((f10 5), .inr (6, [.ref (f10 6)])), ((f10 6), .inl (cI, 40, .inl (fun _ => 0))), ((f10 7), .inr (6, [.ref (f10 8)])), ((f10 8), .inl (cI, 240, .inl (fun _ => 0))), ((f10 9), .inr (6, [.ref (f10 10)])), ((f10 10), .inl (cI, 40, .inl (fun _ => 0))), ((f10 11), .inr (6, [.ref (f10 12)])), ((f10 12), .inl (cI, 120, .inl (fun _ => 0))), ((f10 13), .inr (6, [.ref (f10 14)])), ((f10 14), .inl (cI, 120, .inl (fun _ => 0))), ((f10 15), .inr (6, [.ref (f10 16)])), ((f10 16), .inl (cI, 120, .inl (fun _ => 0))), ((f10 17), .inr (6, [.ref (f10 18)])), ((f10 18), .inl (cI, 6, .inl (fun _ => 0))), (q11, .inr (3, [.ref (f12 1), .ref (f12 3), .ref (f12 5), .ref (f12 7), .ref (f12 9), .ref (f12 11), .ref (f12 13), .ref (f12 15), .ref (f12 17), .int 0, .int 0])), ((f12 1), .inr (6, [.ref (f12 2)])), ((f12 2), .inl (cI, 40, .inl (fun _ => 0))), ((f12 3), .inr (6, [.ref (f12 4)])), ((f12 4), .inl (cI, 40, .inl (fun _ => 0))), ((f12 5), .inr (6, [.ref (f12 6)])), ((f12 6), .inl (cI, 40, .inl (fun _ => 0))), ((f12 7), .inr (6, [.ref (f12 8)])), ((f12 8), .inl (cI, 240, .inl (fun _ => 0))), ((f12 9), .inr (6, [.ref (f12 10)])), ((f12 10), .inl (cI, 40, .inl (fun _ => 0))), ((f12 11), .inr (6, [.ref (f12 12)])), ((f12 12), .inl (cI, 120, .inl (fun _ => 0))), ((f12 13), .inr (6, [.ref (f12 14)])), ((f12 14), .inl (cI, 120, .inl (fun _ => 0))), ((f12 15), .inr (6, [.ref (f12 16)])), ((f12 16), .inl (cI, 120, .inl (fun _ => 0))), ((f12 17), .inr (6, [.ref (f12 18)])), ((f12 18), .inl (cI, 6, .inl (fun _ => 0))), (q13, .inr (7, [.ref (f14 1), .ref (f14 3), .int 0, .int 0])), ((f14 1), .inr (6, [.ref (f14 2)])), ((f14 2), .inl (cI, 40, .inl (fun _ => 0))), ((f14 3), .inr (6, [.ref (f14 4)])), ((f14 4), .inl (cI, 40, .inl (fun _ => 0)))] := hD
  refine W.widen (k := 57) (n := 24182) (by omega) (by omega) ?_
  refine va_putF (D := D) (ci := 8) (v := .ref q13) (ty := tyX8 6) (C := RX8) (T := TX8) (N := 7) hx hb hts am_ws8 tyX8 tyX8_ok nmX8 hown hK hP hD hS 0 rfl rfl 6 (by decide) (hts (.fieldLink RX8 52 "StatuteBook" "walk" "LStatuteBook$Walk;") (am_mem (i := 223) (by decide +kernel) (by decide +kernel))) (fun _ h9 => h9) rfl hin rfl (by decide +kernel) rfl rfl (Nat.le_of_ble_eq_true rfl) dc_SB_init_81 (fun H locs hP hD hS => ?_)
  have hP : va_P D am_cl [(h0, .inr (8, [.ref q1, .ref q3, .ref q5, .ref q7, .ref q9, .ref q11, .ref q13])), (q1, .inr (5, [.ref (f2 1), .ref (f2 3), .int 0, .int 0])), ((f2 1), .inr (4, [.ref (f2 2), .int 0])), ((f2 2), .inl (cI, 120, .inl (fun _ => 0))), ((f2 3), .inr (2, [.ref (f2 4), .int 0, .int 0])), ((f2 4), .inr (6, [.ref (f2 5)])), ((f2 5), .inl (cI, 520, .inl (fun _ => 0))), (q3, .inr (4, [.ref (f4 1), .int 0])), ((f4 1), .inl (cI, 1000, .inl (fun _ => 0))), (q5, .inr (0, [.ref (f6 1)])), ((f6 1), .inr (6, [.ref (f6 2)])), ((f6 2), .inl (cI, 1605, .inl (fun _ => 0))), (q7, .inr (1, [.ref (f8 1), .int 0, .int 0, .int 0])), ((f8 1), .inr (6, [.ref (f8 2)])), ((f8 2), .inl (cI, 19260, .inl (fun _ => 0))), (q9, .inr (3, [.ref (f10 1), .ref (f10 3), .ref (f10 5), .ref (f10 7), .ref (f10 9), .ref (f10 11), .ref (f10 13), .ref (f10 15), .ref (f10 17), .int 0, .int 0])), ((f10 1), .inr (6, [.ref (f10 2)])), ((f10 2), .inl (cI, 40, .inl (fun _ => 0))), ((f10 3), .inr (6, [.ref (f10 4)])), ((f10 4), .inl (cI, 40, .inl (fun _ => 0))), ((f10 5), .inr (6, [.ref (f10 6)])), ((f10 6), .inl (cI, 40, .inl (fun _ => 0))), ((f10 7), .inr (6, [.ref (f10 8)])), ((f10 8), .inl (cI, 240, .inl (fun _ => 0))), ((f10 9), .inr (6, [.ref (f10 10)])), ((f10 10), .inl (cI, 40, .inl (fun _ => 0))), ((f10 11), .inr (6, [.ref (f10 12)])), ((f10 12), .inl (cI, 120, .inl (fun _ => 0))), ((f10 13), .inr (6, [.ref (f10 14)])), ((f10 14), .inl (cI, 120, .inl (fun _ => 0))), ((f10 15), .inr (6, [.ref (f10 16)])), ((f10 16), .inl (cI, 120, .inl (fun _ => 0))), ((f10 17), .inr (6, [.ref (f10 18)])), ((f10 18), .inl (cI, 6, .inl (fun _ => 0))), (q11, .inr (3, [.ref (f12 1), .ref (f12 3), .ref (f12 5), .ref (f12 7), .ref (f12 9), .ref (f12 11), .ref (f12 13), .ref (f12 15), .ref (f12 17), .int 0, .int 0])), ((f12 1), .inr (6, [.ref (f12 2)])), ((f12 2), .inl (cI, 40, .inl (fun _ => 0))), ((f12 3), .inr (6, [.ref (f12 4)])), ((f12 4), .inl (cI, 40, .inl (fun _ => 0))), ((f12 5), .inr (6, [.ref (f12 6)])), ((f12 6), .inl (cI, 40, .inl (fun _ => 0))), ((f12 7), .inr (6, [.ref (f12 8)])), ((f12 8), .inl (cI, 240, .inl (fun _ => 0))), ((f12 9), .inr (6, [.ref (f12 10)])), ((f12 10), .inl (cI, 40, .inl (fun _ => 0))), ((f12 11), .inr (6, [.ref (f12 12)])), ((f12 12), .inl (cI, 120, .inl (fun _ => 0))), ((f12 13), .inr (6, [.ref (f12 14)])), ((f12 14), .inl (cI, 120, .inl (fun _ => 0))), ((f12 15), .inr (6, [.ref (f12 16)])), ((f12 16), .inl (cI, 120, .inl (fun _ => 0))), ((f12 17), .inr (6, [.ref (f12 18)])), ((f12 18), .inl (cI, 6, .inl (fun _ => 0))), (q13, .inr (7, [.ref (f14 1), .ref (f14 3), .int 0, .int 0])), ((f14 1), .inr (6, [.ref (f14 2)])), ((f14 2), .inl (cI, 40, .inl (fun _ => 0))), ((f14 3), .inr (6, [.ref (f14 4)])), ((f14 4), .inl (cI, 40, .inl (fun _ => 0)))] H := hP
  have hD : va_D A [(h0, .inr (8, [.ref q1, .ref q3, .ref q5, .ref q7, .ref q9, .ref q11, .ref q13])), (q1, .inr (5, [.ref (f2 1), .ref (f2 3), .int 0, .int 0])), ((f2 1), .inr (4, [.ref (f2 2), .int 0])), ((f2 2), .inl (cI, 120, .inl (fun _ => 0))), ((f2 3), .inr (2, [.ref (f2 4), .int 0, .int 0])), ((f2 4), .inr (6, [.ref (f2 5)])), ((f2 5), .inl (cI, 520, .inl (fun _ => 0))), (q3, .inr (4, [.ref (f4 1), .int 0])), ((f4 1), .inl (cI, 1000, .inl (fun _ => 0))), (q5, .inr (0, [.ref (f6 1)])), ((f6 1), .inr (6, [.ref (f6 2)])), ((f6 2), .inl (cI, 1605, .inl (fun _ => 0))), (q7, .inr (1, [.ref (f8 1), .int 0, .int 0, .int 0])), ((f8 1), .inr (6, [.ref (f8 2)])), ((f8 2), .inl (cI, 19260, .inl (fun _ => 0))), (q9, .inr (3, [.ref (f10 1), .ref (f10 3), .ref (f10 5), .ref (f10 7), .ref (f10 9), .ref (f10 11), .ref (f10 13), .ref (f10 15), .ref (f10 17), .int 0, .int 0])), ((f10 1), .inr (6, [.ref (f10 2)])), ((f10 2), .inl (cI, 40, .inl (fun _ => 0))), ((f10 3), .inr (6, [.ref (f10 4)])), ((f10 4), .inl (cI, 40, .inl (fun _ => 0))), ((f10 5), .inr (6, [.ref (f10 6)])), ((f10 6), .inl (cI, 40, .inl (fun _ => 0))), ((f10 7), .inr (6, [.ref (f10 8)])), ((f10 8), .inl (cI, 240, .inl (fun _ => 0))), ((f10 9), .inr (6, [.ref (f10 10)])), ((f10 10), .inl (cI, 40, .inl (fun _ => 0))), ((f10 11), .inr (6, [.ref (f10 12)])), ((f10 12), .inl (cI, 120, .inl (fun _ => 0))), ((f10 13), .inr (6, [.ref (f10 14)])), ((f10 14), .inl (cI, 120, .inl (fun _ => 0))), ((f10 15), .inr (6, [.ref (f10 16)])), ((f10 16), .inl (cI, 120, .inl (fun _ => 0))), ((f10 17), .inr (6, [.ref (f10 18)])), ((f10 18), .inl (cI, 6, .inl (fun _ => 0))), (q11, .inr (3, [.ref (f12 1), .ref (f12 3), .ref (f12 5), .ref (f12 7), .ref (f12 9), .ref (f12 11), .ref (f12 13), .ref (f12 15), .ref (f12 17), .int 0, .int 0])), ((f12 1), .inr (6, [.ref (f12 2)])), ((f12 2), .inl (cI, 40, .inl (fun _ => 0))), ((f12 3), .inr (6, [.ref (f12 4)])), ((f12 4), .inl (cI, 40, .inl (fun _ => 0))), ((f12 5), .inr (6, [.ref (f12 6)])), ((f12 6), .inl (cI, 40, .inl (fun _ => 0))), ((f12 7), .inr (6, [.ref (f12 8)])), ((f12 8), .inl (cI, 240, .inl (fun _ => 0))), ((f12 9), .inr (6, [.ref (f12 10)])), ((f12 10), .inl (cI, 40, .inl (fun _ => 0))), ((f12 11), .inr (6, [.ref (f12 12)])), ((f12 12), .inl (cI, 120, .inl (fun _ => 0))), ((f12 13), .inr (6, [.ref (f12 14)])), ((f12 14), .inl (cI, 120, .inl (fun _ => 0))), ((f12 15), .inr (6, [.ref (f12 16)])), ((f12 16), .inl (cI, 120, .inl (fun _ => 0))), ((f12 17), .inr (6, [.ref (f12 18)])), ((f12 18), .inl (cI, 6, .inl (fun _ => 0))), (q13, .inr (7, [.ref (f14 1), .ref (f14 3), .int 0, .int 0])), ((f14 1), .inr (6, [.ref (f14 2)])), ((f14 2), .inl (cI, 40, .inl (fun _ => 0))), ((f14 3), .inr (6, [.ref (f14 4)])), ((f14 4), .inl (cI, 40, .inl (fun _ => 0)))] := hD
  have hP9 := hP.sub (ws' := [(h0, .inr (8, [.ref q1, .ref q3, .ref q5, .ref q7, .ref q9, .ref q11, .ref q13])), (q1, .inr (5, [.ref (f2 1), .ref (f2 3), .int 0, .int 0])), ((f2 1), .inr (4, [.ref (f2 2), .int 0])), ((f2 2), .inl (cI, 120, .inl (fun _ => 0))), ((f2 3), .inr (2, [.ref (f2 4), .int 0, .int 0])), ((f2 4), .inr (6, [.ref (f2 5)])), ((f2 5), .inl (cI, 520, .inl (fun _ => 0))), (q3, .inr (4, [.ref (f4 1), .int 0])), ((f4 1), .inl (cI, 1000, .inl (fun _ => 0))), (q5, .inr (0, [.ref (f6 1)])), ((f6 1), .inr (6, [.ref (f6 2)])), ((f6 2), .inl (cI, 1605, .inl (fun _ => 0))), (q7, .inr (1, [.ref (f8 1), .int 0, .int 0, .int 0])), ((f8 1), .inr (6, [.ref (f8 2)])), ((f8 2), .inl (cI, 19260, .inl (fun _ => 0))), (q9, .inr (3, [.ref (f10 1), .ref (f10 3), .ref (f10 5), .ref (f10 7), .ref (f10 9), .ref (f10 11), .ref (f10 13), .ref (f10 15), .ref (f10 17), .int 0, .int 0])), ((f10 1), .inr (6, [.ref (f10 2)])), ((f10 2), .inl (cI, 40, .inl (fun _ => 0))), ((f10 3), .inr (6, [.ref (f10 4)])), ((f10 4), .inl (cI, 40, .inl (fun _ => 0))), ((f10 5), .inr (6, [.ref (f10 6)])), ((f10 6), .inl (cI, 40, .inl (fun _ => 0))), ((f10 7), .inr (6, [.ref (f10 8)])), ((f10 8), .inl (cI, 240, .inl (fun _ => 0))), ((f10 9), .inr (6, [.ref (f10 10)])), ((f10 10), .inl (cI, 40, .inl (fun _ => 0))), ((f10 11), .inr (6, [.ref (f10 12)])), ((f10 12), .inl (cI, 120, .inl (fun _ => 0))), ((f10 13), .inr (6, [.ref (f10 14)])), ((f10 14), .inl (cI, 120, .inl (fun _ => 0))), ((f10 15), .inr (6, [.ref (f10 16)])), ((f10 16), .inl (cI, 120, .inl (fun _ => 0))), ((f10 17), .inr (6, [.ref (f10 18)])), ((f10 18), .inl (cI, 6, .inl (fun _ => 0))), (q11, .inr (3, [.ref (f12 1), .ref (f12 3), .ref (f12 5), .ref (f12 7), .ref (f12 9), .ref (f12 11), .ref (f12 13), .ref (f12 15), .ref (f12 17), .int 0, .int 0])), ((f12 1), .inr (6, [.ref (f12 2)])), ((f12 2), .inl (cI, 40, .inl (fun _ => 0))), ((f12 3), .inr (6, [.ref (f12 4)])), ((f12 4), .inl (cI, 40, .inl (fun _ => 0))), ((f12 5), .inr (6, [.ref (f12 6)])), ((f12 6), .inl (cI, 40, .inl (fun _ => 0))), ((f12 7), .inr (6, [.ref (f12 8)])), ((f12 8), .inl (cI, 240, .inl (fun _ => 0))), ((f12 9), .inr (6, [.ref (f12 10)])), ((f12 10), .inl (cI, 40, .inl (fun _ => 0))), ((f12 11), .inr (6, [.ref (f12 12)])), ((f12 12), .inl (cI, 120, .inl (fun _ => 0))), ((f12 13), .inr (6, [.ref (f12 14)])), ((f12 14), .inl (cI, 120, .inl (fun _ => 0))), ((f12 15), .inr (6, [.ref (f12 16)])), ((f12 16), .inl (cI, 120, .inl (fun _ => 0))), ((f12 17), .inr (6, [.ref (f12 18)])), ((f12 18), .inl (cI, 6, .inl (fun _ => 0))), (q13, .inr (7, [.ref (f14 1), .ref (f14 3), .int 0, .int 0])), ((f14 1), .inr (6, [.ref (f14 2)])), ((f14 2), .inl (cI, 40, .inl (fun _ => 0))), ((f14 3), .inr (6, [.ref (f14 4)])), ((f14 4), .inl (cI, 40, .inl (fun _ => 0)))]) [0, 1, 2, 3, 4, 5, 6, 7, 8, 9, 10, 11, 12, 13, 14, 15, 16, 17, 18, 19, 20, 21, 22, 23, 24, 25, 26, 27, 28, 29, 30, 31, 32, 33, 34, 35, 36, 37, 38, 39, 40, 41, 42, 43, 44, 45, 46, 47, 48, 49, 50, 51, 52, 53, 54, 55, 56, 57] rfl
  exact W.vret hx hb hr (fun t ht hW => ⟨⟨(fun k => match k with | 1 => q1 | 2 => (f2 1) | 3 => (f2 2) | 4 => (f2 3) | 5 => (f2 4) | 6 => (f2 5) | 7 => q3 | 8 => (f4 1) | 9 => q5 | 10 => (f6 1) | 11 => (f6 2) | 12 => q7 | 13 => (f8 1) | 14 => (f8 2) | 15 => q9 | 16 => (f10 1) | 17 => (f10 2) | 18 => (f10 3) | 19 => (f10 4) | 20 => (f10 5) | 21 => (f10 6) | 22 => (f10 7) | 23 => (f10 8) | 24 => (f10 9) | 25 => (f10 10) | 26 => (f10 11) | 27 => (f10 12) | 28 => (f10 13) | 29 => (f10 14) | 30 => (f10 15) | 31 => (f10 16) | 32 => (f10 17) | 33 => (f10 18) | 34 => q11 | 35 => (f12 1) | 36 => (f12 2) | 37 => (f12 3) | 38 => (f12 4) | 39 => (f12 5) | 40 => (f12 6) | 41 => (f12 7) | 42 => (f12 8) | 43 => (f12 9) | 44 => (f12 10) | 45 => (f12 11) | 46 => (f12 12) | 47 => (f12 13) | 48 => (f12 14) | 49 => (f12 15) | 50 => (f12 16) | 51 => (f12 17) | 52 => (f12 18) | 53 => q13 | 54 => (f14 1) | 55 => (f14 2) | 56 => (f14 3) | 57 => (f14 4) | _ => 0), rfl, trivial, by rw [ht]; exact hP9, va_K.moved hW.alike hK, hD⟩, hS.F ht⟩) hS.2.2 dc_SB_init_84
end
section
/-! THE CLAIM OUT OF ONE WALK OF THE LAW'S BODY. Your part is whole_start (and what it stands on); all else here is the same for every law, but numbers. -/
def lw_P (b : Addr) (xs : List Int32) (args : Array Value) (s : State) : Prop := args = #[.ref b] ∧ s.IntsAt b xs ∧ xs.length ≤ 260 ∧ (Jvm.Cond.and given_1 narrow_1).before args s = true
def lw_Q (_ : Array Value) (s : State) (o : Outcome) (t : State) : Prop := o = .returned (some (.int 1)) ∧ Framed s o t [] 600000 7302250
def lw_Z (below : List Frame) (a : Array Value) (s : State) : State → Prop := fun t => ∃ o, t.status = .running ∧ Ended t below o ∧ lw_Q a s o t
/-- the law's own end, with 1 on the stack, nothing written that was there before, its room as the claim has it -/
theorem lw_ret {p : Program} {l : Launch} {e : Env} {s : State} {m : MethodId} {below : List Frame} {meth : Method} {c : Code} {b : Nat} (hx : p.tables.exec = Jvm.exec) (hb : c.code = code) (hr : meth.sig.returnType = ret) (hlocks : meth.locks = false) {pc : Nat} {H : Heap} {ls : Array Slot} (hdg : decode code pc = .ok (.ireturn, 1)) : W p l e room_1 s m #[Value.ref b] below meth c H [] 600000 7302250 (lw_Z below #[Value.ref b] s) (F0 m pc ls [.int 1]) := by
  intro T hT X
  obtain ⟨fs, hret, hrun, hended, hW, hframe⟩ := X.leave (v := some (.int 1)) (hlocks := hlocks) (fun h => by rw [hr] at h; cases h)
  have hmeth' : T.vm.method? m = some meth := X.method'
  refine ⟨T.setFrames fs, ?_, .returned (some (.int 1)), hrun, hended, rfl, ⟨_, rfl⟩, hW, hframe⟩
  jvm_step X.here [X.here.top, hx, hb, hdg, hmeth', hr, ret, narrow_b1]
  (try refine ⟨rfl, ?_⟩); (try refine ⟨rfl, ?_⟩)
  first | (intro acts; rw [hret _ acts rfl rfl rfl]) | rw [hret _ _ rfl rfl rfl]
  exact Steps.refl _
/-- what holds at the law's entry: the machine, the code, the tables' words (any of lw_tbl by 'hts w (by decide +kernel)'), the script of L ints xs at the cell b, what the Statement gives of the start (any of its parts by flat_of_before) -/
def lw_At (p : Program) (s : State) (m : MethodId) (meth : Method) (c : Code) (b L : Nat) (xs : Nat → Int32) : Prop :=
  p.tables.exec = Jvm.exec ∧ c.code = code ∧ meth.sig.returnType = ret ∧ c.maxLocals = 14 ∧ s.vm.findClass R_law = some m.cls ∧ (∀ w ∈ lw_tbl, w.before #[Value.ref b] s = true) ∧ va_X b L xs s s.heap ∧ b < s.heap.size ∧ meth.locks = false ∧ (Jvm.Cond.and given_1 narrow_1).before #[Value.ref b] s = true

def am_tk : List Nat := [85, 91, 93, 95, 97, 67, 76, 81, 116]
def am_tx : List String := ["insert", "replace", "repeal", "renumber", "in", "to", "for", "put", "saving"]
def am_tm (i : Nat) : Term := .string "StatuteBook$Reader" (am_tk.getD i 0)
/-- the memory at the beginning: a script of L ints, all else is 0 -/
def am_M0 (L : Nat) (xs : Nat → Int32) : am_M := fun a k => if a = 5000 then xs k else if a = 5001 then Int32.ofNat L else 0
def am_ad (b q0 : Nat) (f g adK adV : Nat → Nat) : Nat → Nat := fun k => if k = 0 then q0 else if k < 58 then f k else if k < 65 then g (k - 58) else if k = 5000 then b else if k < 6100 then adK (k - 6000) else adV (k - 6100)
theorem am_lg00 : am_lg 0 0 = 0 := by decide +kernel
theorem am_lf0 (L : Nat) (xs : Nat → Int32) : am_lf (am_M0 L xs 58) = fun _ => 0 := by
  funext j
  unfold am_lf
  by_cases h : j < 16
  · rw [if_pos h]; exact am_lg00
  · rw [if_neg h]
def aw_ar (cI cJ : ClassId) (g : Nat → Nat) : va_W := [(g 0, .inl (cJ, 16, .inr (.inl (fun _ => 0)))), (g 1, .inl (cI, 16, .inl (fun _ => 0))), (g 2, .inl (cI, 32, .inl (fun _ => 0))), (g 3, .inl (cI, 64, .inl (fun _ => 0))), (g 4, .inl (cI, 16, .inl (fun _ => 0))), (g 5, .inl (cI, 16, .inl (fun _ => 0))), (g 6, .inl (cI, 16, .inl (fun _ => 0)))]
set_option maxRecDepth 100000 in
theorem am_wd0 (cI cJ : ClassId) (b q0 : Nat) (f g adK adV : Nat → Nat) (L : Nat) (xs : Nat → Int32) : am_wd (cI, cJ) (am_ad b q0 f g adK adV) (am_M0 L xs) = aw_SB cI q0 f ++ aw_ar cI cJ g := by
  apply List.ext_getElem?
  intro k
  rw [am_wd_get]
  match k with
  | 0 => rfl
  | 1 => rfl
  | 2 => rfl
  | 3 => rfl
  | 4 => rfl
  | 5 => rfl
  | 6 => rfl
  | 7 => rfl
  | 8 => rfl
  | 9 => rfl
  | 10 => rfl
  | 11 => rfl
  | 12 => rfl
  | 13 => rfl
  | 14 => rfl
  | 15 => rfl
  | 16 => rfl
  | 17 => rfl
  | 18 => rfl
  | 19 => rfl
  | 20 => rfl
  | 21 => rfl
  | 22 => rfl
  | 23 => rfl
  | 24 => rfl
  | 25 => rfl
  | 26 => rfl
  | 27 => rfl
  | 28 => rfl
  | 29 => rfl
  | 30 => rfl
  | 31 => rfl
  | 32 => rfl
  | 33 => rfl
  | 34 => rfl
  | 35 => rfl
  | 36 => rfl
  | 37 => rfl
  | 38 => rfl
  | 39 => rfl
  | 40 => rfl
  | 41 => rfl
  | 42 => rfl
  | 43 => rfl
  | 44 => rfl
  | 45 => rfl
  | 46 => rfl
  | 47 => rfl
  | 48 => rfl
  | 49 => rfl
  | 50 => rfl
  | 51 => rfl
  | 52 => rfl
  | 53 => rfl
  | 54 => rfl
  | 55 => rfl
  | 56 => rfl
  | 57 => rfl
  | 58 => show some (g 0, am_ce (cI, cJ) (am_ad b q0 f g adK adV) (am_M0 L xs) 58 (.inl 16)) = _; rw [am_ce_long, am_lf0]; rfl
  | 59 => rfl
  | 60 => rfl
  | 61 => rfl
  | 62 => rfl
  | 63 => rfl
  | 64 => rfl
  | k + 65 => rfl
theorem am_Zat {args : Array Value} {s : State} {b L : Nat} {xs : Nat → Int32} (hts : ∀ w ∈ lw_tbl, w.before args s = true) (hgv : (Jvm.Cond.and given_1 narrow_1).before args s = true) (hX : va_X b L xs s s.heap) (hb : b < s.heap.size) (hL : L < 2 ^ 31) :
    ∃ (adK adV : Nat → Nat) (z : Value), ∀ (q0 : Nat) (f g : Nat → Nat), am_Z (am_ad b q0 f g adK adV) z L xs (fun q => s.heap.size ≤ q) s s.heap := by
  have hs := flat_of_before _ hgv
  have hA : ∀ a : Nat, a < s.heap.size → ¬ (fun q : Nat => s.heap.size ≤ q) a := fun a h => Nat.not_le.mpr h
  have hw : ∀ (i : Nat) (w : Cond), lw_tbl[i]? = some w → w.before args s = true := fun i w h => hts w (List.mem_of_getElem? h)
  have hex : ∀ i : Nat, i < 9 → (Cond.exactly (am_tm i) "java/lang/String").before args s = true := fun i hi => match i, hi with
    | 0, _ => hs _ (by decide +kernel)
    | 1, _ => hs _ (by decide +kernel)
    | 2, _ => hs _ (by decide +kernel)
    | 3, _ => hs _ (by decide +kernel)
    | 4, _ => hs _ (by decide +kernel)
    | 5, _ => hs _ (by decide +kernel)
    | 6, _ => hs _ (by decide +kernel)
    | 7, _ => hs _ (by decide +kernel)
    | 8, _ => hs _ (by decide +kernel)
    | i + 9, hi => absurd hi (by omega)
  have hco : ∀ i : Nat, i < 9 → (Cond.eq (.field (am_tm i) "java/lang/String" "coder" "B") (.int 0)).before args s = true := fun i hi => match i, hi with
    | 0, _ => hs _ (by decide +kernel)
    | 1, _ => hs _ (by decide +kernel)
    | 2, _ => hs _ (by decide +kernel)
    | 3, _ => hs _ (by decide +kernel)
    | 4, _ => hs _ (by decide +kernel)
    | 5, _ => hs _ (by decide +kernel)
    | 6, _ => hs _ (by decide +kernel)
    | 7, _ => hs _ (by decide +kernel)
    | 8, _ => hs _ (by decide +kernel)
    | i + 9, hi => absurd hi (by omega)
  have har : ∀ i : Nat, i < 9 → (Cond.arrayOf (.field (am_tm i) "java/lang/String" "value" "[B") .byte).before args s = true := fun i hi => match i, hi with
    | 0, _ => hs _ (by decide +kernel)
    | 1, _ => hs _ (by decide +kernel)
    | 2, _ => hs _ (by decide +kernel)
    | 3, _ => hs _ (by decide +kernel)
    | 4, _ => hs _ (by decide +kernel)
    | 5, _ => hs _ (by decide +kernel)
    | 6, _ => hs _ (by decide +kernel)
    | 7, _ => hs _ (by decide +kernel)
    | 8, _ => hs _ (by decide +kernel)
    | i + 9, hi => absurd hi (by omega)
  have hle : ∀ i : Nat, i < 9 → (Cond.eq (.length (.field (am_tm i) "java/lang/String" "value" "[B")) (.int (Int32.ofNat (am_sl.getD i 0)))).before args s = true := fun i hi => match i, hi with
    | 0, _ => hs _ (by decide +kernel)
    | 1, _ => hs _ (by decide +kernel)
    | 2, _ => hs _ (by decide +kernel)
    | 3, _ => hs _ (by decide +kernel)
    | 4, _ => hs _ (by decide +kernel)
    | 5, _ => hs _ (by decide +kernel)
    | 6, _ => hs _ (by decide +kernel)
    | 7, _ => hs _ (by decide +kernel)
    | 8, _ => hs _ (by decide +kernel)
    | i + 9, hi => absurd hi (by omega)
  have hel : ∀ i : Nat, i < 9 → ∀ j : Nat, j < am_sl.getD i 0 → (Cond.eq (.elem (.field (am_tm i) "java/lang/String" "value" "[B") (.int (Int32.ofNat j))) (.int ((am_sb.getD i []).getD j 0))).before args s = true := fun i hi => match i, hi with
    | 0, _ => fun j hj => match j, hj with
      | 0, _ => hs _ (by decide +kernel)
      | 1, _ => hs _ (by decide +kernel)
      | 2, _ => hs _ (by decide +kernel)
      | 3, _ => hs _ (by decide +kernel)
      | 4, _ => hs _ (by decide +kernel)
      | 5, _ => hs _ (by decide +kernel)
      | j + 6, hj => absurd hj (by show ¬ j + 6 < 6; omega)
    | 1, _ => fun j hj => match j, hj with
      | 0, _ => hs _ (by decide +kernel)
      | 1, _ => hs _ (by decide +kernel)
      | 2, _ => hs _ (by decide +kernel)
      | 3, _ => hs _ (by decide +kernel)
      | 4, _ => hs _ (by decide +kernel)
      | 5, _ => hs _ (by decide +kernel)
      | 6, _ => hs _ (by decide +kernel)
      | j + 7, hj => absurd hj (by show ¬ j + 7 < 7; omega)
    | 2, _ => fun j hj => match j, hj with
      | 0, _ => hs _ (by decide +kernel)
      | 1, _ => hs _ (by decide +kernel)
      | 2, _ => hs _ (by decide +kernel)
      | 3, _ => hs _ (by decide +kernel)
      | 4, _ => hs _ (by decide +kernel)
      | 5, _ => hs _ (by decide +kernel)
      | j + 6, hj => absurd hj (by show ¬ j + 6 < 6; omega)
    | 3, _ => fun j hj => match j, hj with
      | 0, _ => hs _ (by decide +kernel)
      | 1, _ => hs _ (by decide +kernel)
      | 2, _ => hs _ (by decide +kernel)
      | 3, _ => hs _ (by decide +kernel)
      | 4, _ => hs _ (by decide +kernel)
      | 5, _ => hs _ (by decide +kernel)
      | 6, _ => hs _ (by decide +kernel)
      | 7, _ => hs _ (by decide +kernel)
      | j + 8, hj => absurd hj (by show ¬ j + 8 < 8; omega)
    | 4, _ => fun j hj => match j, hj with
      | 0, _ => hs _ (by decide +kernel)
      | 1, _ => hs _ (by decide +kernel)
      | j + 2, hj => absurd hj (by show ¬ j + 2 < 2; omega)
    | 5, _ => fun j hj => match j, hj with
      | 0, _ => hs _ (by decide +kernel)
      | 1, _ => hs _ (by decide +kernel)
      | j + 2, hj => absurd hj (by show ¬ j + 2 < 2; omega)
    | 6, _ => fun j hj => match j, hj with
      | 0, _ => hs _ (by decide +kernel)
      | 1, _ => hs _ (by decide +kernel)
      | 2, _ => hs _ (by decide +kernel)
      | j + 3, hj => absurd hj (by show ¬ j + 3 < 3; omega)
    | 7, _ => fun j hj => match j, hj with
      | 0, _ => hs _ (by decide +kernel)
      | 1, _ => hs _ (by decide +kernel)
      | 2, _ => hs _ (by decide +kernel)
      | j + 3, hj => absurd hj (by show ¬ j + 3 < 3; omega)
    | 8, _ => fun j hj => match j, hj with
      | 0, _ => hs _ (by decide +kernel)
      | 1, _ => hs _ (by decide +kernel)
      | 2, _ => hs _ (by decide +kernel)
      | 3, _ => hs _ (by decide +kernel)
      | 4, _ => hs _ (by decide +kernel)
      | 5, _ => hs _ (by decide +kernel)
      | j + 6, hj => absurd hj (by show ¬ j + 6 < 6; omega)
    | i + 9, hi => absurd hi (by omega)
  have hne : ∀ i j : Nat, i < 9 → j < 9 → i ≠ j → (Cond.not (Cond.eq (am_tm i) (am_tm j))).before args s = true ∨ (Cond.not (Cond.eq (am_tm j) (am_tm i))).before args s = true := fun i j hi hj hij => match i, j, hi, hj, hij with
    | 0, 0, _, _, hij => absurd rfl hij
    | 0, 1, _, _, _ => Or.inl (hs _ (by decide +kernel))
    | 0, 2, _, _, _ => Or.inl (hs _ (by decide +kernel))
    | 0, 3, _, _, _ => Or.inl (hs _ (by decide +kernel))
    | 0, 4, _, _, _ => Or.inl (hs _ (by decide +kernel))
    | 0, 5, _, _, _ => Or.inl (hs _ (by decide +kernel))
    | 0, 6, _, _, _ => Or.inl (hs _ (by decide +kernel))
    | 0, 7, _, _, _ => Or.inl (hs _ (by decide +kernel))
    | 0, 8, _, _, _ => Or.inl (hs _ (by decide +kernel))
    | 1, 0, _, _, _ => Or.inr (hs _ (by decide +kernel))
    | 1, 1, _, _, hij => absurd rfl hij
    | 1, 2, _, _, _ => Or.inl (hs _ (by decide +kernel))
    | 1, 3, _, _, _ => Or.inl (hs _ (by decide +kernel))
    | 1, 4, _, _, _ => Or.inl (hs _ (by decide +kernel))
    | 1, 5, _, _, _ => Or.inl (hs _ (by decide +kernel))
    | 1, 6, _, _, _ => Or.inl (hs _ (by decide +kernel))
    | 1, 7, _, _, _ => Or.inl (hs _ (by decide +kernel))
    | 1, 8, _, _, _ => Or.inl (hs _ (by decide +kernel))
    | 2, 0, _, _, _ => Or.inr (hs _ (by decide +kernel))
    | 2, 1, _, _, _ => Or.inr (hs _ (by decide +kernel))
    | 2, 2, _, _, hij => absurd rfl hij
    | 2, 3, _, _, _ => Or.inl (hs _ (by decide +kernel))
    | 2, 4, _, _, _ => Or.inl (hs _ (by decide +kernel))
    | 2, 5, _, _, _ => Or.inl (hs _ (by decide +kernel))
    | 2, 6, _, _, _ => Or.inl (hs _ (by decide +kernel))
    | 2, 7, _, _, _ => Or.inl (hs _ (by decide +kernel))
    | 2, 8, _, _, _ => Or.inl (hs _ (by decide +kernel))
    | 3, 0, _, _, _ => Or.inr (hs _ (by decide +kernel))
    | 3, 1, _, _, _ => Or.inr (hs _ (by decide +kernel))
    | 3, 2, _, _, _ => Or.inr (hs _ (by decide +kernel))
    | 3, 3, _, _, hij => absurd rfl hij
    | 3, 4, _, _, _ => Or.inl (hs _ (by decide +kernel))
    | 3, 5, _, _, _ => Or.inl (hs _ (by decide +kernel))
    | 3, 6, _, _, _ => Or.inl (hs _ (by decide +kernel))
    | 3, 7, _, _, _ => Or.inl (hs _ (by decide +kernel))
    | 3, 8, _, _, _ => Or.inl (hs _ (by decide +kernel))
    | 4, 0, _, _, _ => Or.inr (hs _ (by decide +kernel))
    | 4, 1, _, _, _ => Or.inr (hs _ (by decide +kernel))
    | 4, 2, _, _, _ => Or.inr (hs _ (by decide +kernel))
    | 4, 3, _, _, _ => Or.inr (hs _ (by decide +kernel))
    | 4, 4, _, _, hij => absurd rfl hij
    | 4, 5, _, _, _ => Or.inl (hs _ (by decide +kernel))
    | 4, 6, _, _, _ => Or.inl (hs _ (by decide +kernel))
    | 4, 7, _, _, _ => Or.inl (hs _ (by decide +kernel))
    | 4, 8, _, _, _ => Or.inl (hs _ (by decide +kernel))
    | 5, 0, _, _, _ => Or.inr (hs _ (by decide +kernel))
    | 5, 1, _, _, _ => Or.inr (hs _ (by decide +kernel))
    | 5, 2, _, _, _ => Or.inr (hs _ (by decide +kernel))
    | 5, 3, _, _, _ => Or.inr (hs _ (by decide +kernel))
    | 5, 4, _, _, _ => Or.inr (hs _ (by decide +kernel))
    | 5, 5, _, _, hij => absurd rfl hij
    | 5, 6, _, _, _ => Or.inl (hs _ (by decide +kernel))
    | 5, 7, _, _, _ => Or.inl (hs _ (by decide +kernel))
    | 5, 8, _, _, _ => Or.inl (hs _ (by decide +kernel))
    | 6, 0, _, _, _ => Or.inr (hs _ (by decide +kernel))
    | 6, 1, _, _, _ => Or.inr (hs _ (by decide +kernel))
    | 6, 2, _, _, _ => Or.inr (hs _ (by decide +kernel))
    | 6, 3, _, _, _ => Or.inr (hs _ (by decide +kernel))
    | 6, 4, _, _, _ => Or.inr (hs _ (by decide +kernel))
    | 6, 5, _, _, _ => Or.inr (hs _ (by decide +kernel))
    | 6, 6, _, _, hij => absurd rfl hij
    | 6, 7, _, _, _ => Or.inl (hs _ (by decide +kernel))
    | 6, 8, _, _, _ => Or.inl (hs _ (by decide +kernel))
    | 7, 0, _, _, _ => Or.inr (hs _ (by decide +kernel))
    | 7, 1, _, _, _ => Or.inr (hs _ (by decide +kernel))
    | 7, 2, _, _, _ => Or.inr (hs _ (by decide +kernel))
    | 7, 3, _, _, _ => Or.inr (hs _ (by decide +kernel))
    | 7, 4, _, _, _ => Or.inr (hs _ (by decide +kernel))
    | 7, 5, _, _, _ => Or.inr (hs _ (by decide +kernel))
    | 7, 6, _, _, _ => Or.inr (hs _ (by decide +kernel))
    | 7, 7, _, _, hij => absurd rfl hij
    | 7, 8, _, _, _ => Or.inl (hs _ (by decide +kernel))
    | 8, 0, _, _, _ => Or.inr (hs _ (by decide +kernel))
    | 8, 1, _, _, _ => Or.inr (hs _ (by decide +kernel))
    | 8, 2, _, _, _ => Or.inr (hs _ (by decide +kernel))
    | 8, 3, _, _, _ => Or.inr (hs _ (by decide +kernel))
    | 8, 4, _, _, _ => Or.inr (hs _ (by decide +kernel))
    | 8, 5, _, _, _ => Or.inr (hs _ (by decide +kernel))
    | 8, 6, _, _, _ => Or.inr (hs _ (by decide +kernel))
    | 8, 7, _, _, _ => Or.inr (hs _ (by decide +kernel))
    | 8, 8, _, _, hij => absurd rfl hij
    | i + 9, _, hi, _, _ => absurd hi (by omega)
    | 0, j + 9, _, hj, _ => absurd hj (by omega)
    | 1, j + 9, _, hj, _ => absurd hj (by omega)
    | 2, j + 9, _, hj, _ => absurd hj (by omega)
    | 3, j + 9, _, hj, _ => absurd hj (by omega)
    | 4, j + 9, _, hj, _ => absurd hj (by omega)
    | 5, j + 9, _, hj, _ => absurd hj (by omega)
    | 6, j + 9, _, hj, _ => absurd hj (by omega)
    | 7, j + 9, _, hj, _ => absurd hj (by omega)
    | 8, j + 9, _, hj, _ => absurd hj (by omega)
  obtain ⟨adK, adV, hS1, hS2⟩ := vk_Sof (args := args) (s := s) (N := 9) (tm := am_tm) (len := am_sl) (byt := am_sb) (A := fun q => s.heap.size ≤ q) (fun i hi => match i, hi with
    | 0, _ => by decide +kernel
    | 1, _ => by decide +kernel
    | 2, _ => by decide +kernel
    | 3, _ => by decide +kernel
    | 4, _ => by decide +kernel
    | 5, _ => by decide +kernel
    | 6, _ => by decide +kernel
    | 7, _ => by decide +kernel
    | 8, _ => by decide +kernel
    | i + 9, hi => absurd hi (by omega)) hex hco har hle hel hne hA
  have hZ1 : va_Z "java/lang/String" "COMPACT_STRINGS" "Z" (.int 1) (fun q => s.heap.size ≤ q) s s.heap := va_Zof (hw 588 _ (by decide +kernel)) (hw 41 _ (by decide +kernel)) (va_eqi (hs _ (by decide +kernel))) hA
  have hZq : va_Zq "jdk/internal/util/Preconditions" "SIOOBE_FORMATTER" "Ljava/util/function/BiFunction;" (fun q => s.heap.size ≤ q) s s.heap := va_Zqof (hw 604 _ (by decide +kernel)) (hw 43 _ (by decide +kernel)) (hs _ (by decide +kernel)) hA
  obtain ⟨z, hz1, hz2⟩ : ∃ z : Value, va_Z "jdk/internal/util/Preconditions" "SIOOBE_FORMATTER" "Ljava/util/function/BiFunction;" z (fun q => s.heap.size ≤ q) s s.heap ∧ am_zok z := by
    rcases hZq with h | ⟨t, h⟩
    · exact ⟨_, h, Or.inl rfl⟩
    · exact ⟨_, h, Or.inr ⟨t, rfl⟩⟩
  refine ⟨adK, adV, z, fun q0 f g => ?_⟩
  have e1 : ∀ i, i < 9 → am_ad b q0 f g adK adV (6000 + i) = adK i := fun i hi => by
    unfold am_ad
    rw [if_neg (by omega), if_neg (by omega), if_neg (by omega), if_neg (by omega), if_pos (by omega), show 6000 + i - 6000 = i by omega]
  have e2 : ∀ i, i < 9 → am_ad b q0 f g adK adV (6100 + i) = adV i := fun i hi => by
    unfold am_ad
    rw [if_neg (by omega), if_neg (by omega), if_neg (by omega), if_neg (by omega), if_neg (by omega), show 6100 + i - 6100 = i by omega]
  have e3 : am_ad b q0 f g adK adV 5000 = b := rfl
  refine ⟨fun i hi => ?_, hZ1, hz1, hz2, fun k j hk => ?_, hX, hb, Nat.not_le.mpr hb, hL, fun p a i b n d h hp => va_Nw.of rfl (hw p _ hp)⟩
  · rw [e1 i hi, e2 i hi]
    exact hS1.1 i hi
  · have hj := am_as_ks hk
    rw [e1 j hj]
    have hm := am_as_mem hk
    have hh : ∀ q ∈ am_ks5, am_tk.getD q.2 0 = q.1 ∧ ∃ i : Nat, lw_tbl[i]? = some (Cond.stringRef "StatuteBook$Reader" q.1 (am_tx.getD q.2 "")) := by
      intro q hq
      simp only [am_ks5, List.mem_cons, List.not_mem_nil, or_false] at hq
      rcases hq with rfl | rfl | rfl | rfl | rfl | rfl | rfl | rfl | rfl
      · exact ⟨by decide +kernel, 668, by decide +kernel⟩
      · exact ⟨by decide +kernel, 674, by decide +kernel⟩
      · exact ⟨by decide +kernel, 679, by decide +kernel⟩
      · exact ⟨by decide +kernel, 574, by decide +kernel⟩
      · exact ⟨by decide +kernel, 630, by decide +kernel⟩
      · exact ⟨by decide +kernel, 631, by decide +kernel⟩
      · exact ⟨by decide +kernel, 632, by decide +kernel⟩
      · exact ⟨by decide +kernel, 633, by decide +kernel⟩
      · exact ⟨by decide +kernel, 684, by decide +kernel⟩
    obtain ⟨g1, i, g2⟩ := hh _ hm
    dsimp only at g1 g2
    refine ⟨am_tx.getD j "", vk_R.of (hw i _ g2) ?_⟩
    have := hS2 j hj
    unfold am_tm at this
    rw [g1] at this
    exact this
theorem dlw_0 : decode code 0 = .ok (.new 12, 3) := by decide +kernel
theorem dlw_3 : decode code 3 = .ok (.dup, 1) := by decide +kernel
theorem dlw_4 : decode code 4 = .ok (.invokespecial 130, 3) := by decide +kernel
theorem dlw_7 : decode code 7 = .ok (.astore_n 1, 1) := by decide +kernel
theorem dlw_8 : decode code 8 = .ok (.bipush 16, 2) := by decide +kernel
theorem dlw_10 : decode code 10 = .ok (.newarray .long, 2) := by decide +kernel
theorem dlw_12 : decode code 12 = .ok (.astore_n 2, 1) := by decide +kernel
theorem dlw_13 : decode code 13 = .ok (.bipush 16, 2) := by decide +kernel
theorem dlw_15 : decode code 15 = .ok (.newarray .int, 2) := by decide +kernel
theorem dlw_17 : decode code 17 = .ok (.astore_n 3, 1) := by decide +kernel
theorem dlw_18 : decode code 18 = .ok (.bipush 32, 2) := by decide +kernel
theorem dlw_20 : decode code 20 = .ok (.newarray .int, 2) := by decide +kernel
theorem dlw_22 : decode code 22 = .ok (.astore 4, 2) := by decide +kernel
theorem dlw_24 : decode code 24 = .ok (.bipush 64, 2) := by decide +kernel
theorem dlw_26 : decode code 26 = .ok (.newarray .int, 2) := by decide +kernel
theorem dlw_28 : decode code 28 = .ok (.astore 5, 2) := by decide +kernel
theorem dlw_30 : decode code 30 = .ok (.bipush 16, 2) := by decide +kernel
theorem dlw_32 : decode code 32 = .ok (.newarray .int, 2) := by decide +kernel
theorem dlw_34 : decode code 34 = .ok (.astore 6, 2) := by decide +kernel
theorem dlw_36 : decode code 36 = .ok (.bipush 16, 2) := by decide +kernel
theorem dlw_38 : decode code 38 = .ok (.newarray .int, 2) := by decide +kernel
theorem dlw_40 : decode code 40 = .ok (.astore 7, 2) := by decide +kernel
theorem dlw_42 : decode code 42 = .ok (.bipush 16, 2) := by decide +kernel
theorem dlw_44 : decode code 44 = .ok (.newarray .int, 2) := by decide +kernel
theorem dlw_46 : decode code 46 = .ok (.astore 8, 2) := by decide +kernel
set_option maxHeartbeats 8000000 in
set_option maxRecDepth 100000 in
/-- THE LAW, from its entry, over what the abstract machine does from its loop on -/
theorem whole_start_open (hpure : ∀ (L : Nat) (xs : Nat → Int32), L ≤ 260 → am_x t_LAW_law (48, [.ref 5000, .ref 0, .ref 58, .ref 59, .ref 60, .ref 61, .ref 62, .ref 63, .ref 64, .null, .null, .null, .null, .null], [], am_M0 L xs) (fun rv _ => rv = some (.int 1)))
    {p : Program} {e : Env} {s : State} {m : MethodId} {below : List Frame} {meth : Method} {c : Code} (l : Launch) {b L : Nat} {xs : Nat → Int32} (hL : L ≤ 260) (C0 : lw_At p s m meth c b L xs) : W p l e room_1 s m #[Value.ref b] below meth c s.heap [] 0 0 (lw_Z below #[Value.ref b] s) (entryFrame m ([Value.ref b] : List Value).toArray 14) := by
  obtain ⟨hx, hb, hr, hml, hown, hts0, hX, hbl, hlocks, hgv⟩ := id C0
  have hts := am_tbl_before hts0
  have hA : ∀ q : Nat, s.heap.size ≤ q → (fun q : Nat => s.heap.size ≤ q) q := fun _ h => h
  obtain ⟨adK, adV, z, hZ⟩ := am_Zat hts0 hgv hX hbl (by omega)
  have hNw : am_nsm s := fun p a i x h q => va_Nw.of rfl (hts0 _ (List.mem_of_getElem? q))
  obtain ⟨cI, hI1, hI2⟩ := am_arrI (hts _ am_warr)
  obtain ⟨c0, iS0, hKn0⟩ := u_known (C := RX0) (T := TX0) (N := 1) (n := 1) hts am_ws0 (hts (.instantiable RX0 1) (am_mem (i := 123) (by decide +kernel) (by decide +kernel)))
  obtain ⟨c1, iS1, hKn1⟩ := u_known (C := RX1) (T := TX1) (N := 4) (n := 4) hts am_ws1 (hts (.instantiable RX1 4) (am_mem (i := 136) (by decide +kernel) (by decide +kernel)))
  obtain ⟨c2, iS2, hKn2⟩ := u_known (C := RX2) (T := TX2) (N := 3) (n := 3) hts am_ws2 (hts (.instantiable RX2 3) (am_mem (i := 78) (by decide +kernel) (by decide +kernel)))
  obtain ⟨c3, iS3, hKn3⟩ := u_known (C := RX3) (T := TX3) (N := 11) (n := 11) hts am_ws3 (hts (.instantiable RX3 11) (am_mem (i := 157) (by decide +kernel) (by decide +kernel)))
  obtain ⟨c4, iS4, hKn4⟩ := u_known (C := RX4) (T := TX4) (N := 2) (n := 2) hts am_ws4 (hts (.instantiable RX4 2) (am_mem (i := 61) (by decide +kernel) (by decide +kernel)))
  obtain ⟨c5, iS5, hKn5⟩ := u_known (C := RX5) (T := TX5) (N := 4) (n := 4) hts am_ws5 (hts (.instantiable RX5 4) (am_mem (i := 55) (by decide +kernel) (by decide +kernel)))
  obtain ⟨c6, iS6, hKn6⟩ := u_known (C := RX6) (T := TX6) (N := 1) (n := 1) hts am_ws6 (hts (.instantiable RX6 1) (am_mem (i := 84) (by decide +kernel) (by decide +kernel)))
  obtain ⟨c7, iS7, hKn7⟩ := u_known (C := RX7) (T := TX7) (N := 4) (n := 4) hts am_ws7 (hts (.instantiable RX7 4) (am_mem (i := 199) (by decide +kernel) (by decide +kernel)))
  obtain ⟨c8, iS8, hKn8⟩ := u_known (C := RX8) (T := TX8) (N := 7) (n := 7) hts am_ws8 (hts (.instantiable RX8 7) (am_mem (i := 47) (by decide +kernel) (by decide +kernel)))
  obtain ⟨D, hKc⟩ : ∃ D : va_G, ∀ (k : Nat) (q : vw_C), am_cl[k]? = some q → u_Kn s q.1 q.2.1 q.2.2 (D.1 k) (D.2 k) := by
    refine ⟨(fun k => match k with | 0 => c0 | 1 => c1 | 2 => c2 | 3 => c3 | 4 => c4 | 5 => c5 | 6 => c6 | 7 => c7 | _ => c8, fun k => match k with | 0 => iS0 | 1 => iS1 | 2 => iS2 | 3 => iS3 | 4 => iS4 | 5 => iS5 | 6 => iS6 | 7 => iS7 | _ => iS8), ?_⟩
    intro k q hq
    match k, hq with
    | 0, hq => cases hq; exact hKn0
    | 1, hq => cases hq; exact hKn1
    | 2, hq => cases hq; exact hKn2
    | 3, hq => cases hq; exact hKn3
    | 4, hq => cases hq; exact hKn4
    | 5, hq => cases hq; exact hKn5
    | 6, hq => cases hq; exact hKn6
    | 7, hq => cases hq; exact hKn7
    | 8, hq => cases hq; exact hKn8
    | k + 9, hq => simp [am_cl] at hq
  have hS : va_S (fun q : Nat => s.heap.size ≤ q) s.heap s.heap [] := va_S.rf
  have hK : va_K D am_cl [(cI, .int)] s := ⟨hKc, fun k q h => by
    match k, h with
    | 0, h => cases h; exact ⟨hI1, hI2⟩
    | k + 1, h => simp at h⟩
  have hP : va_P D am_cl [] s.heap := fun k q h => by simp at h
  have hD : va_D (fun q : Nat => s.heap.size ≤ q) [] := ⟨fun i j p q h => by simp at h, fun k q h => by simp at h⟩
  have hl := lv_entry ([.ref b]) (n := 14) (Nat.le_of_ble_eq_true rfl)
  rw [lg_entry_eq]
  generalize (lg_sl ([.ref b]) ++ List.replicate (14 - (lg_sl ([.ref b])).length) Slot.unset).toArray = ls at hl ⊢
  have hl : lv_has ls 14 [(0, .ref b)] := hl
  refine va_new (ci := 8) (fs := [.null, .null, .null, .null, .null, .null, .null]) (C := RX8) (T := TX8) (N := 7) hx hb hts am_ws8 tyX8 tyX8_ok hown (hts (.classLink R_law 12 RX8) (am_mem (i := 46) (by decide +kernel) (by decide +kernel))) (hts (.instantiable RX8 7) (am_mem (i := 47) (by decide +kernel) (by decide +kernel))) (hts (.initialized RX8) (am_mem (i := 29) (by decide +kernel) (by decide +kernel))) hK hP hD hS hA rfl (fun j hj => by match j, hj with | 0, _ => rfl | 1, _ => rfl | 2, _ => rfl | 3, _ => rfl | 4, _ => rfl | 5, _ => rfl | 6, _ => rfl | j + 7, hj => exact absurd hj (by omega)) (Nat.le_of_ble_eq_true rfl) (Nat.le_of_ble_eq_true rfl) dlw_0 (fun q0 H hP hD hS => ?_)
  have hP : va_P D am_cl ([(q0, .inr (8, [.null, .null, .null, .null, .null, .null, .null]))]) H := hP
  have hD : va_D (fun q : Nat => s.heap.size ≤ q) ([(q0, .inr (8, [.null, .null, .null, .null, .null, .null, .null]))]) := hD
  refine W.widen (k := 1) (n := 7) (by omega) (by omega) ?_
  refine lv_dup hx hb dlw_3 rfl ?_
  have hPc := hP.sub (ws' := [(q0, .inr (8, [.null, .null, .null, .null, .null, .null, .null]))]) [0] rfl
  have hDc := hD.sub (ws' := [(q0, .inr (8, [.null, .null, .null, .null, .null, .null, .null]))]) [0] (by decide) rfl
  have hKc := hK.sub (tys' := [(cI, .int)]) [0] rfl
  have hFc := va_free (wc := [(q0, .inr (8, [.null, .null, .null, .null, .null, .null, .null]))]) hD hS hA [0] rfl
  refine va_callv (va_runI (As := []) (rest := [.ref q0]) ⟨hx, hb, hml, hown, hts⟩ (c_SB_init l D cI q0 H.size) (cwI 0 hts (am_GoodWs wc_SB_init) rfl rfl rfl (hts (.initialized RX8) (am_mem (i := 29) (by decide +kernel) (by decide +kernel))) (hts (.methodLink R_law 130 (⟨RX8, "<init>", "()V"⟩ : MethodName)) (am_mem (i := 48) (by decide +kernel) (by decide +kernel))) (hts (.instanceMethod (⟨RX8, "<init>", "()V"⟩ : MethodName)) (am_mem (i := 49) (by decide +kernel) (by decide +kernel))) rfl (by decide +kernel) ⟨Nat.le_of_ble_eq_true rfl, Nat.le_of_ble_eq_true rfl⟩) ⟨fun a U g mk q => by obtain ⟨q0, q1, qP, qK, qD, qN⟩ := q; exact ⟨q0, q1, qP, va_K.moved (u := U) (U := U.calling g mk a) (Vm.Alike.refl U.vm) qK, qD, am_nsm.same (u := U) rfl qN⟩, fun U hU hW => ⟨rfl, by rw [hU], by rw [hU]; exact hPc, va_K.moved hW.alike hKc, hDc.weaken (fun _ _ _ _ => trivial), hNw.warm hW⟩⟩ rfl rfl hl.1 rfl (lv_room (Nat.le_of_ble_eq_true rfl)) dlw_4 ⟨Nat.le_of_ble_eq_true rfl, Nat.le_of_ble_eq_true rfl⟩) hS (fun q _ h => hFc q h) hFc (fun u t H1 locs ht hvm hw hB hz1 hk1 hS => ?_)
  obtain ⟨f1, rfl⟩ : ∃ z, z = u := ⟨_, rfl⟩
  obtain ⟨hP1, hK1, hD1⟩ := hB
  rw [ht] at hP1
  obtain ⟨hP, hD⟩ := va_join (wr := []) (w1 := aw_SB cI q0 f1) hP hD [0] [] rfl rfl (by decide) (by decide) hk1 hFc hP1 hD1
  generalize H1 = H at hP hS ⊢
  have hP : va_P D am_cl (aw_SB cI q0 f1) H := hP
  have hD : va_D (fun q : Nat => s.heap.size ≤ q) (aw_SB cI q0 f1) := hD
  refine W.widen (k := 58) (n := 24189) (by omega) (by omega) ?_
  refine lv_astore_n (lv' := [(1, .ref q0), (0, .ref b)]) hx hb dlw_7 rfl hl (by decide) rfl (fun ls hl => ?_)
  refine lv_bipush (v := 16) hx hb dlw_8 (by decide) ?_
  refine va_newa (atype := .long) (ty := .long) (a0 := (16, .inr (.inl (fun _ => 0)))) hx hb (hts (.arrayClass .long) (am_mem (i := 737) (by decide +kernel) (by decide +kernel))) rfl hK hP hD hS hA (fun cA => rfl) (by decide) rfl (Nat.le_of_ble_eq_true rfl) (Nat.le_of_ble_eq_true rfl) (Nat.le_of_ble_eq_true rfl) dlw_10 (fun a0 cJ H hK2 hP hD hS => ?_)
  have hP : va_P D am_cl (aw_SB cI q0 f1 ++ [(a0, .inl (cJ, 16, .inr (.inl (fun _ => 0))))]) H := hP
  have hD : va_D (fun q : Nat => s.heap.size ≤ q) (aw_SB cI q0 f1 ++ [(a0, .inl (cJ, 16, .inr (.inl (fun _ => 0))))]) := hD
  refine W.widen (k := 59) (n := 24205) (by omega) (by omega) ?_
  refine lv_astore_n (lv' := [(2, .ref a0), (1, .ref q0), (0, .ref b)]) hx hb dlw_12 rfl hl (by decide) rfl (fun ls hl => ?_)
  refine lv_bipush (v := 16) hx hb dlw_13 (by decide) ?_
  refine am_newa (N := 16) hx hb (hts _ am_warr) hK hP hD hS hA (by decide) rfl (Nat.le_of_ble_eq_true rfl) (Nat.le_of_ble_eq_true rfl) (Nat.le_of_ble_eq_true rfl) dlw_15 (fun a1 H hP hD hS => ?_)
  rw [List.append_assoc] at hP hD
  have hP : va_P D am_cl (aw_SB cI q0 f1 ++ [(a0, .inl (cJ, 16, .inr (.inl (fun _ => 0)))), (a1, .inl (cI, 16, .inl (fun _ => 0)))]) H := hP
  have hD : va_D (fun q : Nat => s.heap.size ≤ q) (aw_SB cI q0 f1 ++ [(a0, .inl (cJ, 16, .inr (.inl (fun _ => 0)))), (a1, .inl (cI, 16, .inl (fun _ => 0)))]) := hD
  refine W.widen (k := 60) (n := 24221) (by omega) (by omega) ?_
  refine lv_astore_n (lv' := [(3, .ref a1), (2, .ref a0), (1, .ref q0), (0, .ref b)]) hx hb dlw_17 rfl hl (by decide) rfl (fun ls hl => ?_)
  refine lv_bipush (v := 32) hx hb dlw_18 (by decide) ?_
  refine am_newa (N := 32) hx hb (hts _ am_warr) hK hP hD hS hA (by decide) rfl (Nat.le_of_ble_eq_true rfl) (Nat.le_of_ble_eq_true rfl) (Nat.le_of_ble_eq_true rfl) dlw_20 (fun a2 H hP hD hS => ?_)
  rw [List.append_assoc] at hP hD
  have hP : va_P D am_cl (aw_SB cI q0 f1 ++ [(a0, .inl (cJ, 16, .inr (.inl (fun _ => 0)))), (a1, .inl (cI, 16, .inl (fun _ => 0))), (a2, .inl (cI, 32, .inl (fun _ => 0)))]) H := hP
  have hD : va_D (fun q : Nat => s.heap.size ≤ q) (aw_SB cI q0 f1 ++ [(a0, .inl (cJ, 16, .inr (.inl (fun _ => 0)))), (a1, .inl (cI, 16, .inl (fun _ => 0))), (a2, .inl (cI, 32, .inl (fun _ => 0)))]) := hD
  refine W.widen (k := 61) (n := 24253) (by omega) (by omega) ?_
  refine lv_astore (lv' := [(4, .ref a2), (3, .ref a1), (2, .ref a0), (1, .ref q0), (0, .ref b)]) hx hb dlw_22 hl (by decide) rfl (fun ls hl => ?_)
  refine lv_bipush (v := 64) hx hb dlw_24 (by decide) ?_
  refine am_newa (N := 64) hx hb (hts _ am_warr) hK hP hD hS hA (by decide) rfl (Nat.le_of_ble_eq_true rfl) (Nat.le_of_ble_eq_true rfl) (Nat.le_of_ble_eq_true rfl) dlw_26 (fun a3 H hP hD hS => ?_)
  rw [List.append_assoc] at hP hD
  have hP : va_P D am_cl (aw_SB cI q0 f1 ++ [(a0, .inl (cJ, 16, .inr (.inl (fun _ => 0)))), (a1, .inl (cI, 16, .inl (fun _ => 0))), (a2, .inl (cI, 32, .inl (fun _ => 0))), (a3, .inl (cI, 64, .inl (fun _ => 0)))]) H := hP
  have hD : va_D (fun q : Nat => s.heap.size ≤ q) (aw_SB cI q0 f1 ++ [(a0, .inl (cJ, 16, .inr (.inl (fun _ => 0)))), (a1, .inl (cI, 16, .inl (fun _ => 0))), (a2, .inl (cI, 32, .inl (fun _ => 0))), (a3, .inl (cI, 64, .inl (fun _ => 0)))]) := hD
  refine W.widen (k := 62) (n := 24317) (by omega) (by omega) ?_
  refine lv_astore (lv' := [(5, .ref a3), (4, .ref a2), (3, .ref a1), (2, .ref a0), (1, .ref q0), (0, .ref b)]) hx hb dlw_28 hl (by decide) rfl (fun ls hl => ?_)
  refine lv_bipush (v := 16) hx hb dlw_30 (by decide) ?_
  refine am_newa (N := 16) hx hb (hts _ am_warr) hK hP hD hS hA (by decide) rfl (Nat.le_of_ble_eq_true rfl) (Nat.le_of_ble_eq_true rfl) (Nat.le_of_ble_eq_true rfl) dlw_32 (fun a4 H hP hD hS => ?_)
  rw [List.append_assoc] at hP hD
  have hP : va_P D am_cl (aw_SB cI q0 f1 ++ [(a0, .inl (cJ, 16, .inr (.inl (fun _ => 0)))), (a1, .inl (cI, 16, .inl (fun _ => 0))), (a2, .inl (cI, 32, .inl (fun _ => 0))), (a3, .inl (cI, 64, .inl (fun _ => 0))), (a4, .inl (cI, 16, .inl (fun _ => 0)))]) H := hP
  have hD : va_D (fun q : Nat => s.heap.size ≤ q) (aw_SB cI q0 f1 ++ [(a0, .inl (cJ, 16, .inr (.inl (fun _ => 0)))), (a1, .inl (cI, 16, .inl (fun _ => 0))), (a2, .inl (cI, 32, .inl (fun _ => 0))), (a3, .inl (cI, 64, .inl (fun _ => 0))), (a4, .inl (cI, 16, .inl (fun _ => 0)))]) := hD
  refine W.widen (k := 63) (n := 24333) (by omega) (by omega) ?_
  refine lv_astore (lv' := [(6, .ref a4), (5, .ref a3), (4, .ref a2), (3, .ref a1), (2, .ref a0), (1, .ref q0), (0, .ref b)]) hx hb dlw_34 hl (by decide) rfl (fun ls hl => ?_)
  refine lv_bipush (v := 16) hx hb dlw_36 (by decide) ?_
  refine am_newa (N := 16) hx hb (hts _ am_warr) hK hP hD hS hA (by decide) rfl (Nat.le_of_ble_eq_true rfl) (Nat.le_of_ble_eq_true rfl) (Nat.le_of_ble_eq_true rfl) dlw_38 (fun a5 H hP hD hS => ?_)
  rw [List.append_assoc] at hP hD
  have hP : va_P D am_cl (aw_SB cI q0 f1 ++ [(a0, .inl (cJ, 16, .inr (.inl (fun _ => 0)))), (a1, .inl (cI, 16, .inl (fun _ => 0))), (a2, .inl (cI, 32, .inl (fun _ => 0))), (a3, .inl (cI, 64, .inl (fun _ => 0))), (a4, .inl (cI, 16, .inl (fun _ => 0))), (a5, .inl (cI, 16, .inl (fun _ => 0)))]) H := hP
  have hD : va_D (fun q : Nat => s.heap.size ≤ q) (aw_SB cI q0 f1 ++ [(a0, .inl (cJ, 16, .inr (.inl (fun _ => 0)))), (a1, .inl (cI, 16, .inl (fun _ => 0))), (a2, .inl (cI, 32, .inl (fun _ => 0))), (a3, .inl (cI, 64, .inl (fun _ => 0))), (a4, .inl (cI, 16, .inl (fun _ => 0))), (a5, .inl (cI, 16, .inl (fun _ => 0)))]) := hD
  refine W.widen (k := 64) (n := 24349) (by omega) (by omega) ?_
  refine lv_astore (lv' := [(7, .ref a5), (6, .ref a4), (5, .ref a3), (4, .ref a2), (3, .ref a1), (2, .ref a0), (1, .ref q0), (0, .ref b)]) hx hb dlw_40 hl (by decide) rfl (fun ls hl => ?_)
  refine lv_bipush (v := 16) hx hb dlw_42 (by decide) ?_
  refine am_newa (N := 16) hx hb (hts _ am_warr) hK hP hD hS hA (by decide) rfl (Nat.le_of_ble_eq_true rfl) (Nat.le_of_ble_eq_true rfl) (Nat.le_of_ble_eq_true rfl) dlw_44 (fun a6 H hP hD hS => ?_)
  rw [List.append_assoc] at hP hD
  have hP : va_P D am_cl (aw_SB cI q0 f1 ++ [(a0, .inl (cJ, 16, .inr (.inl (fun _ => 0)))), (a1, .inl (cI, 16, .inl (fun _ => 0))), (a2, .inl (cI, 32, .inl (fun _ => 0))), (a3, .inl (cI, 64, .inl (fun _ => 0))), (a4, .inl (cI, 16, .inl (fun _ => 0))), (a5, .inl (cI, 16, .inl (fun _ => 0))), (a6, .inl (cI, 16, .inl (fun _ => 0)))]) H := hP
  have hD : va_D (fun q : Nat => s.heap.size ≤ q) (aw_SB cI q0 f1 ++ [(a0, .inl (cJ, 16, .inr (.inl (fun _ => 0)))), (a1, .inl (cI, 16, .inl (fun _ => 0))), (a2, .inl (cI, 32, .inl (fun _ => 0))), (a3, .inl (cI, 64, .inl (fun _ => 0))), (a4, .inl (cI, 16, .inl (fun _ => 0))), (a5, .inl (cI, 16, .inl (fun _ => 0))), (a6, .inl (cI, 16, .inl (fun _ => 0)))]) := hD
  refine W.widen (k := 65) (n := 24365) (by omega) (by omega) ?_
  refine lv_astore (lv' := [(8, .ref a6), (7, .ref a5), (6, .ref a4), (5, .ref a3), (4, .ref a2), (3, .ref a1), (2, .ref a0), (1, .ref q0), (0, .ref b)]) hx hb dlw_46 hl (by decide) rfl (fun ls hl => ?_)
  obtain ⟨g, hg⟩ : ∃ g : Nat → Nat, g = (fun k => match k with | 0 => a0 | 1 => a1 | 2 => a2 | 3 => a3 | 4 => a4 | 5 => a5 | _ => a6) := ⟨_, rfl⟩
  have e0 : a0 = g 0 := by subst hg; rfl
  have e1 : a1 = g 1 := by subst hg; rfl
  have e2 : a2 = g 2 := by subst hg; rfl
  have e3 : a3 = g 3 := by subst hg; rfl
  have e4 : a4 = g 4 := by subst hg; rfl
  have e5 : a5 = g 5 := by subst hg; rfl
  have e6 : a6 = g 6 := by subst hg; rfl
  have hP : va_P D am_cl (aw_SB cI q0 f1 ++ aw_ar cI cJ g) H := by subst hg; exact hP
  have hD : va_D (fun q : Nat => s.heap.size ≤ q) (aw_SB cI q0 f1 ++ aw_ar cI cJ g) := by subst hg; exact hD
  rw [← am_wd0 cI cJ b q0 f1 g adK adV L xs] at hP hD
  obtain ⟨d, k, c', rv, hgo, hret, hrv⟩ := hpure L xs hL
  subst hrv
  have hE : am_E p s m #[Value.ref b] c t_LAW_law D (cI, cJ) (am_ad b q0 f1 g adK adV) z (fun q => s.heap.size ≤ q) L xs := ⟨hx, hb, hml, hown, hts, hK2, hZ q0 f1 g, hA⟩
  refine am_go_W (c0 := (48, [.ref 5000, .ref 0, .ref 58, .ref 59, .ref 60, .ref 61, .ref 62, .ref 63, .ref 64, .null, .null, .null, .null, .null], [], am_M0 L xs)) (c1 := c') hE am_law_rok am_law_cok am_law_dok (Nat.le_refl _) (Nat.le_refl _) ⟨Nat.le_of_ble_eq_true rfl, Nat.le_of_ble_eq_true rfl⟩ (am_sound l d) (fun _ _ _ _ _ => am_run_ar) k hgo ⟨hP, hD, hS, ⟨rfl, lv_mono hl (fun q hq => ?_)⟩, fun j hj => rfl, rfl⟩ (fun H' locs' LS' hR => ?_)
  · have e9 : am_asc (am_ad b q0 f1 g adK adV) z [.ref 5000, .ref 0, .ref 58, .ref 59, .ref 60, .ref 61, .ref 62, .ref 63, .ref 64, .null, .null, .null, .null, .null] = [(0, .ref b), (1, .ref q0), (2, .ref (g 0)), (3, .ref (g 1)), (4, .ref (g 2)), (5, .ref (g 3)), (6, .ref (g 4)), (7, .ref (g 5)), (8, .ref (g 6))] := rfl
    rw [e9] at hq
    rw [e0, e1, e2, e3, e4, e5, e6]
    simp only [List.mem_cons, List.not_mem_nil, or_false] at hq ⊢
    rcases hq with h | h | h | h | h | h | h | h | h
    · exact Or.inr (Or.inr (Or.inr (Or.inr (Or.inr (Or.inr (Or.inr (Or.inr (h))))))))
    · exact Or.inr (Or.inr (Or.inr (Or.inr (Or.inr (Or.inr (Or.inr (Or.inl h)))))))
    · exact Or.inr (Or.inr (Or.inr (Or.inr (Or.inr (Or.inr (Or.inl h))))))
    · exact Or.inr (Or.inr (Or.inr (Or.inr (Or.inr (Or.inl h)))))
    · exact Or.inr (Or.inr (Or.inr (Or.inr (Or.inl h))))
    · exact Or.inr (Or.inr (Or.inr (Or.inl h)))
    · exact Or.inr (Or.inr (Or.inl h))
    · exact Or.inr (Or.inl h)
    · exact Or.inl h
  · obtain ⟨pc', ls', st', M'⟩ := c'
    obtain ⟨h1, h2, ty, h3, h4⟩ := hret
    dsimp only at h1 h2 ⊢
    subst h2
    have hdec : decode (am_by t_LAW_law) pc' = .ok (.ireturn, 1) := by
      have hde := (List.all_eq_true.mp am_law_dok) _ (am_as_mem h1)
      rw [Bool.and_eq_true, Bool.and_eq_true] at hde
      exact of_decide_eq_true hde.1.1
    refine va_forget (fun q hq => hR.2.2.1.2.2 q hq) ?_
    refine W.widen (k := 600000) (n := 7302250) (Nat.le_of_ble_eq_true rfl) (Nat.le_of_ble_eq_true rfl) ?_
    exact lw_ret hx hb hr hlocks hdec
end
