-- ===== PART A: goes FIRST, ahead of the names: the tables' words, and 'selects' of the private methods out of them =====
/-- a private method of a class that the tables say can be made, by its rows of tables_1 -/
def lw_okq (q : MethodName × Nat) : Prop := (q.1.cls ≠ "java/lang/invoke/MethodHandle" ∧ q.1.cls ≠ "java/lang/invoke/VarHandle") ∧ Cond.instantiable q.1.cls q.2 ∈ tables_1 ∧ Cond.privateMethod q.1 ∈ tables_1 ∧ Cond.instanceMethod q.1 ∈ tables_1
theorem lw_p0 : lw_okq (⟨"StatuteBook$Archive", "putAway", "(ILStatuteBook$Amendments;)V"⟩, 4) := ⟨⟨by decide +kernel, by decide +kernel⟩, List.mem_of_getElem? (i := 108) (by decide +kernel), List.mem_of_getElem? (i := 239) (by decide +kernel), List.mem_of_getElem? (i := 240) (by decide +kernel)⟩
theorem lw_p1 : lw_okq (⟨"StatuteBook", "consolidate", "(II)V"⟩, 7) := ⟨⟨by decide +kernel, by decide +kernel⟩, List.mem_of_getElem? (i := 19) (by decide +kernel), List.mem_of_getElem? (i := 284) (by decide +kernel), List.mem_of_getElem? (i := 285) (by decide +kernel)⟩
theorem lw_p2 : lw_okq (⟨"StatuteBook$Law", "carryOut", "(LStatuteBook$Amendments;II)V"⟩, 11) := ⟨⟨by decide +kernel, by decide +kernel⟩, List.mem_of_getElem? (i := 129) (by decide +kernel), List.mem_of_getElem? (i := 304) (by decide +kernel), List.mem_of_getElem? (i := 305) (by decide +kernel)⟩
theorem lw_p3 : lw_okq (⟨"StatuteBook$Law", "holder", "(I)I"⟩, 11) := ⟨⟨by decide +kernel, by decide +kernel⟩, List.mem_of_getElem? (i := 129) (by decide +kernel), List.mem_of_getElem? (i := 316) (by decide +kernel), List.mem_of_getElem? (i := 317) (by decide +kernel)⟩
theorem lw_p4 : lw_okq (⟨"StatuteBook$Law", "resolves", "(LStatuteBook$Amendments;I)Z"⟩, 11) := ⟨⟨by decide +kernel, by decide +kernel⟩, List.mem_of_getElem? (i := 129) (by decide +kernel), List.mem_of_getElem? (i := 321) (by decide +kernel), List.mem_of_getElem? (i := 322) (by decide +kernel)⟩
theorem lw_p5 : lw_okq (⟨"StatuteBook$Law", "reason", "(LStatuteBook$Amendments;IIZ)I"⟩, 11) := ⟨⟨by decide +kernel, by decide +kernel⟩, List.mem_of_getElem? (i := 129) (by decide +kernel), List.mem_of_getElem? (i := 326) (by decide +kernel), List.mem_of_getElem? (i := 327) (by decide +kernel)⟩
theorem lw_p6 : lw_okq (⟨"StatuteBook$Law", "perform", "(LStatuteBook$Amendments;II)V"⟩, 11) := ⟨⟨by decide +kernel, by decide +kernel⟩, List.mem_of_getElem? (i := 129) (by decide +kernel), List.mem_of_getElem? (i := 334) (by decide +kernel), List.mem_of_getElem? (i := 335) (by decide +kernel)⟩
theorem lw_p7 : lw_okq (⟨"StatuteBook$Law", "setText", "(II)V"⟩, 11) := ⟨⟨by decide +kernel, by decide +kernel⟩, List.mem_of_getElem? (i := 129) (by decide +kernel), List.mem_of_getElem? (i := 338) (by decide +kernel), List.mem_of_getElem? (i := 339) (by decide +kernel)⟩
theorem lw_p8 : lw_okq (⟨"StatuteBook$Law", "change", "(III)V"⟩, 11) := ⟨⟨by decide +kernel, by decide +kernel⟩, List.mem_of_getElem? (i := 129) (by decide +kernel), List.mem_of_getElem? (i := 343) (by decide +kernel), List.mem_of_getElem? (i := 344) (by decide +kernel)⟩
theorem lw_p9 : lw_okq (⟨"StatuteBook$Law", "arrange", "()V"⟩, 11) := ⟨⟨by decide +kernel, by decide +kernel⟩, List.mem_of_getElem? (i := 129) (by decide +kernel), List.mem_of_getElem? (i := 347) (by decide +kernel), List.mem_of_getElem? (i := 348) (by decide +kernel)⟩
theorem lw_p10 : lw_okq (⟨"StatuteBook", "clausePart", "(II)I"⟩, 7) := ⟨⟨by decide +kernel, by decide +kernel⟩, List.mem_of_getElem? (i := 19) (by decide +kernel), List.mem_of_getElem? (i := 363) (by decide +kernel), List.mem_of_getElem? (i := 364) (by decide +kernel)⟩
theorem lw_p11 : lw_okq (⟨"StatuteBook", "consolidateFully", "()V"⟩, 7) := ⟨⟨by decide +kernel, by decide +kernel⟩, List.mem_of_getElem? (i := 19) (by decide +kernel), List.mem_of_getElem? (i := 396) (by decide +kernel), List.mem_of_getElem? (i := 397) (by decide +kernel)⟩
theorem lw_p12 : lw_okq (⟨"StatuteBook", "countPart", "(I)I"⟩, 7) := ⟨⟨by decide +kernel, by decide +kernel⟩, List.mem_of_getElem? (i := 19) (by decide +kernel), List.mem_of_getElem? (i := 400) (by decide +kernel), List.mem_of_getElem? (i := 401) (by decide +kernel)⟩
theorem lw_p13 : lw_okq (⟨"StatuteBook$Reader", "readOperation", "()V"⟩, 4) := ⟨⟨by decide +kernel, by decide +kernel⟩, List.mem_of_getElem? (i := 27) (by decide +kernel), List.mem_of_getElem? (i := 526) (by decide +kernel), List.mem_of_getElem? (i := 527) (by decide +kernel)⟩
theorem lw_p14 : lw_okq (⟨"StatuteBook$Reader", "skipBlanks", "()V"⟩, 4) := ⟨⟨by decide +kernel, by decide +kernel⟩, List.mem_of_getElem? (i := 27) (by decide +kernel), List.mem_of_getElem? (i := 530) (by decide +kernel), List.mem_of_getElem? (i := 531) (by decide +kernel)⟩
theorem lw_p15 : lw_okq (⟨"StatuteBook$Reader", "readKind", "()I"⟩, 4) := ⟨⟨by decide +kernel, by decide +kernel⟩, List.mem_of_getElem? (i := 27) (by decide +kernel), List.mem_of_getElem? (i := 543) (by decide +kernel), List.mem_of_getElem? (i := 544) (by decide +kernel)⟩
def lw_privs_1 : List (MethodName × Nat) := [(⟨"StatuteBook$Archive", "putAway", "(ILStatuteBook$Amendments;)V"⟩, 4), (⟨"StatuteBook", "consolidate", "(II)V"⟩, 7), (⟨"StatuteBook$Law", "carryOut", "(LStatuteBook$Amendments;II)V"⟩, 11), (⟨"StatuteBook$Law", "holder", "(I)I"⟩, 11), (⟨"StatuteBook$Law", "resolves", "(LStatuteBook$Amendments;I)Z"⟩, 11), (⟨"StatuteBook$Law", "reason", "(LStatuteBook$Amendments;IIZ)I"⟩, 11), (⟨"StatuteBook$Law", "perform", "(LStatuteBook$Amendments;II)V"⟩, 11), (⟨"StatuteBook$Law", "setText", "(II)V"⟩, 11), (⟨"StatuteBook$Law", "change", "(III)V"⟩, 11), (⟨"StatuteBook$Law", "arrange", "()V"⟩, 11), (⟨"StatuteBook", "clausePart", "(II)I"⟩, 7), (⟨"StatuteBook", "consolidateFully", "()V"⟩, 7), (⟨"StatuteBook", "countPart", "(I)I"⟩, 7), (⟨"StatuteBook$Reader", "readOperation", "()V"⟩, 4), (⟨"StatuteBook$Reader", "skipBlanks", "()V"⟩, 4), (⟨"StatuteBook$Reader", "readKind", "()I"⟩, 4)]
theorem lw_r1 : ∀ q ∈ lw_privs_1, lw_okq q := List.forall_mem_cons.mpr ⟨lw_p0, List.forall_mem_cons.mpr ⟨lw_p1, List.forall_mem_cons.mpr ⟨lw_p2, List.forall_mem_cons.mpr ⟨lw_p3, List.forall_mem_cons.mpr ⟨lw_p4, List.forall_mem_cons.mpr ⟨lw_p5, List.forall_mem_cons.mpr ⟨lw_p6, List.forall_mem_cons.mpr ⟨lw_p7, List.forall_mem_cons.mpr ⟨lw_p8, List.forall_mem_cons.mpr ⟨lw_p9, List.forall_mem_cons.mpr ⟨lw_p10, List.forall_mem_cons.mpr ⟨lw_p11, List.forall_mem_cons.mpr ⟨lw_p12, List.forall_mem_cons.mpr ⟨lw_p13, List.forall_mem_cons.mpr ⟨lw_p14, List.forall_mem_cons.mpr ⟨lw_p15, fun _ h => absurd h List.not_mem_nil⟩⟩⟩⟩⟩⟩⟩⟩⟩⟩⟩⟩⟩⟩⟩⟩
theorem lw_p16 : lw_okq (⟨"StatuteBook$Reader", "passes", "(Ljava/lang/String;)Z"⟩, 4) := ⟨⟨by decide +kernel, by decide +kernel⟩, List.mem_of_getElem? (i := 27) (by decide +kernel), List.mem_of_getElem? (i := 548) (by decide +kernel), List.mem_of_getElem? (i := 549) (by decide +kernel)⟩
theorem lw_p17 : lw_okq (⟨"StatuteBook$Reader", "fail", "(I)V"⟩, 4) := ⟨⟨by decide +kernel, by decide +kernel⟩, List.mem_of_getElem? (i := 27) (by decide +kernel), List.mem_of_getElem? (i := 607) (by decide +kernel), List.mem_of_getElem? (i := 608) (by decide +kernel)⟩
theorem lw_p18 : lw_okq (⟨"StatuteBook$Reader", "readNumber", "()I"⟩, 4) := ⟨⟨by decide +kernel, by decide +kernel⟩, List.mem_of_getElem? (i := 27) (by decide +kernel), List.mem_of_getElem? (i := 611) (by decide +kernel), List.mem_of_getElem? (i := 612) (by decide +kernel)⟩
theorem lw_p19 : lw_okq (⟨"StatuteBook$Reader", "readDigits", "(I)I"⟩, 4) := ⟨⟨by decide +kernel, by decide +kernel⟩, List.mem_of_getElem? (i := 27) (by decide +kernel), List.mem_of_getElem? (i := 615) (by decide +kernel), List.mem_of_getElem? (i := 616) (by decide +kernel)⟩
theorem lw_p20 : lw_okq (⟨"StatuteBook$Reader", "readWords", "()V"⟩, 4) := ⟨⟨by decide +kernel, by decide +kernel⟩, List.mem_of_getElem? (i := 27) (by decide +kernel), List.mem_of_getElem? (i := 628) (by decide +kernel), List.mem_of_getElem? (i := 629) (by decide +kernel)⟩
theorem lw_p21 : lw_okq (⟨"StatuteBook$Reader", "isAtWord", "()Z"⟩, 4) := ⟨⟨by decide +kernel, by decide +kernel⟩, List.mem_of_getElem? (i := 27) (by decide +kernel), List.mem_of_getElem? (i := 632) (by decide +kernel), List.mem_of_getElem? (i := 633) (by decide +kernel)⟩
theorem lw_p22 : lw_okq (⟨"StatuteBook$Reader", "expect", "(Ljava/lang/String;)V"⟩, 4) := ⟨⟨by decide +kernel, by decide +kernel⟩, List.mem_of_getElem? (i := 27) (by decide +kernel), List.mem_of_getElem? (i := 642) (by decide +kernel), List.mem_of_getElem? (i := 643) (by decide +kernel)⟩
theorem lw_p23 : lw_okq (⟨"StatuteBook$Reader", "readPlain", "()I"⟩, 4) := ⟨⟨by decide +kernel, by decide +kernel⟩, List.mem_of_getElem? (i := 27) (by decide +kernel), List.mem_of_getElem? (i := 648) (by decide +kernel), List.mem_of_getElem? (i := 649) (by decide +kernel)⟩
theorem lw_p24 : lw_okq (⟨"StatuteBook$Reader", "readSaving", "()V"⟩, 4) := ⟨⟨by decide +kernel, by decide +kernel⟩, List.mem_of_getElem? (i := 27) (by decide +kernel), List.mem_of_getElem? (i := 653) (by decide +kernel), List.mem_of_getElem? (i := 654) (by decide +kernel)⟩
theorem lw_p25 : lw_okq (⟨"StatuteBook$Reader", "readSemicolon", "()Z"⟩, 4) := ⟨⟨by decide +kernel, by decide +kernel⟩, List.mem_of_getElem? (i := 27) (by decide +kernel), List.mem_of_getElem? (i := 658) (by decide +kernel), List.mem_of_getElem? (i := 659) (by decide +kernel)⟩
theorem lw_p26 : lw_okq (⟨"StatuteBook", "addDraft", "(I)I"⟩, 7) := ⟨⟨by decide +kernel, by decide +kernel⟩, List.mem_of_getElem? (i := 19) (by decide +kernel), List.mem_of_getElem? (i := 662) (by decide +kernel), List.mem_of_getElem? (i := 663) (by decide +kernel)⟩
theorem lw_p27 : lw_okq (⟨"StatuteBook", "presentWord", "(II)I"⟩, 7) := ⟨⟨by decide +kernel, by decide +kernel⟩, List.mem_of_getElem? (i := 19) (by decide +kernel), List.mem_of_getElem? (i := 699) (by decide +kernel), List.mem_of_getElem? (i := 700) (by decide +kernel)⟩
def lw_privs_2 : List (MethodName × Nat) := [(⟨"StatuteBook$Reader", "passes", "(Ljava/lang/String;)Z"⟩, 4), (⟨"StatuteBook$Reader", "fail", "(I)V"⟩, 4), (⟨"StatuteBook$Reader", "readNumber", "()I"⟩, 4), (⟨"StatuteBook$Reader", "readDigits", "(I)I"⟩, 4), (⟨"StatuteBook$Reader", "readWords", "()V"⟩, 4), (⟨"StatuteBook$Reader", "isAtWord", "()Z"⟩, 4), (⟨"StatuteBook$Reader", "expect", "(Ljava/lang/String;)V"⟩, 4), (⟨"StatuteBook$Reader", "readPlain", "()I"⟩, 4), (⟨"StatuteBook$Reader", "readSaving", "()V"⟩, 4), (⟨"StatuteBook$Reader", "readSemicolon", "()Z"⟩, 4), (⟨"StatuteBook", "addDraft", "(I)I"⟩, 7), (⟨"StatuteBook", "presentWord", "(II)I"⟩, 7)]
theorem lw_r2 : ∀ q ∈ lw_privs_2, lw_okq q := List.forall_mem_cons.mpr ⟨lw_p16, List.forall_mem_cons.mpr ⟨lw_p17, List.forall_mem_cons.mpr ⟨lw_p18, List.forall_mem_cons.mpr ⟨lw_p19, List.forall_mem_cons.mpr ⟨lw_p20, List.forall_mem_cons.mpr ⟨lw_p21, List.forall_mem_cons.mpr ⟨lw_p22, List.forall_mem_cons.mpr ⟨lw_p23, List.forall_mem_cons.mpr ⟨lw_p24, List.forall_mem_cons.mpr ⟨lw_p25, List.forall_mem_cons.mpr ⟨lw_p26, List.forall_mem_cons.mpr ⟨lw_p27, fun _ h => absurd h List.not_mem_nil⟩⟩⟩⟩⟩⟩⟩⟩⟩⟩⟩⟩
def lw_privs : List (MethodName × Nat) := lw_privs_1 ++ (lw_privs_2)
def lw_tbl : List Cond := k2_sels lw_privs ++ tables_1
theorem lw_privs_ok : ∀ q ∈ lw_privs, lw_okq q := by
  show ∀ q ∈ lw_privs_1 ++ (lw_privs_2), lw_okq q
  exact List.forall_mem_append.mpr ⟨lw_r1, lw_r2⟩

/-- the words of the tables that stay, whatever is warmed -/
def am_tbl : List Cond := lw_tbl.filter goodWord
theorem am_mem {w : Cond} {i : Nat} (h : lw_tbl[i]? = some w) (g : goodWord w = true) : w ∈ am_tbl := List.mem_filter.mpr ⟨List.mem_of_getElem? h, g⟩
theorem am_tbl_good : am_tbl.all goodWord = true := List.all_eq_true.mpr fun w h => (List.mem_filter.mp h).2
theorem am_tbl_before {args : Array Value} {s : State} (h : ∀ w ∈ lw_tbl, w.before args s = true) : ∀ w ∈ am_tbl, w.before args s = true := fun w hw => h w (List.mem_filter.mp hw).1
def RX0 : String := "StatuteBook$Amendments"
def TX0 : u_T := fun k => match k with
  | _ => ("StatuteBook$Amendments", "cells", "LStatuteBook$Row;", true)
def tyX0 : Nat → FieldType := fun k => match k with
  | _ => .object "StatuteBook$Row"
abbrev wsX00 : List Cond := u_ws RX0 TX0 1
theorem nmX0 : ∀ a, a < 1 → ∀ b, b < 1 → a ≠ b → (TX0 a).2.1 ≠ (TX0 b).2.1 := by decide +kernel
theorem tyX0_ok : ∀ k, k < 1 → parseFieldDescriptor (TX0 k).2.2.1 = some (tyX0 k) := by decide +kernel
def RX1 : String := "StatuteBook$Archive"
def TX1 : u_T := fun k => match k with
  | 0 => ("StatuteBook$Archive", "cells", "LStatuteBook$Row;", true)
  | 1 => ("StatuteBook$Archive", "states", "I", false)
  | 2 => ("StatuteBook$Archive", "newest", "I", false)
  | _ => ("StatuteBook$Archive", "saved", "I", false)
def tyX1 : Nat → FieldType := fun k => match k with
  | 0 => .object "StatuteBook$Row"
  | 1 => .int
  | 2 => .int
  | _ => .int
abbrev wsX10 : List Cond := u_ws RX1 TX1 4
theorem nmX1 : ∀ a, a < 4 → ∀ b, b < 4 → a ≠ b → (TX1 a).2.1 ≠ (TX1 b).2.1 := by decide +kernel
theorem tyX1_ok : ∀ k, k < 4 → parseFieldDescriptor (TX1 k).2.2.1 = some (tyX1 k) := by decide +kernel
def RX2 : String := "StatuteBook$Draft"
def TX2 : u_T := fun k => match k with
  | 0 => ("StatuteBook$Draft", "cells", "LStatuteBook$Row;", true)
  | 1 => ("StatuteBook$Draft", "size", "I", false)
  | _ => ("StatuteBook$Draft", "inserts", "I", false)
def tyX2 : Nat → FieldType := fun k => match k with
  | 0 => .object "StatuteBook$Row"
  | 1 => .int
  | _ => .int
abbrev wsX20 : List Cond := u_ws RX2 TX2 3
theorem nmX2 : ∀ a, a < 3 → ∀ b, b < 3 → a ≠ b → (TX2 a).2.1 ≠ (TX2 b).2.1 := by decide +kernel
theorem tyX2_ok : ∀ k, k < 3 → parseFieldDescriptor (TX2 k).2.2.1 = some (tyX2 k) := by decide +kernel
def RX3 : String := "StatuteBook$Law"
def TX3 : u_T := fun k => match k with
  | 0 => ("StatuteBook$Law", "codes", "LStatuteBook$Row;", true)
  | 1 => ("StatuteBook$Law", "lastDays", "LStatuteBook$Row;", true)
  | 2 => ("StatuteBook$Law", "lengths", "LStatuteBook$Row;", true)
  | 3 => ("StatuteBook$Law", "texts", "LStatuteBook$Row;", true)
  | 4 => ("StatuteBook$Law", "order", "LStatuteBook$Row;", true)
  | 5 => ("StatuteBook$Law", "statuses", "LStatuteBook$Row;", true)
  | 6 => ("StatuteBook$Law", "affected", "LStatuteBook$Row;", true)
  | 7 => ("StatuteBook$Law", "effects", "LStatuteBook$Row;", true)
  | 8 => ("StatuteBook$Law", "resolved", "LStatuteBook$Row;", true)
  | 9 => ("StatuteBook$Law", "size", "I", false)
  | _ => ("StatuteBook$Law", "effectCount", "I", false)
def tyX3 : Nat → FieldType := fun k => match k with
  | 0 => .object "StatuteBook$Row"
  | 1 => .object "StatuteBook$Row"
  | 2 => .object "StatuteBook$Row"
  | 3 => .object "StatuteBook$Row"
  | 4 => .object "StatuteBook$Row"
  | 5 => .object "StatuteBook$Row"
  | 6 => .object "StatuteBook$Row"
  | 7 => .object "StatuteBook$Row"
  | 8 => .object "StatuteBook$Row"
  | 9 => .int
  | _ => .int
abbrev wsX30 : List Cond := u_ws RX3 TX3 11
theorem nmX3 : ∀ a, a < 11 → ∀ b, b < 11 → a ≠ b → (TX3 a).2.1 ≠ (TX3 b).2.1 := by decide +kernel
theorem tyX3_ok : ∀ k, k < 11 → parseFieldDescriptor (TX3 k).2.2.1 = some (tyX3 k) := by decide +kernel
def RX4 : String := "StatuteBook$Page"
def TX4 : u_T := fun k => match k with
  | 0 => ("StatuteBook$Page", "bytes", "[I", true)
  | _ => ("StatuteBook$Page", "written", "I", false)
def tyX4 : Nat → FieldType := fun k => match k with
  | 0 => .array .int
  | _ => .int
abbrev wsX40 : List Cond := u_ws RX4 TX4 2
theorem nmX4 : ∀ a, a < 2 → ∀ b, b < 2 → a ≠ b → (TX4 a).2.1 ≠ (TX4 b).2.1 := by decide +kernel
theorem tyX4_ok : ∀ k, k < 2 → parseFieldDescriptor (TX4 k).2.2.1 = some (tyX4 k) := by decide +kernel
def RX5 : String := "StatuteBook$Reader"
def TX5 : u_T := fun k => match k with
  | 0 => ("StatuteBook$Reader", "text", "LStatuteBook$Page;", true)
  | 1 => ("StatuteBook$Reader", "draft", "LStatuteBook$Draft;", true)
  | 2 => ("StatuteBook$Reader", "place", "I", false)
  | _ => ("StatuteBook$Reader", "fault", "I", false)
def tyX5 : Nat → FieldType := fun k => match k with
  | 0 => .object "StatuteBook$Page"
  | 1 => .object "StatuteBook$Draft"
  | 2 => .int
  | _ => .int
abbrev wsX50 : List Cond := u_ws RX5 TX5 4
theorem nmX5 : ∀ a, a < 4 → ∀ b, b < 4 → a ≠ b → (TX5 a).2.1 ≠ (TX5 b).2.1 := by decide +kernel
theorem tyX5_ok : ∀ k, k < 4 → parseFieldDescriptor (TX5 k).2.2.1 = some (tyX5 k) := by decide +kernel
def RX6 : String := "StatuteBook$Row"
def TX6 : u_T := fun k => match k with
  | _ => ("StatuteBook$Row", "cells", "[I", true)
def tyX6 : Nat → FieldType := fun k => match k with
  | _ => .array .int
abbrev wsX60 : List Cond := u_ws RX6 TX6 1
theorem nmX6 : ∀ a, a < 1 → ∀ b, b < 1 → a ≠ b → (TX6 a).2.1 ≠ (TX6 b).2.1 := by decide +kernel
theorem tyX6_ok : ∀ k, k < 1 → parseFieldDescriptor (TX6 k).2.2.1 = some (tyX6 k) := by decide +kernel
def RX7 : String := "StatuteBook$Walk"
def TX7 : u_T := fun k => match k with
  | 0 => ("StatuteBook$Walk", "distances", "LStatuteBook$Row;", true)
  | 1 => ("StatuteBook$Walk", "queue", "LStatuteBook$Row;", true)
  | 2 => ("StatuteBook$Walk", "reached", "I", false)
  | _ => ("StatuteBook$Walk", "comesBack", "Z", false)
def tyX7 : Nat → FieldType := fun k => match k with
  | 0 => .object "StatuteBook$Row"
  | 1 => .object "StatuteBook$Row"
  | 2 => .int
  | _ => .boolean
abbrev wsX70 : List Cond := u_ws RX7 TX7 4
theorem nmX7 : ∀ a, a < 4 → ∀ b, b < 4 → a ≠ b → (TX7 a).2.1 ≠ (TX7 b).2.1 := by decide +kernel
theorem tyX7_ok : ∀ k, k < 4 → parseFieldDescriptor (TX7 k).2.2.1 = some (tyX7 k) := by decide +kernel
def RX8 : String := "StatuteBook"
def TX8 : u_T := fun k => match k with
  | 0 => ("StatuteBook", "reader", "LStatuteBook$Reader;", true)
  | 1 => ("StatuteBook", "output", "LStatuteBook$Page;", true)
  | 2 => ("StatuteBook", "book", "LStatuteBook$Amendments;", true)
  | 3 => ("StatuteBook", "archive", "LStatuteBook$Archive;", true)
  | 4 => ("StatuteBook", "law", "LStatuteBook$Law;", true)
  | 5 => ("StatuteBook", "otherLaw", "LStatuteBook$Law;", true)
  | _ => ("StatuteBook", "walk", "LStatuteBook$Walk;", true)
def tyX8 : Nat → FieldType := fun k => match k with
  | 0 => .object "StatuteBook$Reader"
  | 1 => .object "StatuteBook$Page"
  | 2 => .object "StatuteBook$Amendments"
  | 3 => .object "StatuteBook$Archive"
  | 4 => .object "StatuteBook$Law"
  | 5 => .object "StatuteBook$Law"
  | _ => .object "StatuteBook$Walk"
abbrev wsX80 : List Cond := u_ws RX8 TX8 7
theorem nmX8 : ∀ a, a < 7 → ∀ b, b < 7 → a ≠ b → (TX8 a).2.1 ≠ (TX8 b).2.1 := by decide +kernel
theorem tyX8_ok : ∀ k, k < 7 → parseFieldDescriptor (TX8 k).2.2.1 = some (tyX8 k) := by decide +kernel
def RX9 : String := "StatuteBookModel"
def TX9 : u_T := fun k => match k with
  | _ => ("", "", "", false)
def tyX9 : Nat → FieldType := fun k => match k with
  | _ => .int
abbrev wsX90 : List Cond := u_ws RX9 TX9 0
theorem nmX9 : ∀ a, a < 0 → ∀ b, b < 0 → a ≠ b → (TX9 a).2.1 ≠ (TX9 b).2.1 := by decide +kernel
theorem tyX9_ok : ∀ k, k < 0 → parseFieldDescriptor (TX9 k).2.2.1 = some (tyX9 k) := by decide +kernel
theorem am_ws0 : ∀ w ∈ u_ws RX0 TX0 1, w ∈ am_tbl := by
  intro w hw
  obtain ⟨k, hk, rfl⟩ := List.mem_map.mp hw
  have hk := List.mem_range.mp hk
  have h : ∀ k, k < 1 → ∃ i : Nat, lw_tbl[i]? = some (u_lay RX0 TX0 k) ∧ goodWord (u_lay RX0 TX0 k) = true := by
    intro k hk
    match k, hk with
    | 0, _ => exact ⟨132, by decide +kernel, by decide +kernel⟩
    | k + 1, hk => exact absurd hk (by omega)
  obtain ⟨i, h1, h2⟩ := h k hk
  exact am_mem h1 h2
theorem am_ws1 : ∀ w ∈ u_ws RX1 TX1 4, w ∈ am_tbl := by
  intro w hw
  obtain ⟨k, hk, rfl⟩ := List.mem_map.mp hw
  have hk := List.mem_range.mp hk
  have h : ∀ k, k < 4 → ∃ i : Nat, lw_tbl[i]? = some (u_lay RX1 TX1 k) ∧ goodWord (u_lay RX1 TX1 k) = true := by
    intro k hk
    match k, hk with
    | 0, _ => exact ⟨147, by decide +kernel, by decide +kernel⟩
    | 1, _ => exact ⟨149, by decide +kernel, by decide +kernel⟩
    | 2, _ => exact ⟨151, by decide +kernel, by decide +kernel⟩
    | 3, _ => exact ⟨153, by decide +kernel, by decide +kernel⟩
    | k + 4, hk => exact absurd hk (by omega)
  obtain ⟨i, h1, h2⟩ := h k hk
  exact am_mem h1 h2
theorem am_ws2 : ∀ w ∈ u_ws RX2 TX2 3, w ∈ am_tbl := by
  intro w hw
  obtain ⟨k, hk, rfl⟩ := List.mem_map.mp hw
  have hk := List.mem_range.mp hk
  have h : ∀ k, k < 3 → ∃ i : Nat, lw_tbl[i]? = some (u_lay RX2 TX2 k) ∧ goodWord (u_lay RX2 TX2 k) = true := by
    intro k hk
    match k, hk with
    | 0, _ => exact ⟨98, by decide +kernel, by decide +kernel⟩
    | 1, _ => exact ⟨100, by decide +kernel, by decide +kernel⟩
    | 2, _ => exact ⟨102, by decide +kernel, by decide +kernel⟩
    | k + 3, hk => exact absurd hk (by omega)
  obtain ⟨i, h1, h2⟩ := h k hk
  exact am_mem h1 h2
theorem am_ws3 : ∀ w ∈ u_ws RX3 TX3 11, w ∈ am_tbl := by
  intro w hw
  obtain ⟨k, hk, rfl⟩ := List.mem_map.mp hw
  have hk := List.mem_range.mp hk
  have h : ∀ k, k < 11 → ∃ i : Nat, lw_tbl[i]? = some (u_lay RX3 TX3 k) ∧ goodWord (u_lay RX3 TX3 k) = true := by
    intro k hk
    match k, hk with
    | 0, _ => exact ⟨175, by decide +kernel, by decide +kernel⟩
    | 1, _ => exact ⟨177, by decide +kernel, by decide +kernel⟩
    | 2, _ => exact ⟨179, by decide +kernel, by decide +kernel⟩
    | 3, _ => exact ⟨181, by decide +kernel, by decide +kernel⟩
    | 4, _ => exact ⟨183, by decide +kernel, by decide +kernel⟩
    | 5, _ => exact ⟨185, by decide +kernel, by decide +kernel⟩
    | 6, _ => exact ⟨187, by decide +kernel, by decide +kernel⟩
    | 7, _ => exact ⟨189, by decide +kernel, by decide +kernel⟩
    | 8, _ => exact ⟨191, by decide +kernel, by decide +kernel⟩
    | 9, _ => exact ⟨193, by decide +kernel, by decide +kernel⟩
    | 10, _ => exact ⟨195, by decide +kernel, by decide +kernel⟩
    | k + 11, hk => exact absurd hk (by omega)
  obtain ⟨i, h1, h2⟩ := h k hk
  exact am_mem h1 h2
theorem am_ws4 : ∀ w ∈ u_ws RX4 TX4 2, w ∈ am_tbl := by
  intro w hw
  obtain ⟨k, hk, rfl⟩ := List.mem_map.mp hw
  have hk := List.mem_range.mp hk
  have h : ∀ k, k < 2 → ∃ i : Nat, lw_tbl[i]? = some (u_lay RX4 TX4 k) ∧ goodWord (u_lay RX4 TX4 k) = true := by
    intro k hk
    match k, hk with
    | 0, _ => exact ⟨71, by decide +kernel, by decide +kernel⟩
    | 1, _ => exact ⟨73, by decide +kernel, by decide +kernel⟩
    | k + 2, hk => exact absurd hk (by omega)
  obtain ⟨i, h1, h2⟩ := h k hk
  exact am_mem h1 h2
theorem am_ws5 : ∀ w ∈ u_ws RX5 TX5 4, w ∈ am_tbl := by
  intro w hw
  obtain ⟨k, hk, rfl⟩ := List.mem_map.mp hw
  have hk := List.mem_range.mp hk
  have h : ∀ k, k < 4 → ∃ i : Nat, lw_tbl[i]? = some (u_lay RX5 TX5 k) ∧ goodWord (u_lay RX5 TX5 k) = true := by
    intro k hk
    match k, hk with
    | 0, _ => exact ⟨111, by decide +kernel, by decide +kernel⟩
    | 1, _ => exact ⟨113, by decide +kernel, by decide +kernel⟩
    | 2, _ => exact ⟨115, by decide +kernel, by decide +kernel⟩
    | 3, _ => exact ⟨117, by decide +kernel, by decide +kernel⟩
    | k + 4, hk => exact absurd hk (by omega)
  obtain ⟨i, h1, h2⟩ := h k hk
  exact am_mem h1 h2
theorem am_ws6 : ∀ w ∈ u_ws RX6 TX6 1, w ∈ am_tbl := by
  intro w hw
  obtain ⟨k, hk, rfl⟩ := List.mem_map.mp hw
  have hk := List.mem_range.mp hk
  have h : ∀ k, k < 1 → ∃ i : Nat, lw_tbl[i]? = some (u_lay RX6 TX6 k) ∧ goodWord (u_lay RX6 TX6 k) = true := by
    intro k hk
    match k, hk with
    | 0, _ => exact ⟨91, by decide +kernel, by decide +kernel⟩
    | k + 1, hk => exact absurd hk (by omega)
  obtain ⟨i, h1, h2⟩ := h k hk
  exact am_mem h1 h2
theorem am_ws7 : ∀ w ∈ u_ws RX7 TX7 4, w ∈ am_tbl := by
  intro w hw
  obtain ⟨k, hk, rfl⟩ := List.mem_map.mp hw
  have hk := List.mem_range.mp hk
  have h : ∀ k, k < 4 → ∃ i : Nat, lw_tbl[i]? = some (u_lay RX7 TX7 k) ∧ goodWord (u_lay RX7 TX7 k) = true := by
    intro k hk
    match k, hk with
    | 0, _ => exact ⟨208, by decide +kernel, by decide +kernel⟩
    | 1, _ => exact ⟨210, by decide +kernel, by decide +kernel⟩
    | 2, _ => exact ⟨212, by decide +kernel, by decide +kernel⟩
    | 3, _ => exact ⟨214, by decide +kernel, by decide +kernel⟩
    | k + 4, hk => exact absurd hk (by omega)
  obtain ⟨i, h1, h2⟩ := h k hk
  exact am_mem h1 h2
theorem am_ws8 : ∀ w ∈ u_ws RX8 TX8 7, w ∈ am_tbl := by
  intro w hw
  obtain ⟨k, hk, rfl⟩ := List.mem_map.mp hw
  have hk := List.mem_range.mp hk
  have h : ∀ k, k < 7 → ∃ i : Nat, lw_tbl[i]? = some (u_lay RX8 TX8 k) ∧ goodWord (u_lay RX8 TX8 k) = true := by
    intro k hk
    match k, hk with
    | 0, _ => exact ⟨224, by decide +kernel, by decide +kernel⟩
    | 1, _ => exact ⟨226, by decide +kernel, by decide +kernel⟩
    | 2, _ => exact ⟨228, by decide +kernel, by decide +kernel⟩
    | 3, _ => exact ⟨230, by decide +kernel, by decide +kernel⟩
    | 4, _ => exact ⟨232, by decide +kernel, by decide +kernel⟩
    | 5, _ => exact ⟨234, by decide +kernel, by decide +kernel⟩
    | 6, _ => exact ⟨236, by decide +kernel, by decide +kernel⟩
    | k + 7, hk => exact absurd hk (by omega)
  obtain ⟨i, h1, h2⟩ := h k hk
  exact am_mem h1 h2
