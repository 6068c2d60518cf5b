/-! what the tables say of the code: decided by the kernel -/
def am_lnok (i : Instr) (n : Nat) : Bool := match i with
  | .tableswitch _ _ _ _ => true
  | .lookupswitch _ _ => true
  | .bipush _ => Nat.beq n 2
  | .ldc _ => Nat.beq n 2
  | .iload _ => Nat.beq n 2
  | .lload _ => Nat.beq n 2
  | .aload _ => Nat.beq n 2
  | .istore _ => Nat.beq n 2
  | .lstore _ => Nat.beq n 2
  | .astore _ => Nat.beq n 2
  | .newarray _ => Nat.beq n 2
  | .sipush _ => Nat.beq n 3
  | .ldc_w _ => Nat.beq n 3
  | .ldc2_w _ => Nat.beq n 3
  | .iinc _ _ => Nat.beq n 3
  | .goto _ => Nat.beq n 3
  | .ifCond _ _ => Nat.beq n 3
  | .if_icmp _ _ => Nat.beq n 3
  | .getstatic _ => Nat.beq n 3
  | .getfield _ => Nat.beq n 3
  | .putfield _ => Nat.beq n 3
  | .invokevirtual _ => Nat.beq n 3
  | .invokestatic _ => Nat.beq n 3
  | .invokespecial _ => Nat.beq n 3
  | .new _ => Nat.beq n 3
  | _ => Nat.beq n 1
def am_psok (i : Instr) : Bool := match i with
  | .lookupswitch _ ps => (ps.toList.zip (ps.toList.drop 1)).all (fun (a, next) => a.1 < next.1)
  | .tableswitch _ lo hi os => decide ((os.size : Int) = hi - lo + 1)
  | _ => true
def am_dok (b : ByteArray) (l : List (Nat × Instr × Nat)) : Bool := l.all fun e => decide (decode b e.1 = .ok (e.2.1, e.2.2)) && am_lnok e.2.1 e.2.2 && am_psok e.2.1
def am_cokI (k : Nat) (e : Nat × Instr × Nat) : Bool := match e.2.1 with
  | .invokevirtual i => (match am_as (am_m k) i with | some q => Nat.beq q.2.1 0 | none => true)
  | .invokestatic i => (match am_as (am_m k) i with | some q => Nat.beq q.2.1 1 | none => true)
  | _ => true
/-- the room for what a method calls -/
def am_rok (t : am_T) : Bool := (am_cd t).all fun e => match am_iv e.2.1 with
  | some k => (match am_ml (am_ow t) k with
    | some t' => Nat.ble (am_fr t' + 1) (am_fr t) && Nat.ble (8 + (am_mL t' + 11) + am_lo t') (am_lo t)
    | none => true) && (!am_ac (am_ow t) k || (Nat.ble 1 (am_fr t) && Nat.ble 18 (am_lo t))) && (!am_mnl (am_ow t) k || (Nat.ble 1 (am_fr t) && Nat.ble 21 (am_lo t)))
  | none => true
def am_nok (q : am_T × Nat × Nat) : Bool := plainName (am_nm q.1).cls && decide ((am_nm q.1).cls ≠ "java/lang/invoke/MethodHandle" ∧ (am_nm q.1).cls ≠ "java/lang/invoke/VarHandle") && decide (lw_tbl[q.2.2]? = some (.initialized (am_nm q.1).cls)) && decide ((am_nm q.1).cls = am_cn (am_ow q.1))
def am_P (q : am_T × Nat × Nat) : Prop := am_dok (am_by q.1) (am_cd q.1) = true ∧ (am_rok q.1 = true ∧ (am_cd q.1).all (am_cokI (am_ow q.1)) = true) ∧ am_nok q = true ∧ lw_tbl[q.2.1]? = some (.code (am_nm q.1) (am_by q.1) (am_mL q.1) (am_rt q.1))
theorem am_P_SB_type : am_P (t_SB_type, 325, 109) := ⟨by decide +kernel, ⟨by decide +kernel, by decide +kernel⟩, by decide +kernel, by decide +kernel⟩
theorem am_P_SB_within : am_P (t_SB_within, 328, 109) := ⟨by decide +kernel, ⟨by decide +kernel, by decide +kernel⟩, by decide +kernel, by decide +kernel⟩
theorem am_P_Pag_kept : am_P (t_Pag_kept, 332, 111) := ⟨by decide +kernel, ⟨by decide +kernel, by decide +kernel⟩, by decide +kernel, by decide +kernel⟩
theorem am_P_Pag_append : am_P (t_Pag_append, 339, 111) := ⟨by decide +kernel, ⟨by decide +kernel, by decide +kernel⟩, by decide +kernel, by decide +kernel⟩
theorem am_P_SB_clear : am_P (t_SB_clear, 343, 109) := ⟨by decide +kernel, ⟨by decide +kernel, by decide +kernel⟩, by decide +kernel, by decide +kernel⟩
theorem am_P_Pag_makeEmpty : am_P (t_Pag_makeEmpty, 347, 111) := ⟨by decide +kernel, ⟨by decide +kernel, by decide +kernel⟩, by decide +kernel, by decide +kernel⟩
theorem am_P_SB_enact : am_P (t_SB_enact, 351, 109) := ⟨by decide +kernel, ⟨by decide +kernel, by decide +kernel⟩, by decide +kernel, by decide +kernel⟩
theorem am_P_Rea_readAmendment : am_P (t_Rea_readAmendment, 355, 110) := ⟨by decide +kernel, ⟨by decide +kernel, by decide +kernel⟩, by decide +kernel, by decide +kernel⟩
theorem am_P_Dra_makeEmpty : am_P (t_Dra_makeEmpty, 359, 113) := ⟨by decide +kernel, ⟨by decide +kernel, by decide +kernel⟩, by decide +kernel, by decide +kernel⟩
theorem am_P_Rea_readOperation : am_P (t_Rea_readOperation, 363, 110) := ⟨by decide +kernel, ⟨by decide +kernel, by decide +kernel⟩, by decide +kernel, by decide +kernel⟩
theorem am_P_Rea_skipBlanks : am_P (t_Rea_skipBlanks, 367, 110) := ⟨by decide +kernel, ⟨by decide +kernel, by decide +kernel⟩, by decide +kernel, by decide +kernel⟩
theorem am_P_Pag_byteAt : am_P (t_Pag_byteAt, 372, 111) := ⟨by decide +kernel, ⟨by decide +kernel, by decide +kernel⟩, by decide +kernel, by decide +kernel⟩
theorem am_P_Dra_size : am_P (t_Dra_size, 376, 113) := ⟨by decide +kernel, ⟨by decide +kernel, by decide +kernel⟩, by decide +kernel, by decide +kernel⟩
theorem am_P_Rea_readKind : am_P (t_Rea_readKind, 380, 110) := ⟨by decide +kernel, ⟨by decide +kernel, by decide +kernel⟩, by decide +kernel, by decide +kernel⟩
theorem am_P_Rea_passes : am_P (t_Rea_passes, 385, 110) := ⟨by decide +kernel, ⟨by decide +kernel, by decide +kernel⟩, by decide +kernel, by decide +kernel⟩
theorem am_P_Str_length : am_P (t_Str_length, 389, 120) := ⟨by decide +kernel, ⟨by decide +kernel, by decide +kernel⟩, by decide +kernel, by decide +kernel⟩
theorem am_P_Str_coder : am_P (t_Str_coder, 393, 120) := ⟨by decide +kernel, ⟨by decide +kernel, by decide +kernel⟩, by decide +kernel, by decide +kernel⟩
theorem am_P_Str_charAt : am_P (t_Str_charAt, 399, 120) := ⟨by decide +kernel, ⟨by decide +kernel, by decide +kernel⟩, by decide +kernel, by decide +kernel⟩
theorem am_P_Str_isLatin1 : am_P (t_Str_isLatin1, 403, 120) := ⟨by decide +kernel, ⟨by decide +kernel, by decide +kernel⟩, by decide +kernel, by decide +kernel⟩
theorem am_P_SL1_charAt : am_P (t_SL1_charAt, 406, 121) := ⟨by decide +kernel, ⟨by decide +kernel, by decide +kernel⟩, by decide +kernel, by decide +kernel⟩
theorem am_P_Str_checkIndex : am_P (t_Str_checkIndex, 409, 120) := ⟨by decide +kernel, ⟨by decide +kernel, by decide +kernel⟩, by decide +kernel, by decide +kernel⟩
theorem am_P_Pre_checkIndex : am_P (t_Pre_checkIndex, 414, 122) := ⟨by decide +kernel, ⟨by decide +kernel, by decide +kernel⟩, by decide +kernel, by decide +kernel⟩
theorem am_P_Rea_isBetween : am_P (t_Rea_isBetween, 436, 110) := ⟨by decide +kernel, ⟨by decide +kernel, by decide +kernel⟩, by decide +kernel, by decide +kernel⟩
theorem am_P_Rea_fail : am_P (t_Rea_fail, 444, 110) := ⟨by decide +kernel, ⟨by decide +kernel, by decide +kernel⟩, by decide +kernel, by decide +kernel⟩
theorem am_P_Rea_readNumber : am_P (t_Rea_readNumber, 448, 110) := ⟨by decide +kernel, ⟨by decide +kernel, by decide +kernel⟩, by decide +kernel, by decide +kernel⟩
theorem am_P_Rea_readDigits : am_P (t_Rea_readDigits, 452, 110) := ⟨by decide +kernel, ⟨by decide +kernel, by decide +kernel⟩, by decide +kernel, by decide +kernel⟩
theorem am_P_Dra_begin : am_P (t_Dra_begin, 456, 113) := ⟨by decide +kernel, ⟨by decide +kernel, by decide +kernel⟩, by decide +kernel, by decide +kernel⟩
theorem am_P_Dra_put : am_P (t_Dra_put, 460, 113) := ⟨by decide +kernel, ⟨by decide +kernel, by decide +kernel⟩, by decide +kernel, by decide +kernel⟩
theorem am_P_Row_set : am_P (t_Row_set, 464, 114) := ⟨by decide +kernel, ⟨by decide +kernel, by decide +kernel⟩, by decide +kernel, by decide +kernel⟩
theorem am_P_Rea_readWords : am_P (t_Rea_readWords, 468, 110) := ⟨by decide +kernel, ⟨by decide +kernel, by decide +kernel⟩, by decide +kernel, by decide +kernel⟩
theorem am_P_Rea_isAtWord : am_P (t_Rea_isAtWord, 472, 110) := ⟨by decide +kernel, ⟨by decide +kernel, by decide +kernel⟩, by decide +kernel, by decide +kernel⟩
theorem am_P_Dra_addWord : am_P (t_Dra_addWord, 476, 113) := ⟨by decide +kernel, ⟨by decide +kernel, by decide +kernel⟩, by decide +kernel, by decide +kernel⟩
theorem am_P_Row_get : am_P (t_Row_get, 480, 114) := ⟨by decide +kernel, ⟨by decide +kernel, by decide +kernel⟩, by decide +kernel, by decide +kernel⟩
theorem am_P_Rea_expect : am_P (t_Rea_expect, 485, 110) := ⟨by decide +kernel, ⟨by decide +kernel, by decide +kernel⟩, by decide +kernel, by decide +kernel⟩
theorem am_P_Rea_readPlain : am_P (t_Rea_readPlain, 491, 110) := ⟨by decide +kernel, ⟨by decide +kernel, by decide +kernel⟩, by decide +kernel, by decide +kernel⟩
theorem am_P_Rea_readSaving : am_P (t_Rea_readSaving, 496, 110) := ⟨by decide +kernel, ⟨by decide +kernel, by decide +kernel⟩, by decide +kernel, by decide +kernel⟩
theorem am_P_Rea_readSemicolon : am_P (t_Rea_readSemicolon, 501, 110) := ⟨by decide +kernel, ⟨by decide +kernel, by decide +kernel⟩, by decide +kernel, by decide +kernel⟩
theorem am_P_SB_addDraft : am_P (t_SB_addDraft, 505, 109) := ⟨by decide +kernel, ⟨by decide +kernel, by decide +kernel⟩, by decide +kernel, by decide +kernel⟩
theorem am_P_Amd_hasRoomFor : am_P (t_Amd_hasRoomFor, 509, 115) := ⟨by decide +kernel, ⟨by decide +kernel, by decide +kernel⟩, by decide +kernel, by decide +kernel⟩
theorem am_P_Amd_size : am_P (t_Amd_size, 513, 115) := ⟨by decide +kernel, ⟨by decide +kernel, by decide +kernel⟩, by decide +kernel, by decide +kernel⟩
theorem am_P_Amd_operations : am_P (t_Amd_operations, 518, 115) := ⟨by decide +kernel, ⟨by decide +kernel, by decide +kernel⟩, by decide +kernel, by decide +kernel⟩
theorem am_P_Amd_identities : am_P (t_Amd_identities, 523, 115) := ⟨by decide +kernel, ⟨by decide +kernel, by decide +kernel⟩, by decide +kernel, by decide +kernel⟩
theorem am_P_Dra_inserts : am_P (t_Dra_inserts, 527, 113) := ⟨by decide +kernel, ⟨by decide +kernel, by decide +kernel⟩, by decide +kernel, by decide +kernel⟩
theorem am_P_Arc_push : am_P (t_Arc_push, 531, 116) := ⟨by decide +kernel, ⟨by decide +kernel, by decide +kernel⟩, by decide +kernel, by decide +kernel⟩
theorem am_P_Arc_putAway : am_P (t_Arc_putAway, 536, 116) := ⟨by decide +kernel, ⟨by decide +kernel, by decide +kernel⟩, by decide +kernel, by decide +kernel⟩
theorem am_P_Row_take : am_P (t_Row_take, 540, 114) := ⟨by decide +kernel, ⟨by decide +kernel, by decide +kernel⟩, by decide +kernel, by decide +kernel⟩
theorem am_P_Amd_add : am_P (t_Amd_add, 547, 115) := ⟨by decide +kernel, ⟨by decide +kernel, by decide +kernel⟩, by decide +kernel, by decide +kernel⟩
theorem am_P_Amd_cell : am_P (t_Amd_cell, 552, 115) := ⟨by decide +kernel, ⟨by decide +kernel, by decide +kernel⟩, by decide +kernel, by decide +kernel⟩
theorem am_P_Amd_setDay : am_P (t_Amd_setDay, 557, 115) := ⟨by decide +kernel, ⟨by decide +kernel, by decide +kernel⟩, by decide +kernel, by decide +kernel⟩
theorem am_P_SB_revoke : am_P (t_SB_revoke, 563, 109) := ⟨by decide +kernel, ⟨by decide +kernel, by decide +kernel⟩, by decide +kernel, by decide +kernel⟩
theorem am_P_Amd_has : am_P (t_Amd_has, 567, 115) := ⟨by decide +kernel, ⟨by decide +kernel, by decide +kernel⟩, by decide +kernel, by decide +kernel⟩
theorem am_P_Amd_isRevoked : am_P (t_Amd_isRevoked, 571, 115) := ⟨by decide +kernel, ⟨by decide +kernel, by decide +kernel⟩, by decide +kernel, by decide +kernel⟩
theorem am_P_Amd_revoked : am_P (t_Amd_revoked, 575, 115) := ⟨by decide +kernel, ⟨by decide +kernel, by decide +kernel⟩, by decide +kernel, by decide +kernel⟩
theorem am_P_Amd_setRevoked : am_P (t_Amd_setRevoked, 579, 115) := ⟨by decide +kernel, ⟨by decide +kernel, by decide +kernel⟩, by decide +kernel, by decide +kernel⟩
theorem am_P_SB_commence : am_P (t_SB_commence, 583, 109) := ⟨by decide +kernel, ⟨by decide +kernel, by decide +kernel⟩, by decide +kernel, by decide +kernel⟩
theorem am_P_Amd_day : am_P (t_Amd_day, 587, 115) := ⟨by decide +kernel, ⟨by decide +kernel, by decide +kernel⟩, by decide +kernel, by decide +kernel⟩
theorem am_P_SB_withdraw : am_P (t_SB_withdraw, 592, 109) := ⟨by decide +kernel, ⟨by decide +kernel, by decide +kernel⟩, by decide +kernel, by decide +kernel⟩
theorem am_P_Amd_removeLast : am_P (t_Amd_removeLast, 596, 115) := ⟨by decide +kernel, ⟨by decide +kernel, by decide +kernel⟩, by decide +kernel, by decide +kernel⟩
theorem am_P_Amd_start : am_P (t_Amd_start, 600, 115) := ⟨by decide +kernel, ⟨by decide +kernel, by decide +kernel⟩, by decide +kernel, by decide +kernel⟩
theorem am_P_SB_undo : am_P (t_SB_undo, 606, 109) := ⟨by decide +kernel, ⟨by decide +kernel, by decide +kernel⟩, by decide +kernel, by decide +kernel⟩
theorem am_P_Arc_states : am_P (t_Arc_states, 610, 116) := ⟨by decide +kernel, ⟨by decide +kernel, by decide +kernel⟩, by decide +kernel, by decide +kernel⟩
theorem am_P_Arc_pop : am_P (t_Arc_pop, 614, 116) := ⟨by decide +kernel, ⟨by decide +kernel, by decide +kernel⟩, by decide +kernel, by decide +kernel⟩
theorem am_P_Arc_bring : am_P (t_Arc_bring, 618, 116) := ⟨by decide +kernel, ⟨by decide +kernel, by decide +kernel⟩, by decide +kernel, by decide +kernel⟩
theorem am_P_SB_amendment : am_P (t_SB_amendment, 622, 109) := ⟨by decide +kernel, ⟨by decide +kernel, by decide +kernel⟩, by decide +kernel, by decide +kernel⟩
theorem am_P_SB_consolidateFully : am_P (t_SB_consolidateFully, 626, 109) := ⟨by decide +kernel, ⟨by decide +kernel, by decide +kernel⟩, by decide +kernel, by decide +kernel⟩
theorem am_P_Law_consolidate : am_P (t_Law_consolidate, 630, 117) := ⟨by decide +kernel, ⟨by decide +kernel, by decide +kernel⟩, by decide +kernel, by decide +kernel⟩
theorem am_P_Row_fill : am_P (t_Row_fill, 634, 114) := ⟨by decide +kernel, ⟨by decide +kernel, by decide +kernel⟩, by decide +kernel, by decide +kernel⟩
theorem am_P_Arr_fill : am_P (t_Arr_fill, 637, 125) := ⟨by decide +kernel, ⟨by decide +kernel, by decide +kernel⟩, by decide +kernel, by decide +kernel⟩
theorem am_P_Law_nextKey : am_P (t_Law_nextKey, 640, 117) := ⟨by decide +kernel, ⟨by decide +kernel, by decide +kernel⟩, by decide +kernel, by decide +kernel⟩
theorem am_P_Law_carryOut : am_P (t_Law_carryOut, 646, 117) := ⟨by decide +kernel, ⟨by decide +kernel, by decide +kernel⟩, by decide +kernel, by decide +kernel⟩
theorem am_P_Law_holder : am_P (t_Law_holder, 652, 117) := ⟨by decide +kernel, ⟨by decide +kernel, by decide +kernel⟩, by decide +kernel, by decide +kernel⟩
theorem am_P_Law_resolves : am_P (t_Law_resolves, 657, 117) := ⟨by decide +kernel, ⟨by decide +kernel, by decide +kernel⟩, by decide +kernel, by decide +kernel⟩
theorem am_P_Law_reason : am_P (t_Law_reason, 662, 117) := ⟨by decide +kernel, ⟨by decide +kernel, by decide +kernel⟩, by decide +kernel, by decide +kernel⟩
theorem am_P_Law_contains : am_P (t_Law_contains, 666, 117) := ⟨by decide +kernel, ⟨by decide +kernel, by decide +kernel⟩, by decide +kernel, by decide +kernel⟩
theorem am_P_Law_perform : am_P (t_Law_perform, 670, 117) := ⟨by decide +kernel, ⟨by decide +kernel, by decide +kernel⟩, by decide +kernel, by decide +kernel⟩
theorem am_P_Law_setText : am_P (t_Law_setText, 674, 117) := ⟨by decide +kernel, ⟨by decide +kernel, by decide +kernel⟩, by decide +kernel, by decide +kernel⟩
theorem am_P_Law_change : am_P (t_Law_change, 679, 117) := ⟨by decide +kernel, ⟨by decide +kernel, by decide +kernel⟩, by decide +kernel, by decide +kernel⟩
theorem am_P_Law_arrange : am_P (t_Law_arrange, 683, 117) := ⟨by decide +kernel, ⟨by decide +kernel, by decide +kernel⟩, by decide +kernel, by decide +kernel⟩
theorem am_P_SB_amendmentPart : am_P (t_SB_amendmentPart, 687, 109) := ⟨by decide +kernel, ⟨by decide +kernel, by decide +kernel⟩, by decide +kernel, by decide +kernel⟩
theorem am_P_Amd_operationsOf : am_P (t_Amd_operationsOf, 691, 115) := ⟨by decide +kernel, ⟨by decide +kernel, by decide +kernel⟩, by decide +kernel, by decide +kernel⟩
theorem am_P_Law_effective : am_P (t_Law_effective, 696, 117) := ⟨by decide +kernel, ⟨by decide +kernel, by decide +kernel⟩, by decide +kernel, by decide +kernel⟩
theorem am_P_Law_status : am_P (t_Law_status, 700, 117) := ⟨by decide +kernel, ⟨by decide +kernel, by decide +kernel⟩, by decide +kernel, by decide +kernel⟩
theorem am_P_SB_operation : am_P (t_SB_operation, 704, 109) := ⟨by decide +kernel, ⟨by decide +kernel, by decide +kernel⟩, by decide +kernel, by decide +kernel⟩
theorem am_P_Amd_hasOperation : am_P (t_Amd_hasOperation, 708, 115) := ⟨by decide +kernel, ⟨by decide +kernel, by decide +kernel⟩, by decide +kernel, by decide +kernel⟩
theorem am_P_SB_operationPart : am_P (t_SB_operationPart, 714, 109) := ⟨by decide +kernel, ⟨by decide +kernel, by decide +kernel⟩, by decide +kernel, by decide +kernel⟩
theorem am_P_Law_affected : am_P (t_Law_affected, 719, 117) := ⟨by decide +kernel, ⟨by decide +kernel, by decide +kernel⟩, by decide +kernel, by decide +kernel⟩
theorem am_P_SB_word : am_P (t_SB_word, 724, 109) := ⟨by decide +kernel, ⟨by decide +kernel, by decide +kernel⟩, by decide +kernel, by decide +kernel⟩
theorem am_P_SB_clauses : am_P (t_SB_clauses, 728, 109) := ⟨by decide +kernel, ⟨by decide +kernel, by decide +kernel⟩, by decide +kernel, by decide +kernel⟩
theorem am_P_SB_isLaw : am_P (t_SB_isLaw, 731, 109) := ⟨by decide +kernel, ⟨by decide +kernel, by decide +kernel⟩, by decide +kernel, by decide +kernel⟩
theorem am_P_SB_consolidate : am_P (t_SB_consolidate, 735, 109) := ⟨by decide +kernel, ⟨by decide +kernel, by decide +kernel⟩, by decide +kernel, by decide +kernel⟩
theorem am_P_Law_size : am_P (t_Law_size, 739, 117) := ⟨by decide +kernel, ⟨by decide +kernel, by decide +kernel⟩, by decide +kernel, by decide +kernel⟩
theorem am_P_SB_clause : am_P (t_SB_clause, 743, 109) := ⟨by decide +kernel, ⟨by decide +kernel, by decide +kernel⟩, by decide +kernel, by decide +kernel⟩
theorem am_P_Law_at : am_P (t_Law_at, 747, 117) := ⟨by decide +kernel, ⟨by decide +kernel, by decide +kernel⟩, by decide +kernel, by decide +kernel⟩
theorem am_P_SB_clausePart : am_P (t_SB_clausePart, 751, 109) := ⟨by decide +kernel, ⟨by decide +kernel, by decide +kernel⟩, by decide +kernel, by decide +kernel⟩
theorem am_P_Law_code : am_P (t_Law_code, 755, 117) := ⟨by decide +kernel, ⟨by decide +kernel, by decide +kernel⟩, by decide +kernel, by decide +kernel⟩
theorem am_P_Law_length : am_P (t_Law_length, 759, 117) := ⟨by decide +kernel, ⟨by decide +kernel, by decide +kernel⟩, by decide +kernel, by decide +kernel⟩
theorem am_P_Law_lastDay : am_P (t_Law_lastDay, 763, 117) := ⟨by decide +kernel, ⟨by decide +kernel, by decide +kernel⟩, by decide +kernel, by decide +kernel⟩
theorem am_P_SB_textWord : am_P (t_SB_textWord, 767, 109) := ⟨by decide +kernel, ⟨by decide +kernel, by decide +kernel⟩, by decide +kernel, by decide +kernel⟩
theorem am_P_SB_presentWord : am_P (t_SB_presentWord, 771, 109) := ⟨by decide +kernel, ⟨by decide +kernel, by decide +kernel⟩, by decide +kernel, by decide +kernel⟩
theorem am_P_Law_said : am_P (t_Law_said, 775, 117) := ⟨by decide +kernel, ⟨by decide +kernel, by decide +kernel⟩, by decide +kernel, by decide +kernel⟩
theorem am_P_SB_find : am_P (t_SB_find, 779, 109) := ⟨by decide +kernel, ⟨by decide +kernel, by decide +kernel⟩, by decide +kernel, by decide +kernel⟩
theorem am_P_SB_isCode : am_P (t_SB_isCode, 782, 109) := ⟨by decide +kernel, ⟨by decide +kernel, by decide +kernel⟩, by decide +kernel, by decide +kernel⟩
theorem am_P_Law_indexOf : am_P (t_Law_indexOf, 786, 117) := ⟨by decide +kernel, ⟨by decide +kernel, by decide +kernel⟩, by decide +kernel, by decide +kernel⟩
theorem am_P_SB_print : am_P (t_SB_print, 792, 109) := ⟨by decide +kernel, ⟨by decide +kernel, by decide +kernel⟩, by decide +kernel, by decide +kernel⟩
theorem am_P_SB_printClause : am_P (t_SB_printClause, 796, 109) := ⟨by decide +kernel, ⟨by decide +kernel, by decide +kernel⟩, by decide +kernel, by decide +kernel⟩
theorem am_P_Pag_appendNumber : am_P (t_Pag_appendNumber, 800, 111) := ⟨by decide +kernel, ⟨by decide +kernel, by decide +kernel⟩, by decide +kernel, by decide +kernel⟩
theorem am_P_Pag_appendInteger : am_P (t_Pag_appendInteger, 804, 111) := ⟨by decide +kernel, ⟨by decide +kernel, by decide +kernel⟩, by decide +kernel, by decide +kernel⟩
theorem am_P_Pag_written : am_P (t_Pag_written, 810, 111) := ⟨by decide +kernel, ⟨by decide +kernel, by decide +kernel⟩, by decide +kernel, by decide +kernel⟩
theorem am_P_SB_printed : am_P (t_SB_printed, 814, 109) := ⟨by decide +kernel, ⟨by decide +kernel, by decide +kernel⟩, by decide +kernel, by decide +kernel⟩
theorem am_P_SB_history : am_P (t_SB_history, 819, 109) := ⟨by decide +kernel, ⟨by decide +kernel, by decide +kernel⟩, by decide +kernel, by decide +kernel⟩
theorem am_P_SB_isIdentity : am_P (t_SB_isIdentity, 823, 109) := ⟨by decide +kernel, ⟨by decide +kernel, by decide +kernel⟩, by decide +kernel, by decide +kernel⟩
theorem am_P_Law_effectOn : am_P (t_Law_effectOn, 828, 117) := ⟨by decide +kernel, ⟨by decide +kernel, by decide +kernel⟩, by decide +kernel, by decide +kernel⟩
theorem am_P_Amd_amendmentOf : am_P (t_Amd_amendmentOf, 833, 115) := ⟨by decide +kernel, ⟨by decide +kernel, by decide +kernel⟩, by decide +kernel, by decide +kernel⟩
theorem am_P_SB_difference : am_P (t_SB_difference, 837, 109) := ⟨by decide +kernel, ⟨by decide +kernel, by decide +kernel⟩, by decide +kernel, by decide +kernel⟩
theorem am_P_SB_differs : am_P (t_SB_differs, 841, 109) := ⟨by decide +kernel, ⟨by decide +kernel, by decide +kernel⟩, by decide +kernel, by decide +kernel⟩
theorem am_P_Law_saysTheSame : am_P (t_Law_saysTheSame, 845, 117) := ⟨by decide +kernel, ⟨by decide +kernel, by decide +kernel⟩, by decide +kernel, by decide +kernel⟩
theorem am_P_SB_containing : am_P (t_SB_containing, 851, 109) := ⟨by decide +kernel, ⟨by decide +kernel, by decide +kernel⟩, by decide +kernel, by decide +kernel⟩
theorem am_P_Law_clausesWith : am_P (t_Law_clausesWith, 855, 117) := ⟨by decide +kernel, ⟨by decide +kernel, by decide +kernel⟩, by decide +kernel, by decide +kernel⟩
theorem am_P_SB_references : am_P (t_SB_references, 859, 109) := ⟨by decide +kernel, ⟨by decide +kernel, by decide +kernel⟩, by decide +kernel, by decide +kernel⟩
theorem am_P_SB_referencesFrom : am_P (t_SB_referencesFrom, 863, 109) := ⟨by decide +kernel, ⟨by decide +kernel, by decide +kernel⟩, by decide +kernel, by decide +kernel⟩
theorem am_P_Law_target : am_P (t_Law_target, 867, 117) := ⟨by decide +kernel, ⟨by decide +kernel, by decide +kernel⟩, by decide +kernel, by decide +kernel⟩
theorem am_P_SB_reach : am_P (t_SB_reach, 871, 109) := ⟨by decide +kernel, ⟨by decide +kernel, by decide +kernel⟩, by decide +kernel, by decide +kernel⟩
theorem am_P_Wal_follow : am_P (t_Wal_follow, 875, 118) := ⟨by decide +kernel, ⟨by decide +kernel, by decide +kernel⟩, by decide +kernel, by decide +kernel⟩
theorem am_P_Wal_meet : am_P (t_Wal_meet, 880, 118) := ⟨by decide +kernel, ⟨by decide +kernel, by decide +kernel⟩, by decide +kernel, by decide +kernel⟩
theorem am_P_Wal_reached : am_P (t_Wal_reached, 889, 118) := ⟨by decide +kernel, ⟨by decide +kernel, by decide +kernel⟩, by decide +kernel, by decide +kernel⟩
theorem am_P_Wal_greatestDistance : am_P (t_Wal_greatestDistance, 893, 118) := ⟨by decide +kernel, ⟨by decide +kernel, by decide +kernel⟩, by decide +kernel, by decide +kernel⟩
theorem am_P_Wal_comesBack : am_P (t_Wal_comesBack, 897, 118) := ⟨by decide +kernel, ⟨by decide +kernel, by decide +kernel⟩, by decide +kernel, by decide +kernel⟩
theorem am_P_SB_tally : am_P (t_SB_tally, 901, 109) := ⟨by decide +kernel, ⟨by decide +kernel, by decide +kernel⟩, by decide +kernel, by decide +kernel⟩
theorem am_P_SB_tallyPart : am_P (t_SB_tallyPart, 905, 109) := ⟨by decide +kernel, ⟨by decide +kernel, by decide +kernel⟩, by decide +kernel, by decide +kernel⟩
theorem am_P_SB_conflicts : am_P (t_SB_conflicts, 909, 109) := ⟨by decide +kernel, ⟨by decide +kernel, by decide +kernel⟩, by decide +kernel, by decide +kernel⟩
theorem am_P_SB_clash : am_P (t_SB_clash, 914, 109) := ⟨by decide +kernel, ⟨by decide +kernel, by decide +kernel⟩, by decide +kernel, by decide +kernel⟩
theorem am_P_SB_conflict : am_P (t_SB_conflict, 918, 109) := ⟨by decide +kernel, ⟨by decide +kernel, by decide +kernel⟩, by decide +kernel, by decide +kernel⟩
theorem am_P_SB_conflictPart : am_P (t_SB_conflictPart, 922, 109) := ⟨by decide +kernel, ⟨by decide +kernel, by decide +kernel⟩, by decide +kernel, by decide +kernel⟩
theorem am_P_SB_effect : am_P (t_SB_effect, 926, 109) := ⟨by decide +kernel, ⟨by decide +kernel, by decide +kernel⟩, by decide +kernel, by decide +kernel⟩
theorem am_P_SB_fewestRevocations : am_P (t_SB_fewestRevocations, 930, 109) := ⟨by decide +kernel, ⟨by decide +kernel, by decide +kernel⟩, by decide +kernel, by decide +kernel⟩
theorem am_P_SB_vanishes : am_P (t_SB_vanishes, 934, 109) := ⟨by decide +kernel, ⟨by decide +kernel, by decide +kernel⟩, by decide +kernel, by decide +kernel⟩
theorem am_P_SB_isCarriedOut : am_P (t_SB_isCarriedOut, 938, 109) := ⟨by decide +kernel, ⟨by decide +kernel, by decide +kernel⟩, by decide +kernel, by decide +kernel⟩
theorem am_P_SB_between : am_P (t_SB_between, 942, 109) := ⟨by decide +kernel, ⟨by decide +kernel, by decide +kernel⟩, by decide +kernel, by decide +kernel⟩
theorem am_P_SB_numberBetween : am_P (t_SB_numberBetween, 946, 109) := ⟨by decide +kernel, ⟨by decide +kernel, by decide +kernel⟩, by decide +kernel, by decide +kernel⟩
theorem am_P_SB_tidy : am_P (t_SB_tidy, 950, 109) := ⟨by decide +kernel, ⟨by decide +kernel, by decide +kernel⟩, by decide +kernel, by decide +kernel⟩
theorem am_P_SB_draftTidying : am_P (t_SB_draftTidying, 954, 109) := ⟨by decide +kernel, ⟨by decide +kernel, by decide +kernel⟩, by decide +kernel, by decide +kernel⟩
theorem am_P_SB_save : am_P (t_SB_save, 962, 109) := ⟨by decide +kernel, ⟨by decide +kernel, by decide +kernel⟩, by decide +kernel, by decide +kernel⟩
theorem am_P_Arc_keepSnapshot : am_P (t_Arc_keepSnapshot, 966, 116) := ⟨by decide +kernel, ⟨by decide +kernel, by decide +kernel⟩, by decide +kernel, by decide +kernel⟩
theorem am_P_SB_restore : am_P (t_SB_restore, 970, 109) := ⟨by decide +kernel, ⟨by decide +kernel, by decide +kernel⟩, by decide +kernel, by decide +kernel⟩
theorem am_P_Arc_hasSnapshot : am_P (t_Arc_hasSnapshot, 974, 116) := ⟨by decide +kernel, ⟨by decide +kernel, by decide +kernel⟩, by decide +kernel, by decide +kernel⟩
theorem am_P_Arc_bringSnapshot : am_P (t_Arc_bringSnapshot, 978, 116) := ⟨by decide +kernel, ⟨by decide +kernel, by decide +kernel⟩, by decide +kernel, by decide +kernel⟩
theorem am_P_SB_count : am_P (t_SB_count, 982, 109) := ⟨by decide +kernel, ⟨by decide +kernel, by decide +kernel⟩, by decide +kernel, by decide +kernel⟩
theorem am_P_SB_countPart : am_P (t_SB_countPart, 986, 109) := ⟨by decide +kernel, ⟨by decide +kernel, by decide +kernel⟩, by decide +kernel, by decide +kernel⟩
theorem am_P_Int_bitCount : am_P (t_Int_bitCount, 989, 126) := ⟨by decide +kernel, ⟨by decide +kernel, by decide +kernel⟩, by decide +kernel, by decide +kernel⟩
theorem am_P_Arc_snapshots : am_P (t_Arc_snapshots, 996, 116) := ⟨by decide +kernel, ⟨by decide +kernel, by decide +kernel⟩, by decide +kernel, by decide +kernel⟩
theorem am_P_SB_digest : am_P (t_SB_digest, 1001, 109) := ⟨by decide +kernel, ⟨by decide +kernel, by decide +kernel⟩, by decide +kernel, by decide +kernel⟩
theorem am_P_SB_mixed : am_P (t_SB_mixed, 1005, 109) := ⟨by decide +kernel, ⟨by decide +kernel, by decide +kernel⟩, by decide +kernel, by decide +kernel⟩
theorem am_P_SB_mixedAmendment : am_P (t_SB_mixedAmendment, 1010, 109) := ⟨by decide +kernel, ⟨by decide +kernel, by decide +kernel⟩, by decide +kernel, by decide +kernel⟩
theorem am_P_SB_mixedClause : am_P (t_SB_mixedClause, 1014, 109) := ⟨by decide +kernel, ⟨by decide +kernel, by decide +kernel⟩, by decide +kernel, by decide +kernel⟩
theorem am_P_SB_mixedPage : am_P (t_SB_mixedPage, 1017, 109) := ⟨by decide +kernel, ⟨by decide +kernel, by decide +kernel⟩, by decide +kernel, by decide +kernel⟩
theorem am_P_Mo_type : am_P (t_Mo_type, 1121, 119) := ⟨by decide +kernel, ⟨by decide +kernel, by decide +kernel⟩, by decide +kernel, by decide +kernel⟩
theorem am_P_Mo_in : am_P (t_Mo_in, 1124, 119) := ⟨by decide +kernel, ⟨by decide +kernel, by decide +kernel⟩, by decide +kernel, by decide +kernel⟩
theorem am_P_Mo_clear : am_P (t_Mo_clear, 1128, 119) := ⟨by decide +kernel, ⟨by decide +kernel, by decide +kernel⟩, by decide +kernel, by decide +kernel⟩
theorem am_P_Mo_enact : am_P (t_Mo_enact, 1132, 119) := ⟨by decide +kernel, ⟨by decide +kernel, by decide +kernel⟩, by decide +kernel, by decide +kernel⟩
theorem am_P_Mo_isDay : am_P (t_Mo_isDay, 1135, 119) := ⟨by decide +kernel, ⟨by decide +kernel, by decide +kernel⟩, by decide +kernel, by decide +kernel⟩
theorem am_P_Mo_readsAll : am_P (t_Mo_readsAll, 1139, 119) := ⟨by decide +kernel, ⟨by decide +kernel, by decide +kernel⟩, by decide +kernel, by decide +kernel⟩
theorem am_P_Mo_skips : am_P (t_Mo_skips, 1143, 119) := ⟨by decide +kernel, ⟨by decide +kernel, by decide +kernel⟩, by decide +kernel, by decide +kernel⟩
theorem am_P_Mo_byteAt : am_P (t_Mo_byteAt, 1147, 119) := ⟨by decide +kernel, ⟨by decide +kernel, by decide +kernel⟩, by decide +kernel, by decide +kernel⟩
theorem am_P_Mo_readsOperation : am_P (t_Mo_readsOperation, 1151, 119) := ⟨by decide +kernel, ⟨by decide +kernel, by decide +kernel⟩, by decide +kernel, by decide +kernel⟩
theorem am_P_Mo_fails : am_P (t_Mo_fails, 1155, 119) := ⟨by decide +kernel, ⟨by decide +kernel, by decide +kernel⟩, by decide +kernel, by decide +kernel⟩
theorem am_P_Mo_puts : am_P (t_Mo_puts, 1159, 119) := ⟨by decide +kernel, ⟨by decide +kernel, by decide +kernel⟩, by decide +kernel, by decide +kernel⟩
theorem am_P_Mo_readsLetters : am_P (t_Mo_readsLetters, 1163, 119) := ⟨by decide +kernel, ⟨by decide +kernel, by decide +kernel⟩, by decide +kernel, by decide +kernel⟩
theorem am_P_Mo_isSmall : am_P (t_Mo_isSmall, 1167, 119) := ⟨by decide +kernel, ⟨by decide +kernel, by decide +kernel⟩, by decide +kernel, by decide +kernel⟩
theorem am_P_Mo_kindOf : am_P (t_Mo_kindOf, 1173, 119) := ⟨by decide +kernel, ⟨by decide +kernel, by decide +kernel⟩, by decide +kernel, by decide +kernel⟩
theorem am_P_Mo_lettersOf : am_P (t_Mo_lettersOf, 1176, 119) := ⟨by decide +kernel, ⟨by decide +kernel, by decide +kernel⟩, by decide +kernel, by decide +kernel⟩
theorem am_P_Mo_numberBehindBlanks : am_P (t_Mo_numberBehindBlanks, 1180, 119) := ⟨by decide +kernel, ⟨by decide +kernel, by decide +kernel⟩, by decide +kernel, by decide +kernel⟩
theorem am_P_Mo_readsNumber : am_P (t_Mo_readsNumber, 1184, 119) := ⟨by decide +kernel, ⟨by decide +kernel, by decide +kernel⟩, by decide +kernel, by decide +kernel⟩
theorem am_P_Mo_readsDigits : am_P (t_Mo_readsDigits, 1188, 119) := ⟨by decide +kernel, ⟨by decide +kernel, by decide +kernel⟩, by decide +kernel, by decide +kernel⟩
theorem am_P_Mo_isDigit : am_P (t_Mo_isDigit, 1192, 119) := ⟨by decide +kernel, ⟨by decide +kernel, by decide +kernel⟩, by decide +kernel, by decide +kernel⟩
theorem am_P_Mo_letter : am_P (t_Mo_letter, 1196, 119) := ⟨by decide +kernel, ⟨by decide +kernel, by decide +kernel⟩, by decide +kernel, by decide +kernel⟩
theorem am_P_Mo_readsWords : am_P (t_Mo_readsWords, 1200, 119) := ⟨by decide +kernel, ⟨by decide +kernel, by decide +kernel⟩, by decide +kernel, by decide +kernel⟩
theorem am_P_Mo_needsWord : am_P (t_Mo_needsWord, 1204, 119) := ⟨by decide +kernel, ⟨by decide +kernel, by decide +kernel⟩, by decide +kernel, by decide +kernel⟩
theorem am_P_Mo_plainBehindBlanks : am_P (t_Mo_plainBehindBlanks, 1208, 119) := ⟨by decide +kernel, ⟨by decide +kernel, by decide +kernel⟩, by decide +kernel, by decide +kernel⟩
theorem am_P_Mo_readsSaving : am_P (t_Mo_readsSaving, 1212, 119) := ⟨by decide +kernel, ⟨by decide +kernel, by decide +kernel⟩, by decide +kernel, by decide +kernel⟩
theorem am_P_Mo_adds : am_P (t_Mo_adds, 1216, 119) := ⟨by decide +kernel, ⟨by decide +kernel, by decide +kernel⟩, by decide +kernel, by decide +kernel⟩
theorem am_P_Mo_readInserts : am_P (t_Mo_readInserts, 1220, 119) := ⟨by decide +kernel, ⟨by decide +kernel, by decide +kernel⟩, by decide +kernel, by decide +kernel⟩
theorem am_P_Mo_operations : am_P (t_Mo_operations, 1224, 119) := ⟨by decide +kernel, ⟨by decide +kernel, by decide +kernel⟩, by decide +kernel, by decide +kernel⟩
theorem am_P_Mo_identities : am_P (t_Mo_identities, 1228, 119) := ⟨by decide +kernel, ⟨by decide +kernel, by decide +kernel⟩, by decide +kernel, by decide +kernel⟩
theorem am_P_Mo_identitiesAhead : am_P (t_Mo_identitiesAhead, 1232, 119) := ⟨by decide +kernel, ⟨by decide +kernel, by decide +kernel⟩, by decide +kernel, by decide +kernel⟩
theorem am_P_Mo_part : am_P (t_Mo_part, 1236, 119) := ⟨by decide +kernel, ⟨by decide +kernel, by decide +kernel⟩, by decide +kernel, by decide +kernel⟩
theorem am_P_Mo_keeps : am_P (t_Mo_keeps, 1240, 119) := ⟨by decide +kernel, ⟨by decide +kernel, by decide +kernel⟩, by decide +kernel, by decide +kernel⟩
theorem am_P_Mo_revoke : am_P (t_Mo_revoke, 1244, 119) := ⟨by decide +kernel, ⟨by decide +kernel, by decide +kernel⟩, by decide +kernel, by decide +kernel⟩
theorem am_P_Mo_isAmendment : am_P (t_Mo_isAmendment, 1248, 119) := ⟨by decide +kernel, ⟨by decide +kernel, by decide +kernel⟩, by decide +kernel, by decide +kernel⟩
theorem am_P_Mo_commence : am_P (t_Mo_commence, 1252, 119) := ⟨by decide +kernel, ⟨by decide +kernel, by decide +kernel⟩, by decide +kernel, by decide +kernel⟩
theorem am_P_Mo_withdraw : am_P (t_Mo_withdraw, 1256, 119) := ⟨by decide +kernel, ⟨by decide +kernel, by decide +kernel⟩, by decide +kernel, by decide +kernel⟩
theorem am_P_Mo_undo : am_P (t_Mo_undo, 1260, 119) := ⟨by decide +kernel, ⟨by decide +kernel, by decide +kernel⟩, by decide +kernel, by decide +kernel⟩
theorem am_P_Mo_amendment : am_P (t_Mo_amendment, 1264, 119) := ⟨by decide +kernel, ⟨by decide +kernel, by decide +kernel⟩, by decide +kernel, by decide +kernel⟩
theorem am_P_Mo_fullLaw : am_P (t_Mo_fullLaw, 1268, 119) := ⟨by decide +kernel, ⟨by decide +kernel, by decide +kernel⟩, by decide +kernel, by decide +kernel⟩
theorem am_P_Mo_laws : am_P (t_Mo_laws, 1272, 119) := ⟨by decide +kernel, ⟨by decide +kernel, by decide +kernel⟩, by decide +kernel, by decide +kernel⟩
theorem am_P_Mo_offAsRevoked : am_P (t_Mo_offAsRevoked, 1276, 119) := ⟨by decide +kernel, ⟨by decide +kernel, by decide +kernel⟩, by decide +kernel, by decide +kernel⟩
theorem am_P_Mo_consolidates : am_P (t_Mo_consolidates, 1280, 119) := ⟨by decide +kernel, ⟨by decide +kernel, by decide +kernel⟩, by decide +kernel, by decide +kernel⟩
theorem am_P_Mo_nextAmendment : am_P (t_Mo_nextAmendment, 1284, 119) := ⟨by decide +kernel, ⟨by decide +kernel, by decide +kernel⟩, by decide +kernel, by decide +kernel⟩
theorem am_P_Mo_firstOf : am_P (t_Mo_firstOf, 1288, 119) := ⟨by decide +kernel, ⟨by decide +kernel, by decide +kernel⟩, by decide +kernel, by decide +kernel⟩
theorem am_P_Mo_carriesOut : am_P (t_Mo_carriesOut, 1292, 119) := ⟨by decide +kernel, ⟨by decide +kernel, by decide +kernel⟩, by decide +kernel, by decide +kernel⟩
theorem am_P_Mo_withCode : am_P (t_Mo_withCode, 1296, 119) := ⟨by decide +kernel, ⟨by decide +kernel, by decide +kernel⟩, by decide +kernel, by decide +kernel⟩
theorem am_P_Mo_reasonOf : am_P (t_Mo_reasonOf, 1300, 119) := ⟨by decide +kernel, ⟨by decide +kernel, by decide +kernel⟩, by decide +kernel, by decide +kernel⟩
theorem am_P_Mo_hasWord : am_P (t_Mo_hasWord, 1304, 119) := ⟨by decide +kernel, ⟨by decide +kernel, by decide +kernel⟩, by decide +kernel, by decide +kernel⟩
theorem am_P_Mo_areReferred : am_P (t_Mo_areReferred, 1308, 119) := ⟨by decide +kernel, ⟨by decide +kernel, by decide +kernel⟩, by decide +kernel, by decide +kernel⟩
theorem am_P_Mo_setsText : am_P (t_Mo_setsText, 1312, 119) := ⟨by decide +kernel, ⟨by decide +kernel, by decide +kernel⟩, by decide +kernel, by decide +kernel⟩
theorem am_P_Mo_statusOf : am_P (t_Mo_statusOf, 1316, 119) := ⟨by decide +kernel, ⟨by decide +kernel, by decide +kernel⟩, by decide +kernel, by decide +kernel⟩
theorem am_P_Mo_amendmentOf : am_P (t_Mo_amendmentOf, 1320, 119) := ⟨by decide +kernel, ⟨by decide +kernel, by decide +kernel⟩, by decide +kernel, by decide +kernel⟩
theorem am_P_Mo_operation : am_P (t_Mo_operation, 1324, 119) := ⟨by decide +kernel, ⟨by decide +kernel, by decide +kernel⟩, by decide +kernel, by decide +kernel⟩
theorem am_P_Mo_isOperation : am_P (t_Mo_isOperation, 1328, 119) := ⟨by decide +kernel, ⟨by decide +kernel, by decide +kernel⟩, by decide +kernel, by decide +kernel⟩
theorem am_P_Mo_told : am_P (t_Mo_told, 1332, 119) := ⟨by decide +kernel, ⟨by decide +kernel, by decide +kernel⟩, by decide +kernel, by decide +kernel⟩
theorem am_P_Mo_word : am_P (t_Mo_word, 1336, 119) := ⟨by decide +kernel, ⟨by decide +kernel, by decide +kernel⟩, by decide +kernel, by decide +kernel⟩
theorem am_P_Mo_clauses : am_P (t_Mo_clauses, 1340, 119) := ⟨by decide +kernel, ⟨by decide +kernel, by decide +kernel⟩, by decide +kernel, by decide +kernel⟩
theorem am_P_Mo_isCase : am_P (t_Mo_isCase, 1343, 119) := ⟨by decide +kernel, ⟨by decide +kernel, by decide +kernel⟩, by decide +kernel, by decide +kernel⟩
theorem am_P_Mo_inForce : am_P (t_Mo_inForce, 1347, 119) := ⟨by decide +kernel, ⟨by decide +kernel, by decide +kernel⟩, by decide +kernel, by decide +kernel⟩
theorem am_P_Mo_clause : am_P (t_Mo_clause, 1351, 119) := ⟨by decide +kernel, ⟨by decide +kernel, by decide +kernel⟩, by decide +kernel, by decide +kernel⟩
theorem am_P_Mo_atIndex : am_P (t_Mo_atIndex, 1355, 119) := ⟨by decide +kernel, ⟨by decide +kernel, by decide +kernel⟩, by decide +kernel, by decide +kernel⟩
theorem am_P_Mo_indexOf : am_P (t_Mo_indexOf, 1359, 119) := ⟨by decide +kernel, ⟨by decide +kernel, by decide +kernel⟩, by decide +kernel, by decide +kernel⟩
theorem am_P_Mo_about : am_P (t_Mo_about, 1363, 119) := ⟨by decide +kernel, ⟨by decide +kernel, by decide +kernel⟩, by decide +kernel, by decide +kernel⟩
theorem am_P_Mo_textWord : am_P (t_Mo_textWord, 1367, 119) := ⟨by decide +kernel, ⟨by decide +kernel, by decide +kernel⟩, by decide +kernel, by decide +kernel⟩
theorem am_P_Mo_toldWord : am_P (t_Mo_toldWord, 1371, 119) := ⟨by decide +kernel, ⟨by decide +kernel, by decide +kernel⟩, by decide +kernel, by decide +kernel⟩
theorem am_P_Mo_find : am_P (t_Mo_find, 1375, 119) := ⟨by decide +kernel, ⟨by decide +kernel, by decide +kernel⟩, by decide +kernel, by decide +kernel⟩
theorem am_P_Mo_isCode : am_P (t_Mo_isCode, 1378, 119) := ⟨by decide +kernel, ⟨by decide +kernel, by decide +kernel⟩, by decide +kernel, by decide +kernel⟩
theorem am_P_Mo_print : am_P (t_Mo_print, 1383, 119) := ⟨by decide +kernel, ⟨by decide +kernel, by decide +kernel⟩, by decide +kernel, by decide +kernel⟩
theorem am_P_Mo_printsNumber : am_P (t_Mo_printsNumber, 1387, 119) := ⟨by decide +kernel, ⟨by decide +kernel, by decide +kernel⟩, by decide +kernel, by decide +kernel⟩
theorem am_P_Mo_printsInteger : am_P (t_Mo_printsInteger, 1391, 119) := ⟨by decide +kernel, ⟨by decide +kernel, by decide +kernel⟩, by decide +kernel, by decide +kernel⟩
theorem am_P_Mo_prints : am_P (t_Mo_prints, 1395, 119) := ⟨by decide +kernel, ⟨by decide +kernel, by decide +kernel⟩, by decide +kernel, by decide +kernel⟩
theorem am_P_Mo_printed : am_P (t_Mo_printed, 1399, 119) := ⟨by decide +kernel, ⟨by decide +kernel, by decide +kernel⟩, by decide +kernel, by decide +kernel⟩
theorem am_P_Mo_history : am_P (t_Mo_history, 1403, 119) := ⟨by decide +kernel, ⟨by decide +kernel, by decide +kernel⟩, by decide +kernel, by decide +kernel⟩
theorem am_P_Mo_isIdentity : am_P (t_Mo_isIdentity, 1407, 119) := ⟨by decide +kernel, ⟨by decide +kernel, by decide +kernel⟩, by decide +kernel, by decide +kernel⟩
theorem am_P_Mo_difference : am_P (t_Mo_difference, 1411, 119) := ⟨by decide +kernel, ⟨by decide +kernel, by decide +kernel⟩, by decide +kernel, by decide +kernel⟩
theorem am_P_Mo_setsAside : am_P (t_Mo_setsAside, 1415, 119) := ⟨by decide +kernel, ⟨by decide +kernel, by decide +kernel⟩, by decide +kernel, by decide +kernel⟩
theorem am_P_Mo_isSameText : am_P (t_Mo_isSameText, 1419, 119) := ⟨by decide +kernel, ⟨by decide +kernel, by decide +kernel⟩, by decide +kernel, by decide +kernel⟩
theorem am_P_Mo_containing : am_P (t_Mo_containing, 1423, 119) := ⟨by decide +kernel, ⟨by decide +kernel, by decide +kernel⟩, by decide +kernel, by decide +kernel⟩
theorem am_P_Mo_withWord : am_P (t_Mo_withWord, 1427, 119) := ⟨by decide +kernel, ⟨by decide +kernel, by decide +kernel⟩, by decide +kernel, by decide +kernel⟩
theorem am_P_Mo_references : am_P (t_Mo_references, 1431, 119) := ⟨by decide +kernel, ⟨by decide +kernel, by decide +kernel⟩, by decide +kernel, by decide +kernel⟩
theorem am_P_Mo_reach : am_P (t_Mo_reach, 1435, 119) := ⟨by decide +kernel, ⟨by decide +kernel, by decide +kernel⟩, by decide +kernel, by decide +kernel⟩
theorem am_P_Mo_spreads : am_P (t_Mo_spreads, 1439, 119) := ⟨by decide +kernel, ⟨by decide +kernel, by decide +kernel⟩, by decide +kernel, by decide +kernel⟩
theorem am_P_Mo_refers : am_P (t_Mo_refers, 1443, 119) := ⟨by decide +kernel, ⟨by decide +kernel, by decide +kernel⟩, by decide +kernel, by decide +kernel⟩
theorem am_P_Mo_tally : am_P (t_Mo_tally, 1447, 119) := ⟨by decide +kernel, ⟨by decide +kernel, by decide +kernel⟩, by decide +kernel, by decide +kernel⟩
theorem am_P_Mo_areInConflict : am_P (t_Mo_areInConflict, 1451, 119) := ⟨by decide +kernel, ⟨by decide +kernel, by decide +kernel⟩, by decide +kernel, by decide +kernel⟩
theorem am_P_Mo_conflict : am_P (t_Mo_conflict, 1455, 119) := ⟨by decide +kernel, ⟨by decide +kernel, by decide +kernel⟩, by decide +kernel, by decide +kernel⟩
theorem am_P_Mo_ofConflict : am_P (t_Mo_ofConflict, 1459, 119) := ⟨by decide +kernel, ⟨by decide +kernel, by decide +kernel⟩, by decide +kernel, by decide +kernel⟩
theorem am_P_Mo_effect : am_P (t_Mo_effect, 1463, 119) := ⟨by decide +kernel, ⟨by decide +kernel, by decide +kernel⟩, by decide +kernel, by decide +kernel⟩
theorem am_P_Mo_fewestRevocations : am_P (t_Mo_fewestRevocations, 1467, 119) := ⟨by decide +kernel, ⟨by decide +kernel, by decide +kernel⟩, by decide +kernel, by decide +kernel⟩
theorem am_P_Mo_isGone : am_P (t_Mo_isGone, 1471, 119) := ⟨by decide +kernel, ⟨by decide +kernel, by decide +kernel⟩, by decide +kernel, by decide +kernel⟩
theorem am_P_Mo_between : am_P (t_Mo_between, 1475, 119) := ⟨by decide +kernel, ⟨by decide +kernel, by decide +kernel⟩, by decide +kernel, by decide +kernel⟩
theorem am_P_Mo_lettersIn : am_P (t_Mo_lettersIn, 1478, 119) := ⟨by decide +kernel, ⟨by decide +kernel, by decide +kernel⟩, by decide +kernel, by decide +kernel⟩
theorem am_P_Mo_tidy : am_P (t_Mo_tidy, 1482, 119) := ⟨by decide +kernel, ⟨by decide +kernel, by decide +kernel⟩, by decide +kernel, by decide +kernel⟩
theorem am_P_Mo_renumbers : am_P (t_Mo_renumbers, 1486, 119) := ⟨by decide +kernel, ⟨by decide +kernel, by decide +kernel⟩, by decide +kernel, by decide +kernel⟩
theorem am_P_Mo_save : am_P (t_Mo_save, 1490, 119) := ⟨by decide +kernel, ⟨by decide +kernel, by decide +kernel⟩, by decide +kernel, by decide +kernel⟩
theorem am_P_Mo_restore : am_P (t_Mo_restore, 1494, 119) := ⟨by decide +kernel, ⟨by decide +kernel, by decide +kernel⟩, by decide +kernel, by decide +kernel⟩
theorem am_P_Mo_count : am_P (t_Mo_count, 1498, 119) := ⟨by decide +kernel, ⟨by decide +kernel, by decide +kernel⟩, by decide +kernel, by decide +kernel⟩
theorem am_P_Mo_revoked : am_P (t_Mo_revoked, 1502, 119) := ⟨by decide +kernel, ⟨by decide +kernel, by decide +kernel⟩, by decide +kernel, by decide +kernel⟩
theorem am_P_Mo_digest : am_P (t_Mo_digest, 1507, 119) := ⟨by decide +kernel, ⟨by decide +kernel, by decide +kernel⟩, by decide +kernel, by decide +kernel⟩
theorem am_P_Mo_mixes : am_P (t_Mo_mixes, 1513, 119) := ⟨by decide +kernel, ⟨by decide +kernel, by decide +kernel⟩, by decide +kernel, by decide +kernel⟩
theorem am_P_Mo_mixesAmendment : am_P (t_Mo_mixesAmendment, 1518, 119) := ⟨by decide +kernel, ⟨by decide +kernel, by decide +kernel⟩, by decide +kernel, by decide +kernel⟩
theorem am_P_Mo_mixesLaw : am_P (t_Mo_mixesLaw, 1523, 119) := ⟨by decide +kernel, ⟨by decide +kernel, by decide +kernel⟩, by decide +kernel, by decide +kernel⟩
theorem am_Ps0 : ∀ q ∈ am_ts0,  am_P q := (List.forall_mem_cons.mpr ⟨am_P_SB_type, (List.forall_mem_cons.mpr ⟨am_P_SB_within, (List.forall_mem_cons.mpr ⟨am_P_Pag_kept, (List.forall_mem_cons.mpr ⟨am_P_Pag_append, (List.forall_mem_cons.mpr ⟨am_P_SB_clear, (List.forall_mem_cons.mpr ⟨am_P_Pag_makeEmpty, (List.forall_mem_cons.mpr ⟨am_P_SB_enact, (List.forall_mem_cons.mpr ⟨am_P_Rea_readAmendment, (List.forall_mem_cons.mpr ⟨am_P_Dra_makeEmpty, (List.forall_mem_cons.mpr ⟨am_P_Rea_readOperation, (List.forall_mem_cons.mpr ⟨am_P_Rea_skipBlanks, (List.forall_mem_cons.mpr ⟨am_P_Pag_byteAt, (List.forall_mem_cons.mpr ⟨am_P_Dra_size, (List.forall_mem_cons.mpr ⟨am_P_Rea_readKind, (List.forall_mem_cons.mpr ⟨am_P_Rea_passes, (List.forall_mem_cons.mpr ⟨am_P_Str_length, (List.forall_mem_cons.mpr ⟨am_P_Str_coder, (List.forall_mem_cons.mpr ⟨am_P_Str_charAt, (List.forall_mem_cons.mpr ⟨am_P_Str_isLatin1, (List.forall_mem_cons.mpr ⟨am_P_SL1_charAt, (List.forall_mem_cons.mpr ⟨am_P_Str_checkIndex, (List.forall_mem_cons.mpr ⟨am_P_Pre_checkIndex, (List.forall_mem_cons.mpr ⟨am_P_Rea_isBetween, (List.forall_mem_cons.mpr ⟨am_P_Rea_fail, (List.forall_mem_cons.mpr ⟨am_P_Rea_readNumber, (List.forall_mem_cons.mpr ⟨am_P_Rea_readDigits, (List.forall_mem_cons.mpr ⟨am_P_Dra_begin, (List.forall_mem_cons.mpr ⟨am_P_Dra_put, (List.forall_mem_cons.mpr ⟨am_P_Row_set, (List.forall_mem_cons.mpr ⟨am_P_Rea_readWords, (List.forall_mem_cons.mpr ⟨am_P_Rea_isAtWord, (List.forall_mem_cons.mpr ⟨am_P_Dra_addWord, (fun _ h => absurd h List.not_mem_nil)⟩)⟩)⟩)⟩)⟩)⟩)⟩)⟩)⟩)⟩)⟩)⟩)⟩)⟩)⟩)⟩)⟩)⟩)⟩)⟩)⟩)⟩)⟩)⟩)⟩)⟩)⟩)⟩)⟩)⟩)⟩)⟩)
theorem am_Ps1 : ∀ q ∈ am_ts1,  am_P q := (List.forall_mem_cons.mpr ⟨am_P_Row_get, (List.forall_mem_cons.mpr ⟨am_P_Rea_expect, (List.forall_mem_cons.mpr ⟨am_P_Rea_readPlain, (List.forall_mem_cons.mpr ⟨am_P_Rea_readSaving, (List.forall_mem_cons.mpr ⟨am_P_Rea_readSemicolon, (List.forall_mem_cons.mpr ⟨am_P_SB_addDraft, (List.forall_mem_cons.mpr ⟨am_P_Amd_hasRoomFor, (List.forall_mem_cons.mpr ⟨am_P_Amd_size, (List.forall_mem_cons.mpr ⟨am_P_Amd_operations, (List.forall_mem_cons.mpr ⟨am_P_Amd_identities, (List.forall_mem_cons.mpr ⟨am_P_Dra_inserts, (List.forall_mem_cons.mpr ⟨am_P_Arc_push, (List.forall_mem_cons.mpr ⟨am_P_Arc_putAway, (List.forall_mem_cons.mpr ⟨am_P_Row_take, (List.forall_mem_cons.mpr ⟨am_P_Amd_add, (List.forall_mem_cons.mpr ⟨am_P_Amd_cell, (List.forall_mem_cons.mpr ⟨am_P_Amd_setDay, (List.forall_mem_cons.mpr ⟨am_P_SB_revoke, (List.forall_mem_cons.mpr ⟨am_P_Amd_has, (List.forall_mem_cons.mpr ⟨am_P_Amd_isRevoked, (List.forall_mem_cons.mpr ⟨am_P_Amd_revoked, (List.forall_mem_cons.mpr ⟨am_P_Amd_setRevoked, (List.forall_mem_cons.mpr ⟨am_P_SB_commence, (List.forall_mem_cons.mpr ⟨am_P_Amd_day, (List.forall_mem_cons.mpr ⟨am_P_SB_withdraw, (List.forall_mem_cons.mpr ⟨am_P_Amd_removeLast, (List.forall_mem_cons.mpr ⟨am_P_Amd_start, (List.forall_mem_cons.mpr ⟨am_P_SB_undo, (List.forall_mem_cons.mpr ⟨am_P_Arc_states, (List.forall_mem_cons.mpr ⟨am_P_Arc_pop, (List.forall_mem_cons.mpr ⟨am_P_Arc_bring, (List.forall_mem_cons.mpr ⟨am_P_SB_amendment, (fun _ h => absurd h List.not_mem_nil)⟩)⟩)⟩)⟩)⟩)⟩)⟩)⟩)⟩)⟩)⟩)⟩)⟩)⟩)⟩)⟩)⟩)⟩)⟩)⟩)⟩)⟩)⟩)⟩)⟩)⟩)⟩)⟩)⟩)⟩)⟩)⟩)
theorem am_Ps2 : ∀ q ∈ am_ts2,  am_P q := (List.forall_mem_cons.mpr ⟨am_P_SB_consolidateFully, (List.forall_mem_cons.mpr ⟨am_P_Law_consolidate, (List.forall_mem_cons.mpr ⟨am_P_Row_fill, (List.forall_mem_cons.mpr ⟨am_P_Arr_fill, (List.forall_mem_cons.mpr ⟨am_P_Law_nextKey, (List.forall_mem_cons.mpr ⟨am_P_Law_carryOut, (List.forall_mem_cons.mpr ⟨am_P_Law_holder, (List.forall_mem_cons.mpr ⟨am_P_Law_resolves, (List.forall_mem_cons.mpr ⟨am_P_Law_reason, (List.forall_mem_cons.mpr ⟨am_P_Law_contains, (List.forall_mem_cons.mpr ⟨am_P_Law_perform, (List.forall_mem_cons.mpr ⟨am_P_Law_setText, (List.forall_mem_cons.mpr ⟨am_P_Law_change, (List.forall_mem_cons.mpr ⟨am_P_Law_arrange, (List.forall_mem_cons.mpr ⟨am_P_SB_amendmentPart, (List.forall_mem_cons.mpr ⟨am_P_Amd_operationsOf, (List.forall_mem_cons.mpr ⟨am_P_Law_effective, (List.forall_mem_cons.mpr ⟨am_P_Law_status, (List.forall_mem_cons.mpr ⟨am_P_SB_operation, (List.forall_mem_cons.mpr ⟨am_P_Amd_hasOperation, (List.forall_mem_cons.mpr ⟨am_P_SB_operationPart, (List.forall_mem_cons.mpr ⟨am_P_Law_affected, (List.forall_mem_cons.mpr ⟨am_P_SB_word, (List.forall_mem_cons.mpr ⟨am_P_SB_clauses, (List.forall_mem_cons.mpr ⟨am_P_SB_isLaw, (List.forall_mem_cons.mpr ⟨am_P_SB_consolidate, (List.forall_mem_cons.mpr ⟨am_P_Law_size, (List.forall_mem_cons.mpr ⟨am_P_SB_clause, (List.forall_mem_cons.mpr ⟨am_P_Law_at, (List.forall_mem_cons.mpr ⟨am_P_SB_clausePart, (List.forall_mem_cons.mpr ⟨am_P_Law_code, (List.forall_mem_cons.mpr ⟨am_P_Law_length, (fun _ h => absurd h List.not_mem_nil)⟩)⟩)⟩)⟩)⟩)⟩)⟩)⟩)⟩)⟩)⟩)⟩)⟩)⟩)⟩)⟩)⟩)⟩)⟩)⟩)⟩)⟩)⟩)⟩)⟩)⟩)⟩)⟩)⟩)⟩)⟩)⟩)
theorem am_Ps3 : ∀ q ∈ am_ts3,  am_P q := (List.forall_mem_cons.mpr ⟨am_P_Law_lastDay, (List.forall_mem_cons.mpr ⟨am_P_SB_textWord, (List.forall_mem_cons.mpr ⟨am_P_SB_presentWord, (List.forall_mem_cons.mpr ⟨am_P_Law_said, (List.forall_mem_cons.mpr ⟨am_P_SB_find, (List.forall_mem_cons.mpr ⟨am_P_SB_isCode, (List.forall_mem_cons.mpr ⟨am_P_Law_indexOf, (List.forall_mem_cons.mpr ⟨am_P_SB_print, (List.forall_mem_cons.mpr ⟨am_P_SB_printClause, (List.forall_mem_cons.mpr ⟨am_P_Pag_appendNumber, (List.forall_mem_cons.mpr ⟨am_P_Pag_appendInteger, (List.forall_mem_cons.mpr ⟨am_P_Pag_written, (List.forall_mem_cons.mpr ⟨am_P_SB_printed, (List.forall_mem_cons.mpr ⟨am_P_SB_history, (List.forall_mem_cons.mpr ⟨am_P_SB_isIdentity, (List.forall_mem_cons.mpr ⟨am_P_Law_effectOn, (List.forall_mem_cons.mpr ⟨am_P_Amd_amendmentOf, (List.forall_mem_cons.mpr ⟨am_P_SB_difference, (List.forall_mem_cons.mpr ⟨am_P_SB_differs, (List.forall_mem_cons.mpr ⟨am_P_Law_saysTheSame, (List.forall_mem_cons.mpr ⟨am_P_SB_containing, (List.forall_mem_cons.mpr ⟨am_P_Law_clausesWith, (List.forall_mem_cons.mpr ⟨am_P_SB_references, (List.forall_mem_cons.mpr ⟨am_P_SB_referencesFrom, (List.forall_mem_cons.mpr ⟨am_P_Law_target, (List.forall_mem_cons.mpr ⟨am_P_SB_reach, (List.forall_mem_cons.mpr ⟨am_P_Wal_follow, (List.forall_mem_cons.mpr ⟨am_P_Wal_meet, (List.forall_mem_cons.mpr ⟨am_P_Wal_reached, (List.forall_mem_cons.mpr ⟨am_P_Wal_greatestDistance, (List.forall_mem_cons.mpr ⟨am_P_Wal_comesBack, (List.forall_mem_cons.mpr ⟨am_P_SB_tally, (fun _ h => absurd h List.not_mem_nil)⟩)⟩)⟩)⟩)⟩)⟩)⟩)⟩)⟩)⟩)⟩)⟩)⟩)⟩)⟩)⟩)⟩)⟩)⟩)⟩)⟩)⟩)⟩)⟩)⟩)⟩)⟩)⟩)⟩)⟩)⟩)⟩)
theorem am_Ps4 : ∀ q ∈ am_ts4,  am_P q := (List.forall_mem_cons.mpr ⟨am_P_SB_tallyPart, (List.forall_mem_cons.mpr ⟨am_P_SB_conflicts, (List.forall_mem_cons.mpr ⟨am_P_SB_clash, (List.forall_mem_cons.mpr ⟨am_P_SB_conflict, (List.forall_mem_cons.mpr ⟨am_P_SB_conflictPart, (List.forall_mem_cons.mpr ⟨am_P_SB_effect, (List.forall_mem_cons.mpr ⟨am_P_SB_fewestRevocations, (List.forall_mem_cons.mpr ⟨am_P_SB_vanishes, (List.forall_mem_cons.mpr ⟨am_P_SB_isCarriedOut, (List.forall_mem_cons.mpr ⟨am_P_SB_between, (List.forall_mem_cons.mpr ⟨am_P_SB_numberBetween, (List.forall_mem_cons.mpr ⟨am_P_SB_tidy, (List.forall_mem_cons.mpr ⟨am_P_SB_draftTidying, (List.forall_mem_cons.mpr ⟨am_P_SB_save, (List.forall_mem_cons.mpr ⟨am_P_Arc_keepSnapshot, (List.forall_mem_cons.mpr ⟨am_P_SB_restore, (List.forall_mem_cons.mpr ⟨am_P_Arc_hasSnapshot, (List.forall_mem_cons.mpr ⟨am_P_Arc_bringSnapshot, (List.forall_mem_cons.mpr ⟨am_P_SB_count, (List.forall_mem_cons.mpr ⟨am_P_SB_countPart, (List.forall_mem_cons.mpr ⟨am_P_Int_bitCount, (List.forall_mem_cons.mpr ⟨am_P_Arc_snapshots, (List.forall_mem_cons.mpr ⟨am_P_SB_digest, (List.forall_mem_cons.mpr ⟨am_P_SB_mixed, (List.forall_mem_cons.mpr ⟨am_P_SB_mixedAmendment, (List.forall_mem_cons.mpr ⟨am_P_SB_mixedClause, (List.forall_mem_cons.mpr ⟨am_P_SB_mixedPage, (List.forall_mem_cons.mpr ⟨am_P_Mo_type, (List.forall_mem_cons.mpr ⟨am_P_Mo_in, (List.forall_mem_cons.mpr ⟨am_P_Mo_clear, (List.forall_mem_cons.mpr ⟨am_P_Mo_enact, (List.forall_mem_cons.mpr ⟨am_P_Mo_isDay, (fun _ h => absurd h List.not_mem_nil)⟩)⟩)⟩)⟩)⟩)⟩)⟩)⟩)⟩)⟩)⟩)⟩)⟩)⟩)⟩)⟩)⟩)⟩)⟩)⟩)⟩)⟩)⟩)⟩)⟩)⟩)⟩)⟩)⟩)⟩)⟩)⟩)
theorem am_Ps5 : ∀ q ∈ am_ts5,  am_P q := (List.forall_mem_cons.mpr ⟨am_P_Mo_readsAll, (List.forall_mem_cons.mpr ⟨am_P_Mo_skips, (List.forall_mem_cons.mpr ⟨am_P_Mo_byteAt, (List.forall_mem_cons.mpr ⟨am_P_Mo_readsOperation, (List.forall_mem_cons.mpr ⟨am_P_Mo_fails, (List.forall_mem_cons.mpr ⟨am_P_Mo_puts, (List.forall_mem_cons.mpr ⟨am_P_Mo_readsLetters, (List.forall_mem_cons.mpr ⟨am_P_Mo_isSmall, (List.forall_mem_cons.mpr ⟨am_P_Mo_kindOf, (List.forall_mem_cons.mpr ⟨am_P_Mo_lettersOf, (List.forall_mem_cons.mpr ⟨am_P_Mo_numberBehindBlanks, (List.forall_mem_cons.mpr ⟨am_P_Mo_readsNumber, (List.forall_mem_cons.mpr ⟨am_P_Mo_readsDigits, (List.forall_mem_cons.mpr ⟨am_P_Mo_isDigit, (List.forall_mem_cons.mpr ⟨am_P_Mo_letter, (List.forall_mem_cons.mpr ⟨am_P_Mo_readsWords, (List.forall_mem_cons.mpr ⟨am_P_Mo_needsWord, (List.forall_mem_cons.mpr ⟨am_P_Mo_plainBehindBlanks, (List.forall_mem_cons.mpr ⟨am_P_Mo_readsSaving, (List.forall_mem_cons.mpr ⟨am_P_Mo_adds, (List.forall_mem_cons.mpr ⟨am_P_Mo_readInserts, (List.forall_mem_cons.mpr ⟨am_P_Mo_operations, (List.forall_mem_cons.mpr ⟨am_P_Mo_identities, (List.forall_mem_cons.mpr ⟨am_P_Mo_identitiesAhead, (List.forall_mem_cons.mpr ⟨am_P_Mo_part, (List.forall_mem_cons.mpr ⟨am_P_Mo_keeps, (List.forall_mem_cons.mpr ⟨am_P_Mo_revoke, (List.forall_mem_cons.mpr ⟨am_P_Mo_isAmendment, (List.forall_mem_cons.mpr ⟨am_P_Mo_commence, (List.forall_mem_cons.mpr ⟨am_P_Mo_withdraw, (List.forall_mem_cons.mpr ⟨am_P_Mo_undo, (List.forall_mem_cons.mpr ⟨am_P_Mo_amendment, (fun _ h => absurd h List.not_mem_nil)⟩)⟩)⟩)⟩)⟩)⟩)⟩)⟩)⟩)⟩)⟩)⟩)⟩)⟩)⟩)⟩)⟩)⟩)⟩)⟩)⟩)⟩)⟩)⟩)⟩)⟩)⟩)⟩)⟩)⟩)⟩)⟩)
theorem am_Ps6 : ∀ q ∈ am_ts6,  am_P q := (List.forall_mem_cons.mpr ⟨am_P_Mo_fullLaw, (List.forall_mem_cons.mpr ⟨am_P_Mo_laws, (List.forall_mem_cons.mpr ⟨am_P_Mo_offAsRevoked, (List.forall_mem_cons.mpr ⟨am_P_Mo_consolidates, (List.forall_mem_cons.mpr ⟨am_P_Mo_nextAmendment, (List.forall_mem_cons.mpr ⟨am_P_Mo_firstOf, (List.forall_mem_cons.mpr ⟨am_P_Mo_carriesOut, (List.forall_mem_cons.mpr ⟨am_P_Mo_withCode, (List.forall_mem_cons.mpr ⟨am_P_Mo_reasonOf, (List.forall_mem_cons.mpr ⟨am_P_Mo_hasWord, (List.forall_mem_cons.mpr ⟨am_P_Mo_areReferred, (List.forall_mem_cons.mpr ⟨am_P_Mo_setsText, (List.forall_mem_cons.mpr ⟨am_P_Mo_statusOf, (List.forall_mem_cons.mpr ⟨am_P_Mo_amendmentOf, (List.forall_mem_cons.mpr ⟨am_P_Mo_operation, (List.forall_mem_cons.mpr ⟨am_P_Mo_isOperation, (List.forall_mem_cons.mpr ⟨am_P_Mo_told, (List.forall_mem_cons.mpr ⟨am_P_Mo_word, (List.forall_mem_cons.mpr ⟨am_P_Mo_clauses, (List.forall_mem_cons.mpr ⟨am_P_Mo_isCase, (List.forall_mem_cons.mpr ⟨am_P_Mo_inForce, (List.forall_mem_cons.mpr ⟨am_P_Mo_clause, (List.forall_mem_cons.mpr ⟨am_P_Mo_atIndex, (List.forall_mem_cons.mpr ⟨am_P_Mo_indexOf, (List.forall_mem_cons.mpr ⟨am_P_Mo_about, (List.forall_mem_cons.mpr ⟨am_P_Mo_textWord, (List.forall_mem_cons.mpr ⟨am_P_Mo_toldWord, (List.forall_mem_cons.mpr ⟨am_P_Mo_find, (List.forall_mem_cons.mpr ⟨am_P_Mo_isCode, (List.forall_mem_cons.mpr ⟨am_P_Mo_print, (List.forall_mem_cons.mpr ⟨am_P_Mo_printsNumber, (List.forall_mem_cons.mpr ⟨am_P_Mo_printsInteger, (fun _ h => absurd h List.not_mem_nil)⟩)⟩)⟩)⟩)⟩)⟩)⟩)⟩)⟩)⟩)⟩)⟩)⟩)⟩)⟩)⟩)⟩)⟩)⟩)⟩)⟩)⟩)⟩)⟩)⟩)⟩)⟩)⟩)⟩)⟩)⟩)⟩)
theorem am_Ps7 : ∀ q ∈ am_ts7,  am_P q := (List.forall_mem_cons.mpr ⟨am_P_Mo_prints, (List.forall_mem_cons.mpr ⟨am_P_Mo_printed, (List.forall_mem_cons.mpr ⟨am_P_Mo_history, (List.forall_mem_cons.mpr ⟨am_P_Mo_isIdentity, (List.forall_mem_cons.mpr ⟨am_P_Mo_difference, (List.forall_mem_cons.mpr ⟨am_P_Mo_setsAside, (List.forall_mem_cons.mpr ⟨am_P_Mo_isSameText, (List.forall_mem_cons.mpr ⟨am_P_Mo_containing, (List.forall_mem_cons.mpr ⟨am_P_Mo_withWord, (List.forall_mem_cons.mpr ⟨am_P_Mo_references, (List.forall_mem_cons.mpr ⟨am_P_Mo_reach, (List.forall_mem_cons.mpr ⟨am_P_Mo_spreads, (List.forall_mem_cons.mpr ⟨am_P_Mo_refers, (List.forall_mem_cons.mpr ⟨am_P_Mo_tally, (List.forall_mem_cons.mpr ⟨am_P_Mo_areInConflict, (List.forall_mem_cons.mpr ⟨am_P_Mo_conflict, (List.forall_mem_cons.mpr ⟨am_P_Mo_ofConflict, (List.forall_mem_cons.mpr ⟨am_P_Mo_effect, (List.forall_mem_cons.mpr ⟨am_P_Mo_fewestRevocations, (List.forall_mem_cons.mpr ⟨am_P_Mo_isGone, (List.forall_mem_cons.mpr ⟨am_P_Mo_between, (List.forall_mem_cons.mpr ⟨am_P_Mo_lettersIn, (List.forall_mem_cons.mpr ⟨am_P_Mo_tidy, (List.forall_mem_cons.mpr ⟨am_P_Mo_renumbers, (List.forall_mem_cons.mpr ⟨am_P_Mo_save, (List.forall_mem_cons.mpr ⟨am_P_Mo_restore, (List.forall_mem_cons.mpr ⟨am_P_Mo_count, (List.forall_mem_cons.mpr ⟨am_P_Mo_revoked, (List.forall_mem_cons.mpr ⟨am_P_Mo_digest, (List.forall_mem_cons.mpr ⟨am_P_Mo_mixes, (List.forall_mem_cons.mpr ⟨am_P_Mo_mixesAmendment, (List.forall_mem_cons.mpr ⟨am_P_Mo_mixesLaw, (fun _ h => absurd h List.not_mem_nil)⟩)⟩)⟩)⟩)⟩)⟩)⟩)⟩)⟩)⟩)⟩)⟩)⟩)⟩)⟩)⟩)⟩)⟩)⟩)⟩)⟩)⟩)⟩)⟩)⟩)⟩)⟩)⟩)⟩)⟩)⟩)⟩)
theorem am_Ps8 : ∀ q ∈ am_ts8, q.1 ≠ t_LAW_law → am_P q := (List.forall_mem_cons.mpr ⟨(fun h => absurd rfl h), (fun _ h => absurd h List.not_mem_nil)⟩)
theorem am_Pt : ∀ q ∈ am_ts, q.1 ≠ t_LAW_law → am_P q := by
  intro q hq hn
  simp only [am_ts, List.mem_append] at hq
  rcases hq with (((((((hq | hq) | hq) | hq) | hq) | hq) | hq) | hq) | hq
  · exact am_Ps0 q hq
  · exact am_Ps1 q hq
  · exact am_Ps2 q hq
  · exact am_Ps3 q hq
  · exact am_Ps4 q hq
  · exact am_Ps5 q hq
  · exact am_Ps6 q hq
  · exact am_Ps7 q hq
  · exact am_Ps8 q hq hn
/-- a link to a method: its words -/
def am_cok (k : Nat) (e : Nat × Nat × Nat × Nat × Nat × Nat) : Bool := match am_ts[e.2.1]? with
  | some q => decide (lw_tbl[e.2.2.2.1]? = some (.methodLink (am_cn k) e.1 (am_nm q.1))) && decide (am_nm q.1 ≠ am_nm t_LAW_law) &&
    (bif Nat.beq e.2.2.1 0 then decide (lw_tbl[e.2.2.2.2.1]? = some (.instanceMethod (am_nm q.1))) && decide (lw_tbl[e.2.2.2.2.2]? = some (.selects (am_nm q.1).cls (am_nm q.1) (am_nm q.1))) && decide ((parseMethodDescriptor (am_nm q.1).desc).map (fun d => d.parameters.length + 1) = some (am_ar q.1))
     else decide (lw_tbl[e.2.2.2.2.1]? = some (.static (am_nm q.1))) && decide ((parseMethodDescriptor (am_nm q.1).desc).map (fun d => d.parameters.length) = some (am_ar q.1)))
  | none => false
def am_fok (k : Nat) (e : Nat × Nat × Nat × Nat × Nat) : Bool := match am_cl[e.2.1]? with
  | some r => Nat.blt e.2.2.1 r.2.2 && decide (lw_tbl[e.2.2.2.2]? = some (bif Nat.beq e.2.2.2.1 0 then .fieldLink (am_cn k) e.1 (r.2.1 e.2.2.1).1 (r.2.1 e.2.2.1).2.1 (r.2.1 e.2.2.1).2.2.1 else .fieldLinkNest (am_cn k) e.1 (r.2.1 e.2.2.1).1 (r.2.1 e.2.2.1).2.1 (r.2.1 e.2.2.1).2.2.1 "StatuteBook"))
  | none => false
def am_kok (k : Nat) (e : Nat × Int32 × Nat) : Bool := decide (lw_tbl[e.2.2]? = some (.constant (am_cn k) e.1 e.2.1))
def am_lok (k : Nat) (e : Nat × Int64 × Nat) : Bool := decide (lw_tbl[e.2.2]? = some (.constantLong (am_cn k) e.1 e.2.1))
theorem am_mc0 : (am_m0).all (am_cok 0) = true := by decide +kernel
theorem am_fc0 : (am_f0).all (am_fok 0) = true := by decide +kernel
theorem am_kc0 : (am_ki0).all (am_kok 0) = true := by decide +kernel
theorem am_lc0 : (am_kl0).all (am_lok 0) = true := by decide +kernel
theorem am_mc1 : (am_m1).all (am_cok 1) = true := by decide +kernel
theorem am_fc1 : (am_f1).all (am_fok 1) = true := by decide +kernel
theorem am_kc1 : (am_ki1).all (am_kok 1) = true := by decide +kernel
theorem am_lc1 : (am_kl1).all (am_lok 1) = true := by decide +kernel
theorem am_mc2 : (am_m2).all (am_cok 2) = true := by decide +kernel
theorem am_fc2 : (am_f2).all (am_fok 2) = true := by decide +kernel
theorem am_kc2 : (am_ki2).all (am_kok 2) = true := by decide +kernel
theorem am_lc2 : (am_kl2).all (am_lok 2) = true := by decide +kernel
theorem am_mc3 : (am_m3).all (am_cok 3) = true := by decide +kernel
theorem am_fc3 : (am_f3).all (am_fok 3) = true := by decide +kernel
theorem am_kc3 : (am_ki3).all (am_kok 3) = true := by decide +kernel
theorem am_lc3 : (am_kl3).all (am_lok 3) = true := by decide +kernel
theorem am_mc4 : (am_m4).all (am_cok 4) = true := by decide +kernel
theorem am_fc4 : (am_f4).all (am_fok 4) = true := by decide +kernel
theorem am_kc4 : (am_ki4).all (am_kok 4) = true := by decide +kernel
theorem am_lc4 : (am_kl4).all (am_lok 4) = true := by decide +kernel
theorem am_mc5 : (am_m5).all (am_cok 5) = true := by decide +kernel
theorem am_fc5 : (am_f5).all (am_fok 5) = true := by decide +kernel
theorem am_kc5 : (am_ki5).all (am_kok 5) = true := by decide +kernel
theorem am_lc5 : (am_kl5).all (am_lok 5) = true := by decide +kernel
theorem am_mc6 : (am_m6).all (am_cok 6) = true := by decide +kernel
theorem am_fc6 : (am_f6).all (am_fok 6) = true := by decide +kernel
theorem am_kc6 : (am_ki6).all (am_kok 6) = true := by decide +kernel
theorem am_lc6 : (am_kl6).all (am_lok 6) = true := by decide +kernel
theorem am_mc7 : (am_m7).all (am_cok 7) = true := by decide +kernel
theorem am_fc7 : (am_f7).all (am_fok 7) = true := by decide +kernel
theorem am_kc7 : (am_ki7).all (am_kok 7) = true := by decide +kernel
theorem am_lc7 : (am_kl7).all (am_lok 7) = true := by decide +kernel
theorem am_mc8 : (am_m8).all (am_cok 8) = true := by decide +kernel
theorem am_fc8 : (am_f8).all (am_fok 8) = true := by decide +kernel
theorem am_kc8 : (am_ki8).all (am_kok 8) = true := by decide +kernel
theorem am_lc8 : (am_kl8).all (am_lok 8) = true := by decide +kernel
theorem am_mc9 : (am_m9).all (am_cok 9) = true := by decide +kernel
theorem am_fc9 : (am_f9).all (am_fok 9) = true := by decide +kernel
theorem am_kc9 : (am_ki9).all (am_kok 9) = true := by decide +kernel
theorem am_lc9 : (am_kl9).all (am_lok 9) = true := by decide +kernel
theorem am_mc10 : (am_m10).all (am_cok 10) = true := by decide +kernel
theorem am_fc10 : (am_f10).all (am_fok 10) = true := by decide +kernel
theorem am_kc10 : (am_ki10).all (am_kok 10) = true := by decide +kernel
theorem am_lc10 : (am_kl10).all (am_lok 10) = true := by decide +kernel
theorem am_mc11 : (am_m11).all (am_cok 11) = true := by decide +kernel
theorem am_fc11 : (am_f11).all (am_fok 11) = true := by decide +kernel
theorem am_kc11 : (am_ki11).all (am_kok 11) = true := by decide +kernel
theorem am_lc11 : (am_kl11).all (am_lok 11) = true := by decide +kernel
theorem am_mc12 : (am_m12).all (am_cok 12) = true := by decide +kernel
theorem am_fc12 : (am_f12).all (am_fok 12) = true := by decide +kernel
theorem am_kc12 : (am_ki12).all (am_kok 12) = true := by decide +kernel
theorem am_lc12 : (am_kl12).all (am_lok 12) = true := by decide +kernel
theorem am_mc13 : (am_m13).all (am_cok 13) = true := by decide +kernel
theorem am_fc13 : (am_f13).all (am_fok 13) = true := by decide +kernel
theorem am_kc13 : (am_ki13).all (am_kok 13) = true := by decide +kernel
theorem am_lc13 : (am_kl13).all (am_lok 13) = true := by decide +kernel
theorem am_mc14 : (am_m14).all (am_cok 14) = true := by decide +kernel
theorem am_fc14 : (am_f14).all (am_fok 14) = true := by decide +kernel
theorem am_kc14 : (am_ki14).all (am_kok 14) = true := by decide +kernel
theorem am_lc14 : (am_kl14).all (am_lok 14) = true := by decide +kernel
theorem am_mc15 : (am_m15).all (am_cok 15) = true := by decide +kernel
theorem am_fc15 : (am_f15).all (am_fok 15) = true := by decide +kernel
theorem am_kc15 : (am_ki15).all (am_kok 15) = true := by decide +kernel
theorem am_lc15 : (am_kl15).all (am_lok 15) = true := by decide +kernel
theorem am_mc16 : (am_m16).all (am_cok 16) = true := by decide +kernel
theorem am_fc16 : (am_f16).all (am_fok 16) = true := by decide +kernel
theorem am_kc16 : (am_ki16).all (am_kok 16) = true := by decide +kernel
theorem am_lc16 : (am_kl16).all (am_lok 16) = true := by decide +kernel
theorem am_m_all (k : Nat) : (am_m k).all (am_cok k) = true := match k with
  | 0 => am_mc0
  | 1 => am_mc1
  | 2 => am_mc2
  | 3 => am_mc3
  | 4 => am_mc4
  | 5 => am_mc5
  | 6 => am_mc6
  | 7 => am_mc7
  | 8 => am_mc8
  | 9 => am_mc9
  | 10 => am_mc10
  | 11 => am_mc11
  | 12 => am_mc12
  | 13 => am_mc13
  | 14 => am_mc14
  | 15 => am_mc15
  | 16 => am_mc16
  | _ + 17 => rfl
theorem am_f_all (k : Nat) : (am_f k).all (am_fok k) = true := match k with
  | 0 => am_fc0
  | 1 => am_fc1
  | 2 => am_fc2
  | 3 => am_fc3
  | 4 => am_fc4
  | 5 => am_fc5
  | 6 => am_fc6
  | 7 => am_fc7
  | 8 => am_fc8
  | 9 => am_fc9
  | 10 => am_fc10
  | 11 => am_fc11
  | 12 => am_fc12
  | 13 => am_fc13
  | 14 => am_fc14
  | 15 => am_fc15
  | 16 => am_fc16
  | _ + 17 => rfl
theorem am_ki_all (k : Nat) : (am_ki k).all (am_kok k) = true := match k with
  | 0 => am_kc0
  | 1 => am_kc1
  | 2 => am_kc2
  | 3 => am_kc3
  | 4 => am_kc4
  | 5 => am_kc5
  | 6 => am_kc6
  | 7 => am_kc7
  | 8 => am_kc8
  | 9 => am_kc9
  | 10 => am_kc10
  | 11 => am_kc11
  | 12 => am_kc12
  | 13 => am_kc13
  | 14 => am_kc14
  | 15 => am_kc15
  | 16 => am_kc16
  | _ + 17 => rfl
theorem am_kl_all (k : Nat) : (am_kl k).all (am_lok k) = true := match k with
  | 0 => am_lc0
  | 1 => am_lc1
  | 2 => am_lc2
  | 3 => am_lc3
  | 4 => am_lc4
  | 5 => am_lc5
  | 6 => am_lc6
  | 7 => am_lc7
  | 8 => am_lc8
  | 9 => am_lc9
  | 10 => am_lc10
  | 11 => am_lc11
  | 12 => am_lc12
  | 13 => am_lc13
  | 14 => am_lc14
  | 15 => am_lc15
  | 16 => am_lc16
  | _ + 17 => rfl
theorem am_law_dok0 : am_dok (am_by t_LAW_law) k_LAW_0 = true := by decide +kernel
theorem am_law_dok1 : am_dok (am_by t_LAW_law) k_LAW_1 = true := by decide +kernel
theorem am_law_dok2 : am_dok (am_by t_LAW_law) k_LAW_2 = true := by decide +kernel
theorem am_law_dok3 : am_dok (am_by t_LAW_law) k_LAW_3 = true := by decide +kernel
theorem am_law_dok4 : am_dok (am_by t_LAW_law) k_LAW_4 = true := by decide +kernel
theorem am_law_dok5 : am_dok (am_by t_LAW_law) k_LAW_5 = true := by decide +kernel
theorem am_law_dok6 : am_dok (am_by t_LAW_law) k_LAW_6 = true := by decide +kernel
theorem am_law_dok7 : am_dok (am_by t_LAW_law) k_LAW_7 = true := by decide +kernel
theorem am_law_dok8 : am_dok (am_by t_LAW_law) k_LAW_8 = true := by decide +kernel
theorem am_law_dok9 : am_dok (am_by t_LAW_law) k_LAW_9 = true := by decide +kernel
theorem am_law_dok10 : am_dok (am_by t_LAW_law) k_LAW_10 = true := by decide +kernel
theorem am_law_dok11 : am_dok (am_by t_LAW_law) k_LAW_11 = true := by decide +kernel
theorem am_law_dok12 : am_dok (am_by t_LAW_law) k_LAW_12 = true := by decide +kernel
theorem am_law_dok13 : am_dok (am_by t_LAW_law) k_LAW_13 = true := by decide +kernel
theorem am_law_dok14 : am_dok (am_by t_LAW_law) k_LAW_14 = true := by decide +kernel
theorem am_law_dok15 : am_dok (am_by t_LAW_law) k_LAW_15 = true := by decide +kernel
theorem am_law_dok16 : am_dok (am_by t_LAW_law) k_LAW_16 = true := by decide +kernel
theorem am_law_dok17 : am_dok (am_by t_LAW_law) k_LAW_17 = true := by decide +kernel
theorem am_law_dok18 : am_dok (am_by t_LAW_law) k_LAW_18 = true := by decide +kernel
theorem am_law_dok19 : am_dok (am_by t_LAW_law) k_LAW_19 = true := by decide +kernel
theorem am_law_dok20 : am_dok (am_by t_LAW_law) k_LAW_20 = true := by decide +kernel
theorem am_dok_app {b : ByteArray} {l l2 : List (Nat × Instr × Nat)} (h : am_dok b l = true) (h2 : am_dok b l2 = true) : am_dok b (l ++ l2) = true := by unfold am_dok at *; rw [List.all_append, h, h2]; rfl
theorem am_law_dok : am_dok (am_by t_LAW_law) (am_cd t_LAW_law) = true := am_dok_app am_law_dok0 (am_dok_app am_law_dok1 (am_dok_app am_law_dok2 (am_dok_app am_law_dok3 (am_dok_app am_law_dok4 (am_dok_app am_law_dok5 (am_dok_app am_law_dok6 (am_dok_app am_law_dok7 (am_dok_app am_law_dok8 (am_dok_app am_law_dok9 (am_dok_app am_law_dok10 (am_dok_app am_law_dok11 (am_dok_app am_law_dok12 (am_dok_app am_law_dok13 (am_dok_app am_law_dok14 (am_dok_app am_law_dok15 (am_dok_app am_law_dok16 (am_dok_app am_law_dok17 (am_dok_app am_law_dok18 (am_dok_app am_law_dok19 (am_law_dok20))))))))))))))))))))
theorem am_law_rok : am_rok t_LAW_law = true := by decide +kernel
theorem am_law_cok : (am_cd t_LAW_law).all (am_cokI (am_ow t_LAW_law)) = true := by decide +kernel
/-- the objects' places and the classes' tables -/
def am_tyof (ci : Nat) : Nat → FieldType := match ci with
  | 0 => tyX0
  | 1 => tyX1
  | 2 => tyX2
  | 3 => tyX3
  | 4 => tyX4
  | 5 => tyX5
  | 6 => tyX6
  | 7 => tyX7
  | 8 => tyX8
  | _ => tyX9
def am_fdok (r : vw_C) (k : Nat) (f : Nat) : Bool := match f with
  | 0 => decide ((r.2.1 k).2.2.1 = "I") && !(r.2.1 k).2.2.2
  | 1 => decide ((r.2.1 k).2.2.1 = "J") && !(r.2.1 k).2.2.2
  | 2 => decide ((r.2.1 k).2.2.1 = "Z") && !(r.2.1 k).2.2.2
  | _ => true
def am_LLok : Bool := am_LL.all fun e => match e with
  | .inl n => Nat.blt n 1000000
  | .inr (ci, fs) => (match am_cl[ci]? with
    | some r => (Nat.beq fs.length r.2.2 && Nat.blt fs.length 50) && (List.range fs.length).all (fun k => match fs[k]? with | some f => am_fdok r k f && decide (f ≠ 7003) | none => false)
    | none => false)
theorem am_LL_ok : am_LLok = true := by decide +kernel
theorem am_cls (ci : Nat) (r : vw_C) (h : am_cl[ci]? = some r) : (∀ k, k < r.2.2 → parseFieldDescriptor (r.2.1 k).2.2.1 = some (am_tyof ci k)) ∧ (∀ a, a < r.2.2 → ∀ b, b < r.2.2 → a ≠ b → (r.2.1 a).2.1 ≠ (r.2.1 b).2.1) ∧ ∀ w ∈ u_ws r.1 r.2.1 r.2.2, w ∈ am_tbl := by
  match ci, h with
  | 0, h => cases h; exact ⟨tyX0_ok, nmX0, am_ws0⟩
  | 1, h => cases h; exact ⟨tyX1_ok, nmX1, am_ws1⟩
  | 2, h => cases h; exact ⟨tyX2_ok, nmX2, am_ws2⟩
  | 3, h => cases h; exact ⟨tyX3_ok, nmX3, am_ws3⟩
  | 4, h => cases h; exact ⟨tyX4_ok, nmX4, am_ws4⟩
  | 5, h => cases h; exact ⟨tyX5_ok, nmX5, am_ws5⟩
  | 6, h => cases h; exact ⟨tyX6_ok, nmX6, am_ws6⟩
  | 7, h => cases h; exact ⟨tyX7_ok, nmX7, am_ws7⟩
  | 8, h => cases h; exact ⟨tyX8_ok, nmX8, am_ws8⟩
  | 9, h => cases h; exact ⟨tyX9_ok, nmX9, am_ws9⟩
  | k + 10, h => simp [am_cl] at h
