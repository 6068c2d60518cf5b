/-! what the tables say of the code: decided by the kernel -/
def am_lnok (i : Instr) (n : Nat) : Bool := match i with
  | .tableswitch _ _ _ _ => true
  | .lookupswitch _ _ => true
  | .bipush _ => Nat.beq n 2
  | .ldc _ => Nat.beq n 2
  | .iload _ => Nat.beq n 2
  | .lload _ => Nat.beq n 2
  | .aload _ => Nat.beq n 2
  | .istore _ => Nat.beq n 2
  | .lstore _ => Nat.beq n 2
  | .astore _ => Nat.beq n 2
  | .newarray _ => Nat.beq n 2
  | .sipush _ => Nat.beq n 3
  | .ldc_w _ => Nat.beq n 3
  | .ldc2_w _ => Nat.beq n 3
  | .iinc _ _ => Nat.beq n 3
  | .goto _ => Nat.beq n 3
  | .ifCond _ _ => Nat.beq n 3
  | .if_icmp _ _ => Nat.beq n 3
  | .getstatic _ => Nat.beq n 3
  | .getfield _ => Nat.beq n 3
  | .putfield _ => Nat.beq n 3
  | .invokevirtual _ => Nat.beq n 3
  | .invokestatic _ => Nat.beq n 3
  | .invokespecial _ => Nat.beq n 3
  | .new _ => Nat.beq n 3
  | _ => Nat.beq n 1
def am_psok (i : Instr) : Bool := match i with
  | .lookupswitch _ ps => (ps.toList.zip (ps.toList.drop 1)).all (fun (a, next) => a.1 < next.1)
  | .tableswitch _ lo hi os => decide ((os.size : Int) = hi - lo + 1)
  | _ => true
def am_dok (b : ByteArray) (l : List (Nat × Instr × Nat)) : Bool := l.all fun e => decide (decode b e.1 = .ok (e.2.1, e.2.2)) && am_lnok e.2.1 e.2.2 && am_psok e.2.1
def am_cokI (k : Nat) (e : Nat × Instr × Nat) : Bool := match e.2.1 with
  | .invokevirtual i => (match am_as (am_m k) i with | some q => Nat.beq q.2.1 0 | none => true)
  | .invokestatic i => (match am_as (am_m k) i with | some q => Nat.beq q.2.1 1 | none => true)
  | _ => true
/-- the room for what a method calls -/
def am_rok (t : am_T) : Bool := (am_cd t).all fun e => match am_iv e.2.1 with
  | some k => (match am_ml (am_ow t) k with
    | some t' => Nat.ble (am_fr t' + 1) (am_fr t) && Nat.ble (8 + (am_mL t' + 11) + am_lo t') (am_lo t)
    | none => true) && (!am_ac (am_ow t) k || (Nat.ble 1 (am_fr t) && Nat.ble 18 (am_lo t))) && (!am_mnl (am_ow t) k || (Nat.ble 1 (am_fr t) && Nat.ble 21 (am_lo t)))
  | none => true
def am_nok (q : am_T × Nat × Nat) : Bool := plainName (am_nm q.1).cls && decide ((am_nm q.1).cls ≠ "java/lang/invoke/MethodHandle" ∧ (am_nm q.1).cls ≠ "java/lang/invoke/VarHandle") && decide (lw_tbl[q.2.2]? = some (.initialized (am_nm q.1).cls)) && decide ((am_nm q.1).cls = am_cn (am_ow q.1))
def am_P (q : am_T × Nat × Nat) : Prop := am_dok (am_by q.1) (am_cd q.1) = true ∧ (am_rok q.1 = true ∧ (am_cd q.1).all (am_cokI (am_ow q.1)) = true) ∧ am_nok q = true ∧ lw_tbl[q.2.1]? = some (.code (am_nm q.1) (am_by q.1) (am_mL q.1) (am_rt q.1))
theorem am_P_SB_revoke : am_P (t_SB_revoke, 242, 29) := ⟨by decide +kernel, ⟨by decide +kernel, by decide +kernel⟩, by decide +kernel, by decide +kernel⟩
theorem am_P_Amd_has : am_P (t_Amd_has, 246, 35) := ⟨by decide +kernel, ⟨by decide +kernel, by decide +kernel⟩, by decide +kernel, by decide +kernel⟩
theorem am_P_Amd_size : am_P (t_Amd_size, 250, 35) := ⟨by decide +kernel, ⟨by decide +kernel, by decide +kernel⟩, by decide +kernel, by decide +kernel⟩
theorem am_P_Row_get : am_P (t_Row_get, 254, 34) := ⟨by decide +kernel, ⟨by decide +kernel, by decide +kernel⟩, by decide +kernel, by decide +kernel⟩
theorem am_P_Amd_isRevoked : am_P (t_Amd_isRevoked, 258, 35) := ⟨by decide +kernel, ⟨by decide +kernel, by decide +kernel⟩, by decide +kernel, by decide +kernel⟩
theorem am_P_Arc_push : am_P (t_Arc_push, 262, 36) := ⟨by decide +kernel, ⟨by decide +kernel, by decide +kernel⟩, by decide +kernel, by decide +kernel⟩
theorem am_P_Arc_putAway : am_P (t_Arc_putAway, 269, 36) := ⟨by decide +kernel, ⟨by decide +kernel, by decide +kernel⟩, by decide +kernel, by decide +kernel⟩
theorem am_P_Row_take : am_P (t_Row_take, 273, 34) := ⟨by decide +kernel, ⟨by decide +kernel, by decide +kernel⟩, by decide +kernel, by decide +kernel⟩
theorem am_P_Amd_revoked : am_P (t_Amd_revoked, 280, 35) := ⟨by decide +kernel, ⟨by decide +kernel, by decide +kernel⟩, by decide +kernel, by decide +kernel⟩
theorem am_P_Amd_setRevoked : am_P (t_Amd_setRevoked, 284, 35) := ⟨by decide +kernel, ⟨by decide +kernel, by decide +kernel⟩, by decide +kernel, by decide +kernel⟩
theorem am_P_Row_set : am_P (t_Row_set, 288, 34) := ⟨by decide +kernel, ⟨by decide +kernel, by decide +kernel⟩, by decide +kernel, by decide +kernel⟩
theorem am_P_SB_commence : am_P (t_SB_commence, 292, 29) := ⟨by decide +kernel, ⟨by decide +kernel, by decide +kernel⟩, by decide +kernel, by decide +kernel⟩
theorem am_P_SB_within : am_P (t_SB_within, 295, 29) := ⟨by decide +kernel, ⟨by decide +kernel, by decide +kernel⟩, by decide +kernel, by decide +kernel⟩
theorem am_P_Amd_day : am_P (t_Amd_day, 299, 35) := ⟨by decide +kernel, ⟨by decide +kernel, by decide +kernel⟩, by decide +kernel, by decide +kernel⟩
theorem am_P_Amd_setDay : am_P (t_Amd_setDay, 303, 35) := ⟨by decide +kernel, ⟨by decide +kernel, by decide +kernel⟩, by decide +kernel, by decide +kernel⟩
theorem am_P_SB_clauses : am_P (t_SB_clauses, 307, 29) := ⟨by decide +kernel, ⟨by decide +kernel, by decide +kernel⟩, by decide +kernel, by decide +kernel⟩
theorem am_P_SB_isLaw : am_P (t_SB_isLaw, 310, 29) := ⟨by decide +kernel, ⟨by decide +kernel, by decide +kernel⟩, by decide +kernel, by decide +kernel⟩
theorem am_P_SB_consolidate : am_P (t_SB_consolidate, 314, 29) := ⟨by decide +kernel, ⟨by decide +kernel, by decide +kernel⟩, by decide +kernel, by decide +kernel⟩
theorem am_P_Law_consolidate : am_P (t_Law_consolidate, 318, 37) := ⟨by decide +kernel, ⟨by decide +kernel, by decide +kernel⟩, by decide +kernel, by decide +kernel⟩
theorem am_P_Row_fill : am_P (t_Row_fill, 322, 34) := ⟨by decide +kernel, ⟨by decide +kernel, by decide +kernel⟩, by decide +kernel, by decide +kernel⟩
theorem am_P_Arr_fill : am_P (t_Arr_fill, 325, 39) := ⟨by decide +kernel, ⟨by decide +kernel, by decide +kernel⟩, by decide +kernel, by decide +kernel⟩
theorem am_P_Law_nextKey : am_P (t_Law_nextKey, 328, 37) := ⟨by decide +kernel, ⟨by decide +kernel, by decide +kernel⟩, by decide +kernel, by decide +kernel⟩
theorem am_P_Law_carryOut : am_P (t_Law_carryOut, 334, 37) := ⟨by decide +kernel, ⟨by decide +kernel, by decide +kernel⟩, by decide +kernel, by decide +kernel⟩
theorem am_P_Amd_start : am_P (t_Amd_start, 338, 35) := ⟨by decide +kernel, ⟨by decide +kernel, by decide +kernel⟩, by decide +kernel, by decide +kernel⟩
theorem am_P_Amd_cell : am_P (t_Amd_cell, 342, 35) := ⟨by decide +kernel, ⟨by decide +kernel, by decide +kernel⟩, by decide +kernel, by decide +kernel⟩
theorem am_P_Law_holder : am_P (t_Law_holder, 346, 37) := ⟨by decide +kernel, ⟨by decide +kernel, by decide +kernel⟩, by decide +kernel, by decide +kernel⟩
theorem am_P_Law_resolves : am_P (t_Law_resolves, 351, 37) := ⟨by decide +kernel, ⟨by decide +kernel, by decide +kernel⟩, by decide +kernel, by decide +kernel⟩
theorem am_P_Law_reason : am_P (t_Law_reason, 356, 37) := ⟨by decide +kernel, ⟨by decide +kernel, by decide +kernel⟩, by decide +kernel, by decide +kernel⟩
theorem am_P_Law_contains : am_P (t_Law_contains, 360, 37) := ⟨by decide +kernel, ⟨by decide +kernel, by decide +kernel⟩, by decide +kernel, by decide +kernel⟩
theorem am_P_Law_perform : am_P (t_Law_perform, 364, 37) := ⟨by decide +kernel, ⟨by decide +kernel, by decide +kernel⟩, by decide +kernel, by decide +kernel⟩
theorem am_P_Law_setText : am_P (t_Law_setText, 368, 37) := ⟨by decide +kernel, ⟨by decide +kernel, by decide +kernel⟩, by decide +kernel, by decide +kernel⟩
theorem am_P_Law_change : am_P (t_Law_change, 373, 37) := ⟨by decide +kernel, ⟨by decide +kernel, by decide +kernel⟩, by decide +kernel, by decide +kernel⟩
theorem am_P_Law_arrange : am_P (t_Law_arrange, 377, 37) := ⟨by decide +kernel, ⟨by decide +kernel, by decide +kernel⟩, by decide +kernel, by decide +kernel⟩
theorem am_P_Law_size : am_P (t_Law_size, 381, 37) := ⟨by decide +kernel, ⟨by decide +kernel, by decide +kernel⟩, by decide +kernel, by decide +kernel⟩
theorem am_P_SB_clause : am_P (t_SB_clause, 385, 29) := ⟨by decide +kernel, ⟨by decide +kernel, by decide +kernel⟩, by decide +kernel, by decide +kernel⟩
theorem am_P_Law_at : am_P (t_Law_at, 389, 37) := ⟨by decide +kernel, ⟨by decide +kernel, by decide +kernel⟩, by decide +kernel, by decide +kernel⟩
theorem am_P_SB_clausePart : am_P (t_SB_clausePart, 393, 29) := ⟨by decide +kernel, ⟨by decide +kernel, by decide +kernel⟩, by decide +kernel, by decide +kernel⟩
theorem am_P_Law_code : am_P (t_Law_code, 397, 37) := ⟨by decide +kernel, ⟨by decide +kernel, by decide +kernel⟩, by decide +kernel, by decide +kernel⟩
theorem am_P_Law_length : am_P (t_Law_length, 401, 37) := ⟨by decide +kernel, ⟨by decide +kernel, by decide +kernel⟩, by decide +kernel, by decide +kernel⟩
theorem am_P_Law_lastDay : am_P (t_Law_lastDay, 405, 37) := ⟨by decide +kernel, ⟨by decide +kernel, by decide +kernel⟩, by decide +kernel, by decide +kernel⟩
theorem am_P_SB_find : am_P (t_SB_find, 409, 29) := ⟨by decide +kernel, ⟨by decide +kernel, by decide +kernel⟩, by decide +kernel, by decide +kernel⟩
theorem am_P_SB_isCode : am_P (t_SB_isCode, 412, 29) := ⟨by decide +kernel, ⟨by decide +kernel, by decide +kernel⟩, by decide +kernel, by decide +kernel⟩
theorem am_P_Law_indexOf : am_P (t_Law_indexOf, 416, 37) := ⟨by decide +kernel, ⟨by decide +kernel, by decide +kernel⟩, by decide +kernel, by decide +kernel⟩
theorem am_P_SB_count : am_P (t_SB_count, 422, 29) := ⟨by decide +kernel, ⟨by decide +kernel, by decide +kernel⟩, by decide +kernel, by decide +kernel⟩
theorem am_P_SB_consolidateFully : am_P (t_SB_consolidateFully, 426, 29) := ⟨by decide +kernel, ⟨by decide +kernel, by decide +kernel⟩, by decide +kernel, by decide +kernel⟩
theorem am_P_SB_countPart : am_P (t_SB_countPart, 430, 29) := ⟨by decide +kernel, ⟨by decide +kernel, by decide +kernel⟩, by decide +kernel, by decide +kernel⟩
theorem am_P_Amd_operations : am_P (t_Amd_operations, 435, 35) := ⟨by decide +kernel, ⟨by decide +kernel, by decide +kernel⟩, by decide +kernel, by decide +kernel⟩
theorem am_P_Amd_identities : am_P (t_Amd_identities, 439, 35) := ⟨by decide +kernel, ⟨by decide +kernel, by decide +kernel⟩, by decide +kernel, by decide +kernel⟩
theorem am_P_Arc_states : am_P (t_Arc_states, 443, 36) := ⟨by decide +kernel, ⟨by decide +kernel, by decide +kernel⟩, by decide +kernel, by decide +kernel⟩
theorem am_P_Pag_kept : am_P (t_Pag_kept, 447, 31) := ⟨by decide +kernel, ⟨by decide +kernel, by decide +kernel⟩, by decide +kernel, by decide +kernel⟩
theorem am_P_Int_bitCount : am_P (t_Int_bitCount, 451, 45) := ⟨by decide +kernel, ⟨by decide +kernel, by decide +kernel⟩, by decide +kernel, by decide +kernel⟩
theorem am_P_Arc_snapshots : am_P (t_Arc_snapshots, 458, 36) := ⟨by decide +kernel, ⟨by decide +kernel, by decide +kernel⟩, by decide +kernel, by decide +kernel⟩
theorem am_P_LAW_cell : am_P (t_LAW_cell, 462, 28) := ⟨by decide +kernel, ⟨by decide +kernel, by decide +kernel⟩, by decide +kernel, by decide +kernel⟩
theorem am_P_LAW_low : am_P (t_LAW_low, 466, 28) := ⟨by decide +kernel, ⟨by decide +kernel, by decide +kernel⟩, by decide +kernel, by decide +kernel⟩
theorem am_P_LAW_lays : am_P (t_LAW_lays, 470, 28) := ⟨by decide +kernel, ⟨by decide +kernel, by decide +kernel⟩, by decide +kernel, by decide +kernel⟩
theorem am_P_LAW_next : am_P (t_LAW_next, 473, 28) := ⟨by decide +kernel, ⟨by decide +kernel, by decide +kernel⟩, by decide +kernel, by decide +kernel⟩
theorem am_P_LAW_carries : am_P (t_LAW_carries, 476, 28) := ⟨by decide +kernel, ⟨by decide +kernel, by decide +kernel⟩, by decide +kernel, by decide +kernel⟩
theorem am_P_LAW_code : am_P (t_LAW_code, 479, 28) := ⟨by decide +kernel, ⟨by decide +kernel, by decide +kernel⟩, by decide +kernel, by decide +kernel⟩
theorem am_P_LAW_at : am_P (t_LAW_at, 483, 28) := ⟨by decide +kernel, ⟨by decide +kernel, by decide +kernel⟩, by decide +kernel, by decide +kernel⟩
theorem am_P_LAW_kind : am_P (t_LAW_kind, 486, 28) := ⟨by decide +kernel, ⟨by decide +kernel, by decide +kernel⟩, by decide +kernel, by decide +kernel⟩
theorem am_P_LAW_one : am_P (t_LAW_one, 489, 28) := ⟨by decide +kernel, ⟨by decide +kernel, by decide +kernel⟩, by decide +kernel, by decide +kernel⟩
theorem am_P_LAW_two : am_P (t_LAW_two, 492, 28) := ⟨by decide +kernel, ⟨by decide +kernel, by decide +kernel⟩, by decide +kernel, by decide +kernel⟩
theorem am_P_LAW_identity : am_P (t_LAW_identity, 496, 28) := ⟨by decide +kernel, ⟨by decide +kernel, by decide +kernel⟩, by decide +kernel, by decide +kernel⟩
theorem am_P_LAW_enacts : am_P (t_LAW_enacts, 499, 28) := ⟨by decide +kernel, ⟨by decide +kernel, by decide +kernel⟩, by decide +kernel, by decide +kernel⟩
theorem am_P_SB_type : am_P (t_SB_type, 503, 29) := ⟨by decide +kernel, ⟨by decide +kernel, by decide +kernel⟩, by decide +kernel, by decide +kernel⟩
theorem am_P_Pag_append : am_P (t_Pag_append, 507, 31) := ⟨by decide +kernel, ⟨by decide +kernel, by decide +kernel⟩, by decide +kernel, by decide +kernel⟩
theorem am_P_LAW_typesOperation : am_P (t_LAW_typesOperation, 510, 28) := ⟨by decide +kernel, ⟨by decide +kernel, by decide +kernel⟩, by decide +kernel, by decide +kernel⟩
theorem am_P_LAW_number : am_P (t_LAW_number, 513, 28) := ⟨by decide +kernel, ⟨by decide +kernel, by decide +kernel⟩, by decide +kernel, by decide +kernel⟩
theorem am_P_LAW_aWord : am_P (t_LAW_aWord, 516, 28) := ⟨by decide +kernel, ⟨by decide +kernel, by decide +kernel⟩, by decide +kernel, by decide +kernel⟩
theorem am_P_LAW_types : am_P (t_LAW_types, 520, 28) := ⟨by decide +kernel, ⟨by decide +kernel, by decide +kernel⟩, by decide +kernel, by decide +kernel⟩
theorem am_P_LAW_typesNumber : am_P (t_LAW_typesNumber, 529, 28) := ⟨by decide +kernel, ⟨by decide +kernel, by decide +kernel⟩, by decide +kernel, by decide +kernel⟩
theorem am_P_LAW_typesInteger : am_P (t_LAW_typesInteger, 532, 28) := ⟨by decide +kernel, ⟨by decide +kernel, by decide +kernel⟩, by decide +kernel, by decide +kernel⟩
theorem am_P_LAW_typesWord : am_P (t_LAW_typesWord, 535, 28) := ⟨by decide +kernel, ⟨by decide +kernel, by decide +kernel⟩, by decide +kernel, by decide +kernel⟩
theorem am_P_SB_enact : am_P (t_SB_enact, 544, 29) := ⟨by decide +kernel, ⟨by decide +kernel, by decide +kernel⟩, by decide +kernel, by decide +kernel⟩
theorem am_P_Rea_readAmendment : am_P (t_Rea_readAmendment, 548, 30) := ⟨by decide +kernel, ⟨by decide +kernel, by decide +kernel⟩, by decide +kernel, by decide +kernel⟩
theorem am_P_Dra_makeEmpty : am_P (t_Dra_makeEmpty, 552, 33) := ⟨by decide +kernel, ⟨by decide +kernel, by decide +kernel⟩, by decide +kernel, by decide +kernel⟩
theorem am_P_Rea_readOperation : am_P (t_Rea_readOperation, 556, 30) := ⟨by decide +kernel, ⟨by decide +kernel, by decide +kernel⟩, by decide +kernel, by decide +kernel⟩
theorem am_P_Rea_skipBlanks : am_P (t_Rea_skipBlanks, 560, 30) := ⟨by decide +kernel, ⟨by decide +kernel, by decide +kernel⟩, by decide +kernel, by decide +kernel⟩
theorem am_P_Pag_byteAt : am_P (t_Pag_byteAt, 565, 31) := ⟨by decide +kernel, ⟨by decide +kernel, by decide +kernel⟩, by decide +kernel, by decide +kernel⟩
theorem am_P_Dra_size : am_P (t_Dra_size, 569, 33) := ⟨by decide +kernel, ⟨by decide +kernel, by decide +kernel⟩, by decide +kernel, by decide +kernel⟩
theorem am_P_Rea_readKind : am_P (t_Rea_readKind, 573, 30) := ⟨by decide +kernel, ⟨by decide +kernel, by decide +kernel⟩, by decide +kernel, by decide +kernel⟩
theorem am_P_Rea_passes : am_P (t_Rea_passes, 578, 30) := ⟨by decide +kernel, ⟨by decide +kernel, by decide +kernel⟩, by decide +kernel, by decide +kernel⟩
theorem am_P_Str_length : am_P (t_Str_length, 582, 41) := ⟨by decide +kernel, ⟨by decide +kernel, by decide +kernel⟩, by decide +kernel, by decide +kernel⟩
theorem am_P_Str_coder : am_P (t_Str_coder, 586, 41) := ⟨by decide +kernel, ⟨by decide +kernel, by decide +kernel⟩, by decide +kernel, by decide +kernel⟩
theorem am_P_Str_charAt : am_P (t_Str_charAt, 592, 41) := ⟨by decide +kernel, ⟨by decide +kernel, by decide +kernel⟩, by decide +kernel, by decide +kernel⟩
theorem am_P_Str_isLatin1 : am_P (t_Str_isLatin1, 596, 41) := ⟨by decide +kernel, ⟨by decide +kernel, by decide +kernel⟩, by decide +kernel, by decide +kernel⟩
theorem am_P_SL1_charAt : am_P (t_SL1_charAt, 599, 42) := ⟨by decide +kernel, ⟨by decide +kernel, by decide +kernel⟩, by decide +kernel, by decide +kernel⟩
theorem am_P_Str_checkIndex : am_P (t_Str_checkIndex, 602, 41) := ⟨by decide +kernel, ⟨by decide +kernel, by decide +kernel⟩, by decide +kernel, by decide +kernel⟩
theorem am_P_Pre_checkIndex : am_P (t_Pre_checkIndex, 607, 43) := ⟨by decide +kernel, ⟨by decide +kernel, by decide +kernel⟩, by decide +kernel, by decide +kernel⟩
theorem am_P_Rea_isBetween : am_P (t_Rea_isBetween, 629, 30) := ⟨by decide +kernel, ⟨by decide +kernel, by decide +kernel⟩, by decide +kernel, by decide +kernel⟩
theorem am_P_Rea_fail : am_P (t_Rea_fail, 637, 30) := ⟨by decide +kernel, ⟨by decide +kernel, by decide +kernel⟩, by decide +kernel, by decide +kernel⟩
theorem am_P_Rea_readNumber : am_P (t_Rea_readNumber, 641, 30) := ⟨by decide +kernel, ⟨by decide +kernel, by decide +kernel⟩, by decide +kernel, by decide +kernel⟩
theorem am_P_Rea_readDigits : am_P (t_Rea_readDigits, 645, 30) := ⟨by decide +kernel, ⟨by decide +kernel, by decide +kernel⟩, by decide +kernel, by decide +kernel⟩
theorem am_P_Dra_begin : am_P (t_Dra_begin, 649, 33) := ⟨by decide +kernel, ⟨by decide +kernel, by decide +kernel⟩, by decide +kernel, by decide +kernel⟩
theorem am_P_Dra_put : am_P (t_Dra_put, 653, 33) := ⟨by decide +kernel, ⟨by decide +kernel, by decide +kernel⟩, by decide +kernel, by decide +kernel⟩
theorem am_P_Rea_readWords : am_P (t_Rea_readWords, 658, 30) := ⟨by decide +kernel, ⟨by decide +kernel, by decide +kernel⟩, by decide +kernel, by decide +kernel⟩
theorem am_P_Rea_isAtWord : am_P (t_Rea_isAtWord, 662, 30) := ⟨by decide +kernel, ⟨by decide +kernel, by decide +kernel⟩, by decide +kernel, by decide +kernel⟩
theorem am_P_Dra_addWord : am_P (t_Dra_addWord, 666, 33) := ⟨by decide +kernel, ⟨by decide +kernel, by decide +kernel⟩, by decide +kernel, by decide +kernel⟩
theorem am_P_Rea_expect : am_P (t_Rea_expect, 672, 30) := ⟨by decide +kernel, ⟨by decide +kernel, by decide +kernel⟩, by decide +kernel, by decide +kernel⟩
theorem am_P_Rea_readPlain : am_P (t_Rea_readPlain, 678, 30) := ⟨by decide +kernel, ⟨by decide +kernel, by decide +kernel⟩, by decide +kernel, by decide +kernel⟩
theorem am_P_Rea_readSaving : am_P (t_Rea_readSaving, 683, 30) := ⟨by decide +kernel, ⟨by decide +kernel, by decide +kernel⟩, by decide +kernel, by decide +kernel⟩
theorem am_P_Rea_readSemicolon : am_P (t_Rea_readSemicolon, 688, 30) := ⟨by decide +kernel, ⟨by decide +kernel, by decide +kernel⟩, by decide +kernel, by decide +kernel⟩
theorem am_P_SB_addDraft : am_P (t_SB_addDraft, 692, 29) := ⟨by decide +kernel, ⟨by decide +kernel, by decide +kernel⟩, by decide +kernel, by decide +kernel⟩
theorem am_P_Amd_hasRoomFor : am_P (t_Amd_hasRoomFor, 696, 35) := ⟨by decide +kernel, ⟨by decide +kernel, by decide +kernel⟩, by decide +kernel, by decide +kernel⟩
theorem am_P_Dra_inserts : am_P (t_Dra_inserts, 703, 33) := ⟨by decide +kernel, ⟨by decide +kernel, by decide +kernel⟩, by decide +kernel, by decide +kernel⟩
theorem am_P_Amd_add : am_P (t_Amd_add, 707, 35) := ⟨by decide +kernel, ⟨by decide +kernel, by decide +kernel⟩, by decide +kernel, by decide +kernel⟩
theorem am_P_Pag_makeEmpty : am_P (t_Pag_makeEmpty, 714, 31) := ⟨by decide +kernel, ⟨by decide +kernel, by decide +kernel⟩, by decide +kernel, by decide +kernel⟩
theorem am_P_LAW_isSame : am_P (t_LAW_isSame, 718, 28) := ⟨by decide +kernel, ⟨by decide +kernel, by decide +kernel⟩, by decide +kernel, by decide +kernel⟩
theorem am_P_LAW_indexOf : am_P (t_LAW_indexOf, 721, 28) := ⟨by decide +kernel, ⟨by decide +kernel, by decide +kernel⟩, by decide +kernel, by decide +kernel⟩
theorem am_P_SB_textWord : am_P (t_SB_textWord, 725, 29) := ⟨by decide +kernel, ⟨by decide +kernel, by decide +kernel⟩, by decide +kernel, by decide +kernel⟩
theorem am_P_SB_presentWord : am_P (t_SB_presentWord, 729, 29) := ⟨by decide +kernel, ⟨by decide +kernel, by decide +kernel⟩, by decide +kernel, by decide +kernel⟩
theorem am_P_Law_said : am_P (t_Law_said, 733, 37) := ⟨by decide +kernel, ⟨by decide +kernel, by decide +kernel⟩, by decide +kernel, by decide +kernel⟩
theorem am_P_LAW_toldWord : am_P (t_LAW_toldWord, 736, 28) := ⟨by decide +kernel, ⟨by decide +kernel, by decide +kernel⟩, by decide +kernel, by decide +kernel⟩
theorem am_Ps0 : ∀ q ∈ am_ts0,  am_P q := (List.forall_mem_cons.mpr ⟨am_P_SB_revoke, (List.forall_mem_cons.mpr ⟨am_P_Amd_has, (List.forall_mem_cons.mpr ⟨am_P_Amd_size, (List.forall_mem_cons.mpr ⟨am_P_Row_get, (List.forall_mem_cons.mpr ⟨am_P_Amd_isRevoked, (List.forall_mem_cons.mpr ⟨am_P_Arc_push, (List.forall_mem_cons.mpr ⟨am_P_Arc_putAway, (List.forall_mem_cons.mpr ⟨am_P_Row_take, (List.forall_mem_cons.mpr ⟨am_P_Amd_revoked, (List.forall_mem_cons.mpr ⟨am_P_Amd_setRevoked, (List.forall_mem_cons.mpr ⟨am_P_Row_set, (List.forall_mem_cons.mpr ⟨am_P_SB_commence, (List.forall_mem_cons.mpr ⟨am_P_SB_within, (List.forall_mem_cons.mpr ⟨am_P_Amd_day, (List.forall_mem_cons.mpr ⟨am_P_Amd_setDay, (List.forall_mem_cons.mpr ⟨am_P_SB_clauses, (List.forall_mem_cons.mpr ⟨am_P_SB_isLaw, (List.forall_mem_cons.mpr ⟨am_P_SB_consolidate, (List.forall_mem_cons.mpr ⟨am_P_Law_consolidate, (List.forall_mem_cons.mpr ⟨am_P_Row_fill, (List.forall_mem_cons.mpr ⟨am_P_Arr_fill, (List.forall_mem_cons.mpr ⟨am_P_Law_nextKey, (List.forall_mem_cons.mpr ⟨am_P_Law_carryOut, (List.forall_mem_cons.mpr ⟨am_P_Amd_start, (List.forall_mem_cons.mpr ⟨am_P_Amd_cell, (List.forall_mem_cons.mpr ⟨am_P_Law_holder, (List.forall_mem_cons.mpr ⟨am_P_Law_resolves, (List.forall_mem_cons.mpr ⟨am_P_Law_reason, (List.forall_mem_cons.mpr ⟨am_P_Law_contains, (List.forall_mem_cons.mpr ⟨am_P_Law_perform, (List.forall_mem_cons.mpr ⟨am_P_Law_setText, (List.forall_mem_cons.mpr ⟨am_P_Law_change, (fun _ h => absurd h List.not_mem_nil)⟩)⟩)⟩)⟩)⟩)⟩)⟩)⟩)⟩)⟩)⟩)⟩)⟩)⟩)⟩)⟩)⟩)⟩)⟩)⟩)⟩)⟩)⟩)⟩)⟩)⟩)⟩)⟩)⟩)⟩)⟩)⟩)
theorem am_Ps1 : ∀ q ∈ am_ts1,  am_P q := (List.forall_mem_cons.mpr ⟨am_P_Law_arrange, (List.forall_mem_cons.mpr ⟨am_P_Law_size, (List.forall_mem_cons.mpr ⟨am_P_SB_clause, (List.forall_mem_cons.mpr ⟨am_P_Law_at, (List.forall_mem_cons.mpr ⟨am_P_SB_clausePart, (List.forall_mem_cons.mpr ⟨am_P_Law_code, (List.forall_mem_cons.mpr ⟨am_P_Law_length, (List.forall_mem_cons.mpr ⟨am_P_Law_lastDay, (List.forall_mem_cons.mpr ⟨am_P_SB_find, (List.forall_mem_cons.mpr ⟨am_P_SB_isCode, (List.forall_mem_cons.mpr ⟨am_P_Law_indexOf, (List.forall_mem_cons.mpr ⟨am_P_SB_count, (List.forall_mem_cons.mpr ⟨am_P_SB_consolidateFully, (List.forall_mem_cons.mpr ⟨am_P_SB_countPart, (List.forall_mem_cons.mpr ⟨am_P_Amd_operations, (List.forall_mem_cons.mpr ⟨am_P_Amd_identities, (List.forall_mem_cons.mpr ⟨am_P_Arc_states, (List.forall_mem_cons.mpr ⟨am_P_Pag_kept, (List.forall_mem_cons.mpr ⟨am_P_Int_bitCount, (List.forall_mem_cons.mpr ⟨am_P_Arc_snapshots, (List.forall_mem_cons.mpr ⟨am_P_LAW_cell, (List.forall_mem_cons.mpr ⟨am_P_LAW_low, (List.forall_mem_cons.mpr ⟨am_P_LAW_lays, (List.forall_mem_cons.mpr ⟨am_P_LAW_next, (List.forall_mem_cons.mpr ⟨am_P_LAW_carries, (List.forall_mem_cons.mpr ⟨am_P_LAW_code, (List.forall_mem_cons.mpr ⟨am_P_LAW_at, (List.forall_mem_cons.mpr ⟨am_P_LAW_kind, (List.forall_mem_cons.mpr ⟨am_P_LAW_one, (List.forall_mem_cons.mpr ⟨am_P_LAW_two, (List.forall_mem_cons.mpr ⟨am_P_LAW_identity, (List.forall_mem_cons.mpr ⟨am_P_LAW_enacts, (fun _ h => absurd h List.not_mem_nil)⟩)⟩)⟩)⟩)⟩)⟩)⟩)⟩)⟩)⟩)⟩)⟩)⟩)⟩)⟩)⟩)⟩)⟩)⟩)⟩)⟩)⟩)⟩)⟩)⟩)⟩)⟩)⟩)⟩)⟩)⟩)⟩)
theorem am_Ps2 : ∀ q ∈ am_ts2,  am_P q := (List.forall_mem_cons.mpr ⟨am_P_SB_type, (List.forall_mem_cons.mpr ⟨am_P_Pag_append, (List.forall_mem_cons.mpr ⟨am_P_LAW_typesOperation, (List.forall_mem_cons.mpr ⟨am_P_LAW_number, (List.forall_mem_cons.mpr ⟨am_P_LAW_aWord, (List.forall_mem_cons.mpr ⟨am_P_LAW_types, (List.forall_mem_cons.mpr ⟨am_P_LAW_typesNumber, (List.forall_mem_cons.mpr ⟨am_P_LAW_typesInteger, (List.forall_mem_cons.mpr ⟨am_P_LAW_typesWord, (List.forall_mem_cons.mpr ⟨am_P_SB_enact, (List.forall_mem_cons.mpr ⟨am_P_Rea_readAmendment, (List.forall_mem_cons.mpr ⟨am_P_Dra_makeEmpty, (List.forall_mem_cons.mpr ⟨am_P_Rea_readOperation, (List.forall_mem_cons.mpr ⟨am_P_Rea_skipBlanks, (List.forall_mem_cons.mpr ⟨am_P_Pag_byteAt, (List.forall_mem_cons.mpr ⟨am_P_Dra_size, (List.forall_mem_cons.mpr ⟨am_P_Rea_readKind, (List.forall_mem_cons.mpr ⟨am_P_Rea_passes, (List.forall_mem_cons.mpr ⟨am_P_Str_length, (List.forall_mem_cons.mpr ⟨am_P_Str_coder, (List.forall_mem_cons.mpr ⟨am_P_Str_charAt, (List.forall_mem_cons.mpr ⟨am_P_Str_isLatin1, (List.forall_mem_cons.mpr ⟨am_P_SL1_charAt, (List.forall_mem_cons.mpr ⟨am_P_Str_checkIndex, (List.forall_mem_cons.mpr ⟨am_P_Pre_checkIndex, (List.forall_mem_cons.mpr ⟨am_P_Rea_isBetween, (List.forall_mem_cons.mpr ⟨am_P_Rea_fail, (List.forall_mem_cons.mpr ⟨am_P_Rea_readNumber, (List.forall_mem_cons.mpr ⟨am_P_Rea_readDigits, (List.forall_mem_cons.mpr ⟨am_P_Dra_begin, (List.forall_mem_cons.mpr ⟨am_P_Dra_put, (List.forall_mem_cons.mpr ⟨am_P_Rea_readWords, (fun _ h => absurd h List.not_mem_nil)⟩)⟩)⟩)⟩)⟩)⟩)⟩)⟩)⟩)⟩)⟩)⟩)⟩)⟩)⟩)⟩)⟩)⟩)⟩)⟩)⟩)⟩)⟩)⟩)⟩)⟩)⟩)⟩)⟩)⟩)⟩)⟩)
theorem am_Ps3 : ∀ q ∈ am_ts3, q.1 ≠ t_LAW_law → am_P q := (List.forall_mem_cons.mpr ⟨(fun _ => am_P_Rea_isAtWord), (List.forall_mem_cons.mpr ⟨(fun _ => am_P_Dra_addWord), (List.forall_mem_cons.mpr ⟨(fun _ => am_P_Rea_expect), (List.forall_mem_cons.mpr ⟨(fun _ => am_P_Rea_readPlain), (List.forall_mem_cons.mpr ⟨(fun _ => am_P_Rea_readSaving), (List.forall_mem_cons.mpr ⟨(fun _ => am_P_Rea_readSemicolon), (List.forall_mem_cons.mpr ⟨(fun _ => am_P_SB_addDraft), (List.forall_mem_cons.mpr ⟨(fun _ => am_P_Amd_hasRoomFor), (List.forall_mem_cons.mpr ⟨(fun _ => am_P_Dra_inserts), (List.forall_mem_cons.mpr ⟨(fun _ => am_P_Amd_add), (List.forall_mem_cons.mpr ⟨(fun _ => am_P_Pag_makeEmpty), (List.forall_mem_cons.mpr ⟨(fun _ => am_P_LAW_isSame), (List.forall_mem_cons.mpr ⟨(fun _ => am_P_LAW_indexOf), (List.forall_mem_cons.mpr ⟨(fun _ => am_P_SB_textWord), (List.forall_mem_cons.mpr ⟨(fun _ => am_P_SB_presentWord), (List.forall_mem_cons.mpr ⟨(fun _ => am_P_Law_said), (List.forall_mem_cons.mpr ⟨(fun _ => am_P_LAW_toldWord), (List.forall_mem_cons.mpr ⟨(fun h => absurd rfl h), (fun _ h => absurd h List.not_mem_nil)⟩)⟩)⟩)⟩)⟩)⟩)⟩)⟩)⟩)⟩)⟩)⟩)⟩)⟩)⟩)⟩)⟩)⟩)
theorem am_Pt : ∀ q ∈ am_ts, q.1 ≠ t_LAW_law → am_P q := by
  intro q hq hn
  simp only [am_ts, List.mem_append] at hq
  rcases hq with ((hq | hq) | hq) | hq
  · exact am_Ps0 q hq
  · exact am_Ps1 q hq
  · exact am_Ps2 q hq
  · exact am_Ps3 q hq hn
/-- a link to a method: its words -/
def am_cok (k : Nat) (e : Nat × Nat × Nat × Nat × Nat × Nat) : Bool := match am_ts[e.2.1]? with
  | some q => decide (lw_tbl[e.2.2.2.1]? = some (.methodLink (am_cn k) e.1 (am_nm q.1))) && decide (am_nm q.1 ≠ am_nm t_LAW_law) &&
    (bif Nat.beq e.2.2.1 0 then decide (lw_tbl[e.2.2.2.2.1]? = some (.instanceMethod (am_nm q.1))) && decide (lw_tbl[e.2.2.2.2.2]? = some (.selects (am_nm q.1).cls (am_nm q.1) (am_nm q.1))) && decide ((parseMethodDescriptor (am_nm q.1).desc).map (fun d => d.parameters.length + 1) = some (am_ar q.1))
     else decide (lw_tbl[e.2.2.2.2.1]? = some (.static (am_nm q.1))) && decide ((parseMethodDescriptor (am_nm q.1).desc).map (fun d => d.parameters.length) = some (am_ar q.1)))
  | none => false
def am_fok (k : Nat) (e : Nat × Nat × Nat × Nat × Nat) : Bool := match am_cl[e.2.1]? with
  | some r => Nat.blt e.2.2.1 r.2.2 && decide (lw_tbl[e.2.2.2.2]? = some (bif Nat.beq e.2.2.2.1 0 then .fieldLink (am_cn k) e.1 (r.2.1 e.2.2.1).1 (r.2.1 e.2.2.1).2.1 (r.2.1 e.2.2.1).2.2.1 else .fieldLinkNest (am_cn k) e.1 (r.2.1 e.2.2.1).1 (r.2.1 e.2.2.1).2.1 (r.2.1 e.2.2.1).2.2.1 "StatuteBook"))
  | none => false
def am_kok (k : Nat) (e : Nat × Int32 × Nat) : Bool := decide (lw_tbl[e.2.2]? = some (.constant (am_cn k) e.1 e.2.1))
def am_lok (k : Nat) (e : Nat × Int64 × Nat) : Bool := decide (lw_tbl[e.2.2]? = some (.constantLong (am_cn k) e.1 e.2.1))
theorem am_mc0 : (am_m0).all (am_cok 0) = true := by decide +kernel
theorem am_fc0 : (am_f0).all (am_fok 0) = true := by decide +kernel
theorem am_kc0 : (am_ki0).all (am_kok 0) = true := by decide +kernel
theorem am_lc0 : (am_kl0).all (am_lok 0) = true := by decide +kernel
theorem am_mc1 : (am_m1).all (am_cok 1) = true := by decide +kernel
theorem am_fc1 : (am_f1).all (am_fok 1) = true := by decide +kernel
theorem am_kc1 : (am_ki1).all (am_kok 1) = true := by decide +kernel
theorem am_lc1 : (am_kl1).all (am_lok 1) = true := by decide +kernel
theorem am_mc2 : (am_m2).all (am_cok 2) = true := by decide +kernel
theorem am_fc2 : (am_f2).all (am_fok 2) = true := by decide +kernel
theorem am_kc2 : (am_ki2).all (am_kok 2) = true := by decide +kernel
theorem am_lc2 : (am_kl2).all (am_lok 2) = true := by decide +kernel
theorem am_mc3 : (am_m3).all (am_cok 3) = true := by decide +kernel
theorem am_fc3 : (am_f3).all (am_fok 3) = true := by decide +kernel
theorem am_kc3 : (am_ki3).all (am_kok 3) = true := by decide +kernel
theorem am_lc3 : (am_kl3).all (am_lok 3) = true := by decide +kernel
theorem am_mc4 : (am_m4).all (am_cok 4) = true := by decide +kernel
theorem am_fc4 : (am_f4).all (am_fok 4) = true := by decide +kernel
theorem am_kc4 : (am_ki4).all (am_kok 4) = true := by decide +kernel
theorem am_lc4 : (am_kl4).all (am_lok 4) = true := by decide +kernel
theorem am_mc5 : (am_m5).all (am_cok 5) = true := by decide +kernel
theorem am_fc5 : (am_f5).all (am_fok 5) = true := by decide +kernel
theorem am_kc5 : (am_ki5).all (am_kok 5) = true := by decide +kernel
theorem am_lc5 : (am_kl5).all (am_lok 5) = true := by decide +kernel
theorem am_mc6 : (am_m6).all (am_cok 6) = true := by decide +kernel
theorem am_fc6 : (am_f6).all (am_fok 6) = true := by decide +kernel
theorem am_kc6 : (am_ki6).all (am_kok 6) = true := by decide +kernel
theorem am_lc6 : (am_kl6).all (am_lok 6) = true := by decide +kernel
theorem am_mc7 : (am_m7).all (am_cok 7) = true := by decide +kernel
theorem am_fc7 : (am_f7).all (am_fok 7) = true := by decide +kernel
theorem am_kc7 : (am_ki7).all (am_kok 7) = true := by decide +kernel
theorem am_lc7 : (am_kl7).all (am_lok 7) = true := by decide +kernel
theorem am_mc8 : (am_m8).all (am_cok 8) = true := by decide +kernel
theorem am_fc8 : (am_f8).all (am_fok 8) = true := by decide +kernel
theorem am_kc8 : (am_ki8).all (am_kok 8) = true := by decide +kernel
theorem am_lc8 : (am_kl8).all (am_lok 8) = true := by decide +kernel
theorem am_mc9 : (am_m9).all (am_cok 9) = true := by decide +kernel
theorem am_fc9 : (am_f9).all (am_fok 9) = true := by decide +kernel
theorem am_kc9 : (am_ki9).all (am_kok 9) = true := by decide +kernel
theorem am_lc9 : (am_kl9).all (am_lok 9) = true := by decide +kernel
theorem am_mc10 : (am_m10).all (am_cok 10) = true := by decide +kernel
theorem am_fc10 : (am_f10).all (am_fok 10) = true := by decide +kernel
theorem am_kc10 : (am_ki10).all (am_kok 10) = true := by decide +kernel
theorem am_lc10 : (am_kl10).all (am_lok 10) = true := by decide +kernel
theorem am_mc11 : (am_m11).all (am_cok 11) = true := by decide +kernel
theorem am_fc11 : (am_f11).all (am_fok 11) = true := by decide +kernel
theorem am_kc11 : (am_ki11).all (am_kok 11) = true := by decide +kernel
theorem am_lc11 : (am_kl11).all (am_lok 11) = true := by decide +kernel
theorem am_mc12 : (am_m12).all (am_cok 12) = true := by decide +kernel
theorem am_fc12 : (am_f12).all (am_fok 12) = true := by decide +kernel
theorem am_kc12 : (am_ki12).all (am_kok 12) = true := by decide +kernel
theorem am_lc12 : (am_kl12).all (am_lok 12) = true := by decide +kernel
theorem am_mc13 : (am_m13).all (am_cok 13) = true := by decide +kernel
theorem am_fc13 : (am_f13).all (am_fok 13) = true := by decide +kernel
theorem am_kc13 : (am_ki13).all (am_kok 13) = true := by decide +kernel
theorem am_lc13 : (am_kl13).all (am_lok 13) = true := by decide +kernel
theorem am_mc14 : (am_m14).all (am_cok 14) = true := by decide +kernel
theorem am_fc14 : (am_f14).all (am_fok 14) = true := by decide +kernel
theorem am_kc14 : (am_ki14).all (am_kok 14) = true := by decide +kernel
theorem am_lc14 : (am_kl14).all (am_lok 14) = true := by decide +kernel
theorem am_mc15 : (am_m15).all (am_cok 15) = true := by decide +kernel
theorem am_fc15 : (am_f15).all (am_fok 15) = true := by decide +kernel
theorem am_kc15 : (am_ki15).all (am_kok 15) = true := by decide +kernel
theorem am_lc15 : (am_kl15).all (am_lok 15) = true := by decide +kernel
theorem am_mc16 : (am_m16).all (am_cok 16) = true := by decide +kernel
theorem am_fc16 : (am_f16).all (am_fok 16) = true := by decide +kernel
theorem am_kc16 : (am_ki16).all (am_kok 16) = true := by decide +kernel
theorem am_lc16 : (am_kl16).all (am_lok 16) = true := by decide +kernel
theorem am_m_all (k : Nat) : (am_m k).all (am_cok k) = true := match k with
  | 0 => am_mc0
  | 1 => am_mc1
  | 2 => am_mc2
  | 3 => am_mc3
  | 4 => am_mc4
  | 5 => am_mc5
  | 6 => am_mc6
  | 7 => am_mc7
  | 8 => am_mc8
  | 9 => am_mc9
  | 10 => am_mc10
  | 11 => am_mc11
  | 12 => am_mc12
  | 13 => am_mc13
  | 14 => am_mc14
  | 15 => am_mc15
  | 16 => am_mc16
  | _ + 17 => rfl
theorem am_f_all (k : Nat) : (am_f k).all (am_fok k) = true := match k with
  | 0 => am_fc0
  | 1 => am_fc1
  | 2 => am_fc2
  | 3 => am_fc3
  | 4 => am_fc4
  | 5 => am_fc5
  | 6 => am_fc6
  | 7 => am_fc7
  | 8 => am_fc8
  | 9 => am_fc9
  | 10 => am_fc10
  | 11 => am_fc11
  | 12 => am_fc12
  | 13 => am_fc13
  | 14 => am_fc14
  | 15 => am_fc15
  | 16 => am_fc16
  | _ + 17 => rfl
theorem am_ki_all (k : Nat) : (am_ki k).all (am_kok k) = true := match k with
  | 0 => am_kc0
  | 1 => am_kc1
  | 2 => am_kc2
  | 3 => am_kc3
  | 4 => am_kc4
  | 5 => am_kc5
  | 6 => am_kc6
  | 7 => am_kc7
  | 8 => am_kc8
  | 9 => am_kc9
  | 10 => am_kc10
  | 11 => am_kc11
  | 12 => am_kc12
  | 13 => am_kc13
  | 14 => am_kc14
  | 15 => am_kc15
  | 16 => am_kc16
  | _ + 17 => rfl
theorem am_kl_all (k : Nat) : (am_kl k).all (am_lok k) = true := match k with
  | 0 => am_lc0
  | 1 => am_lc1
  | 2 => am_lc2
  | 3 => am_lc3
  | 4 => am_lc4
  | 5 => am_lc5
  | 6 => am_lc6
  | 7 => am_lc7
  | 8 => am_lc8
  | 9 => am_lc9
  | 10 => am_lc10
  | 11 => am_lc11
  | 12 => am_lc12
  | 13 => am_lc13
  | 14 => am_lc14
  | 15 => am_lc15
  | 16 => am_lc16
  | _ + 17 => rfl
theorem am_law_dok0 : am_dok (am_by t_LAW_law) k_LAW_0 = true := by decide +kernel
theorem am_law_dok1 : am_dok (am_by t_LAW_law) k_LAW_1 = true := by decide +kernel
theorem am_law_dok2 : am_dok (am_by t_LAW_law) k_LAW_2 = true := by decide +kernel
theorem am_law_dok3 : am_dok (am_by t_LAW_law) k_LAW_3 = true := by decide +kernel
theorem am_law_dok4 : am_dok (am_by t_LAW_law) k_LAW_4 = true := by decide +kernel
theorem am_law_dok5 : am_dok (am_by t_LAW_law) k_LAW_5 = true := by decide +kernel
theorem am_law_dok6 : am_dok (am_by t_LAW_law) k_LAW_6 = true := by decide +kernel
theorem am_dok_app {b : ByteArray} {l l2 : List (Nat × Instr × Nat)} (h : am_dok b l = true) (h2 : am_dok b l2 = true) : am_dok b (l ++ l2) = true := by unfold am_dok at *; rw [List.all_append, h, h2]; rfl
theorem am_law_dok : am_dok (am_by t_LAW_law) (am_cd t_LAW_law) = true := am_dok_app am_law_dok0 (am_dok_app am_law_dok1 (am_dok_app am_law_dok2 (am_dok_app am_law_dok3 (am_dok_app am_law_dok4 (am_dok_app am_law_dok5 (am_law_dok6))))))
theorem am_law_rok : am_rok t_LAW_law = true := by decide +kernel
theorem am_law_cok : (am_cd t_LAW_law).all (am_cokI (am_ow t_LAW_law)) = true := by decide +kernel
/-- the objects' places and the classes' tables -/
def am_tyof (ci : Nat) : Nat → FieldType := match ci with
  | 0 => tyX0
  | 1 => tyX1
  | 2 => tyX2
  | 3 => tyX3
  | 4 => tyX4
  | 5 => tyX5
  | 6 => tyX6
  | 7 => tyX7
  | _ => tyX8
def am_fdok (r : vw_C) (k : Nat) (f : Nat) : Bool := match f with
  | 0 => decide ((r.2.1 k).2.2.1 = "I") && !(r.2.1 k).2.2.2
  | 1 => decide ((r.2.1 k).2.2.1 = "J") && !(r.2.1 k).2.2.2
  | 2 => decide ((r.2.1 k).2.2.1 = "Z") && !(r.2.1 k).2.2.2
  | _ => true
def am_LLok : Bool := am_LL.all fun e => match e with
  | .inl n => Nat.blt n 1000000
  | .inr (ci, fs) => (match am_cl[ci]? with
    | some r => (Nat.beq fs.length r.2.2 && Nat.blt fs.length 50) && (List.range fs.length).all (fun k => match fs[k]? with | some f => am_fdok r k f && decide (f ≠ 7003) | none => false)
    | none => false)
theorem am_LL_ok : am_LLok = true := by decide +kernel
theorem am_cls (ci : Nat) (r : vw_C) (h : am_cl[ci]? = some r) : (∀ k, k < r.2.2 → parseFieldDescriptor (r.2.1 k).2.2.1 = some (am_tyof ci k)) ∧ (∀ a, a < r.2.2 → ∀ b, b < r.2.2 → a ≠ b → (r.2.1 a).2.1 ≠ (r.2.1 b).2.1) ∧ ∀ w ∈ u_ws r.1 r.2.1 r.2.2, w ∈ am_tbl := by
  match ci, h with
  | 0, h => cases h; exact ⟨tyX0_ok, nmX0, am_ws0⟩
  | 1, h => cases h; exact ⟨tyX1_ok, nmX1, am_ws1⟩
  | 2, h => cases h; exact ⟨tyX2_ok, nmX2, am_ws2⟩
  | 3, h => cases h; exact ⟨tyX3_ok, nmX3, am_ws3⟩
  | 4, h => cases h; exact ⟨tyX4_ok, nmX4, am_ws4⟩
  | 5, h => cases h; exact ⟨tyX5_ok, nmX5, am_ws5⟩
  | 6, h => cases h; exact ⟨tyX6_ok, nmX6, am_ws6⟩
  | 7, h => cases h; exact ⟨tyX7_ok, nmX7, am_ws7⟩
  | 8, h => cases h; exact ⟨tyX8_ok, nmX8, am_ws8⟩
  | k + 9, h => simp [am_cl] at h
