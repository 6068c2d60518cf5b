/-! the abstract machine's steps are the machine's: an instruction at a time -/
theorem am_tgo_eq {pc tg : Nat} {off : Int} (h : am_tgo pc off = some tg) : (pc : Int) + off = (tg : Int) := by
  unfold am_tgo at h
  split at h
  · cases h; omega
  · cases h
theorem am_i32_nlt {x y : Int32} : (¬ x < y) ↔ y ≤ x := Int32.not_lt
theorem am_as_ks {k j : Nat} (h : am_as am_ks5 k = some j) : j < 9 := by
  have h1 := am_as_mem h
  have h2 : ∀ q ∈ am_ks5, q.2 < 9 := by decide +kernel
  exact h2 _ h1
theorem am_fl_spec {ow k ci j : Nat} (h : am_fl ow k = some (ci, j)) : ∃ (r : vw_C) (nest pw : Nat), am_cl[ci]? = some r ∧ j < r.2.2 ∧ (nest = 0 → Cond.fieldLink (am_cn ow) k (r.2.1 j).1 (r.2.1 j).2.1 (r.2.1 j).2.2.1 ∈ am_tbl) ∧ (nest ≠ 0 → lw_tbl[pw]? = some (Cond.fieldLinkNest (am_cn ow) k (r.2.1 j).1 (r.2.1 j).2.1 (r.2.1 j).2.2.1 "StatuteBook")) := by
  unfold am_fl at h
  split at h
  · rename_i q hq
    cases h
    have hw := (List.all_eq_true.mp (am_f_all ow)) _ (am_as_mem hq)
    unfold am_fok at hw
    split at hw
    · rename_i r hr
      rw [Bool.and_eq_true] at hw
      have h1 : q.2.1 < r.2.2 := Nat.le_of_ble_eq_true hw.1
      have h2 := of_decide_eq_true hw.2
      refine ⟨r, q.2.2.1, q.2.2.2, hr, h1, fun h0 => ?_, fun h0 => ?_⟩
      · rw [h0] at h2
        exact am_mem h2 rfl
      · have : Nat.beq q.2.2.1 0 = false := by
          cases hb : Nat.beq q.2.2.1 0 with
          | false => rfl
          | true => exact absurd (Nat.eq_of_beq_eq_true hb) h0
        rw [this] at h2
        exact h2
    · cases hw
  · cases h
theorem am_LL_at {a ci : Nat} {fs : List Nat} (h : am_LL[a]? = some (.inr (ci, fs))) : ∃ r, am_cl[ci]? = some r ∧ fs.length = r.2.2 ∧ fs.length < 50 ∧ ∀ k f, fs[k]? = some f → am_fdok r k f = true ∧ f ≠ 7003 := by
  have h0 := am_LL_ok
  unfold am_LLok at h0
  have h1 := (List.all_eq_true.mp h0) _ (List.mem_of_getElem? h)
  dsimp only at h1
  split at h1
  · rename_i r hr
    rw [Bool.and_eq_true, Bool.and_eq_true] at h1
    have hlen := Nat.eq_of_beq_eq_true h1.1.1
    refine ⟨r, hr, hlen, Nat.le_of_ble_eq_true h1.1.2, fun k f hf => ?_⟩
    have hk : k < fs.length := (List.getElem?_eq_some_iff.mp hf).1
    have h2 := (List.all_eq_true.mp h1.2) k (List.mem_range.mpr hk)
    rw [hf] at h2
    dsimp only at h2
    rw [Bool.and_eq_true] at h2
    refine ⟨h2.1, fun q => ?_⟩
    subst q
    exact absurd h2.2 (by decide)
  · cases h1
theorem am_fld {a ci : Nat} {fs : List Nat} {j f : Nat} (h : am_LL[a]? = some (.inr (ci, fs))) (hf : fs[j]? = some f) : f ≠ 7003 := by
  obtain ⟨r, -, -, -, h4⟩ := am_LL_at h
  exact (h4 j f hf).2
theorem am_fw_tv {ad : Nat → Nat} {z : Value} {M : am_M} {a j f : Nat} (h : f ≠ 7003) : am_fw ad M a j f = am_tv ad z (am_fv M a j f) := by
  match f, h with
  | 0, _ => rfl
  | 1, _ => rfl
  | 2, _ => rfl
  | r + 3, h => exact (am_tv_ref (by omega)).symm
theorem am_fld2 {a ci : Nat} {fs : List Nat} {j f : Nat} {Cn : String} {T : u_T} {N : Nat} (h : am_LL[a]? = some (.inr (ci, fs))) (hf : fs[j]? = some f) (hcl : am_cl[ci]? = some (Cn, T, N)) : match f with
    | 0 => (T j).2.2.1 = "I" ∧ (T j).2.2.2 = false
    | 1 => (T j).2.2.1 = "J" ∧ (T j).2.2.2 = false
    | 2 => (T j).2.2.1 = "Z" ∧ (T j).2.2.2 = false
    | _ => True := by
  obtain ⟨r, h1, -, -, h4⟩ := am_LL_at h
  rw [hcl] at h1
  cases h1
  have h5 := (h4 j f hf).1
  match f, h5 with
  | 0, h5 => simpa [am_fdok] using h5
  | 1, h5 => simpa [am_fdok] using h5
  | 2, h5 => simpa [am_fdok] using h5
  | r + 3, h5 => trivial
theorem am_short {a ci : Nat} {fs : List Nat} {j f : Nat} (h : am_LL[a]? = some (.inr (ci, fs))) (hf : fs[j]? = some f) : j < 50 := by
  obtain ⟨r, -, -, h3, -⟩ := am_LL_at h
  have := (List.getElem?_eq_some_iff.mp hf).1
  omega
theorem am_kinds {a ci : Nat} {fs : List Nat} {j f : Nat} (h : am_LL[a]? = some (.inr (ci, fs))) (hf : fs[j]? = some f) : j < 50 := am_short h hf
theorem am_fw_up {ad : Nat → Nat} {M : am_M} {a i j f : Nat} {x : Int32} (hi : i ≠ j) (hs : i < 50) (_ : True = True) (hj : j < 50 := by assumption) : am_fw ad (am_up M a j x) a i f = am_fw ad M a i f := by
  match f with
  | 0 => show Value.int _ = Value.int _; rw [am_up_ne _ _ _ _ (by omega)]
  | 1 => show Value.long _ = Value.long _; rw [am_up_ne _ _ _ _ (by omega), am_up_ne _ _ _ _ (by omega)]
  | 2 => show Value.int _ = Value.int _; rw [am_up_ne _ _ _ _ (by omega)]
  | r + 3 => rfl
theorem am_fw_up2 {ad : Nat → Nat} {M : am_M} {a i j f : Nat} {x y : Int32} (hi : i ≠ j) (hs : i < 50) (hj : j < 50) : am_fw ad (am_up (am_up M a j x) a (j + 100) y) a i f = am_fw ad M a i f := by
  match f with
  | 0 => show Value.int _ = Value.int _; rw [am_up_ne _ _ _ _ (by omega), am_up_ne _ _ _ _ (by omega)]
  | 1 => show Value.long _ = Value.long _; rw [am_up_ne _ _ _ _ (by omega), am_up_ne _ _ _ _ (by omega), am_up_ne _ _ _ _ (by omega), am_up_ne _ _ _ _ (by omega)]
  | 2 => show Value.int _ = Value.int _; rw [am_up_ne _ _ _ _ (by omega), am_up_ne _ _ _ _ (by omega)]
  | r + 3 => rfl
theorem am_set_fw {ad : Nat → Nat} {M M' : am_M} {a j f0 : Nat} {fs : List Nat} {v : Value} (hf : fs[j]? = some f0) (hv : v = am_fw ad M' a j f0) (ho : ∀ i f, i ≠ j → fs[i]? = some f → am_fw ad M' a i f = am_fw ad M a i f) : (fs.mapIdx fun j f => am_fw ad M a j f).set j v = fs.mapIdx fun j f => am_fw ad M' a j f := by
  have hl : j < fs.length := (List.getElem?_eq_some_iff.mp hf).1
  apply List.ext_getElem?
  intro i
  rw [List.getElem?_set, List.getElem?_mapIdx, List.getElem?_mapIdx]
  by_cases hi : j = i
  · subst hi
    rw [if_pos rfl, if_pos (by rw [List.length_mapIdx]; exact hl), hf, hv]
    rfl
  · rw [if_neg hi]
    cases h9 : fs[i]? with
    | none => rfl
    | some f =>
      show some (am_fw ad M a i f) = some (am_fw ad M' a i f)
      rw [ho i f (Ne.symm hi) h9]
section AMW
variable {p : Program} {l : Launch} {e : Env} {R : Room} {s : State} {m : MethodId} {args : Array Value} {below : List Frame} {meth : Method} {c : Code} {cells slots : Nat} {Q : State → Prop}
variable {t : am_T} {D : va_G} {cI : ClassId × ClassId} {ad : Nat → Nat} {z : Value} {A : Nat → Prop} {L : Nat} {xs : Nat → Int32}
set_option maxHeartbeats 40000000 in
theorem am_ex_W (E : am_E p s m args c t D cI ad z A L xs) {i : Instr} {n pc : Nat} {ls st ls' st' : List Value} {M M' : am_M} {pc' : Nat}
    (hd : decode (am_by t) pc = .ok (i, n)) (hn : am_lnok i n = true) (hps : am_psok i = true) (h : am_ex (am_ow t) i n pc ls st M = some (pc', ls', st', M'))
    {H : Heap} {locs : List Loc} {LS : Array Slot} (hR : am_R D cI ad z A L xs s (am_mL t) H locs LS ls M)
    (kk : ∀ (H' : Heap) (locs' : List Loc) (LS' : Array Slot), am_R D cI ad z A L xs s (am_mL t) H' locs' LS' ls' M' → W p l e R s m args below meth c H' locs' cells slots Q (F0 m pc' LS' (st'.map (am_tv ad z)))) :
    W p l e R s m args below meth c H locs cells slots Q (F0 m pc LS (st.map (am_tv ad z))) := by
  obtain ⟨hx, hb, hml, hown, hts, hK, hZ, hA⟩ := E
  have hz := hZ.2.2.2.1
  cases i
  case iconst v =>
    have hn : n = 1 := Nat.eq_of_beq_eq_true hn
    subst hn
    dsimp only [am_ex] at h
    cases h
    exact lv_iconst hx hb hd rfl (kk _ _ _ hR)
  case bipush v =>
    have hn : n = 2 := Nat.eq_of_beq_eq_true hn
    subst hn
    dsimp only [am_ex] at h
    cases h
    exact lv_bipush hx hb hd rfl (kk _ _ _ hR)
  case sipush v =>
    have hn : n = 3 := Nat.eq_of_beq_eq_true hn
    subst hn
    dsimp only [am_ex] at h
    cases h
    exact lv_sipush hx hb hd rfl (kk _ _ _ hR)
  case lconst v =>
    have hn : n = 1 := Nat.eq_of_beq_eq_true hn
    subst hn
    dsimp only [am_ex] at h
    cases h
    exact lv_lconst hx hb hd rfl (kk _ _ _ hR)
  case ldc k =>
    have hn : n = 2 := Nat.eq_of_beq_eq_true hn
    subst hn
    dsimp only [am_ex] at h
    split at h
    · rename_i q hq
      cases h
      have hw := (List.all_eq_true.mp (am_ki_all (am_ow t))) _ (am_as_mem hq)
      exact lv_ldc hx hb hown (hts _ (am_mem (of_decide_eq_true hw) rfl)) hd (kk _ _ _ hR)
    · cases ho : Nat.beq (am_ow t) 5 with
      | false => rw [ho] at h; cases h
      | true =>
        rw [ho] at h
        dsimp only [cond_true] at h
        split at h
        · rename_i j hj
          cases h
          obtain ⟨tx, hr⟩ := hZ.2.2.2.2.1 k j hj
          have hj9 := am_as_ks hj
          have ho := Nat.eq_of_beq_eq_true ho
          rw [ho] at hown
          refine va_ldcS hx hb hown hr hd ?_
          have := kk _ _ _ hR
          rw [List.map_cons, am_tv_ref (by omega)] at this
          exact this
        · cases h
  case ldc_w k =>
    have hn : n = 3 := Nat.eq_of_beq_eq_true hn
    subst hn
    dsimp only [am_ex] at h
    split at h
    · rename_i q hq
      cases h
      have hw := (List.all_eq_true.mp (am_ki_all (am_ow t))) _ (am_as_mem hq)
      exact lv_ldcw hx hb hown (hts _ (am_mem (of_decide_eq_true hw) rfl)) hd (kk _ _ _ hR)
    · cases h
  case ldc2_w k =>
    have hn : n = 3 := Nat.eq_of_beq_eq_true hn
    subst hn
    dsimp only [am_ex] at h
    split at h
    · rename_i q hq
      cases h
      have hw := (List.all_eq_true.mp (am_kl_all (am_ow t))) _ (am_as_mem hq)
      exact lv_ldc2 hx hb hown (hts _ (am_mem (of_decide_eq_true hw) rfl)) hd (kk _ _ _ hR)
    · cases h
  case iload k =>
    have hn : n = 2 := Nat.eq_of_beq_eq_true hn
    subst hn
    dsimp only [am_ex] at h
    split at h
    · rename_i x hx0
      cases h
      exact lv_iload hx hb hd (am_lv_ld hR.2.2.2.1 hx0) (kk _ _ _ hR)
    · cases h
  case iload_n k =>
    have hn : n = 1 := Nat.eq_of_beq_eq_true hn
    subst hn
    dsimp only [am_ex] at h
    split at h
    · rename_i x hx0
      cases h
      exact lv_iload_n hx hb hd rfl (am_lv_ld hR.2.2.2.1 hx0) (kk _ _ _ hR)
    · cases h
  case lload k =>
    have hn : n = 2 := Nat.eq_of_beq_eq_true hn
    subst hn
    dsimp only [am_ex] at h
    split at h
    · rename_i x hx0
      cases h
      exact lv_lload hx hb hd (am_lv_ld hR.2.2.2.1 hx0) (kk _ _ _ hR)
    · cases h
  case lload_n k =>
    have hn : n = 1 := Nat.eq_of_beq_eq_true hn
    subst hn
    dsimp only [am_ex] at h
    split at h
    · rename_i x hx0
      cases h
      exact lv_lload_n hx hb hd rfl (am_lv_ld hR.2.2.2.1 hx0) (kk _ _ _ hR)
    · cases h
  case aload k =>
    have hn : n = 2 := Nat.eq_of_beq_eq_true hn
    subst hn
    dsimp only [am_ex] at h
    split at h
    · rename_i x hx0
      cases h7 : Nat.beq x 7000 with
      | true => rw [h7] at h; cases h
      | false =>
        rw [h7] at h
        cases h
        have h7 : x ≠ 7000 := Nat.ne_of_beq_eq_false h7
        have hl := am_lv_ld hR.2.2.2.1 hx0
        rw [am_tv_ref h7] at hl
        refine lv_aload hx hb hd hl ?_
        have := kk _ _ _ hR
        rw [List.map_cons, am_tv_ref h7] at this
        exact this
    · cases h
  case aload_n k =>
    have hn : n = 1 := Nat.eq_of_beq_eq_true hn
    subst hn
    dsimp only [am_ex] at h
    split at h
    · rename_i x hx0
      cases h7 : Nat.beq x 7000 with
      | true => rw [h7] at h; cases h
      | false =>
        rw [h7] at h
        cases h
        have h7 : x ≠ 7000 := Nat.ne_of_beq_eq_false h7
        have hl := am_lv_ld hR.2.2.2.1 hx0
        rw [am_tv_ref h7] at hl
        refine lv_aload_n hx hb hd rfl hl ?_
        have := kk _ _ _ hR
        rw [List.map_cons, am_tv_ref h7] at this
        exact this
    · cases h
  case istore k =>
    have hn : n = 2 := Nat.eq_of_beq_eq_true hn
    subst hn
    dsimp only [am_ex] at h
    split at h
    · rename_i x st0
      cases hs : am_s1 ls k (.int x) with
      | none => rw [hs] at h; cases h
      | some l1 =>
        rw [hs] at h
        cases h
        obtain ⟨h1, h2⟩ := am_lv_s1 hz hR.2.2.2.1 hs
        exact lv_istore hx hb hd hR.2.2.2.1.2 h1 rfl (fun LS' hl => kk _ _ _ ⟨hR.1, hR.2.1, hR.2.2.1, h2 LS' hl, hR.2.2.2.2⟩)
    · cases h
  case istore_n k =>
    have hn : n = 1 := Nat.eq_of_beq_eq_true hn
    subst hn
    dsimp only [am_ex] at h
    split at h
    · rename_i x st0
      cases hs : am_s1 ls k.val (.int x) with
      | none => rw [hs] at h; cases h
      | some l1 =>
        rw [hs] at h
        cases h
        obtain ⟨h1, h2⟩ := am_lv_s1 hz hR.2.2.2.1 hs
        exact lv_istore_n hx hb hd rfl hR.2.2.2.1.2 h1 rfl (fun LS' hl => kk _ _ _ ⟨hR.1, hR.2.1, hR.2.2.1, h2 LS' hl, hR.2.2.2.2⟩)
    · cases h
  case lstore k =>
    have hn : n = 2 := Nat.eq_of_beq_eq_true hn
    subst hn
    dsimp only [am_ex] at h
    split at h
    · rename_i x st0
      cases hs : am_s2 ls k (.long x) with
      | none => rw [hs] at h; cases h
      | some l1 =>
        rw [hs] at h
        cases h
        obtain ⟨h1, h2⟩ := am_lv_s2 hz hR.2.2.2.1 hs
        exact lv_lstore hx hb hd hR.2.2.2.1.2 h1 rfl (fun LS' hl => kk _ _ _ ⟨hR.1, hR.2.1, hR.2.2.1, h2 LS' hl, hR.2.2.2.2⟩)
    · cases h
  case lstore_n k =>
    have hn : n = 1 := Nat.eq_of_beq_eq_true hn
    subst hn
    dsimp only [am_ex] at h
    split at h
    · rename_i x st0
      cases hs : am_s2 ls k.val (.long x) with
      | none => rw [hs] at h; cases h
      | some l1 =>
        rw [hs] at h
        cases h
        obtain ⟨h1, h2⟩ := am_lv_s2 hz hR.2.2.2.1 hs
        exact lv_lstore_n hx hb hd rfl hR.2.2.2.1.2 h1 rfl (fun LS' hl => kk _ _ _ ⟨hR.1, hR.2.1, hR.2.2.1, h2 LS' hl, hR.2.2.2.2⟩)
    · cases h
  case iinc k v =>
    have hn : n = 3 := Nat.eq_of_beq_eq_true hn
    subst hn
    dsimp only [am_ex] at h
    split at h
    · rename_i x hx0
      cases hs : am_s1 ls k (.int (x + Int32.ofInt v)) with
      | none => rw [hs] at h; cases h
      | some l1 =>
        rw [hs] at h
        cases h
        obtain ⟨h1, h2⟩ := am_lv_s1 hz hR.2.2.2.1 hs
        have hm : (k, Value.int x) ∈ am_asc ad z ls := by
          unfold am_ld at hx0
          split at hx0
          · cases hx0
          · exact am_asc_mem.mpr ⟨.int x, hx0, (fun q => by cases q), rfl⟩
        obtain ⟨j, hj⟩ := List.getElem?_of_mem hm
        exact lv_iinc hx hb hd hR.2.2.2.1.2 hj rfl h1 rfl (fun LS' hl => kk _ _ _ ⟨hR.1, hR.2.1, hR.2.2.1, h2 LS' hl, hR.2.2.2.2⟩)
    · cases h
  case iadd =>
    have hn : n = 1 := Nat.eq_of_beq_eq_true hn
    subst hn
    dsimp only [am_ex] at h
    split at h
    · cases h
      exact lv_iadd hx hb hd (kk _ _ _ hR)
    · cases h
  case isub =>
    have hn : n = 1 := Nat.eq_of_beq_eq_true hn
    subst hn
    dsimp only [am_ex] at h
    split at h
    · cases h
      exact lv_isub hx hb hd (kk _ _ _ hR)
    · cases h
  case imul =>
    have hn : n = 1 := Nat.eq_of_beq_eq_true hn
    subst hn
    dsimp only [am_ex] at h
    split at h
    · cases h
      exact lv_imul hx hb hd (kk _ _ _ hR)
    · cases h
  case iand =>
    have hn : n = 1 := Nat.eq_of_beq_eq_true hn
    subst hn
    dsimp only [am_ex] at h
    split at h
    · cases h
      exact lv_iand hx hb hd (kk _ _ _ hR)
    · cases h
  case ior =>
    have hn : n = 1 := Nat.eq_of_beq_eq_true hn
    subst hn
    dsimp only [am_ex] at h
    split at h
    · cases h
      exact lv_ior hx hb hd (kk _ _ _ hR)
    · cases h
  case ixor =>
    have hn : n = 1 := Nat.eq_of_beq_eq_true hn
    subst hn
    dsimp only [am_ex] at h
    split at h
    · cases h
      exact lv_ixor hx hb hd (kk _ _ _ hR)
    · cases h
  case ishl =>
    have hn : n = 1 := Nat.eq_of_beq_eq_true hn
    subst hn
    dsimp only [am_ex] at h
    split at h
    · cases h
      exact lv_ishl hx hb hd (kk _ _ _ hR)
    · cases h
  case ishr =>
    have hn : n = 1 := Nat.eq_of_beq_eq_true hn
    subst hn
    dsimp only [am_ex] at h
    split at h
    · cases h
      exact lv_ishr hx hb hd (kk _ _ _ hR)
    · cases h
  case iushr =>
    have hn : n = 1 := Nat.eq_of_beq_eq_true hn
    subst hn
    dsimp only [am_ex] at h
    split at h
    · cases h
      exact lv_iushr hx hb hd rfl (kk _ _ _ hR)
    · cases h
  case ladd =>
    have hn : n = 1 := Nat.eq_of_beq_eq_true hn
    subst hn
    dsimp only [am_ex] at h
    split at h
    · cases h
      exact lv_ladd hx hb hd (kk _ _ _ hR)
    · cases h
  case lsub =>
    have hn : n = 1 := Nat.eq_of_beq_eq_true hn
    subst hn
    dsimp only [am_ex] at h
    split at h
    · cases h
      exact lv_lsub hx hb hd (kk _ _ _ hR)
    · cases h
  case lmul =>
    have hn : n = 1 := Nat.eq_of_beq_eq_true hn
    subst hn
    dsimp only [am_ex] at h
    split at h
    · cases h
      exact lv_lmul hx hb hd (kk _ _ _ hR)
    · cases h
  case lcmp =>
    have hn : n = 1 := Nat.eq_of_beq_eq_true hn
    subst hn
    dsimp only [am_ex] at h
    split at h
    · cases h
      exact W.lcmp hx hb hd (kk _ _ _ hR)
    · cases h
  case i2l =>
    have hn : n = 1 := Nat.eq_of_beq_eq_true hn
    subst hn
    dsimp only [am_ex] at h
    split at h
    · cases h
      exact lv_i2l hx hb hd rfl (kk _ _ _ hR)
    · cases h
  case i2c =>
    have hn : n = 1 := Nat.eq_of_beq_eq_true hn
    subst hn
    dsimp only [am_ex] at h
    split at h
    · cases h
      exact lv_i2c hx hb hd rfl (kk _ _ _ hR)
    · cases h
  case dup2 =>
    have hn : n = 1 := Nat.eq_of_beq_eq_true hn
    subst hn
    dsimp only [am_ex] at h
    split at h
    · cases h
      exact lv_dup2_11 hx hb hd rfl (am_tv_cat hz (.ref _)) (kk _ _ _ hR)
    · cases h
  case pop =>
    have hn : n = 1 := Nat.eq_of_beq_eq_true hn
    subst hn
    dsimp only [am_ex] at h
    split at h
    · cases h
      exact lv_pop hx hb hd rfl (kk _ _ _ hR)
    · cases h
  case dup =>
    have hn : n = 1 := Nat.eq_of_beq_eq_true hn
    subst hn
    dsimp only [am_ex] at h
    split at h
    · cases h
      exact lv_dup hx hb hd rfl (kk _ _ _ hR)
    · cases h
      exact lv_dup hx hb hd (am_tv_cat hz (.ref _)) (kk _ _ _ hR)
    · cases h
  case idiv =>
    have hn : n = 1 := Nat.eq_of_beq_eq_true hn
    subst hn
    dsimp only [am_ex] at h
    split at h
    · rename_i y x st0
      by_cases hy : y = 0
      · rw [if_pos hy] at h; cases h
      · rw [if_neg hy] at h
        cases h
        exact lv_idiv hx hb hd hy (kk _ _ _ hR)
    · cases h
  case irem =>
    have hn : n = 1 := Nat.eq_of_beq_eq_true hn
    subst hn
    dsimp only [am_ex] at h
    split at h
    · rename_i y x st0
      by_cases hy : y = 0
      · rw [if_pos hy] at h; cases h
      · rw [if_neg hy] at h
        cases h
        exact lv_irem hx hb hd hy (kk _ _ _ hR)
    · cases h
  case goto off =>
    have hn : n = 3 := Nat.eq_of_beq_eq_true hn
    subst hn
    dsimp only [am_ex] at h
    split at h
    · rename_i tg htg
      cases h
      exact lv_goto hx hb hd (am_tgo_eq htg) (kk _ _ _ hR)
    · cases h
  case ifCond co off =>
    have hn : n = 3 := Nat.eq_of_beq_eq_true hn
    subst hn
    dsimp only [am_ex] at h
    split at h
    · rename_i x st0
      split at h
      · rename_i tg htg
        cases h
        have ht := am_tgo_eq htg
        have kk0 := kk _ _ _ hR
        cases co with
        | eq => exact lv_if_eq hx hb hd ht (fun hc => by
            rwa [show am_br .eq x 0 tg (pc + 3) = tg from if_pos hc] at kk0) (fun hc => by
            rwa [show am_br .eq x 0 tg (pc + 3) = pc + 3 from if_neg hc] at kk0)
        | ne => exact lv_if_ne hx hb hd ht (fun hc => by
            rwa [show am_br .ne x 0 tg (pc + 3) = tg from if_neg hc] at kk0) (fun hc => by
            rwa [show am_br .ne x 0 tg (pc + 3) = pc + 3 from if_pos hc] at kk0)
        | lt => exact lv_if_lt hx hb hd ht (fun hc => by
            rwa [show am_br .lt x 0 tg (pc + 3) = tg from if_pos hc] at kk0) (fun hc => by
            rwa [show am_br .lt x 0 tg (pc + 3) = pc + 3 from if_neg hc] at kk0)
        | ge => exact lv_if_ge hx hb hd ht (fun hc => by
            rwa [show am_br .ge x 0 tg (pc + 3) = tg from if_neg (Int32.not_lt.mpr hc)] at kk0) (fun hc => by
            rwa [show am_br .ge x 0 tg (pc + 3) = pc + 3 from if_pos (Int32.not_le.mp hc)] at kk0)
        | gt => exact lv_if_gt hx hb hd ht (fun hc => by
            rwa [show am_br .gt x 0 tg (pc + 3) = tg from if_pos hc] at kk0) (fun hc => by
            rwa [show am_br .gt x 0 tg (pc + 3) = pc + 3 from if_neg hc] at kk0)
        | le => exact lv_if_le hx hb hd ht (fun hc => by
            rwa [show am_br .le x 0 tg (pc + 3) = tg from if_neg (Int32.not_lt.mpr hc)] at kk0) (fun hc => by
            rwa [show am_br .le x 0 tg (pc + 3) = pc + 3 from if_pos (Int32.not_le.mp hc)] at kk0)
      · cases h
    · cases h
  case if_icmp co off =>
    have hn : n = 3 := Nat.eq_of_beq_eq_true hn
    subst hn
    dsimp only [am_ex] at h
    split at h
    · rename_i y x st0
      split at h
      · rename_i tg htg
        cases h
        have ht := am_tgo_eq htg
        have kk0 := kk _ _ _ hR
        cases co with
        | eq => exact lv_icmp_eq hx hb hd ht (fun hc => by
            rwa [show am_br .eq x y tg (pc + 3) = tg from if_pos hc] at kk0) (fun hc => by
            rwa [show am_br .eq x y tg (pc + 3) = pc + 3 from if_neg hc] at kk0)
        | ne => exact lv_icmp_ne hx hb hd ht (fun hc => by
            rwa [show am_br .ne x y tg (pc + 3) = tg from if_neg hc] at kk0) (fun hc => by
            rwa [show am_br .ne x y tg (pc + 3) = pc + 3 from if_pos hc] at kk0)
        | lt => exact lv_icmp_lt hx hb hd ht (fun hc => by
            rwa [show am_br .lt x y tg (pc + 3) = tg from if_pos hc] at kk0) (fun hc => by
            rwa [show am_br .lt x y tg (pc + 3) = pc + 3 from if_neg hc] at kk0)
        | ge => exact lv_icmp_ge hx hb hd ht (fun hc => by
            rwa [show am_br .ge x y tg (pc + 3) = tg from if_neg (Int32.not_lt.mpr hc)] at kk0) (fun hc => by
            rwa [show am_br .ge x y tg (pc + 3) = pc + 3 from if_pos (Int32.not_le.mp hc)] at kk0)
        | gt => exact lv_icmp_gt hx hb hd ht (fun hc => by
            rwa [show am_br .gt x y tg (pc + 3) = tg from if_pos hc] at kk0) (fun hc => by
            rwa [show am_br .gt x y tg (pc + 3) = pc + 3 from if_neg hc] at kk0)
        | le => exact lv_icmp_le hx hb hd ht (fun hc => by
            rwa [show am_br .le x y tg (pc + 3) = tg from if_neg (Int32.not_lt.mpr hc)] at kk0) (fun hc => by
            rwa [show am_br .le x y tg (pc + 3) = pc + 3 from if_pos (Int32.not_le.mp hc)] at kk0)
      · cases h
    · cases h
  case tableswitch d lo hi os =>
    dsimp only [am_ex] at h
    split at h
    · rename_i x st0
      split at h
      · rename_i tg htg
        cases h
        have ht := am_tgo_eq htg
        have kk0 := kk _ _ _ hR
        have hps : (os.size : Int) = hi - lo + 1 := of_decide_eq_true hps
        unfold am_sw at ht
        by_cases h1 : x.toInt < lo
        · rw [if_pos h1] at ht
          exact lv_tableOut hx hb hd (Or.inl h1) ht kk0
        · rw [if_neg h1] at ht
          by_cases h2 : hi < x.toInt
          · rw [if_pos h2] at ht
            exact lv_tableOut hx hb hd (Or.inr h2) ht kk0
          · rw [if_neg h2] at ht
            have hl : (x.toInt - lo).toNat < os.size := by omega
            rw [Array.getElem?_eq_getElem hl] at ht
            exact lv_tableIn hx hb hd h1 h2 (Array.getElem?_eq_getElem hl) ht kk0
      · cases h
    · cases h
  case lookupswitch d ps =>
    dsimp only [am_ex] at h
    split at h
    · rename_i x st0
      split at h
      · rename_i tg htg
        cases h
        exact lv_lookup hx hb hd hps rfl (am_tgo_eq htg) (kk _ _ _ hR)
      · cases h
    · cases h
  case getstatic k =>
    have hn : n = 3 := Nat.eq_of_beq_eq_true hn
    subst hn
    dsimp only [am_ex] at h
    split at h
    · rename_i v hv
      cases h
      unfold am_gs at hv
      cases ho : Nat.beq (am_ow t) 14 with
      | false => rw [ho] at hv; cases hv
      | true =>
        rw [ho] at hv
        have ho := Nat.eq_of_beq_eq_true ho
        rw [ho] at hown
        dsimp only [cond_true] at hv
        cases h38 : Nat.beq k 38 with
        | true =>
          rw [h38] at hv
          cases hv
          have h38 := Nat.eq_of_beq_eq_true h38
          subst h38
          exact va_gets hx hb hZ.2.1 hR.2.2.1 hown (hts _ am_w38) (fun _ h => h) hd (kk _ _ _ hR)
        | false =>
          rw [h38] at hv
          dsimp only [cond_false] at hv
          cases h10 : Nat.beq k 1053 with
          | false => rw [h10] at hv; cases hv
          | true =>
            rw [h10] at hv
            cases hv
            have h10 := Nat.eq_of_beq_eq_true h10
            subst h10
            exact va_gets hx hb hZ.2.2.1 hR.2.2.1 hown (hts _ am_w1053) (fun _ h => h) hd (kk _ _ _ hR)
    · cases h
  case getfield k =>
    have hn : n = 3 := Nat.eq_of_beq_eq_true hn
    subst hn
    dsimp only [am_ex] at h
    split at h
    · rename_i a st0
      obtain ⟨a, rfl⟩ : ∃ b : Nat, b = a := ⟨a, rfl⟩
      split at h
      · rename_i v hv
        cases h
        unfold am_gf at hv
        split at hv
        · rename_i ci j hfl
          split at hv
          · rename_i cj fs hLL
            cases hbq : Nat.beq ci cj with
            | false => rw [hbq] at hv; cases hv
            | true =>
              rw [hbq] at hv
              dsimp only [cond_true] at hv
              have hbq := Nat.eq_of_beq_eq_true hbq
              subst hbq
              split at hv
              · rename_i f hf
                cases hv
                obtain ⟨r, nest, pw, hcl, hk, hw, hw'⟩ := am_fl_spec hfl
                have ha : a ≠ 7000 := by have := am_lt hLL; omega
                have he : (am_wd cI ad M)[a]? = some (ad a, .inr (ci, fs.mapIdx fun j f => am_fw ad M a j f)) := by rw [am_wd_get, hLL]; rfl
                have hv9 : (fs.mapIdx fun j f => am_fw ad M a j f)[j]? = some (am_tv ad z (am_fv M a j f)) := by
                  rw [List.getElem?_mapIdx, hf, Option.map_some, am_fw_tv (am_fld hLL hf)]
                have kk0 := kk _ _ _ hR
                rw [List.map_cons, am_tv_ref ha]
                obtain ⟨Cn, T, N⟩ := r
                cases nest with
                | zero => exact va_get hx hb hts (am_cls ci _ hcl).2.2 hown hK hR.1 a he hcl j hk (hts _ (hw rfl)) (fun _ h => h) hv9 hd kk0
                | succ q => exact va_getN hx hb hts (am_cls ci _ hcl).2.2 hown hK hR.1 a he hcl j hk (va_Nw.use rfl (hZ.2.2.2.2.2.2.2.2.2 _ _ _ _ _ _ _ (hw' (by omega)))) (fun _ h => h) hv9 hd kk0
              · cases hv
          · cases hv
        · unfold am_sf at hv
          cases ho : (Nat.beq (am_ow t) 14 && Nat.ble 6000 a && Nat.blt a 6009) with
          | false => rw [ho] at hv; cases hv
          | true =>
            rw [ho] at hv
            rw [Bool.and_eq_true, Bool.and_eq_true] at ho
            obtain ⟨⟨ho, ha1⟩, ha2⟩ := ho
            have ho := Nat.eq_of_beq_eq_true ho
            rw [ho] at hown
            have ha1 : 6000 ≤ a := Nat.le_of_ble_eq_true ha1
            have ha2 : a < 6009 := Nat.le_of_ble_eq_true ha2
            obtain ⟨i, rfl⟩ : ∃ i, a = 6000 + i := ⟨a - 6000, by omega⟩
            have hZi := hZ.1 i (by omega)
            dsimp only [cond_true] at hv
            rw [List.map_cons, am_tv_ref (by omega)]
            have kk0 := kk _ _ _ hR
            cases h9 : Nat.beq k 9 with
            | true =>
              rw [h9] at hv
              cases hv
              have h9 := Nat.eq_of_beq_eq_true h9
              subst h9
              rw [List.map_cons, am_tv_ref (by omega), show 6000 + i + 100 = 6100 + i by omega] at kk0
              exact vk_getf hx hb hZi.2.2.1 hR.2.2.1 hown (hts _ am_w9) (fun _ h => h) hd kk0
            | false =>
              rw [h9] at hv
              dsimp only [cond_false] at hv
              cases h15 : Nat.beq k 15 with
              | false => rw [h15] at hv; cases hv
              | true =>
                rw [h15] at hv
                cases hv
                have h15 := Nat.eq_of_beq_eq_true h15
                subst h15
                exact vk_getf hx hb hZi.2.1 hR.2.2.1 hown (hts _ am_w15) (fun _ h => h) hd kk0
      · cases h
    · cases h
  case putfield k =>
    have hn : n = 3 := Nat.eq_of_beq_eq_true hn
    subst hn
    dsimp only [am_ex] at h
    split at h
    · rename_i v a st0
      obtain ⟨a, rfl⟩ : ∃ b : Nat, b = a := ⟨a, rfl⟩
      split at h
      · rename_i M2 hv
        cases h
        unfold am_pf at hv
        split at hv
        · rename_i ci j hfl
          split at hv
          · rename_i cj fs hLL
            cases hbq : Nat.beq ci cj with
            | false => rw [hbq] at hv; cases hv
            | true =>
              rw [hbq] at hv
              dsimp only [cond_true] at hv
              have hbq := Nat.eq_of_beq_eq_true hbq
              subst hbq
              obtain ⟨r, nest, pw, hcl, hk, hw, hw'⟩ := am_fl_spec hfl
              have ha80 := am_lt hLL
              have ha : a ≠ 7000 := by omega
              have he : (am_wd cI ad M)[a]? = some (ad a, .inr (ci, fs.mapIdx fun j f => am_fw ad M a j f)) := by rw [am_wd_get, hLL]; rfl
              rw [List.map_cons, List.map_cons, am_tv_ref ha]
              obtain ⟨Cn, T, N⟩ := r
              split at hv
              · rename_i x hf
                have hjl : j < fs.length := (List.getElem?_eq_some_iff.mp hf).1
                cases hv
                have hfd := am_fld2 hLL hf hcl
                have hnf : (T j).2.2.2 = false := hfd.2
                have hty : parseFieldDescriptor (T j).2.2.1 = some .int := by rw [hfd.1]; rfl
                have hoff : ∀ b, b ≠ a → (am_up M a j x) b = M b := am_up_off M a j x
                have hset : (am_wd cI ad M).set a (ad a, .inr (ci, (fs.mapIdx fun j f => am_fw ad M a j f).set j (.int x))) = am_wd cI ad (am_up M a j x) := am_wd_set hLL hoff (by
                  show (Sum.inr (ci, (fs.mapIdx fun j f => am_fw ad M a j f).set j (.int x)) : va_E) = Sum.inr (ci, fs.mapIdx fun j9 f9 => am_fw ad (am_up M a j x) a j9 f9)
                  rw [am_set_fw (M' := am_up M a j x) hf (by show _ = Value.int (am_up M a j x a j); rw [am_up_self]) (fun i f9 hi h9 => am_fw_up hi (am_kinds hLL h9) rfl (am_kinds hLL hf))])
                cases nest with
                | zero =>
                  refine va_put (Q := Q) (v := .int x) hx hb hts (am_cls ci _ hcl).2.2 (am_tyof ci) (am_cls ci _ hcl).1 (am_cls ci _ hcl).2.1 hown hK hR.1 hR.2.1 hR.2.2.1 a he hcl j hk (hts _ (hw rfl)) (fun _ h => h) hnf hty rfl rfl (by rw [List.length_mapIdx]; exact hjl) hd (fun H1 locs1 hP hD hS => ?_)
                  rw [hset] at hP hD
                  exact kk _ _ _ ⟨hP, hD, hS, hR.2.2.2.1, fun i hi => by rw [hoff _ (by omega)]; exact hR.2.2.2.2.1 i hi, by rw [hoff _ (by omega)]; exact hR.2.2.2.2.2⟩
                | succ q =>
                  refine va_putN (Q := Q) (v := .int x) hx hb hts (am_cls ci _ hcl).2.2 (am_tyof ci) (am_cls ci _ hcl).1 (am_cls ci _ hcl).2.1 hown hK hR.1 hR.2.1 hR.2.2.1 a he hcl j hk (va_Nw.use rfl (hZ.2.2.2.2.2.2.2.2.2 _ _ _ _ _ _ _ (hw' (by omega)))) (fun _ h => h) hnf hty rfl rfl (by rw [List.length_mapIdx]; exact hjl) hd (fun H1 locs1 hP hD hS => ?_)
                  rw [hset] at hP hD
                  exact kk _ _ _ ⟨hP, hD, hS, hR.2.2.2.1, fun i hi => by rw [hoff _ (by omega)]; exact hR.2.2.2.2.1 i hi, by rw [hoff _ (by omega)]; exact hR.2.2.2.2.2⟩
              · rename_i x hf
                have hjl : j < fs.length := (List.getElem?_eq_some_iff.mp hf).1
                cases hv
                have hfd := am_fld2 hLL hf hcl
                have hnf : (T j).2.2.2 = false := hfd.2
                have hty : parseFieldDescriptor (T j).2.2.1 = some .long := by rw [hfd.1]; rfl
                have hoff : ∀ b, b ≠ a → (am_up (am_up M a j (am_hi x)) a (j + 100) (am_lw x)) b = M b := fun b hb => by rw [am_up_off _ _ _ _ b hb, am_up_off _ _ _ _ b hb]
                have hset : (am_wd cI ad M).set a (ad a, .inr (ci, (fs.mapIdx fun j f => am_fw ad M a j f).set j (.long x))) = am_wd cI ad (am_up (am_up M a j (am_hi x)) a (j + 100) (am_lw x)) := am_wd_set hLL hoff (by
                  show (Sum.inr (ci, (fs.mapIdx fun j f => am_fw ad M a j f).set j (.long x)) : va_E) = Sum.inr (ci, fs.mapIdx fun j9 f9 => am_fw ad (am_up (am_up M a j (am_hi x)) a (j + 100) (am_lw x)) a j9 f9)
                  rw [am_set_fw (M' := am_up (am_up M a j (am_hi x)) a (j + 100) (am_lw x)) hf (by show _ = Value.long (am_lg (am_up (am_up M a j (am_hi x)) a (j + 100) (am_lw x) a j) (am_up (am_up M a j (am_hi x)) a (j + 100) (am_lw x) a (j + 100))); rw [am_up_self, am_up_ne _ _ _ _ (by omega), am_up_self, am_lg_hl]) (fun i f9 hi h9 => am_fw_up2 hi (am_short hLL h9) (am_short hLL hf))])
                cases nest with
                | zero =>
                  refine va_put (Q := Q) (v := .long x) hx hb hts (am_cls ci _ hcl).2.2 (am_tyof ci) (am_cls ci _ hcl).1 (am_cls ci _ hcl).2.1 hown hK hR.1 hR.2.1 hR.2.2.1 a he hcl j hk (hts _ (hw rfl)) (fun _ h => h) hnf hty rfl rfl (by rw [List.length_mapIdx]; exact hjl) hd (fun H1 locs1 hP hD hS => ?_)
                  rw [hset] at hP hD
                  exact kk _ _ _ ⟨hP, hD, hS, hR.2.2.2.1, fun i hi => by rw [hoff _ (by omega)]; exact hR.2.2.2.2.1 i hi, by rw [hoff _ (by omega)]; exact hR.2.2.2.2.2⟩
                | succ q =>
                  refine va_putN (Q := Q) (v := .long x) hx hb hts (am_cls ci _ hcl).2.2 (am_tyof ci) (am_cls ci _ hcl).1 (am_cls ci _ hcl).2.1 hown hK hR.1 hR.2.1 hR.2.2.1 a he hcl j hk (va_Nw.use rfl (hZ.2.2.2.2.2.2.2.2.2 _ _ _ _ _ _ _ (hw' (by omega)))) (fun _ h => h) hnf hty rfl rfl (by rw [List.length_mapIdx]; exact hjl) hd (fun H1 locs1 hP hD hS => ?_)
                  rw [hset] at hP hD
                  exact kk _ _ _ ⟨hP, hD, hS, hR.2.2.2.1, fun i hi => by rw [hoff _ (by omega)]; exact hR.2.2.2.2.1 i hi, by rw [hoff _ (by omega)]; exact hR.2.2.2.2.2⟩
              · rename_i x hf
                have hjl : j < fs.length := (List.getElem?_eq_some_iff.mp hf).1
                by_cases h01 : x = 0 ∨ x = 1
                · rw [if_pos h01] at hv
                  cases hv
                  have hnz : narrow .boolean (.int x) = .int x := by rcases h01 with rfl | rfl <;> rfl
                  have hfz : fits .boolean (.int x) = true := by rcases h01 with rfl | rfl <;> rfl
                  have hfd := am_fld2 hLL hf hcl
                  have hnf : (T j).2.2.2 = false := hfd.2
                  have hty : parseFieldDescriptor (T j).2.2.1 = some .boolean := by rw [hfd.1]; rfl
                  have hoff : ∀ b, b ≠ a → (am_up M a j x) b = M b := am_up_off M a j x
                  have hset : (am_wd cI ad M).set a (ad a, .inr (ci, (fs.mapIdx fun j f => am_fw ad M a j f).set j (.int x))) = am_wd cI ad (am_up M a j x) := am_wd_set hLL hoff (by
                    show (Sum.inr (ci, (fs.mapIdx fun j f => am_fw ad M a j f).set j (.int x)) : va_E) = Sum.inr (ci, fs.mapIdx fun j9 f9 => am_fw ad (am_up M a j x) a j9 f9)
                    rw [am_set_fw (M' := am_up M a j x) hf (by show _ = Value.int (am_up M a j x a j); rw [am_up_self]) (fun i f9 hi h9 => am_fw_up hi (am_kinds hLL h9) rfl (am_kinds hLL hf))])
                  cases nest with
                  | zero =>
                    refine va_put (Q := Q) (v := .int x) hx hb hts (am_cls ci _ hcl).2.2 (am_tyof ci) (am_cls ci _ hcl).1 (am_cls ci _ hcl).2.1 hown hK hR.1 hR.2.1 hR.2.2.1 a he hcl j hk (hts _ (hw rfl)) (fun _ h => h) hnf hty hnz hfz (by rw [List.length_mapIdx]; exact hjl) hd (fun H1 locs1 hP hD hS => ?_)
                    rw [hset] at hP hD
                    exact kk _ _ _ ⟨hP, hD, hS, hR.2.2.2.1, fun i hi => by rw [hoff _ (by omega)]; exact hR.2.2.2.2.1 i hi, by rw [hoff _ (by omega)]; exact hR.2.2.2.2.2⟩
                  | succ q =>
                    refine va_putN (Q := Q) (v := .int x) hx hb hts (am_cls ci _ hcl).2.2 (am_tyof ci) (am_cls ci _ hcl).1 (am_cls ci _ hcl).2.1 hown hK hR.1 hR.2.1 hR.2.2.1 a he hcl j hk (va_Nw.use rfl (hZ.2.2.2.2.2.2.2.2.2 _ _ _ _ _ _ _ (hw' (by omega)))) (fun _ h => h) hnf hty hnz hfz (by rw [List.length_mapIdx]; exact hjl) hd (fun H1 locs1 hP hD hS => ?_)
                    rw [hset] at hP hD
                    exact kk _ _ _ ⟨hP, hD, hS, hR.2.2.2.1, fun i hi => by rw [hoff _ (by omega)]; exact hR.2.2.2.2.1 i hi, by rw [hoff _ (by omega)]; exact hR.2.2.2.2.2⟩
                · rw [if_neg h01] at hv; cases hv
              · cases hv
          · cases hv
        · cases hv
      · cases h
    · cases h
  case arraylength =>
    have hn : n = 1 := Nat.eq_of_beq_eq_true hn
    subst hn
    dsimp only [am_ex] at h
    split at h
    · rename_i a st0
      obtain ⟨a, rfl⟩ : ∃ b : Nat, b = a := ⟨a, rfl⟩
      split at h
      · rename_i x hv
        cases h
        unfold am_len at hv
        have kk0 := kk _ _ _ hR
        split at hv
        · rename_i n9 hal
          cases hv
          have hLL := am_al_get hal
          have ha80 := am_lt hLL
          have he : (am_wd cI ad M)[a]? = some (ad a, .inl (cI.1, n9, .inl (M a))) := am_wd_int hal
          rw [List.map_cons, am_tv_ref (by omega)]
          exact va_alen hx hb hK hR.1 a 0 he rfl rfl hd kk0
        · cases h5 : Nat.beq a 5000 with
          | true =>
            rw [h5] at hv
            cases hv
            have h5 := Nat.eq_of_beq_eq_true h5
            subst h5
            rw [List.map_cons, am_tv_ref (by omega)]
            rw [List.map_cons] at kk0
            rw [hR.2.2.2.2.2] at kk0
            exact va_slen hx hb hZ.2.2.2.2.2.1 hZ.2.2.2.2.2.2.1 hZ.2.2.2.2.2.2.2.1 hR.2.2.1 hd kk0
          | false =>
            rw [h5] at hv
            dsimp only [cond_false] at hv
            cases h6 : (Nat.ble 6100 a && Nat.blt a 6109) with
            | false => rw [h6] at hv; cases hv
            | true =>
              rw [h6] at hv
              have hv := Option.some.inj hv
              subst hv
              rw [Bool.and_eq_true] at h6
              have ha1 : 6100 ≤ a := Nat.le_of_ble_eq_true h6.1
              have ha2 : a < 6109 := Nat.le_of_ble_eq_true h6.2
              obtain ⟨i, rfl⟩ : ∃ i, a = 6100 + i := ⟨a - 6100, by omega⟩
              have hZi := hZ.1 i (by omega)
              rw [List.map_cons, am_tv_ref (by omega)]
              rw [show 6100 + i - 6100 = i by omega] at kk0
              exact va_tlen hx hb hZi.2.2.2 hR.2.2.1 rfl hd kk0
      · cases h
    · cases h
  case iaload =>
    have hn : n = 1 := Nat.eq_of_beq_eq_true hn
    subst hn
    dsimp only [am_ex] at h
    split at h
    · rename_i i a st0
      obtain ⟨a, rfl⟩ : ∃ b : Nat, b = a := ⟨a, rfl⟩
      split at h
      · rename_i x hv
        cases h
        unfold am_il at hv
        have kk0 := kk _ _ _ hR
        split at hv
        · rename_i n9 hal
          have hLL := am_al_get hal
          have ha80 := am_lt hLL
          have he : (am_wd cI ad M)[a]? = some (ad a, .inl (cI.1, n9, .inl (M a))) := am_wd_int hal
          by_cases hin : i < 0 ∨ n9 ≤ i.toNatClampNeg
          · rw [if_pos hin] at hv; cases hv
          · rw [if_neg hin] at hv
            cases hv
            rw [List.map_cons, List.map_cons, am_tv_ref (by omega)]
            exact va_iald hx hb hK hR.1 a 0 he rfl hin hd kk0
        · cases h5 : Nat.beq a 5000 with
          | true =>
            rw [h5] at hv
            have h5 := Nat.eq_of_beq_eq_true h5
            subst h5
            dsimp only [cond_true] at hv
            by_cases hin : i < 0 ∨ (M 5001 0).toNatClampNeg ≤ i.toNatClampNeg
            · rw [if_pos hin] at hv; cases hv
            · rw [if_neg hin] at hv
              cases hv
              rw [List.map_cons, List.map_cons, am_tv_ref (by omega)]
              have hL : (M 5001 0).toNatClampNeg = L := by rw [hR.2.2.2.2.2]; exact clamp_of rfl hZ.2.2.2.2.2.2.2.2.1
              rw [hL] at hin
              have hlt : i.toNatClampNeg < L := Nat.not_le.mp fun q => hin (Or.inr q)
              rw [List.map_cons] at kk0
              rw [hR.2.2.2.2.1 _ hlt] at kk0
              exact va_sld hx hb hZ.2.2.2.2.2.1 hZ.2.2.2.2.2.2.1 hZ.2.2.2.2.2.2.2.1 hR.2.2.1 hin hd kk0
          | false => rw [h5] at hv; cases hv
      · cases h
    · cases h
  case baload =>
    have hn : n = 1 := Nat.eq_of_beq_eq_true hn
    subst hn
    dsimp only [am_ex] at h
    split at h
    · rename_i i a st0
      obtain ⟨a, rfl⟩ : ∃ b : Nat, b = a := ⟨a, rfl⟩
      split at h
      · rename_i x hv
        cases h
        unfold am_bl at hv
        have kk0 := kk _ _ _ hR
        cases h6 : (Nat.ble 6100 a && Nat.blt a 6109) with
        | false => rw [h6] at hv; cases hv
        | true =>
          rw [h6] at hv
          dsimp only [cond_true] at hv
          rw [Bool.and_eq_true] at h6
          have ha1 : 6100 ≤ a := Nat.le_of_ble_eq_true h6.1
          have ha2 : a < 6109 := Nat.le_of_ble_eq_true h6.2
          obtain ⟨q, rfl⟩ : ∃ q, a = 6100 + q := ⟨a - 6100, by omega⟩
          have hZi := hZ.1 q (by omega)
          rw [show 6100 + q - 6100 = q by omega] at hv
          by_cases hin : i < 0 ∨ am_sl.getD q 0 ≤ i.toNatClampNeg
          · rw [if_pos hin] at hv; cases hv
          · rw [if_neg hin] at hv
            cases hv
            rw [List.map_cons, List.map_cons, am_tv_ref (by omega)]
            exact va_tb hx hb hZi.2.2.2 hR.2.2.1 hin rfl hd kk0
      · cases h
    · cases h
  case iastore =>
    have hn : n = 1 := Nat.eq_of_beq_eq_true hn
    subst hn
    dsimp only [am_ex] at h
    split at h
    · rename_i x i a st0
      obtain ⟨a, rfl⟩ : ∃ b : Nat, b = a := ⟨a, rfl⟩
      split at h
      · rename_i M2 hv
        cases h
        unfold am_is at hv
        split at hv
        · rename_i n9 hal
          have hLL := am_al_get hal
          have ha80 := am_lt hLL
          have he : (am_wd cI ad M)[a]? = some (ad a, .inl (cI.1, n9, .inl (M a))) := am_wd_int hal
          by_cases hin : i < 0 ∨ n9 ≤ i.toNatClampNeg
          · rw [if_pos hin] at hv; cases hv
          · rw [if_neg hin] at hv
            cases hv
            rw [List.map_cons, List.map_cons, List.map_cons, am_tv_ref (by omega)]
            have hoff := am_up_off M a i.toNatClampNeg x
            have hset : (am_wd cI ad M).set a (ad a, .inl (cI.1, n9, .inl (upd (M a) i.toNatClampNeg x))) = am_wd cI ad (am_up M a i.toNatClampNeg x) := am_wd_set hLL hoff (by
              rw [am_ce_int hal]
              rw [show am_up M a i.toNatClampNeg x a = upd (M a) i.toNatClampNeg x from by funext j; simp [upd, am_up]])
            refine va_iast (Q := Q) hx hb hK hR.1 hR.2.1 hR.2.2.1 a 0 he rfl hin hd (fun H1 locs1 hP hD hS => ?_)
            rw [hset] at hP hD
            exact kk _ _ _ ⟨hP, hD, hS, hR.2.2.2.1, fun i hi => by rw [hoff _ (by omega)]; exact hR.2.2.2.2.1 i hi, by rw [hoff _ (by omega)]; exact hR.2.2.2.2.2⟩
        · cases hv
      · cases h
    · cases h
  case land =>
    have hn : n = 1 := Nat.eq_of_beq_eq_true hn
    subst hn
    dsimp only [am_ex] at h
    split at h
    · cases h
      exact lv_land hx hb hd (kk _ _ _ hR)
    · cases h
  case lor =>
    have hn : n = 1 := Nat.eq_of_beq_eq_true hn
    subst hn
    dsimp only [am_ex] at h
    split at h
    · cases h
      exact lv_lor hx hb hd (kk _ _ _ hR)
    · cases h
  case lshl =>
    have hn : n = 1 := Nat.eq_of_beq_eq_true hn
    subst hn
    dsimp only [am_ex] at h
    split at h
    · cases h
      exact lv_lshl hx hb hd rfl (kk _ _ _ hR)
    · cases h
  case lshr =>
    have hn : n = 1 := Nat.eq_of_beq_eq_true hn
    subst hn
    dsimp only [am_ex] at h
    split at h
    · cases h
      exact lv_lshr hx hb hd rfl (kk _ _ _ hR)
    · cases h
  case l2i =>
    have hn : n = 1 := Nat.eq_of_beq_eq_true hn
    subst hn
    dsimp only [am_ex] at h
    split at h
    · cases h
      exact lv_l2i hx hb hd rfl (kk _ _ _ hR)
    · cases h
  case laload =>
    have hn : n = 1 := Nat.eq_of_beq_eq_true hn
    subst hn
    dsimp only [am_ex] at h
    split at h
    · rename_i i a st0
      obtain ⟨a, rfl⟩ : ∃ b : Nat, b = a := ⟨a, rfl⟩
      split at h
      · rename_i x hv
        cases h
        unfold am_ll at hv
        have kk0 := kk _ _ _ hR
        cases h5 : Nat.beq a 58 with
        | false => rw [h5] at hv; cases hv
        | true =>
          rw [h5] at hv
          have h5 := Nat.eq_of_beq_eq_true h5
          subst h5
          dsimp only [cond_true] at hv
          by_cases hin : i < 0 ∨ 16 ≤ i.toNatClampNeg
          · rw [if_pos hin] at hv; cases hv
          · rw [if_neg hin] at hv
            cases hv
            rw [List.map_cons, List.map_cons, am_tv_ref (by omega)]
            refine va_lald hx hb hK hR.1 58 1 am_wd_long rfl hin hd ?_
            rw [am_lf_at _ (Nat.not_le.mp fun q => hin (Or.inr q))]
            exact kk0
      · cases h
    · cases h
  case lastore =>
    have hn : n = 1 := Nat.eq_of_beq_eq_true hn
    subst hn
    dsimp only [am_ex] at h
    split at h
    · rename_i x i a st0
      obtain ⟨a, rfl⟩ : ∃ b : Nat, b = a := ⟨a, rfl⟩
      split at h
      · rename_i M2 hv
        cases h
        unfold am_lst at hv
        cases h5 : Nat.beq a 58 with
        | false => rw [h5] at hv; cases hv
        | true =>
          rw [h5] at hv
          have h5 := Nat.eq_of_beq_eq_true h5
          subst h5
          dsimp only [cond_true] at hv
          by_cases hin : i < 0 ∨ 16 ≤ i.toNatClampNeg
          · rw [if_pos hin] at hv; cases hv
          · rw [if_neg hin] at hv
            cases hv
            rw [List.map_cons, List.map_cons, List.map_cons, am_tv_ref (by omega)]
            have hi16 : i.toNatClampNeg < 16 := Nat.not_le.mp fun q => hin (Or.inr q)
            have hoff : ∀ b, b ≠ 58 → am_up (am_up M 58 i.toNatClampNeg (am_hi x)) 58 (i.toNatClampNeg + 100) (am_lw x) b = M b := fun b hb => by rw [am_up_off _ _ _ _ b hb, am_up_off _ _ _ _ b hb]
            have hset : (am_wd cI ad M).set 58 (ad 58, am_ce cI ad (am_up (am_up M 58 i.toNatClampNeg (am_hi x)) 58 (i.toNatClampNeg + 100) (am_lw x)) 58 (.inl 16)) = am_wd cI ad (am_up (am_up M 58 i.toNatClampNeg (am_hi x)) 58 (i.toNatClampNeg + 100) (am_lw x)) := am_wd_set am_LL58 hoff rfl
            refine va_last (Q := Q) hx hb hK hR.1 hR.2.1 hR.2.2.1 58 1 am_wd_long rfl hin hd (fun H1 locs1 hP hD hS => ?_)
            rw [← am_lf_up M x hi16] at hP hD
            have hP : va_P D am_cl ((am_wd cI ad M).set 58 (ad 58, am_ce cI ad (am_up (am_up M 58 i.toNatClampNeg (am_hi x)) 58 (i.toNatClampNeg + 100) (am_lw x)) 58 (.inl 16))) H1 := hP
            have hD : va_D A ((am_wd cI ad M).set 58 (ad 58, am_ce cI ad (am_up (am_up M 58 i.toNatClampNeg (am_hi x)) 58 (i.toNatClampNeg + 100) (am_lw x)) 58 (.inl 16))) := hD
            rw [hset] at hP hD
            exact kk _ _ _ ⟨hP, hD, hS, hR.2.2.2.1, fun i hi => by rw [hoff _ (by omega)]; exact hR.2.2.2.2.1 i hi, by rw [hoff _ (by omega)]; exact hR.2.2.2.2.2⟩
      · cases h
    · cases h
  all_goals (dsimp only [am_ex] at h; cases h)
end AMW
