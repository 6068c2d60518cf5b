/-! the abstract machine's steps are the machine's: pictures -/
theorem am_w38 : Cond.fieldLink "java/lang/String" 38 "java/lang/String" "COMPACT_STRINGS" "Z" ∈ am_tbl := am_mem (i := 587) (by decide +kernel) (by decide +kernel)
theorem am_w1053 : Cond.fieldLink "java/lang/String" 1053 "jdk/internal/util/Preconditions" "SIOOBE_FORMATTER" "Ljava/util/function/BiFunction;" ∈ am_tbl := am_mem (i := 603) (by decide +kernel) (by decide +kernel)
theorem am_w9 : Cond.fieldLink "java/lang/String" 9 "java/lang/String" "value" "[B" ∈ am_tbl := am_mem (i := 738) (by decide +kernel) (by decide +kernel)
theorem am_w15 : Cond.fieldLink "java/lang/String" 15 "java/lang/String" "coder" "B" ∈ am_tbl := am_mem (i := 739) (by decide +kernel) (by decide +kernel)
theorem am_wac1 : Cond.methodLink (am_cn 6) 25 arraycopyName ∈ am_tbl := am_mem (i := 274) (by decide +kernel) (by decide +kernel)
theorem am_wac2 : Cond.native arraycopyName ∈ am_tbl := am_mem (i := 276) (by decide +kernel) (by decide +kernel)
theorem am_wac3 : Cond.static arraycopyName ∈ am_tbl := am_mem (i := 275) (by decide +kernel) (by decide +kernel)
theorem am_wac4 : Cond.initialized "java/lang/System" ∈ am_tbl := am_mem (i := 40) (by decide +kernel) (by decide +kernel)
def am_tv (ad : Nat → Nat) (z : Value) (v : Value) : Value := match v with
  | .ref r => if r = 7000 then z else .ref (ad r)
  | v => v
def am_zok (z : Value) : Prop := z = .null ∨ ∃ t : Nat, z = .ref t
theorem am_tv_ref {ad : Nat → Nat} {z : Value} {r : Nat} (h : r ≠ 7000) : am_tv ad z (.ref r) = .ref (ad r) := if_neg h
theorem am_tv_cat {ad : Nat → Nat} {z : Value} (hz : am_zok z) (v : Value) : (am_tv ad z v).category = v.category := by
  cases v with
  | ref r =>
    unfold am_tv
    dsimp only
    by_cases h : r = 7000
    · rw [if_pos h]
      rcases hz with rfl | ⟨t, rfl⟩ <;> rfl
    · rw [if_neg h]; rfl
  | _ => rfl
theorem am_cw_tv {ad : Nat → Nat} {z : Value} (hz : am_zok z) (st : List Value) : am_cw (st.map (am_tv ad z)) = am_cw st := by
  unfold am_cw
  rw [List.map_map]
  congr 1
  apply List.map_congr_left
  intro v _
  exact am_tv_cat hz v
def am_fw (ad : Nat → Nat) (M : am_M) (a k : Nat) (f : Nat) : Value := match f with
  | 0 => .int (M a k)
  | 1 => .long (am_lg (M a k) (M a (k + 100)))
  | 2 => .int (M a k)
  | r + 3 => .ref (ad r)
/-- the longs of a row of words -/
def am_lf (r : Nat → Int32) : Nat → Int64 := fun j => if j < 16 then am_lg (r j) (r (j + 100)) else 0
theorem am_lf_up (M : am_M) {i : Nat} (x : Int64) (h : i < 16) : am_lf (am_up (am_up M 58 i (am_hi x)) 58 (i + 100) (am_lw x) 58) = vp_updL (am_lf (M 58)) i x := by
  funext j
  unfold am_lf vp_updL
  dsimp only
  by_cases hj : j = i
  · subst hj
    rw [if_pos h, if_pos rfl, am_up_ne _ _ _ _ (by omega), am_up_self, am_up_self, am_lg_hl]
  · rw [if_neg hj]
    by_cases h16 : j < 16
    · rw [if_pos h16, if_pos h16, am_up_ne _ _ _ _ (by omega), am_up_ne _ _ _ _ (by omega), am_up_ne _ _ _ _ (by omega), am_up_ne _ _ _ _ (by omega)]
    · rw [if_neg h16, if_neg h16]
theorem am_lf_at (r : Nat → Int32) {i : Nat} (h : i < 16) : am_lf r i = am_lg (r i) (r (i + 100)) := if_pos h
def am_ce (cI : ClassId × ClassId) (ad : Nat → Nat) (M : am_M) (k : Nat) (e : Nat ⊕ (Nat × List Nat)) : va_E := match e with
  | .inl n => bif Nat.beq k 58 then .inl (cI.2, n, .inr (.inl (am_lf (M k)))) else .inl (cI.1, n, .inl (M k))
  | .inr q => .inr (q.1, q.2.mapIdx fun j f => am_fw ad M k j f)
def am_wd (cI : ClassId × ClassId) (ad : Nat → Nat) (M : am_M) : va_W := am_LL.mapIdx fun k e => (ad k, am_ce cI ad M k e)
theorem am_wd_get (cI : ClassId × ClassId) (ad : Nat → Nat) (M : am_M) (k : Nat) : (am_wd cI ad M)[k]? = (am_LL[k]?).map fun e => (ad k, am_ce cI ad M k e) := by
  unfold am_wd
  rw [List.getElem?_mapIdx]
theorem am_ce_congr {cI : ClassId × ClassId} {ad : Nat → Nat} {M M' : am_M} {k : Nat} (h : M k = M' k) (e : Nat ⊕ (Nat × List Nat)) : am_ce cI ad M k e = am_ce cI ad M' k e := by
  cases e with
  | inl n => unfold am_ce; dsimp only; rw [h]
  | inr q => unfold am_ce am_fw; dsimp only; rw [h]
theorem am_wd_set {cI : ClassId × ClassId} {ad : Nat → Nat} {M M' : am_M} {a : Nat} {e : Nat ⊕ (Nat × List Nat)} (he : am_LL[a]? = some e) (h : ∀ b, b ≠ a → M' b = M b) {x : va_E} (hx : x = am_ce cI ad M' a e) : (am_wd cI ad M).set a (ad a, x) = am_wd cI ad M' := by
  subst hx
  apply List.ext_getElem?
  intro j
  rw [List.getElem?_set, am_wd_get, am_wd_get]
  by_cases hj : a = j
  · subst hj
    rw [if_pos rfl, he]
    have hl : a < (am_wd cI ad M).length := by
      have : (am_wd cI ad M)[a]? = some (ad a, am_ce cI ad M a e) := by rw [am_wd_get, he]; rfl
      exact (List.getElem?_eq_some_iff.mp this).1
    rw [if_pos hl]; rfl
  · rw [if_neg hj]
    cases am_LL[j]? with
    | none => rfl
    | some e2 =>
      show some (ad j, am_ce cI ad M j e2) = some (ad j, am_ce cI ad M' j e2)
      rw [am_ce_congr (h j (Ne.symm hj)).symm]
theorem am_up_off (M : am_M) (a k : Nat) (x : Int32) : ∀ b, b ≠ a → am_up M a k x b = M b := by
  intro b hb
  funext j
  exact am_up_ne M a k x (fun q => hb q.1)
theorem am_al_get {a n : Nat} (h : am_al a = some n) : am_LL[a]? = some (.inl n) := by
  unfold am_al at h
  split at h
  · rename_i n' e
    cases hb : Nat.beq a 58 with
    | true => rw [hb] at h; cases h
    | false => rw [hb] at h; cases h; exact e
  · cases h
theorem am_al_ne {a n : Nat} (h : am_al a = some n) : Nat.beq a 58 = false := by
  unfold am_al at h
  split at h
  · cases hb : Nat.beq a 58 with
    | true => rw [hb] at h; cases h
    | false => rfl
  · cases h
theorem am_ce_int {cI : ClassId × ClassId} {ad : Nat → Nat} {M : am_M} {a n : Nat} (h : am_al a = some n) (n1 : Nat) : am_ce cI ad M a (.inl n1) = .inl (cI.1, n1, .inl (M a)) := by
  unfold am_ce
  dsimp only
  rw [am_al_ne h]
  rfl
theorem am_ce_long {cI : ClassId × ClassId} {ad : Nat → Nat} {M : am_M} (n1 : Nat) : am_ce cI ad M 58 (.inl n1) = .inl (cI.2, n1, .inr (.inl (am_lf (M 58)))) := rfl
theorem am_wd_int {cI : ClassId × ClassId} {ad : Nat → Nat} {M : am_M} {a n : Nat} (h : am_al a = some n) : (am_wd cI ad M)[a]? = some (ad a, .inl (cI.1, n, .inl (M a))) := by
  rw [am_wd_get, am_al_get h]
  show some (ad a, am_ce cI ad M a (.inl n)) = _
  rw [am_ce_int h]
theorem am_LL58 : am_LL[58]? = some (.inl 16) := by decide +kernel
theorem am_wd_long {cI : ClassId × ClassId} {ad : Nat → Nat} {M : am_M} : (am_wd cI ad M)[58]? = some (ad 58, .inl (cI.2, 16, .inr (.inl (am_lf (M 58))))) := by
  rw [am_wd_get, am_LL58]
  rfl
theorem am_lt {a : Nat} {e : Nat ⊕ (Nat × List Nat)} (h : am_LL[a]? = some e) : a < 65 := by
  have h1 := (List.getElem?_eq_some_iff.mp h).1
  have h2 : am_LL.length = 65 := by decide +kernel
  omega
/-! locals -/
def am_asc (ad : Nat → Nat) (z : Value) (ls : List Value) : List (Nat × Value) := (List.range ls.length).filterMap fun i => match (ls[i]? : Option Value) with
  | some .null => none
  | some v => some (i, am_tv ad z v)
  | none => none
theorem am_asc_mem {ad : Nat → Nat} {z : Value} {ls : List Value} {q : Nat × Value} : q ∈ am_asc ad z ls ↔ ∃ v, ls[q.1]? = some v ∧ v ≠ .null ∧ q.2 = am_tv ad z v := by
  unfold am_asc
  rw [List.mem_filterMap]
  constructor
  · rintro ⟨i, hi, h⟩
    split at h
    · cases h
    · rename_i v hn hv
      cases h
      exact ⟨v, hv, fun q => hn (by rw [q]), rfl⟩
    · cases h
  · rintro ⟨v, h1, h2, h3⟩
    refine ⟨q.1, List.mem_range.mpr (List.getElem?_eq_some_iff.mp h1).1, ?_⟩
    rw [h1]
    cases v with
    | null => exact absurd rfl h2
    | _ => simp only [← h3]
def am_lv (ad : Nat → Nat) (z : Value) (ls : List Value) (LS : Array Slot) (n : Nat) : Prop := ls.length = n ∧ lv_has LS n (am_asc ad z ls)
theorem am_lv_ld {ad : Nat → Nat} {z : Value} {ls : List Value} {LS : Array Slot} {n k : Nat} {v : Value} (h : am_lv ad z ls LS n) (hk : am_ld ls k = some v) : LS[k]? = some (.val (am_tv ad z v)) := by
  have h1 : ls[k]? = some v ∧ v ≠ .null := by
    unfold am_ld at hk
    split at hk
    · cases hk
    · rename_i o hn
      refine ⟨hk, fun q => hn (by rw [hk, q])⟩
  exact h.2.2.2 (k, am_tv ad z v) (am_asc_mem.mpr ⟨v, h1.1, h1.2, rfl⟩)
theorem lv_mono {LS : Array Slot} {n : Nat} {l l' : List (Nat × Value)} (h : lv_has LS n l) (hs : ∀ q ∈ l', q ∈ l) : lv_has LS n l' := ⟨h.1, h.2.1, fun q hq => h.2.2 q (hs q hq)⟩
theorem am_nl_cat {ls : List Value} {k : Nat} (h : am_nl ls k = true) {j : Nat} (hj : j + 1 = k) {v : Value} (hv : ls[j]? = some v) : ¬ v.category = 2 := by
  subst hj
  unfold am_nl at h
  dsimp only at h
  rw [hv] at h
  cases v <;> simp_all [Value.category]
theorem am_lv_s1 {ad : Nat → Nat} {z : Value} {ls ls' : List Value} {LS : Array Slot} {n k : Nat} {v : Value} (hz : am_zok z) (h : am_lv ad z ls LS n) (hs : am_s1 ls k v = some ls') : k < n ∧ ∀ LS' : Array Slot, lv_has LS' n ((k, am_tv ad z v) :: (am_asc ad z ls).filter (fun q => !(q.1 == k) && !(q.1 + 1 == k && q.2.category == 2))) → am_lv ad z ls' LS' n := by
  unfold am_s1 at hs
  cases hc : (Nat.blt k ls.length && am_nl ls k) with
  | false => rw [hc] at hs; cases hs
  | true =>
    rw [hc] at hs
    cases hs
    rw [Bool.and_eq_true] at hc
    have hk : k < ls.length := by
      have := hc.1
      exact Nat.le_of_ble_eq_true this
    refine ⟨by rw [← h.1]; exact hk, fun LS' hl => ⟨by rw [List.length_set]; exact h.1, lv_mono hl ?_⟩⟩
    intro q hq
    obtain ⟨w, h1, h2, h3⟩ := am_asc_mem.mp hq
    by_cases hqk : k = q.1
    · rw [← hqk, List.getElem?_set_self hk] at h1
      cases h1
      rw [show q = (k, am_tv ad z v) from Prod.ext hqk.symm h3]
      exact List.mem_cons_self
    · rw [List.getElem?_set_ne hqk] at h1
      refine List.mem_cons_of_mem _ (List.mem_filter.mpr ⟨am_asc_mem.mpr ⟨w, h1, h2, h3⟩, ?_⟩)
      have e1 : (q.1 == k) = false := by simpa using Ne.symm hqk
      rw [e1]
      by_cases e2 : q.1 + 1 = k
      · have := am_nl_cat hc.2 e2 h1
        rw [← am_tv_cat (ad := ad) hz w, ← h3] at this
        simp [this]
      · simp [e2]
theorem am_lv_s2 {ad : Nat → Nat} {z : Value} {ls ls' : List Value} {LS : Array Slot} {n k : Nat} {v : Value} (hz : am_zok z) (h : am_lv ad z ls LS n) (hs : am_s2 ls k v = some ls') : k + 1 < n ∧ ∀ LS' : Array Slot, lv_has LS' n ((k, am_tv ad z v) :: (am_asc ad z ls).filter (fun q => !(q.1 == k) && (!(q.1 == k + 1) && !(q.1 + 1 == k && q.2.category == 2)))) → am_lv ad z ls' LS' n := by
  unfold am_s2 at hs
  cases hc : (Nat.blt (k + 1) ls.length && am_nl ls k) with
  | false => rw [hc] at hs; cases hs
  | true =>
    rw [hc] at hs
    cases hs
    rw [Bool.and_eq_true] at hc
    have hk : k + 1 < ls.length := by
      have := hc.1
      exact Nat.le_of_ble_eq_true this
    refine ⟨by rw [← h.1]; exact hk, fun LS' hl => ⟨by rw [List.length_set, List.length_set]; exact h.1, lv_mono hl ?_⟩⟩
    intro q hq
    obtain ⟨w, h1, h2, h3⟩ := am_asc_mem.mp hq
    by_cases hq1 : k + 1 = q.1
    · rw [← hq1, List.getElem?_set_self (by rw [List.length_set]; exact hk)] at h1
      cases h1
      exact absurd rfl h2
    · rw [List.getElem?_set_ne hq1] at h1
      by_cases hqk : k = q.1
      · rw [← hqk, List.getElem?_set_self (by omega)] at h1
        cases h1
        rw [show q = (k, am_tv ad z v) from Prod.ext hqk.symm h3]
        exact List.mem_cons_self
      · rw [List.getElem?_set_ne hqk] at h1
        refine List.mem_cons_of_mem _ (List.mem_filter.mpr ⟨am_asc_mem.mpr ⟨w, h1, h2, h3⟩, ?_⟩)
        have e1 : (q.1 == k) = false := by simpa using Ne.symm hqk
        have e3 : (q.1 == k + 1) = false := by simpa using Ne.symm hq1
        rw [e1, e3]
        by_cases e2 : q.1 + 1 = k
        · have := am_nl_cat hc.2 e2 h1
          rw [← am_tv_cat (ad := ad) hz w, ← h3] at this
          simp [this]
        · simp [e2]
theorem am_sl1_len (ad : Nat → Nat) {z : Value} (hz : am_zok z) (av : List Value) : (lg_sl (av.map (am_tv ad z))).length = (am_sl1 av).length := by
  unfold lg_sl am_sl1
  induction av with
  | nil => rfl
  | cons v av ih =>
    rw [List.map_cons, List.flatMap_cons, List.flatMap_cons, List.length_append, List.length_append, ih, am_tv_cat hz]
    by_cases h : v.category = 2
    · rw [if_pos h, if_pos h]; rfl
    · rw [if_neg h, if_neg h]; rfl
theorem am_sl1_args (ad : Nat → Nat) {z : Value} (hz : am_zok z) : ∀ (av : List Value) (off i : Nat) (v : Value), (am_sl1 av)[i]? = some v → v ≠ .null → (off + i, am_tv ad z v) ∈ lv_args off (av.map (am_tv ad z)) := by
  intro av
  induction av with
  | nil => intro off i v h; simp [am_sl1] at h
  | cons w av ih =>
    intro off i v h hn
    unfold am_sl1 at h
    rw [List.flatMap_cons] at h
    rw [List.map_cons]
    unfold lv_args
    rw [am_tv_cat hz]
    by_cases hw : w.category = 2
    · rw [if_pos hw] at h ⊢
      match i, h with
      | 0, h => cases h; exact List.mem_cons_self
      | 1, h => cases h; exact absurd rfl hn
      | i + 2, h =>
        have := ih (off + 2) i v h hn
        rw [show off + (i + 2) = off + 2 + i by omega]
        exact List.mem_cons_of_mem _ this
    · rw [if_neg hw] at h ⊢
      match i, h with
      | 0, h => cases h; exact List.mem_cons_self
      | i + 1, h =>
        have := ih (off + 1) i v h hn
        rw [show off + (i + 1) = off + 1 + i by omega]
        exact List.mem_cons_of_mem _ this
theorem am_lv_ent {ad : Nat → Nat} {z : Value} {n : Nat} {av : List Value} (hz : am_zok z) (hn : (am_sl1 av).length ≤ n) : am_lv ad z (am_ent n av) ((lg_sl (av.map (am_tv ad z)) ++ List.replicate (n - (lg_sl (av.map (am_tv ad z))).length) Slot.unset).toArray) n := by
  have h := lv_entry (av.map (am_tv ad z)) (n := n) (by rw [am_sl1_len ad hz]; exact hn)
  refine ⟨by unfold am_ent; rw [List.length_append, List.length_replicate]; omega, lv_mono h ?_⟩
  intro q hq
  obtain ⟨v, h1, h2, h3⟩ := am_asc_mem.mp hq
  unfold am_ent at h1
  by_cases hl : q.1 < (am_sl1 av).length
  · rw [List.getElem?_append_left hl] at h1
    have := am_sl1_args ad hz av 0 q.1 v h1 h2
    rw [Nat.zero_add, ← h3] at this
    exact this
  · rw [List.getElem?_append_right (by omega)] at h1
    rw [List.getElem?_replicate] at h1
    split at h1
    · cases h1; exact absurd rfl h2
    · cases h1
/-! what is never written -/
def am_Z (ad : Nat → Nat) (z : Value) (L : Nat) (xs : Nat → Int32) (A : Nat → Prop) (U : State) (H : Heap) : Prop :=
  (∀ i, i < 9 → va_O "java/lang/String" (ad (6000 + i)) A U H ∧ va_OF "java/lang/String" "coder" "B" (.int 0) (ad (6000 + i)) A U H ∧ va_OF "java/lang/String" "value" "[B" (.ref (ad (6100 + i))) (ad (6000 + i)) A U H ∧ va_T .byte (ad (6100 + i)) (am_sl.getD i 0) (fun j => .int ((am_sb.getD i []).getD j 0)) A U H) ∧
  va_Z "java/lang/String" "COMPACT_STRINGS" "Z" (.int 1) A U H ∧ va_Z "jdk/internal/util/Preconditions" "SIOOBE_FORMATTER" "Ljava/util/function/BiFunction;" z A U H ∧ am_zok z ∧
  (∀ k j, am_as am_ks5 k = some j → ∃ tx, vk_R "StatuteBook$Reader" k tx (ad (6000 + j)) U) ∧ va_X (ad 5000) L xs U H ∧ ad 5000 < H.size ∧ ¬ A (ad 5000) ∧ L < 2 ^ 31 ∧ ∀ (p : Nat) (a : String) (i : Nat) (b n d h : String), lw_tbl[p]? = some (.fieldLinkNest a i b n d h) → va_Nw (.fieldLinkNest a i b n d h) U
theorem am_Z.kept {ad : Nat → Nat} {z : Value} {L : Nat} {xs : Nat → Int32} {A : Nat → Prop} {U : State} {H H1 : Heap} (h : am_Z ad z L xs A U H) (hz : H.size ≤ H1.size) (hq : ∀ a : Nat, a < H.size → ¬ A a → H1[a]? = H[a]?) : am_Z ad z L xs A U H1 := by
  obtain ⟨h1, h2, h3, h4, h5, h6, h7, h8, h9, h10⟩ := h
  exact ⟨fun i hi => ⟨(h1 i hi).1.kept hq, (h1 i hi).2.1.kept hq, (h1 i hi).2.2.1.kept hq, (h1 i hi).2.2.2.kept hq⟩, h2.kept hq, h3.kept hq, h4, h5, h6.kept (hq _ h7 h8), Nat.lt_of_lt_of_le h7 hz, h8, h9, h10⟩
theorem am_Z.narrow {ad : Nat → Nat} {z : Value} {L : Nat} {xs : Nat → Int32} {A B : Nat → Prop} {U : State} {H : Heap} (h : am_Z ad z L xs A U H) (hAB : ∀ q, B q → A q) : am_Z ad z L xs B U H := by
  obtain ⟨h1, h2, h3, h4, h5, h6, h7, h8, h9, h10⟩ := h
  exact ⟨fun i hi => ⟨(h1 i hi).1.narrow hAB, (h1 i hi).2.1.narrow hAB, (h1 i hi).2.2.1.narrow hAB, (h1 i hi).2.2.2.narrow hAB⟩, h2.narrow hAB, h3.narrow hAB, h4, h5, h6, h7, fun q => h8 (hAB _ q), h9, h10⟩
theorem am_Z.warm {ad : Nat → Nat} {z : Value} {L : Nat} {xs : Nat → Int32} {A : Nat → Prop} {s U : State} {H : Heap} (hW : s.WarmedH U.vm) (h : am_Z ad z L xs A s H) : am_Z ad z L xs A U H := by
  obtain ⟨h1, h2, h3, h4, h5, h6, h7, h8, h9, h10⟩ := h
  have hv := hW.alike
  exact ⟨fun i hi => ⟨va_O.moved hv (h1 i hi).1, va_OF.moved hv (h1 i hi).2.1, va_OF.moved hv (h1 i hi).2.2.1, va_T.moved hv (h1 i hi).2.2.2⟩, va_Z.moved hv h2, va_Z.moved hv h3, h4, fun k j hk => by obtain ⟨tx, hr⟩ := h5 k j hk; exact ⟨tx, hr.warm hW⟩, va_X.moved hv h6, h7, h8, h9, fun p a i b n d h q => va_Nw.warmF hW (h10 p a i b n d h q)⟩
theorem am_Z.same {ad : Nat → Nat} {z : Value} {L : Nat} {xs : Nat → Int32} {A : Nat → Prop} {u U : State} {H : Heap} (hv : U.vm = u.vm) (h : am_Z ad z L xs A u H) : am_Z ad z L xs A U H := by
  obtain ⟨h1, h2, h3, h4, h5, h6, h7, h8, h9, h10⟩ := h
  have ha : u.vm.Alike U.vm := by rw [hv]; exact Vm.Alike.refl u.vm
  exact ⟨fun i hi => ⟨va_O.moved ha (h1 i hi).1, va_OF.moved ha (h1 i hi).2.1, va_OF.moved ha (h1 i hi).2.2.1, va_T.moved ha (h1 i hi).2.2.2⟩, va_Z.moved ha h2, va_Z.moved ha h3, h4, fun k j hk => by obtain ⟨tx, hr⟩ := h5 k j hk; exact ⟨tx, vk_R.same hv hr⟩, va_X.moved ha h6, h7, h8, h9, fun p a i b n d h q => va_Nw.same rfl hv.symm (h10 p a i b n d h q)⟩
/-- what is known within a method -/
def am_E (p : Program) (s : State) (m : MethodId) (args : Array Value) (c : Code) (t : am_T) (D : va_G) (cI : ClassId × ClassId) (ad : Nat → Nat) (z : Value) (A : Nat → Prop) (L : Nat) (xs : Nat → Int32) : Prop :=
  p.tables.exec = Jvm.exec ∧ c.code = am_by t ∧ c.maxLocals = am_mL t ∧ s.vm.findClass (am_cn (am_ow t)) = some m.cls ∧ (∀ w ∈ am_tbl, w.before args s = true) ∧ va_K D am_cl [(cI.1, .int), (cI.2, .long)] s ∧ am_Z ad z L xs A s s.heap ∧ ∀ q, s.heap.size ≤ q → A q
/-- the picture of a state: cells, what is written, locals, the script -/
def am_R (D : va_G) (cI : ClassId × ClassId) (ad : Nat → Nat) (z : Value) (A : Nat → Prop) (L : Nat) (xs : Nat → Int32) (s : State) (n : Nat) (H : Heap) (locs : List Loc) (LS : Array Slot) (ls : List Value) (M : am_M) : Prop :=
  va_P D am_cl (am_wd cI ad M) H ∧ va_D A (am_wd cI ad M) ∧ va_S A s.heap H locs ∧ am_lv ad z ls LS n ∧ (∀ j, j < L → M 5000 j = xs j) ∧ M 5001 0 = Int32.ofNat L
