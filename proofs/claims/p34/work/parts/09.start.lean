/-! THE CLAIM OUT OF ONE WALK OF THE LAW'S BODY. Your part is whole_start (and what it stands on); all else here is the same for every law, but numbers. -/
def lw_P (b : Addr) (xs : List Int32) (args : Array Value) (s : State) : Prop := args = #[.ref b] ∧ s.IntsAt b xs ∧ xs.length ≤ 260 ∧ (Jvm.Cond.and given_1 narrow_1).before args s = true
def lw_Q (_ : Array Value) (s : State) (o : Outcome) (t : State) : Prop := o = .returned (some (.int 1)) ∧ Framed s o t [] 600000 7302250
def lw_Z (below : List Frame) (a : Array Value) (s : State) : State → Prop := fun t => ∃ o, t.status = .running ∧ Ended t below o ∧ lw_Q a s o t
/-- the law's own end, with 1 on the stack, nothing written that was there before, its room as the claim has it -/
theorem lw_ret {p : Program} {l : Launch} {e : Env} {s : State} {m : MethodId} {below : List Frame} {meth : Method} {c : Code} {b : Nat} (hx : p.tables.exec = Jvm.exec) (hb : c.code = code) (hr : meth.sig.returnType = ret) (hlocks : meth.locks = false) {pc : Nat} {H : Heap} {ls : Array Slot} (hdg : decode code pc = .ok (.ireturn, 1)) : W p l e room_1 s m #[Value.ref b] below meth c H [] 600000 7302250 (lw_Z below #[Value.ref b] s) (F0 m pc ls [.int 1]) := by
  intro T hT X
  obtain ⟨fs, hret, hrun, hended, hW, hframe⟩ := X.leave (v := some (.int 1)) (hlocks := hlocks) (fun h => by rw [hr] at h; cases h)
  have hmeth' : T.vm.method? m = some meth := X.method'
  refine ⟨T.setFrames fs, ?_, .returned (some (.int 1)), hrun, hended, rfl, ⟨_, rfl⟩, hW, hframe⟩
  jvm_step X.here [X.here.top, hx, hb, hdg, hmeth', hr, ret, narrow_b1]
  (try refine ⟨rfl, ?_⟩); (try refine ⟨rfl, ?_⟩)
  first | (intro acts; rw [hret _ acts rfl rfl rfl]) | rw [hret _ _ rfl rfl rfl]
  exact Steps.refl _
/-- what holds at the law's entry: the machine, the code, the tables' words (any of lw_tbl by 'hts w (by decide +kernel)'), the script of L ints xs at the cell b, what the Statement gives of the start (any of its parts by flat_of_before) -/
def lw_At (p : Program) (s : State) (m : MethodId) (meth : Method) (c : Code) (b L : Nat) (xs : Nat → Int32) : Prop :=
  p.tables.exec = Jvm.exec ∧ c.code = code ∧ meth.sig.returnType = ret ∧ c.maxLocals = 14 ∧ s.vm.findClass R_law = some m.cls ∧ (∀ w ∈ lw_tbl, w.before #[Value.ref b] s = true) ∧ va_X b L xs s s.heap ∧ b < s.heap.size ∧ meth.locks = false ∧ (Jvm.Cond.and given_1 narrow_1).before #[Value.ref b] s = true

def am_tk : List Nat := [85, 91, 93, 95, 97, 67, 76, 81, 116]
def am_tx : List String := ["insert", "replace", "repeal", "renumber", "in", "to", "for", "put", "saving"]
def am_tm (i : Nat) : Term := .string "StatuteBook$Reader" (am_tk.getD i 0)
/-- the memory at the beginning: a script of L ints, all else is 0 -/
def am_M0 (L : Nat) (xs : Nat → Int32) : am_M := fun a k => if a = 5000 then xs k else if a = 5001 then Int32.ofNat L else 0
def am_ad (b q0 : Nat) (f g adK adV : Nat → Nat) : Nat → Nat := fun k => if k = 0 then q0 else if k < 58 then f k else if k < 65 then g (k - 58) else if k = 5000 then b else if k < 6100 then adK (k - 6000) else adV (k - 6100)
theorem am_lg00 : am_lg 0 0 = 0 := by decide +kernel
theorem am_lf0 (L : Nat) (xs : Nat → Int32) : am_lf (am_M0 L xs 58) = fun _ => 0 := by
  funext j
  unfold am_lf
  by_cases h : j < 16
  · rw [if_pos h]; exact am_lg00
  · rw [if_neg h]
def aw_ar (cI cJ : ClassId) (g : Nat → Nat) : va_W := [(g 0, .inl (cJ, 16, .inr (.inl (fun _ => 0)))), (g 1, .inl (cI, 16, .inl (fun _ => 0))), (g 2, .inl (cI, 32, .inl (fun _ => 0))), (g 3, .inl (cI, 64, .inl (fun _ => 0))), (g 4, .inl (cI, 16, .inl (fun _ => 0))), (g 5, .inl (cI, 16, .inl (fun _ => 0))), (g 6, .inl (cI, 16, .inl (fun _ => 0)))]
set_option maxRecDepth 100000 in
theorem am_wd0 (cI cJ : ClassId) (b q0 : Nat) (f g adK adV : Nat → Nat) (L : Nat) (xs : Nat → Int32) : am_wd (cI, cJ) (am_ad b q0 f g adK adV) (am_M0 L xs) = aw_SB cI q0 f ++ aw_ar cI cJ g := by
  apply List.ext_getElem?
  intro k
  rw [am_wd_get]
  match k with
  | 0 => rfl
  | 1 => rfl
  | 2 => rfl
  | 3 => rfl
  | 4 => rfl
  | 5 => rfl
  | 6 => rfl
  | 7 => rfl
  | 8 => rfl
  | 9 => rfl
  | 10 => rfl
  | 11 => rfl
  | 12 => rfl
  | 13 => rfl
  | 14 => rfl
  | 15 => rfl
  | 16 => rfl
  | 17 => rfl
  | 18 => rfl
  | 19 => rfl
  | 20 => rfl
  | 21 => rfl
  | 22 => rfl
  | 23 => rfl
  | 24 => rfl
  | 25 => rfl
  | 26 => rfl
  | 27 => rfl
  | 28 => rfl
  | 29 => rfl
  | 30 => rfl
  | 31 => rfl
  | 32 => rfl
  | 33 => rfl
  | 34 => rfl
  | 35 => rfl
  | 36 => rfl
  | 37 => rfl
  | 38 => rfl
  | 39 => rfl
  | 40 => rfl
  | 41 => rfl
  | 42 => rfl
  | 43 => rfl
  | 44 => rfl
  | 45 => rfl
  | 46 => rfl
  | 47 => rfl
  | 48 => rfl
  | 49 => rfl
  | 50 => rfl
  | 51 => rfl
  | 52 => rfl
  | 53 => rfl
  | 54 => rfl
  | 55 => rfl
  | 56 => rfl
  | 57 => rfl
  | 58 => show some (g 0, am_ce (cI, cJ) (am_ad b q0 f g adK adV) (am_M0 L xs) 58 (.inl 16)) = _; rw [am_ce_long, am_lf0]; rfl
  | 59 => rfl
  | 60 => rfl
  | 61 => rfl
  | 62 => rfl
  | 63 => rfl
  | 64 => rfl
  | k + 65 => rfl
theorem am_Zat {args : Array Value} {s : State} {b L : Nat} {xs : Nat → Int32} (hts : ∀ w ∈ lw_tbl, w.before args s = true) (hgv : (Jvm.Cond.and given_1 narrow_1).before args s = true) (hX : va_X b L xs s s.heap) (hb : b < s.heap.size) (hL : L < 2 ^ 31) :
    ∃ (adK adV : Nat → Nat) (z : Value), ∀ (q0 : Nat) (f g : Nat → Nat), am_Z (am_ad b q0 f g adK adV) z L xs (fun q => s.heap.size ≤ q) s s.heap := by
  have hs := flat_of_before _ hgv
  have hA : ∀ a : Nat, a < s.heap.size → ¬ (fun q : Nat => s.heap.size ≤ q) a := fun a h => Nat.not_le.mpr h
  have hw : ∀ (i : Nat) (w : Cond), lw_tbl[i]? = some w → w.before args s = true := fun i w h => hts w (List.mem_of_getElem? h)
  have hex : ∀ i : Nat, i < 9 → (Cond.exactly (am_tm i) "java/lang/String").before args s = true := fun i hi => match i, hi with
    | 0, _ => hs _ (by decide +kernel)
    | 1, _ => hs _ (by decide +kernel)
    | 2, _ => hs _ (by decide +kernel)
    | 3, _ => hs _ (by decide +kernel)
    | 4, _ => hs _ (by decide +kernel)
    | 5, _ => hs _ (by decide +kernel)
    | 6, _ => hs _ (by decide +kernel)
    | 7, _ => hs _ (by decide +kernel)
    | 8, _ => hs _ (by decide +kernel)
    | i + 9, hi => absurd hi (by omega)
  have hco : ∀ i : Nat, i < 9 → (Cond.eq (.field (am_tm i) "java/lang/String" "coder" "B") (.int 0)).before args s = true := fun i hi => match i, hi with
    | 0, _ => hs _ (by decide +kernel)
    | 1, _ => hs _ (by decide +kernel)
    | 2, _ => hs _ (by decide +kernel)
    | 3, _ => hs _ (by decide +kernel)
    | 4, _ => hs _ (by decide +kernel)
    | 5, _ => hs _ (by decide +kernel)
    | 6, _ => hs _ (by decide +kernel)
    | 7, _ => hs _ (by decide +kernel)
    | 8, _ => hs _ (by decide +kernel)
    | i + 9, hi => absurd hi (by omega)
  have har : ∀ i : Nat, i < 9 → (Cond.arrayOf (.field (am_tm i) "java/lang/String" "value" "[B") .byte).before args s = true := fun i hi => match i, hi with
    | 0, _ => hs _ (by decide +kernel)
    | 1, _ => hs _ (by decide +kernel)
    | 2, _ => hs _ (by decide +kernel)
    | 3, _ => hs _ (by decide +kernel)
    | 4, _ => hs _ (by decide +kernel)
    | 5, _ => hs _ (by decide +kernel)
    | 6, _ => hs _ (by decide +kernel)
    | 7, _ => hs _ (by decide +kernel)
    | 8, _ => hs _ (by decide +kernel)
    | i + 9, hi => absurd hi (by omega)
  have hle : ∀ i : Nat, i < 9 → (Cond.eq (.length (.field (am_tm i) "java/lang/String" "value" "[B")) (.int (Int32.ofNat (am_sl.getD i 0)))).before args s = true := fun i hi => match i, hi with
    | 0, _ => hs _ (by decide +kernel)
    | 1, _ => hs _ (by decide +kernel)
    | 2, _ => hs _ (by decide +kernel)
    | 3, _ => hs _ (by decide +kernel)
    | 4, _ => hs _ (by decide +kernel)
    | 5, _ => hs _ (by decide +kernel)
    | 6, _ => hs _ (by decide +kernel)
    | 7, _ => hs _ (by decide +kernel)
    | 8, _ => hs _ (by decide +kernel)
    | i + 9, hi => absurd hi (by omega)
  have hel : ∀ i : Nat, i < 9 → ∀ j : Nat, j < am_sl.getD i 0 → (Cond.eq (.elem (.field (am_tm i) "java/lang/String" "value" "[B") (.int (Int32.ofNat j))) (.int ((am_sb.getD i []).getD j 0))).before args s = true := fun i hi => match i, hi with
    | 0, _ => fun j hj => match j, hj with
      | 0, _ => hs _ (by decide +kernel)
      | 1, _ => hs _ (by decide +kernel)
      | 2, _ => hs _ (by decide +kernel)
      | 3, _ => hs _ (by decide +kernel)
      | 4, _ => hs _ (by decide +kernel)
      | 5, _ => hs _ (by decide +kernel)
      | j + 6, hj => absurd hj (by show ¬ j + 6 < 6; omega)
    | 1, _ => fun j hj => match j, hj with
      | 0, _ => hs _ (by decide +kernel)
      | 1, _ => hs _ (by decide +kernel)
      | 2, _ => hs _ (by decide +kernel)
      | 3, _ => hs _ (by decide +kernel)
      | 4, _ => hs _ (by decide +kernel)
      | 5, _ => hs _ (by decide +kernel)
      | 6, _ => hs _ (by decide +kernel)
      | j + 7, hj => absurd hj (by show ¬ j + 7 < 7; omega)
    | 2, _ => fun j hj => match j, hj with
      | 0, _ => hs _ (by decide +kernel)
      | 1, _ => hs _ (by decide +kernel)
      | 2, _ => hs _ (by decide +kernel)
      | 3, _ => hs _ (by decide +kernel)
      | 4, _ => hs _ (by decide +kernel)
      | 5, _ => hs _ (by decide +kernel)
      | j + 6, hj => absurd hj (by show ¬ j + 6 < 6; omega)
    | 3, _ => fun j hj => match j, hj with
      | 0, _ => hs _ (by decide +kernel)
      | 1, _ => hs _ (by decide +kernel)
      | 2, _ => hs _ (by decide +kernel)
      | 3, _ => hs _ (by decide +kernel)
      | 4, _ => hs _ (by decide +kernel)
      | 5, _ => hs _ (by decide +kernel)
      | 6, _ => hs _ (by decide +kernel)
      | 7, _ => hs _ (by decide +kernel)
      | j + 8, hj => absurd hj (by show ¬ j + 8 < 8; omega)
    | 4, _ => fun j hj => match j, hj with
      | 0, _ => hs _ (by decide +kernel)
      | 1, _ => hs _ (by decide +kernel)
      | j + 2, hj => absurd hj (by show ¬ j + 2 < 2; omega)
    | 5, _ => fun j hj => match j, hj with
      | 0, _ => hs _ (by decide +kernel)
      | 1, _ => hs _ (by decide +kernel)
      | j + 2, hj => absurd hj (by show ¬ j + 2 < 2; omega)
    | 6, _ => fun j hj => match j, hj with
      | 0, _ => hs _ (by decide +kernel)
      | 1, _ => hs _ (by decide +kernel)
      | 2, _ => hs _ (by decide +kernel)
      | j + 3, hj => absurd hj (by show ¬ j + 3 < 3; omega)
    | 7, _ => fun j hj => match j, hj with
      | 0, _ => hs _ (by decide +kernel)
      | 1, _ => hs _ (by decide +kernel)
      | 2, _ => hs _ (by decide +kernel)
      | j + 3, hj => absurd hj (by show ¬ j + 3 < 3; omega)
    | 8, _ => fun j hj => match j, hj with
      | 0, _ => hs _ (by decide +kernel)
      | 1, _ => hs _ (by decide +kernel)
      | 2, _ => hs _ (by decide +kernel)
      | 3, _ => hs _ (by decide +kernel)
      | 4, _ => hs _ (by decide +kernel)
      | 5, _ => hs _ (by decide +kernel)
      | j + 6, hj => absurd hj (by show ¬ j + 6 < 6; omega)
    | i + 9, hi => absurd hi (by omega)
  have hne : ∀ i j : Nat, i < 9 → j < 9 → i ≠ j → (Cond.not (Cond.eq (am_tm i) (am_tm j))).before args s = true ∨ (Cond.not (Cond.eq (am_tm j) (am_tm i))).before args s = true := fun i j hi hj hij => match i, j, hi, hj, hij with
    | 0, 0, _, _, hij => absurd rfl hij
    | 0, 1, _, _, _ => Or.inl (hs _ (by decide +kernel))
    | 0, 2, _, _, _ => Or.inl (hs _ (by decide +kernel))
    | 0, 3, _, _, _ => Or.inl (hs _ (by decide +kernel))
    | 0, 4, _, _, _ => Or.inl (hs _ (by decide +kernel))
    | 0, 5, _, _, _ => Or.inl (hs _ (by decide +kernel))
    | 0, 6, _, _, _ => Or.inl (hs _ (by decide +kernel))
    | 0, 7, _, _, _ => Or.inl (hs _ (by decide +kernel))
    | 0, 8, _, _, _ => Or.inl (hs _ (by decide +kernel))
    | 1, 0, _, _, _ => Or.inr (hs _ (by decide +kernel))
    | 1, 1, _, _, hij => absurd rfl hij
    | 1, 2, _, _, _ => Or.inl (hs _ (by decide +kernel))
    | 1, 3, _, _, _ => Or.inl (hs _ (by decide +kernel))
    | 1, 4, _, _, _ => Or.inl (hs _ (by decide +kernel))
    | 1, 5, _, _, _ => Or.inl (hs _ (by decide +kernel))
    | 1, 6, _, _, _ => Or.inl (hs _ (by decide +kernel))
    | 1, 7, _, _, _ => Or.inl (hs _ (by decide +kernel))
    | 1, 8, _, _, _ => Or.inl (hs _ (by decide +kernel))
    | 2, 0, _, _, _ => Or.inr (hs _ (by decide +kernel))
    | 2, 1, _, _, _ => Or.inr (hs _ (by decide +kernel))
    | 2, 2, _, _, hij => absurd rfl hij
    | 2, 3, _, _, _ => Or.inl (hs _ (by decide +kernel))
    | 2, 4, _, _, _ => Or.inl (hs _ (by decide +kernel))
    | 2, 5, _, _, _ => Or.inl (hs _ (by decide +kernel))
    | 2, 6, _, _, _ => Or.inl (hs _ (by decide +kernel))
    | 2, 7, _, _, _ => Or.inl (hs _ (by decide +kernel))
    | 2, 8, _, _, _ => Or.inl (hs _ (by decide +kernel))
    | 3, 0, _, _, _ => Or.inr (hs _ (by decide +kernel))
    | 3, 1, _, _, _ => Or.inr (hs _ (by decide +kernel))
    | 3, 2, _, _, _ => Or.inr (hs _ (by decide +kernel))
    | 3, 3, _, _, hij => absurd rfl hij
    | 3, 4, _, _, _ => Or.inl (hs _ (by decide +kernel))
    | 3, 5, _, _, _ => Or.inl (hs _ (by decide +kernel))
    | 3, 6, _, _, _ => Or.inl (hs _ (by decide +kernel))
    | 3, 7, _, _, _ => Or.inl (hs _ (by decide +kernel))
    | 3, 8, _, _, _ => Or.inl (hs _ (by decide +kernel))
    | 4, 0, _, _, _ => Or.inr (hs _ (by decide +kernel))
    | 4, 1, _, _, _ => Or.inr (hs _ (by decide +kernel))
    | 4, 2, _, _, _ => Or.inr (hs _ (by decide +kernel))
    | 4, 3, _, _, _ => Or.inr (hs _ (by decide +kernel))
    | 4, 4, _, _, hij => absurd rfl hij
    | 4, 5, _, _, _ => Or.inl (hs _ (by decide +kernel))
    | 4, 6, _, _, _ => Or.inl (hs _ (by decide +kernel))
    | 4, 7, _, _, _ => Or.inl (hs _ (by decide +kernel))
    | 4, 8, _, _, _ => Or.inl (hs _ (by decide +kernel))
    | 5, 0, _, _, _ => Or.inr (hs _ (by decide +kernel))
    | 5, 1, _, _, _ => Or.inr (hs _ (by decide +kernel))
    | 5, 2, _, _, _ => Or.inr (hs _ (by decide +kernel))
    | 5, 3, _, _, _ => Or.inr (hs _ (by decide +kernel))
    | 5, 4, _, _, _ => Or.inr (hs _ (by decide +kernel))
    | 5, 5, _, _, hij => absurd rfl hij
    | 5, 6, _, _, _ => Or.inl (hs _ (by decide +kernel))
    | 5, 7, _, _, _ => Or.inl (hs _ (by decide +kernel))
    | 5, 8, _, _, _ => Or.inl (hs _ (by decide +kernel))
    | 6, 0, _, _, _ => Or.inr (hs _ (by decide +kernel))
    | 6, 1, _, _, _ => Or.inr (hs _ (by decide +kernel))
    | 6, 2, _, _, _ => Or.inr (hs _ (by decide +kernel))
    | 6, 3, _, _, _ => Or.inr (hs _ (by decide +kernel))
    | 6, 4, _, _, _ => Or.inr (hs _ (by decide +kernel))
    | 6, 5, _, _, _ => Or.inr (hs _ (by decide +kernel))
    | 6, 6, _, _, hij => absurd rfl hij
    | 6, 7, _, _, _ => Or.inl (hs _ (by decide +kernel))
    | 6, 8, _, _, _ => Or.inl (hs _ (by decide +kernel))
    | 7, 0, _, _, _ => Or.inr (hs _ (by decide +kernel))
    | 7, 1, _, _, _ => Or.inr (hs _ (by decide +kernel))
    | 7, 2, _, _, _ => Or.inr (hs _ (by decide +kernel))
    | 7, 3, _, _, _ => Or.inr (hs _ (by decide +kernel))
    | 7, 4, _, _, _ => Or.inr (hs _ (by decide +kernel))
    | 7, 5, _, _, _ => Or.inr (hs _ (by decide +kernel))
    | 7, 6, _, _, _ => Or.inr (hs _ (by decide +kernel))
    | 7, 7, _, _, hij => absurd rfl hij
    | 7, 8, _, _, _ => Or.inl (hs _ (by decide +kernel))
    | 8, 0, _, _, _ => Or.inr (hs _ (by decide +kernel))
    | 8, 1, _, _, _ => Or.inr (hs _ (by decide +kernel))
    | 8, 2, _, _, _ => Or.inr (hs _ (by decide +kernel))
    | 8, 3, _, _, _ => Or.inr (hs _ (by decide +kernel))
    | 8, 4, _, _, _ => Or.inr (hs _ (by decide +kernel))
    | 8, 5, _, _, _ => Or.inr (hs _ (by decide +kernel))
    | 8, 6, _, _, _ => Or.inr (hs _ (by decide +kernel))
    | 8, 7, _, _, _ => Or.inr (hs _ (by decide +kernel))
    | 8, 8, _, _, hij => absurd rfl hij
    | i + 9, _, hi, _, _ => absurd hi (by omega)
    | 0, j + 9, _, hj, _ => absurd hj (by omega)
    | 1, j + 9, _, hj, _ => absurd hj (by omega)
    | 2, j + 9, _, hj, _ => absurd hj (by omega)
    | 3, j + 9, _, hj, _ => absurd hj (by omega)
    | 4, j + 9, _, hj, _ => absurd hj (by omega)
    | 5, j + 9, _, hj, _ => absurd hj (by omega)
    | 6, j + 9, _, hj, _ => absurd hj (by omega)
    | 7, j + 9, _, hj, _ => absurd hj (by omega)
    | 8, j + 9, _, hj, _ => absurd hj (by omega)
  obtain ⟨adK, adV, hS1, hS2⟩ := vk_Sof (args := args) (s := s) (N := 9) (tm := am_tm) (len := am_sl) (byt := am_sb) (A := fun q => s.heap.size ≤ q) (fun i hi => match i, hi with
    | 0, _ => by decide +kernel
    | 1, _ => by decide +kernel
    | 2, _ => by decide +kernel
    | 3, _ => by decide +kernel
    | 4, _ => by decide +kernel
    | 5, _ => by decide +kernel
    | 6, _ => by decide +kernel
    | 7, _ => by decide +kernel
    | 8, _ => by decide +kernel
    | i + 9, hi => absurd hi (by omega)) hex hco har hle hel hne hA
  have hZ1 : va_Z "java/lang/String" "COMPACT_STRINGS" "Z" (.int 1) (fun q => s.heap.size ≤ q) s s.heap := va_Zof (hw 588 _ (by decide +kernel)) (hw 41 _ (by decide +kernel)) (va_eqi (hs _ (by decide +kernel))) hA
  have hZq : va_Zq "jdk/internal/util/Preconditions" "SIOOBE_FORMATTER" "Ljava/util/function/BiFunction;" (fun q => s.heap.size ≤ q) s s.heap := va_Zqof (hw 604 _ (by decide +kernel)) (hw 43 _ (by decide +kernel)) (hs _ (by decide +kernel)) hA
  obtain ⟨z, hz1, hz2⟩ : ∃ z : Value, va_Z "jdk/internal/util/Preconditions" "SIOOBE_FORMATTER" "Ljava/util/function/BiFunction;" z (fun q => s.heap.size ≤ q) s s.heap ∧ am_zok z := by
    rcases hZq with h | ⟨t, h⟩
    · exact ⟨_, h, Or.inl rfl⟩
    · exact ⟨_, h, Or.inr ⟨t, rfl⟩⟩
  refine ⟨adK, adV, z, fun q0 f g => ?_⟩
  have e1 : ∀ i, i < 9 → am_ad b q0 f g adK adV (6000 + i) = adK i := fun i hi => by
    unfold am_ad
    rw [if_neg (by omega), if_neg (by omega), if_neg (by omega), if_neg (by omega), if_pos (by omega), show 6000 + i - 6000 = i by omega]
  have e2 : ∀ i, i < 9 → am_ad b q0 f g adK adV (6100 + i) = adV i := fun i hi => by
    unfold am_ad
    rw [if_neg (by omega), if_neg (by omega), if_neg (by omega), if_neg (by omega), if_neg (by omega), show 6100 + i - 6100 = i by omega]
  have e3 : am_ad b q0 f g adK adV 5000 = b := rfl
  refine ⟨fun i hi => ?_, hZ1, hz1, hz2, fun k j hk => ?_, hX, hb, Nat.not_le.mpr hb, hL, fun p a i b n d h hp => va_Nw.of rfl (hw p _ hp)⟩
  · rw [e1 i hi, e2 i hi]
    exact hS1.1 i hi
  · have hj := am_as_ks hk
    rw [e1 j hj]
    have hm := am_as_mem hk
    have hh : ∀ q ∈ am_ks5, am_tk.getD q.2 0 = q.1 ∧ ∃ i : Nat, lw_tbl[i]? = some (Cond.stringRef "StatuteBook$Reader" q.1 (am_tx.getD q.2 "")) := by
      intro q hq
      simp only [am_ks5, List.mem_cons, List.not_mem_nil, or_false] at hq
      rcases hq with rfl | rfl | rfl | rfl | rfl | rfl | rfl | rfl | rfl
      · exact ⟨by decide +kernel, 668, by decide +kernel⟩
      · exact ⟨by decide +kernel, 674, by decide +kernel⟩
      · exact ⟨by decide +kernel, 679, by decide +kernel⟩
      · exact ⟨by decide +kernel, 574, by decide +kernel⟩
      · exact ⟨by decide +kernel, 630, by decide +kernel⟩
      · exact ⟨by decide +kernel, 631, by decide +kernel⟩
      · exact ⟨by decide +kernel, 632, by decide +kernel⟩
      · exact ⟨by decide +kernel, 633, by decide +kernel⟩
      · exact ⟨by decide +kernel, 684, by decide +kernel⟩
    obtain ⟨g1, i, g2⟩ := hh _ hm
    dsimp only at g1 g2
    refine ⟨am_tx.getD j "", vk_R.of (hw i _ g2) ?_⟩
    have := hS2 j hj
    unfold am_tm at this
    rw [g1] at this
    exact this
theorem dlw_0 : decode code 0 = .ok (.new 12, 3) := by decide +kernel
theorem dlw_3 : decode code 3 = .ok (.dup, 1) := by decide +kernel
theorem dlw_4 : decode code 4 = .ok (.invokespecial 130, 3) := by decide +kernel
theorem dlw_7 : decode code 7 = .ok (.astore_n 1, 1) := by decide +kernel
theorem dlw_8 : decode code 8 = .ok (.bipush 16, 2) := by decide +kernel
theorem dlw_10 : decode code 10 = .ok (.newarray .long, 2) := by decide +kernel
theorem dlw_12 : decode code 12 = .ok (.astore_n 2, 1) := by decide +kernel
theorem dlw_13 : decode code 13 = .ok (.bipush 16, 2) := by decide +kernel
theorem dlw_15 : decode code 15 = .ok (.newarray .int, 2) := by decide +kernel
theorem dlw_17 : decode code 17 = .ok (.astore_n 3, 1) := by decide +kernel
theorem dlw_18 : decode code 18 = .ok (.bipush 32, 2) := by decide +kernel
theorem dlw_20 : decode code 20 = .ok (.newarray .int, 2) := by decide +kernel
theorem dlw_22 : decode code 22 = .ok (.astore 4, 2) := by decide +kernel
theorem dlw_24 : decode code 24 = .ok (.bipush 64, 2) := by decide +kernel
theorem dlw_26 : decode code 26 = .ok (.newarray .int, 2) := by decide +kernel
theorem dlw_28 : decode code 28 = .ok (.astore 5, 2) := by decide +kernel
theorem dlw_30 : decode code 30 = .ok (.bipush 16, 2) := by decide +kernel
theorem dlw_32 : decode code 32 = .ok (.newarray .int, 2) := by decide +kernel
theorem dlw_34 : decode code 34 = .ok (.astore 6, 2) := by decide +kernel
theorem dlw_36 : decode code 36 = .ok (.bipush 16, 2) := by decide +kernel
theorem dlw_38 : decode code 38 = .ok (.newarray .int, 2) := by decide +kernel
theorem dlw_40 : decode code 40 = .ok (.astore 7, 2) := by decide +kernel
theorem dlw_42 : decode code 42 = .ok (.bipush 16, 2) := by decide +kernel
theorem dlw_44 : decode code 44 = .ok (.newarray .int, 2) := by decide +kernel
theorem dlw_46 : decode code 46 = .ok (.astore 8, 2) := by decide +kernel
set_option maxHeartbeats 8000000 in
set_option maxRecDepth 100000 in
/-- THE LAW, from its entry, over what the abstract machine does from its loop on -/
theorem whole_start_open (hpure : ∀ (L : Nat) (xs : Nat → Int32), L ≤ 260 → am_x t_LAW_law (48, [.ref 5000, .ref 0, .ref 58, .ref 59, .ref 60, .ref 61, .ref 62, .ref 63, .ref 64, .null, .null, .null, .null, .null], [], am_M0 L xs) (fun rv _ => rv = some (.int 1)))
    {p : Program} {e : Env} {s : State} {m : MethodId} {below : List Frame} {meth : Method} {c : Code} (l : Launch) {b L : Nat} {xs : Nat → Int32} (hL : L ≤ 260) (C0 : lw_At p s m meth c b L xs) : W p l e room_1 s m #[Value.ref b] below meth c s.heap [] 0 0 (lw_Z below #[Value.ref b] s) (entryFrame m ([Value.ref b] : List Value).toArray 14) := by
  obtain ⟨hx, hb, hr, hml, hown, hts0, hX, hbl, hlocks, hgv⟩ := id C0
  have hts := am_tbl_before hts0
  have hA : ∀ q : Nat, s.heap.size ≤ q → (fun q : Nat => s.heap.size ≤ q) q := fun _ h => h
  obtain ⟨adK, adV, z, hZ⟩ := am_Zat hts0 hgv hX hbl (by omega)
  have hNw : am_nsm s := fun p a i x h q => va_Nw.of rfl (hts0 _ (List.mem_of_getElem? q))
  obtain ⟨cI, hI1, hI2⟩ := am_arrI (hts _ am_warr)
  obtain ⟨c0, iS0, hKn0⟩ := u_known (C := RX0) (T := TX0) (N := 1) (n := 1) hts am_ws0 (hts (.instantiable RX0 1) (am_mem (i := 123) (by decide +kernel) (by decide +kernel)))
  obtain ⟨c1, iS1, hKn1⟩ := u_known (C := RX1) (T := TX1) (N := 4) (n := 4) hts am_ws1 (hts (.instantiable RX1 4) (am_mem (i := 136) (by decide +kernel) (by decide +kernel)))
  obtain ⟨c2, iS2, hKn2⟩ := u_known (C := RX2) (T := TX2) (N := 3) (n := 3) hts am_ws2 (hts (.instantiable RX2 3) (am_mem (i := 78) (by decide +kernel) (by decide +kernel)))
  obtain ⟨c3, iS3, hKn3⟩ := u_known (C := RX3) (T := TX3) (N := 11) (n := 11) hts am_ws3 (hts (.instantiable RX3 11) (am_mem (i := 157) (by decide +kernel) (by decide +kernel)))
  obtain ⟨c4, iS4, hKn4⟩ := u_known (C := RX4) (T := TX4) (N := 2) (n := 2) hts am_ws4 (hts (.instantiable RX4 2) (am_mem (i := 61) (by decide +kernel) (by decide +kernel)))
  obtain ⟨c5, iS5, hKn5⟩ := u_known (C := RX5) (T := TX5) (N := 4) (n := 4) hts am_ws5 (hts (.instantiable RX5 4) (am_mem (i := 55) (by decide +kernel) (by decide +kernel)))
  obtain ⟨c6, iS6, hKn6⟩ := u_known (C := RX6) (T := TX6) (N := 1) (n := 1) hts am_ws6 (hts (.instantiable RX6 1) (am_mem (i := 84) (by decide +kernel) (by decide +kernel)))
  obtain ⟨c7, iS7, hKn7⟩ := u_known (C := RX7) (T := TX7) (N := 4) (n := 4) hts am_ws7 (hts (.instantiable RX7 4) (am_mem (i := 199) (by decide +kernel) (by decide +kernel)))
  obtain ⟨c8, iS8, hKn8⟩ := u_known (C := RX8) (T := TX8) (N := 7) (n := 7) hts am_ws8 (hts (.instantiable RX8 7) (am_mem (i := 47) (by decide +kernel) (by decide +kernel)))
  obtain ⟨D, hKc⟩ : ∃ D : va_G, ∀ (k : Nat) (q : vw_C), am_cl[k]? = some q → u_Kn s q.1 q.2.1 q.2.2 (D.1 k) (D.2 k) := by
    refine ⟨(fun k => match k with | 0 => c0 | 1 => c1 | 2 => c2 | 3 => c3 | 4 => c4 | 5 => c5 | 6 => c6 | 7 => c7 | _ => c8, fun k => match k with | 0 => iS0 | 1 => iS1 | 2 => iS2 | 3 => iS3 | 4 => iS4 | 5 => iS5 | 6 => iS6 | 7 => iS7 | _ => iS8), ?_⟩
    intro k q hq
    match k, hq with
    | 0, hq => cases hq; exact hKn0
    | 1, hq => cases hq; exact hKn1
    | 2, hq => cases hq; exact hKn2
    | 3, hq => cases hq; exact hKn3
    | 4, hq => cases hq; exact hKn4
    | 5, hq => cases hq; exact hKn5
    | 6, hq => cases hq; exact hKn6
    | 7, hq => cases hq; exact hKn7
    | 8, hq => cases hq; exact hKn8
    | k + 9, hq => simp [am_cl] at hq
  have hS : va_S (fun q : Nat => s.heap.size ≤ q) s.heap s.heap [] := va_S.rf
  have hK : va_K D am_cl [(cI, .int)] s := ⟨hKc, fun k q h => by
    match k, h with
    | 0, h => cases h; exact ⟨hI1, hI2⟩
    | k + 1, h => simp at h⟩
  have hP : va_P D am_cl [] s.heap := fun k q h => by simp at h
  have hD : va_D (fun q : Nat => s.heap.size ≤ q) [] := ⟨fun i j p q h => by simp at h, fun k q h => by simp at h⟩
  have hl := lv_entry ([.ref b]) (n := 14) (Nat.le_of_ble_eq_true rfl)
  rw [lg_entry_eq]
  generalize (lg_sl ([.ref b]) ++ List.replicate (14 - (lg_sl ([.ref b])).length) Slot.unset).toArray = ls at hl ⊢
  have hl : lv_has ls 14 [(0, .ref b)] := hl
  refine va_new (ci := 8) (fs := [.null, .null, .null, .null, .null, .null, .null]) (C := RX8) (T := TX8) (N := 7) hx hb hts am_ws8 tyX8 tyX8_ok hown (hts (.classLink R_law 12 RX8) (am_mem (i := 46) (by decide +kernel) (by decide +kernel))) (hts (.instantiable RX8 7) (am_mem (i := 47) (by decide +kernel) (by decide +kernel))) (hts (.initialized RX8) (am_mem (i := 29) (by decide +kernel) (by decide +kernel))) hK hP hD hS hA rfl (fun j hj => by match j, hj with | 0, _ => rfl | 1, _ => rfl | 2, _ => rfl | 3, _ => rfl | 4, _ => rfl | 5, _ => rfl | 6, _ => rfl | j + 7, hj => exact absurd hj (by omega)) (Nat.le_of_ble_eq_true rfl) (Nat.le_of_ble_eq_true rfl) dlw_0 (fun q0 H hP hD hS => ?_)
  have hP : va_P D am_cl ([(q0, .inr (8, [.null, .null, .null, .null, .null, .null, .null]))]) H := hP
  have hD : va_D (fun q : Nat => s.heap.size ≤ q) ([(q0, .inr (8, [.null, .null, .null, .null, .null, .null, .null]))]) := hD
  refine W.widen (k := 1) (n := 7) (by omega) (by omega) ?_
  refine lv_dup hx hb dlw_3 rfl ?_
  have hPc := hP.sub (ws' := [(q0, .inr (8, [.null, .null, .null, .null, .null, .null, .null]))]) [0] rfl
  have hDc := hD.sub (ws' := [(q0, .inr (8, [.null, .null, .null, .null, .null, .null, .null]))]) [0] (by decide) rfl
  have hKc := hK.sub (tys' := [(cI, .int)]) [0] rfl
  have hFc := va_free (wc := [(q0, .inr (8, [.null, .null, .null, .null, .null, .null, .null]))]) hD hS hA [0] rfl
  refine va_callv (va_runI (As := []) (rest := [.ref q0]) ⟨hx, hb, hml, hown, hts⟩ (c_SB_init l D cI q0 H.size) (cwI 0 hts (am_GoodWs wc_SB_init) rfl rfl rfl (hts (.initialized RX8) (am_mem (i := 29) (by decide +kernel) (by decide +kernel))) (hts (.methodLink R_law 130 (⟨RX8, "<init>", "()V"⟩ : MethodName)) (am_mem (i := 48) (by decide +kernel) (by decide +kernel))) (hts (.instanceMethod (⟨RX8, "<init>", "()V"⟩ : MethodName)) (am_mem (i := 49) (by decide +kernel) (by decide +kernel))) rfl (by decide +kernel) ⟨Nat.le_of_ble_eq_true rfl, Nat.le_of_ble_eq_true rfl⟩) ⟨fun a U g mk q => by obtain ⟨q0, q1, qP, qK, qD, qN⟩ := q; exact ⟨q0, q1, qP, va_K.moved (u := U) (U := U.calling g mk a) (Vm.Alike.refl U.vm) qK, qD, am_nsm.same (u := U) rfl qN⟩, fun U hU hW => ⟨rfl, by rw [hU], by rw [hU]; exact hPc, va_K.moved hW.alike hKc, hDc.weaken (fun _ _ _ _ => trivial), hNw.warm hW⟩⟩ rfl rfl hl.1 rfl (lv_room (Nat.le_of_ble_eq_true rfl)) dlw_4 ⟨Nat.le_of_ble_eq_true rfl, Nat.le_of_ble_eq_true rfl⟩) hS (fun q _ h => hFc q h) hFc (fun u t H1 locs ht hvm hw hB hz1 hk1 hS => ?_)
  obtain ⟨f1, rfl⟩ : ∃ z, z = u := ⟨_, rfl⟩
  obtain ⟨hP1, hK1, hD1⟩ := hB
  rw [ht] at hP1
  obtain ⟨hP, hD⟩ := va_join (wr := []) (w1 := aw_SB cI q0 f1) hP hD [0] [] rfl rfl (by decide) (by decide) hk1 hFc hP1 hD1
  generalize H1 = H at hP hS ⊢
  have hP : va_P D am_cl (aw_SB cI q0 f1) H := hP
  have hD : va_D (fun q : Nat => s.heap.size ≤ q) (aw_SB cI q0 f1) := hD
  refine W.widen (k := 58) (n := 24189) (by omega) (by omega) ?_
  refine lv_astore_n (lv' := [(1, .ref q0), (0, .ref b)]) hx hb dlw_7 rfl hl (by decide) rfl (fun ls hl => ?_)
  refine lv_bipush (v := 16) hx hb dlw_8 (by decide) ?_
  refine va_newa (atype := .long) (ty := .long) (a0 := (16, .inr (.inl (fun _ => 0)))) hx hb (hts (.arrayClass .long) (am_mem (i := 737) (by decide +kernel) (by decide +kernel))) rfl hK hP hD hS hA (fun cA => rfl) (by decide) rfl (Nat.le_of_ble_eq_true rfl) (Nat.le_of_ble_eq_true rfl) (Nat.le_of_ble_eq_true rfl) dlw_10 (fun a0 cJ H hK2 hP hD hS => ?_)
  have hP : va_P D am_cl (aw_SB cI q0 f1 ++ [(a0, .inl (cJ, 16, .inr (.inl (fun _ => 0))))]) H := hP
  have hD : va_D (fun q : Nat => s.heap.size ≤ q) (aw_SB cI q0 f1 ++ [(a0, .inl (cJ, 16, .inr (.inl (fun _ => 0))))]) := hD
  refine W.widen (k := 59) (n := 24205) (by omega) (by omega) ?_
  refine lv_astore_n (lv' := [(2, .ref a0), (1, .ref q0), (0, .ref b)]) hx hb dlw_12 rfl hl (by decide) rfl (fun ls hl => ?_)
  refine lv_bipush (v := 16) hx hb dlw_13 (by decide) ?_
  refine am_newa (N := 16) hx hb (hts _ am_warr) hK hP hD hS hA (by decide) rfl (Nat.le_of_ble_eq_true rfl) (Nat.le_of_ble_eq_true rfl) (Nat.le_of_ble_eq_true rfl) dlw_15 (fun a1 H hP hD hS => ?_)
  rw [List.append_assoc] at hP hD
  have hP : va_P D am_cl (aw_SB cI q0 f1 ++ [(a0, .inl (cJ, 16, .inr (.inl (fun _ => 0)))), (a1, .inl (cI, 16, .inl (fun _ => 0)))]) H := hP
  have hD : va_D (fun q : Nat => s.heap.size ≤ q) (aw_SB cI q0 f1 ++ [(a0, .inl (cJ, 16, .inr (.inl (fun _ => 0)))), (a1, .inl (cI, 16, .inl (fun _ => 0)))]) := hD
  refine W.widen (k := 60) (n := 24221) (by omega) (by omega) ?_
  refine lv_astore_n (lv' := [(3, .ref a1), (2, .ref a0), (1, .ref q0), (0, .ref b)]) hx hb dlw_17 rfl hl (by decide) rfl (fun ls hl => ?_)
  refine lv_bipush (v := 32) hx hb dlw_18 (by decide) ?_
  refine am_newa (N := 32) hx hb (hts _ am_warr) hK hP hD hS hA (by decide) rfl (Nat.le_of_ble_eq_true rfl) (Nat.le_of_ble_eq_true rfl) (Nat.le_of_ble_eq_true rfl) dlw_20 (fun a2 H hP hD hS => ?_)
  rw [List.append_assoc] at hP hD
  have hP : va_P D am_cl (aw_SB cI q0 f1 ++ [(a0, .inl (cJ, 16, .inr (.inl (fun _ => 0)))), (a1, .inl (cI, 16, .inl (fun _ => 0))), (a2, .inl (cI, 32, .inl (fun _ => 0)))]) H := hP
  have hD : va_D (fun q : Nat => s.heap.size ≤ q) (aw_SB cI q0 f1 ++ [(a0, .inl (cJ, 16, .inr (.inl (fun _ => 0)))), (a1, .inl (cI, 16, .inl (fun _ => 0))), (a2, .inl (cI, 32, .inl (fun _ => 0)))]) := hD
  refine W.widen (k := 61) (n := 24253) (by omega) (by omega) ?_
  refine lv_astore (lv' := [(4, .ref a2), (3, .ref a1), (2, .ref a0), (1, .ref q0), (0, .ref b)]) hx hb dlw_22 hl (by decide) rfl (fun ls hl => ?_)
  refine lv_bipush (v := 64) hx hb dlw_24 (by decide) ?_
  refine am_newa (N := 64) hx hb (hts _ am_warr) hK hP hD hS hA (by decide) rfl (Nat.le_of_ble_eq_true rfl) (Nat.le_of_ble_eq_true rfl) (Nat.le_of_ble_eq_true rfl) dlw_26 (fun a3 H hP hD hS => ?_)
  rw [List.append_assoc] at hP hD
  have hP : va_P D am_cl (aw_SB cI q0 f1 ++ [(a0, .inl (cJ, 16, .inr (.inl (fun _ => 0)))), (a1, .inl (cI, 16, .inl (fun _ => 0))), (a2, .inl (cI, 32, .inl (fun _ => 0))), (a3, .inl (cI, 64, .inl (fun _ => 0)))]) H := hP
  have hD : va_D (fun q : Nat => s.heap.size ≤ q) (aw_SB cI q0 f1 ++ [(a0, .inl (cJ, 16, .inr (.inl (fun _ => 0)))), (a1, .inl (cI, 16, .inl (fun _ => 0))), (a2, .inl (cI, 32, .inl (fun _ => 0))), (a3, .inl (cI, 64, .inl (fun _ => 0)))]) := hD
  refine W.widen (k := 62) (n := 24317) (by omega) (by omega) ?_
  refine lv_astore (lv' := [(5, .ref a3), (4, .ref a2), (3, .ref a1), (2, .ref a0), (1, .ref q0), (0, .ref b)]) hx hb dlw_28 hl (by decide) rfl (fun ls hl => ?_)
  refine lv_bipush (v := 16) hx hb dlw_30 (by decide) ?_
  refine am_newa (N := 16) hx hb (hts _ am_warr) hK hP hD hS hA (by decide) rfl (Nat.le_of_ble_eq_true rfl) (Nat.le_of_ble_eq_true rfl) (Nat.le_of_ble_eq_true rfl) dlw_32 (fun a4 H hP hD hS => ?_)
  rw [List.append_assoc] at hP hD
  have hP : va_P D am_cl (aw_SB cI q0 f1 ++ [(a0, .inl (cJ, 16, .inr (.inl (fun _ => 0)))), (a1, .inl (cI, 16, .inl (fun _ => 0))), (a2, .inl (cI, 32, .inl (fun _ => 0))), (a3, .inl (cI, 64, .inl (fun _ => 0))), (a4, .inl (cI, 16, .inl (fun _ => 0)))]) H := hP
  have hD : va_D (fun q : Nat => s.heap.size ≤ q) (aw_SB cI q0 f1 ++ [(a0, .inl (cJ, 16, .inr (.inl (fun _ => 0)))), (a1, .inl (cI, 16, .inl (fun _ => 0))), (a2, .inl (cI, 32, .inl (fun _ => 0))), (a3, .inl (cI, 64, .inl (fun _ => 0))), (a4, .inl (cI, 16, .inl (fun _ => 0)))]) := hD
  refine W.widen (k := 63) (n := 24333) (by omega) (by omega) ?_
  refine lv_astore (lv' := [(6, .ref a4), (5, .ref a3), (4, .ref a2), (3, .ref a1), (2, .ref a0), (1, .ref q0), (0, .ref b)]) hx hb dlw_34 hl (by decide) rfl (fun ls hl => ?_)
  refine lv_bipush (v := 16) hx hb dlw_36 (by decide) ?_
  refine am_newa (N := 16) hx hb (hts _ am_warr) hK hP hD hS hA (by decide) rfl (Nat.le_of_ble_eq_true rfl) (Nat.le_of_ble_eq_true rfl) (Nat.le_of_ble_eq_true rfl) dlw_38 (fun a5 H hP hD hS => ?_)
  rw [List.append_assoc] at hP hD
  have hP : va_P D am_cl (aw_SB cI q0 f1 ++ [(a0, .inl (cJ, 16, .inr (.inl (fun _ => 0)))), (a1, .inl (cI, 16, .inl (fun _ => 0))), (a2, .inl (cI, 32, .inl (fun _ => 0))), (a3, .inl (cI, 64, .inl (fun _ => 0))), (a4, .inl (cI, 16, .inl (fun _ => 0))), (a5, .inl (cI, 16, .inl (fun _ => 0)))]) H := hP
  have hD : va_D (fun q : Nat => s.heap.size ≤ q) (aw_SB cI q0 f1 ++ [(a0, .inl (cJ, 16, .inr (.inl (fun _ => 0)))), (a1, .inl (cI, 16, .inl (fun _ => 0))), (a2, .inl (cI, 32, .inl (fun _ => 0))), (a3, .inl (cI, 64, .inl (fun _ => 0))), (a4, .inl (cI, 16, .inl (fun _ => 0))), (a5, .inl (cI, 16, .inl (fun _ => 0)))]) := hD
  refine W.widen (k := 64) (n := 24349) (by omega) (by omega) ?_
  refine lv_astore (lv' := [(7, .ref a5), (6, .ref a4), (5, .ref a3), (4, .ref a2), (3, .ref a1), (2, .ref a0), (1, .ref q0), (0, .ref b)]) hx hb dlw_40 hl (by decide) rfl (fun ls hl => ?_)
  refine lv_bipush (v := 16) hx hb dlw_42 (by decide) ?_
  refine am_newa (N := 16) hx hb (hts _ am_warr) hK hP hD hS hA (by decide) rfl (Nat.le_of_ble_eq_true rfl) (Nat.le_of_ble_eq_true rfl) (Nat.le_of_ble_eq_true rfl) dlw_44 (fun a6 H hP hD hS => ?_)
  rw [List.append_assoc] at hP hD
  have hP : va_P D am_cl (aw_SB cI q0 f1 ++ [(a0, .inl (cJ, 16, .inr (.inl (fun _ => 0)))), (a1, .inl (cI, 16, .inl (fun _ => 0))), (a2, .inl (cI, 32, .inl (fun _ => 0))), (a3, .inl (cI, 64, .inl (fun _ => 0))), (a4, .inl (cI, 16, .inl (fun _ => 0))), (a5, .inl (cI, 16, .inl (fun _ => 0))), (a6, .inl (cI, 16, .inl (fun _ => 0)))]) H := hP
  have hD : va_D (fun q : Nat => s.heap.size ≤ q) (aw_SB cI q0 f1 ++ [(a0, .inl (cJ, 16, .inr (.inl (fun _ => 0)))), (a1, .inl (cI, 16, .inl (fun _ => 0))), (a2, .inl (cI, 32, .inl (fun _ => 0))), (a3, .inl (cI, 64, .inl (fun _ => 0))), (a4, .inl (cI, 16, .inl (fun _ => 0))), (a5, .inl (cI, 16, .inl (fun _ => 0))), (a6, .inl (cI, 16, .inl (fun _ => 0)))]) := hD
  refine W.widen (k := 65) (n := 24365) (by omega) (by omega) ?_
  refine lv_astore (lv' := [(8, .ref a6), (7, .ref a5), (6, .ref a4), (5, .ref a3), (4, .ref a2), (3, .ref a1), (2, .ref a0), (1, .ref q0), (0, .ref b)]) hx hb dlw_46 hl (by decide) rfl (fun ls hl => ?_)
  obtain ⟨g, hg⟩ : ∃ g : Nat → Nat, g = (fun k => match k with | 0 => a0 | 1 => a1 | 2 => a2 | 3 => a3 | 4 => a4 | 5 => a5 | _ => a6) := ⟨_, rfl⟩
  have e0 : a0 = g 0 := by subst hg; rfl
  have e1 : a1 = g 1 := by subst hg; rfl
  have e2 : a2 = g 2 := by subst hg; rfl
  have e3 : a3 = g 3 := by subst hg; rfl
  have e4 : a4 = g 4 := by subst hg; rfl
  have e5 : a5 = g 5 := by subst hg; rfl
  have e6 : a6 = g 6 := by subst hg; rfl
  have hP : va_P D am_cl (aw_SB cI q0 f1 ++ aw_ar cI cJ g) H := by subst hg; exact hP
  have hD : va_D (fun q : Nat => s.heap.size ≤ q) (aw_SB cI q0 f1 ++ aw_ar cI cJ g) := by subst hg; exact hD
  rw [← am_wd0 cI cJ b q0 f1 g adK adV L xs] at hP hD
  obtain ⟨d, k, c', rv, hgo, hret, hrv⟩ := hpure L xs hL
  subst hrv
  have hE : am_E p s m #[Value.ref b] c t_LAW_law D (cI, cJ) (am_ad b q0 f1 g adK adV) z (fun q => s.heap.size ≤ q) L xs := ⟨hx, hb, hml, hown, hts, hK2, hZ q0 f1 g, hA⟩
  refine am_go_W (c0 := (48, [.ref 5000, .ref 0, .ref 58, .ref 59, .ref 60, .ref 61, .ref 62, .ref 63, .ref 64, .null, .null, .null, .null, .null], [], am_M0 L xs)) (c1 := c') hE am_law_rok am_law_cok am_law_dok (Nat.le_refl _) (Nat.le_refl _) ⟨Nat.le_of_ble_eq_true rfl, Nat.le_of_ble_eq_true rfl⟩ (am_sound l d) (fun _ _ _ _ _ => am_run_ar) k hgo ⟨hP, hD, hS, ⟨rfl, lv_mono hl (fun q hq => ?_)⟩, fun j hj => rfl, rfl⟩ (fun H' locs' LS' hR => ?_)
  · have e9 : am_asc (am_ad b q0 f1 g adK adV) z [.ref 5000, .ref 0, .ref 58, .ref 59, .ref 60, .ref 61, .ref 62, .ref 63, .ref 64, .null, .null, .null, .null, .null] = [(0, .ref b), (1, .ref q0), (2, .ref (g 0)), (3, .ref (g 1)), (4, .ref (g 2)), (5, .ref (g 3)), (6, .ref (g 4)), (7, .ref (g 5)), (8, .ref (g 6))] := rfl
    rw [e9] at hq
    rw [e0, e1, e2, e3, e4, e5, e6]
    simp only [List.mem_cons, List.not_mem_nil, or_false] at hq ⊢
    rcases hq with h | h | h | h | h | h | h | h | h
    · exact Or.inr (Or.inr (Or.inr (Or.inr (Or.inr (Or.inr (Or.inr (Or.inr (h))))))))
    · exact Or.inr (Or.inr (Or.inr (Or.inr (Or.inr (Or.inr (Or.inr (Or.inl h)))))))
    · exact Or.inr (Or.inr (Or.inr (Or.inr (Or.inr (Or.inr (Or.inl h))))))
    · exact Or.inr (Or.inr (Or.inr (Or.inr (Or.inr (Or.inl h)))))
    · exact Or.inr (Or.inr (Or.inr (Or.inr (Or.inl h))))
    · exact Or.inr (Or.inr (Or.inr (Or.inl h)))
    · exact Or.inr (Or.inr (Or.inl h))
    · exact Or.inr (Or.inl h)
    · exact Or.inl h
  · obtain ⟨pc', ls', st', M'⟩ := c'
    obtain ⟨h1, h2, ty, h3, h4⟩ := hret
    dsimp only at h1 h2 ⊢
    subst h2
    have hdec : decode (am_by t_LAW_law) pc' = .ok (.ireturn, 1) := by
      have hde := (List.all_eq_true.mp am_law_dok) _ (am_as_mem h1)
      rw [Bool.and_eq_true, Bool.and_eq_true] at hde
      exact of_decide_eq_true hde.1.1
    refine va_forget (fun q hq => hR.2.2.1.2.2 q hq) ?_
    refine W.widen (k := 600000) (n := 7302250) (Nat.le_of_ble_eq_true rfl) (Nat.le_of_ble_eq_true rfl) ?_
    exact lw_ret hx hb hr hlocks hdec
