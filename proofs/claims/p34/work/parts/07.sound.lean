/-! the abstract machine's calls are the machine's, and so its methods: by depth -/
theorem am_wmn1 : Cond.methodLink (am_cn 4) 25 Lib.Math.min.name ∈ am_tbl := am_mem (i := 448) (by decide +kernel) (by decide +kernel)
theorem am_wmn2 : Cond.methodLink (am_cn 1) 34 Lib.Math.min.name ∈ am_tbl := am_mem (i := 263) (by decide +kernel) (by decide +kernel)
theorem am_wmn3 : Cond.static Lib.Math.min.name ∈ am_tbl := am_mem (i := 264) (by decide +kernel) (by decide +kernel)
theorem am_wmn4 : Cond.initialized "java/lang/Math" ∈ am_tbl := am_mem (i := 32) (by decide +kernel) (by decide +kernel)
theorem am_wmn5 : Cond.code Lib.Math.min.name Lib.Math.min.code 2 (some .int) ∈ am_tbl := am_mem (i := 265) (by decide +kernel) (by decide +kernel)
theorem am_cl_cn {ci : Nat} {r : vw_C} (h : am_cl[ci]? = some r) : r.1 = am_cn ci := by
  match ci, h with
  | 0, h => cases h; rfl
  | 1, h => cases h; rfl
  | 2, h => cases h; rfl
  | 3, h => cases h; rfl
  | 4, h => cases h; rfl
  | 5, h => cases h; rfl
  | 6, h => cases h; rfl
  | 7, h => cases h; rfl
  | 8, h => cases h; rfl
  | k + 9, h => simp [am_cl] at h
def am_ws (t : am_T) : List Cond := Cond.code (am_nm t) (am_by t) (am_mL t) (am_rt t) :: am_tbl
def am_room (t : am_T) : Room := { frames := am_fr t, cells := 0, slots := 0, locals := am_lo t }
def am_good (t : am_T) : Prop := ∃ p1 p2, (t, p1, p2) ∈ am_ts ∧ t ≠ t_LAW_law
theorem am_good_P {t : am_T} (h : am_good t) : ∃ p1 p2, am_P (t, p1, p2) := by
  obtain ⟨p1, p2, h1, h2⟩ := h
  exact ⟨p1, p2, am_Pt _ h1 h2⟩
def am_wB (D : va_G) (cI : ClassId × ClassId) (ad : Nat → Nat) (L : Nat) (xs : Nat → Int32) (M : am_M) (A : Nat → Prop) (U : State) : Prop :=
  va_P D am_cl (am_wd cI ad M) U.heap ∧ va_K D am_cl [(cI.1, .int), (cI.2, .long)] U ∧ va_D A (am_wd cI ad M) ∧ (∀ j, j < L → M 5000 j = xs j) ∧ M 5001 0 = Int32.ofNat L
def am_pc (D : va_G) (cI : ClassId × ClassId) (ad : Nat → Nat) (z : Value) (L : Nat) (xs : Nat → Int32) (M : am_M) (av : List Value) (sz : Nat) : Array Value → State → Prop :=
  va_Pc (av.map (am_tv ad z)) (fun U => U.heap.size = sz ∧ am_wB D cI ad L xs M (fun _ => True) U ∧ am_Z ad z L xs (va_A (am_wd cI ad M) sz) U U.heap)
def am_qc (D : va_G) (cI : ClassId × ClassId) (ad : Nat → Nat) (z : Value) (L : Nat) (xs : Nat → Int32) (rv : Option Value) (M : am_M) (A : Nat → Prop) : Array Value → State → Outcome → State → Prop :=
  fun _ st oc t => oc = .returned (rv.map (am_tv ad z)) ∧ am_wB D cI ad L xs M A t ∧ va_F A st t
theorem am_pc_blind (D : va_G) (cI : ClassId × ClassId) (ad : Nat → Nat) (z : Value) (L : Nat) (xs : Nat → Int32) (M : am_M) (av : List Value) (sz : Nat) : FrameBlind (am_pc D cI ad z L xs M av sz) := by
  intro a U g mk q
  obtain ⟨q0, q1, ⟨qP, qK, qD, q5⟩, qZ⟩ := q
  exact ⟨q0, q1, ⟨qP, va_K.moved (u := U) (U := U.calling g mk a) (Vm.Alike.refl U.vm) qK, qD, q5⟩, am_Z.same (u := U) rfl qZ⟩
abbrev am_Mt (l : Launch) (t : am_T) (av : List Value) (M : am_M) (rv : Option Value) (M' : am_M) : Prop :=
  ∀ (D : va_G) (cI : ClassId × ClassId) (ad : Nat → Nat) (z : Value) (L : Nat) (xs : Nat → Int32) (sz : Nat), Met l (am_nm t) (am_ws t) (am_room t) (am_pc D cI ad z L xs M av sz) (am_qc D cI ad z L xs rv M' (va_A (am_wd cI ad M) sz)) 0 0 (va_A (am_wd cI ad M) sz)
theorem am_ml_spec {ow k : Nat} {t : am_T} (h : am_ml ow k = some t) : ∃ (q : Nat × Nat × Nat × Nat × Nat) (p1 p2 : Nat), am_as (am_m ow) k = some q ∧ (t, p1, p2) ∈ am_ts ∧ t ≠ t_LAW_law ∧ Cond.methodLink (am_cn ow) k (am_nm t) ∈ am_tbl ∧
    (q.2.1 = 0 → Cond.instanceMethod (am_nm t) ∈ am_tbl ∧ Cond.selects (am_nm t).cls (am_nm t) (am_nm t) ∈ am_tbl ∧ (parseMethodDescriptor (am_nm t).desc).map (fun d => d.parameters.length + 1) = some (am_ar t)) ∧
    (q.2.1 ≠ 0 → Cond.static (am_nm t) ∈ am_tbl ∧ (parseMethodDescriptor (am_nm t).desc).map (fun d => d.parameters.length) = some (am_ar t)) := by
  unfold am_ml at h
  split at h
  · rename_i q hq
    split at h
    · rename_i r hr
      cases h
      have hc := (List.all_eq_true.mp (am_m_all ow)) _ (am_as_mem hq)
      unfold am_cok at hc
      dsimp only at hc
      rw [hr] at hc
      dsimp only at hc
      rw [Bool.and_eq_true, Bool.and_eq_true] at hc
      obtain ⟨⟨hc1, hc2⟩, hc3⟩ := hc
      refine ⟨q, r.2.1, r.2.2, hq, List.mem_of_getElem? hr, fun e => (of_decide_eq_true hc2) (by rw [e]), am_mem (of_decide_eq_true hc1) rfl, fun h0 => ?_, fun h0 => ?_⟩
      · rw [h0] at hc3
        have hc3 : (decide _ && decide _ && decide _) = true := hc3
        rw [Bool.and_eq_true, Bool.and_eq_true] at hc3
        exact ⟨am_mem (of_decide_eq_true hc3.1.1) rfl, am_mem (of_decide_eq_true hc3.1.2) rfl, of_decide_eq_true hc3.2⟩
      · have : Nat.beq q.2.1 0 = false := by
          cases hb : Nat.beq q.2.1 0 with
          | false => rfl
          | true => exact absurd (Nat.eq_of_beq_eq_true hb) h0
        rw [this] at hc3
        have hc3 : (decide _ && decide _) = true := hc3
        rw [Bool.and_eq_true] at hc3
        exact ⟨am_mem (of_decide_eq_true hc3.1) rfl, of_decide_eq_true hc3.2⟩
    · cases h
  · cases h
section AMB
variable {p : Program} {l : Launch} {e : Env} {R : Room} {s : State} {m : MethodId} {args : Array Value} {below : List Frame} {meth : Method} {c : Code} {cells slots : Nat} {Q : State → Prop}
variable {t : am_T} {D : va_G} {cI : ClassId × ClassId} {ad : Nat → Nat} {z : Value} {A : Nat → Prop} {L : Nat} {xs : Nat → Int32}
theorem am_back {H : Heap} {locs : List Loc} {pc : Nat} {LS : Array Slot} {st0 rest : List Value} {rv : Option Value} {M' : am_M} {A1 : Nat → Prop} {a : Array Value} {free : Addr → Prop} {H0 : Heap}
    (hr : va_Run p l e R s m args below meth c H locs cells slots 0 0 (F0 m pc LS st0) rest (am_qc D cI ad z L xs rv M' A1 a) free) (hS : va_S A H0 H locs) (hA : ∀ q, A1 q → A q) (hf : ∀ q, free q → A q)
    (kk : ∀ (u : State) (H1 : Heap) (locs1 : List Loc), u.heap = H1 → am_wB D cI ad L xs M' A1 u → va_S A H0 H1 locs1 → W p l e R s m args below meth c H1 locs1 cells slots Q (F0 m (pc + 3) LS ((rv.map (am_tv ad z)).toList ++ rest))) : W p l e R s m args below meth c H locs cells slots Q (F0 m pc LS st0) := by
  intro T hT X
  obtain ⟨v, st₀, u, T', L9, h0, X', hL, e1, e2, ⟨hv, hB, hz, hk⟩, st⟩ := hr T hT X
  cases hv
  rw [h0] at hz hk
  obtain ⟨t2, a1, b1⟩ := kk u T'.heap (locs ++ L9) e1.symm hB
    ⟨Nat.le_trans hS.1 (by rw [e1]; exact hz), fun q h1 h2 => by rw [e1, hk q (Nat.lt_of_lt_of_le h1 hS.1) (fun z => h2 (hA q z))]; exact hS.2.1 q h1 h2, fun q hq => by
      rcases List.mem_append.mp hq with h | h
      · exact hS.2.2 q h
      · exact hf _ (hL q h)⟩ T' rfl X'
  exact ⟨t2, st t2 a1, b1⟩
theorem am_cal_W (E : am_E p s m args c t D cI ad z A L xs) (hrok : am_rok t = true) (hcokI : (am_cd t).all (am_cokI (am_ow t)) = true) (hdok : am_dok (am_by t) (am_cd t) = true) (hRf : am_fr t ≤ R.frames) (hRl : am_lo t ≤ R.locals) (hcs : cells ≤ R.cells ∧ slots ≤ R.slots)
    {d : Nat} (IH : ∀ (t' : am_T), am_good t' → ∀ (av : List Value) (M : am_M) (rv : Option Value) (M' : am_M), am_run d t' av M rv M' → am_Mt l t' av M rv M')
    (har : ∀ (t' : am_T) (av : List Value) (M : am_M) (rv : Option Value) (M' : am_M), am_run d t' av M rv M' → av.length = am_ar t') {c0 c1 : am_C} (h : am_cal (am_run d) t c0 c1)
    {H : Heap} {locs : List Loc} {LS : Array Slot} (hR : am_R D cI ad z A L xs s (am_mL t) H locs LS c0.2.1 c0.2.2.2)
    (kk : ∀ (H' : Heap) (locs' : List Loc) (LS' : Array Slot), am_R D cI ad z A L xs s (am_mL t) H' locs' LS' c1.2.1 c1.2.2.2 → W p l e R s m args below meth c H' locs' cells slots Q (F0 m c1.1 LS' (c1.2.2.1.map (am_tv ad z)))) :
    W p l e R s m args below meth c H locs cells slots Q (F0 m c0.1 LS (c0.2.2.1.map (am_tv ad z))) := by
  obtain ⟨hx, hb, hml, hown, hts, hK, hZ, hA⟩ := E
  have hz := hZ.2.2.2.1
  obtain ⟨pc, ls, st, M⟩ := c0
  obtain ⟨i, k, t', av, rest, rv, M', a1, a2, a3, a4, a5, a8, a6, a7⟩ := h
  subst a7
  dsimp only at a1 a4 a6 hR kk ⊢
  have hmem := am_as_mem a1
  have hde := (List.all_eq_true.mp hdok) _ hmem
  rw [Bool.and_eq_true, Bool.and_eq_true] at hde
  have hd := of_decide_eq_true hde.1.1
  dsimp only at hd
  have hro := (List.all_eq_true.mp hrok) _ hmem
  dsimp only at hro
  rw [a2] at hro
  dsimp only at hro
  rw [a3] at hro
  simp only [Bool.and_eq_true] at hro
  have hf1 : am_fr t' + 1 ≤ am_fr t := Nat.le_of_ble_eq_true hro.1.1.1
  have hl1 : 8 + (am_mL t' + 11) + am_lo t' ≤ am_lo t := Nat.le_of_ble_eq_true hro.1.1.2
  obtain ⟨q, p1, p2, b1, b2, b3, b4, b5, b6⟩ := am_ml_spec a3
  have hg : am_good t' := ⟨p1, p2, b2, b3⟩
  have hPt := am_Pt _ b2 b3
  have hnok := hPt.2.2.1
  unfold am_nok at hnok
  simp only [Bool.and_eq_true] at hnok
  have hMH := of_decide_eq_true hnok.1.1.2
  have hcn := of_decide_eq_true hnok.2
  have hin : Cond.initialized (am_nm t').cls ∈ am_tbl := am_mem (of_decide_eq_true hnok.1.2) rfl
  have hcode : Cond.code (am_nm t') (am_by t') (am_mL t') (am_rt t') ∈ am_tbl := am_mem hPt.2.2.2 rfl
  have hGw : GoodIn am_tbl (am_ws t') := fun w hw => by
    rcases List.mem_cons.mp hw with rfl | hw
    · exact ⟨hcode, good_of_word rfl⟩
    · exact ⟨hw, good_of_word ((List.all_eq_true.mp am_tbl_good) w hw)⟩
  have hlen := har _ _ _ _ _ a6
  have hMet := IH t' hg av M rv M' a6 D cI ad z L xs H.size
  have hF : ∀ q, va_A (am_wd cI ad M) H.size q → A q := by
    rintro q (⟨k, e, h⟩ | h)
    · exact hR.2.1.2 k _ h
    · exact hA q (Nat.le_trans hR.2.2.1.1 h)
  have hpre : ∀ U : State, U.heap = H → s.WarmedH U.vm → am_pc D cI ad z L xs M av H.size (av.map (am_tv ad z)).toArray U := fun U hU hW =>
    ⟨rfl, by rw [hU], ⟨by rw [hU]; exact hR.1, va_K.moved hW.alike hK, hR.2.1.weaken (fun _ _ _ _ => trivial), hR.2.2.2.2.1, hR.2.2.2.2.2⟩, by rw [hU]; exact ((hZ.kept hR.2.2.1.1 hR.2.2.1.2.1).narrow hF).warm hW⟩
  have hRm : (am_room t').frames + 1 ≤ R.frames ∧ 8 + (am_mL t' + 11) + (am_room t').locals ≤ R.locals := ⟨Nat.le_trans hf1 hRf, Nat.le_trans hl1 hRl⟩
  have hsz : (F0 m pc LS (st.map (am_tv ad z))).locals.size = am_mL t := hR.2.2.2.1.2.1
  have hwr : 2 * (F0 m pc LS (st.map (am_tv ad z))).monitorRoom + ((rest.map (am_tv ad z)).map fun v => v.category).sum ≤ 8 := lv_room (by have := am_cw_tv (ad := ad) hz rest; unfold am_cw at this a5; rw [this]; exact a5)
  have hend : ∀ (u : State) (H1 : Heap) (locs1 : List Loc), u.heap = H1 → am_wB D cI ad L xs M' (va_A (am_wd cI ad M) H.size) u → va_S A s.heap H1 locs1 → W p l e R s m args below meth c H1 locs1 cells slots Q (F0 m (pc + 3) LS ((rv.map (am_tv ad z)).toList ++ rest.map (am_tv ad z))) := by
    intro u H1 locs1 hu hB hS1
    obtain ⟨hP1, hK1, hD1, hs1, hs2⟩ := hB
    rw [hu] at hP1
    have := kk H1 locs1 LS ⟨hP1, hD1.weaken (fun k q _ h => hF q.1 h), hS1, hR.2.2.2.1, hs1, hs2⟩
    have e9 : (rv.toList ++ rest).map (am_tv ad z) = (rv.map (am_tv ad z)).toList ++ rest.map (am_tv ad z) := by
      cases rv <;> rfl
    rw [e9] at this
    exact this
  have hcI := (List.all_eq_true.mp hcokI) _ hmem
  cases i with
  | invokevirtual k2 =>
    cases a2
    have hkd : q.2.1 = 0 := by
      unfold am_cokI at hcI
      dsimp only at hcI
      rw [b1] at hcI
      exact Nat.eq_of_beq_eq_true hcI
    obtain ⟨w1, w2, w3⟩ := b5 hkd
    have hrv := a8 rfl
    unfold am_rv at hrv
    match av, hlen, hrv, hMet, hpre, a4 with
    | .ref a :: As, hlen, hrv, hMet, hpre, a4 =>
      obtain ⟨a, rfl⟩ : ∃ b : Nat, b = a := ⟨a, rfl⟩
      dsimp only at hrv
      have hn1 : (parseMethodDescriptor (am_nm t').desc).map (fun d => d.parameters.length) = some (As.map (am_tv ad z)).length := by
        cases hp9 : parseMethodDescriptor (am_nm t').desc with
        | none => rw [hp9] at w3; cases w3
        | some d9 =>
          rw [hp9] at w3
          have w3 := Option.some.inj w3
          dsimp only at w3
          rw [← hlen] at w3
          simp only [List.length_cons] at w3
          simp only [Option.map_some, List.length_map]
          congr 1
          omega
      have hG : GoodIn am_tbl (wsV (am_cn (am_ow t)) k (am_nm t').cls (am_nm t') (am_ws t')) := fun w hw => by
        unfold wsV at hw
        rcases List.mem_append.mp hw with hw | hw
        · simp only [List.mem_cons, List.not_mem_nil, or_false] at hw
          rcases hw with rfl | rfl | rfl | rfl
          · exact ⟨b4, good_of_word rfl⟩
          · exact ⟨w1, good_of_word rfl⟩
          · exact ⟨w2, good_of_word rfl⟩
          · exact ⟨hin, good_of_word rfl⟩
        · exact hGw w hw
      have hrecv : a ≠ 7000 ∧ ∃ cell : Cell, H[ad a]? = some cell ∧ cell.vm.isStatics = false ∧ s.vm.findClass (am_nm t').cls = some cell.cls := by
        split at hrv
        · rename_i ci fs hLL
          have hci := Nat.eq_of_beq_eq_true hrv
          obtain ⟨r, h1, h2, -, -⟩ := am_LL_at hLL
          have hlt := am_lt hLL
          refine ⟨by omega, ?_⟩
          have he : (am_wd cI ad M)[a]? = some (ad a, .inr (ci, fs.mapIdx fun j f => am_fw ad M a j f)) := by rw [am_wd_get, hLL]; rfl
          have := va_recv hK hR.1 h1 he
          rw [hcn, ← hci, ← am_cl_cn h1]
          exact this
        · simp only [Bool.and_eq_true] at hrv
          have ho := Nat.eq_of_beq_eq_true hrv.1.1
          have ha1 : 6000 ≤ a := Nat.le_of_ble_eq_true hrv.1.2
          have ha2 : a < 6009 := Nat.le_of_ble_eq_true hrv.2
          refine ⟨by omega, ?_⟩
          obtain ⟨j, rfl⟩ : ∃ j, a = 6000 + j := ⟨a - 6000, by omega⟩
          obtain ⟨cell, g1, g2, g3, -⟩ := (hZ.1 j (by omega)).1.kept hR.2.2.1.2.1
          exact ⟨cell, g1, g2, by rw [hcn, ho]; exact g3⟩
      have hst : st.map (am_tv ad z) = (As.map (am_tv ad z)).reverse ++ .ref (ad a) :: rest.map (am_tv ad z) := by
        rw [a4, List.map_append, List.reverse_cons, List.map_append, List.map_reverse, List.append_assoc]
        rw [List.map_cons, List.map_nil, am_tv_ref hrecv.1]
        rfl
      have hpre' : ∀ U : State, U.heap = H → s.WarmedH U.vm → am_pc D cI ad z L xs M (.ref a :: As) H.size (Value.ref (ad a) :: As.map (am_tv ad z)).toArray U := fun U hU hW => by
        have := hpre U hU hW
        rw [List.map_cons, am_tv_ref hrecv.1] at this
        exact this
      refine am_back (va_runV (As := As.map (am_tv ad z)) (rest := rest.map (am_tv ad z)) ⟨hx, hb, hml, hown, hts⟩ hMet (cwV _ hts hG rfl rfl rfl ⟨rfl, hMH.1, hMH.2, hn1⟩ hRm) ⟨am_pc_blind _ _ _ _ _ _ _ _ _, hrecv.2, hpre'⟩ rfl rfl hsz hst hwr hd ⟨hcs.1, hcs.2⟩) hR.2.2.1 hF hF hend
  | invokestatic k2 =>
    cases a2
    have hkd : q.2.1 ≠ 0 := by
      unfold am_cokI at hcI
      dsimp only at hcI
      rw [b1] at hcI
      have := Nat.eq_of_beq_eq_true hcI
      omega
    obtain ⟨w1, w3⟩ := b6 hkd
    have hn1 : (parseMethodDescriptor (am_nm t').desc).map (fun d => d.parameters.length) = some (av.map (am_tv ad z)).length := by
      rw [w3, List.length_map, hlen]
    have hG : GoodIn am_tbl (va_wsS (am_cn (am_ow t)) k (am_nm t') (am_ws t')) := fun w hw => by
      unfold va_wsS at hw
      rcases List.mem_append.mp hw with hw | hw
      · simp only [List.mem_cons, List.not_mem_nil, or_false] at hw
        rcases hw with rfl | rfl | rfl
        · exact ⟨b4, good_of_word rfl⟩
        · exact ⟨w1, good_of_word rfl⟩
        · exact ⟨hin, good_of_word rfl⟩
      · exact hGw w hw
    have hst : st.map (am_tv ad z) = (av.map (am_tv ad z)).reverse ++ rest.map (am_tv ad z) := by
      rw [a4, List.map_append, List.map_reverse]
    refine am_back (va_runS (As := av.map (am_tv ad z)) (rest := rest.map (am_tv ad z)) ⟨hx, hb, hml, hown, hts⟩ hMet (va_cwS _ hts hG rfl rfl rfl ⟨hMH.1, hMH.2, hn1⟩ hRm) ⟨am_pc_blind _ _ _ _ _ _ _ _ _, hpre⟩ rfl rfl hsz hst hwr hd ⟨hcs.1, hcs.2⟩) hR.2.2.1 hF hF hend
  | _ => cases a2
theorem am_cp_W (E : am_E p s m args c t D cI ad z A L xs) (hrok : am_rok t = true) (hdok : am_dok (am_by t) (am_cd t) = true) (hRf : am_fr t ≤ R.frames) (hRl : am_lo t ≤ R.locals) (hcs : cells ≤ R.cells ∧ slots ≤ R.slots)
    {c0 c1 : am_C} (h : am_oth t c0 c1)
    {H : Heap} {locs : List Loc} {LS : Array Slot} (hR : am_R D cI ad z A L xs s (am_mL t) H locs LS c0.2.1 c0.2.2.2)
    (kk : ∀ (H' : Heap) (locs' : List Loc) (LS' : Array Slot), am_R D cI ad z A L xs s (am_mL t) H' locs' LS' c1.2.1 c1.2.2.2 → W p l e R s m args below meth c H' locs' cells slots Q (F0 m c1.1 LS' (c1.2.2.1.map (am_tv ad z)))) :
    W p l e R s m args below meth c H locs cells slots Q (F0 m c0.1 LS (c0.2.2.1.map (am_tv ad z))) := by
  obtain ⟨hx, hb, hml, hown, hts, hK, hZ, hA⟩ := E
  have hz := hZ.2.2.2.1
  obtain ⟨pc, ls, st, M⟩ := c0
  have room : ∀ k, am_as (am_cd t) pc = some (.invokestatic k, 3) → decode (am_by t) pc = .ok (.invokestatic k, 3) ∧ (am_ac (am_ow t) k = true → 1 ≤ am_fr t ∧ 18 ≤ am_lo t) ∧ (am_mnl (am_ow t) k = true → 1 ≤ am_fr t ∧ 21 ≤ am_lo t) := by
    intro k a1
    have hmem := am_as_mem a1
    have hde := (List.all_eq_true.mp hdok) _ hmem
    rw [Bool.and_eq_true, Bool.and_eq_true] at hde
    have hd := of_decide_eq_true hde.1.1
    have hro := (List.all_eq_true.mp hrok) _ hmem
    unfold am_iv at hro
    dsimp only at hro
    simp only [Bool.and_eq_true] at hro
    refine ⟨hd, fun q => ?_, fun q => ?_⟩
    · have := hro.1.2
      rw [q] at this
      simp only [Bool.not_true, Bool.false_or, Bool.and_eq_true] at this
      exact ⟨Nat.le_of_ble_eq_true this.1, Nat.le_of_ble_eq_true this.2⟩
    · have := hro.2
      rw [q] at this
      simp only [Bool.not_true, Bool.false_or, Bool.and_eq_true] at this
      exact ⟨Nat.le_of_ble_eq_true this.1, Nat.le_of_ble_eq_true this.2⟩
  rcases h with h | h | h
  · obtain ⟨k, a0, a, n0, n1, sp, dp, n, a1, a2, a3, a4, a5, h1, h2, h3, h4, h5, h6⟩ := h
    subst h6
    dsimp only at a1 a3 hR kk ⊢
    subst a3
    obtain ⟨hd, hrq, -⟩ := room k a1
    obtain ⟨hr1, hr2⟩ := hrq a2
    clear hrq
    have hL0 := am_al_get a4
    have hL1 := am_al_get a5
    have hlt0 := am_lt hL0
    have hlt1 := am_lt hL1
    have he0 : (am_wd cI ad M)[a0]? = some (ad a0, .inl (cI.1, n0, .inl (M a0))) := am_wd_int a4
    have he1 : (am_wd cI ad M)[a]? = some (ad a, .inl (cI.1, n1, .inl (M a))) := am_wd_int a5
    have hac : am_ow t = 6 ∧ k = 25 := by
      unfold am_ac at a2
      rw [Bool.and_eq_true] at a2
      exact ⟨Nat.eq_of_beq_eq_true a2.1, Nat.eq_of_beq_eq_true a2.2⟩
    obtain ⟨ho, rfl⟩ := hac
    rw [ho] at hown
    have hoff : ∀ b, b ≠ a → am_cpm M a0 a sp.toNatClampNeg dp.toNatClampNeg n.toNatClampNeg b = M b := fun b hb => by
      funext j
      unfold am_cpm
      rw [if_neg hb]
    have hset : (am_wd cI ad M).set a (ad a, .inl (cI.1, n1, .inl (va_cpy (M a0) (M a) sp.toNatClampNeg dp.toNatClampNeg n.toNatClampNeg))) = am_wd cI ad (am_cpm M a0 a sp.toNatClampNeg dp.toNatClampNeg n.toNatClampNeg) := am_wd_set hL1 hoff (by
      rw [am_ce_int a5]
      rw [show am_cpm M a0 a sp.toNatClampNeg dp.toNatClampNeg n.toNatClampNeg a = va_cpy (M a0) (M a) sp.toNatClampNeg dp.toNatClampNeg n.toNatClampNeg from by funext j; simp [am_cpm]])
    have e9 : List.map (am_tv ad z) [.int n, .int dp, .ref a, .int sp, .ref a0] = [.int n, .int dp, .ref (ad a), .int sp, .ref (ad a0)] := by
      simp only [List.map_cons, List.map_nil]
      rw [am_tv_ref (by omega), am_tv_ref (by omega)]
      rfl
    rw [e9]
    refine va_copyi (Q := Q) (ty := .int) hx hb (hml.trans hR.2.2.2.1.2.1.symm) hown (hts _ am_wac1) (hts _ am_wac2) (hts _ am_wac3) (hts _ am_wac4) hK hR.1 hR.2.1 hR.2.2.1 a0 a 0 0 he0 he1 rfl rfl rfl h1 h2 h3 h4 h5 (fun _ _ => rfl) (Nat.le_trans hr1 hRf) (Nat.le_trans (show 18 ≤ am_lo t from hr2) hRl) hd (fun H1 locs1 hP hD hS => ?_)
    rw [hset] at hP hD
    exact kk _ _ _ ⟨hP, hD, hS, hR.2.2.2.1, fun i hi => by rw [hoff _ (by omega)]; exact hR.2.2.2.2.1 i hi, by rw [hoff _ (by omega)]; exact hR.2.2.2.2.2⟩
  · obtain ⟨k, x, y, st0, a1, a2, a3, a4, h6⟩ := h
    subst h6
    dsimp only at a1 a3 hR kk ⊢
    subst a3
    obtain ⟨hd, -, hrq⟩ := room k a1
    obtain ⟨hr1, hr2⟩ := hrq a2
    clear hrq
    have hw : Cond.methodLink (am_cn (am_ow t)) k Lib.Math.min.name ∈ am_tbl := by
      unfold am_mnl at a2
      rw [Bool.or_eq_true, Bool.and_eq_true, Bool.and_eq_true] at a2
      rcases a2 with ⟨h1, h2⟩ | ⟨h1, h2⟩
      · rw [Nat.eq_of_beq_eq_true h1, Nat.eq_of_beq_eq_true h2]; exact am_wmn2
      · rw [Nat.eq_of_beq_eq_true h1, Nat.eq_of_beq_eq_true h2]; exact am_wmn1
    refine va_mmin (Q := Q) hx hb (hml.trans hR.2.2.2.1.2.1.symm) hown (hts _ hw) (hts _ am_wmn3) (hts _ am_wmn4) (hts _ am_wmn5) (Nat.le_trans hr1 hRf) (by
      have := am_cw_tv (ad := ad) hz st0
      unfold am_cw at this
      rw [this]
      omega) hcs.1 hcs.2 hd (kk _ _ _ hR)
  · obtain ⟨ls', h1, h2, h3⟩ := h
    subst h3
    dsimp only at h1 h2 hR kk ⊢
    refine kk _ _ _ ⟨hR.1, hR.2.1, hR.2.2.1, ⟨h1.trans hR.2.2.2.1.1, lv_mono hR.2.2.2.1.2 fun q hq => ?_⟩, hR.2.2.2.2⟩
    obtain ⟨v, g1, g2, g3⟩ := am_asc_mem.mp hq
    rcases h2 _ _ g1 with g4 | g4
    · exact absurd g4 g2
    · exact am_asc_mem.mpr ⟨v, g4, g2, g3⟩
theorem am_go_W (E : am_E p s m args c t D cI ad z A L xs) (hrok : am_rok t = true) (hcokI : (am_cd t).all (am_cokI (am_ow t)) = true) (hdok : am_dok (am_by t) (am_cd t) = true) (hRf : am_fr t ≤ R.frames) (hRl : am_lo t ≤ R.locals) (hcs : cells ≤ R.cells ∧ slots ≤ R.slots)
    {d : Nat} (IH : ∀ (t' : am_T), am_good t' → ∀ (av : List Value) (M : am_M) (rv : Option Value) (M' : am_M), am_run d t' av M rv M' → am_Mt l t' av M rv M')
    (har : ∀ (t' : am_T) (av : List Value) (M : am_M) (rv : Option Value) (M' : am_M), am_run d t' av M rv M' → av.length = am_ar t') : ∀ (k : Nat) (c0 c1 : am_C), am_go (am_run d) t k c0 c1 →
    ∀ {H : Heap} {locs : List Loc} {LS : Array Slot}, am_R D cI ad z A L xs s (am_mL t) H locs LS c0.2.1 c0.2.2.2 →
    (∀ (H' : Heap) (locs' : List Loc) (LS' : Array Slot), am_R D cI ad z A L xs s (am_mL t) H' locs' LS' c1.2.1 c1.2.2.2 → W p l e R s m args below meth c H' locs' cells slots Q (F0 m c1.1 LS' (c1.2.2.1.map (am_tv ad z)))) →
    W p l e R s m args below meth c H locs cells slots Q (F0 m c0.1 LS (c0.2.2.1.map (am_tv ad z))) := by
  intro k
  induction k with
  | zero =>
    intro c0 c1 h H locs LS hR kk
    cases h
    exact kk _ _ _ hR
  | succ k ih =>
    intro c0 c1 h H locs LS hR kk
    obtain ⟨c2, h1, h2⟩ := h
    rcases h1 with h1 | h1 | h1
    · unfold am_step at h1
      split at h1
      · rename_i i n ha
        have hde := (List.all_eq_true.mp hdok) _ (am_as_mem ha)
        rw [Bool.and_eq_true, Bool.and_eq_true] at hde
        exact am_ex_W E (of_decide_eq_true hde.1.1) hde.1.2 hde.2 h1 hR (fun H' locs' LS' hR' => ih c2 c1 h2 hR' kk)
      · cases h1
    · exact am_cp_W E hrok hdok hRf hRl hcs h1 hR (fun H' locs' LS' hR' => ih c2 c1 h2 hR' kk)
    · exact am_cal_W E hrok hcokI hdok hRf hRl hcs IH har h1 hR (fun H' locs' LS' hR' => ih c2 c1 h2 hR' kk)
end AMB
theorem am_run_ar {d : Nat} {t : am_T} {av : List Value} {M : am_M} {rv : Option Value} {M' : am_M} (h : am_run d t av M rv M') : av.length = am_ar t := by
  cases d with
  | zero => exact h.elim
  | succ d => exact h.1.2
/-- every method that the abstract machine runs, the machine runs so -/
theorem am_sound (l : Launch) : ∀ (d : Nat) (t : am_T), am_good t → ∀ (av : List Value) (M : am_M) (rv : Option Value) (M' : am_M), am_run d t av M rv M' → am_Mt l t av M rv M' := by
  intro d
  induction d with
  | zero => intro t _ av M rv M' h; exact h.elim
  | succ d IH =>
    intro t hgd av M rv M' hrun D cI ad z L xs sz
    obtain ⟨⟨hlen, har⟩, k, c', hgo, hret, rfl⟩ := hrun
    obtain ⟨p1, p2, hPd, ⟨hPr, hPc⟩, hPn, hPw⟩ := am_good_P hgd
    unfold am_nok at hPn
    simp only [Bool.and_eq_true] at hPn
    have hcn := of_decide_eq_true hPn.2
    dsimp only at hPd hPr hPc hcn
    refine Met.ofW (cc := am_by t) (maxL := am_mL t) (ret := am_rt t) hPn.1.1.1 rfl ?_
    intro p e s m args below meth c s₁ B hml hv
    obtain ⟨rfl, hsz, ⟨hP, hK, hD0, hs1, hs2⟩, hZ⟩ := hv
    have hx := B.exec
    have hb := B.bytes
    have hr := B.returns
    have hts0 := atoms_spec (ws := am_ws t) B.pre
    have hts : ∀ w ∈ am_tbl, w.before (av.map (am_tv ad z)).toArray s = true := fun w hw => hts0 w (List.mem_cons_of_mem _ hw)
    have hown : s.vm.findClass (am_cn (am_ow t)) = some m.cls := by
      rw [← hcn]
      exact findClass_of_methodNamed B.named
    have hlocks := B.notSynchronized
    subst hsz
    have hD := hD0.self (sz := s.heap.size)
    have hA : ∀ q : Nat, s.heap.size ≤ q → va_A (am_wd cI ad M) s.heap.size q := fun q h => Or.inr h
    have hS : va_S (va_A (am_wd cI ad M) s.heap.size) s.heap s.heap [] := va_S.rf
    have hz := hZ.2.2.2.1
    rw [lg_entry_eq]
    have hl := am_lv_ent (n := am_mL t) (av := av) (ad := ad) hz hlen
    have E : am_E p s m (av.map (am_tv ad z)).toArray c t D cI ad z (va_A (am_wd cI ad M) s.heap.size) L xs := ⟨hx, hb, hml, hown, hts, hK, hZ, hA⟩
    generalize va_A (am_wd cI ad M) s.heap.size = A at *
    refine am_go_W (c0 := (0, am_ent (am_mL t) av, [], M)) (c1 := c') E hPr hPc hPd (Nat.le_refl _) (Nat.le_refl _) ⟨Nat.le_refl _, Nat.le_refl _⟩ IH (fun _ _ _ _ _ => am_run_ar) k hgo ⟨hP, hD, hS, hl, hs1, hs2⟩ (fun H' locs' LS' hR => ?_)
    obtain ⟨pc', ls', st', M'⟩ := c'
    have hdec : ∀ i n, am_as (am_cd t) pc' = some (i, n) → decode (am_by t) pc' = .ok (i, n) := fun i n h => by
      have hde := (List.all_eq_true.mp hPd) _ (am_as_mem h)
      rw [Bool.and_eq_true, Bool.and_eq_true] at hde
      exact of_decide_eq_true hde.1.1
    have hq : ∀ (v : Option Value) (u : State), v = rv.map (am_tv ad z) → u.heap = H' → s.WarmedH u.vm → am_qc D cI ad z L xs rv M' A (av.map (am_tv ad z)).toArray s (.returned v) u := fun v u hv hu hW =>
      ⟨by rw [hv], ⟨by rw [hu]; exact hR.1, va_K.moved hW.alike hK, hR.2.1, hR.2.2.2.2⟩, hR.2.2.1.F hu⟩
    unfold am_ret at hret
    split at hret
    · obtain ⟨h1, h2, h3⟩ := hret
      dsimp only at h1 h2 ⊢
      subst h2
      exact W.vret hx hb (by rw [hr, h3]) (fun u hu hW => hq none u rfl hu hW) hR.2.2.1.2.2 (hdec _ _ h1)
    · rename_i x
      obtain ⟨h1, h2, ty, h3, h4⟩ := hret
      dsimp only at h1 h2 ⊢
      subst h2
      exact W.zret hx hb (by rw [hr, h3]) h4 (fun u hu hW => hq (some (.int x)) u rfl hu hW) hR.2.2.1.2.2 (hdec _ _ h1)
    · rename_i x
      obtain ⟨h1, h2, h3⟩ := hret
      dsimp only at h1 h2 ⊢
      subst h2
      exact W.lret hx hb (by rw [hr, h3]) (fun u hu hW => hq (some (.long x)) u rfl hu hW) hR.2.2.1.2.2 (hdec _ _ h1)
    · exact hret.2.2.elim
    · exact hret.elim
