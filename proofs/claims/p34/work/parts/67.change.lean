/-! the calls that change, for a book -/
/-- the text is this list -/
def TXL (M : am_M) (l : List Int) : Prop := (iv M 2 1 = l.length ∧ l.length ≤ 120) ∧ ∀ (i : Nat) (x : Int), l[i]? = some x → iv M 3 i = x ∧ 0 ≤ x ∧ x ≤ 127
theorem TXL_rows {M M' : am_M} {l : List Int} (h : TXL M l) (h2 : M' 2 = M 2) (h3 : M' 3 = M 3) : TXL M' l := by
  unfold TXL
  rw [iv_row h2, iv_row h3]
  exact h
theorem sp_k_type {M : am_M} {l : List Int} {x : Int} (t : TXL M l) (x0 : 0 ≤ x) (x1 : x ≤ 127) (hl : l.length < 120) : ∃ M', am_call t_SB_type [.ref 0, .int (zi x)] M (some (.int (zi ((l.length : Int) + 1)))) M' ∧ TXL M' (l ++ [x]) ∧ ∀ a, ¬ a = 2 → ¬ a = 3 → M' a = M a := by
  obtain ⟨⟨t1, t2⟩, t3⟩ := t
  obtain ⟨n, hn⟩ : ∃ n : Int, n = l.length := ⟨_, rfl⟩
  have xz : zr x := ⟨by omega, by omega⟩
  rw [← hn] at t1 ⊢
  have ca : am_call t_Pag_append [.ref 2, .int (zi x)] M none (zup (zup M 3 n x) 2 1 (n + 1)) := by
    refine am_call_of ⟨Nat.le_of_ble_eq_true rfl, rfl⟩ (vc_p2_append x M _ ?_)
    rw [t1]
    refine ⟨fun q => by omega, fun _ => ⟨fun _ => ⟨⟨by omega, by omega⟩, fun M2 e2 M4 e4 => ⟨rfl, ?_⟩⟩, fun q => by omega⟩⟩
    have : iv M2 2 1 = n := by rw [e2, ivr _ (by decide), t1]
    rw [e4, this, e2]
  obtain ⟨M1, eM1⟩ : ∃ M1, M1 = zup (zup M 3 n x) 2 1 (n + 1) := ⟨_, rfl⟩
  rw [← eM1] at ca
  have k1 : iv M1 2 1 = n + 1 := by rw [eM1, ivs _ _ (by decide) (by decide) ⟨by omega, by omega⟩, if_pos rfl]
  have k3 : ∀ j, 0 ≤ j → iv M1 3 j = if j = n then x else iv M 3 j := fun j j0 => by rw [eM1, ivr _ (by decide), ivs _ _ (by omega) j0 xz]
  refine ⟨M1, am_call_of ⟨Nat.le_of_ble_eq_true rfl, rfl⟩ (vc_c_type x M _ ⟨⟨xz, by decide⟩, fun _ => ⟨_, M, sp_p2_kept (by omega), iv_r _ _ _, fun _ => ⟨M1, ca, _, M1, sp_p2_kept (by omega), by rw [k1], rfl⟩, fun q => by omega⟩, fun q => absurd ⟨x0, x1⟩ q⟩), ⟨⟨by rw [k1, List.length_append, hn]; rfl, by rw [List.length_append]; exact hl⟩, fun i y hi => ?_⟩, fun a a2 a3 => by rw [eM1, zupr _ a2, zupr _ a3]⟩
  rw [k3 _ (by omega)]
  by_cases q : i < l.length
  · rw [List.getElem?_append_left q] at hi
    rw [if_neg (by omega)]
    exact t3 i y hi
  · rw [List.getElem?_append_right (by omega)] at hi
    have hb := (List.getElem?_eq_some_iff.mp hi).1
    simp only [List.length_cons, List.length_nil] at hb
    rw [show i - l.length = 0 by omega] at hi
    cases hi
    rw [if_pos (by omega)]
    exact ⟨rfl, x0, x1⟩
def ARQ (M : am_M) : Prop := (0 ≤ iv M 12 1 ∧ iv M 12 1 ≤ 10) ∧ (0 ≤ iv M 12 2 ∧ iv M 12 2 ≤ 9)
theorem ARQ_rows {M M' : am_M} (h : ARQ M) (h1 : M' 12 = M 12) : ARQ M' := by
  unfold ARQ
  rw [iv_row h1]
  exact h
theorem k_push {M : am_M} (h : ARQ M) : ∃ M', am_call t_Arc_push [.ref 12, .ref 9] M none M' ∧ (∀ a, ¬ a = 12 → ¬ a = 14 → M' a = M a) ∧ ARQ M' := by
  obtain ⟨M', p1, p2, p3, p4, p5, p6⟩ := sp_push h.1 h.2
  have h1 := h.1
  exact ⟨M', p1, p2, ⟨by omega, by omega⟩, ⟨by omega, by omega⟩⟩
section KC
variable {b : Int → Int} {M : am_M}
theorem sp_k_commence (s : BKr (iv M 11) b) (q : ARQ M) {a d : Int} (a0 : 0 ≤ a) (a1 : a < b 0) (hd : 0 ≤ d ∧ d ≤ 9999) : ∃ M', am_call t_SB_commence [.ref 0, .int (zi a), .int (zi d)] M (some (.int (zi (b (1 + a))))) M' ∧ BKr (iv M' 11) (fu b (1 + a) d) ∧ ARQ M' ∧ ∀ x, ¬ x = 11 → ¬ x = 12 → ¬ x = 14 → M' x = M x := by
  have w := s.1
  have cb := s.2
  have w1 := w.n1
  have dz : zr d := ⟨by omega, by omega⟩
  obtain ⟨M1, p1, p2, p3⟩ := k_push q
  have r11 : M1 11 = M 11 := p2 11 (by decide) (by decide)
  refine ⟨zup M1 11 (4 + a) d, am_call_of ⟨Nat.le_of_ble_eq_true rfl, rfl⟩ (vc_c_commence a d M _ ⟨⟨by omega, by omega⟩, fun _ => ⟨⟨dz, by decide⟩, fun _ => ⟨⟨a0, by omega⟩, M1, p1, ⟨a0, by omega⟩, fun Mx ex => ⟨by rw [cb.1.2.2.2.1 a a0 a1], ex⟩⟩, fun z => absurd hd z⟩, fun z => absurd (by rw [cb.1.1]; exact ⟨a0, a1⟩) z⟩), BK_day s a0 a1 hd (fun j j0 => ?_), ARQ_rows p3 (zupr _ (by decide)), fun x h1 h2 h3 => by rw [zupr _ h1, p2 x h2 h3]⟩
  rw [ivs _ _ (by omega) j0 dz, iv_row r11]
theorem sp_k_revoke_no (s : BKr (iv M 11) b) {a on : Int} (a0 : 0 ≤ a) (a1 : a < b 0) (ho : on = 0 ∨ on = 1) (same : b (21 + a) = on) : am_call t_SB_revoke [.ref 0, .int (zi a), .int (zi on)] M (some (.int (zi (-3)))) M := by
  have w := s.1
  have cb := s.2
  have w1 := w.n1
  have oz : zr on := by rcases ho with e | e <;> (rw [e]; decide)
  have rv := w.rev a a0 a1
  have bit := cb.2.2 a a0 (by omega)
  rw [if_pos a1] at bit
  refine am_call_of ⟨Nat.le_of_ble_eq_true rfl, rfl⟩ (vc_c_revoke a on M _ ⟨⟨by omega, by omega⟩, fun _ => ?_, fun z => absurd (by rw [cb.1.1]; exact ⟨a0, a1⟩) z⟩)
  rw [bit]
  exact ⟨fun q => ⟨oz, fun _ => ⟨rfl, rfl⟩, fun q2 => by omega⟩, fun q => ⟨oz, fun _ => ⟨rfl, rfl⟩, fun q2 => by omega⟩⟩
theorem sp_k_revoke (s : BKr (iv M 11) b) (q : ARQ M) {a on : Int} (a0 : 0 ≤ a) (a1 : a < b 0) (ho : on = 0 ∨ on = 1) (same : ¬ b (21 + a) = on) : ∃ M', am_call t_SB_revoke [.ref 0, .int (zi a), .int (zi on)] M (some (.int (zi 1))) M' ∧ BKr (iv M' 11) (fu b (21 + a) on) ∧ ARQ M' ∧ ∀ x, ¬ x = 11 → ¬ x = 12 → ¬ x = 14 → M' x = M x := by
  have w := s.1
  have cb := s.2
  have w1 := w.n1
  have oz : zr on := by rcases ho with e | e <;> (rw [e]; decide)
  have rv := w.rev a a0 a1
  have bit := cb.2.2 a a0 (by omega)
  rw [if_pos a1] at bit
  obtain ⟨M1, p1, p2, p3⟩ := k_push q
  have r11 : M1 11 = M 11 := p2 11 (by decide) (by decide)
  obtain ⟨c3, e3⟩ : ∃ c3, c3 = zxor (iv M1 11 3) (zshl 1 a) := ⟨_, rfl⟩
  have c3z : zr c3 := by rw [e3]; exact zr_toInt _
  have v3 : iv (zup M1 11 3 c3) 11 3 = c3 := by rw [ivs _ _ (by decide) (by decide) c3z, if_pos rfl]
  refine ⟨zup M1 11 3 c3, am_call_of ⟨Nat.le_of_ble_eq_true rfl, rfl⟩ (vc_c_revoke a on M _ ⟨⟨by omega, by omega⟩, fun _ => ?_, fun z => absurd (by rw [cb.1.1]; exact ⟨a0, a1⟩) z⟩), BK_rev s a0 a1 ho (fun j j0 hj => ?_) ?_ (fun x x0 x1 => ?_), ARQ_rows p3 (zupr _ (by decide)), fun x h1 h2 h3 => by rw [zupr _ h1, p2 x h2 h3]⟩
  · rw [bit]
    exact ⟨fun q => ⟨oz, fun q2 => by omega, fun _ => ⟨M1, p1, fun Mx ex => ⟨rfl, by rw [ex, e3]⟩⟩⟩, fun q => ⟨oz, fun q2 => by omega, fun _ => ⟨M1, p1, fun Mx ex => ⟨rfl, by rw [ex, e3]⟩⟩⟩⟩
  · rw [ivs _ _ (by decide) j0 c3z, if_neg hj, iv_row r11]
  · rw [v3, e3, iv_row r11]
    exact xor_rg (t := 0) cb.2.1.1 cb.2.1.2 a0 (by omega)
  · rw [v3, e3, iv_row r11, zb_xor, zb_1 a0 (by omega) x0 (by omega)]
    by_cases e : x = a
    · rw [if_pos e, e, cbr_b w cb a0 a1, decide_eq_true (p := a = a) rfl]
      rcases rv with r | r <;> rcases ho with h | h
      · omega
      · rw [r, h]; rfl
      · rw [r, h]; rfl
      · omega
    · rw [if_neg e, decide_eq_false e, Bool.xor_false]
theorem sp_k_count4 (s : BKr (iv M 11) b) {l : List Int} (t : TXL M l) : ∃ M', am_call t_SB_count [.ref 0, .int (zi 4)] M (some (.int (zi (l.length : Int)))) M' ∧ CQ M M' := by
  obtain ⟨M4, h4, fr, r4, od⟩ := sp_c_consolidateFully M s.1 s.2
  have cq := CQ_15 fr
  have e2 : iv M4 2 1 = l.length := by rw [iv_row (cq 2 (by decide)), t.1.1]
  have tl := t.1.2
  refine ⟨M4, am_call_of ⟨Nat.le_of_ble_eq_true rfl, rfl⟩ (vc_c_count 4 M _ ⟨⟨by decide, by decide⟩, fun _ => ⟨M4, h4, _, M4, am_call_of ⟨Nat.le_of_ble_eq_true rfl, rfl⟩ (vc_countPart 4 M4 _ ⟨by decide, fun h => by omega, fun h => by omega, fun h => by omega, fun h => by omega, fun _ => ⟨_, M4, sp_p2_kept (by omega), by rw [e2], rfl⟩, fun h => by omega, fun h => by omega, fun h => by omega, fun _ _ _ _ h => absurd rfl h⟩), rfl, rfl⟩, fun z => absurd ⟨by decide, by decide⟩ z⟩), cq⟩
theorem sp_k_count1 (s : BKr (iv M 11) b) : ∃ M', am_call t_SB_count [.ref 0, .int (zi 1)] M (some (.int (zi (nops b)))) M' ∧ CQ M M' := by
  obtain ⟨M4, h4, fr, r4, od⟩ := sp_c_consolidateFully M s.1 s.2
  have cq := CQ_15 fr
  have e1 : iv M4 11 1 = nops b := by rw [iv_row (cq 11 (by decide)), s.2.1.2.1]
  refine ⟨M4, am_call_of ⟨Nat.le_of_ble_eq_true rfl, rfl⟩ (vc_c_count 1 M _ ⟨⟨by decide, by decide⟩, fun _ => ⟨M4, h4, _, M4, am_call_of ⟨Nat.le_of_ble_eq_true rfl, rfl⟩ (vc_countPart 1 M4 _ ⟨by decide, fun h => by omega, fun _ => ⟨by rw [e1], rfl⟩, fun h => by omega, fun h => by omega, fun h => by omega, fun h => by omega, fun h => by omega, fun h => by omega, fun _ h => absurd rfl h⟩), rfl, rfl⟩, fun z => absurd ⟨by decide, by decide⟩ z⟩), cq⟩
theorem sp_k_count0 (s : BKr (iv M 11) b) : ∃ M', am_call t_SB_count [.ref 0, .int (zi 0)] M (some (.int (zi (b 0)))) M' ∧ CQ M M' := by
  obtain ⟨M4, h4, fr, r4, od⟩ := sp_c_consolidateFully M s.1 s.2
  have cq := CQ_15 fr
  have e1 : iv M4 11 0 = b 0 := by rw [iv_row (cq 11 (by decide)), s.2.1.1]
  refine ⟨M4, am_call_of ⟨Nat.le_of_ble_eq_true rfl, rfl⟩ (vc_c_count 0 M _ ⟨⟨by decide, by decide⟩, fun _ => ⟨M4, h4, _, M4, am_call_of ⟨Nat.le_of_ble_eq_true rfl, rfl⟩ (vc_countPart 0 M4 _ ⟨by decide, fun _ => ⟨by rw [e1], rfl⟩, fun h => by omega, fun h => by omega, fun h => by omega, fun h => by omega, fun h => by omega, fun h => by omega, fun h => by omega, fun h => absurd rfl h⟩), rfl, rfl⟩, fun z => absurd ⟨by decide, by decide⟩ z⟩), cq⟩
/-! an amendment more -/
/-- the book with an amendment of N operations G on the day d -/
def addb (b G : Int → Int) (N d : Int) : Int → Int := fun j => if j = 0 then b 0 + 1 else if j = 1 + b 0 then d else if j = 21 + b 0 then 0 else if j = 41 + b 0 then N else if 61 + 12 * nops b ≤ j ∧ j < 61 + 12 * (nops b + N) then G (j - (61 + 12 * nops b)) else b j
theorem addb_is {b G : Int → Int} {N d : Int} (w : WB b) (hn : b 0 < 20) : ADB b G N d (addb b G N d) := by
  have w0 := w.n0
  have nn : 0 ≤ nops b := w.fo_nn (n := b 0) (Int.le_refl _)
  refine ⟨if_pos rfl, fun a a0 a1 => ?_, fun a a0 a1 => ?_, fun a a0 a1 => ?_, fun o x o0 o1 x0 x1 => ?_, fun i x i0 i1 x0 x1 => ?_⟩
  · unfold addb
    rw [if_neg (by omega)]
    by_cases q : a = b 0
    · rw [if_pos (by omega), if_pos q]
    · rw [if_neg (by omega), if_neg (by omega), if_neg (by omega), if_neg (by omega), if_neg q]
  · unfold addb
    rw [if_neg (by omega), if_neg (by omega)]
    by_cases q : a = b 0
    · rw [if_pos (by omega), if_pos q]
    · rw [if_neg (by omega), if_neg (by omega), if_neg (by omega), if_neg q]
  · unfold addb
    rw [if_neg (by omega), if_neg (by omega), if_neg (by omega)]
    by_cases q : a = b 0
    · rw [if_pos (by omega), if_pos q]
    · rw [if_neg (by omega), if_neg (by omega), if_neg q]
  · unfold pt addb
    rw [if_neg (by omega), if_neg (by omega), if_neg (by omega), if_neg (by omega), if_neg (by omega)]
  · unfold pt addb
    rw [if_neg (by omega), if_neg (by omega), if_neg (by omega), if_neg (by omega), if_pos (by omega)]
    congr 1
    omega
theorem sp_k_addDraft (s : BKr (iv M 11) b) (q : ARQ M) {N d : Int} (eN : iv M 4 1 = N) (N0 : 1 ≤ N) (N1 : N ≤ 40) (dd : 0 ≤ d ∧ d ≤ 9999) (eI : iv M 4 2 = nin (iv M 6) N) (h : b 0 < 20 ∧ nops b + N ≤ 120 ∧ ia b (nops b) + nin (iv M 6) N ≤ 40) : ∃ Ma, am_call t_SB_addDraft [.ref 0, .int (zi d)] M (some (.int (zi (b 0)))) Ma ∧ (∀ a, ¬ a = 11 → ¬ a = 12 → ¬ a = 14 → Ma a = M a) ∧ ARQ Ma ∧
    ∀ G, (∀ i, 0 ≤ i → i < N → DO (fun w => iv M 6 (i * 13 + w)) (fun w => G (12 * i + w))) → (∀ i, 0 ≤ i → i < N → WO (fun w => G (12 * i + w))) → BKr (iv Ma 11) (addb b G N d) := by
  have w := s.1
  have cb := s.2.1
  have tt := w.tot
  have ii := w.ins
  have iz := ia_nn b (nops b)
  have nn : 0 ≤ nops b := w.fo_nn (n := b 0) (Int.le_refl _)
  have w0 := w.n0
  have c0 := cb.1
  have c1 := cb.2.1
  have c2 := cb.2.2.1
  have nr := nin_r' (iv M 6) (i := N) (by omega)
  obtain ⟨M1, p1, p2, p3⟩ := k_push q
  have e11 : iv M1 11 = iv M 11 := iv_row (p2 11 (by decide) (by decide))
  have e6 : iv M1 6 = iv M 6 := iv_row (p2 6 (by decide) (by decide))
  obtain ⟨Ma, a1, a2, a3⟩ := sp_add (M := M1) (N := N) (d := d) (by rw [iv_row (p2 4 (by decide) (by decide)), eN]) N0 N1 ⟨by omega, by omega⟩ (by rw [e11]; omega) (by rw [e11]; omega) (by rw [e11]; omega)
  rw [e11, e6] at a3
  refine ⟨Ma, am_call_of ⟨Nat.le_of_ble_eq_true rfl, rfl⟩ (vc_addDraft d M _ ⟨⟨⟨by omega, by omega⟩, ⟨by omega, by omega⟩⟩, fun _ => ⟨M1, p1, Ma, a1, ?_, rfl⟩, fun z => absurd (by rw [eN, c0, c1, c2, eI]; exact h) z⟩), fun a x1 x2 x3 => by rw [a2 a x1, p2 a x2 x3], ARQ_rows p3 (a2 12 (by decide)), fun G hd hw => bk_add s a3 (addb_is w h.1) h.1 N0 N1 h.2.1 h.2.2 dd hd hw⟩
  rw [a3.1, c0, show b 0 + 1 - 1 = b 0 by omega]
/-- a text that describes an amendment is enacted -/
theorem sp_k_enact (s : BKr (iv M 11) b) (q : ARQ M) {T : Int → Int} {n d : Int} (xt : XT T n M) (hd : 0 ≤ d ∧ d ≤ 9999) (he : amE T n = -1) (h : b 0 < 20 ∧ nops b + amC T n ≤ 120 ∧ ia b (nops b) + amC T n ≤ 40) : ∃ M', am_call t_SB_enact [.ref 0, .int (zi d)] M (some (.int (zi (b 0)))) M' ∧ TXL M' [] ∧ ARQ M' ∧ BKr (iv M' 11) (addb b (fun j => opF T (sk T (oS T (j / 12))) (j % 12)) (amC T n) d) ∧ ∀ x, 15 ≤ x → M' x = M x := by
  obtain ⟨M1, c1, f1, k1⟩ := sp_readAmendment xt
  have ao := amN_ok xt.2.2 40 0 (Int.le_refl _) (Int.le_refl _) xt.2.2.1.1
  obtain ⟨k41, k42, kd_⟩ := k1 he
  have aok : 0 < amC T n ∧ ∀ j, 0 ≤ j → j < amC T n → (0 ≤ oS T j ∧ oS T j ≤ n) ∧ opE T (sk T (oS T j)) = -1 := ao.2.2.2.2 he
  have ac : amC T n ≤ 40 := by have := ao.2.1; show (amN T n 40 0).2 ≤ 40; omega
  obtain ⟨N, eN⟩ : ∃ N, N = amC T n := ⟨_, rfl⟩
  rw [← eN] at k41 k42 kd_ aok ac h ⊢
  have g0 : ∀ i, 0 ≤ i → i < N → iv M1 6 (i * 13) = opF T (sk T (oS T i)) 0 := fun i i0 i1 => by
    have := (kd_ i i0 i1).1
    have e : iv M1 6 (i * 13 + 0) = opF T (sk T (oS T i)) 0 := this
    rw [Int.add_zero] at e
    exact e
  have eI : iv M1 4 2 = nin (iv M1 6) N := by
    rw [k42]
    unfold insn nin
    exact sm_congr (fun i i0 i1 => by
      show (if opF T (sk T (oS T i)) 0 = 0 then (1 : Int) else 0) = if iv M1 6 (i * 13) = 0 then 1 else 0
      rw [g0 i i0 i1])
  have nr := nin_r' (iv M1 6) (i := N) (by omega)
  have w0 := s.1.n0
  have w1 := s.1.n1
  have s1 : BKr (iv M1 11) b := by rw [iv_row (f1 11 (by decide) (by decide) (by decide))]; exact s
  have q1 : ARQ M1 := ARQ_rows q (f1 12 (by decide) (by decide) (by decide))
  obtain ⟨Ma, a1, a2, a3, a4⟩ := sp_k_addDraft s1 q1 k41 (by omega) ac hd eI ⟨h.1, h.2.1, by omega⟩
  obtain ⟨Mb, eb⟩ : ∃ Mb, Mb = zup Ma 2 1 0 := ⟨_, rfl⟩
  have ce : am_call t_Pag_makeEmpty [.ref 2] Ma none Mb := am_call_of ⟨Nat.le_of_ble_eq_true rfl, rfl⟩ (vc_p2_makeEmpty Ma _ (fun M1 e1 => ⟨rfl, by rw [e1, eb]⟩))
  have bf : ∀ a, ¬ a = 2 → Mb a = Ma a := fun a ha => by rw [eb, zupr _ ha]
  refine ⟨Mb, am_call_of ⟨Nat.le_of_ble_eq_true rfl, rfl⟩ (vc_c_enact d M _ ⟨⟨⟨by omega, by omega⟩, by decide⟩, fun _ => ⟨_, M1, c1, by rw [he]; decide, fun _ => ⟨_, Ma, a1, ⟨by omega, by omega⟩, fun z => by omega, fun _ => ⟨Mb, ce, rfl, rfl⟩⟩, fun z => absurd he z⟩, fun z => absurd hd z⟩), ⟨⟨?_, Nat.zero_le _⟩, fun i x hi => by cases hi⟩, ARQ_rows a3 (bf 12 (by decide)), ?_, fun x hx => by rw [bf x (by omega), a2 x (by omega) (by omega) (by omega), f1 x (by omega) (by omega) (by omega)]⟩
  · rw [eb, ivs _ _ (by decide) (by decide) (by decide), if_pos rfl]; rfl
  · rw [iv_row (bf 11 (by decide))]
    have er : ∀ i j : Int, 0 ≤ j → j < 12 → opF T (sk T (oS T ((12 * i + j) / 12))) ((12 * i + j) % 12) = opF T (sk T (oS T i)) j := fun i j j0 j1 => by
      rw [show (12 * i + j) / 12 = i by omega, show (12 * i + j) % 12 = j by omega]
    refine a4 _ (fun i i0 i1 => DO_c2 (fun j j0 j1 => er i j j0 (by omega)) (fun k k0 k2 => er i (6 + k) (by omega) (by have := opF_5r T (sk T (oS T i)); omega)) (kd_ i i0 i1)) (fun i i0 i1 => ?_)
    have a := aok.2 i i0 i1
    have b := xt.2.2.skr a.1.1 a.1.2
    exact WO_c2 (fun j j0 j1 => er i j j0 (by omega)) (fun k k0 k2 => er i (6 + k) (by omega) (by have := opF_5r T (sk T (oS T i)); omega)) (WO_op xt.2.2 (by omega) (by omega) a.2)
end KC
