/-! what the law types is read as it was meant -/
def AT (T : Int → Int) (p : Int) (l : List Int) : Prop := ∀ (i : Nat) (x : Int), l[i]? = some x → T (p + i) = x
theorem AT_l {T : Int → Int} {p : Int} {l l' : List Int} (h : AT T p (l ++ l')) : AT T p l := fun i x hi => h i x (by rw [List.getElem?_append_left (List.getElem?_eq_some_iff.mp hi).1]; exact hi)
theorem AT_r {T : Int → Int} {p : Int} {l l' : List Int} (h : AT T p (l ++ l')) : AT T (p + l.length) l' := fun i x hi => by
  have := h (l.length + i) x (by rw [List.getElem?_append_right (by omega), show l.length + i - l.length = i by omega]; exact hi)
  rw [← this]
  congr 1
  omega
theorem AT_0 {T : Int → Int} {p x : Int} {l : List Int} (h : AT T p (x :: l)) : T p = x := by
  have := h 0 x rfl
  rwa [show p + ((0 : Nat) : Int) = p by omega] at this
theorem AT_c {T : Int → Int} {p x : Int} {l : List Int} (h : AT T p (x :: l)) : AT T (p + 1) l := fun i y hi => by
  have := h (i + 1) y hi
  rw [← this]
  congr 1
  omega
/-- what may follow a number or a word -/
abbrev stp (c : Int) : Prop := c = 32 ∨ c = 59 ∨ c = -1
theorem sk_1 {T : Int → Int} {p : Int} (h : p + 1 ≤ 120) (h0 : T p = 32) (h1 : ¬ T (p + 1) = 32) : sk T p = p + 1 := by rw [sk_s T (by omega), if_pos h0, sk_n h h1]
theorem dg_1 {T : Int → Int} {p i : Int} (h0 : T p = 48 + i) (i0 : 0 ≤ i) (i1 : i ≤ 9) (h1 : ¬ isg (T (p + 1))) : de T p = p + 1 ∧ dv T p = i := by
  have d : dgN T 3 p 0 = (p + 1, i) := by
    rw [dgN_s, if_pos (by omega), dgN_s, if_neg h1, h0]
    congr 1
    omega
  unfold de dv
  rw [d]
  exact ⟨rfl, rfl⟩
theorem df_1 {T : Int → Int} {p i b : Int} (h0 : T p = 48 + i) (i0 : 0 ≤ i) (i1 : i ≤ 9) (h1 : ¬ isg (T (p + 1))) (hb : b ≤ i) : df b T p = -1 := by
  obtain ⟨e1, e2⟩ := dg_1 h0 i0 i1 h1
  unfold df
  rw [e1, e2, if_neg (by omega), if_neg h1]
theorem num_at {T : Int → Int} {p n : Int} (hn : isNum n) (h : AT T p (numL n)) (c : stp (T (p + (numL n).length))) : (¬ T p = 32 ∧ isg (T p)) ∧ df 1 T p = -1 ∧ ne T p = p + (numL n).length ∧ nv T p = n := by
  obtain ⟨i, a, b, h1, h2, h3, h4, e⟩ := hn
  have e1 : n / 729 = i := by omega
  have e2 : n % 729 / 27 = a := by omega
  have e3 : n % 27 = b := by omega
  unfold numL at h c ⊢
  rw [e1, e2, e3] at h c ⊢
  by_cases a0 : a = 0
  · have b0 : b = 0 := by omega
    rw [if_pos a0, if_pos b0] at h c ⊢
    have t0 : T p = 48 + i := AT_0 (l := []) h
    have c1 : stp (T (p + 1)) := c
    have ng : ¬ isg (T (p + 1)) := by omega
    have nu : ¬ isu (T (p + 1)) := by omega
    obtain ⟨f1, f2⟩ := dg_1 t0 (by omega) (by omega) ng
    refine ⟨⟨by omega, by omega⟩, df_1 t0 (by omega) (by omega) ng (by omega), ?_, ?_⟩
    · unfold ne; rw [f1, if_neg nu]; rfl
    · unfold nv; rw [f1, f2, if_neg nu]; omega
  · rw [if_neg a0] at h c ⊢
    by_cases b0 : b = 0
    · rw [if_pos b0] at h c ⊢
      have t0 : T p = 48 + i := AT_0 (l := [64 + a]) h
      have t1 : T (p + 1) = 64 + a := AT_0 (l := []) (AT_c (l := [64 + a]) h)
      have c1 : stp (T (p + 2)) := c
      have ng : ¬ isg (T (p + 1)) := by omega
      have nu : ¬ isu (T (p + 1 + 1)) := by rw [show p + 1 + 1 = p + 2 by omega]; omega
      obtain ⟨f1, f2⟩ := dg_1 t0 (by omega) (by omega) ng
      refine ⟨⟨by omega, by omega⟩, df_1 t0 (by omega) (by omega) ng (by omega), ?_, ?_⟩
      · unfold ne; rw [f1, if_pos (by omega), if_neg nu]; show p + 1 + 1 = p + 2; omega
      · unfold nv; rw [f1, f2, if_pos (by omega), if_neg nu, t1]; omega
    · rw [if_neg b0] at h c ⊢
      have t0 : T p = 48 + i := AT_0 (l := [64 + a, 64 + b]) h
      have t1 : T (p + 1) = 64 + a := AT_0 (l := [64 + b]) (AT_c (l := [64 + a, 64 + b]) h)
      have t2 : T (p + 1 + 1) = 64 + b := AT_0 (l := []) (AT_c (l := [64 + b]) (AT_c (l := [64 + a, 64 + b]) h))
      have ng : ¬ isg (T (p + 1)) := by omega
      obtain ⟨f1, f2⟩ := dg_1 t0 (by omega) (by omega) ng
      refine ⟨⟨by omega, by omega⟩, df_1 t0 (by omega) (by omega) ng (by omega), ?_, ?_⟩
      · unfold ne; rw [f1, if_pos (by omega), if_pos (by omega)]
        show p + 1 + 1 + 1 = p + 3
        omega
      · unfold nv; rw [f1, f2, if_pos (by omega), if_pos (by omega), t1, t2]; omega
theorem wd_at {T : Int → Int} {q w : Int} (hw : isWd w) (h : AT T q (wdL w)) (hq : q + (wdL w).length ≤ 120) (c : stp (T (q + (wdL w).length))) : T q = 32 ∧ wI T q ∧ wE T q = -1 ∧ wV T q = w ∧ wN T q = q + (wdL w).length := by
  have hr := isWd_r hw
  unfold wdL at h hq c ⊢
  by_cases q0 : w < 1000
  · have w3 : w ≤ 3 := by
      rcases hw with z | z
      · exact z.2
      · have := isNum_r z; omega
    rw [if_pos q0] at h hq c ⊢
    have t0 : T q = 32 := AT_0 (l := [48 + w]) h
    have t1 : T (q + 1) = 48 + w := AT_0 (l := []) (AT_c (l := [48 + w]) h)
    have c1 : stp (T (q + 2)) := c
    have hq : q + 2 ≤ 120 := hq
    have ng : ¬ isg (T (q + 1 + 1)) := by rw [show q + 1 + 1 = q + 2 by omega]; omega
    have es : sk T q = q + 1 := sk_1 (by omega) t0 (by omega)
    obtain ⟨f1, f2⟩ := dg_1 t1 (by omega) (by omega) ng
    unfold wE wV wN wI
    rw [es, if_neg (by omega), if_neg (by omega), if_neg (by omega)]
    exact ⟨t0, Or.inr (by omega), df_1 t1 (by omega) (by omega) ng (by omega), f2, by rw [f1]; show q + 1 + 1 = q + 2; omega⟩
  · have hn : isNum (w - 1000) := hw.resolve_left (by omega)
    rw [if_neg q0] at h hq c ⊢
    have t0 : T q = 32 := AT_0 (l := [64] ++ numL (w - 1000)) h
    have h1 : AT T (q + 1) ([64] ++ numL (w - 1000)) := AT_c (l := [64] ++ numL (w - 1000)) h
    have t1 : T (q + 1) = 64 := AT_0 (l := numL (w - 1000)) h1
    have h2 : AT T (q + 1 + 1) (numL (w - 1000)) := AT_c (l := numL (w - 1000)) h1
    have el : (([32] ++ ([64] ++ numL (w - 1000))).length : Int) = 2 + (numL (w - 1000)).length := by simp only [List.length_append, List.length_cons, List.length_nil]; omega
    rw [el] at c hq ⊢
    have es : sk T q = q + 1 := sk_1 (by omega) t0 (by omega)
    obtain ⟨g1, g2, g3, g4⟩ := num_at hn h2 (by rw [show q + 1 + 1 + ((numL (w - 1000)).length : Int) = q + (2 + (numL (w - 1000)).length) by omega]; exact c)
    unfold wE wV wN wI
    rw [es, if_pos t1, if_pos t1, if_pos t1]
    exact ⟨t0, Or.inl t1, g2, by rw [g4]; omega, by rw [g3]; omega⟩
theorem wcN_0 (T : Int → Int) (p : Int) : wc T p = wcN T p (6 - 0 : Int).toNat 0 := rfl
/-- what follows the words -/
abbrev nw (T : Int → Int) (q : Int) : Prop := ¬ wI T q
theorem ws_at {T : Int → Int} {e ws f s : Int} (hw : 0 ≤ ws ∧ ws ≤ 2) (wf : isWd f) (wsd : isWd s) (h : AT T e (wsL ws f s)) (hq : e + (wsL ws f s).length ≤ 120) (c : stp (T (e + (wsL ws f s).length))) (hn : ¬ wI T (e + (wsL ws f s).length)) : wc T e = ws ∧ wq T e ws = e + (wsL ws f s).length ∧ wde T e = -1 ∧ (0 < ws → wV T (wq T e 0) = f) ∧ (1 < ws → wV T (wq T e 1) = s) := by
  have q0 : wq T e 0 = e := rfl
  have fin : ∀ {x : Int}, wc T e = ws → wq T e ws = x → ¬ wI T x → wde T e = -1 := fun {x} h1 h2 h3 => by
    unfold wde
    rw [h1, h2, if_neg (by omega), if_neg h3]
  unfold wsL at h hq c hn ⊢
  by_cases w0 : ws < 1
  · have ew : ws = 0 := by omega
    rw [if_pos w0] at hn ⊢
    have hn : ¬ wI T e := by rwa [show e + (([] : List Int).length : Int) = e by simp] at hn
    have e1 : wc T e = ws := by rw [wcN_0, wcN_s T e (by omega), q0, if_neg (fun z => hn z.1), ew]
    have e2 : wq T e ws = e := by rw [ew]; exact q0
    exact ⟨e1, by rw [e2]; simp, fin e1 e2 hn, fun z => by omega, fun z => by omega⟩
  · rw [if_neg w0] at h hq c hn ⊢
    by_cases w1 : ws < 2
    · have ew : ws = 1 := by omega
      rw [if_pos w1] at h hq c hn ⊢
      obtain ⟨t0, g1, g2, g3, g4⟩ := wd_at wf h hq c
      have q1 : wq T e 1 = e + (wdL f).length := by rw [show (1 : Int) = 0 + 1 by omega, wq_s T e (by omega), q0, g4]
      have e1 : wc T e = ws := by rw [wcN_0, wcN_s T e (by omega), q0, if_pos ⟨g1, g2⟩, wcN_s T e (by omega), show (0 : Int) + 1 = 1 by omega, q1, if_neg (fun z => hn z.1), ew]
      have e2 : wq T e ws = e + (wdL f).length := by rw [ew]; exact q1
      exact ⟨e1, e2, fin e1 e2 hn, fun _ => by rw [q0]; exact g3, fun z => by omega⟩
    · have ew : ws = 2 := by omega
      rw [if_neg w1] at h hq c hn ⊢
      have el : ((wdL f ++ wdL s).length : Int) = (wdL f).length + (wdL s).length := by rw [List.length_append]; omega
      rw [el, ← Int.add_assoc] at c hq hn ⊢
      have hs := AT_r h
      have ts : T (e + (wdL f).length) = 32 := by
        unfold wdL at hs
        exact AT_0 (l := if s < 1000 then [48 + s] else [64] ++ numL (s - 1000)) hs
      obtain ⟨t0, g1, g2, g3, g4⟩ := wd_at wf (AT_l h) (by omega) (Or.inl ts)
      obtain ⟨u0, k1, k2, k3, k4⟩ := wd_at wsd hs hq c
      have q1 : wq T e 1 = e + (wdL f).length := by rw [show (1 : Int) = 0 + 1 by omega, wq_s T e (by omega), q0, g4]
      have q2 : wq T e 2 = e + (wdL f).length + (wdL s).length := by rw [show (2 : Int) = 1 + 1 by omega, wq_s T e (by omega), q1, k4]
      have e1 : wc T e = ws := by rw [wcN_0, wcN_s T e (by omega), q0, if_pos ⟨g1, g2⟩, wcN_s T e (by omega), show (0 : Int) + 1 = 1 by omega, q1, if_pos ⟨k1, k2⟩, wcN_s T e (by omega), show (1 : Int) + 1 = 2 by omega, q2, if_neg (fun z => hn z.1), ew]
      have e2 : wq T e ws = e + (wdL f).length + (wdL s).length := by rw [ew]; exact q2
      exact ⟨e1, e2, fin e1 e2 hn, fun _ => by rw [q0]; exact g3, fun _ => by rw [q1]; exact k3⟩
/-- the end of an operation -/
abbrev enC (c : Int) : Prop := c = 59 ∨ c = -1
theorem sv_at {T : Int → Int} {q sv : Int} (hs : sv = 0 ∨ sv = 1) (h : AT T q (svL sv)) (hq : q + (svL sv).length ≤ 120) (c : enC (T (q + (svL sv).length))) : stp (T q) ∧ ¬ wI T q ∧ svE T q = -1 ∧ sk T (svN T q) = q + (svL sv).length ∧ svV T q = sv := by
  unfold svL at h hq c ⊢
  by_cases z : sv = 0
  · rw [if_pos z] at c hq ⊢
    have e0 : q + (([] : List Int).length : Int) = q := by simp
    rw [e0] at c hq ⊢
    have es : sk T q = q := sk_n hq (by omega)
    unfold svE svN svV wI
    rw [es, if_neg (by omega), if_neg (by omega), if_neg (by omega), es]
    exact ⟨by omega, by omega, rfl, rfl, z.symm⟩
  · rw [if_neg z] at h c hq ⊢
    have hq : q + 7 ≤ 120 := hq
    have c : enC (T (q + 7)) := c
    have t0 : T q = 32 := by have := h 0 32 rfl; rwa [show q + ((0 : Nat) : Int) = q by omega] at this
    have t1 : T (q + 1) = 115 := h 1 115 rfl
    have t2 : T (q + 2) = 97 := h 2 97 rfl
    have t3 : T (q + 3) = 118 := h 3 118 rfl
    have t4 : T (q + 4) = 105 := h 4 105 rfl
    have t5 : T (q + 5) = 110 := h 5 110 rfl
    have t6 : T (q + 6) = 103 := h 6 103 rfl
    have es : sk T q = q + 1 := sk_1 (by omega) t0 (by omega)
    have e1 : sk T (q + 1) = q + 1 := sk_n (by omega) (by omega)
    have e7 : sk T (q + 1 + 6) = q + 7 := by rw [show q + 1 + 6 = q + 7 by omega]; exact sk_n (by omega) (by omega)
    have m : mt8 T (q + 1) := by
      unfold mt8
      rw [show q + 1 + 0 = q + 1 by omega, show q + 1 + 1 = q + 2 by omega, show q + 1 + 2 = q + 3 by omega, show q + 1 + 3 = q + 4 by omega, show q + 1 + 4 = q + 5 by omega, show q + 1 + 5 = q + 6 by omega, show q + 1 + 6 = q + 7 by omega]
      exact ⟨t1, t2, t3, t4, t5, t6, by omega⟩
    unfold svE svN svV xe8 xf8 wI
    have hl : isl (T (q + 1)) := by omega
    rw [es, e1, if_pos hl, if_pos hl, if_pos hl, if_pos m, if_pos m, e7]
    exact ⟨Or.inl t0, by omega, rfl, rfl, by omega⟩
/-- an operation is read as this one -/
def OF (T : Int → Int) (p K n sv ws f s : Int) : Prop := (opF T p 0 = K ∧ opF T p 1 = n) ∧ (2 < K → opF T p 2 = f) ∧ (K = 4 → opF T p 3 = s) ∧ opF T p 4 = sv ∧ opF T p 5 = ws ∧ (0 < ws → opF T p 6 = f) ∧ (1 < ws → opF T p 7 = s)
theorem kw_at {T : Int → Int} {p K : Int} (k0 : 0 ≤ K) (k4 : K ≤ 4) (h : AT T p (kwL K)) (hp : p + (kwL K).length ≤ 119) (h32 : T (p + (kwL K).length) = 32) (hd : ¬ T (p + (kwL K).length + 1) = 32) : sk T p = p ∧ kd T p = K ∧ oA T p = p + (kwL K).length + 1 := by
  have go : ke T p = p + (kwL K).length → oA T p = p + (kwL K).length + 1 := fun e => by
    unfold oA
    rw [e]
    exact sk_1 (by omega) h32 hd
  have f0 : ∀ x, T (p + 0) = x ↔ T p = x := fun x => by rw [Int.add_zero]
  unfold kwL at h hp h32 go ⊢
  by_cases q0 : K = 0
  · rw [if_pos q0] at h hp h32 go ⊢
    have hp : p + 6 ≤ 119 := hp
    have h32 : T (p + 6) = 32 := h32
    have t0 : T p = 105 := AT_0 h
    have t1 : T (p + 1) = 110 := h 1 110 rfl
    have t2 : T (p + 2) = 115 := h 2 115 rfl
    have t3 : T (p + 3) = 101 := h 3 101 rfl
    have t4 : T (p + 4) = 114 := h 4 114 rfl
    have t5 : T (p + 5) = 116 := h 5 116 rfl
    have m0 : mt0 T p := ⟨(f0 _).mpr t0, t1, t2, t3, t4, t5, by omega⟩
    exact ⟨sk_n (by omega) (by omega), by unfold kd; rw [if_pos m0, q0], go (by unfold ke; rw [if_pos m0]; rfl)⟩
  · rw [if_neg q0] at h hp h32 go ⊢
    by_cases q1 : K = 1
    · rw [if_pos q1] at h hp h32 go ⊢
      have hp : p + 7 ≤ 119 := hp
      have h32 : T (p + 7) = 32 := h32
      have t0 : T p = 114 := AT_0 (l := [101, 112, 108, 97, 99, 101]) h
      have t1 : T (p + 1) = 101 := h 1 101 rfl
      have t2 : T (p + 2) = 112 := h 2 112 rfl
      have t3 : T (p + 3) = 108 := h 3 108 rfl
      have t4 : T (p + 4) = 97 := h 4 97 rfl
      have t5 : T (p + 5) = 99 := h 5 99 rfl
      have t6 : T (p + 6) = 101 := h 6 101 rfl
      have m0 : ¬ mt0 T p := fun z => by have := (f0 _).mp z.1; omega
      have m1 : mt1 T p := ⟨(f0 _).mpr t0, t1, t2, t3, t4, t5, t6, by omega⟩
      exact ⟨sk_n (by omega) (by omega), by unfold kd; rw [if_neg m0, if_pos m1, q1], go (by unfold ke; rw [if_neg m0, if_pos m1]; rfl)⟩
    · rw [if_neg q1] at h hp h32 go ⊢
      by_cases q2 : K = 2
      · rw [if_pos q2] at h hp h32 go ⊢
        have hp : p + 6 ≤ 119 := hp
        have h32 : T (p + 6) = 32 := h32
        have t0 : T p = 114 := AT_0 h
        have t1 : T (p + 1) = 101 := h 1 101 rfl
        have t2 : T (p + 2) = 112 := h 2 112 rfl
        have t3 : T (p + 3) = 101 := h 3 101 rfl
        have t4 : T (p + 4) = 97 := h 4 97 rfl
        have t5 : T (p + 5) = 108 := h 5 108 rfl
        have m0 : ¬ mt0 T p := fun z => by have := (f0 _).mp z.1; omega
        have m1 : ¬ mt1 T p := fun z => by have := z.2.2.2.1; omega
        have m2 : mt2 T p := ⟨(f0 _).mpr t0, t1, t2, t3, t4, t5, by omega⟩
        exact ⟨sk_n (by omega) (by omega), by unfold kd; rw [if_neg m0, if_neg m1, if_pos m2, q2], go (by unfold ke; rw [if_neg m0, if_neg m1, if_pos m2]; rfl)⟩
      · rw [if_neg q2] at h hp h32 go ⊢
        by_cases q3 : K = 3
        · rw [if_pos q3] at h hp h32 go ⊢
          have hp : p + 8 ≤ 119 := hp
          have h32 : T (p + 8) = 32 := h32
          have t0 : T p = 114 := AT_0 h
          have t1 : T (p + 1) = 101 := h 1 101 rfl
          have t2 : T (p + 2) = 110 := h 2 110 rfl
          have t3 : T (p + 3) = 117 := h 3 117 rfl
          have t4 : T (p + 4) = 109 := h 4 109 rfl
          have t5 : T (p + 5) = 98 := h 5 98 rfl
          have t6 : T (p + 6) = 101 := h 6 101 rfl
          have t7 : T (p + 7) = 114 := h 7 114 rfl
          have m0 : ¬ mt0 T p := fun z => by have := (f0 _).mp z.1; omega
          have m1 : ¬ mt1 T p := fun z => by have := z.2.2.1; omega
          have m2 : ¬ mt2 T p := fun z => by have := z.2.2.1; omega
          have m3 : mt3 T p := ⟨(f0 _).mpr t0, t1, t2, t3, t4, t5, t6, t7, by omega⟩
          exact ⟨sk_n (by omega) (by omega), by unfold kd; rw [if_neg m0, if_neg m1, if_neg m2, if_pos m3, q3], go (by unfold ke; rw [if_neg m0, if_neg m1, if_neg m2, if_pos m3]; rfl)⟩
        · have e4 : K = 4 := by omega
          rw [if_neg q3] at h hp h32 go ⊢
          have hp : p + 2 ≤ 119 := hp
          have h32 : T (p + 2) = 32 := h32
          have t0 : T p = 105 := AT_0 h
          have t1 : T (p + 1) = 110 := h 1 110 rfl
          have m0 : ¬ mt0 T p := fun z => by have := z.2.2.1; omega
          have m1 : ¬ mt1 T p := fun z => by have := (f0 _).mp z.1; omega
          have m2 : ¬ mt2 T p := fun z => by have := (f0 _).mp z.1; omega
          have m3 : ¬ mt3 T p := fun z => by have := (f0 _).mp z.1; omega
          have m4 : mt4 T p := ⟨(f0 _).mpr t0, t1, by omega⟩
          exact ⟨sk_n (by omega) (by omega), by unfold kd; rw [if_neg m0, if_neg m1, if_neg m2, if_neg m3, if_pos m4, e4], go (by unfold ke; rw [if_neg m0, if_neg m1, if_neg m2, if_neg m3, if_pos m4]; rfl)⟩
theorem AT_nil (T : Int → Int) (p : Int) : AT T p [] := fun i x h => by cases h
theorem wdL_h (w : Int) : ∃ l, wdL w = 32 :: l := ⟨_, rfl⟩
theorem numL_h (n : Int) : ∃ l, numL n = (48 + n / 729) :: l := ⟨_, rfl⟩
/-- what all operations have alike, read -/
def OH (T : Int → Int) (p K n sv ws f s e q : Int) : Prop := (sk T p = p ∧ kd T p = K) ∧ (stp (T e) → df 1 T (oA T p) = -1 ∧ oB T p = e ∧ nv T (oA T p) = n) ∧ AT T e (m1L K ws f s) ∧ AT T (e + (m1L K ws f s).length) (m2L K f) ∧ AT T (e + (m1L K ws f s).length + (m2L K f).length) (m3L K f s) ∧ e + (m1L K ws f s).length + (m2L K f).length + (m3L K f s).length = q ∧
  (stp (T q) ∧ ¬ wI T q ∧ svE T q = -1 ∧ sk T (svN T q) = q + (svL sv).length ∧ svV T q = sv) ∧ (q + (svL sv).length ≤ 120 ∧ enC (T (q + (svL sv).length))) ∧ p + (opL K n sv ws f s).length = q + (svL sv).length
theorem op_head {T : Int → Int} {p K n sv ws f s : Int} (r : opR K n sv ws f s) (h : AT T p (opL K n sv ws f s)) (hp : p + (opL K n sv ws f s).length ≤ 120) (c : enC (T (p + (opL K n sv ws f s).length))) : ∃ e q, OH T p K n sv ws f s e q := by
  obtain ⟨⟨⟨r0, r1⟩, r2, r3, r4, r5, r6⟩, -⟩ := r
  have hl : ((opL K n sv ws f s).length : Int) = (kwL K).length + 1 + (numL n).length + (m1L K ws f s).length + (m2L K f).length + (m3L K f s).length + (svL sv).length := by
    unfold opL
    simp only [List.length_append, List.length_cons, List.length_nil]
    omega
  obtain ⟨a, ea⟩ : ∃ a : Int, a = p + (kwL K).length := ⟨_, rfl⟩
  obtain ⟨e, ee⟩ : ∃ e : Int, e = a + 1 + (numL n).length := ⟨_, rfl⟩
  obtain ⟨q, eq⟩ : ∃ q : Int, q = e + (m1L K ws f s).length + (m2L K f).length + (m3L K f s).length := ⟨_, rfl⟩
  have ep : p + (opL K n sv ws f s).length = q + (svL sv).length := by omega
  rw [ep] at hp c
  unfold opL at h
  have h7 := AT_r h
  have h6 := AT_r (AT_l h)
  have h5 := AT_r (AT_l (AT_l h))
  have h4 := AT_r (AT_l (AT_l (AT_l h)))
  have h3 := AT_r (AT_l (AT_l (AT_l (AT_l h))))
  have h2 := AT_r (AT_l (AT_l (AT_l (AT_l (AT_l h)))))
  have h1 := AT_l (AT_l (AT_l (AT_l (AT_l (AT_l h)))))
  obtain ⟨ln, en⟩ := numL_h n
  have nr := isNum_r r2
  have t32 : T a = 32 := by rw [ea]; exact AT_0 h2
  have h3' : AT T (a + 1) (numL n) := by
    have e0 : p + ((kwL K ++ [32]).length : Int) = a + 1 := by rw [List.length_append, ea]; show p + (((kwL K).length + 1 : Nat) : Int) = _; omega
    rw [← e0]; exact h3
  have td : T (a + 1) = 48 + n / 729 := by rw [en] at h3'; exact AT_0 h3'
  obtain ⟨k1, k2, k3⟩ := kw_at r0 r1 h1 (by omega) (by rw [← ea]; exact t32) (by rw [← ea, td]; omega)
  rw [← ea] at k3
  have h4' : AT T e (m1L K ws f s) := by
    have e0 : p + ((kwL K ++ [32] ++ numL n).length : Int) = e := by simp only [List.length_append, List.length_cons, List.length_nil]; omega
    rw [← e0]; exact h4
  have h5' : AT T (e + (m1L K ws f s).length) (m2L K f) := by
    have e0 : p + ((kwL K ++ [32] ++ numL n ++ m1L K ws f s).length : Int) = e + (m1L K ws f s).length := by simp only [List.length_append, List.length_cons, List.length_nil]; omega
    rw [← e0]; exact h5
  have h6' : AT T (e + (m1L K ws f s).length + (m2L K f).length) (m3L K f s) := by
    have e0 : p + ((kwL K ++ [32] ++ numL n ++ m1L K ws f s ++ m2L K f).length : Int) = e + (m1L K ws f s).length + (m2L K f).length := by simp only [List.length_append, List.length_cons, List.length_nil]; omega
    rw [← e0]; exact h6
  have h7' : AT T q (svL sv) := by
    have e0 : p + ((kwL K ++ [32] ++ numL n ++ m1L K ws f s ++ m2L K f ++ m3L K f s).length : Int) = q := by simp only [List.length_append, List.length_cons, List.length_nil]; omega
    rw [← e0]; exact h7
  refine ⟨e, q, ⟨k1, k2⟩, fun z => ?_, h4', h5', h6', eq.symm, sv_at r3 h7' hp c, ⟨hp, c⟩, ep⟩
  obtain ⟨x1, x2, x3, x4⟩ := num_at r2 h3' (by rw [← ee]; exact z)
  unfold oB
  rw [k3]
  exact ⟨x2, by rw [x3, ee], x4⟩
abbrev OC (T : Int → Int) (p K n sv ws f s : Int) : Prop := sk T p = p ∧ opE T p = -1 ∧ sk T (opN T p) = p + (opL K n sv ws f s).length ∧ OF T p K n sv ws f s
theorem len0 {l : List Int} (h : l = []) : (l.length : Int) = 0 := by rw [h]; rfl
theorem op_01 {T : Int → Int} {p K n sv ws f s e q : Int} (r : opR K n sv ws f s) (h : OH T p K n sv ws f s e q) (K2 : K < 2) : OC T p K n sv ws f s := by
  obtain ⟨⟨⟨r0, r1⟩, r2, r3, r4, r5, r6⟩, r7, r8, r9⟩ := r
  obtain ⟨⟨k1, k2⟩, num, h4, -, -, eq, ⟨s1, s2, s3, s4, s5⟩, ⟨hp, c⟩, ep⟩ := h
  unfold OC
  rw [ep]
  have L2 := len0 (show m2L K f = [] from if_neg (by omega))
  have L3 := len0 (show m3L K f s = [] from if_neg (by omega))
  have e1 : m1L K ws f s = wsL ws f s := if_pos K2
  rw [L2, L3, e1, Int.add_zero, Int.add_zero] at eq
  rw [e1] at h4
  have st : stp (T e) := by
    by_cases w0 : ws < 1
    · have := len0 (show wsL ws f s = [] from if_pos w0)
      rw [this, Int.add_zero] at eq
      rw [eq]; exact s1
    · obtain ⟨lf, ef⟩ := wdL_h f
      have h4 := h4
      unfold wsL at h4
      rw [if_neg w0] at h4
      by_cases w1 : ws < 2
      · rw [if_pos w1, ef] at h4; exact Or.inl (AT_0 h4)
      · rw [if_neg w1] at h4
        have := AT_l h4
        rw [ef] at this; exact Or.inl (AT_0 this)
  obtain ⟨n1, n2, n3⟩ := num st
  obtain ⟨g1, g2, g3, g4, g5⟩ := ws_at r5 (r7 K2).1 (r7 K2).2 h4 (by omega) (by rw [eq]; exact s1) (by rw [eq]; exact s2)
  rw [eq] at g2
  have eW : oW T p = q := by unfold oW; rw [n2, g1, g2]
  have f6 : ∀ j : Int, 6 ≤ j → opF T p j = wV T (wq T e (j - 6)) := fun j hj => by
    unfold opF
    rw [if_neg (by omega), if_neg (by omega), if_neg (by omega), if_neg (by omega), if_neg (by omega), if_neg (by omega), n2]
  have o6 : 0 < ws → opF T p 6 = f := fun z => by rw [f6 6 (by omega)]; exact g4 z
  have o7 : 1 < ws → opF T p 7 = s := fun z => by rw [f6 7 (by omega)]; exact g5 z
  have w5 : opF T p 5 = ws := by
    show (if kd T p < 2 then wc T (oB T p) else 0) = ws
    rw [k2, if_pos K2, n2, g1]
  by_cases K0 : K = 0
  · have sv0 : sv = 0 := r4 (Or.inl K0)
    have L7 := len0 (show svL sv = [] from if_pos sv0)
    rw [L7, Int.add_zero] at c hp ⊢
    refine ⟨k1, ?_, ?_, ⟨k2, n3⟩, fun z => by omega, fun z => by omega, ?_, w5, o6, o7⟩
    · unfold opE
      rw [k2, if_neg (by omega), if_pos K0, n1, n2, g3]; rfl
    · unfold opN
      rw [k2, if_pos K0, eW]
      exact sk_n hp (by omega)
    · show (if kd T p = 1 then svV T (oW T p) else if kd T p = 4 then svV T (de T (o5 T p)) else if kd T p = 2 then svV T (oB T p) else 0) = sv
      rw [k2, if_neg (by omega), if_neg (by omega), if_neg (by omega), sv0]
  · have K1 : K = 1 := by omega
    refine ⟨k1, ?_, ?_, ⟨k2, n3⟩, fun z => by omega, fun z => by omega, ?_, w5, o6, o7⟩
    · unfold opE
      rw [k2, if_neg (by omega), if_neg K0, if_pos K1, n1, n2, g3, eW, s3]; rfl
    · unfold opN
      rw [k2, if_neg K0, if_pos K1, eW, s4]
    · show (if kd T p = 1 then svV T (oW T p) else if kd T p = 4 then svV T (de T (o5 T p)) else if kd T p = 2 then svV T (oB T p) else 0) = sv
      rw [k2, if_pos K1, eW, s5]
theorem op_3 {T : Int → Int} {p K n sv ws f s e q : Int} (r : opR K n sv ws f s) (h : OH T p K n sv ws f s e q) (K3 : K = 3) : OC T p K n sv ws f s := by
  obtain ⟨⟨⟨r0, r1⟩, r2, r3, r4, r5, r6⟩, r7, r8, r9⟩ := r
  obtain ⟨⟨k1, k2⟩, num, -, h5, -, eq, -, ⟨hp, c⟩, ep⟩ := h
  unfold OC
  rw [ep]
  have L1 := len0 (show m1L K ws f s = [] from if_neg (by omega))
  have L3 := len0 (show m3L K f s = [] from if_neg (by omega))
  have e2 : m2L K f = [32, 116, 111, 32] ++ numL f := if_pos K3
  have sv0 : sv = 0 := r4 (Or.inr K3)
  have L7 := len0 (show svL sv = [] from if_pos sv0)
  have w0 : ws = 0 := r6 (by omega)
  have el : ((m2L K f).length : Int) = 4 + (numL f).length := by rw [e2, List.length_append]; show ((4 + (numL f).length : Nat) : Int) = _; omega
  rw [L1, L3, el] at eq
  rw [L1, Int.add_zero, e2] at h5
  rw [L7, Int.add_zero] at c hp ⊢
  have t0 : T e = 32 := by have := h5 0 32 rfl; rwa [show e + ((0 : Nat) : Int) = e by omega] at this
  have t1 : T (e + 1) = 116 := h5 1 116 rfl
  have t2 : T (e + 2) = 111 := h5 2 111 rfl
  have t3 : T (e + 3) = 32 := h5 3 32 rfl
  have h5n : AT T (e + 4) (numL f) := AT_r (l := [32, 116, 111, 32]) h5
  obtain ⟨lf, ef⟩ := numL_h f
  have nf := r8 K3
  have fr := isNum_r nf.1
  have t4 : T (e + 4) = 48 + f / 729 := by rw [ef] at h5n; exact AT_0 h5n
  obtain ⟨n1, n2, n3⟩ := num (Or.inl t0)
  have es : sk T e = e + 1 := sk_1 (by omega) t0 (by omega)
  have m : mt5 T (e + 1) := by
    unfold mt5
    rw [show e + 1 + 0 = e + 1 by omega, show e + 1 + 1 = e + 2 by omega, show e + 1 + 2 = e + 3 by omega]
    exact ⟨t1, t2, by omega⟩
  have x5 : xe5 T e = e + 3 := by unfold xe5; rw [es, if_pos m]; omega
  have y5 : xf5 T e = -1 := by unfold xf5; rw [es, if_pos m]
  have e3 : o3 T p = e + 4 := by
    unfold o3
    rw [n2, x5, sk_1 (by omega) t3 (by rw [show e + 3 + 1 = e + 4 by omega, t4]; omega)]
    omega
  obtain ⟨v1, v2, v3, v4⟩ := num_at nf.1 h5n (by rw [show e + 4 + ((numL f).length : Int) = q by omega]; exact Or.inr c)
  refine ⟨k1, ?_, ?_, ⟨k2, n3⟩, fun z => ?_, fun z => by omega, ?_, ?_, fun z => by omega, fun z => by omega⟩
  · unfold opE
    rw [k2, if_neg (by omega), if_neg (by omega), if_neg (by omega), if_pos K3, n1, n2, y5, e3, v2]; rfl
  · unfold opN
    rw [k2, if_neg (by omega), if_neg (by omega), if_pos K3, e3, v3, show e + 4 + ((numL f).length : Int) = q by omega]
    exact sk_n hp (by omega)
  · show (if kd T p = 3 then nv T (o3 T p) else if kd T p = 4 then dv T (o4 T p) else 0) = f
    rw [k2, if_pos K3, e3, v4]
  · show (if kd T p = 1 then svV T (oW T p) else if kd T p = 4 then svV T (de T (o5 T p)) else if kd T p = 2 then svV T (oB T p) else 0) = sv
    rw [k2, if_neg (by omega), if_neg (by omega), if_neg (by omega), sv0]
  · show (if kd T p < 2 then wc T (oB T p) else 0) = ws
    rw [k2, if_neg (by omega), w0]
theorem op_4 {T : Int → Int} {p K n sv ws f s e q : Int} (r : opR K n sv ws f s) (h : OH T p K n sv ws f s e q) (K4 : K = 4) : OC T p K n sv ws f s := by
  obtain ⟨⟨⟨r0, r1⟩, r2, r3, r4, r5, r6⟩, r7, r8, r9⟩ := r
  obtain ⟨⟨k1, k2⟩, num, -, -, h6, eq, ⟨s1, s2, s3, s4, s5⟩, ⟨hp, c⟩, ep⟩ := h
  unfold OC
  rw [ep]
  have r9' := r9 (Or.inr K4)
  have L1 := len0 (show m1L K ws f s = [] from if_neg (by omega))
  have L2 := len0 (show m2L K f = [] from if_neg (by omega))
  have w0 : ws = 0 := r6 (by omega)
  have ef : wdL f = [32, 48 + f] := by unfold wdL; rw [if_pos (by omega)]; rfl
  have es' : wdL s = [32, 48 + s] := by unfold wdL; rw [if_pos (by omega)]; rfl
  have e3 : m3L K f s = [32, 102, 111, 114, 32, 48 + f, 32, 112, 117, 116, 32, 48 + s] := by unfold m3L; rw [if_pos K4, ef, es']; rfl
  have el : ((m3L K f s).length : Int) = 12 := by rw [e3]; rfl
  rw [L1, L2, el] at eq
  rw [L1, L2, Int.add_zero, Int.add_zero, e3] at h6
  have eq : e + 12 = q := by omega
  have t0 : T e = 32 := AT_0 h6
  have t1 : T (e + 1) = 102 := h6 1 _ rfl
  have t2 : T (e + 2) = 111 := h6 2 _ rfl
  have t3 : T (e + 3) = 114 := h6 3 _ rfl
  have t4 : T (e + 4) = 32 := h6 4 _ rfl
  have t5 : T (e + 5) = 48 + f := h6 5 _ rfl
  have t6 : T (e + 6) = 32 := h6 6 _ rfl
  have t7 : T (e + 7) = 112 := h6 7 _ rfl
  have t8 : T (e + 8) = 117 := h6 8 _ rfl
  have t9 : T (e + 9) = 116 := h6 9 _ rfl
  have t10 : T (e + 10) = 32 := h6 10 _ rfl
  have t11 : T (e + 11) = 48 + s := h6 11 _ rfl
  obtain ⟨n1, n2, n3⟩ := num (Or.inl t0)
  have a1 : sk T e = e + 1 := sk_1 (by omega) t0 (by omega)
  have m6 : mt6 T (e + 1) := by
    unfold mt6
    rw [show e + 1 + 0 = e + 1 by omega, show e + 1 + 1 = e + 2 by omega, show e + 1 + 2 = e + 3 by omega, show e + 1 + 3 = e + 4 by omega]
    exact ⟨t1, t2, t3, by omega⟩
  have x6 : xe6 T e = e + 4 := by unfold xe6; rw [a1, if_pos m6]; omega
  have y6 : xf6 T e = -1 := by unfold xf6; rw [a1, if_pos m6]
  have b4 : o4 T p = e + 5 := by
    unfold o4
    rw [n2, x6, sk_1 (by omega) t4 (by rw [show e + 4 + 1 = e + 5 by omega, t5]; omega)]
    omega
  obtain ⟨d1, d2⟩ := dg_1 t5 (by omega) (by omega) (by rw [show e + 5 + 1 = e + 6 by omega, t6]; omega)
  have d3 := df_1 (b := 0) t5 (by omega) (by omega) (by rw [show e + 5 + 1 = e + 6 by omega, t6]; omega) (by omega)
  rw [show e + 5 + 1 = e + 6 by omega] at d1
  have a7 : sk T (e + 6) = e + 7 := by rw [sk_1 (by omega) t6 (by rw [show e + 6 + 1 = e + 7 by omega, t7]; omega)]; omega
  have m7 : mt7 T (e + 7) := by
    unfold mt7
    rw [show e + 7 + 0 = e + 7 by omega, show e + 7 + 1 = e + 8 by omega, show e + 7 + 2 = e + 9 by omega, show e + 7 + 3 = e + 10 by omega]
    exact ⟨t7, t8, t9, by omega⟩
  have x7 : xe7 T (e + 6) = e + 10 := by unfold xe7; rw [a7, if_pos m7]; omega
  have y7 : xf7 T (e + 6) = -1 := by unfold xf7; rw [a7, if_pos m7]
  have b5 : o5 T p = e + 11 := by
    unfold o5
    rw [b4, d1, x7, sk_1 (by omega) t10 (by rw [show e + 10 + 1 = e + 11 by omega, t11]; omega)]
    omega
  have g12 : ¬ isg (T (e + 11 + 1)) := by rw [show e + 11 + 1 = q by omega]; omega
  obtain ⟨g1, g2⟩ := dg_1 t11 (by omega) (by omega) g12
  have g3 := df_1 (b := 0) t11 (by omega) (by omega) g12 (by omega)
  rw [show e + 11 + 1 = q by omega] at g1
  refine ⟨k1, ?_, ?_, ⟨k2, n3⟩, fun z => ?_, fun z => ?_, ?_, ?_, fun z => by omega, fun z => by omega⟩
  · unfold opE
    rw [k2, if_neg (by omega), if_neg (by omega), if_neg (by omega), if_neg (by omega), if_pos K4, n1, n2, y6, b4, d3, d1, y7, b5, g3, g1, s3]; rfl
  · unfold opN
    rw [k2, if_neg (by omega), if_neg (by omega), if_neg (by omega), if_pos K4, b5, g1, s4]
  · show (if kd T p = 3 then nv T (o3 T p) else if kd T p = 4 then dv T (o4 T p) else 0) = f
    rw [k2, if_neg (by omega), if_pos K4, b4, d2]
  · show (if kd T p = 4 then dv T (o5 T p) else 0) = s
    rw [k2, if_pos K4, b5, g2]
  · show (if kd T p = 1 then svV T (oW T p) else if kd T p = 4 then svV T (de T (o5 T p)) else if kd T p = 2 then svV T (oB T p) else 0) = sv
    rw [k2, if_neg (by omega), if_pos K4, b5, g1, s5]
  · show (if kd T p < 2 then wc T (oB T p) else 0) = ws
    rw [k2, if_neg (by omega), w0]
theorem op_2 {T : Int → Int} {p K n sv ws f s e q : Int} (r : opR K n sv ws f s) (h : OH T p K n sv ws f s e q) (K2 : K = 2) : OC T p K n sv ws f s := by
  obtain ⟨⟨⟨r0, r1⟩, r2, r3, r4, r5, r6⟩, r7, r8, r9⟩ := r
  obtain ⟨⟨k1, k2⟩, num, -, -, -, eq, ⟨s1, s2, s3, s4, s5⟩, ⟨hp, c⟩, ep⟩ := h
  unfold OC
  rw [ep]
  have L1 := len0 (show m1L K ws f s = [] from if_neg (by omega))
  have L2 := len0 (show m2L K f = [] from if_neg (by omega))
  have L3 := len0 (show m3L K f s = [] from if_neg (by omega))
  have w0 : ws = 0 := r6 (by omega)
  rw [L1, L2, L3] at eq
  have eq : e = q := by omega
  obtain ⟨n1, n2, n3⟩ := num (by rw [eq]; exact s1)
  rw [eq] at n2
  refine ⟨k1, ?_, ?_, ⟨k2, n3⟩, fun z => by omega, fun z => by omega, ?_, ?_, fun z => by omega, fun z => by omega⟩
  · unfold opE
    rw [k2, if_neg (by omega), if_neg (by omega), if_neg (by omega), if_neg (by omega), if_neg (by omega), n1, n2, s3]; rfl
  · unfold opN
    rw [k2, if_neg (by omega), if_neg (by omega), if_neg (by omega), if_neg (by omega), n2, s4]
  · show (if kd T p = 1 then svV T (oW T p) else if kd T p = 4 then svV T (de T (o5 T p)) else if kd T p = 2 then svV T (oB T p) else 0) = sv
    rw [k2, if_neg (by omega), if_neg (by omega), if_pos K2, n2, s5]
  · show (if kd T p < 2 then wc T (oB T p) else 0) = ws
    rw [k2, if_neg (by omega), w0]
theorem op_at {T : Int → Int} {p K n sv ws f s : Int} (r : opR K n sv ws f s) (h : AT T p (opL K n sv ws f s)) (hp : p + (opL K n sv ws f s).length ≤ 120) (c : enC (T (p + (opL K n sv ws f s).length))) : OC T p K n sv ws f s := by
  obtain ⟨e, q, hh⟩ := op_head r h hp c
  have r0 := r.1.1
  by_cases k2 : K < 2
  · exact op_01 r hh k2
  · by_cases k3 : K = 3
    · exact op_3 r hh k3
    · by_cases k4 : K = 4
      · exact op_4 r hh k4
      · exact op_2 r hh (by omega)
