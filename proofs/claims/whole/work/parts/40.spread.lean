/-! the reference spreads -/
def SPL (L : Lw) (x n : Int) (D : Int → Int) : Prop := D x = 0 ∧ (∀ c, 0 ≤ c → c < 40 → D c = 0 → c = x) ∧ (∀ c, 0 ≤ c → c < 40 → -1 ≤ D c ∧ D c ≤ n ∧ (0 ≤ D c → ¬ L.code c = 0)) ∧
  (∀ c m, 0 ≤ c → c < 40 → 0 ≤ m → D c = m + 1 → ∃ p, 0 ≤ p ∧ p < 40 ∧ D p = m ∧ edg L p c) ∧ (∀ p c, 0 ≤ p → p < 40 → 0 ≤ D p → D p < n → edg L p c → 0 ≤ D c ∧ D c ≤ D p + 1) ∧ ∃ c, 0 ≤ c ∧ c < 40 ∧ D c = n
theorem mlr_80 {L : Lw} {M M' : am_M} (r : MLR L M) (h : ∀ a, ¬ a = 80 → M' a = M a) : MLR L M' := by
  unfold MLR at r ⊢
  rw [iv_row (h 64 (by decide)), iv_row (h 65 (by decide)), iv_row (h 66 (by decide)), iv_row (h 67 (by decide)), iv_row (h 68 (by decide)), iv_row (h 69 (by decide)), iv_row (h 70 (by decide)), iv_row (h 71 (by decide)), iv_row (h 58 (by decide))]
  exact r
theorem sp_refers {L : Lw} {M : am_M} (v : VL L) (r : MLR L M) {c p : Int} (c0 : 0 ≤ c) (c1 : c < 40) (n : ¬ L.code c = 0) (p0 : 0 ≤ p) (p1 : p < 40) : am_call t_Mo_refers [.ref 58, .int (zi c), .int (zi p)] M (some (.int (zi (bz (has L c (1000 + p)))))) M := by
  have pz : zr (1000 + p) := ⟨by omega, by omega⟩
  obtain ⟨h1, h2⟩ := sp_hasW v r c0 c1 n pz
  refine am_call_of ⟨Nat.le_of_ble_eq_true rfl, rfl⟩ (vc_refers c p M _ ⟨⟨c0, c1, h2, pz⟩, fun q => ⟨by rw [bz_t (h1.mp q)], rfl⟩, fun q => ⟨by rw [bz_f (fun z => q (h1.mpr z))], rfl⟩⟩)
theorem sp_spreads {L : Lw} {M : am_M} (v : VL L) (r : MLR L M) {x n : Int} (h : SPL L x n (iv M 80)) (n0 : 0 ≤ n) (n1 : n ≤ 40) : ∃ (y : Int) (M' : am_M), am_call t_Mo_spreads [.ref 58, .int (zi n)] M (some (.int (zi y))) M' ∧ (y = 0 ∨ y = 1) ∧ (∀ a, ¬ a = 80 → M' a = M a) ∧
    (y = 0 → CHD L x (iv M' 80) ∧ isMx (iv M' 80) n ∧ ∀ c, 0 ≤ c → c < 40 → 0 ≤ iv M' 80 c → ¬ L.code c = 0) ∧ (y = 1 → SPL L x (n + 1) (iv M' 80) ∧ rcd (iv M 80) + 1 ≤ rcd (iv M' 80)) := by
  obtain ⟨D, eD⟩ : ∃ D, D = iv M 80 := ⟨_, rfl⟩
  rw [← eD] at h ⊢
  obtain ⟨h1, h2, h3, h4, h5, h6⟩ := h
  /- in the middle: what is changed is new and has a clause of this distance ahead; what is done is met -/
  obtain ⟨P, eP⟩ : ∃ P : Int → Int → Int → am_M → Prop, P = fun c t y s => (∀ a, ¬ a = 80 → s a = M a) ∧ (y = 0 ∨ y = 1) ∧ (∀ j, 0 ≤ j → j < 40 → iv s 80 j = D j ∨ (D j = -1 ∧ iv s 80 j = n + 1 ∧ y = 1 ∧ ∃ p, 0 ≤ p ∧ p < 40 ∧ D p = n ∧ edg L p j)) ∧ (∀ p j, 0 ≤ p → p < 40 → 0 ≤ j → j < 40 → (p < c ∨ (p = c ∧ j < t)) → D p = n → edg L p j → ¬ iv s 80 j = -1) ∧ (y = 1 → ∃ j, 0 ≤ j ∧ j < 40 ∧ D j = -1 ∧ iv s 80 j = n + 1) := ⟨_, rfl⟩
  suffices hh : am_x t_Mo_spreads (0, am_ent (am_mL t_Mo_spreads) [.ref 58, .int (zi n)], [], M) (fun rv M' => ∃ y, rv = some (.int (zi y)) ∧ P 40 0 y M') by
    obtain ⟨rv, M', c1, y, c2, c3⟩ := am_call_ex (by exact ⟨Nat.le_of_ble_eq_true rfl, rfl⟩) hh
    subst c2
    rw [eP] at c3
    obtain ⟨p1, p2, p3, p4, p5⟩ := c3
    have done : ∀ p j, 0 ≤ p → p < 40 → 0 ≤ j → j < 40 → D p = n → edg L p j → ¬ iv M' 80 j = -1 := fun p j a b c d e f => p4 p j a b c d (Or.inl b) e f
    have keep : ∀ j, 0 ≤ j → j < 40 → 0 ≤ D j → iv M' 80 j = D j := fun j j0 j1 hj => by
      rcases p3 j j0 j1 with e | e
      · exact e
      · omega
    refine ⟨y, M', c1, p2, p1, fun hy => ?_, fun hy => ?_⟩
    · have same : ∀ j, 0 ≤ j → j < 40 → iv M' 80 j = D j := fun j j0 j1 => by
        rcases p3 j j0 j1 with e | e
        · exact e
        · omega
      have x40 : 0 ≤ x ∧ x < 40 := by
        obtain ⟨c, c0, c1, c2⟩ := h6
        by_cases q : D c = 0
        · have := h2 c c0 c1 q; omega
        · have key : ∀ (m : Nat) (c : Int), 0 ≤ c → c < 40 → D c = m → 0 ≤ x ∧ x < 40 := by
            intro m
            induction m with
            | zero => intro c c0 c1 hc; have := h2 c c0 c1 hc; omega
            | succ m ih =>
              intro c c0 c1 hc
              obtain ⟨p, p0, p1, p2, _⟩ := h4 c m c0 c1 (by omega) (by omega)
              exact ih p p0 p1 p2
          exact key n.toNat c c0 c1 (by omega)
      refine ⟨⟨by rw [same x x40.1 x40.2]; exact h1, fun c c0 c1 hc => h2 c c0 c1 (by rw [← same c c0 c1]; exact hc), fun c c0 c1 => by rw [same c c0 c1]; exact (h3 c c0 c1).1, fun c m c0 c1 m0 hc => ?_, fun p c p0 p1 hp he => ?_⟩, ⟨?_, fun c c0 c1 => by rw [same c c0 c1]; exact (h3 c c0 c1).2.1⟩, fun c c0 c1 hc => (h3 c c0 c1).2.2 (by rw [← same c c0 c1]; exact hc)⟩
      · obtain ⟨p, p0, p1, p2, p3⟩ := h4 c m c0 c1 m0 (by rw [← same c c0 c1]; exact hc)
        exact ⟨p, p0, p1, by rw [same p p0 p1]; exact p2, p3⟩
      · have ec := he.2.1
        rw [same p p0 p1] at hp ⊢
        rw [same c ec.1 ec.2]
        have hm := (h3 p p0 p1).2.1
        by_cases q : D p < n
        · exact h5 p c p0 p1 hp q he
        · have a := done p c p0 p1 ec.1 ec.2 (by omega) he
          rw [same c ec.1 ec.2] at a
          have b := h3 c ec.1 ec.2
          omega
      · obtain ⟨c, c0, c1, c2⟩ := h6
        exact ⟨c, c0, c1, by rw [same c c0 c1]; exact c2⟩
    · obtain ⟨j, j0, j1, j2, j3⟩ := p5 hy
      refine ⟨⟨?_, fun c c0 c1 hc => ?_, fun c c0 c1 => ?_, fun c m c0 c1 m0 hc => ?_, fun p c p0 p1 hp hp2 he => ?_, ⟨j, j0, j1, j3⟩⟩, ?_⟩
      · by_cases x40 : 0 ≤ x ∧ x < 40
        · rw [keep x x40.1 x40.2 (by omega)]; exact h1
        · exfalso
          obtain ⟨c, c0, c1, c2⟩ := h6
          have key : ∀ (m : Nat) (c : Int), 0 ≤ c → c < 40 → D c = m → 0 ≤ x ∧ x < 40 := by
            intro m
            induction m with
            | zero => intro c c0 c1 hc; have := h2 c c0 c1 hc; omega
            | succ m ih =>
              intro c c0 c1 hc
              obtain ⟨p, p0, p1, p2, _⟩ := h4 c m c0 c1 (by omega) (by omega)
              exact ih p p0 p1 p2
          exact x40 (key n.toNat c c0 c1 (by omega))
      · rcases p3 c c0 c1 with e | e
        · rw [e] at hc; exact h2 c c0 c1 hc
        · omega
      · have b := h3 c c0 c1
        rcases p3 c c0 c1 with e | ⟨e1, e2, _, p, p0, p1, p2, p3'⟩
        · rw [e]; exact ⟨b.1, by omega, b.2.2⟩
        · rw [e2]; exact ⟨by omega, by omega, fun _ => p3'.2.2.1⟩
      · rcases p3 c c0 c1 with e | ⟨e1, e2, _, p, p0, p1, p2, p3'⟩
        · rw [e] at hc
          obtain ⟨p, p0, p1, p2, p3'⟩ := h4 c m c0 c1 m0 hc
          exact ⟨p, p0, p1, by rw [keep p p0 p1 (by omega)]; exact p2, p3'⟩
        · exact ⟨p, p0, p1, by rw [keep p p0 p1 (by omega)]; omega, p3'⟩
      · have ec := he.2.1
        have b := h3 p p0 p1
        have dp : iv M' 80 p = D p := by
          rcases p3 p p0 p1 with e | e
          · exact e
          · omega
        rw [dp] at hp hp2 ⊢
        rcases p3 c ec.1 ec.2 with e | e
        · rw [e]
          by_cases q : D p < n
          · exact h5 p c p0 p1 hp q he
          · have a := done p c p0 p1 ec.1 ec.2 (by omega) he
            rw [e] at a
            have b := h3 c ec.1 ec.2
            omega
        · have q : ¬ D p < n := fun q => by
            have := h5 p c p0 p1 hp q he
            omega
          omega
      · have a2 := sm_le (fun c => (if D c = -1 then 0 else 1) + (if c = j then 1 else 0)) (fun c => if iv M' 80 c = -1 then 0 else 1) 40 (fun i i0 i1 => by
          show (if D i = -1 then (0 : Int) else 1) + (if i = j then 1 else 0) ≤ if iv M' 80 i = -1 then 0 else 1
          by_cases q : i = j
          · rw [q, if_pos j2, if_pos rfl, if_neg (by omega)]; omega
          · rw [if_neg q]
            by_cases q2 : D i = -1
            · rw [if_pos q2]; split <;> omega
            · have := (h3 i i0 i1).1
              rw [if_neg q2, keep i i0 i1 (by omega), if_neg q2]; omega)
        rw [sm_addf, sm_pt j 1 j0 j1] at a2
        exact a2
  refine vc_spreads n M _ ?_
  refine loop_up (fun c (s : Int × am_M) => (4, [.ref 58, .int (zi n), .int (zi s.1), .int (zi c), .null], [], s.2)) 40 (fun c s => P c 0 s.1 s.2) ?_ ?_ 0 (0, M) (by omega) (by omega) ?_
  · intro s hs
    have hs' := hs
    rw [eP] at hs'
    exact vc_spreads_4 _ _ _ s.2 _ ⟨by decide, fun q => by omega, fun _ => ⟨hs'.2.1, s.1, rfl, hs⟩⟩
  · intro c s c0 c1 hs kk
    refine vc_spreads_4 _ _ _ s.2 _ ⟨⟨by omega, by omega⟩, fun _ => ?_, fun q => by omega⟩
    refine loop_up (fun t (s : Int × am_M) => (13, [.ref 58, .int (zi n), .int (zi s.1), .int (zi c), .int (zi t)], [], s.2)) 40 (fun t s => P c t s.1 s.2) ?_ ?_ 0 s (by omega) (by omega) hs
    · intro s hs
      refine vc_spreads_13 _ _ _ _ s.2 _ ⟨by decide, fun q => by omega, fun _ => kk s ?_⟩
      rw [eP] at hs ⊢
      obtain ⟨p1, p2, p3, p4, p5⟩ := hs
      exact ⟨p1, p2, p3, fun p j a b c' d e => p4 p j a b c' d (by omega), p5⟩
    · intro t s t0 t1 hs k2
      have hs' := hs
      rw [eP] at hs'
      obtain ⟨p1, p2, p3, p4, p5⟩ := hs'
      have rs := mlr_80 r p1
      have ef := rs.1 t t0 t1
      have lev : iv s.2 80 c = n ↔ D c = n := by
        rcases p3 c c0 c1 with e | e
        · rw [e]
        · constructor <;> intro <;> omega
      have zn : zr n := ⟨by omega, by omega⟩
      have skip : (D c = n → edg L c t → ¬ iv s.2 80 t = -1) → am_x t_Mo_spreads (13, [.ref 58, .int (zi n), .int (zi s.1), .int (zi c), .int (zi (t + 1))], [], s.2) (fun rv M' => ∃ y, rv = some (.int (zi y)) ∧ P 40 0 y M') := fun hq => k2 s (by
        rw [eP]
        refine ⟨p1, p2, p3, fun p j a b c' d e f g => ?_, p5⟩
        by_cases z : p = c ∧ j = t
        · rw [z.1] at f g
          rw [z.2] at g ⊢
          exact hq f g
        · exact p4 p j a b c' d (by omega) f g)
      refine vc_spreads_13 _ _ _ _ s.2 _ ⟨⟨by omega, by omega⟩, fun _ => ⟨⟨c0, c1⟩, zn, fun hc => ⟨⟨t0, t1⟩, fun q => ?_, fun q => skip (fun _ he => ?_)⟩, fun hc => kk s ?_⟩, fun q => by omega⟩
      · have nt : ¬ L.code t = 0 := fun z => by rw [if_pos z] at ef; omega
        have dc := lev.mp hc
        have nc := (h3 c c0 c1).2.2 (by omega)
        refine ⟨⟨t0, t1⟩, fun q2 => ⟨_, s.2, sp_refers v rs c0 c1 nc t0 t1, dif01 _, fun q3 => skip (fun _ he => ?_), fun q3 => ⟨⟨t0, t1⟩, fun M9 e9 => ?_⟩⟩, fun q2 => skip (fun _ _ => q2)⟩
        · rw [bz_t he.2.2.2] at q3; omega
        · have hw : has L c (1000 + t) := by
            by_cases z : has L c (1000 + t)
            · exact z
            · exact absurd (bz_f z) q3
          have e80 : ∀ j, 0 ≤ j → iv M9 80 j = if j = t then n + 1 else iv s.2 80 j := fun j j0 => by rw [e9, ivs _ _ t0 j0 ⟨by omega, by omega⟩]
          have dt : D t = -1 := by
            rcases p3 t t0 t1 with e | e
            · rw [← e]; exact q2
            · exact e.1
          refine k2 (1, M9) ?_
          rw [eP]
          refine ⟨fun a ha => by show M9 a = M a; rw [e9, zupr _ ha, p1 a ha], Or.inr rfl, fun j j0 j1 => ?_, fun p j a b c' d e f g => ?_, fun _ => ⟨t, t0, t1, dt, by rw [e80 t t0, if_pos rfl]⟩⟩
          · show iv M9 80 j = D j ∨ _
            rw [e80 j j0]
            by_cases z : j = t
            · rw [if_pos z]
              exact Or.inr ⟨by rw [z]; exact dt, rfl, rfl, c, c0, c1, dc, ⟨c0, c1⟩, by rw [z]; exact ⟨t0, t1⟩, by rw [z]; exact nt, by rw [z]; exact hw⟩
            · rw [if_neg z]
              exact (p3 j j0 j1).imp id (fun y => ⟨y.1, y.2.1, rfl, y.2.2.2⟩)
          · show ¬ iv M9 80 j = -1
            rw [e80 j c']
            by_cases z : j = t
            · rw [if_pos z]; omega
            · rw [if_neg z]
              exact p4 p j a b c' d (by omega) f g
      · exfalso
        rw [if_neg he.2.2.1] at ef
        exact q ef
      · rw [eP]
        refine ⟨p1, p2, p3, fun p j a b c' d e f g => ?_, p5⟩
        by_cases z : p = c
        · rw [z] at f; exact absurd (lev.mpr f) hc
        · exact p4 p j a b c' d (by omega) f g
  · rw [eP]
    refine ⟨fun _ _ => rfl, Or.inl rfl, fun j _ _ => Or.inl (by rw [eD]), fun p j a b c' d e => by omega, fun q => by cases q⟩
def rhv (w m k b : Int) : Int := if w = 0 then k else if w = 1 then m else b
theorem m_reach_end {L : Lw} {M1 s : am_M} (v : VL L) {x w n : Int} (wz : zr w) (x0 : 0 ≤ x) (x1 : x < 40) (fr : MqF M1 s) (r : MLR L s) (n0 : 0 ≤ n) (n1 : n ≤ 40) (h : CHD L x (iv s 80)) (hm : isMx (iv s 80) n) (hf : ∀ c, 0 ≤ c → c < 40 → 0 ≤ iv s 80 c → ¬ L.code c = 0) :
    am_x t_Mo_reach (103, [.ref 58, .null, .int (zi x), .int (zi w), .int (zi n), .int (zi 0), .int (zi 0), .int (zi 0)], [], s) (fun rv M2 => MqF M1 M2 ∧ ∃ D m, CHD L x D ∧ isMx D m ∧ rv = some (.int (zi (rhv w m (rcd D) (bz (bck L x D)))))) := by
  refine loop_up (fun i (q : Int × Int) => (103, [.ref 58, .null, .int (zi x), .int (zi w), .int (zi n), .int (zi q.1), .int (zi q.2), .int (zi i)], [], s)) 40 (fun i q => q.1 = sm (fun c => if iv s 80 c = -1 then 0 else 1) i ∧ q.2 = bz (∃ c, 0 ≤ c ∧ c < i ∧ ¬ iv s 80 c = -1 ∧ has L c (1000 + x))) ?_ ?_ 0 (0, 0) (by omega) (by omega) ⟨rfl, (bz_f (by rintro ⟨c, c0, c1, _⟩; omega)).symm⟩
  · intro q ⟨q1, q2⟩
    refine vc_m_reach_103 _ _ _ _ _ _ s _ ⟨by decide, fun z => by omega, fun _ => ⟨wz, fun z => ⟨fr, iv s 80, n, h, hm, ?_⟩, fun z => ⟨fun y => ⟨fr, iv s 80, n, h, hm, ?_⟩, fun y => ⟨fr, iv s 80, n, h, hm, ?_⟩⟩⟩⟩
    · rw [rhv, if_pos z, q1]; rfl
    · rw [rhv, if_neg z, if_pos y]
    · rw [rhv, if_neg z, if_neg y, q2]; rfl
  · intro i q i0 i1 ⟨q1, q2⟩ k
    have e := sm_s (fun c => if iv s 80 c = -1 then 0 else 1) i0
    have hi := h.2.2.1 i i0 i1
    refine vc_m_reach_103 _ _ _ _ _ _ s _ ⟨⟨by omega, by omega⟩, fun _ => ⟨⟨i0, i1⟩, fun z => ⟨⟨i0, i1⟩, k (q.1 + 0, q.2) ⟨by rw [e, if_pos z, q1], ?_⟩⟩, fun z => ⟨⟨i0, i1⟩, _, s, sp_refers v r i0 i1 (hf i i0 i1 (by omega)) x0 x1, dif01 _, fun y => k (q.1 + 1, q.2) ⟨by rw [e, if_neg z, q1], ?_⟩, fun y => k (q.1 + 1, 1) ⟨by rw [e, if_neg z, q1], ?_⟩⟩⟩, fun z => by omega⟩
    · show q.2 = _
      rw [q2]
      by_cases u : ∃ c, 0 ≤ c ∧ c < i ∧ ¬ iv s 80 c = -1 ∧ has L c (1000 + x)
      · obtain ⟨c, c0, c1, c2⟩ := u
        rw [bz_t ⟨c, c0, c1, c2⟩, bz_t ⟨c, c0, by omega, c2⟩]
      · rw [bz_f u, bz_f (fun ⟨c, c0, c1, c2, c3⟩ => u ⟨c, c0, by
          by_cases w : c = i
          · rw [w] at c2; exact absurd z c2
          · omega, c2, c3⟩)]
    · show q.2 = _
      rw [q2]
      have nh : ¬ has L i (1000 + x) := fun u => by rw [bz_t u] at y; omega
      by_cases u : ∃ c, 0 ≤ c ∧ c < i ∧ ¬ iv s 80 c = -1 ∧ has L c (1000 + x)
      · obtain ⟨c, c0, c1, c2⟩ := u
        rw [bz_t ⟨c, c0, c1, c2⟩, bz_t ⟨c, c0, by omega, c2⟩]
      · rw [bz_f u, bz_f (fun ⟨c, c0, c1, c2, c3⟩ => u ⟨c, c0, by
          by_cases w : c = i
          · rw [w] at c3; exact absurd c3 nh
          · omega, c2, c3⟩)]
    · have hh : has L i (1000 + x) := by
        by_cases u : has L i (1000 + x)
        · exact u
        · exact absurd (bz_f u) y
      exact (bz_t ⟨i, i0, by omega, z, hh⟩).symm
theorem m_reach_tail {L : Lw} {M1 : am_M} (v : VL L) {x w : Int} (wz : zr w) (x0 : 0 ≤ x) (x1 : x < 40) : ∀ (f : Nat) (n : Int) (s : am_M), MqF M1 s → MLR L s → 0 ≤ n → SPL L x n (iv s 80) → 40 - rcd (iv s 80) ≤ f → n + 1 ≤ rcd (iv s 80) → rcd (iv s 80) ≤ 40 →
    am_x t_Mo_reach (79, [.ref 58, .null, .int (zi x), .int (zi w), .int (zi n), .null, .null, .null], [], s) (fun rv M2 => MqF M1 M2 ∧ ∃ D m, CHD L x D ∧ isMx D m ∧ rv = some (.int (zi (rhv w m (rcd D) (bz (bck L x D)))))) := by
  intro f
  induction f with
  | zero =>
    intro n s fr r n0 h hf hn h40
    obtain ⟨y, s', c1, c2, c3, c4, c5⟩ := sp_spreads v r h n0 (by omega)
    have key : y = 0 := by
      rcases c2 with e | e
      · exact e
      · have := (c5 e).2
        have a2 := sm_le (fun c => if iv s' 80 c = -1 then 0 else 1) (fun k => if k < 40 then 1 else 0) 40 (fun i _ hi => by
          show (if iv s' 80 i = -1 then (0 : Int) else 1) ≤ if i < 40 then 1 else 0
          rw [if_pos hi]
          split <;> omega)
        rw [sm_lt 40 40 (by omega) (by omega)] at a2
        unfold rcd at *
        omega
    refine vc_m_reach_79 _ _ _ s _ ⟨y, s', c1, by rcases c2 with e | e <;> (rw [e]; decide), fun _ => ?_, fun q => absurd key q⟩
    exact m_reach_end v wz x0 x1 (MqF_trans fr ⟨fun a ha => c3 a (by omega), fun j _ => by rw [c3 58 (by decide)]⟩) (mlr_80 r c3) n0 (by omega) (c4 key).1 (c4 key).2.1 (c4 key).2.2
  | succ f ih =>
    intro n s fr r n0 h hf hn h40
    obtain ⟨y, s', c1, c2, c3, c4, c5⟩ := sp_spreads v r h n0 (by omega)
    have fr' : MqF M1 s' := MqF_trans fr ⟨fun a ha => c3 a (by omega), fun j _ => by rw [c3 58 (by decide)]⟩
    refine vc_m_reach_79 _ _ _ s _ ⟨y, s', c1, by rcases c2 with e | e <;> (rw [e]; decide), fun q => ?_, fun q => ?_⟩
    · exact m_reach_end v wz x0 x1 fr' (mlr_80 r c3) n0 (by omega) (c4 q).1 (c4 q).2.1 (c4 q).2.2
    · have hy : y = 1 := by omega
      have a2 := sm_le (fun c => if iv s' 80 c = -1 then 0 else 1) (fun k => if k < 40 then 1 else 0) 40 (fun i _ hi => by
        show (if iv s' 80 i = -1 then (0 : Int) else 1) ≤ if i < 40 then 1 else 0
        rw [if_pos hi]
        split <;> omega)
      rw [sm_lt 40 40 (by omega) (by omega)] at a2
      have := (c5 hy).2
      refine ih (n + 1) s' fr' (mlr_80 r c3) (by omega) (c5 hy).1 (by omega) (by omega) ?_
      unfold rcd
      omega
theorem ia_le40 {b : Int → Int} (w : WB b) : ia b (nops b) ≤ 40 := w.ins
theorem q_reach {M : am_M} (s : CSt M) {d x y : Int} (dz : zr d) (xz : zr x) (yz : zr y) : QRY t_SB_reach t_Mo_reach [.ref 0, .int (zi d), .int (zi x), .int (zi y)] [.ref 58, .int (zi d), .int (zi x), .int (zi y)] M := by
  obtain ⟨w, cb⟩ := s
  have w1 := w.n1
  have wt := w.tot
  have wi := w.ins
  have n0 : 0 ≤ nops (iv M 59) := w.fo_nn (n := iv M 59 0) (Int.le_refl _)
  by_cases hl : (0 ≤ d ∧ d ≤ 9999) ∧ (0 ≤ x ∧ x < ia (iv M 59) (nops (iv M 59))) ∧ (0 ≤ y ∧ y ≤ 2)
  · obtain ⟨hd, hx, hy⟩ := hl
    obtain ⟨M4, h4, fr, r4, od⟩ := sp_c_consolidate M w cb dz (cas := -1) (by decide)
    have v := lw_VL w d (-1)
    obtain ⟨L, hL⟩ : ∃ L, L = lw (iv M 59) d (-1) := ⟨_, rfl⟩
    rw [← hL] at v r4
    by_cases nx : L.code x = 0
    · refine qry (-3) ⟨Nat.le_of_ble_eq_true rfl, rfl⟩ ⟨Nat.le_of_ble_eq_true rfl, rfl⟩ (vc_c_reach d x y M _ ⟨⟨dz, by decide⟩, fun _ => ⟨xz, fun _ => ⟨⟨yz, by decide⟩, fun _ => ⟨M4, h4, ⟨hx.1, by omega⟩, fun _ => ⟨rfl, CQ_15 fr⟩, fun q => absurd (by rw [r4.1 x hx.1 (by omega)]; exact nx) q⟩, fun q => absurd hy q⟩, fun q => absurd (by rw [cb.1.2.2.1]; exact hx) q⟩, fun q => absurd hd q⟩) (fun M1 hs => ?_)
      have g59 : iv M1 59 = iv M 59 := iv_row (hs 59 (by decide))
      obtain ⟨M', a1, a2, a3⟩ := ms_laws hs w dz (cas := -1) (by decide)
      rw [← hL] at a3
      have e64 := a3.1 x hx.1 (by omega)
      rw [if_pos nx] at e64
      exact vc_m_reach d x y M1 _ ⟨dz, fun _ => ⟨⟨xz, by rw [g59]; exact w1, by rw [g59]; exact n0, by rw [g59]; exact wt⟩, fun _ => ⟨⟨yz, by decide, by decide⟩, fun _ => ⟨M', a1, ⟨hx.1, by omega⟩, fun _ => ⟨rfl, MqF_lf a2⟩, fun q => absurd e64 q⟩, fun q => absurd hy q⟩, fun q => absurd (by rw [g59]; exact hx) q⟩, fun q => absurd hd q⟩
    · obtain ⟨M5, f1, f2, f3, f4, f5, f6, f7, f8⟩ := sp_follow v r4 hx.1 (by omega) nx
      have fr5 : CQ M M5 := CQ_trans (CQ_15 fr) (fun a ha => f2 a (by omega) (by omega) (by omega))
      refine qry (rhv y (iv M5 55 (iv M5 57 (iv M5 53 2 - 1))) (rcd (iv M5 55)) (bz (bck L x (iv M5 55)))) ⟨Nat.le_of_ble_eq_true rfl, rfl⟩ ⟨Nat.le_of_ble_eq_true rfl, rfl⟩ (vc_c_reach d x y M _ ⟨⟨dz, by decide⟩, fun _ => ⟨xz, fun _ => ⟨⟨yz, by decide⟩, fun _ => ⟨M4, h4, ⟨hx.1, by omega⟩, fun q => absurd (by rw [← r4.1 x hx.1 (by omega)]; exact q) nx, fun _ => ⟨M5, f1, yz, fun q => ⟨_, M5, am_call_of ⟨Nat.le_of_ble_eq_true rfl, rfl⟩ (vc_reached M5 _ ⟨rfl, rfl⟩), ?_, fr5⟩, fun q => ⟨_, M5, am_call_of ⟨Nat.le_of_ble_eq_true rfl, rfl⟩ (vc_greatestDistance M5 _ ⟨⟨by omega, by omega⟩, ⟨f6.1, f6.2⟩, rfl, rfl⟩), ?_, fr5⟩, fun q q' => ⟨iv M5 53 3, M5, am_call_of ⟨Nat.le_of_ble_eq_true rfl, rfl⟩ (vc_comesBack M5 _ ?_), iv_r _ _ _, fun z => ⟨?_, fr5⟩, fun z => ⟨?_, fr5⟩⟩⟩⟩, fun q => absurd hy q⟩, fun q => absurd (by rw [cb.1.2.2.1]; exact hx) q⟩, fun q => absurd hd q⟩) (fun M1 hs => ?_)
      · rw [rhv, if_pos q, f4]
      · rw [rhv, if_neg (by omega), if_pos q]
      · exact ⟨by rw [f8]; exact bz_01 _, rfl, rfl⟩
      · rw [rhv, if_neg q, if_neg q', ← f8, z]
      · have := bz_01 (bck L x (iv M5 55))
        rw [f8] at z
        rw [rhv, if_neg q, if_neg q', show bz (bck L x (iv M5 55)) = 1 by omega]
      · have g59 : iv M1 59 = iv M 59 := iv_row (hs 59 (by decide))
        obtain ⟨M', a1, a2, a3⟩ := ms_laws hs w dz (cas := -1) (by decide)
        rw [← hL] at a3
        have e64 := a3.1 x hx.1 (by omega)
        rw [if_neg nx] at e64
        refine vc_m_reach d x y M1 _ ⟨dz, fun _ => ⟨⟨xz, by rw [g59]; exact w1, by rw [g59]; exact n0, by rw [g59]; exact wt⟩, fun _ => ⟨⟨yz, by decide, by decide⟩, fun _ => ⟨M', a1, ⟨hx.1, by omega⟩, fun q => by omega, fun _ => ?_⟩, fun q => absurd hy q⟩, fun q => absurd (by rw [g59]; exact hx) q⟩, fun q => absurd hd q⟩
        have fin : ∀ rv M2, (MqF M1 M2 ∧ ∃ D m, CHD L x D ∧ isMx D m ∧ rv = some (.int (zi (rhv y m (rcd D) (bz (bck L x D)))))) → rv = some (Value.int (zi (rhv y (iv M5 55 (iv M5 57 (iv M5 53 2 - 1))) (rcd (iv M5 55)) (bz (bck L x (iv M5 55)))))) ∧ MqF M1 M2 := by
          rintro rv M2 ⟨g1, D, m, g2, g3, g4⟩
          have same : ∀ c, 0 ≤ c → c < 40 → D c = iv M5 55 c := fun c c0 c1 => CHD_eq g2 f3 c0 c1
          have em := isMx_eq g3 f7 same
          have er : rcd D = rcd (iv M5 55) := sm_congr (fun i i0 i1 => by
            show (if D i = -1 then (0 : Int) else 1) = if iv M5 55 i = -1 then 0 else 1
            rw [same i i0 i1])
          have eb : bz (bck L x D) = bz (bck L x (iv M5 55)) := by
            by_cases u : bck L x D
            · rw [bz_t u]
              obtain ⟨c, c0, c1, c2, c3⟩ := u
              exact (bz_t ⟨c, c0, c1, by rw [← same c c0 c1]; exact c2, c3⟩).symm
            · rw [bz_f u]
              exact (bz_f (fun ⟨c, c0, c1, c2, c3⟩ => u ⟨c, c0, c1, by rw [same c c0 c1]; exact c2, c3⟩)).symm
          rw [g4, em, er, eb]
          exact ⟨rfl, g1⟩
        refine am_xw (Q := fun rv M2 => MqF M1 M2 ∧ ∃ D m, CHD L x D ∧ isMx D m ∧ rv = some (.int (zi (rhv y m (rcd D) (bz (bck L x D)))))) ?_ fin
        refine loop_up (fun i (s : am_M) => (48, [.ref 58, .null, .int (zi x), .int (zi y), .int (zi i), .null, .null, .null], [], s)) 40 (fun i s => (∀ a, ¬ a = 80 → s a = M' a) ∧ ∀ c, 0 ≤ c → c < i → iv s 80 c = -1) ?_ ?_ 0 M' (by omega) (by omega) ⟨fun _ _ => rfl, fun c c0 c1 => by omega⟩
        · intro s ⟨s1, s2⟩
          refine vc_m_reach_48 _ _ _ s _ ⟨by decide, fun q => by omega, fun _ => ⟨⟨hx.1, by omega⟩, fun M6 e6 => ?_⟩⟩
          have d6 : ∀ c, 0 ≤ c → c < 40 → iv M6 80 c = if c = x then 0 else -1 := fun c c0 c1 => by
            rw [e6, ivs _ _ hx.1 c0 (by decide)]
            split
            · rfl
            · exact s2 c c0 c1
          have r6 : rcd (iv M6 80) = 1 := by
            have := cnt_new (D := fun _ => -1) (E := iv M6 80) (d := 0) hx.1 (show x < 40 by omega) rfl (by decide) (fun j j0 j1 => d6 j j0 j1)
            unfold rcd
            rw [this]
            rw [sm_congr (g := fun _ => 0) (fun i i0 i1 => if_pos rfl), sm_zero]
            rfl
          have o6 : ∀ a, ¬ a = 80 → M6 a = M' a := fun a ha => by rw [e6, zupr _ ha, s1 a ha]
          refine m_reach_tail v yz hx.1 (by omega) 40 0 M6 (MqF_trans (MqF_lf a2) ⟨fun a ha => o6 a (by omega), fun j _ => by rw [o6 58 (by decide)]⟩) (mlr_80 a3 o6) (by omega) ?_ (by omega) (by omega) (by omega)
          refine ⟨by rw [d6 x hx.1 (by omega), if_pos rfl], fun c c0 c1 hc => ?_, fun c c0 c1 => ?_, fun c m c0 c1 m0 hc => ?_, fun p c p0 p1 hp hp2 => by omega, ⟨x, hx.1, by omega, by rw [d6 x hx.1 (by omega), if_pos rfl]⟩⟩
          · rw [d6 c c0 c1] at hc
            by_cases e : c = x
            · exact e
            · rw [if_neg e] at hc; omega
          · rw [d6 c c0 c1]
            by_cases e : c = x
            · rw [if_pos e, e]; exact ⟨by decide, by decide, fun _ => nx⟩
            · rw [if_neg e]; exact ⟨by decide, by decide, fun q => by omega⟩
          · rw [d6 c c0 c1] at hc
            split at hc <;> omega
        · intro i s i0 i1 ⟨s1, s2⟩ k
          refine vc_m_reach_48 _ _ _ s _ ⟨⟨by omega, by omega⟩, fun _ => ⟨⟨i0, i1⟩, fun M2 e2 => k M2 ⟨fun a ha => by rw [e2, zupr _ ha, s1 a ha], fun c c0 c1 => ?_⟩⟩, fun q => by omega⟩
          rw [e2, ivs _ _ i0 c0 (by decide)]
          by_cases z : c = i
          · rw [if_pos z]
          · rw [if_neg z]; exact s2 c c0 (by omega)
  · refine qry (-2) ⟨Nat.le_of_ble_eq_true rfl, rfl⟩ ⟨Nat.le_of_ble_eq_true rfl, rfl⟩ (vc_c_reach d x y M _ ⟨⟨dz, by decide⟩, fun q => ⟨xz, fun q2 => ⟨⟨yz, by decide⟩, fun q3 => absurd ⟨q, by rw [cb.1.2.2.1] at q2; exact q2, q3⟩ hl, fun _ => ⟨rfl, CQ_refl M⟩⟩, fun _ => ⟨rfl, CQ_refl M⟩⟩, fun _ => ⟨rfl, CQ_refl M⟩⟩) (fun M1 hs => ?_)
    have g59 : iv M1 59 = iv M 59 := iv_row (hs 59 (by decide))
    exact vc_m_reach d x y M1 _ ⟨dz, fun q => ⟨⟨xz, by rw [g59]; exact w1, by rw [g59]; exact n0, by rw [g59]; exact wt⟩, fun q2 => ⟨⟨yz, by decide, by decide⟩, fun q3 => absurd ⟨q, by rw [g59] at q2; exact q2, q3⟩ hl, fun _ => ⟨rfl, MqF_refl M1⟩⟩, fun _ => ⟨rfl, MqF_refl M1⟩⟩, fun _ => ⟨rfl, MqF_refl M1⟩⟩
