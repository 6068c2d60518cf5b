/-! reach -/
def bck (L : Lw) (x : Int) (D : Int → Int) : Prop := ∃ c, 0 ≤ c ∧ c < 40 ∧ ¬ D c = -1 ∧ has L c (1000 + x)
def rcd (D : Int → Int) : Int := sm (fun c => if D c = -1 then 0 else 1) 40
theorem clr15_W {L : Lw} {M M' : am_M} (r : CLR15 L M) (h : ∀ a, ¬ a = 53 → ¬ a = 55 → ¬ a = 57 → M' a = M a) : CLR15 L M' := by
  unfold CLR15 at r ⊢
  rw [iv_row (h 17 (by decide) (by decide) (by decide)), iv_row (h 21 (by decide) (by decide) (by decide)), iv_row (h 19 (by decide) (by decide) (by decide)), iv_row (h 23 (by decide) (by decide) (by decide)), iv_row (h 27 (by decide) (by decide) (by decide)), iv_row (h 29 (by decide) (by decide) (by decide)), iv_row (h 15 (by decide) (by decide) (by decide)), iv_row (h 31 (by decide) (by decide) (by decide))]
  exact r
theorem sp_follow {L : Lw} {M : am_M} (v : VL L) (r : CLR15 L M) {x : Int} (x0 : 0 ≤ x) (x1 : x < 40) (nx : ¬ L.code x = 0) : ∃ M', am_call t_Wal_follow [.ref 53, .ref 15, .int (zi x)] M none M' ∧ (∀ a, ¬ a = 53 → ¬ a = 55 → ¬ a = 57 → M' a = M a) ∧ CHD L x (iv M' 55) ∧ iv M' 53 2 = rcd (iv M' 55) ∧ (0 < iv M' 53 2 ∧ iv M' 53 2 ≤ 40) ∧
    (0 ≤ iv M' 57 (iv M' 53 2 - 1) ∧ iv M' 57 (iv M' 53 2 - 1) < 40) ∧ isMx (iv M' 55) (iv M' 55 (iv M' 57 (iv M' 53 2 - 1))) ∧ iv M' 53 3 = bz (bck L x (iv M' 55)) := by
  suffices hh : am_x t_Wal_follow (0, am_ent (am_mL t_Wal_follow) [.ref 53, .ref 15, .int (zi x)], [], M) (fun rv M' => rv = none ∧ (∀ a, ¬ a = 53 → ¬ a = 55 → ¬ a = 57 → M' a = M a) ∧ CHD L x (iv M' 55) ∧ iv M' 53 2 = rcd (iv M' 55) ∧ (0 < iv M' 53 2 ∧ iv M' 53 2 ≤ 40) ∧
    (0 ≤ iv M' 57 (iv M' 53 2 - 1) ∧ iv M' 57 (iv M' 53 2 - 1) < 40) ∧ isMx (iv M' 55) (iv M' 55 (iv M' 57 (iv M' 53 2 - 1))) ∧ iv M' 53 3 = bz (bck L x (iv M' 55))) by
    obtain ⟨rv, M', h1, h2, h3⟩ := am_call_ex (by exact ⟨Nat.le_of_ble_eq_true rfl, rfl⟩) hh
    subst h2
    exact ⟨M', h1, h3⟩
  have zfr : ∀ (S : am_M) (a n : Nat) (z : Int) (c : Nat), c ≠ a → zfl S a n z c = S c := fun S a n z c hc => by
    funext j
    unfold zfl
    rw [if_neg (fun q => hc q.1)]
  refine vc_follow x M _ (fun M1 e1 M2 e2 M3 e3 => ?_)
  have fr3 : ∀ a, ¬ a = 53 → ¬ a = 55 → ¬ a = 57 → M3 a = M a := fun a a1 a2 a3 => by rw [e3, zupr _ a1, e2, zupr _ a1, e1, zfr _ _ _ _ _ a2]
  have d3 : ∀ c, 0 ≤ c → c < 40 → iv M3 55 c = -1 := fun c c0 c1 => by
    rw [e3, ivr _ (by decide), e2, ivr _ (by decide), e1, iv_zfl _ _ _ _ c0 (by decide), if_pos ⟨rfl, by omega⟩]
  have z32 : iv M3 53 2 = 0 := by rw [e3, ivs _ _ (by decide) (by decide) (by decide), if_neg (by decide), e2, ivs _ _ (by decide) (by decide) (by decide), if_pos rfl]
  have z33 : iv M3 53 3 = 0 := by rw [e3, ivs _ _ (by decide) (by decide) (by decide), if_pos rfl]
  obtain ⟨M4, m1, m2, _, m4⟩ := sp_meet (M := M3) (c := x) (d := 0) x0 x1 (by decide) (fun _ => by rw [z32]; decide)
  obtain ⟨n2, n3, n55, n57⟩ := m4 (d3 x x0 x1)
  rw [z32] at n2 n57
  have n2 : iv M4 53 2 = 1 := n2
  have c1s : sm (fun c => if iv M4 55 c = -1 then 0 else 1) 40 = 1 := by
    have := cnt_new (D := iv M3 55) (E := iv M4 55) (d := 0) x0 x1 (d3 x x0 x1) (by decide) (fun j j0 _ => n55 j j0)
    rw [this, sm_congr (g := fun _ => 0) (fun i i0 i1 => if_pos (d3 i i0 i1)), sm_zero]
    rfl
  have w55 : ∀ c, 0 ≤ c → c < 40 → iv M4 55 c = if c = x then 0 else -1 := fun c c0 c1 => by
    rw [n55 c c0]
    split
    · rfl
    · exact d3 c c0 c1
  have q0 : iv M4 57 0 = x := by rw [n57 0 (by decide), if_pos rfl]
  have wk0 : WK L x 0 0 M4 := by
    unfold WK
    rw [n2]
    refine ⟨fun c c0 c1 => ?_, c1s.symm, fun j j0 j1 => ?_, fun c c0 c1 hc => ?_, fun j l j0 jl l1 => ?_, ⟨by decide, ⟨x0, x1⟩, ?_⟩, fun c c0 c1 hc => ?_, fun c n c0 c1 n0 hc => ?_, fun j c j0 j1 => by omega, fun _ => ⟨fun l l0 l1 => ?_, fun w w0 w1 => by omega⟩⟩
    · rw [w55 c c0 c1]; split <;> omega
    · rw [show j = 0 by omega, q0, w55 x x0 x1, if_pos rfl]
      exact ⟨x0, x1, by decide, nx⟩
    · rw [w55 c c0 c1] at hc
      by_cases e : c = x
      · exact ⟨0, by decide, by decide, by rw [q0, e]⟩
      · rw [if_neg e] at hc; exact absurd rfl hc
    · rw [show j = 0 by omega, show l = 0 by omega]; exact Int.le_refl _
    · rw [w55 x x0 x1, if_pos rfl]
    · rw [w55 c c0 c1] at hc
      by_cases e : c = x
      · exact e
      · rw [if_neg e] at hc; omega
    · rw [w55 c c0 c1] at hc
      split at hc <;> omega
    · rw [show l = 0 by omega]; omega
  have wkb0 : WKB L x 0 0 M4 := by
    unfold WKB
    rw [n3, z33]
    exact ⟨Or.inl rfl, fun q => by omega, fun q => by
      rcases q with ⟨j, j0, j1, _⟩ | ⟨_, w, w0, w1, _⟩ <;> omega⟩
  refine ⟨M4, m1, ?_⟩
  refine loop_up (fun i (s : am_M) => (26, [.ref 53, .ref 15, .int (zi x), .int (zi i), .null, .null, .null], [], s)) 40 (fun i s => i ≤ iv s 53 2 ∧ WK L x i 0 s ∧ WKB L x i 0 s ∧ ∀ a, ¬ a = 53 → ¬ a = 55 → ¬ a = 57 → s a = M a) ?_ ?_ 0 M4 (by omega) (by omega) ⟨by rw [n2]; decide, wk0, wkb0, fun a a1 a2 a3 => by rw [m2 a a1 a2 a3, fr3 a a1 a2 a3]⟩
  all_goals
    have fin : ∀ (s : am_M) (i : Int), 0 ≤ i → i = iv s 53 2 → WK L x i 0 s → WKB L x i 0 s → CHD L x (iv s 55) ∧ iv s 53 2 = rcd (iv s 55) ∧ (0 < iv s 53 2 ∧ iv s 53 2 ≤ 40) ∧
        (0 ≤ iv s 57 (iv s 53 2 - 1) ∧ iv s 57 (iv s 53 2 - 1) < 40) ∧ isMx (iv s 55) (iv s 55 (iv s 57 (iv s 53 2 - 1))) ∧ iv s 53 3 = bz (bck L x (iv s 55)) := by
      intro s i i0 ei wk wkb
      have hr := wk_r wk
      obtain ⟨h1, h2, h3, h4, h5, h6, h7, h8, h9, h10⟩ := wk
      have last := h3 (iv s 53 2 - 1) (by omega) (by omega)
      refine ⟨⟨h6.2.2, h7, fun c c0 c1 => (h1 c c0 c1).1, h8, fun p c p0 p1 hp he => ?_⟩, h2, hr, ⟨last.1, last.2.1⟩, ⟨⟨_, last.1, last.2.1, rfl⟩, fun c c0 c1 => ?_⟩, ?_⟩
      · obtain ⟨j, j0, j1, j2⟩ := h4 p p0 p1 (by omega)
        have := h9 j c j0 (by omega) j1 (by rw [j2]; exact he)
        rw [j2] at this
        exact this
      · by_cases e : iv s 55 c = -1
        · have := h1 _ last.1 last.2.1; omega
        · obtain ⟨j, j0, j1, j2⟩ := h4 c c0 c1 e
          rw [← j2]
          exact h5 j _ j0 (by omega) (by omega)
      · obtain ⟨b1, b2⟩ := wkb
        by_cases e : bck L x (iv s 55)
        · rw [bz_t e]
          obtain ⟨c, c0, c1, c2, c3⟩ := e
          obtain ⟨j, j0, j1, j2⟩ := h4 c c0 c1 c2
          exact b2.mpr (Or.inl ⟨j, j0, by omega, j1, by rw [j2]; exact c3⟩)
        · rw [bz_f e]
          rcases b1 with z | z
          · exact z
          · refine absurd ?_ e
            rcases b2.mp z with ⟨j, j0, j1, j2, j3⟩ | ⟨j1, _⟩
            · exact ⟨_, (h3 j j0 j2).1, (h3 j j0 j2).2.1, (h3 j j0 j2).2.2.1, j3⟩
            · omega
  · intro s ⟨s1, s2, s3, s4⟩
    have hr := wk_r s2
    have f := fin s 40 (by omega) (by omega) s2 s3
    exact vc_follow_26 _ _ s _ ⟨by decide, fun q => by omega, fun _ => ⟨rfl, s4, f⟩⟩
  · intro i s i0 i1 ⟨s1, s2, s3, s4⟩ kk
    refine vc_follow_26 _ _ s _ ⟨⟨by omega, by omega⟩, fun q => ⟨fun _ => ⟨⟨i0, i1⟩, ?_⟩, fun z => by omega⟩, fun q => ⟨rfl, s4, fin s i i0 (by omega) s2 s3⟩⟩
    obtain ⟨p, ep⟩ : ∃ p, p = iv s 57 i := ⟨_, rfl⟩
    have hp := s2.2.2.1 i i0 q
    rw [← ep] at hp ⊢
    have lp := v.ln p hp.1 hp.2.1 hp.2.2.2
    refine loop_up (fun k (t : am_M) => (53, [.ref 53, .ref 15, .int (zi x), .int (zi i), .int (zi p), .int (zi k), .null], [], t)) (L.len p) (fun k t => i < iv t 53 2 ∧ iv t 57 i = p ∧ WK L x i k t ∧ WKB L x i k t ∧ ∀ a, ¬ a = 53 → ¬ a = 55 → ¬ a = 57 → t a = M a) ?_ ?_ 0 s (by omega) lp.1 ⟨q, ep.symm, s2, s3, s4⟩
    · intro t ⟨t1, t2, t3, t4, t5⟩
      have rt := clr15_W r t5
      refine vc_follow_53 _ _ _ _ t _ ⟨⟨hp.1, hp.2.1⟩, ⟨by omega, by omega⟩, fun z => by rw [(rt.2.1 p hp.1 hp.2.1 hp.2.2.2).1] at z; omega, fun _ => kk t ⟨by omega, wk_done v (by rw [t2]; exact t3) i0 t1, ?_, t5⟩⟩
      obtain ⟨b1, b2⟩ := t4
      refine ⟨b1, b2.trans ⟨fun z => ?_, fun z => ?_⟩⟩
      · rcases z with ⟨j, j0, j1, j2, j3⟩ | ⟨_, w, w0, w1, w2⟩
        · exact Or.inl ⟨j, j0, by omega, j2, j3⟩
        · rw [t2] at w2
          exact Or.inl ⟨i, i0, by omega, t1, by rw [t2]; exact ⟨w, w0, w1, w2⟩⟩
      · rcases z with ⟨j, j0, j1, j2, j3⟩ | ⟨_, w, w0, w1, _⟩
        · by_cases e : j = i
          · rw [e, t2] at j3
            obtain ⟨w, w0, w1, w2⟩ := j3
            exact Or.inr ⟨t1, w, w0, w1, by rw [t2]; exact w2⟩
          · exact Or.inl ⟨j, j0, by omega, j2, j3⟩
        · omega
    · intro k t k0 k1 ⟨t1, t2, t3, t4, t5⟩ k2
      have rt := clr15_W r t5
      have wt := v.wt p k hp.1 hp.2.1 hp.2.2.2 k0 k1
      have tg := sp_l15_target v rt hp.1 hp.2.1 hp.2.2.2 k0 k1
      have hr := wk_r t3
      /- one word more, as to the first clause -/
      have bstep : ∀ t' : am_M, iv t' 53 2 = iv t 53 2 → iv t' 57 = iv t 57 → (L.tx p k = 1000 + x → iv t' 53 3 = 1) → (¬ L.tx p k = 1000 + x → iv t' 53 3 = iv t 53 3) → WKB L x i (k + 1) t' := by
        intro t' a1 a2 a3 a4
        obtain ⟨b1, b2⟩ := t4
        unfold WKB
        rw [a1, a2]
        by_cases e : L.tx p k = 1000 + x
        · rw [a3 e]
          exact ⟨Or.inr rfl, fun _ => Or.inr ⟨t1, k, k0, by omega, by rw [t2]; exact e⟩, fun _ => rfl⟩
        · rw [a4 e]
          refine ⟨b1, b2.trans ⟨fun z => z.imp id (fun ⟨y, w, w0, w1, w2⟩ => ⟨y, w, w0, by omega, w2⟩), fun z => z.imp id (fun ⟨y, w, w0, w1, w2⟩ => ⟨y, w, w0, ?_, w2⟩)⟩⟩
          by_cases e2 : w = k
          · rw [e2, t2] at w2; exact absurd w2 e
          · omega
      refine vc_follow_53 _ _ _ _ t _ ⟨⟨hp.1, hp.2.1⟩, ⟨by omega, by omega⟩, fun z => ⟨_, t, tg, ?_⟩, fun z => by rw [(rt.2.1 p hp.1 hp.2.1 hp.2.2.2).1] at z; omega⟩
      by_cases pl : L.tx p k < 1000
      · rw [if_pos pl]
        exact ⟨by decide, ⟨by omega, by omega⟩, fun y => by omega, fun _ => ⟨fun _ => k2 t ⟨t1, t2, wk_skip t3 (by rw [t2]; exact Or.inl pl), bstep t rfl rfl (fun y => by omega) (fun _ => rfl), t5⟩, fun y => absurd rfl y⟩⟩
      · rw [if_neg pl]
        obtain ⟨c, ec⟩ : ∃ c, c = L.tx p k - 1000 := ⟨_, rfl⟩
        rw [← ec]
        have c0 : 0 ≤ c := by omega
        have c1 : c < 40 := by omega
        /- the clause that is referred to, in a memory where the first one is marked if it is meant -/
        have go : ∀ u : am_M, (∀ a, ¬ a = 53 → u a = t a) → iv u 53 2 = iv t 53 2 → WKB L x i (k + 1) u → (0 ≤ c ∧ c < 40) ∧ ((iv u 17 c = 0 → am_x t_Wal_follow (53, [.ref 53, .ref 15, .int (zi x), .int (zi i), .int (zi p), .int (zi (k + 1)), .null], [], u) (fun rv M' => rv = none ∧ (∀ a, ¬ a = 53 → ¬ a = 55 → ¬ a = 57 → M' a = M a) ∧ CHD L x (iv M' 55) ∧ iv M' 53 2 = rcd (iv M' 55) ∧ (0 < iv M' 53 2 ∧ iv M' 53 2 ≤ 40) ∧ (0 ≤ iv M' 57 (iv M' 53 2 - 1) ∧ iv M' 57 (iv M' 53 2 - 1) < 40) ∧ isMx (iv M' 55) (iv M' 55 (iv M' 57 (iv M' 53 2 - 1))) ∧ iv M' 53 3 = bz (bck L x (iv M' 55)))) ∧ (¬ iv u 17 c = 0 → (0 ≤ p ∧ p < 40) ∧ ∃ M7, am_call t_Wal_meet [.ref 53, .int (zi c), .int (zi (iv u 55 p + 1))] u none M7 ∧ am_x t_Wal_follow (53, [.ref 53, .ref 15, .int (zi x), .int (zi i), .int (zi p), .int (zi (k + 1)), .null], [], M7) (fun rv M' => rv = none ∧ (∀ a, ¬ a = 53 → ¬ a = 55 → ¬ a = 57 → M' a = M a) ∧ CHD L x (iv M' 55) ∧ iv M' 53 2 = rcd (iv M' 55) ∧ (0 < iv M' 53 2 ∧ iv M' 53 2 ≤ 40) ∧ (0 ≤ iv M' 57 (iv M' 53 2 - 1) ∧ iv M' 57 (iv M' 53 2 - 1) < 40) ∧ isMx (iv M' 55) (iv M' 55 (iv M' 57 (iv M' 53 2 - 1))) ∧ iv M' 53 3 = bz (bck L x (iv M' 55))))) := by
          intro u u1 u2 u3
          have uk : WK L x i k u := wk_rows t3 (u1 55 (by decide)) (u1 57 (by decide)) u2
          have u57 : iv u 57 i = p := by rw [iv_row (u1 57 (by decide)), t2]
          have u5 : ∀ a, ¬ a = 53 → ¬ a = 55 → ¬ a = 57 → u a = M a := fun a a1 a2 a3 => (u1 a a1).trans (t5 a a1 a2 a3)
          have e17 : iv u 17 c = L.code c := (clr15_W r u5).1 c c0 c1
          rw [e17]
          have dp := uk.1 p hp.1 hp.2.1
          refine ⟨⟨c0, c1⟩, fun y => k2 u ⟨by omega, u57, wk_skip uk (by rw [u57, ← ec]; exact Or.inr y), u3, u5⟩, fun y => ⟨⟨hp.1, hp.2.1⟩, ?_⟩⟩
          obtain ⟨M7, f1, f2, f3, f4⟩ := sp_meet (M := u) (c := c) (d := iv u 55 p + 1) c0 c1 ⟨by omega, by omega⟩ (fun hn => by
            have := cnt_lt (D := iv u 55) c0 c1 hn
            rw [uk.2.1]; exact this)
          refine ⟨M7, f1, k2 M7 ?_⟩
          by_cases hn : iv u 55 c = -1
          · obtain ⟨g2, g3, g55, g57⟩ := f4 hn
            have wk' := wk_new v uk i0 (by omega) k0 (by rw [u57]; exact k1) (t := c) (by rw [u57]; omega) c0 c1 y hn g2 (by rw [u57]; exact g55) g57
            refine ⟨by omega, by rw [g57 i i0, if_neg (by omega), u57], wk', ?_, fun a a1 a2 a3 => by rw [f2 a a1 a2 a3, u5 a a1 a2 a3]⟩
            obtain ⟨b1, b2⟩ := u3
            unfold WKB
            rw [g3, g2]
            have q57 : ∀ j, 0 ≤ j → j ≤ i → iv M7 57 j = iv u 57 j := fun j j0 j1 => by rw [g57 j j0, if_neg (by omega)]
            refine ⟨b1, b2.trans ⟨fun z => ?_, fun z => ?_⟩⟩
            · rcases z with ⟨j, j0, j1, j2, j3⟩ | ⟨j1, w, w0, w1, w2⟩
              · exact Or.inl ⟨j, j0, j1, by omega, by rw [q57 j j0 (by omega)]; exact j3⟩
              · exact Or.inr ⟨by omega, w, w0, w1, by rw [q57 i i0 (Int.le_refl _)]; exact w2⟩
            · rcases z with ⟨j, j0, j1, j2, j3⟩ | ⟨j1, w, w0, w1, w2⟩
              · exact Or.inl ⟨j, j0, j1, by omega, by rw [q57 j j0 (by omega)] at j3; exact j3⟩
              · exact Or.inr ⟨by omega, w, w0, w1, by rw [q57 i i0 (Int.le_refl _)] at w2; exact w2⟩
          · rw [f3 hn]
            exact ⟨by omega, u57, wk_old uk (by omega) i0 (by rw [u57]; omega) (by rw [u57, ← ec]; exact hn) (by rw [u57]; omega) (by rw [u57]; omega), u3, u5⟩
        refine ⟨⟨by omega, by omega⟩, ⟨by omega, by omega⟩, fun y M6 e6 => ⟨fun w => by omega, fun _ => go M6 (fun a ha => by rw [e6, zupr _ ha]) (by rw [e6, ivs _ _ (by decide) (by decide) (by decide), if_neg (by decide)]) (bstep M6 (by rw [e6, ivs _ _ (by decide) (by decide) (by decide), if_neg (by decide)]) (by rw [e6, ivr _ (by decide)]) (fun _ => by rw [e6, ivs _ _ (by decide) (by decide) (by decide), if_pos rfl]) (fun w => by omega))⟩, fun y => ⟨fun w => by omega, fun _ => go t (fun _ _ => rfl) rfl (bstep t rfl rfl (fun w => by omega) (fun _ => rfl))⟩⟩
