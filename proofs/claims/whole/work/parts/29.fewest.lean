/-! fewest revocations -/
theorem nkf_du {b off off' : Int → Int} {day last : Int} : ∀ k : Nat, (∀ a : Int, 0 ≤ a → a < k → (du b off day a ↔ du b off' day a)) → nkf b off day last k = nkf b off' day last k := by
  intro k
  induction k with
  | zero => intro _; rfl
  | succ k ih =>
    intro h
    have e := ih (fun a a0 a1 => h a a0 (by omega))
    have e2 := h k (by omega) (by omega)
    unfold nkf
    rw [e]
    by_cases q : du b off day k ∧ last < ky b k ∧ (nkf b off' day last k = -1 ∨ ky b k < nkf b off' day last k)
    · rw [if_pos q, if_pos ⟨e2.mp q.1, q.2⟩]
    · rw [if_neg q, if_neg (fun z => q ⟨e2.mpr z.1, z.2⟩)]
theorem con_du {b off off' : Int → Int} {day cas : Int} (h : ∀ a, 0 ≤ a → a < b 0 → (du b off day a ↔ du b off' day a)) : con b off day cas = con b off' day cas := by
  have key : ∀ (f : Nat) (last : Int) (L : Lw), crf b off day cas f last L = crf b off' day cas f last L := by
    intro f
    induction f with
    | zero => intro _ _; rfl
    | succ f ih =>
      intro last L
      have e : nk b off day last = nk b off' day last := nkf_du _ (fun a a0 a1 => h a a0 (by omega))
      unfold crf
      rw [e]
      split
      · rfl
      · exact ih _ _
  exact key _ _ _
theorem least_or (p : Int → Prop) (n : Int) : (∀ a, 0 ≤ a → a < n → ¬ p a) ∨ ∃ a, 0 ≤ a ∧ a < n ∧ p a ∧ ∀ x, 0 ≤ x → x < a → ¬ p x := by
  have key : ∀ k : Nat, (∀ a : Int, 0 ≤ a → a < k → ¬ p a) ∨ ∃ a : Int, 0 ≤ a ∧ a < k ∧ p a ∧ ∀ x, 0 ≤ x → x < a → ¬ p x := by
    intro k
    induction k with
    | zero => exact Or.inl (fun a a0 a1 => by omega)
    | succ k ih =>
      rcases ih with h | ⟨a, a0, a1, a2⟩
      · by_cases q : p k
        · exact Or.inr ⟨k, by omega, by omega, q, h⟩
        · refine Or.inl (fun a a0 a1 => ?_)
          by_cases e : a = k
          · rw [e]; exact q
          · exact h a a0 (by omega)
      · exact Or.inr ⟨a, a0, by omega, a2⟩
  rcases key n.toNat with h | ⟨a, a0, a1, a2⟩
  · exact Or.inl (fun a a0 a1 => h a a0 (by omega))
  · exact Or.inr ⟨a, a0, by omega, a2⟩
/-- what the class looks at -/
def gcl (b : Int → Int) (day x y z : Int) : Prop := (b (21 + x) = 0 ∧ b (1 + x) ≤ day) ∧ (b (21 + y) = 0 ∧ b (1 + y) ≤ day) ∧ wwd (con b (goff b x y) day (-1)) z = 0
theorem gon_1 {b : Int → Int} {day z x : Int} (h0 : ¬ wwd (lw b day (-1)) z = 0) : gon b day x x z ↔ gcl b day x x z := by
  constructor
  · rintro ⟨⟨h1, _⟩, h2⟩
    by_cases q : b (1 + x) ≤ day
    · exact ⟨⟨h1, q⟩, ⟨h1, q⟩, h2⟩
    · exfalso
      apply h0
      rw [← h2]
      have : con b (goff b x x) day (-1) = lw b day (-1) := con_du (fun a _ _ => by
        unfold du goff rvk
        by_cases e : a = x
        · subst e
          constructor
          · rintro ⟨_, u⟩; exact absurd u q
          · rintro ⟨_, u⟩; exact absurd u q
        · rw [if_neg (by omega)])
      rw [this]
  · rintro ⟨h1, h2, h3⟩
    exact ⟨⟨h1.1, h1.1⟩, h3⟩
theorem gon_2 {b : Int → Int} {day z x y : Int} (hx : ¬ gon b day x x z) (hy : ¬ gon b day y y z) : gon b day x y z ↔ gcl b day x y z := by
  constructor
  · rintro ⟨⟨h1, h1'⟩, h2⟩
    refine ⟨⟨h1, ?_⟩, ⟨h1', ?_⟩, h2⟩
    · by_cases q : b (1 + x) ≤ day
      · exact q
      · exfalso
        refine hy ⟨⟨h1', h1'⟩, ?_⟩
        rw [← h2]
        congr 1
        refine con_du (fun a _ _ => ?_)
        unfold du goff
        by_cases e : a = x
        · subst e
          constructor
          · rintro ⟨_, u⟩; exact absurd u q
          · rintro ⟨_, u⟩; exact absurd u q
        · by_cases e2 : a = y
          · rw [if_pos (Or.inl e2), if_pos (Or.inr e2)]
          · rw [if_neg (by omega), if_neg (by omega)]
    · by_cases q : b (1 + y) ≤ day
      · exact q
      · exfalso
        refine hx ⟨⟨h1, h1⟩, ?_⟩
        rw [← h2]
        congr 1
        refine con_du (fun a _ _ => ?_)
        unfold du goff
        by_cases e : a = y
        · subst e
          constructor
          · rintro ⟨_, u⟩; exact absurd u q
          · rintro ⟨_, u⟩; exact absurd u q
        · by_cases e2 : a = x
          · rw [if_pos (Or.inl e2), if_pos (Or.inl e2)]
          · rw [if_neg (by omega), if_neg (by omega)]
  · rintro ⟨h1, h2, h3⟩
    exact ⟨⟨h1.1, h2.1⟩, h3⟩
theorem zor_comm (x y : Int) : zor x y = zor y x := by
  unfold zor
  congr 1
  refine b_ext (fun i hi => ?_)
  rw [b_or, b_or, Bool.or_comm]
theorem sp_isCarriedOut {M : am_M} {b : Int → Int} (w : WB b) (cb : CBR (iv M 11) b) {a d : Int} (a0 : 0 ≤ a) (a1 : a < b 0) (dz : zr d) : am_call t_SB_isCarriedOut [.ref 0, .int (zi a), .int (zi d)] M (some (.int (zi (bz (b (21 + a) = 0 ∧ b (1 + a) ≤ d))))) M := by
  have w1 := w.n1
  have rv := w.rev a a0 a1
  have e4 := cb.2.2 a a0 (by omega)
  rw [if_pos a1] at e4
  refine am_call_of ⟨Nat.le_of_ble_eq_true rfl, rfl⟩ (vc_isCarriedOut a d M _ ?_)
  rw [e4, cb.1.2.2.2.1 a a0 a1]
  exact ⟨fun q => ⟨by rw [bz_f (by omega)], rfl⟩, fun q => ⟨⟨a0, by omega⟩, dz, fun q2 => ⟨by rw [bz_f (by omega)], rfl⟩, fun q2 => ⟨by rw [bz_t ⟨by omega, q2⟩], rfl⟩⟩⟩
theorem sp_vanishes {M : am_M} {b off : Int → Int} (w : WB b) (cb : CBR (iv M 11) b) {d z t : Int} (dz : zr d) (zz : zr z) (ho : ∀ a, 0 ≤ a → a < b 0 → (zand (zshr (zor (iv M 11 3) t) a) 1 = 0 ↔ off a = 0)) :
    ∃ M', am_call t_SB_vanishes [.ref 0, .int (zi d), .int (zi z), .int (zi t)] M (some (.int (zi (bz (wwd (con b off d (-1)) z = 0))))) M' ∧ CFr15 M M' := by
  obtain ⟨M1, h1, h2, h3, h4⟩ := sp_l15_consolidate M (off := off) w cb.1 d (-1) (zor (iv M 11 3) t) dz (by decide) ho
  have v : VL (con b off d (-1)) := (con_is w).1.1
  refine ⟨M1, am_call_of ⟨Nat.le_of_ble_eq_true rfl, rfl⟩ (vc_vanishes d z t M _ ⟨M1, h1, _, M1, sp_l15_clausesWith v h3 h4 zz, wwd_zr _ _, fun q => ⟨by rw [bz_t q], rfl⟩, fun q => ⟨by rw [bz_f q], rfl⟩⟩), h2⟩
theorem van_bits {M : am_M} {b : Int → Int} (w : WB b) (cb : CBR (iv M 11) b) {x y a : Int} (x0 : 0 ≤ x) (x1 : x < 20) (y0 : 0 ≤ y) (y1 : y < 20) (a0 : 0 ≤ a) (a1 : a < b 0) : zand (zshr (zor (iv M 11 3) (zor (zshl 1 y) (zshl 1 x))) a) 1 = 0 ↔ goff b x y a = 0 := by
  have w1 := w.n1
  have rv := w.rev a a0 a1
  rw [zb_is _ a0 (by omega), zb_or, zb_or, zb_1 y0 (by omega) a0 (by omega), zb_1 x0 (by omega) a0 (by omega), cbr_b w cb a0 a1]
  unfold goff
  by_cases q : a = x ∨ a = y
  · rw [if_pos q]
    rcases q with q | q <;> (rw [decide_eq_true q]; simp)
  · rw [if_neg q, decide_eq_false (p := a = y) (by omega), decide_eq_false (p := a = x) (by omega)]
    rcases rv with e | e <;> (rw [e]; decide)
theorem van_bit1 {M : am_M} {b : Int → Int} (w : WB b) (cb : CBR (iv M 11) b) {x a : Int} (x0 : 0 ≤ x) (x1 : x < 20) (a0 : 0 ≤ a) (a1 : a < b 0) : zand (zshr (zor (iv M 11 3) (zshl 1 x)) a) 1 = 0 ↔ goff b x x a = 0 := by
  have h := van_bits w cb x0 x1 x0 x1 a0 a1
  have e : zor (zshl 1 x) (zshl 1 x) = zshl 1 x := by
    unfold zor zshl
    rw [zi_of]
    congr 1
    refine b_ext (fun i hi => ?_)
    rw [b_or, Bool.or_self]
  rwa [e] at h
theorem q_fewest {M : am_M} (s : CSt M) {d z : Int} (dz : zr d) (zz : zr z) : QRY t_SB_fewestRevocations t_Mo_fewestRevocations [.ref 0, .int (zi d), .int (zi z)] [.ref 58, .int (zi d), .int (zi z)] M := by
  obtain ⟨w, cb⟩ := s
  have w1 := w.n1
  have w0 := w.n0
  by_cases hl : (0 ≤ d ∧ d ≤ 9999) ∧ (0 ≤ z ∧ z ≤ 999)
  · obtain ⟨hd, hz⟩ := hl
    obtain ⟨b, hb⟩ : ∃ b, b = iv M 59 := ⟨_, rfl⟩
    rw [← hb] at w cb w1 w0
    have v := lw_VL w d (-1)
    obtain ⟨Mv, va, vf⟩ := sp_vanishes (M := M) (off := rvk b) w cb dz zz (t := 0) (fun a a0 a1 => by
      have rv := w.rev a a0 a1
      rw [zb_is _ a0 (by omega), zb_or, zb_0, Bool.or_false, cbr_b w cb a0 a1]
      unfold rvk
      rcases rv with e | e <;> (rw [e]; decide))
    have va : am_call t_SB_vanishes [.ref 0, .int (zi d), .int (zi z), .int (zi 0)] M (some (.int (zi (bz (wwd (lw b d (-1)) z = 0))))) Mv := va
    by_cases h0 : wwd (lw b d (-1)) z = 0
    · rw [bz_t h0] at va
      refine qry 0 ⟨Nat.le_of_ble_eq_true rfl, rfl⟩ ⟨Nat.le_of_ble_eq_true rfl, rfl⟩ (vc_c_fewest d z M _ ⟨⟨dz, by decide⟩, fun _ => ⟨⟨zz, by decide⟩, fun _ => ⟨_, Mv, va, by decide, fun q => by omega, fun _ => ⟨rfl, CQ_15 vf⟩⟩, fun q => absurd hz q⟩, fun q => absurd hd q⟩) (fun M1 hs => ?_)
      obtain ⟨M', a1, a2, a3⟩ := ms_laws hs (hb ▸ w) dz (cas := -1) (by decide)
      rw [← hb] at a3
      exact vc_m_fewest d z M1 _ ⟨dz, fun _ => ⟨⟨zz, by decide, by decide⟩, fun _ => ⟨M', a1, _, M', sp_withWord v a3 zz, wwd_zr _ _, fun _ => ⟨rfl, MqF_lf a2⟩, fun q => absurd h0 q⟩, fun q => absurd hz q⟩, fun q => absurd hd q⟩
    · rw [bz_f h0] at va
      /- the class's tests, in any memory of its own -/
      have ct : ∀ s : am_M, CFr15 M s → ∀ a, 0 ≤ a → a < b 0 → am_call t_SB_isCarriedOut [.ref 0, .int (zi a), .int (zi d)] s (some (.int (zi (bz (b (21 + a) = 0 ∧ b (1 + a) ≤ d))))) s := fun s hs a a0 a1 => sp_isCarriedOut w (by rw [iv_row (hs.1 11 (by decide) (by decide))]; exact cb) a0 a1 dz
      have cv1 : ∀ s : am_M, CFr15 M s → ∀ a, 0 ≤ a → a < b 0 → ∃ s', am_call t_SB_vanishes [.ref 0, .int (zi d), .int (zi z), .int (zi (zshl 1 a))] s (some (.int (zi (bz (wwd (con b (goff b a a) d (-1)) z = 0))))) s' ∧ CFr15 M s' := fun s hs a a0 a1 => by
        have cbs : CBR (iv s 11) b := by rw [iv_row (hs.1 11 (by decide) (by decide))]; exact cb
        obtain ⟨s', x1, x2⟩ := sp_vanishes (M := s) (off := goff b a a) w cbs dz zz (t := zshl 1 a) (fun x x0 x1 => van_bit1 w cbs a0 (by omega) x0 x1)
        exact ⟨s', x1, CFr15_trans hs x2⟩
      have cv2 : ∀ s : am_M, CFr15 M s → ∀ l h, 0 ≤ l → l < b 0 → 0 ≤ h → h < b 0 → ∃ s', am_call t_SB_vanishes [.ref 0, .int (zi d), .int (zi z), .int (zi (zor (zshl 1 h) (zshl 1 l)))] s (some (.int (zi (bz (wwd (con b (goff b l h) d (-1)) z = 0))))) s' ∧ CFr15 M s' := fun s hs l h l0 l1 h0 h1 => by
        have cbs : CBR (iv s 11) b := by rw [iv_row (hs.1 11 (by decide) (by decide))]; exact cb
        obtain ⟨s', x1, x2⟩ := sp_vanishes (M := s) (off := goff b l h) w cbs dz zz (t := zor (zshl 1 h) (zshl 1 l)) (fun x x0 x1 => van_bits w cbs l0 (by omega) h0 (by omega) x0 x1)
        exact ⟨s', x1, CFr15_trans hs x2⟩
      have bzr : ∀ P : Prop, zr (bz P) := dif01
      have bne : ∀ {P : Prop}, ¬ bz P = 0 → P := fun {P} q => by
        by_cases y : P
        · exact y
        · exact absurd (bz_f y) q
      have beq : ∀ {P : Prop}, bz P = 0 → ¬ P := fun {P} q y => by rw [bz_t y] at q; omega
      /- the class's look at one, and at two -/
      have c1 : ∀ (s : am_M) (a : Int) (Q : Option Value → am_M → Prop), CFr15 M s → 0 ≤ a → a < b 0 → (¬ gon b d a a z → ∀ s', CFr15 M s' → am_x t_SB_fewestRevocations (37, [.ref 0, .int (zi d), .int (zi z), .int (zi (a + 1)), .null, .null], [], s') Q) → (gon b d a a z → ∀ s', CFr15 M s' → Q (some (.int (zi (zshl 1 a)))) s') →
          am_x t_SB_fewestRevocations (37, [.ref 0, .int (zi d), .int (zi z), .int (zi a), .null, .null], [], s) Q := by
        intro s a Q hs a0 a1 kn ky
        have e0 : iv s 11 0 = b 0 := by rw [iv_row (hs.1 11 (by decide) (by decide))]; exact cb.1.1
        obtain ⟨s', x1, x2⟩ := cv1 s hs a a0 a1
        have g1 := gon_1 (x := a) h0
        refine vc_c_fewest_37 _ _ _ s _ ⟨⟨by omega, by omega⟩, fun _ => ⟨_, s, ct s hs a a0 a1, bzr _, fun q => kn (fun y => beq q (g1.mp y).1) s hs, fun q => ⟨_, s', x1, bzr _, fun q2 => kn (fun y => beq q2 (g1.mp y).2.2) s' x2, fun q2 => ky (g1.mpr ⟨bne q, bne q, bne q2⟩) s' x2⟩⟩, fun q => by omega⟩
      have c2 : ∀ (s : am_M) (l h : Int) (Q : Option Value → am_M → Prop), (∀ a, 0 ≤ a → a < b 0 → ¬ gon b d a a z) → CFr15 M s → 0 ≤ l → l < h → h < b 0 → (¬ gon b d l h z → ∀ s', CFr15 M s' → am_x t_SB_fewestRevocations (95, [.ref 0, .int (zi d), .int (zi z), .int (zi h), .int (zi (l + 1)), .null], [], s') Q) → (gon b d l h z → ∀ s', CFr15 M s' → Q (some (.int (zi (zor (zshl 1 h) (zshl 1 l))))) s') →
          am_x t_SB_fewestRevocations (95, [.ref 0, .int (zi d), .int (zi z), .int (zi h), .int (zi l), .null], [], s) Q := by
        intro s l h Q hg hs l0 lh h1 kn ky
        obtain ⟨s', x1, x2⟩ := cv2 s hs l h l0 (by omega) (by omega) h1
        have g2 := gon_2 (hg l l0 (by omega)) (hg h (by omega) h1)
        refine vc_c_fewest_95 _ _ _ _ s _ ⟨⟨by omega, by omega⟩, ⟨by omega, by omega⟩, fun _ => ⟨_, s, ct s hs h (by omega) h1, bzr _, fun q => kn (fun y => beq q (g2.mp y).2.1) s hs, fun q => ⟨_, s, ct s hs l l0 (by omega), bzr _, fun q2 => kn (fun y => beq q2 (g2.mp y).1) s hs, fun q2 => ⟨_, s', x1, bzr _, fun q3 => kn (fun y => beq q3 (g2.mp y).2.2) s' x2, fun q3 => ky (g2.mpr ⟨bne q2, bne q, bne q3⟩) s' x2⟩⟩⟩, fun q => by omega⟩
      have cs : ∀ Q, am_x t_SB_fewestRevocations (37, [.ref 0, .int (zi d), .int (zi z), .int (zi 0), .null, .null], [], Mv) Q → am_x t_SB_fewestRevocations (0, am_ent (am_mL t_SB_fewestRevocations) [.ref 0, .int (zi d), .int (zi z)], [], M) Q := fun Q k => vc_c_fewest d z M _ ⟨⟨dz, by decide⟩, fun _ => ⟨⟨zz, by decide⟩, fun _ => ⟨_, Mv, va, by decide, fun _ => k, fun q => absurd rfl q⟩, fun q => absurd hz q⟩, fun q => absurd hd q⟩
      have e0 : ∀ s, CFr15 M s → iv s 11 0 = b 0 := fun s hs => by rw [iv_row (hs.1 11 (by decide) (by decide))]; exact cb.1.1
      /- the reference's -/
      have ms : ∀ M1, MSm M M1 → ∃ M2, MqF M1 M2 ∧ ∀ Q, am_x t_Mo_fewestRevocations (39, [.ref 58, .int (zi d), .int (zi z), .int (zi 0), .null], [], M2) Q → am_x t_Mo_fewestRevocations (0, am_ent (am_mL t_Mo_fewestRevocations) [.ref 58, .int (zi d), .int (zi z)], [], M1) Q := fun M1 hs => by
        obtain ⟨M', a1, a2, a3⟩ := ms_laws hs (hb ▸ w) dz (cas := -1) (by decide)
        rw [← hb] at a3
        exact ⟨M', MqF_lf a2, fun Q k => vc_m_fewest d z M1 _ ⟨dz, fun _ => ⟨⟨zz, by decide, by decide⟩, fun _ => ⟨M', a1, _, M', sp_withWord v a3 zz, wwd_zr _ _, fun q => absurd q h0, fun _ => k⟩, fun q => absurd hz q⟩, fun q => absurd hd q⟩⟩
      have m59 : ∀ M1 s, MSm M M1 → MqF M1 s → iv s 59 = b := fun M1 s h h' => by rw [iv_row (h'.1 59 (by omega)), iv_row (h 59 (by decide)), hb]
      have mg : ∀ M1 s, MSm M M1 → MqF M1 s → ∀ x y, 0 ≤ x → x < b 0 → 0 ≤ y → y < b 0 → ∃ s', am_call t_Mo_isGone [.ref 58, .int (zi d), .int (zi z), .int (zi x), .int (zi y)] s (some (.int (zi (bz (gon b d x y z))))) s' ∧ MqF M1 s' := fun M1 s h h' x y x0 x1 y0 y1 => by
        have e := m59 M1 s h h'
        obtain ⟨s', z1, z2⟩ := sp_isGone (M := s) (by rw [e]; exact w) dz zz x0 (by rw [e]; exact x1) y0 (by rw [e]; exact y1)
        rw [e] at z1
        exact ⟨s', z1, MqF_trans h' z2⟩
      rcases least_or (fun a => gon b d a a z) (b 0) with hno | ⟨a, a0, a1, a2, a3⟩
      · /- no single one: two -/
        have cskip : ∀ Q, (∀ s, CFr15 M s → am_x t_SB_fewestRevocations (81, [.ref 0, .int (zi d), .int (zi z), .int (zi 1), .null, .null], [], s) Q) → am_x t_SB_fewestRevocations (0, am_ent (am_mL t_SB_fewestRevocations) [.ref 0, .int (zi d), .int (zi z)], [], M) Q := fun Q k => cs Q (by
          refine loop_up (fun i (s : am_M) => (37, [.ref 0, .int (zi d), .int (zi z), .int (zi i), .null, .null], [], s)) (b 0) (fun i s => CFr15 M s) ?_ ?_ 0 Mv (by omega) w0 vf
          · intro s hs
            exact vc_c_fewest_37 _ _ _ s _ ⟨⟨by omega, by omega⟩, fun q => by rw [e0 s hs] at q; omega, fun _ => k s hs⟩
          · intro i s i0 i1 hs kk
            exact c1 s i Q hs i0 i1 (fun _ s' hs' => kk s' hs') (fun q => absurd q (hno i i0 i1)))
        have mskip : ∀ M1, MSm M M1 → ∀ Q, (∀ s, MqF M1 s → am_x t_Mo_fewestRevocations (72, [.ref 58, .int (zi d), .int (zi z), .int (zi 1), .null], [], s) Q) → am_x t_Mo_fewestRevocations (0, am_ent (am_mL t_Mo_fewestRevocations) [.ref 58, .int (zi d), .int (zi z)], [], M1) Q := fun M1 hs Q k => by
          obtain ⟨M2, y1, y2⟩ := ms M1 hs
          refine y2 Q ?_
          refine loop_up (fun i (s : am_M) => (39, [.ref 58, .int (zi d), .int (zi z), .int (zi i), .null], [], s)) (b 0) (fun i s => MqF M1 s) ?_ ?_ 0 M2 (by omega) w0 y1
          · intro s h'
            exact vc_m_fewest_39 _ _ _ s _ ⟨⟨by omega, by omega⟩, fun q => by rw [m59 M1 s hs h'] at q; omega, fun _ => k s h'⟩
          · intro i s i0 i1 h' kk
            obtain ⟨s', z1, z2⟩ := mg M1 s hs h' i i i0 i1 i0 i1
            exact vc_m_fewest_39 _ _ _ s _ ⟨⟨by omega, by omega⟩, fun _ => ⟨_, s', z1, bzr _, fun _ => kk s' z2, fun q => absurd (bne q) (hno i i0 i1)⟩, fun q => by rw [m59 M1 s hs h'] at q; omega⟩
        rcases least_or (fun h => ∃ l, 0 ≤ l ∧ l < h ∧ gon b d l h z) (b 0) with hno2 | ⟨h, hh0, hh1, ⟨l', hl'⟩, hmin⟩
        · refine qry (-1) ⟨Nat.le_of_ble_eq_true rfl, rfl⟩ ⟨Nat.le_of_ble_eq_true rfl, rfl⟩ (cskip _ (fun s hs => ?_)) (fun M1 hm => mskip M1 hm _ (fun s hs => ?_))
          · by_cases hb1 : 1 ≤ b 0
            · refine loop_up (fun i (s : am_M) => (81, [.ref 0, .int (zi d), .int (zi z), .int (zi i), .null, .null], [], s)) (b 0) (fun i s => CFr15 M s) ?_ ?_ 1 s (by omega) hb1 hs
              · intro s hs
                exact vc_c_fewest_81 _ _ _ s _ ⟨⟨by omega, by omega⟩, fun q => by rw [e0 s hs] at q; omega, fun _ => ⟨rfl, CQ_15 hs⟩⟩
              · intro i s i0 i1 hs kk
                refine vc_c_fewest_81 _ _ _ s _ ⟨⟨by omega, by omega⟩, fun _ => ?_, fun q => by rw [e0 s hs] at q; omega⟩
                refine loop_up (fun l (s : am_M) => (95, [.ref 0, .int (zi d), .int (zi z), .int (zi i), .int (zi l), .null], [], s)) i (fun l s => CFr15 M s) ?_ ?_ 0 s (by omega) i0 hs
                · intro s hs
                  exact vc_c_fewest_95 _ _ _ _ s _ ⟨⟨by omega, by omega⟩, ⟨by omega, by omega⟩, fun q => by omega, fun _ => kk s hs⟩
                · intro l s l0 l1 hs k2
                  exact c2 s l i _ hno hs l0 l1 i1 (fun _ s' hs' => k2 s' hs') (fun q => absurd ⟨l, l0, l1, q⟩ (hno2 i i0 i1))
            · exact vc_c_fewest_81 _ _ _ s _ ⟨by decide, fun q => by rw [e0 s hs] at q; omega, fun _ => ⟨rfl, CQ_15 hs⟩⟩
          · by_cases hb1 : 1 ≤ b 0
            · refine loop_up (fun i (s : am_M) => (72, [.ref 58, .int (zi d), .int (zi z), .int (zi i), .null], [], s)) (b 0) (fun i s => MqF M1 s) ?_ ?_ 1 s (by omega) hb1 hs
              · intro s hs
                exact vc_m_fewest_72 _ _ _ s _ ⟨⟨by omega, by omega⟩, fun q => by rw [m59 M1 s hm hs] at q; omega, fun _ => ⟨rfl, hs⟩⟩
              · intro i s i0 i1 hs kk
                refine vc_m_fewest_72 _ _ _ s _ ⟨⟨by omega, by omega⟩, fun _ => ?_, fun q => by rw [m59 M1 s hm hs] at q; omega⟩
                refine loop_up (fun l (s : am_M) => (85, [.ref 58, .int (zi d), .int (zi z), .int (zi i), .int (zi l)], [], s)) i (fun l s => MqF M1 s) ?_ ?_ 0 s (by omega) i0 hs
                · intro s hs
                  exact vc_m_fewest_85 _ _ _ _ s _ ⟨⟨by omega, by omega⟩, ⟨by omega, by omega⟩, fun q => by omega, fun _ => kk s hs⟩
                · intro l s l0 l1 hs k2
                  obtain ⟨s', z1, z2⟩ := mg M1 s hm hs l i l0 (by omega) i0 i1
                  exact vc_m_fewest_85 _ _ _ _ s _ ⟨⟨by omega, by omega⟩, ⟨by omega, by omega⟩, fun _ => ⟨_, s', z1, bzr _, fun _ => k2 s' z2, fun q => absurd ⟨l, l0, l1, bne q⟩ (hno2 i i0 i1)⟩, fun q => by omega⟩
            · exact vc_m_fewest_72 _ _ _ s _ ⟨by decide, fun q => by rw [m59 M1 s hm hs] at q; omega, fun _ => ⟨rfl, hs⟩⟩
        · rcases least_or (fun l => gon b d l h z) h with hc | ⟨l, l0, l1, l2, l3⟩
          · exact absurd hl'.2.2 (hc l' hl'.1 hl'.2.1)
          · refine qry (zor (zshl 1 h) (zshl 1 l)) ⟨Nat.le_of_ble_eq_true rfl, rfl⟩ ⟨Nat.le_of_ble_eq_true rfl, rfl⟩ (cskip _ (fun s hs => ?_)) (fun M1 hm => mskip M1 hm _ (fun s hs => ?_))
            · refine loop_up (fun i (s : am_M) => (81, [.ref 0, .int (zi d), .int (zi z), .int (zi i), .null, .null], [], s)) h (fun i s => CFr15 M s) ?_ ?_ 1 s (by omega) (by omega) hs
              · intro s hs
                refine vc_c_fewest_81 _ _ _ s _ ⟨⟨by omega, by omega⟩, fun _ => ?_, fun q => by rw [e0 s hs] at q; omega⟩
                refine loop_up (fun j (s : am_M) => (95, [.ref 0, .int (zi d), .int (zi z), .int (zi h), .int (zi j), .null], [], s)) l (fun j s => CFr15 M s) ?_ ?_ 0 s (by omega) l0 hs
                · intro s hs
                  exact c2 s l h _ hno hs l0 l1 hh1 (fun q => absurd l2 q) (fun _ s' hs' => ⟨rfl, CQ_15 hs'⟩)
                · intro j s j0 j1 hs k2
                  exact c2 s j h _ hno hs j0 (by omega) hh1 (fun _ s' hs' => k2 s' hs') (fun q => absurd q (l3 j j0 j1))
              · intro i s i0 i1 hs kk
                refine vc_c_fewest_81 _ _ _ s _ ⟨⟨by omega, by omega⟩, fun _ => ?_, fun q => by rw [e0 s hs] at q; omega⟩
                refine loop_up (fun j (s : am_M) => (95, [.ref 0, .int (zi d), .int (zi z), .int (zi i), .int (zi j), .null], [], s)) i (fun j s => CFr15 M s) ?_ ?_ 0 s (by omega) i0 hs
                · intro s hs
                  exact vc_c_fewest_95 _ _ _ _ s _ ⟨⟨by omega, by omega⟩, ⟨by omega, by omega⟩, fun q => by omega, fun _ => kk s hs⟩
                · intro j s j0 j1 hs k2
                  exact c2 s j i _ hno hs j0 j1 (by omega) (fun _ s' hs' => k2 s' hs') (fun q => absurd ⟨j, j0, j1, q⟩ (hmin i i0 i1))
            · rw [zor_comm]
              refine loop_up (fun i (s : am_M) => (72, [.ref 58, .int (zi d), .int (zi z), .int (zi i), .null], [], s)) h (fun i s => MqF M1 s) ?_ ?_ 1 s (by omega) (by omega) hs
              · intro s hs
                refine vc_m_fewest_72 _ _ _ s _ ⟨⟨by omega, by omega⟩, fun _ => ?_, fun q => by rw [m59 M1 s hm hs] at q; omega⟩
                refine loop_up (fun j (s : am_M) => (85, [.ref 58, .int (zi d), .int (zi z), .int (zi h), .int (zi j)], [], s)) l (fun j s => MqF M1 s) ?_ ?_ 0 s (by omega) l0 hs
                · intro s hs
                  obtain ⟨s', z1, z2⟩ := mg M1 s hm hs l h l0 (by omega) hh0 hh1
                  exact vc_m_fewest_85 _ _ _ _ s _ ⟨⟨by omega, by omega⟩, ⟨by omega, by omega⟩, fun _ => ⟨_, s', z1, bzr _, fun q => absurd l2 (beq q), fun _ => ⟨rfl, z2⟩⟩, fun q => by omega⟩
                · intro j s j0 j1 hs k2
                  obtain ⟨s', z1, z2⟩ := mg M1 s hm hs j h j0 (by omega) hh0 hh1
                  exact vc_m_fewest_85 _ _ _ _ s _ ⟨⟨by omega, by omega⟩, ⟨by omega, by omega⟩, fun _ => ⟨_, s', z1, bzr _, fun _ => k2 s' z2, fun q => absurd (bne q) (l3 j j0 j1)⟩, fun q => by omega⟩
              · intro i s i0 i1 hs kk
                refine vc_m_fewest_72 _ _ _ s _ ⟨⟨by omega, by omega⟩, fun _ => ?_, fun q => by rw [m59 M1 s hm hs] at q; omega⟩
                refine loop_up (fun j (s : am_M) => (85, [.ref 58, .int (zi d), .int (zi z), .int (zi i), .int (zi j)], [], s)) i (fun j s => MqF M1 s) ?_ ?_ 0 s (by omega) i0 hs
                · intro s hs
                  exact vc_m_fewest_85 _ _ _ _ s _ ⟨⟨by omega, by omega⟩, ⟨by omega, by omega⟩, fun q => by omega, fun _ => kk s hs⟩
                · intro j s j0 j1 hs k2
                  obtain ⟨s', z1, z2⟩ := mg M1 s hm hs j i j0 (by omega) i0 (by omega)
                  exact vc_m_fewest_85 _ _ _ _ s _ ⟨⟨by omega, by omega⟩, ⟨by omega, by omega⟩, fun _ => ⟨_, s', z1, bzr _, fun _ => k2 s' z2, fun q => absurd ⟨j, j0, j1, bne q⟩ (hmin i i0 i1)⟩, fun q => by omega⟩
      · refine qry (zshl 1 a) ⟨Nat.le_of_ble_eq_true rfl, rfl⟩ ⟨Nat.le_of_ble_eq_true rfl, rfl⟩ (cs _ ?_) (fun M1 hm => ?_)
        · refine loop_up (fun i (s : am_M) => (37, [.ref 0, .int (zi d), .int (zi z), .int (zi i), .null, .null], [], s)) a (fun i s => CFr15 M s) ?_ ?_ 0 Mv (by omega) a0 vf
          · intro s hs
            exact c1 s a _ hs a0 a1 (fun q => absurd a2 q) (fun _ s' hs' => ⟨rfl, CQ_15 hs'⟩)
          · intro i s i0 i1 hs kk
            exact c1 s i _ hs i0 (by omega) (fun _ s' hs' => kk s' hs') (fun q => absurd q (a3 i i0 i1))
        · obtain ⟨M2, y1, y2⟩ := ms M1 hm
          refine y2 _ ?_
          refine loop_up (fun i (s : am_M) => (39, [.ref 58, .int (zi d), .int (zi z), .int (zi i), .null], [], s)) a (fun i s => MqF M1 s) ?_ ?_ 0 M2 (by omega) a0 y1
          · intro s h'
            obtain ⟨s', z1, z2⟩ := mg M1 s hm h' a a a0 a1 a0 a1
            exact vc_m_fewest_39 _ _ _ s _ ⟨⟨by omega, by omega⟩, fun _ => ⟨_, s', z1, bzr _, fun q => absurd a2 (beq q), fun _ => ⟨rfl, z2⟩⟩, fun q => by rw [m59 M1 s hm h'] at q; omega⟩
          · intro i s i0 i1 h' kk
            obtain ⟨s', z1, z2⟩ := mg M1 s hm h' i i i0 (by omega) i0 (by omega)
            exact vc_m_fewest_39 _ _ _ s _ ⟨⟨by omega, by omega⟩, fun _ => ⟨_, s', z1, bzr _, fun _ => kk s' z2, fun q => absurd (bne q) (a3 i i0 i1)⟩, fun q => by rw [m59 M1 s hm h'] at q; omega⟩
  · exact qry (-2) ⟨Nat.le_of_ble_eq_true rfl, rfl⟩ ⟨Nat.le_of_ble_eq_true rfl, rfl⟩ (vc_c_fewest d z M _ ⟨⟨dz, by decide⟩, fun q => ⟨⟨zz, by decide⟩, fun q2 => absurd ⟨q, q2⟩ hl, fun _ => ⟨rfl, CQ_refl M⟩⟩, fun _ => ⟨rfl, CQ_refl M⟩⟩) (fun M1 hs => vc_m_fewest d z M1 _ ⟨dz, fun q => ⟨⟨zz, by decide, by decide⟩, fun q2 => absurd ⟨q, q2⟩ hl, fun _ => ⟨rfl, MqF_refl M1⟩⟩, fun _ => ⟨rfl, MqF_refl M1⟩⟩)
