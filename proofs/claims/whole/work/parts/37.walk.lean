/-! reach: distances by references -/
def edg (L : Lw) (p c : Int) : Prop := (0 ≤ p ∧ p < 40) ∧ (0 ≤ c ∧ c < 40) ∧ ¬ L.code c = 0 ∧ has L p (1000 + c)
/-- distances from a clause -/
def CHD (L : Lw) (x : Int) (D : Int → Int) : Prop := D x = 0 ∧ (∀ c, 0 ≤ c → c < 40 → D c = 0 → c = x) ∧ (∀ c, 0 ≤ c → c < 40 → -1 ≤ D c) ∧
  (∀ c n, 0 ≤ c → c < 40 → 0 ≤ n → D c = n + 1 → ∃ p, 0 ≤ p ∧ p < 40 ∧ D p = n ∧ edg L p c) ∧ (∀ p c, 0 ≤ p → p < 40 → 0 ≤ D p → edg L p c → 0 ≤ D c ∧ D c ≤ D p + 1)
theorem CHD_le {L : Lw} {x : Int} {D E : Int → Int} (h : CHD L x D) (g : CHD L x E) : ∀ (n : Nat) (c : Int), 0 ≤ c → c < 40 → D c = n → 0 ≤ E c ∧ E c ≤ n := by
  intro n
  induction n with
  | zero =>
    intro c c0 c1 hc
    have := h.2.1 c c0 c1 hc
    rw [this, g.1]
    omega
  | succ n ih =>
    intro c c0 c1 hc
    obtain ⟨p, p0, p1, p2, p3⟩ := h.2.2.2.1 c n c0 c1 (by omega) (by omega)
    have := ih p p0 p1 p2
    have := g.2.2.2.2 p c p0 p1 this.1 p3
    omega
theorem CHD_eq {L : Lw} {x : Int} {D E : Int → Int} (h : CHD L x D) (g : CHD L x E) {c : Int} (c0 : 0 ≤ c) (c1 : c < 40) : D c = E c := by
  have a := h.2.2.1 c c0 c1
  have b := g.2.2.1 c c0 c1
  by_cases q : 0 ≤ D c
  · have e := CHD_le h g (D c).toNat c c0 c1 (by omega)
    have e2 := CHD_le g h (E c).toNat c c0 c1 (by omega)
    omega
  · by_cases q2 : 0 ≤ E c
    · have e2 := CHD_le g h (E c).toNat c c0 c1 (by omega)
      omega
    · omega
def isMx (D : Int → Int) (m : Int) : Prop := (∃ c, 0 ≤ c ∧ c < 40 ∧ D c = m) ∧ ∀ c, 0 ≤ c → c < 40 → D c ≤ m
theorem isMx_eq {D E : Int → Int} {m k : Int} (h : isMx D m) (g : isMx E k) (e : ∀ c, 0 ≤ c → c < 40 → D c = E c) : m = k := by
  obtain ⟨⟨c, c0, c1, c2⟩, h2⟩ := h
  obtain ⟨⟨d, d0, d1, d2⟩, g2⟩ := g
  have := h2 d d0 d1
  have := g2 c c0 c1
  have := e c c0 c1
  have := e d d0 d1
  omega
theorem edg_words {L : Lw} (v : VL L) {p : Int} (p0 : 0 ≤ p) (p1 : p < 40) (n : ¬ L.code p = 0) {c : Int} : edg L p c ↔ ∃ k, 0 ≤ k ∧ k < L.len p ∧ 1000 ≤ L.tx p k ∧ L.tx p k - 1000 = c ∧ ¬ L.code c = 0 := by
  constructor
  · rintro ⟨_, hc, nc, k, k0, k1, k2⟩
    exact ⟨k, k0, k1, by omega, by omega, nc⟩
  · rintro ⟨k, k0, k1, k2, k3, k4⟩
    have := v.wt p k p0 p1 n k0 k1
    exact ⟨⟨p0, p1⟩, by omega, k4, k, k0, k1, by omega⟩
/-- the class's walk: the queue, the distances, how many are met; all clauses ahead of the i-th are done, and of the i-th the first words -/
def WK (L : Lw) (x i k : Int) (M : am_M) : Prop :=
  (∀ c, 0 ≤ c → c < 40 → -1 ≤ iv M 55 c ∧ iv M 55 c < iv M 53 2) ∧
  iv M 53 2 = sm (fun c => if iv M 55 c = -1 then 0 else 1) 40 ∧
  (∀ j, 0 ≤ j → j < iv M 53 2 → 0 ≤ iv M 57 j ∧ iv M 57 j < 40 ∧ ¬ iv M 55 (iv M 57 j) = -1 ∧ ¬ L.code (iv M 57 j) = 0) ∧
  (∀ c, 0 ≤ c → c < 40 → ¬ iv M 55 c = -1 → ∃ j, 0 ≤ j ∧ j < iv M 53 2 ∧ iv M 57 j = c) ∧
  (∀ j l, 0 ≤ j → j ≤ l → l < iv M 53 2 → iv M 55 (iv M 57 j) ≤ iv M 55 (iv M 57 l)) ∧
  (0 < iv M 53 2 ∧ (0 ≤ x ∧ x < 40) ∧ iv M 55 x = 0) ∧
  (∀ c, 0 ≤ c → c < 40 → iv M 55 c = 0 → c = x) ∧
  (∀ c n, 0 ≤ c → c < 40 → 0 ≤ n → iv M 55 c = n + 1 → ∃ p, 0 ≤ p ∧ p < 40 ∧ iv M 55 p = n ∧ edg L p c) ∧
  (∀ j c, 0 ≤ j → j < i → j < iv M 53 2 → edg L (iv M 57 j) c → 0 ≤ iv M 55 c ∧ iv M 55 c ≤ iv M 55 (iv M 57 j) + 1) ∧
  (i < iv M 53 2 → (∀ l, 0 ≤ l → l < iv M 53 2 → iv M 55 (iv M 57 l) ≤ iv M 55 (iv M 57 i) + 1) ∧ ∀ w, 0 ≤ w → w < k → 1000 ≤ L.tx (iv M 57 i) w → ¬ L.code (L.tx (iv M 57 i) w - 1000) = 0 → 0 ≤ iv M 55 (L.tx (iv M 57 i) w - 1000) ∧ iv M 55 (L.tx (iv M 57 i) w - 1000) ≤ iv M 55 (iv M 57 i) + 1)
/-- whether the first clause was referred to -/
def WKB (L : Lw) (x i k : Int) (M : am_M) : Prop := (iv M 53 3 = 0 ∨ iv M 53 3 = 1) ∧ (iv M 53 3 = 1 ↔ ((∃ j, 0 ≤ j ∧ j < i ∧ j < iv M 53 2 ∧ has L (iv M 57 j) (1000 + x)) ∨ (i < iv M 53 2 ∧ ∃ w, 0 ≤ w ∧ w < k ∧ L.tx (iv M 57 i) w = 1000 + x)))
set_option maxRecDepth 100000 in
theorem vc_follow (f : Int) (M : am_M) (Q : Option Value → am_M → Prop) (hv : ∀ M1, M1 = zfl M 55 40 (-1) → ∀ M2, M2 = zup M1 53 2 0 → ∀ M3, M3 = zup M2 53 3 0 → ∃ M4, am_call t_Wal_meet [.ref 53, .int (zi f), .int (zi 0)] M3 none M4 ∧ (am_x t_Wal_follow (26, [.ref 53, .ref 15, .int (zi f), .int (zi 0), .null, .null, .null], [], M4) Q)) : am_x t_Wal_follow (0, am_ent (am_mL t_Wal_follow) [.ref 53, .ref 15, .int (zi f)], [], M) Q := by
  refine am_xn 0 (c1 := (0, [.ref 53, .ref 15, .int (zi f), .null, .null, .null, .null], [], M)) rfl ?_
  refine am_xn 3 (c1 := (5, [.ref 53, .ref 15, .int (zi f), .null, .null, .null, .null], [.int (zi (-1)), .ref 54], M)) rfl ?_
  obtain ⟨M1, eM1⟩ : ∃ m, m = zfl M 55 40 (-1) := ⟨_, rfl⟩
  replace hv := hv M1 eM1
  refine am_xc t_Row_fill (.invokevirtual 23) 23 (av := [.ref 54, .int (zi (-1))]) (rest := []) (rv := none) (M' := M1) rfl rfl rfl rfl (Nat.le_of_ble_eq_true rfl) (fun _ => rfl) (by rw [eM1]; exact sp_rfill_54 M (-1)) ?_
  refine am_xn 0 (c1 := (8, [.ref 53, .ref 15, .int (zi f), .null, .null, .null, .null], [], M1)) rfl ?_
  refine am_xn 3 (c1 := (13, [.ref 53, .ref 15, .int (zi f), .null, .null, .null, .null], [], zup M1 53 2 0)) rfl ?_
  obtain ⟨M2, eM2⟩ : ∃ m, m = zup M1 53 2 0 := ⟨_, rfl⟩
  replace hv := hv M2 eM2
  rw [← eM2]
  refine am_xn 3 (c1 := (18, [.ref 53, .ref 15, .int (zi f), .null, .null, .null, .null], [], zup M2 53 3 0)) rfl ?_
  obtain ⟨M3, eM3⟩ : ∃ m, m = zup M2 53 3 0 := ⟨_, rfl⟩
  replace hv := hv M3 eM3
  rw [← eM3]
  refine am_xn 3 (c1 := (21, [.ref 53, .ref 15, .int (zi f), .null, .null, .null, .null], [.int (zi 0), .int (zi f), .ref 53], M3)) rfl ?_
  obtain ⟨M4, hc, hv⟩ := hv
  refine am_xc t_Wal_meet (.invokevirtual 34) 34 (av := [.ref 53, .int (zi f), .int (zi 0)]) (rest := []) (rv := none) (M' := M4) rfl rfl rfl rfl (Nat.le_of_ble_eq_true rfl) (fun _ => rfl) (hc) ?_
  refine am_xn 0 (c1 := (24, [.ref 53, .ref 15, .int (zi f), .null, .null, .null, .null], [], M4)) rfl ?_
  refine am_xn 2 (c1 := (26, [.ref 53, .ref 15, .int (zi f), .int (zi 0), .null, .null, .null], [], M4)) rfl ?_
  exact hv
set_option maxRecDepth 100000 in
theorem vc_follow_26 (x2 : Int) (x3 : Int) (M : am_M) (Q : Option Value → am_M → Prop) (hv : (zr x3) ∧ ((x3 < (iv M 53 2) → (x3 < 40 → (0 ≤ x3 ∧ x3 < 40) ∧ (am_x t_Wal_follow (53, [.ref 53, .ref 15, .int (zi x2), .int (zi x3), .int (zi (iv M 57 x3)), .int (zi 0), .null], [], M) Q)) ∧ (40 ≤ x3 → Q none M)) ∧ ((iv M 53 2) ≤ x3 → Q none M))) : am_x t_Wal_follow (26, [.ref 53, .ref 15, .int (zi x2), .int (zi x3), .null, .null, .null], [], M) Q := by
  refine am_xrd 3 53 2 (pc := 31) (ls := [.ref 53, .ref 15, .int (zi x2), .int (zi x3), .null, .null, .null]) (st := [.int (zi x3)]) rfl ?_
  obtain ⟨r1, hv⟩ := hv
  refine am_xn 1 (c1 := (if zi x3 < zi (iv M 53 2) then 34 else 129, [.ref 53, .ref 15, .int (zi x2), .int (zi x3), .null, .null, .null], [], M)) rfl (am_xlt r1 (iv_r _ _ _) (fun h => ?_) (fun h => ?_))
  · replace hv := hv.1 h
    refine am_xn 3 (c1 := (if zi x3 < zi 40 then 40 else 129, [.ref 53, .ref 15, .int (zi x2), .int (zi x3), .null, .null, .null], [], M)) rfl (am_xlt r1 (by decide) (fun h => ?_) (fun h => ?_))
    · replace hv := hv.1 h
      refine am_xn 3 (c1 := (45, [.ref 53, .ref 15, .int (zi x2), .int (zi x3), .null, .null, .null], [.int (zi x3), .ref 56], M)) rfl ?_
      obtain ⟨g, hv⟩ := hv
      refine am_xc t_Row_get (.invokevirtual 38) 38 (av := [.ref 56, .int (zi x3)]) (rest := []) (rv := some (.int (zi (iv M 57 x3)))) (M' := M) rfl rfl rfl rfl (Nat.le_of_ble_eq_true rfl) (fun _ => rfl) (sp_get_56 M x3 g) ?_
      refine am_xn 0 (c1 := (48, [.ref 53, .ref 15, .int (zi x2), .int (zi x3), .null, .null, .null], [.int (zi (iv M 57 x3))], M)) rfl ?_
      refine am_xn 3 (c1 := (53, [.ref 53, .ref 15, .int (zi x2), .int (zi x3), .int (zi (iv M 57 x3)), .int (zi 0), .null], [], M)) rfl ?_
      exact hv
    · replace hv := hv.2 h
      exact am_xr none ⟨rfl, rfl, rfl⟩ hv
  · replace hv := hv.2 h
    exact am_xr none ⟨rfl, rfl, rfl⟩ hv
set_option maxRecDepth 100000 in
theorem vc_follow_53 (x2 : Int) (x3 : Int) (x4 : Int) (x5 : Int) (M : am_M) (Q : Option Value → am_M → Prop) (hv : (0 ≤ x4 ∧ x4 < 40) ∧ ((zr x5) ∧ ((x5 < (iv M 21 x4) → ∃ (r3 : Int) (M2 : am_M), am_call t_Law_target [.ref 15, .int (zi x4), .int (zi x5)] M (some (.int (zi r3))) M2 ∧ ((zr r3) ∧ ((zr x2) ∧ ((r3 = x2 → ∀ M6, M6 = zup M2 53 3 1 → (r3 = (-1) → am_x t_Wal_follow (53, [.ref 53, .ref 15, .int (zi x2), .int (zi x3), .int (zi x4), .int (zi (x5 + 1)), .null], [], M6) Q) ∧ (¬ r3 = (-1) → (0 ≤ r3 ∧ r3 < 40) ∧ (((iv M6 17 r3) = 0 → am_x t_Wal_follow (53, [.ref 53, .ref 15, .int (zi x2), .int (zi x3), .int (zi x4), .int (zi (x5 + 1)), .null], [], M6) Q) ∧ (¬ (iv M6 17 r3) = 0 → (0 ≤ x4 ∧ x4 < 40) ∧ (∃ M7, am_call t_Wal_meet [.ref 53, .int (zi r3), .int (zi ((iv M6 55 x4) + 1))] M6 none M7 ∧ (am_x t_Wal_follow (53, [.ref 53, .ref 15, .int (zi x2), .int (zi x3), .int (zi x4), .int (zi (x5 + 1)), .null], [], M7) Q)))))) ∧ (¬ r3 = x2 → (r3 = (-1) → am_x t_Wal_follow (53, [.ref 53, .ref 15, .int (zi x2), .int (zi x3), .int (zi x4), .int (zi (x5 + 1)), .null], [], M2) Q) ∧ (¬ r3 = (-1) → (0 ≤ r3 ∧ r3 < 40) ∧ (((iv M2 17 r3) = 0 → am_x t_Wal_follow (53, [.ref 53, .ref 15, .int (zi x2), .int (zi x3), .int (zi x4), .int (zi (x5 + 1)), .null], [], M2) Q) ∧ (¬ (iv M2 17 r3) = 0 → (0 ≤ x4 ∧ x4 < 40) ∧ (∃ M8, am_call t_Wal_meet [.ref 53, .int (zi r3), .int (zi ((iv M2 55 x4) + 1))] M2 none M8 ∧ (am_x t_Wal_follow (53, [.ref 53, .ref 15, .int (zi x2), .int (zi x3), .int (zi x4), .int (zi (x5 + 1)), .null], [], M8) Q)))))))))) ∧ ((iv M 21 x4) ≤ x5 → am_x t_Wal_follow (26, [.ref 53, .ref 15, .int (zi x2), .int (zi (x3 + 1)), .null, .null, .null], [], M) Q)))) : am_x t_Wal_follow (53, [.ref 53, .ref 15, .int (zi x2), .int (zi x3), .int (zi x4), .int (zi x5), .null], [], M) Q := by
  refine am_xn 3 (c1 := (58, [.ref 53, .ref 15, .int (zi x2), .int (zi x3), .int (zi x4), .int (zi x5), .null], [.int (zi x4), .ref 15, .int (zi x5)], M)) rfl ?_
  obtain ⟨g, hv⟩ := hv
  refine am_xc t_Law_length (.invokevirtual 42) 42 (av := [.ref 15, .int (zi x4)]) (rest := [.int (zi x5)]) (rv := some (.int (zi (iv M 21 x4)))) (M' := M) rfl rfl rfl rfl (Nat.le_of_ble_eq_true rfl) (fun _ => rfl) (sp_l15_length M x4 g) ?_
  refine am_xn 0 (c1 := (61, [.ref 53, .ref 15, .int (zi x2), .int (zi x3), .int (zi x4), .int (zi x5), .null], [.int (zi (iv M 21 x4)), .int (zi x5)], M)) rfl ?_
  obtain ⟨r1, hv⟩ := hv
  refine am_xn 1 (c1 := (if zi x5 < zi (iv M 21 x4) then 64 else 123, [.ref 53, .ref 15, .int (zi x2), .int (zi x3), .int (zi x4), .int (zi x5), .null], [], M)) rfl (am_xlt r1 (iv_r _ _ _) (fun h => ?_) (fun h => ?_))
  · replace hv := hv.1 h
    refine am_xn 3 (c1 := (69, [.ref 53, .ref 15, .int (zi x2), .int (zi x3), .int (zi x4), .int (zi x5), .null], [.int (zi x5), .int (zi x4), .ref 15], M)) rfl ?_
    obtain ⟨r3, M2, hc, hv⟩ := hv
    refine am_xc t_Law_target (.invokevirtual 47) 47 (av := [.ref 15, .int (zi x4), .int (zi x5)]) (rest := []) (rv := some (.int (zi r3))) (M' := M2) rfl rfl rfl rfl (Nat.le_of_ble_eq_true rfl) (fun _ => rfl) (hc) ?_
    refine am_xn 0 (c1 := (72, [.ref 53, .ref 15, .int (zi x2), .int (zi x3), .int (zi x4), .int (zi x5), .null], [.int (zi r3)], M2)) rfl ?_
    obtain ⟨r4, hv⟩ := hv
    obtain ⟨r5, hv⟩ := hv
    refine am_xn 4 (c1 := (if zi r3 = zi x2 then 80 else 85, [.ref 53, .ref 15, .int (zi x2), .int (zi x3), .int (zi x4), .int (zi x5), .int (zi r3)], [], M2)) rfl (am_xeq r4 r5 (fun h => ?_) (fun h => ?_))
    · replace hv := hv.1 h
      refine am_xn 3 (c1 := (85, [.ref 53, .ref 15, .int (zi x2), .int (zi x3), .int (zi x4), .int (zi x5), .int (zi r3)], [], zup M2 53 3 1)) rfl ?_
      obtain ⟨M6, eM6⟩ : ∃ m, m = zup M2 53 3 1 := ⟨_, rfl⟩
      replace hv := hv M6 eM6
      rw [← eM6]
      refine am_xn 3 (c1 := (if zi r3 = zi (-1) then 117 else 91, [.ref 53, .ref 15, .int (zi x2), .int (zi x3), .int (zi x4), .int (zi x5), .int (zi r3)], [], M6)) rfl (am_xeq r4 (by decide) (fun h => ?_) (fun h => ?_))
      · replace hv := hv.1 h
        refine am_xn 1 (c1 := (120, [.ref 53, .ref 15, .int (zi x2), .int (zi x3), .int (zi x4), .int (zi x5 + zi 1), .int (zi r3)], [], M6)) rfl ?_
        rw [zi_add]
        refine am_xn 1 (c1 := (53, [.ref 53, .ref 15, .int (zi x2), .int (zi x3), .int (zi x4), .int (zi (x5 + 1)), .int (zi r3)], [], M6)) rfl ?_
        refine am_xf 6 ?_
        exact hv
      · replace hv := hv.2 h
        refine am_xn 2 (c1 := (94, [.ref 53, .ref 15, .int (zi x2), .int (zi x3), .int (zi x4), .int (zi x5), .int (zi r3)], [.int (zi r3), .ref 15], M6)) rfl ?_
        obtain ⟨g, hv⟩ := hv
        refine am_xc t_Law_code (.invokevirtual 51) 51 (av := [.ref 15, .int (zi r3)]) (rest := []) (rv := some (.int (zi (iv M6 17 r3)))) (M' := M6) rfl rfl rfl rfl (Nat.le_of_ble_eq_true rfl) (fun _ => rfl) (sp_l15_code M6 r3 g) ?_
        refine am_xn 0 (c1 := (97, [.ref 53, .ref 15, .int (zi x2), .int (zi x3), .int (zi x4), .int (zi x5), .int (zi r3)], [.int (zi (iv M6 17 r3))], M6)) rfl ?_
        refine am_xn 1 (c1 := (if zi (iv M6 17 r3) = zi 0 then 117 else 100, [.ref 53, .ref 15, .int (zi x2), .int (zi x3), .int (zi x4), .int (zi x5), .int (zi r3)], [], M6)) rfl (am_xeq (iv_r _ _ _) (by decide) (fun h => ?_) (fun h => ?_))
        · replace hv := hv.1 h
          refine am_xn 1 (c1 := (120, [.ref 53, .ref 15, .int (zi x2), .int (zi x3), .int (zi x4), .int (zi x5 + zi 1), .int (zi r3)], [], M6)) rfl ?_
          rw [zi_add]
          refine am_xn 1 (c1 := (53, [.ref 53, .ref 15, .int (zi x2), .int (zi x3), .int (zi x4), .int (zi (x5 + 1)), .int (zi r3)], [], M6)) rfl ?_
          refine am_xf 6 ?_
          exact hv
        · replace hv := hv.2 h
          refine am_xn 5 (c1 := (109, [.ref 53, .ref 15, .int (zi x2), .int (zi x3), .int (zi x4), .int (zi x5), .int (zi r3)], [.int (zi x4), .ref 54, .int (zi r3), .ref 53], M6)) rfl ?_
          obtain ⟨g, hv⟩ := hv
          refine am_xc t_Row_get (.invokevirtual 38) 38 (av := [.ref 54, .int (zi x4)]) (rest := [.int (zi r3), .ref 53]) (rv := some (.int (zi (iv M6 55 x4)))) (M' := M6) rfl rfl rfl rfl (Nat.le_of_ble_eq_true rfl) (fun _ => rfl) (sp_get_54 M6 x4 g) ?_
          refine am_xn 0 (c1 := (112, [.ref 53, .ref 15, .int (zi x2), .int (zi x3), .int (zi x4), .int (zi x5), .int (zi r3)], [.int (zi (iv M6 55 x4)), .int (zi r3), .ref 53], M6)) rfl ?_
          refine am_xiadd 2 (iv M6 55 x4) 1 (pc := 114) (ls := [.ref 53, .ref 15, .int (zi x2), .int (zi x3), .int (zi x4), .int (zi x5), .int (zi r3)]) (st := [.int (zi r3), .ref 53]) rfl ?_
          obtain ⟨M7, hc, hv⟩ := hv
          refine am_xc t_Wal_meet (.invokevirtual 34) 34 (av := [.ref 53, .int (zi r3), .int (zi ((iv M6 55 x4) + 1))]) (rest := []) (rv := none) (M' := M7) rfl rfl rfl rfl (Nat.le_of_ble_eq_true rfl) (fun _ => rfl) (hc) ?_
          refine am_xn 0 (c1 := (117, [.ref 53, .ref 15, .int (zi x2), .int (zi x3), .int (zi x4), .int (zi x5), .int (zi r3)], [], M7)) rfl ?_
          refine am_xn 1 (c1 := (120, [.ref 53, .ref 15, .int (zi x2), .int (zi x3), .int (zi x4), .int (zi x5 + zi 1), .int (zi r3)], [], M7)) rfl ?_
          rw [zi_add]
          refine am_xn 1 (c1 := (53, [.ref 53, .ref 15, .int (zi x2), .int (zi x3), .int (zi x4), .int (zi (x5 + 1)), .int (zi r3)], [], M7)) rfl ?_
          refine am_xf 6 ?_
          exact hv
    · replace hv := hv.2 h
      refine am_xn 3 (c1 := (if zi r3 = zi (-1) then 117 else 91, [.ref 53, .ref 15, .int (zi x2), .int (zi x3), .int (zi x4), .int (zi x5), .int (zi r3)], [], M2)) rfl (am_xeq r4 (by decide) (fun h => ?_) (fun h => ?_))
      · replace hv := hv.1 h
        refine am_xn 1 (c1 := (120, [.ref 53, .ref 15, .int (zi x2), .int (zi x3), .int (zi x4), .int (zi x5 + zi 1), .int (zi r3)], [], M2)) rfl ?_
        rw [zi_add]
        refine am_xn 1 (c1 := (53, [.ref 53, .ref 15, .int (zi x2), .int (zi x3), .int (zi x4), .int (zi (x5 + 1)), .int (zi r3)], [], M2)) rfl ?_
        refine am_xf 6 ?_
        exact hv
      · replace hv := hv.2 h
        refine am_xn 2 (c1 := (94, [.ref 53, .ref 15, .int (zi x2), .int (zi x3), .int (zi x4), .int (zi x5), .int (zi r3)], [.int (zi r3), .ref 15], M2)) rfl ?_
        obtain ⟨g, hv⟩ := hv
        refine am_xc t_Law_code (.invokevirtual 51) 51 (av := [.ref 15, .int (zi r3)]) (rest := []) (rv := some (.int (zi (iv M2 17 r3)))) (M' := M2) rfl rfl rfl rfl (Nat.le_of_ble_eq_true rfl) (fun _ => rfl) (sp_l15_code M2 r3 g) ?_
        refine am_xn 0 (c1 := (97, [.ref 53, .ref 15, .int (zi x2), .int (zi x3), .int (zi x4), .int (zi x5), .int (zi r3)], [.int (zi (iv M2 17 r3))], M2)) rfl ?_
        refine am_xn 1 (c1 := (if zi (iv M2 17 r3) = zi 0 then 117 else 100, [.ref 53, .ref 15, .int (zi x2), .int (zi x3), .int (zi x4), .int (zi x5), .int (zi r3)], [], M2)) rfl (am_xeq (iv_r _ _ _) (by decide) (fun h => ?_) (fun h => ?_))
        · replace hv := hv.1 h
          refine am_xn 1 (c1 := (120, [.ref 53, .ref 15, .int (zi x2), .int (zi x3), .int (zi x4), .int (zi x5 + zi 1), .int (zi r3)], [], M2)) rfl ?_
          rw [zi_add]
          refine am_xn 1 (c1 := (53, [.ref 53, .ref 15, .int (zi x2), .int (zi x3), .int (zi x4), .int (zi (x5 + 1)), .int (zi r3)], [], M2)) rfl ?_
          refine am_xf 6 ?_
          exact hv
        · replace hv := hv.2 h
          refine am_xn 5 (c1 := (109, [.ref 53, .ref 15, .int (zi x2), .int (zi x3), .int (zi x4), .int (zi x5), .int (zi r3)], [.int (zi x4), .ref 54, .int (zi r3), .ref 53], M2)) rfl ?_
          obtain ⟨g, hv⟩ := hv
          refine am_xc t_Row_get (.invokevirtual 38) 38 (av := [.ref 54, .int (zi x4)]) (rest := [.int (zi r3), .ref 53]) (rv := some (.int (zi (iv M2 55 x4)))) (M' := M2) rfl rfl rfl rfl (Nat.le_of_ble_eq_true rfl) (fun _ => rfl) (sp_get_54 M2 x4 g) ?_
          refine am_xn 0 (c1 := (112, [.ref 53, .ref 15, .int (zi x2), .int (zi x3), .int (zi x4), .int (zi x5), .int (zi r3)], [.int (zi (iv M2 55 x4)), .int (zi r3), .ref 53], M2)) rfl ?_
          refine am_xiadd 2 (iv M2 55 x4) 1 (pc := 114) (ls := [.ref 53, .ref 15, .int (zi x2), .int (zi x3), .int (zi x4), .int (zi x5), .int (zi r3)]) (st := [.int (zi r3), .ref 53]) rfl ?_
          obtain ⟨M8, hc, hv⟩ := hv
          refine am_xc t_Wal_meet (.invokevirtual 34) 34 (av := [.ref 53, .int (zi r3), .int (zi ((iv M2 55 x4) + 1))]) (rest := []) (rv := none) (M' := M8) rfl rfl rfl rfl (Nat.le_of_ble_eq_true rfl) (fun _ => rfl) (hc) ?_
          refine am_xn 0 (c1 := (117, [.ref 53, .ref 15, .int (zi x2), .int (zi x3), .int (zi x4), .int (zi x5), .int (zi r3)], [], M8)) rfl ?_
          refine am_xn 1 (c1 := (120, [.ref 53, .ref 15, .int (zi x2), .int (zi x3), .int (zi x4), .int (zi x5 + zi 1), .int (zi r3)], [], M8)) rfl ?_
          rw [zi_add]
          refine am_xn 1 (c1 := (53, [.ref 53, .ref 15, .int (zi x2), .int (zi x3), .int (zi x4), .int (zi (x5 + 1)), .int (zi r3)], [], M8)) rfl ?_
          refine am_xf 6 ?_
          exact hv
  · replace hv := hv.2 h
    refine am_xn 1 (c1 := (126, [.ref 53, .ref 15, .int (zi x2), .int (zi x3 + zi 1), .int (zi x4), .int (zi x5), .null], [], M)) rfl ?_
    rw [zi_add]
    refine am_xn 1 (c1 := (26, [.ref 53, .ref 15, .int (zi x2), .int (zi (x3 + 1)), .int (zi x4), .int (zi x5), .null], [], M)) rfl ?_
    refine am_xf 4 ?_
    refine am_xf 5 ?_
    exact hv
set_option maxRecDepth 100000 in
theorem vc_meet (c : Int) (d : Int) (M : am_M) (Q : Option Value → am_M → Prop) (hv : (0 ≤ c ∧ c < 40) ∧ (((iv M 55 c) = (-1) → (0 ≤ c ∧ c < 40) ∧ (∀ M1, M1 = zup M 55 c d → (0 ≤ (iv M1 53 2) ∧ (iv M1 53 2) < 40) ∧ (∀ M2, M2 = zup M1 57 (iv M1 53 2) c → ∀ M3, M3 = zup M2 53 2 ((iv M2 53 2) + 1) → Q none M3))) ∧ (¬ (iv M 55 c) = (-1) → Q none M))) : am_x t_Wal_meet (0, am_ent (am_mL t_Wal_meet) [.ref 53, .int (zi c), .int (zi d)], [], M) Q := by
  refine am_xn 0 (c1 := (0, [.ref 53, .int (zi c), .int (zi d)], [], M)) rfl ?_
  refine am_xn 3 (c1 := (5, [.ref 53, .int (zi c), .int (zi d)], [.int (zi c), .ref 54], M)) rfl ?_
  obtain ⟨g, hv⟩ := hv
  refine am_xc t_Row_get (.invokevirtual 38) 38 (av := [.ref 54, .int (zi c)]) (rest := []) (rv := some (.int (zi (iv M 55 c)))) (M' := M) rfl rfl rfl rfl (Nat.le_of_ble_eq_true rfl) (fun _ => rfl) (sp_get_54 M c g) ?_
  refine am_xn 0 (c1 := (8, [.ref 53, .int (zi c), .int (zi d)], [.int (zi (iv M 55 c))], M)) rfl ?_
  refine am_xn 2 (c1 := (if zi (iv M 55 c) = zi (-1) then 12 else 43, [.ref 53, .int (zi c), .int (zi d)], [], M)) rfl (am_xeq (iv_r _ _ _) (by decide) (fun h => ?_) (fun h => ?_))
  · replace hv := hv.1 h
    refine am_xn 4 (c1 := (18, [.ref 53, .int (zi c), .int (zi d)], [.int (zi d), .int (zi c), .ref 54], M)) rfl ?_
    obtain ⟨g, hv⟩ := hv
    obtain ⟨M1, eM1⟩ : ∃ m, m = zup M 55 c d := ⟨_, rfl⟩
    replace hv := hv M1 eM1
    refine am_xc t_Row_set (.invokevirtual 54) 54 (av := [.ref 54, .int (zi c), .int (zi d)]) (rest := []) (rv := none) (M' := M1) rfl rfl rfl rfl (Nat.le_of_ble_eq_true rfl) (fun _ => rfl) (by rw [eM1]; exact sp_set_54 M c d g) ?_
    refine am_xn 0 (c1 := (21, [.ref 53, .int (zi c), .int (zi d)], [], M1)) rfl ?_
    refine am_xrd 4 53 2 (pc := 29) (ls := [.ref 53, .int (zi c), .int (zi d)]) (st := [.ref 56]) rfl ?_
    refine am_xn 1 (c1 := (30, [.ref 53, .int (zi c), .int (zi d)], [.int (zi c), .int (zi (iv M1 53 2)), .ref 56], M1)) rfl ?_
    obtain ⟨g, hv⟩ := hv
    obtain ⟨M2, eM2⟩ : ∃ m, m = zup M1 57 (iv M1 53 2) c := ⟨_, rfl⟩
    replace hv := hv M2 eM2
    refine am_xc t_Row_set (.invokevirtual 54) 54 (av := [.ref 56, .int (zi (iv M1 53 2)), .int (zi c)]) (rest := []) (rv := none) (M' := M2) rfl rfl rfl rfl (Nat.le_of_ble_eq_true rfl) (fun _ => rfl) (by rw [eM2]; exact sp_set_56 M1 (iv M1 53 2) c g) ?_
    refine am_xn 0 (c1 := (33, [.ref 53, .int (zi c), .int (zi d)], [], M2)) rfl ?_
    refine am_xrd 3 53 2 (pc := 38) (ls := [.ref 53, .int (zi c), .int (zi d)]) (st := [.ref 53]) rfl ?_
    refine am_xiadd 2 (iv M2 53 2) 1 (pc := 40) (ls := [.ref 53, .int (zi c), .int (zi d)]) (st := [.ref 53]) rfl ?_
    refine am_xn 1 (c1 := (43, [.ref 53, .int (zi c), .int (zi d)], [], zup M2 53 2 ((iv M2 53 2) + 1))) rfl ?_
    obtain ⟨M3, eM3⟩ : ∃ m, m = zup M2 53 2 ((iv M2 53 2) + 1) := ⟨_, rfl⟩
    replace hv := hv M3 eM3
    rw [← eM3]
    exact am_xr none ⟨rfl, rfl, rfl⟩ hv
  · replace hv := hv.2 h
    exact am_xr none ⟨rfl, rfl, rfl⟩ hv
set_option maxRecDepth 100000 in
theorem vc_greatestDistance  (M : am_M) (Q : Option Value → am_M → Prop) (hv : (0 ≤ ((iv M 53 2) - 1) ∧ ((iv M 53 2) - 1) < 40) ∧ ((0 ≤ (iv M 57 ((iv M 53 2) - 1)) ∧ (iv M 57 ((iv M 53 2) - 1)) < 40) ∧ (Q (some (.int (zi (iv M 55 (iv M 57 ((iv M 53 2) - 1)))))) M))) : am_x t_Wal_greatestDistance (0, am_ent (am_mL t_Wal_greatestDistance) [.ref 53], [], M) Q := by
  refine am_xn 0 (c1 := (0, [.ref 53], [], M)) rfl ?_
  refine am_xrd 6 53 2 (pc := 12) (ls := [.ref 53]) (st := [.ref 56, .ref 54]) rfl ?_
  refine am_xisub 2 (iv M 53 2) 1 (pc := 14) (ls := [.ref 53]) (st := [.ref 56, .ref 54]) rfl ?_
  obtain ⟨g, hv⟩ := hv
  refine am_xc t_Row_get (.invokevirtual 38) 38 (av := [.ref 56, .int (zi ((iv M 53 2) - 1))]) (rest := [.ref 54]) (rv := some (.int (zi (iv M 57 ((iv M 53 2) - 1))))) (M' := M) rfl rfl rfl rfl (Nat.le_of_ble_eq_true rfl) (fun _ => rfl) (sp_get_56 M ((iv M 53 2) - 1) g) ?_
  refine am_xn 0 (c1 := (17, [.ref 53], [.int (zi (iv M 57 ((iv M 53 2) - 1))), .ref 54], M)) rfl ?_
  obtain ⟨g, hv⟩ := hv
  refine am_xc t_Row_get (.invokevirtual 38) 38 (av := [.ref 54, .int (zi (iv M 57 ((iv M 53 2) - 1)))]) (rest := []) (rv := some (.int (zi (iv M 55 (iv M 57 ((iv M 53 2) - 1)))))) (M' := M) rfl rfl rfl rfl (Nat.le_of_ble_eq_true rfl) (fun _ => rfl) (sp_get_54 M (iv M 57 ((iv M 53 2) - 1)) g) ?_
  refine am_xn 0 (c1 := (20, [.ref 53], [.int (zi (iv M 55 (iv M 57 ((iv M 53 2) - 1))))], M)) rfl ?_
  exact am_xr (some (.int (zi (iv M 55 (iv M 57 ((iv M 53 2) - 1)))))) ⟨rfl, rfl, .int, rfl, rfl⟩ hv
set_option maxRecDepth 100000 in
theorem vc_reached  (M : am_M) (Q : Option Value → am_M → Prop) (hv : Q (some (.int (zi (iv M 53 2)))) M) : am_x t_Wal_reached (0, am_ent (am_mL t_Wal_reached) [.ref 53], [], M) Q := by
  refine am_xn 0 (c1 := (0, [.ref 53], [], M)) rfl ?_
  refine am_xrd 2 53 2 (pc := 4) (ls := [.ref 53]) (st := []) rfl ?_
  exact am_xr (some (.int (zi (iv M 53 2)))) ⟨rfl, rfl, .int, rfl, rfl⟩ hv
set_option maxRecDepth 100000 in
theorem vc_comesBack  (M : am_M) (Q : Option Value → am_M → Prop) (hv : ((iv M 53 3) = 0 ∨ (iv M 53 3) = 1) ∧ Q (some (.int (zi (iv M 53 3)))) M) : am_x t_Wal_comesBack (0, am_ent (am_mL t_Wal_comesBack) [.ref 53], [], M) Q := by
  refine am_xn 0 (c1 := (0, [.ref 53], [], M)) rfl ?_
  refine am_xrd 2 53 3 (pc := 4) (ls := [.ref 53]) (st := []) rfl ?_
  exact am_xr (some (.int (zi (iv M 53 3)))) ⟨rfl, rfl, .boolean, rfl, zi_nb hv.1⟩ hv.2
set_option maxRecDepth 100000 in
theorem vc_c_reach (d : Int) (x : Int) (w : Int) (M : am_M) (Q : Option Value → am_M → Prop) (hv : (zr d ∧ zr (9999 : Int)) ∧ ((0 ≤ d ∧ d ≤ 9999 → (zr x) ∧ ((0 ≤ x ∧ x < iv M 11 2 → (zr w ∧ zr (2 : Int)) ∧ ((0 ≤ w ∧ w ≤ 2 → ∃ M1, am_call t_SB_consolidate [.ref 0, .int (zi d), .int (zi (-1))] M none M1 ∧ ((0 ≤ x ∧ x < 40) ∧ (((iv M1 17 x) = 0 → Q (some (.int (zi (-3)))) M1) ∧ (¬ (iv M1 17 x) = 0 → ∃ M2, am_call t_Wal_follow [.ref 53, .ref 15, .int (zi x)] M1 none M2 ∧ ((zr w) ∧ ((w = 0 → ∃ (r5 : Int) (M4 : am_M), am_call t_Wal_reached [.ref 53] M2 (some (.int (zi r5))) M4 ∧ (Q (some (.int (zi r5))) M4)) ∧ (w = 1 → ∃ (r7 : Int) (M6 : am_M), am_call t_Wal_greatestDistance [.ref 53] M2 (some (.int (zi r7))) M6 ∧ (Q (some (.int (zi r7))) M6)) ∧ (¬ w = 0 → ¬ w = 1 → ∃ (r9 : Int) (M8 : am_M), am_call t_Wal_comesBack [.ref 53] M2 (some (.int (zi r9))) M8 ∧ ((zr r9) ∧ ((r9 = 0 → Q (some (.int (zi 0))) M8) ∧ (¬ r9 = 0 → Q (some (.int (zi 1))) M8)))))))))) ∧ (¬ (0 ≤ w ∧ w ≤ 2) → Q (some (.int (zi (-2)))) M))) ∧ (¬ (0 ≤ x ∧ x < iv M 11 2) → Q (some (.int (zi (-2)))) M))) ∧ (¬ (0 ≤ d ∧ d ≤ 9999) → Q (some (.int (zi (-2)))) M))) : am_x t_SB_reach (0, am_ent (am_mL t_SB_reach) [.ref 0, .int (zi d), .int (zi x), .int (zi w)], [], M) Q := by
  refine am_xn 0 (c1 := (0, [.ref 0, .int (zi d), .int (zi x), .int (zi w)], [], M)) rfl ?_
  refine am_xn 2 (c1 := (4, [.ref 0, .int (zi d), .int (zi x), .int (zi w)], [.int (zi 9999), .int (zi d)], M)) rfl ?_
  obtain ⟨g, hv⟩ := hv
  by_cases c13 : 0 ≤ d ∧ d ≤ 9999
  · replace hv := hv.1 c13
    refine am_xc t_SB_within (.invokestatic 56) 56 (av := [.int (zi d), .int (zi 9999)]) (rest := []) (rv := some (.int (zi 1))) (M' := M) rfl rfl rfl rfl (Nat.le_of_ble_eq_true rfl) (fun h => nomatch h) (by have q := sp_within M d 9999 g; rwa [if_pos c13] at q) ?_
    refine am_xn 0 (c1 := (7, [.ref 0, .int (zi d), .int (zi x), .int (zi w)], [.int (zi 1)], M)) rfl ?_
    refine am_xn 3 (c1 := (12, [.ref 0, .int (zi d), .int (zi x), .int (zi w)], [.int (zi x), .ref 0], M)) rfl ?_
    obtain ⟨g, hv⟩ := hv
    by_cases c12 : 0 ≤ x ∧ x < iv M 11 2
    · replace hv := hv.1 c12
      refine am_xc t_SB_isIdentity (.invokevirtual 208) 208 (av := [.ref 0, .int (zi x)]) (rest := []) (rv := some (.int (zi 1))) (M' := M) rfl rfl rfl rfl (Nat.le_of_ble_eq_true rfl) (fun _ => rfl) (by have q := sp_c_isIdentity M x g; rwa [if_pos c12] at q) ?_
      refine am_xn 0 (c1 := (15, [.ref 0, .int (zi d), .int (zi x), .int (zi w)], [.int (zi 1)], M)) rfl ?_
      refine am_xn 3 (c1 := (20, [.ref 0, .int (zi d), .int (zi x), .int (zi w)], [.int (zi 2), .int (zi w)], M)) rfl ?_
      obtain ⟨g, hv⟩ := hv
      by_cases c11 : 0 ≤ w ∧ w ≤ 2
      · replace hv := hv.1 c11
        refine am_xc t_SB_within (.invokestatic 56) 56 (av := [.int (zi w), .int (zi 2)]) (rest := []) (rv := some (.int (zi 1))) (M' := M) rfl rfl rfl rfl (Nat.le_of_ble_eq_true rfl) (fun h => nomatch h) (by have q := sp_within M w 2 g; rwa [if_pos c11] at q) ?_
        refine am_xn 0 (c1 := (23, [.ref 0, .int (zi d), .int (zi x), .int (zi w)], [.int (zi 1)], M)) rfl ?_
        refine am_xn 4 (c1 := (32, [.ref 0, .int (zi d), .int (zi x), .int (zi w)], [.int (zi (-1)), .int (zi d), .ref 0], M)) rfl ?_
        obtain ⟨M1, hc, hv⟩ := hv
        refine am_xc t_SB_consolidate (.invokevirtual 162) 162 (av := [.ref 0, .int (zi d), .int (zi (-1))]) (rest := []) (rv := none) (M' := M1) rfl rfl rfl rfl (Nat.le_of_ble_eq_true rfl) (fun _ => rfl) (hc) ?_
        refine am_xn 0 (c1 := (35, [.ref 0, .int (zi d), .int (zi x), .int (zi w)], [], M1)) rfl ?_
        refine am_xn 3 (c1 := (40, [.ref 0, .int (zi d), .int (zi x), .int (zi w)], [.int (zi x), .ref 15], M1)) rfl ?_
        obtain ⟨g, hv⟩ := hv
        refine am_xc t_Law_code (.invokevirtual 172) 172 (av := [.ref 15, .int (zi x)]) (rest := []) (rv := some (.int (zi (iv M1 17 x)))) (M' := M1) rfl rfl rfl rfl (Nat.le_of_ble_eq_true rfl) (fun _ => rfl) (sp_l15_code M1 x g) ?_
        refine am_xn 0 (c1 := (43, [.ref 0, .int (zi d), .int (zi x), .int (zi w)], [.int (zi (iv M1 17 x))], M1)) rfl ?_
        refine am_xn 1 (c1 := (if zi (iv M1 17 x) = zi 0 then 46 else 49, [.ref 0, .int (zi d), .int (zi x), .int (zi w)], [], M1)) rfl (am_xeq (iv_r _ _ _) (by decide) (fun h => ?_) (fun h => ?_))
        · replace hv := hv.1 h
          refine am_xn 1 (c1 := (48, [.ref 0, .int (zi d), .int (zi x), .int (zi w)], [.int (zi (-3))], M1)) rfl ?_
          exact am_xr (some (.int (zi (-3)))) ⟨rfl, rfl, .int, rfl, rfl⟩ hv
        · replace hv := hv.2 h
          refine am_xn 5 (c1 := (58, [.ref 0, .int (zi d), .int (zi x), .int (zi w)], [.int (zi x), .ref 15, .ref 53], M1)) rfl ?_
          obtain ⟨M2, hc, hv⟩ := hv
          refine am_xc t_Wal_follow (.invokevirtual 236) 236 (av := [.ref 53, .ref 15, .int (zi x)]) (rest := []) (rv := none) (M' := M2) rfl rfl rfl rfl (Nat.le_of_ble_eq_true rfl) (fun _ => rfl) (hc) ?_
          refine am_xn 0 (c1 := (61, [.ref 0, .int (zi d), .int (zi x), .int (zi w)], [], M2)) rfl ?_
          obtain ⟨r3, hv⟩ := hv
          refine am_xn 1 (c1 := (62, [.ref 0, .int (zi d), .int (zi x), .int (zi w)], [.int (zi w)], M2)) rfl ?_
          by_cases h0 : w = 0
          · replace hv := hv.1 h0
            refine am_xswl rfl 0 (by rw [h0]; rfl) 88 rfl ?_
            refine am_xn 2 (c1 := (92, [.ref 0, .int (zi d), .int (zi x), .int (zi w)], [.ref 53], M2)) rfl ?_
            obtain ⟨r5, M4, hc, hv⟩ := hv
            refine am_xc t_Wal_reached (.invokevirtual 240) 240 (av := [.ref 53]) (rest := []) (rv := some (.int (zi r5))) (M' := M4) rfl rfl rfl rfl (Nat.le_of_ble_eq_true rfl) (fun _ => rfl) (hc) ?_
            refine am_xn 0 (c1 := (95, [.ref 0, .int (zi d), .int (zi x), .int (zi w)], [.int (zi r5)], M4)) rfl ?_
            exact am_xr (some (.int (zi r5))) ⟨rfl, rfl, .int, rfl, rfl⟩ hv
          replace hv := hv.2
          by_cases h1 : w = 1
          · replace hv := hv.1 h1
            refine am_xswl rfl 1 (by rw [h1]; rfl) 96 rfl ?_
            refine am_xn 2 (c1 := (100, [.ref 0, .int (zi d), .int (zi x), .int (zi w)], [.ref 53], M2)) rfl ?_
            obtain ⟨r7, M6, hc, hv⟩ := hv
            refine am_xc t_Wal_greatestDistance (.invokevirtual 243) 243 (av := [.ref 53]) (rest := []) (rv := some (.int (zi r7))) (M' := M6) rfl rfl rfl rfl (Nat.le_of_ble_eq_true rfl) (fun _ => rfl) (hc) ?_
            refine am_xn 0 (c1 := (103, [.ref 0, .int (zi d), .int (zi x), .int (zi w)], [.int (zi r7)], M6)) rfl ?_
            exact am_xr (some (.int (zi r7))) ⟨rfl, rfl, .int, rfl, rfl⟩ hv
          replace hv := hv.2
          replace hv := hv h0 h1
          refine am_xswld rfl r3 (fun q hq => by simp at hq; rcases hq with rfl | rfl <;> assumption) 104 rfl ?_
          refine am_xn 2 (c1 := (108, [.ref 0, .int (zi d), .int (zi x), .int (zi w)], [.ref 53], M2)) rfl ?_
          obtain ⟨r9, M8, hc, hv⟩ := hv
          refine am_xc t_Wal_comesBack (.invokevirtual 246) 246 (av := [.ref 53]) (rest := []) (rv := some (.int (zi r9))) (M' := M8) rfl rfl rfl rfl (Nat.le_of_ble_eq_true rfl) (fun _ => rfl) (hc) ?_
          refine am_xn 0 (c1 := (111, [.ref 0, .int (zi d), .int (zi x), .int (zi w)], [.int (zi r9)], M8)) rfl ?_
          obtain ⟨r10, hv⟩ := hv
          refine am_xn 1 (c1 := (if zi r9 = zi 0 then 118 else 114, [.ref 0, .int (zi d), .int (zi x), .int (zi w)], [], M8)) rfl (am_xeq r10 (by decide) (fun h => ?_) (fun h => ?_))
          · replace hv := hv.1 h
            refine am_xn 1 (c1 := (119, [.ref 0, .int (zi d), .int (zi x), .int (zi w)], [.int (zi 0)], M8)) rfl ?_
            exact am_xr (some (.int (zi 0))) ⟨rfl, rfl, .int, rfl, rfl⟩ hv
          · replace hv := hv.2 h
            refine am_xn 2 (c1 := (119, [.ref 0, .int (zi d), .int (zi x), .int (zi w)], [.int (zi 1)], M8)) rfl ?_
            exact am_xr (some (.int (zi 1))) ⟨rfl, rfl, .int, rfl, rfl⟩ hv
      · replace hv := hv.2 c11
        refine am_xc t_SB_within (.invokestatic 56) 56 (av := [.int (zi w), .int (zi 2)]) (rest := []) (rv := some (.int (zi 0))) (M' := M) rfl rfl rfl rfl (Nat.le_of_ble_eq_true rfl) (fun h => nomatch h) (by have q := sp_within M w 2 g; rwa [if_neg c11] at q) ?_
        refine am_xn 0 (c1 := (23, [.ref 0, .int (zi d), .int (zi x), .int (zi w)], [.int (zi 0)], M)) rfl ?_
        refine am_xn 2 (c1 := (28, [.ref 0, .int (zi d), .int (zi x), .int (zi w)], [.int (zi (-2))], M)) rfl ?_
        exact am_xr (some (.int (zi (-2)))) ⟨rfl, rfl, .int, rfl, rfl⟩ hv
    · replace hv := hv.2 c12
      refine am_xc t_SB_isIdentity (.invokevirtual 208) 208 (av := [.ref 0, .int (zi x)]) (rest := []) (rv := some (.int (zi 0))) (M' := M) rfl rfl rfl rfl (Nat.le_of_ble_eq_true rfl) (fun _ => rfl) (by have q := sp_c_isIdentity M x g; rwa [if_neg c12] at q) ?_
      refine am_xn 0 (c1 := (15, [.ref 0, .int (zi d), .int (zi x), .int (zi w)], [.int (zi 0)], M)) rfl ?_
      refine am_xn 2 (c1 := (28, [.ref 0, .int (zi d), .int (zi x), .int (zi w)], [.int (zi (-2))], M)) rfl ?_
      exact am_xr (some (.int (zi (-2)))) ⟨rfl, rfl, .int, rfl, rfl⟩ hv
  · replace hv := hv.2 c13
    refine am_xc t_SB_within (.invokestatic 56) 56 (av := [.int (zi d), .int (zi 9999)]) (rest := []) (rv := some (.int (zi 0))) (M' := M) rfl rfl rfl rfl (Nat.le_of_ble_eq_true rfl) (fun h => nomatch h) (by have q := sp_within M d 9999 g; rwa [if_neg c13] at q) ?_
    refine am_xn 0 (c1 := (7, [.ref 0, .int (zi d), .int (zi x), .int (zi w)], [.int (zi 0)], M)) rfl ?_
    refine am_xn 2 (c1 := (28, [.ref 0, .int (zi d), .int (zi x), .int (zi w)], [.int (zi (-2))], M)) rfl ?_
    exact am_xr (some (.int (zi (-2)))) ⟨rfl, rfl, .int, rfl, rfl⟩ hv
set_option maxRecDepth 100000 in
theorem vc_m_reach (d : Int) (x : Int) (w : Int) (M : am_M) (Q : Option Value → am_M → Prop) (hv : (zr d) ∧ ((0 ≤ d ∧ d ≤ 9999 → (zr x ∧ iv M 59 0 ≤ 20 ∧ 0 ≤ nops (iv M 59) ∧ nops (iv M 59) ≤ 120) ∧ ((0 ≤ x ∧ x < ia (iv M 59) (nops (iv M 59)) → (zr w ∧ zr (0 : Int) ∧ zr (2 : Int)) ∧ ((0 ≤ w ∧ w ≤ 2 → ∃ M1, am_call t_Mo_laws [.ref 58, .int (zi d), .int (zi (-1))] M none M1 ∧ ((0 ≤ x ∧ x < 40) ∧ (((iv M1 64 x) = 0 → Q (some (.int (zi (-3)))) M1) ∧ (¬ (iv M1 64 x) = 0 → am_x t_Mo_reach (48, [.ref 58, .null, .int (zi x), .int (zi w), .int (zi 0), .null, .null, .null], [], M1) Q)))) ∧ (¬ (0 ≤ w ∧ w ≤ 2) → Q (some (.int (zi (-2)))) M))) ∧ (¬ (0 ≤ x ∧ x < ia (iv M 59) (nops (iv M 59))) → Q (some (.int (zi (-2)))) M))) ∧ (¬ (0 ≤ d ∧ d ≤ 9999) → Q (some (.int (zi (-2)))) M))) : am_x t_Mo_reach (0, am_ent (am_mL t_Mo_reach) [.ref 58, .int (zi d), .int (zi x), .int (zi w)], [], M) Q := by
  refine am_xn 0 (c1 := (0, [.ref 58, .int (zi d), .int (zi x), .int (zi w), .null, .null, .null, .null], [], M)) rfl ?_
  refine am_xn 1 (c1 := (1, [.ref 58, .int (zi d), .int (zi x), .int (zi w), .null, .null, .null, .null], [.int (zi d)], M)) rfl ?_
  obtain ⟨g, hv⟩ := hv
  by_cases c5 : 0 ≤ d ∧ d ≤ 9999
  · replace hv := hv.1 c5
    refine am_xc t_Mo_isDay (.invokestatic 80) 80 (av := [.int (zi d)]) (rest := []) (rv := some (.int (zi 1))) (M' := M) rfl rfl rfl rfl (Nat.le_of_ble_eq_true rfl) (fun h => nomatch h) (by have q := sp_isDay M d g; rwa [if_pos c5] at q) ?_
    refine am_xn 0 (c1 := (4, [.ref 58, .int (zi d), .int (zi x), .int (zi w), .null, .null, .null, .null], [.int (zi 1)], M)) rfl ?_
    refine am_xn 3 (c1 := (9, [.ref 58, .int (zi d), .int (zi x), .int (zi w), .null, .null, .null, .null], [.int (zi x), .ref 58], M)) rfl ?_
    obtain ⟨g, hv⟩ := hv
    by_cases c4 : 0 ≤ x ∧ x < ia (iv M 59) (nops (iv M 59))
    · replace hv := hv.1 c4
      refine am_xc t_Mo_isIdentity (.invokevirtual 287) 287 (av := [.ref 58, .int (zi x)]) (rest := []) (rv := some (.int (zi 1))) (M' := M) rfl rfl rfl rfl (Nat.le_of_ble_eq_true rfl) (fun _ => rfl) (by have q := sp_isIdentity M x g; rwa [if_pos c4] at q) ?_
      refine am_xn 0 (c1 := (12, [.ref 58, .int (zi d), .int (zi x), .int (zi w), .null, .null, .null, .null], [.int (zi 1)], M)) rfl ?_
      refine am_xn 4 (c1 := (18, [.ref 58, .int (zi d), .int (zi x), .int (zi w), .null, .null, .null, .null], [.int (zi 2), .int (zi 0), .int (zi w)], M)) rfl ?_
      obtain ⟨g, hv⟩ := hv
      by_cases c3 : 0 ≤ w ∧ w ≤ 2
      · replace hv := hv.1 c3
        refine am_xc t_Mo_in (.invokestatic 76) 76 (av := [.int (zi w), .int (zi 0), .int (zi 2)]) (rest := []) (rv := some (.int (zi 1))) (M' := M) rfl rfl rfl rfl (Nat.le_of_ble_eq_true rfl) (fun h => nomatch h) (by have q := sp_in M w 0 2 g; rwa [if_pos c3] at q) ?_
        refine am_xn 0 (c1 := (21, [.ref 58, .int (zi d), .int (zi x), .int (zi w), .null, .null, .null, .null], [.int (zi 1)], M)) rfl ?_
        refine am_xn 4 (c1 := (30, [.ref 58, .int (zi d), .int (zi x), .int (zi w), .null, .null, .null, .null], [.int (zi (-1)), .int (zi d), .ref 58], M)) rfl ?_
        obtain ⟨M1, hc, hv⟩ := hv
        refine am_xc t_Mo_laws (.invokevirtual 140) 140 (av := [.ref 58, .int (zi d), .int (zi (-1))]) (rest := []) (rv := none) (M' := M1) rfl rfl rfl rfl (Nat.le_of_ble_eq_true rfl) (fun _ => rfl) (hc) ?_
        refine am_xn 0 (c1 := (33, [.ref 58, .int (zi d), .int (zi x), .int (zi w), .null, .null, .null, .null], [], M1)) rfl ?_
        obtain ⟨r2, hv⟩ := hv
        refine am_xn 3 (c1 := (38, [.ref 58, .int (zi d), .int (zi x), .int (zi w), .null, .null, .null, .null], [.int (zi x), .ref 64], M1)) rfl ?_
        refine am_xald rfl rfl rfl r2 ?_
        refine am_xn 0 (c1 := (39, [.ref 58, .int (zi d), .int (zi x), .int (zi w), .null, .null, .null, .null], [.int (zi (iv M1 64 x))], M1)) rfl ?_
        refine am_xn 1 (c1 := (if zi (iv M1 64 x) = zi 0 then 42 else 45, [.ref 58, .int (zi d), .int (zi x), .int (zi w), .null, .null, .null, .null], [], M1)) rfl (am_xeq (iv_r _ _ _) (by decide) (fun h => ?_) (fun h => ?_))
        · replace hv := hv.1 h
          refine am_xn 1 (c1 := (44, [.ref 58, .int (zi d), .int (zi x), .int (zi w), .null, .null, .null, .null], [.int (zi (-3))], M1)) rfl ?_
          exact am_xr (some (.int (zi (-3)))) ⟨rfl, rfl, .int, rfl, rfl⟩ hv
        · replace hv := hv.2 h
          refine am_xn 2 (c1 := (48, [.ref 58, .int (zi d), .int (zi x), .int (zi w), .int (zi 0), .null, .null, .null], [], M1)) rfl ?_
          refine am_xf 1 ?_
          exact hv
      · replace hv := hv.2 c3
        refine am_xc t_Mo_in (.invokestatic 76) 76 (av := [.int (zi w), .int (zi 0), .int (zi 2)]) (rest := []) (rv := some (.int (zi 0))) (M' := M) rfl rfl rfl rfl (Nat.le_of_ble_eq_true rfl) (fun h => nomatch h) (by have q := sp_in M w 0 2 g; rwa [if_neg c3] at q) ?_
        refine am_xn 0 (c1 := (21, [.ref 58, .int (zi d), .int (zi x), .int (zi w), .null, .null, .null, .null], [.int (zi 0)], M)) rfl ?_
        refine am_xn 2 (c1 := (26, [.ref 58, .int (zi d), .int (zi x), .int (zi w), .null, .null, .null, .null], [.int (zi (-2))], M)) rfl ?_
        exact am_xr (some (.int (zi (-2)))) ⟨rfl, rfl, .int, rfl, rfl⟩ hv
    · replace hv := hv.2 c4
      refine am_xc t_Mo_isIdentity (.invokevirtual 287) 287 (av := [.ref 58, .int (zi x)]) (rest := []) (rv := some (.int (zi 0))) (M' := M) rfl rfl rfl rfl (Nat.le_of_ble_eq_true rfl) (fun _ => rfl) (by have q := sp_isIdentity M x g; rwa [if_neg c4] at q) ?_
      refine am_xn 0 (c1 := (12, [.ref 58, .int (zi d), .int (zi x), .int (zi w), .null, .null, .null, .null], [.int (zi 0)], M)) rfl ?_
      refine am_xn 2 (c1 := (26, [.ref 58, .int (zi d), .int (zi x), .int (zi w), .null, .null, .null, .null], [.int (zi (-2))], M)) rfl ?_
      exact am_xr (some (.int (zi (-2)))) ⟨rfl, rfl, .int, rfl, rfl⟩ hv
  · replace hv := hv.2 c5
    refine am_xc t_Mo_isDay (.invokestatic 80) 80 (av := [.int (zi d)]) (rest := []) (rv := some (.int (zi 0))) (M' := M) rfl rfl rfl rfl (Nat.le_of_ble_eq_true rfl) (fun h => nomatch h) (by have q := sp_isDay M d g; rwa [if_neg c5] at q) ?_
    refine am_xn 0 (c1 := (4, [.ref 58, .int (zi d), .int (zi x), .int (zi w), .null, .null, .null, .null], [.int (zi 0)], M)) rfl ?_
    refine am_xn 2 (c1 := (26, [.ref 58, .int (zi d), .int (zi x), .int (zi w), .null, .null, .null, .null], [.int (zi (-2))], M)) rfl ?_
    exact am_xr (some (.int (zi (-2)))) ⟨rfl, rfl, .int, rfl, rfl⟩ hv
set_option maxRecDepth 100000 in
theorem vc_m_reach_48 (x2 : Int) (x3 : Int) (x4 : Int) (M : am_M) (Q : Option Value → am_M → Prop) (hv : (zr x4) ∧ ((x4 < 40 → (0 ≤ x4 ∧ x4 < 40) ∧ (∀ M2, M2 = zup M 80 x4 (-1) → am_x t_Mo_reach (48, [.ref 58, .null, .int (zi x2), .int (zi x3), .int (zi (x4 + 1)), .null, .null, .null], [], M2) Q)) ∧ (40 ≤ x4 → (0 ≤ x2 ∧ x2 < 40) ∧ (∀ M4, M4 = zup M 80 x2 0 → am_x t_Mo_reach (79, [.ref 58, .null, .int (zi x2), .int (zi x3), .int (zi 0), .null, .null, .null], [], M4) Q)))) : am_x t_Mo_reach (48, [.ref 58, .null, .int (zi x2), .int (zi x3), .int (zi x4), .null, .null, .null], [], M) Q := by
  obtain ⟨r1, hv⟩ := hv
  refine am_xn 3 (c1 := (if zi x4 < zi 40 then 55 else 69, [.ref 58, .null, .int (zi x2), .int (zi x3), .int (zi x4), .null, .null, .null], [], M)) rfl (am_xlt r1 (by decide) (fun h => ?_) (fun h => ?_))
  · replace hv := hv.1 h
    obtain ⟨r3, hv⟩ := hv
    refine am_xn 4 (c1 := (62, [.ref 58, .null, .int (zi x2), .int (zi x3), .int (zi x4), .null, .null, .null], [.int (zi (-1)), .int (zi x4), .ref 80], M)) rfl ?_
    refine am_xast rfl rfl rfl r3 ?_
    refine am_xn 0 (c1 := (63, [.ref 58, .null, .int (zi x2), .int (zi x3), .int (zi x4), .null, .null, .null], [], zup M 80 x4 (-1))) rfl ?_
    obtain ⟨M2, eM2⟩ : ∃ m, m = zup M 80 x4 (-1) := ⟨_, rfl⟩
    replace hv := hv M2 eM2
    rw [← eM2]
    refine am_xn 1 (c1 := (66, [.ref 58, .null, .int (zi x2), .int (zi x3), .int (zi x4 + zi 1), .null, .null, .null], [], M2)) rfl ?_
    rw [zi_add]
    refine am_xn 1 (c1 := (48, [.ref 58, .null, .int (zi x2), .int (zi x3), .int (zi (x4 + 1)), .null, .null, .null], [], M2)) rfl ?_
    exact hv
  · replace hv := hv.2 h
    obtain ⟨r5, hv⟩ := hv
    refine am_xn 4 (c1 := (75, [.ref 58, .null, .int (zi x2), .int (zi x3), .int (zi x4), .null, .null, .null], [.int (zi 0), .int (zi x2), .ref 80], M)) rfl ?_
    refine am_xast rfl rfl rfl r5 ?_
    refine am_xn 0 (c1 := (76, [.ref 58, .null, .int (zi x2), .int (zi x3), .int (zi x4), .null, .null, .null], [], zup M 80 x2 0)) rfl ?_
    obtain ⟨M4, eM4⟩ : ∃ m, m = zup M 80 x2 0 := ⟨_, rfl⟩
    replace hv := hv M4 eM4
    rw [← eM4]
    refine am_xn 2 (c1 := (79, [.ref 58, .null, .int (zi x2), .int (zi x3), .int (zi 0), .null, .null, .null], [], M4)) rfl ?_
    exact hv
set_option maxRecDepth 100000 in
theorem vc_m_reach_79 (x2 : Int) (x3 : Int) (x4 : Int) (M : am_M) (Q : Option Value → am_M → Prop) (hv : ∃ (r2 : Int) (M1 : am_M), am_call t_Mo_spreads [.ref 58, .int (zi x4)] M (some (.int (zi r2))) M1 ∧ ((zr r2) ∧ ((r2 = 0 → am_x t_Mo_reach (103, [.ref 58, .null, .int (zi x2), .int (zi x3), .int (zi x4), .int (zi 0), .int (zi 0), .int (zi 0)], [], M1) Q) ∧ (¬ r2 = 0 → am_x t_Mo_reach (79, [.ref 58, .null, .int (zi x2), .int (zi x3), .int (zi (x4 + 1)), .null, .null, .null], [], M1) Q)))) : am_x t_Mo_reach (79, [.ref 58, .null, .int (zi x2), .int (zi x3), .int (zi x4), .null, .null, .null], [], M) Q := by
  refine am_xn 2 (c1 := (82, [.ref 58, .null, .int (zi x2), .int (zi x3), .int (zi x4), .null, .null, .null], [.int (zi x4), .ref 58], M)) rfl ?_
  obtain ⟨r2, M1, hc, hv⟩ := hv
  refine am_xc t_Mo_spreads (.invokevirtual 302) 302 (av := [.ref 58, .int (zi x4)]) (rest := []) (rv := some (.int (zi r2))) (M' := M1) rfl rfl rfl rfl (Nat.le_of_ble_eq_true rfl) (fun _ => rfl) (hc) ?_
  refine am_xn 0 (c1 := (85, [.ref 58, .null, .int (zi x2), .int (zi x3), .int (zi x4), .null, .null, .null], [.int (zi r2)], M1)) rfl ?_
  obtain ⟨r3, hv⟩ := hv
  refine am_xn 1 (c1 := (if zi r2 = zi 0 then 94 else 88, [.ref 58, .null, .int (zi x2), .int (zi x3), .int (zi x4), .null, .null, .null], [], M1)) rfl (am_xeq r3 (by decide) (fun h => ?_) (fun h => ?_))
  · replace hv := hv.1 h
    refine am_xn 6 (c1 := (103, [.ref 58, .null, .int (zi x2), .int (zi x3), .int (zi x4), .int (zi 0), .int (zi 0), .int (zi 0)], [], M1)) rfl ?_
    exact hv
  · replace hv := hv.2 h
    refine am_xn 1 (c1 := (91, [.ref 58, .null, .int (zi x2), .int (zi x3), .int (zi x4 + zi 1), .null, .null, .null], [], M1)) rfl ?_
    rw [zi_add]
    refine am_xn 1 (c1 := (79, [.ref 58, .null, .int (zi x2), .int (zi x3), .int (zi (x4 + 1)), .null, .null, .null], [], M1)) rfl ?_
    exact hv
set_option maxRecDepth 100000 in
theorem vc_m_reach_103 (x2 : Int) (x3 : Int) (x4 : Int) (x5 : Int) (x6 : Int) (x7 : Int) (M : am_M) (Q : Option Value → am_M → Prop) (hv : (zr x7) ∧ ((x7 < 40 → (0 ≤ x7 ∧ x7 < 40) ∧ (((iv M 80 x7) = (-1) → (0 ≤ x7 ∧ x7 < 40) ∧ (am_x t_Mo_reach (103, [.ref 58, .null, .int (zi x2), .int (zi x3), .int (zi x4), .int (zi (x5 + 0)), .int (zi x6), .int (zi (x7 + 1))], [], M) Q)) ∧ (¬ (iv M 80 x7) = (-1) → (0 ≤ x7 ∧ x7 < 40) ∧ (∃ (r6 : Int) (M5 : am_M), am_call t_Mo_refers [.ref 58, .int (zi x7), .int (zi x2)] M (some (.int (zi r6))) M5 ∧ ((zr r6) ∧ ((r6 = 0 → am_x t_Mo_reach (103, [.ref 58, .null, .int (zi x2), .int (zi x3), .int (zi x4), .int (zi (x5 + 1)), .int (zi x6), .int (zi (x7 + 1))], [], M5) Q) ∧ (¬ r6 = 0 → am_x t_Mo_reach (103, [.ref 58, .null, .int (zi x2), .int (zi x3), .int (zi x4), .int (zi (x5 + 1)), .int (zi 1), .int (zi (x7 + 1))], [], M5) Q))))))) ∧ (40 ≤ x7 → (zr x3) ∧ ((x3 = 0 → Q (some (.int (zi x5))) M) ∧ (¬ x3 = 0 → (x3 = 1 → Q (some (.int (zi x4))) M) ∧ (¬ x3 = 1 → Q (some (.int (zi x6))) M)))))) : am_x t_Mo_reach (103, [.ref 58, .null, .int (zi x2), .int (zi x3), .int (zi x4), .int (zi x5), .int (zi x6), .int (zi x7)], [], M) Q := by
  obtain ⟨r1, hv⟩ := hv
  refine am_xn 3 (c1 := (if zi x7 < zi 40 then 110 else 166, [.ref 58, .null, .int (zi x2), .int (zi x3), .int (zi x4), .int (zi x5), .int (zi x6), .int (zi x7)], [], M)) rfl (am_xlt r1 (by decide) (fun h => ?_) (fun h => ?_))
  · replace hv := hv.1 h
    obtain ⟨r2, hv⟩ := hv
    refine am_xn 4 (c1 := (118, [.ref 58, .null, .int (zi x2), .int (zi x3), .int (zi x4), .int (zi x5), .int (zi x6), .int (zi x7)], [.int (zi x7), .ref 80, .int (zi x5)], M)) rfl ?_
    refine am_xald rfl rfl rfl r2 ?_
    refine am_xn 0 (c1 := (119, [.ref 58, .null, .int (zi x2), .int (zi x3), .int (zi x4), .int (zi x5), .int (zi x6), .int (zi x7)], [.int (zi (iv M 80 x7)), .int (zi x5)], M)) rfl ?_
    refine am_xn 2 (c1 := (if zi (iv M 80 x7) = zi (-1) then 127 else 123, [.ref 58, .null, .int (zi x2), .int (zi x3), .int (zi x4), .int (zi x5), .int (zi x6), .int (zi x7)], [.int (zi x5)], M)) rfl (am_xeq (iv_r _ _ _) (by decide) (fun h => ?_) (fun h => ?_))
    · replace hv := hv.1 h
      refine am_xiadd 2 x5 0 (pc := 129) (ls := [.ref 58, .null, .int (zi x2), .int (zi x3), .int (zi x4), .int (zi x5), .int (zi x6), .int (zi x7)]) (st := []) rfl ?_
      obtain ⟨r3, hv⟩ := hv
      refine am_xn 4 (c1 := (137, [.ref 58, .null, .int (zi x2), .int (zi x3), .int (zi x4), .int (zi (x5 + 0)), .int (zi x6), .int (zi x7)], [.int (zi x7), .ref 80], M)) rfl ?_
      refine am_xald rfl rfl rfl r3 ?_
      refine am_xn 0 (c1 := (138, [.ref 58, .null, .int (zi x2), .int (zi x3), .int (zi x4), .int (zi (x5 + 0)), .int (zi x6), .int (zi x7)], [.int (zi (iv M 80 x7))], M)) rfl ?_
      refine am_xn 2 (c1 := (if zi (iv M 80 x7) = zi (-1) then 156 else 142, [.ref 58, .null, .int (zi x2), .int (zi x3), .int (zi x4), .int (zi (x5 + 0)), .int (zi x6), .int (zi x7)], [], M)) rfl (am_xeq (iv_r _ _ _) (by decide) (fun h => ?_) (fun h => by clear hv; exfalso; omega))
      refine am_xn 3 (c1 := (163, [.ref 58, .null, .int (zi x2), .int (zi x3), .int (zi x4), .int (zi (x5 + 0)), .int (zi x6), .int (zi x7 + zi 1)], [], M)) rfl ?_
      rw [zi_add]
      refine am_xn 1 (c1 := (103, [.ref 58, .null, .int (zi x2), .int (zi x3), .int (zi x4), .int (zi (x5 + 0)), .int (zi x6), .int (zi (x7 + 1))], [], M)) rfl ?_
      exact hv
    · replace hv := hv.2 h
      refine am_xiadd 3 x5 1 (pc := 129) (ls := [.ref 58, .null, .int (zi x2), .int (zi x3), .int (zi x4), .int (zi x5), .int (zi x6), .int (zi x7)]) (st := []) rfl ?_
      obtain ⟨r4, hv⟩ := hv
      refine am_xn 4 (c1 := (137, [.ref 58, .null, .int (zi x2), .int (zi x3), .int (zi x4), .int (zi (x5 + 1)), .int (zi x6), .int (zi x7)], [.int (zi x7), .ref 80], M)) rfl ?_
      refine am_xald rfl rfl rfl r4 ?_
      refine am_xn 0 (c1 := (138, [.ref 58, .null, .int (zi x2), .int (zi x3), .int (zi x4), .int (zi (x5 + 1)), .int (zi x6), .int (zi x7)], [.int (zi (iv M 80 x7))], M)) rfl ?_
      refine am_xn 2 (c1 := (if zi (iv M 80 x7) = zi (-1) then 156 else 142, [.ref 58, .null, .int (zi x2), .int (zi x3), .int (zi x4), .int (zi (x5 + 1)), .int (zi x6), .int (zi x7)], [], M)) rfl (am_xeq (iv_r _ _ _) (by decide) (fun h => by clear hv; exfalso; omega) (fun h => ?_))
      refine am_xn 3 (c1 := (146, [.ref 58, .null, .int (zi x2), .int (zi x3), .int (zi x4), .int (zi (x5 + 1)), .int (zi x6), .int (zi x7)], [.int (zi x2), .int (zi x7), .ref 58], M)) rfl ?_
      obtain ⟨r6, M5, hc, hv⟩ := hv
      refine am_xc t_Mo_refers (.invokevirtual 299) 299 (av := [.ref 58, .int (zi x7), .int (zi x2)]) (rest := []) (rv := some (.int (zi r6))) (M' := M5) rfl rfl rfl rfl (Nat.le_of_ble_eq_true rfl) (fun _ => rfl) (hc) ?_
      refine am_xn 0 (c1 := (149, [.ref 58, .null, .int (zi x2), .int (zi x3), .int (zi x4), .int (zi (x5 + 1)), .int (zi x6), .int (zi x7)], [.int (zi r6)], M5)) rfl ?_
      obtain ⟨r7, hv⟩ := hv
      refine am_xn 1 (c1 := (if zi r6 = zi 0 then 156 else 152, [.ref 58, .null, .int (zi x2), .int (zi x3), .int (zi x4), .int (zi (x5 + 1)), .int (zi x6), .int (zi x7)], [], M5)) rfl (am_xeq r7 (by decide) (fun h => ?_) (fun h => ?_))
      · replace hv := hv.1 h
        refine am_xn 3 (c1 := (163, [.ref 58, .null, .int (zi x2), .int (zi x3), .int (zi x4), .int (zi (x5 + 1)), .int (zi x6), .int (zi x7 + zi 1)], [], M5)) rfl ?_
        rw [zi_add]
        refine am_xn 1 (c1 := (103, [.ref 58, .null, .int (zi x2), .int (zi x3), .int (zi x4), .int (zi (x5 + 1)), .int (zi x6), .int (zi (x7 + 1))], [], M5)) rfl ?_
        exact hv
      · replace hv := hv.2 h
        refine am_xn 4 (c1 := (163, [.ref 58, .null, .int (zi x2), .int (zi x3), .int (zi x4), .int (zi (x5 + 1)), .int (zi 1), .int (zi x7 + zi 1)], [], M5)) rfl ?_
        rw [zi_add]
        refine am_xn 1 (c1 := (103, [.ref 58, .null, .int (zi x2), .int (zi x3), .int (zi x4), .int (zi (x5 + 1)), .int (zi 1), .int (zi (x7 + 1))], [], M5)) rfl ?_
        exact hv
  · replace hv := hv.2 h
    obtain ⟨r8, hv⟩ := hv
    refine am_xn 2 (c1 := (if zi x3 = zi 0 then 170 else 175, [.ref 58, .null, .int (zi x2), .int (zi x3), .int (zi x4), .int (zi x5), .int (zi x6), .int (zi x7)], [], M)) rfl (am_xeq r8 (by decide) (fun h => ?_) (fun h => ?_))
    · replace hv := hv.1 h
      refine am_xn 2 (c1 := (187, [.ref 58, .null, .int (zi x2), .int (zi x3), .int (zi x4), .int (zi x5), .int (zi x6), .int (zi x7)], [.int (zi x5)], M)) rfl ?_
      exact am_xr (some (.int (zi x5))) ⟨rfl, rfl, .int, rfl, rfl⟩ hv
    · replace hv := hv.2 h
      refine am_xn 3 (c1 := (if zi x3 = zi 1 then 180 else 185, [.ref 58, .null, .int (zi x2), .int (zi x3), .int (zi x4), .int (zi x5), .int (zi x6), .int (zi x7)], [], M)) rfl (am_xeq r8 (by decide) (fun h => ?_) (fun h => ?_))
      · replace hv := hv.1 h
        refine am_xn 2 (c1 := (187, [.ref 58, .null, .int (zi x2), .int (zi x3), .int (zi x4), .int (zi x5), .int (zi x6), .int (zi x7)], [.int (zi x4)], M)) rfl ?_
        exact am_xr (some (.int (zi x4))) ⟨rfl, rfl, .int, rfl, rfl⟩ hv
      · replace hv := hv.2 h
        refine am_xn 1 (c1 := (187, [.ref 58, .null, .int (zi x2), .int (zi x3), .int (zi x4), .int (zi x5), .int (zi x6), .int (zi x7)], [.int (zi x6)], M)) rfl ?_
        exact am_xr (some (.int (zi x6))) ⟨rfl, rfl, .int, rfl, rfl⟩ hv
set_option maxRecDepth 100000 in
theorem vc_spreads (n : Int) (M : am_M) (Q : Option Value → am_M → Prop) (hv : am_x t_Mo_spreads (4, [.ref 58, .int (zi n), .int (zi 0), .int (zi 0), .null], [], M) Q) : am_x t_Mo_spreads (0, am_ent (am_mL t_Mo_spreads) [.ref 58, .int (zi n)], [], M) Q := by
  refine am_xn 0 (c1 := (0, [.ref 58, .int (zi n), .null, .null, .null], [], M)) rfl ?_
  refine am_xn 4 (c1 := (4, [.ref 58, .int (zi n), .int (zi 0), .int (zi 0), .null], [], M)) rfl ?_
  exact hv
set_option maxRecDepth 100000 in
theorem vc_spreads_4 (x1 : Int) (x2 : Int) (x3 : Int) (M : am_M) (Q : Option Value → am_M → Prop) (hv : (zr x3) ∧ ((x3 < 40 → am_x t_Mo_spreads (13, [.ref 58, .int (zi x1), .int (zi x2), .int (zi x3), .int (zi 0)], [], M) Q) ∧ (40 ≤ x3 → (x2 = 0 ∨ x2 = 1) ∧ Q (some (.int (zi x2))) M))) : am_x t_Mo_spreads (4, [.ref 58, .int (zi x1), .int (zi x2), .int (zi x3), .null], [], M) Q := by
  obtain ⟨r1, hv⟩ := hv
  refine am_xn 3 (c1 := (if zi x3 < zi 40 then 10 else 86, [.ref 58, .int (zi x1), .int (zi x2), .int (zi x3), .null], [], M)) rfl (am_xlt r1 (by decide) (fun h => ?_) (fun h => ?_))
  · replace hv := hv.1 h
    refine am_xn 2 (c1 := (13, [.ref 58, .int (zi x1), .int (zi x2), .int (zi x3), .int (zi 0)], [], M)) rfl ?_
    exact hv
  · replace hv := hv.2 h
    refine am_xn 1 (c1 := (87, [.ref 58, .int (zi x1), .int (zi x2), .int (zi x3), .null], [.int (zi x2)], M)) rfl ?_
    exact am_xr (some (.int (zi x2))) ⟨rfl, rfl, .boolean, rfl, zi_nb hv.1⟩ hv.2
set_option maxRecDepth 100000 in
theorem vc_spreads_13 (x1 : Int) (x2 : Int) (x3 : Int) (x4 : Int) (M : am_M) (Q : Option Value → am_M → Prop) (hv : (zr x4) ∧ ((x4 < 40 → (0 ≤ x3 ∧ x3 < 40) ∧ ((zr x1) ∧ (((iv M 80 x3) = x1 → (0 ≤ x4 ∧ x4 < 40) ∧ (((iv M 64 x4) = 1 → (0 ≤ x4 ∧ x4 < 40) ∧ (((iv M 80 x4) = (-1) → ∃ (r7 : Int) (M6 : am_M), am_call t_Mo_refers [.ref 58, .int (zi x3), .int (zi x4)] M (some (.int (zi r7))) M6 ∧ ((zr r7) ∧ ((r7 = 0 → am_x t_Mo_spreads (13, [.ref 58, .int (zi x1), .int (zi x2), .int (zi x3), .int (zi (x4 + 1))], [], M6) Q) ∧ (¬ r7 = 0 → (0 ≤ x4 ∧ x4 < 40) ∧ (∀ M9, M9 = zup M6 80 x4 (x1 + 1) → am_x t_Mo_spreads (13, [.ref 58, .int (zi x1), .int (zi 1), .int (zi x3), .int (zi (x4 + 1))], [], M9) Q))))) ∧ (¬ (iv M 80 x4) = (-1) → am_x t_Mo_spreads (13, [.ref 58, .int (zi x1), .int (zi x2), .int (zi x3), .int (zi (x4 + 1))], [], M) Q))) ∧ (¬ (iv M 64 x4) = 1 → am_x t_Mo_spreads (13, [.ref 58, .int (zi x1), .int (zi x2), .int (zi x3), .int (zi (x4 + 1))], [], M) Q))) ∧ (¬ (iv M 80 x3) = x1 → am_x t_Mo_spreads (4, [.ref 58, .int (zi x1), .int (zi x2), .int (zi (x3 + 1)), .null], [], M) Q)))) ∧ (40 ≤ x4 → am_x t_Mo_spreads (4, [.ref 58, .int (zi x1), .int (zi x2), .int (zi (x3 + 1)), .null], [], M) Q))) : am_x t_Mo_spreads (13, [.ref 58, .int (zi x1), .int (zi x2), .int (zi x3), .int (zi x4)], [], M) Q := by
  obtain ⟨r1, hv⟩ := hv
  refine am_xn 3 (c1 := (if zi x4 < zi 40 then 20 else 80, [.ref 58, .int (zi x1), .int (zi x2), .int (zi x3), .int (zi x4)], [], M)) rfl (am_xlt r1 (by decide) (fun h => ?_) (fun h => ?_))
  · replace hv := hv.1 h
    obtain ⟨r2, hv⟩ := hv
    refine am_xn 3 (c1 := (25, [.ref 58, .int (zi x1), .int (zi x2), .int (zi x3), .int (zi x4)], [.int (zi x3), .ref 80], M)) rfl ?_
    refine am_xald rfl rfl rfl r2 ?_
    refine am_xn 0 (c1 := (26, [.ref 58, .int (zi x1), .int (zi x2), .int (zi x3), .int (zi x4)], [.int (zi (iv M 80 x3))], M)) rfl ?_
    obtain ⟨r3, hv⟩ := hv
    refine am_xn 2 (c1 := (if zi (iv M 80 x3) = zi x1 then 30 else 80, [.ref 58, .int (zi x1), .int (zi x2), .int (zi x3), .int (zi x4)], [], M)) rfl (am_xeq (iv_r _ _ _) r3 (fun h => ?_) (fun h => ?_))
    · replace hv := hv.1 h
      obtain ⟨r4, hv⟩ := hv
      refine am_xn 3 (c1 := (36, [.ref 58, .int (zi x1), .int (zi x2), .int (zi x3), .int (zi x4)], [.int (zi x4), .ref 64], M)) rfl ?_
      refine am_xald rfl rfl rfl r4 ?_
      refine am_xn 0 (c1 := (37, [.ref 58, .int (zi x1), .int (zi x2), .int (zi x3), .int (zi x4)], [.int (zi (iv M 64 x4))], M)) rfl ?_
      refine am_xn 2 (c1 := (if zi (iv M 64 x4) = zi 1 then 41 else 74, [.ref 58, .int (zi x1), .int (zi x2), .int (zi x3), .int (zi x4)], [], M)) rfl (am_xeq (iv_r _ _ _) (by decide) (fun h => ?_) (fun h => ?_))
      · replace hv := hv.1 h
        obtain ⟨r5, hv⟩ := hv
        refine am_xn 3 (c1 := (47, [.ref 58, .int (zi x1), .int (zi x2), .int (zi x3), .int (zi x4)], [.int (zi x4), .ref 80], M)) rfl ?_
        refine am_xald rfl rfl rfl r5 ?_
        refine am_xn 0 (c1 := (48, [.ref 58, .int (zi x1), .int (zi x2), .int (zi x3), .int (zi x4)], [.int (zi (iv M 80 x4))], M)) rfl ?_
        refine am_xn 2 (c1 := (if zi (iv M 80 x4) = zi (-1) then 52 else 74, [.ref 58, .int (zi x1), .int (zi x2), .int (zi x3), .int (zi x4)], [], M)) rfl (am_xeq (iv_r _ _ _) (by decide) (fun h => ?_) (fun h => ?_))
        · replace hv := hv.1 h
          refine am_xn 3 (c1 := (56, [.ref 58, .int (zi x1), .int (zi x2), .int (zi x3), .int (zi x4)], [.int (zi x4), .int (zi x3), .ref 58], M)) rfl ?_
          obtain ⟨r7, M6, hc, hv⟩ := hv
          refine am_xc t_Mo_refers (.invokevirtual 299) 299 (av := [.ref 58, .int (zi x3), .int (zi x4)]) (rest := []) (rv := some (.int (zi r7))) (M' := M6) rfl rfl rfl rfl (Nat.le_of_ble_eq_true rfl) (fun _ => rfl) (hc) ?_
          refine am_xn 0 (c1 := (59, [.ref 58, .int (zi x1), .int (zi x2), .int (zi x3), .int (zi x4)], [.int (zi r7)], M6)) rfl ?_
          obtain ⟨r8, hv⟩ := hv
          refine am_xn 1 (c1 := (if zi r7 = zi 0 then 74 else 62, [.ref 58, .int (zi x1), .int (zi x2), .int (zi x3), .int (zi x4)], [], M6)) rfl (am_xeq r8 (by decide) (fun h => ?_) (fun h => ?_))
          · replace hv := hv.1 h
            refine am_xn 1 (c1 := (77, [.ref 58, .int (zi x1), .int (zi x2), .int (zi x3), .int (zi x4 + zi 1)], [], M6)) rfl ?_
            rw [zi_add]
            refine am_xn 1 (c1 := (13, [.ref 58, .int (zi x1), .int (zi x2), .int (zi x3), .int (zi (x4 + 1))], [], M6)) rfl ?_
            exact hv
          · replace hv := hv.2 h
            refine am_xiadd 6 x1 1 (pc := 71) (ls := [.ref 58, .int (zi x1), .int (zi x2), .int (zi x3), .int (zi x4)]) (st := [.int (zi x4), .ref 80]) rfl ?_
            obtain ⟨r10, hv⟩ := hv
            refine am_xast rfl rfl rfl r10 ?_
            refine am_xn 0 (c1 := (72, [.ref 58, .int (zi x1), .int (zi x2), .int (zi x3), .int (zi x4)], [], zup M6 80 x4 (x1 + 1))) rfl ?_
            obtain ⟨M9, eM9⟩ : ∃ m, m = zup M6 80 x4 (x1 + 1) := ⟨_, rfl⟩
            replace hv := hv M9 eM9
            rw [← eM9]
            refine am_xn 3 (c1 := (77, [.ref 58, .int (zi x1), .int (zi 1), .int (zi x3), .int (zi x4 + zi 1)], [], M9)) rfl ?_
            rw [zi_add]
            refine am_xn 1 (c1 := (13, [.ref 58, .int (zi x1), .int (zi 1), .int (zi x3), .int (zi (x4 + 1))], [], M9)) rfl ?_
            exact hv
        · replace hv := hv.2 h
          refine am_xn 1 (c1 := (77, [.ref 58, .int (zi x1), .int (zi x2), .int (zi x3), .int (zi x4 + zi 1)], [], M)) rfl ?_
          rw [zi_add]
          refine am_xn 1 (c1 := (13, [.ref 58, .int (zi x1), .int (zi x2), .int (zi x3), .int (zi (x4 + 1))], [], M)) rfl ?_
          exact hv
      · replace hv := hv.2 h
        refine am_xn 1 (c1 := (77, [.ref 58, .int (zi x1), .int (zi x2), .int (zi x3), .int (zi x4 + zi 1)], [], M)) rfl ?_
        rw [zi_add]
        refine am_xn 1 (c1 := (13, [.ref 58, .int (zi x1), .int (zi x2), .int (zi x3), .int (zi (x4 + 1))], [], M)) rfl ?_
        exact hv
    · replace hv := hv.2 h
      refine am_xn 1 (c1 := (83, [.ref 58, .int (zi x1), .int (zi x2), .int (zi x3 + zi 1), .int (zi x4)], [], M)) rfl ?_
      rw [zi_add]
      refine am_xn 1 (c1 := (4, [.ref 58, .int (zi x1), .int (zi x2), .int (zi (x3 + 1)), .int (zi x4)], [], M)) rfl ?_
      refine am_xf 4 ?_
      exact hv
  · replace hv := hv.2 h
    refine am_xn 1 (c1 := (83, [.ref 58, .int (zi x1), .int (zi x2), .int (zi x3 + zi 1), .int (zi x4)], [], M)) rfl ?_
    rw [zi_add]
    refine am_xn 1 (c1 := (4, [.ref 58, .int (zi x1), .int (zi x2), .int (zi (x3 + 1)), .int (zi x4)], [], M)) rfl ?_
    refine am_xf 4 ?_
    exact hv
set_option maxRecDepth 100000 in
theorem vc_refers (c : Int) (p : Int) (M : am_M) (Q : Option Value → am_M → Prop) (hv : (0 ≤ c ∧ c < 40 ∧ iv M 66 c ≤ 6 ∧ zr (1000 + p)) ∧ ((mhw M c (1000 + p) → Q (some (.int (zi 1))) M) ∧ (¬ (mhw M c (1000 + p)) → Q (some (.int (zi 0))) M))) : am_x t_Mo_refers (0, am_ent (am_mL t_Mo_refers) [.ref 58, .int (zi c), .int (zi p)], [], M) Q := by
  refine am_xn 0 (c1 := (0, [.ref 58, .int (zi c), .int (zi p)], [], M)) rfl ?_
  refine am_xiadd 5 1000 p (pc := 7) (ls := [.ref 58, .int (zi c), .int (zi p)]) (st := [.int (zi c), .ref 58]) rfl ?_
  obtain ⟨g, hv⟩ := hv
  by_cases c1 : mhw M c (1000 + p)
  · replace hv := hv.1 c1
    refine am_xc t_Mo_hasWord (.invokevirtual 107) 107 (av := [.ref 58, .int (zi c), .int (zi (1000 + p))]) (rest := []) (rv := some (.int (zi 1))) (M' := M) rfl rfl rfl rfl (Nat.le_of_ble_eq_true rfl) (fun _ => rfl) (by have q := sp_hasWord M c (1000 + p) g; rwa [bz_t c1] at q) ?_
    refine am_xn 0 (c1 := (10, [.ref 58, .int (zi c), .int (zi p)], [.int (zi 1)], M)) rfl ?_
    exact am_xr (some (.int (zi 1))) ⟨rfl, rfl, .boolean, rfl, rfl⟩ hv
  · replace hv := hv.2 c1
    refine am_xc t_Mo_hasWord (.invokevirtual 107) 107 (av := [.ref 58, .int (zi c), .int (zi (1000 + p))]) (rest := []) (rv := some (.int (zi 0))) (M' := M) rfl rfl rfl rfl (Nat.le_of_ble_eq_true rfl) (fun _ => rfl) (by have q := sp_hasWord M c (1000 + p) g; rwa [bz_f c1] at q) ?_
    refine am_xn 0 (c1 := (10, [.ref 58, .int (zi c), .int (zi p)], [.int (zi 0)], M)) rfl ?_
    exact am_xr (some (.int (zi 0))) ⟨rfl, rfl, .boolean, rfl, rfl⟩ hv
theorem sp_meet {M : am_M} {c d : Int} (c0 : 0 ≤ c) (c1 : c < 40) (dz : zr d) (hr : iv M 55 c = -1 → 0 ≤ iv M 53 2 ∧ iv M 53 2 < 40) : ∃ M', am_call t_Wal_meet [.ref 53, .int (zi c), .int (zi d)] M none M' ∧ (∀ a, ¬ a = 53 → ¬ a = 55 → ¬ a = 57 → M' a = M a) ∧ (¬ iv M 55 c = -1 → M' = M) ∧
    (iv M 55 c = -1 → iv M' 53 2 = iv M 53 2 + 1 ∧ iv M' 53 3 = iv M 53 3 ∧ (∀ j, 0 ≤ j → iv M' 55 j = if j = c then d else iv M 55 j) ∧ ∀ j, 0 ≤ j → iv M' 57 j = if j = iv M 53 2 then c else iv M 57 j) := by
  suffices hh : am_x t_Wal_meet (0, am_ent (am_mL t_Wal_meet) [.ref 53, .int (zi c), .int (zi d)], [], M) (fun r M' => r = none ∧ (∀ a, ¬ a = 53 → ¬ a = 55 → ¬ a = 57 → M' a = M a) ∧ (¬ iv M 55 c = -1 → M' = M) ∧
    (iv M 55 c = -1 → iv M' 53 2 = iv M 53 2 + 1 ∧ iv M' 53 3 = iv M 53 3 ∧ (∀ j, 0 ≤ j → iv M' 55 j = if j = c then d else iv M 55 j) ∧ ∀ j, 0 ≤ j → iv M' 57 j = if j = iv M 53 2 then c else iv M 57 j)) by
    obtain ⟨r, M', h1, h2, h3⟩ := am_call_ex (by exact ⟨Nat.le_of_ble_eq_true rfl, rfl⟩) hh
    subst h2
    exact ⟨M', h1, h3⟩
  refine vc_meet c d M _ ⟨⟨c0, c1⟩, fun q => ⟨⟨c0, c1⟩, fun M1 e1 => ?_⟩, fun q => ⟨rfl, fun _ _ _ _ => rfl, fun _ => rfl, fun z => absurd z q⟩⟩
  have h := hr q
  have a2 : iv M1 53 2 = iv M 53 2 := by rw [e1, ivr _ (by decide)]
  rw [a2]
  refine ⟨h, fun M2 e2 M3 e3 => ?_⟩
  have b2 : iv M2 53 2 = iv M 53 2 := by rw [e2, ivr _ (by decide), a2]
  rw [b2] at e3
  refine ⟨rfl, fun a x1 x2 x3 => by rw [e3, zupr _ x1, e2, zupr _ x3, e1, zupr _ x2], fun z => absurd q z, fun _ => ⟨?_, ?_, fun j j0 => ?_, fun j j0 => ?_⟩⟩
  · rw [e3, ivs _ _ (by decide) (by decide) ⟨by omega, by omega⟩, if_pos rfl]
  · rw [e3, ivs _ _ (by decide) (by decide) ⟨by omega, by omega⟩, if_neg (by decide), e2, ivr _ (by decide), e1, ivr _ (by decide)]
  · rw [e3, ivr _ (by decide), e2, ivr _ (by decide), e1, ivs _ _ c0 j0 dz]
  · rw [e3, ivr _ (by decide), e2, ivs _ _ h.1 j0 ⟨by omega, by omega⟩, e1, ivr _ (by decide)]
theorem cnt_new {D E : Int → Int} {c d : Int} (c0 : 0 ≤ c) (c1 : c < 40) (h : D c = -1) (hd : ¬ d = -1) (he : ∀ j, 0 ≤ j → j < 40 → E j = if j = c then d else D j) : sm (fun x => if E x = -1 then 0 else 1) 40 = sm (fun x => if D x = -1 then 0 else 1) 40 + 1 := by
  have e : sm (fun x => if E x = -1 then (0 : Int) else 1) 40 = sm (fun x => (if D x = -1 then (0 : Int) else 1) + (if x = c then 1 else 0)) 40 := sm_congr (fun x x0 x1 => by
    rw [he x x0 x1]
    by_cases q : x = c
    · rw [if_pos q, q, if_neg hd, if_pos h, if_pos rfl]; rfl
    · rw [if_neg q, if_neg q]; omega)
  rw [e, sm_addf, sm_pt c 1 c0 c1]
theorem cnt_lt {D : Int → Int} {c : Int} (c0 : 0 ≤ c) (c1 : c < 40) (h : D c = -1) : 0 ≤ sm (fun x => if D x = -1 then 0 else 1) 40 ∧ sm (fun x => if D x = -1 then 0 else 1) 40 < 40 := by
  have a1 := sm_nn (fun x => if D x = -1 then 0 else 1) 40 (fun i _ _ => by split <;> omega)
  have a2 := sm_le (fun x => (if D x = -1 then 0 else 1) + (if x = c then 1 else 0)) (fun k => if k < 40 then 1 else 0) 40 (fun i _ hi => by
    show (if D i = -1 then (0 : Int) else 1) + (if i = c then 1 else 0) ≤ if i < 40 then 1 else 0
    rw [if_pos hi]
    by_cases q : i = c
    · rw [q, if_pos h, if_pos rfl]; omega
    · rw [if_neg q]; split <;> omega)
  rw [sm_addf, sm_pt c 1 c0 c1, sm_lt 40 40 (by omega) (by omega)] at a2
  omega
