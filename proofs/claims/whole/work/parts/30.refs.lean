/-! references, free numbers -/
theorem sm_app (f : Int → Int) {a b : Int} (ha : 0 ≤ a) (hb : 0 ≤ b) : sm f (a + b) = sm f a + sm (fun j => f (a + j)) b := by
  obtain ⟨k, rfl⟩ : ∃ k : Nat, b = k := ⟨b.toNat, by omega⟩
  clear hb
  induction k with
  | zero => show sm f (a + 0) = sm f a + 0; rw [Int.add_zero, Int.add_zero]
  | succ k ih =>
    show sm f (a + ((k : Int) + 1)) = sm f a + sm (fun j => f (a + j)) ((k : Int) + 1)
    rw [← Int.add_assoc, sm_s f (by omega), sm_s _ (by omega), ih]
    show sm f a + sm (fun j => f (a + j)) k + f (a + k) = sm f a + (sm (fun j => f (a + j)) k + f (a + k))
    omega
theorem sm_block (h : Int → Int → Int) : ∀ n : Nat, sm (fun k => h (k / 6) (k % 6)) (6 * n) = sm (fun c => sm (h c) 6) n := by
  intro n
  induction n with
  | zero => rfl
  | succ n ih =>
    show sm _ (6 * ((n : Int) + 1)) = sm _ ((n : Int) + 1)
    rw [show 6 * ((n : Int) + 1) = 6 * n + 6 by omega, sm_app _ (by omega) (by omega), ih, sm_s _ (by omega)]
    congr 1
    exact sm_congr (fun j j0 j1 => by
      show h ((6 * (n : Int) + j) / 6) ((6 * (n : Int) + j) % 6) = h n j
      rw [show (6 * (n : Int) + j) / 6 = n by omega, show (6 * (n : Int) + j) % 6 = j by omega])
def rp (L : Lw) (x c k : Int) : Prop := 1000 ≤ L.tx c k ∧ ((x = -1 ∧ L.code (L.tx c k - 1000) = 0) ∨ (¬ x = -1 ∧ L.tx c k - 1000 = x))
noncomputable def rfc (L : Lw) (x c : Int) : Int := sm (fun k => bz (rp L x c k)) (L.len c)
noncomputable def rfv (L : Lw) (x : Int) : Int := sm (fun c => if L.code c = 0 then 0 else rfc L x c) 40
theorem rfc_6 {L : Lw} (v : VL L) (x : Int) {c : Int} (c0 : 0 ≤ c) (c1 : c < 40) : (if L.code c = 0 then 0 else rfc L x c) = sm (fun j => bz (¬ L.code c = 0 ∧ j < L.len c ∧ rp L x c j)) 6 := by
  by_cases q : L.code c = 0
  · rw [if_pos q, sm_congr (g := fun _ => 0) (fun i _ _ => bz_f (fun z => z.1 q)), sm_zero]
  · rw [if_neg q]
    have ln := v.ln c c0 c1 q
    rw [show (6 : Int) = L.len c + (6 - L.len c) by omega, sm_app _ ln.1 (by omega)]
    have e1 : sm (fun j => bz (¬ L.code c = 0 ∧ j < L.len c ∧ rp L x c j)) (L.len c) = rfc L x c := sm_congr (fun j j0 j1 => by
      by_cases z : rp L x c j
      · rw [bz_t z, bz_t ⟨q, j1, z⟩]
      · rw [bz_f z, bz_f (fun y => z y.2.2)])
    have e2 : sm (fun j => bz (¬ L.code c = 0 ∧ L.len c + j < L.len c ∧ rp L x c (L.len c + j))) (6 - L.len c) = 0 := by
      rw [sm_congr (g := fun _ => 0) (fun i i0 _ => bz_f (fun z => by omega)), sm_zero]
    rw [e1, e2]
    omega
set_option maxRecDepth 100000 in
theorem vc_l15_target (c : Int) (k : Int) (M : am_M) (Q : Option Value → am_M → Prop) (hv : (0 ≤ c ∧ c < 40 ∧ 0 ≤ k ∧ k < 6) ∧ (((iv M 23 (c * 6 + k)) < 1000 → Q (some (.int (zi (-1)))) M) ∧ (1000 ≤ (iv M 23 (c * 6 + k)) → Q (some (.int (zi ((iv M 23 (c * 6 + k)) - 1000)))) M))) : am_x t_Law_target (0, am_ent (am_mL t_Law_target) [.ref 15, .int (zi c), .int (zi k)], [], M) Q := by
  refine am_xn 0 (c1 := (0, [.ref 15, .int (zi c), .int (zi k), .null], [], M)) rfl ?_
  refine am_xn 3 (c1 := (3, [.ref 15, .int (zi c), .int (zi k), .null], [.int (zi k), .int (zi c), .ref 15], M)) rfl ?_
  obtain ⟨g, hv⟩ := hv
  refine am_xc t_Law_said (.invokevirtual 117) 117 (av := [.ref 15, .int (zi c), .int (zi k)]) (rest := []) (rv := some (.int (zi (iv M 23 (c * 6 + k))))) (M' := M) rfl rfl rfl rfl (Nat.le_of_ble_eq_true rfl) (fun _ => rfl) (sp_l15_said M c k g) ?_
  refine am_xn 0 (c1 := (6, [.ref 15, .int (zi c), .int (zi k), .null], [.int (zi (iv M 23 (c * 6 + k)))], M)) rfl ?_
  refine am_xn 4 (c1 := (if zi (iv M 23 (c * 6 + k)) < zi 1000 then 22 else 14, [.ref 15, .int (zi c), .int (zi k), .int (zi (iv M 23 (c * 6 + k)))], [], M)) rfl (am_xlt (iv_r _ _ _) (by decide) (fun h => ?_) (fun h => ?_))
  · replace hv := hv.1 h
    refine am_xn 1 (c1 := (23, [.ref 15, .int (zi c), .int (zi k), .int (zi (iv M 23 (c * 6 + k)))], [.int (zi (-1))], M)) rfl ?_
    exact am_xr (some (.int (zi (-1)))) ⟨rfl, rfl, .int, rfl, rfl⟩ hv
  · replace hv := hv.2 h
    refine am_xisub 3 (iv M 23 (c * 6 + k)) 1000 (pc := 19) (ls := [.ref 15, .int (zi c), .int (zi k), .int (zi (iv M 23 (c * 6 + k)))]) (st := []) rfl ?_
    refine am_xn 1 (c1 := (23, [.ref 15, .int (zi c), .int (zi k), .int (zi (iv M 23 (c * 6 + k)))], [.int (zi ((iv M 23 (c * 6 + k)) - 1000))], M)) rfl ?_
    exact am_xr (some (.int (zi ((iv M 23 (c * 6 + k)) - 1000)))) ⟨rfl, rfl, .int, rfl, rfl⟩ hv
set_option maxRecDepth 100000 in
theorem vc_referencesFrom (c : Int) (x : Int) (M : am_M) (Q : Option Value → am_M → Prop) (hv : am_x t_SB_referencesFrom (5, [.ref 0, .int (zi c), .int (zi x), .int (zi 0), .int (zi 0), .null, .null], [], M) Q) : am_x t_SB_referencesFrom (0, am_ent (am_mL t_SB_referencesFrom) [.ref 0, .int (zi c), .int (zi x)], [], M) Q := by
  refine am_xn 0 (c1 := (0, [.ref 0, .int (zi c), .int (zi x), .null, .null, .null, .null], [], M)) rfl ?_
  refine am_xn 4 (c1 := (5, [.ref 0, .int (zi c), .int (zi x), .int (zi 0), .int (zi 0), .null, .null], [], M)) rfl ?_
  exact hv
set_option maxRecDepth 100000 in
theorem vc_referencesFrom_5 (x1 : Int) (x2 : Int) (x3 : Int) (x4 : Int) (M : am_M) (Q : Option Value → am_M → Prop) (hv : (0 ≤ x1 ∧ x1 < 40) ∧ ((zr x4) ∧ ((x4 < (iv M 21 x1) → ∃ (r3 : Int) (M2 : am_M), am_call t_Law_target [.ref 15, .int (zi x1), .int (zi x4)] M (some (.int (zi r3))) M2 ∧ ((zr r3) ∧ ((r3 = (-1) → (zr x2) ∧ ((x2 = (-1) → am_x t_SB_referencesFrom (5, [.ref 0, .int (zi x1), .int (zi x2), .int (zi x3), .int (zi (x4 + 1)), .null, .null], [], M2) Q) ∧ (¬ x2 = (-1) → (r3 = x2 → am_x t_SB_referencesFrom (5, [.ref 0, .int (zi x1), .int (zi x2), .int (zi (x3 + 1)), .int (zi (x4 + 1)), .null, .null], [], M2) Q) ∧ (¬ r3 = x2 → am_x t_SB_referencesFrom (5, [.ref 0, .int (zi x1), .int (zi x2), .int (zi x3), .int (zi (x4 + 1)), .null, .null], [], M2) Q)))) ∧ (¬ r3 = (-1) → (0 ≤ r3 ∧ r3 < 40) ∧ (((iv M2 17 r3) = 0 → (zr x2) ∧ ((x2 = (-1) → am_x t_SB_referencesFrom (5, [.ref 0, .int (zi x1), .int (zi x2), .int (zi (x3 + 1)), .int (zi (x4 + 1)), .null, .null], [], M2) Q) ∧ (¬ x2 = (-1) → (r3 = x2 → am_x t_SB_referencesFrom (5, [.ref 0, .int (zi x1), .int (zi x2), .int (zi (x3 + 1)), .int (zi (x4 + 1)), .null, .null], [], M2) Q) ∧ (¬ r3 = x2 → am_x t_SB_referencesFrom (5, [.ref 0, .int (zi x1), .int (zi x2), .int (zi x3), .int (zi (x4 + 1)), .null, .null], [], M2) Q)))) ∧ (¬ (iv M2 17 r3) = 0 → (zr x2) ∧ ((x2 = (-1) → am_x t_SB_referencesFrom (5, [.ref 0, .int (zi x1), .int (zi x2), .int (zi x3), .int (zi (x4 + 1)), .null, .null], [], M2) Q) ∧ (¬ x2 = (-1) → (r3 = x2 → am_x t_SB_referencesFrom (5, [.ref 0, .int (zi x1), .int (zi x2), .int (zi (x3 + 1)), .int (zi (x4 + 1)), .null, .null], [], M2) Q) ∧ (¬ r3 = x2 → am_x t_SB_referencesFrom (5, [.ref 0, .int (zi x1), .int (zi x2), .int (zi x3), .int (zi (x4 + 1)), .null, .null], [], M2) Q))))))))) ∧ ((iv M 21 x1) ≤ x4 → Q (some (.int (zi x3))) M)))) : am_x t_SB_referencesFrom (5, [.ref 0, .int (zi x1), .int (zi x2), .int (zi x3), .int (zi x4), .null, .null], [], M) Q := by
  refine am_xn 4 (c1 := (12, [.ref 0, .int (zi x1), .int (zi x2), .int (zi x3), .int (zi x4), .null, .null], [.int (zi x1), .ref 15, .int (zi x4)], M)) rfl ?_
  obtain ⟨g, hv⟩ := hv
  refine am_xc t_Law_length (.invokevirtual 175) 175 (av := [.ref 15, .int (zi x1)]) (rest := [.int (zi x4)]) (rv := some (.int (zi (iv M 21 x1)))) (M' := M) rfl rfl rfl rfl (Nat.le_of_ble_eq_true rfl) (fun _ => rfl) (sp_l15_length M x1 g) ?_
  refine am_xn 0 (c1 := (15, [.ref 0, .int (zi x1), .int (zi x2), .int (zi x3), .int (zi x4), .null, .null], [.int (zi (iv M 21 x1)), .int (zi x4)], M)) rfl ?_
  obtain ⟨r1, hv⟩ := hv
  refine am_xn 1 (c1 := (if zi x4 < zi (iv M 21 x1) then 18 else 83, [.ref 0, .int (zi x1), .int (zi x2), .int (zi x3), .int (zi x4), .null, .null], [], M)) rfl (am_xlt r1 (iv_r _ _ _) (fun h => ?_) (fun h => ?_))
  · replace hv := hv.1 h
    refine am_xn 4 (c1 := (25, [.ref 0, .int (zi x1), .int (zi x2), .int (zi x3), .int (zi x4), .null, .null], [.int (zi x4), .int (zi x1), .ref 15], M)) rfl ?_
    obtain ⟨r3, M2, hc, hv⟩ := hv
    refine am_xc t_Law_target (.invokevirtual 233) 233 (av := [.ref 15, .int (zi x1), .int (zi x4)]) (rest := []) (rv := some (.int (zi r3))) (M' := M2) rfl rfl rfl rfl (Nat.le_of_ble_eq_true rfl) (fun _ => rfl) (hc) ?_
    refine am_xn 0 (c1 := (28, [.ref 0, .int (zi x1), .int (zi x2), .int (zi x3), .int (zi x4), .null, .null], [.int (zi r3)], M2)) rfl ?_
    obtain ⟨r4, hv⟩ := hv
    refine am_xn 4 (c1 := (if zi r3 = zi (-1) then 52 else 36, [.ref 0, .int (zi x1), .int (zi x2), .int (zi x3), .int (zi x4), .int (zi r3), .null], [], M2)) rfl (am_xeq r4 (by decide) (fun h => ?_) (fun h => ?_))
    · replace hv := hv.1 h
      obtain ⟨r5, hv⟩ := hv
      refine am_xn 5 (c1 := (if zi x2 = zi (-1) then 60 else 68, [.ref 0, .int (zi x1), .int (zi x2), .int (zi x3), .int (zi x4), .int (zi r3), .int (zi 0)], [], M2)) rfl (am_xeq r5 (by decide) (fun h => ?_) (fun h => ?_))
      · replace hv := hv.1 h
        refine am_xn 3 (c1 := (80, [.ref 0, .int (zi x1), .int (zi x2), .int (zi x3), .int (zi x4 + zi 1), .int (zi r3), .int (zi 0)], [], M2)) rfl ?_
        rw [zi_add]
        refine am_xn 1 (c1 := (5, [.ref 0, .int (zi x1), .int (zi x2), .int (zi x3), .int (zi (x4 + 1)), .int (zi r3), .int (zi 0)], [], M2)) rfl ?_
        refine am_xf 5 ?_
        refine am_xf 6 ?_
        exact hv
      · replace hv := hv.2 h
        refine am_xn 3 (c1 := (if zi r3 = zi x2 then 74 else 77, [.ref 0, .int (zi x1), .int (zi x2), .int (zi x3), .int (zi x4), .int (zi r3), .int (zi 0)], [], M2)) rfl (am_xeq r4 r5 (fun h => ?_) (fun h => ?_))
        · replace hv := hv.1 h
          refine am_xn 1 (c1 := (77, [.ref 0, .int (zi x1), .int (zi x2), .int (zi x3 + zi 1), .int (zi x4), .int (zi r3), .int (zi 0)], [], M2)) rfl ?_
          rw [zi_add]
          refine am_xn 1 (c1 := (80, [.ref 0, .int (zi x1), .int (zi x2), .int (zi (x3 + 1)), .int (zi x4 + zi 1), .int (zi r3), .int (zi 0)], [], M2)) rfl ?_
          rw [zi_add]
          refine am_xn 1 (c1 := (5, [.ref 0, .int (zi x1), .int (zi x2), .int (zi (x3 + 1)), .int (zi (x4 + 1)), .int (zi r3), .int (zi 0)], [], M2)) rfl ?_
          refine am_xf 5 ?_
          refine am_xf 6 ?_
          exact hv
        · replace hv := hv.2 h
          refine am_xn 1 (c1 := (80, [.ref 0, .int (zi x1), .int (zi x2), .int (zi x3), .int (zi x4 + zi 1), .int (zi r3), .int (zi 0)], [], M2)) rfl ?_
          rw [zi_add]
          refine am_xn 1 (c1 := (5, [.ref 0, .int (zi x1), .int (zi x2), .int (zi x3), .int (zi (x4 + 1)), .int (zi r3), .int (zi 0)], [], M2)) rfl ?_
          refine am_xf 5 ?_
          refine am_xf 6 ?_
          exact hv
    · replace hv := hv.2 h
      refine am_xn 3 (c1 := (42, [.ref 0, .int (zi x1), .int (zi x2), .int (zi x3), .int (zi x4), .int (zi r3), .null], [.int (zi r3), .ref 15], M2)) rfl ?_
      obtain ⟨g, hv⟩ := hv
      refine am_xc t_Law_code (.invokevirtual 172) 172 (av := [.ref 15, .int (zi r3)]) (rest := []) (rv := some (.int (zi (iv M2 17 r3)))) (M' := M2) rfl rfl rfl rfl (Nat.le_of_ble_eq_true rfl) (fun _ => rfl) (sp_l15_code M2 r3 g) ?_
      refine am_xn 0 (c1 := (45, [.ref 0, .int (zi x1), .int (zi x2), .int (zi x3), .int (zi x4), .int (zi r3), .null], [.int (zi (iv M2 17 r3))], M2)) rfl ?_
      refine am_xn 1 (c1 := (if zi (iv M2 17 r3) = zi 0 then 48 else 52, [.ref 0, .int (zi x1), .int (zi x2), .int (zi x3), .int (zi x4), .int (zi r3), .null], [], M2)) rfl (am_xeq (iv_r _ _ _) (by decide) (fun h => ?_) (fun h => ?_))
      · replace hv := hv.1 h
        obtain ⟨r6, hv⟩ := hv
        refine am_xn 6 (c1 := (if zi x2 = zi (-1) then 60 else 68, [.ref 0, .int (zi x1), .int (zi x2), .int (zi x3), .int (zi x4), .int (zi r3), .int (zi 1)], [], M2)) rfl (am_xeq r6 (by decide) (fun h => ?_) (fun h => ?_))
        · replace hv := hv.1 h
          refine am_xn 4 (c1 := (77, [.ref 0, .int (zi x1), .int (zi x2), .int (zi x3 + zi 1), .int (zi x4), .int (zi r3), .int (zi 1)], [], M2)) rfl ?_
          rw [zi_add]
          refine am_xn 1 (c1 := (80, [.ref 0, .int (zi x1), .int (zi x2), .int (zi (x3 + 1)), .int (zi x4 + zi 1), .int (zi r3), .int (zi 1)], [], M2)) rfl ?_
          rw [zi_add]
          refine am_xn 1 (c1 := (5, [.ref 0, .int (zi x1), .int (zi x2), .int (zi (x3 + 1)), .int (zi (x4 + 1)), .int (zi r3), .int (zi 1)], [], M2)) rfl ?_
          refine am_xf 5 ?_
          refine am_xf 6 ?_
          exact hv
        · replace hv := hv.2 h
          refine am_xn 3 (c1 := (if zi r3 = zi x2 then 74 else 77, [.ref 0, .int (zi x1), .int (zi x2), .int (zi x3), .int (zi x4), .int (zi r3), .int (zi 1)], [], M2)) rfl (am_xeq r4 r6 (fun h => ?_) (fun h => ?_))
          · replace hv := hv.1 h
            refine am_xn 1 (c1 := (77, [.ref 0, .int (zi x1), .int (zi x2), .int (zi x3 + zi 1), .int (zi x4), .int (zi r3), .int (zi 1)], [], M2)) rfl ?_
            rw [zi_add]
            refine am_xn 1 (c1 := (80, [.ref 0, .int (zi x1), .int (zi x2), .int (zi (x3 + 1)), .int (zi x4 + zi 1), .int (zi r3), .int (zi 1)], [], M2)) rfl ?_
            rw [zi_add]
            refine am_xn 1 (c1 := (5, [.ref 0, .int (zi x1), .int (zi x2), .int (zi (x3 + 1)), .int (zi (x4 + 1)), .int (zi r3), .int (zi 1)], [], M2)) rfl ?_
            refine am_xf 5 ?_
            refine am_xf 6 ?_
            exact hv
          · replace hv := hv.2 h
            refine am_xn 1 (c1 := (80, [.ref 0, .int (zi x1), .int (zi x2), .int (zi x3), .int (zi x4 + zi 1), .int (zi r3), .int (zi 1)], [], M2)) rfl ?_
            rw [zi_add]
            refine am_xn 1 (c1 := (5, [.ref 0, .int (zi x1), .int (zi x2), .int (zi x3), .int (zi (x4 + 1)), .int (zi r3), .int (zi 1)], [], M2)) rfl ?_
            refine am_xf 5 ?_
            refine am_xf 6 ?_
            exact hv
      · replace hv := hv.2 h
        obtain ⟨r7, hv⟩ := hv
        refine am_xn 5 (c1 := (if zi x2 = zi (-1) then 60 else 68, [.ref 0, .int (zi x1), .int (zi x2), .int (zi x3), .int (zi x4), .int (zi r3), .int (zi 0)], [], M2)) rfl (am_xeq r7 (by decide) (fun h => ?_) (fun h => ?_))
        · replace hv := hv.1 h
          refine am_xn 3 (c1 := (80, [.ref 0, .int (zi x1), .int (zi x2), .int (zi x3), .int (zi x4 + zi 1), .int (zi r3), .int (zi 0)], [], M2)) rfl ?_
          rw [zi_add]
          refine am_xn 1 (c1 := (5, [.ref 0, .int (zi x1), .int (zi x2), .int (zi x3), .int (zi (x4 + 1)), .int (zi r3), .int (zi 0)], [], M2)) rfl ?_
          refine am_xf 5 ?_
          refine am_xf 6 ?_
          exact hv
        · replace hv := hv.2 h
          refine am_xn 3 (c1 := (if zi r3 = zi x2 then 74 else 77, [.ref 0, .int (zi x1), .int (zi x2), .int (zi x3), .int (zi x4), .int (zi r3), .int (zi 0)], [], M2)) rfl (am_xeq r4 r7 (fun h => ?_) (fun h => ?_))
          · replace hv := hv.1 h
            refine am_xn 1 (c1 := (77, [.ref 0, .int (zi x1), .int (zi x2), .int (zi x3 + zi 1), .int (zi x4), .int (zi r3), .int (zi 0)], [], M2)) rfl ?_
            rw [zi_add]
            refine am_xn 1 (c1 := (80, [.ref 0, .int (zi x1), .int (zi x2), .int (zi (x3 + 1)), .int (zi x4 + zi 1), .int (zi r3), .int (zi 0)], [], M2)) rfl ?_
            rw [zi_add]
            refine am_xn 1 (c1 := (5, [.ref 0, .int (zi x1), .int (zi x2), .int (zi (x3 + 1)), .int (zi (x4 + 1)), .int (zi r3), .int (zi 0)], [], M2)) rfl ?_
            refine am_xf 5 ?_
            refine am_xf 6 ?_
            exact hv
          · replace hv := hv.2 h
            refine am_xn 1 (c1 := (80, [.ref 0, .int (zi x1), .int (zi x2), .int (zi x3), .int (zi x4 + zi 1), .int (zi r3), .int (zi 0)], [], M2)) rfl ?_
            rw [zi_add]
            refine am_xn 1 (c1 := (5, [.ref 0, .int (zi x1), .int (zi x2), .int (zi x3), .int (zi (x4 + 1)), .int (zi r3), .int (zi 0)], [], M2)) rfl ?_
            refine am_xf 5 ?_
            refine am_xf 6 ?_
            exact hv
  · replace hv := hv.2 h
    refine am_xn 1 (c1 := (84, [.ref 0, .int (zi x1), .int (zi x2), .int (zi x3), .int (zi x4), .null, .null], [.int (zi x3)], M)) rfl ?_
    exact am_xr (some (.int (zi x3))) ⟨rfl, rfl, .int, rfl, rfl⟩ hv
set_option maxRecDepth 100000 in
theorem vc_c_references (d : Int) (x : Int) (M : am_M) (Q : Option Value → am_M → Prop) (hv : (zr d ∧ zr (9999 : Int)) ∧ ((0 ≤ d ∧ d ≤ 9999 → (zr x) ∧ ((x = (-1) → ∃ M2, am_call t_SB_consolidate [.ref 0, .int (zi d), .int (zi (-1))] M none M2 ∧ (am_x t_SB_references (37, [.ref 0, .null, .int (zi x), .int (zi 0), .int (zi 0)], [], M2) Q)) ∧ (¬ x = (-1) → (zr x) ∧ ((0 ≤ x ∧ x < iv M 11 2 → ∃ M3, am_call t_SB_consolidate [.ref 0, .int (zi d), .int (zi (-1))] M none M3 ∧ (am_x t_SB_references (37, [.ref 0, .null, .int (zi x), .int (zi 0), .int (zi 0)], [], M3) Q)) ∧ (¬ (0 ≤ x ∧ x < iv M 11 2) → Q (some (.int (zi (-2)))) M))))) ∧ (¬ (0 ≤ d ∧ d ≤ 9999) → Q (some (.int (zi (-2)))) M))) : am_x t_SB_references (0, am_ent (am_mL t_SB_references) [.ref 0, .int (zi d), .int (zi x)], [], M) Q := by
  refine am_xn 0 (c1 := (0, [.ref 0, .int (zi d), .int (zi x), .null, .null], [], M)) rfl ?_
  refine am_xn 2 (c1 := (4, [.ref 0, .int (zi d), .int (zi x), .null, .null], [.int (zi 9999), .int (zi d)], M)) rfl ?_
  obtain ⟨g, hv⟩ := hv
  by_cases c5 : 0 ≤ d ∧ d ≤ 9999
  · replace hv := hv.1 c5
    refine am_xc t_SB_within (.invokestatic 56) 56 (av := [.int (zi d), .int (zi 9999)]) (rest := []) (rv := some (.int (zi 1))) (M' := M) rfl rfl rfl rfl (Nat.le_of_ble_eq_true rfl) (fun h => nomatch h) (by have q := sp_within M d 9999 g; rwa [if_pos c5] at q) ?_
    refine am_xn 0 (c1 := (7, [.ref 0, .int (zi d), .int (zi x), .null, .null], [.int (zi 1)], M)) rfl ?_
    obtain ⟨r1, hv⟩ := hv
    refine am_xn 4 (c1 := (if zi x = zi (-1) then 26 else 15, [.ref 0, .int (zi d), .int (zi x), .null, .null], [], M)) rfl (am_xeq r1 (by decide) (fun h => ?_) (fun h => ?_))
    · replace hv := hv.1 h
      refine am_xn 3 (c1 := (29, [.ref 0, .int (zi d), .int (zi x), .null, .null], [.int (zi (-1)), .int (zi d), .ref 0], M)) rfl ?_
      obtain ⟨M2, hc, hv⟩ := hv
      refine am_xc t_SB_consolidate (.invokevirtual 162) 162 (av := [.ref 0, .int (zi d), .int (zi (-1))]) (rest := []) (rv := none) (M' := M2) rfl rfl rfl rfl (Nat.le_of_ble_eq_true rfl) (fun _ => rfl) (hc) ?_
      refine am_xn 0 (c1 := (32, [.ref 0, .int (zi d), .int (zi x), .null, .null], [], M2)) rfl ?_
      refine am_xn 4 (c1 := (37, [.ref 0, .int (zi d), .int (zi x), .int (zi 0), .int (zi 0)], [], M2)) rfl ?_
      refine am_xf 1 ?_
      exact hv
    · replace hv := hv.2 h
      refine am_xn 2 (c1 := (17, [.ref 0, .int (zi d), .int (zi x), .null, .null], [.int (zi x), .ref 0], M)) rfl ?_
      obtain ⟨g, hv⟩ := hv
      by_cases c4 : 0 ≤ x ∧ x < iv M 11 2
      · replace hv := hv.1 c4
        refine am_xc t_SB_isIdentity (.invokevirtual 208) 208 (av := [.ref 0, .int (zi x)]) (rest := []) (rv := some (.int (zi 1))) (M' := M) rfl rfl rfl rfl (Nat.le_of_ble_eq_true rfl) (fun _ => rfl) (by have q := sp_c_isIdentity M x g; rwa [if_pos c4] at q) ?_
        refine am_xn 0 (c1 := (20, [.ref 0, .int (zi d), .int (zi x), .null, .null], [.int (zi 1)], M)) rfl ?_
        refine am_xn 4 (c1 := (29, [.ref 0, .int (zi d), .int (zi x), .null, .null], [.int (zi (-1)), .int (zi d), .ref 0], M)) rfl ?_
        obtain ⟨M3, hc, hv⟩ := hv
        refine am_xc t_SB_consolidate (.invokevirtual 162) 162 (av := [.ref 0, .int (zi d), .int (zi (-1))]) (rest := []) (rv := none) (M' := M3) rfl rfl rfl rfl (Nat.le_of_ble_eq_true rfl) (fun _ => rfl) (hc) ?_
        refine am_xn 0 (c1 := (32, [.ref 0, .int (zi d), .int (zi x), .null, .null], [], M3)) rfl ?_
        refine am_xn 4 (c1 := (37, [.ref 0, .int (zi d), .int (zi x), .int (zi 0), .int (zi 0)], [], M3)) rfl ?_
        refine am_xf 1 ?_
        exact hv
      · replace hv := hv.2 c4
        refine am_xc t_SB_isIdentity (.invokevirtual 208) 208 (av := [.ref 0, .int (zi x)]) (rest := []) (rv := some (.int (zi 0))) (M' := M) rfl rfl rfl rfl (Nat.le_of_ble_eq_true rfl) (fun _ => rfl) (by have q := sp_c_isIdentity M x g; rwa [if_neg c4] at q) ?_
        refine am_xn 0 (c1 := (20, [.ref 0, .int (zi d), .int (zi x), .null, .null], [.int (zi 0)], M)) rfl ?_
        refine am_xn 2 (c1 := (25, [.ref 0, .int (zi d), .int (zi x), .null, .null], [.int (zi (-2))], M)) rfl ?_
        exact am_xr (some (.int (zi (-2)))) ⟨rfl, rfl, .int, rfl, rfl⟩ hv
  · replace hv := hv.2 c5
    refine am_xc t_SB_within (.invokestatic 56) 56 (av := [.int (zi d), .int (zi 9999)]) (rest := []) (rv := some (.int (zi 0))) (M' := M) rfl rfl rfl rfl (Nat.le_of_ble_eq_true rfl) (fun h => nomatch h) (by have q := sp_within M d 9999 g; rwa [if_neg c5] at q) ?_
    refine am_xn 0 (c1 := (7, [.ref 0, .int (zi d), .int (zi x), .null, .null], [.int (zi 0)], M)) rfl ?_
    refine am_xn 2 (c1 := (25, [.ref 0, .int (zi d), .int (zi x), .null, .null], [.int (zi (-2))], M)) rfl ?_
    exact am_xr (some (.int (zi (-2)))) ⟨rfl, rfl, .int, rfl, rfl⟩ hv
set_option maxRecDepth 100000 in
theorem vc_c_references_37 (x2 : Int) (x3 : Int) (x4 : Int) (M : am_M) (Q : Option Value → am_M → Prop) (hv : (zr x4) ∧ ((x4 < (iv M 15 9) → (0 ≤ x4 ∧ x4 < 40) ∧ (∃ (r3 : Int) (M2 : am_M), am_call t_SB_referencesFrom [.ref 0, .int (zi (iv M 25 x4)), .int (zi x2)] M (some (.int (zi r3))) M2 ∧ (am_x t_SB_references (37, [.ref 0, .null, .int (zi x2), .int (zi (x3 + r3)), .int (zi (x4 + 1))], [], M2) Q))) ∧ ((iv M 15 9) ≤ x4 → Q (some (.int (zi x3))) M))) : am_x t_SB_references (37, [.ref 0, .null, .int (zi x2), .int (zi x3), .int (zi x4)], [], M) Q := by
  refine am_xn 3 (c1 := (43, [.ref 0, .null, .int (zi x2), .int (zi x3), .int (zi x4)], [.ref 15, .int (zi x4)], M)) rfl ?_
  refine am_xc t_Law_size (.invokevirtual 165) 165 (av := [.ref 15]) (rest := [.int (zi x4)]) (rv := some (.int (zi (iv M 15 9)))) (M' := M) rfl rfl rfl rfl (Nat.le_of_ble_eq_true rfl) (fun _ => rfl) (sp_l15_size M) ?_
  refine am_xn 0 (c1 := (46, [.ref 0, .null, .int (zi x2), .int (zi x3), .int (zi x4)], [.int (zi (iv M 15 9)), .int (zi x4)], M)) rfl ?_
  obtain ⟨r1, hv⟩ := hv
  refine am_xn 1 (c1 := (if zi x4 < zi (iv M 15 9) then 49 else 72, [.ref 0, .null, .int (zi x2), .int (zi x3), .int (zi x4)], [], M)) rfl (am_xlt r1 (iv_r _ _ _) (fun h => ?_) (fun h => ?_))
  · replace hv := hv.1 h
    refine am_xn 5 (c1 := (57, [.ref 0, .null, .int (zi x2), .int (zi x3), .int (zi x4)], [.int (zi x4), .ref 15, .ref 0, .int (zi x3)], M)) rfl ?_
    obtain ⟨g, hv⟩ := hv
    refine am_xc t_Law_at (.invokevirtual 166) 166 (av := [.ref 15, .int (zi x4)]) (rest := [.ref 0, .int (zi x3)]) (rv := some (.int (zi (iv M 25 x4)))) (M' := M) rfl rfl rfl rfl (Nat.le_of_ble_eq_true rfl) (fun _ => rfl) (sp_l15_at M x4 g) ?_
    refine am_xn 0 (c1 := (60, [.ref 0, .null, .int (zi x2), .int (zi x3), .int (zi x4)], [.int (zi (iv M 25 x4)), .ref 0, .int (zi x3)], M)) rfl ?_
    refine am_xn 1 (c1 := (61, [.ref 0, .null, .int (zi x2), .int (zi x3), .int (zi x4)], [.int (zi x2), .int (zi (iv M 25 x4)), .ref 0, .int (zi x3)], M)) rfl ?_
    obtain ⟨r3, M2, hc, hv⟩ := hv
    refine am_xc t_SB_referencesFrom (.invokevirtual 230) 230 (av := [.ref 0, .int (zi (iv M 25 x4)), .int (zi x2)]) (rest := [.int (zi x3)]) (rv := some (.int (zi r3))) (M' := M2) rfl rfl rfl rfl (Nat.le_of_ble_eq_true rfl) (fun _ => rfl) (hc) ?_
    refine am_xn 0 (c1 := (64, [.ref 0, .null, .int (zi x2), .int (zi x3), .int (zi x4)], [.int (zi r3), .int (zi x3)], M2)) rfl ?_
    refine am_xiadd 1 x3 r3 (pc := 65) (ls := [.ref 0, .null, .int (zi x2), .int (zi x3), .int (zi x4)]) (st := []) rfl ?_
    refine am_xn 2 (c1 := (69, [.ref 0, .null, .int (zi x2), .int (zi (x3 + r3)), .int (zi x4 + zi 1)], [], M2)) rfl ?_
    rw [zi_add]
    refine am_xn 1 (c1 := (37, [.ref 0, .null, .int (zi x2), .int (zi (x3 + r3)), .int (zi (x4 + 1))], [], M2)) rfl ?_
    exact hv
  · replace hv := hv.2 h
    refine am_xn 1 (c1 := (73, [.ref 0, .null, .int (zi x2), .int (zi x3), .int (zi x4)], [.int (zi x3)], M)) rfl ?_
    exact am_xr (some (.int (zi x3))) ⟨rfl, rfl, .int, rfl, rfl⟩ hv
set_option maxRecDepth 100000 in
theorem vc_m_references (d : Int) (x : Int) (M : am_M) (Q : Option Value → am_M → Prop) (hv : (zr d) ∧ ((0 ≤ d ∧ d ≤ 9999 → (zr x) ∧ ((x = (-1) → ∃ M2, am_call t_Mo_laws [.ref 58, .int (zi d), .int (zi (-1))] M none M2 ∧ (am_x t_Mo_references (34, [.ref 58, .null, .int (zi x), .int (zi 0), .int (zi 0), .null, .null, .null], [], M2) Q)) ∧ (¬ x = (-1) → (zr x ∧ iv M 59 0 ≤ 20 ∧ 0 ≤ nops (iv M 59) ∧ nops (iv M 59) ≤ 120) ∧ ((0 ≤ x ∧ x < ia (iv M 59) (nops (iv M 59)) → ∃ M3, am_call t_Mo_laws [.ref 58, .int (zi d), .int (zi (-1))] M none M3 ∧ (am_x t_Mo_references (34, [.ref 58, .null, .int (zi x), .int (zi 0), .int (zi 0), .null, .null, .null], [], M3) Q)) ∧ (¬ (0 ≤ x ∧ x < ia (iv M 59) (nops (iv M 59))) → Q (some (.int (zi (-2)))) M))))) ∧ (¬ (0 ≤ d ∧ d ≤ 9999) → Q (some (.int (zi (-2)))) M))) : am_x t_Mo_references (0, am_ent (am_mL t_Mo_references) [.ref 58, .int (zi d), .int (zi x)], [], M) Q := by
  refine am_xn 0 (c1 := (0, [.ref 58, .int (zi d), .int (zi x), .null, .null, .null, .null, .null], [], M)) rfl ?_
  refine am_xn 1 (c1 := (1, [.ref 58, .int (zi d), .int (zi x), .null, .null, .null, .null, .null], [.int (zi d)], M)) rfl ?_
  obtain ⟨g, hv⟩ := hv
  by_cases c5 : 0 ≤ d ∧ d ≤ 9999
  · replace hv := hv.1 c5
    refine am_xc t_Mo_isDay (.invokestatic 80) 80 (av := [.int (zi d)]) (rest := []) (rv := some (.int (zi 1))) (M' := M) rfl rfl rfl rfl (Nat.le_of_ble_eq_true rfl) (fun h => nomatch h) (by have q := sp_isDay M d g; rwa [if_pos c5] at q) ?_
    refine am_xn 0 (c1 := (4, [.ref 58, .int (zi d), .int (zi x), .null, .null, .null, .null, .null], [.int (zi 1)], M)) rfl ?_
    obtain ⟨r1, hv⟩ := hv
    refine am_xn 4 (c1 := (if zi x = zi (-1) then 23 else 12, [.ref 58, .int (zi d), .int (zi x), .null, .null, .null, .null, .null], [], M)) rfl (am_xeq r1 (by decide) (fun h => ?_) (fun h => ?_))
    · replace hv := hv.1 h
      refine am_xn 3 (c1 := (26, [.ref 58, .int (zi d), .int (zi x), .null, .null, .null, .null, .null], [.int (zi (-1)), .int (zi d), .ref 58], M)) rfl ?_
      obtain ⟨M2, hc, hv⟩ := hv
      refine am_xc t_Mo_laws (.invokevirtual 140) 140 (av := [.ref 58, .int (zi d), .int (zi (-1))]) (rest := []) (rv := none) (M' := M2) rfl rfl rfl rfl (Nat.le_of_ble_eq_true rfl) (fun _ => rfl) (hc) ?_
      refine am_xn 0 (c1 := (29, [.ref 58, .int (zi d), .int (zi x), .null, .null, .null, .null, .null], [], M2)) rfl ?_
      refine am_xn 4 (c1 := (34, [.ref 58, .int (zi d), .int (zi x), .int (zi 0), .int (zi 0), .null, .null, .null], [], M2)) rfl ?_
      refine am_xf 1 ?_
      exact hv
    · replace hv := hv.2 h
      refine am_xn 2 (c1 := (14, [.ref 58, .int (zi d), .int (zi x), .null, .null, .null, .null, .null], [.int (zi x), .ref 58], M)) rfl ?_
      obtain ⟨g, hv⟩ := hv
      by_cases c4 : 0 ≤ x ∧ x < ia (iv M 59) (nops (iv M 59))
      · replace hv := hv.1 c4
        refine am_xc t_Mo_isIdentity (.invokevirtual 287) 287 (av := [.ref 58, .int (zi x)]) (rest := []) (rv := some (.int (zi 1))) (M' := M) rfl rfl rfl rfl (Nat.le_of_ble_eq_true rfl) (fun _ => rfl) (by have q := sp_isIdentity M x g; rwa [if_pos c4] at q) ?_
        refine am_xn 0 (c1 := (17, [.ref 58, .int (zi d), .int (zi x), .null, .null, .null, .null, .null], [.int (zi 1)], M)) rfl ?_
        refine am_xn 4 (c1 := (26, [.ref 58, .int (zi d), .int (zi x), .null, .null, .null, .null, .null], [.int (zi (-1)), .int (zi d), .ref 58], M)) rfl ?_
        obtain ⟨M3, hc, hv⟩ := hv
        refine am_xc t_Mo_laws (.invokevirtual 140) 140 (av := [.ref 58, .int (zi d), .int (zi (-1))]) (rest := []) (rv := none) (M' := M3) rfl rfl rfl rfl (Nat.le_of_ble_eq_true rfl) (fun _ => rfl) (hc) ?_
        refine am_xn 0 (c1 := (29, [.ref 58, .int (zi d), .int (zi x), .null, .null, .null, .null, .null], [], M3)) rfl ?_
        refine am_xn 4 (c1 := (34, [.ref 58, .int (zi d), .int (zi x), .int (zi 0), .int (zi 0), .null, .null, .null], [], M3)) rfl ?_
        refine am_xf 1 ?_
        exact hv
      · replace hv := hv.2 c4
        refine am_xc t_Mo_isIdentity (.invokevirtual 287) 287 (av := [.ref 58, .int (zi x)]) (rest := []) (rv := some (.int (zi 0))) (M' := M) rfl rfl rfl rfl (Nat.le_of_ble_eq_true rfl) (fun _ => rfl) (by have q := sp_isIdentity M x g; rwa [if_neg c4] at q) ?_
        refine am_xn 0 (c1 := (17, [.ref 58, .int (zi d), .int (zi x), .null, .null, .null, .null, .null], [.int (zi 0)], M)) rfl ?_
        refine am_xn 2 (c1 := (22, [.ref 58, .int (zi d), .int (zi x), .null, .null, .null, .null, .null], [.int (zi (-2))], M)) rfl ?_
        exact am_xr (some (.int (zi (-2)))) ⟨rfl, rfl, .int, rfl, rfl⟩ hv
  · replace hv := hv.2 c5
    refine am_xc t_Mo_isDay (.invokestatic 80) 80 (av := [.int (zi d)]) (rest := []) (rv := some (.int (zi 0))) (M' := M) rfl rfl rfl rfl (Nat.le_of_ble_eq_true rfl) (fun h => nomatch h) (by have q := sp_isDay M d g; rwa [if_neg c5] at q) ?_
    refine am_xn 0 (c1 := (4, [.ref 58, .int (zi d), .int (zi x), .null, .null, .null, .null, .null], [.int (zi 0)], M)) rfl ?_
    refine am_xn 2 (c1 := (22, [.ref 58, .int (zi d), .int (zi x), .null, .null, .null, .null, .null], [.int (zi (-2))], M)) rfl ?_
    exact am_xr (some (.int (zi (-2)))) ⟨rfl, rfl, .int, rfl, rfl⟩ hv
set_option maxRecDepth 100000 in
theorem vc_m_references_34 (x2 : Int) (x3 : Int) (x4 : Int) (M : am_M) (Q : Option Value → am_M → Prop) (hv : (zr x4) ∧ ((x4 < 240 → (0 ≤ x4) ∧ ((0 ≤ (x4 / 6) ∧ (x4 / 6) < 40) ∧ (((iv M 64 (x4 / 6)) = 1 → (0 ≤ x4) ∧ ((0 ≤ (x4 / 6) ∧ (x4 / 6) < 40) ∧ (((x4 % 6) < (iv M 66 (x4 / 6)) → (0 ≤ x4 ∧ x4 < 240) ∧ (((iv M 67 x4) < 1000 → am_x t_Mo_references (34, [.ref 58, .null, .int (zi x2), .int (zi (x3 + 0)), .int (zi (x4 + 1)), .null, .null, .null], [], M) Q) ∧ (1000 ≤ (iv M 67 x4) → (0 ≤ x4 ∧ x4 < 240) ∧ ((zr x2) ∧ ((x2 = (-1) → (0 ≤ ((iv M 67 x4) - 1000) ∧ ((iv M 67 x4) - 1000) < 40) ∧ (((iv M 64 ((iv M 67 x4) - 1000)) = 0 → am_x t_Mo_references (34, [.ref 58, .null, .int (zi x2), .int (zi (x3 + 1)), .int (zi (x4 + 1)), .null, .null, .null], [], M) Q) ∧ (¬ (iv M 64 ((iv M 67 x4) - 1000)) = 0 → am_x t_Mo_references (34, [.ref 58, .null, .int (zi x2), .int (zi (x3 + 0)), .int (zi (x4 + 1)), .null, .null, .null], [], M) Q))) ∧ (¬ x2 = (-1) → (zr ((iv M 67 x4) - 1000)) ∧ ((((iv M 67 x4) - 1000) = x2 → am_x t_Mo_references (34, [.ref 58, .null, .int (zi x2), .int (zi (x3 + 1)), .int (zi (x4 + 1)), .null, .null, .null], [], M) Q) ∧ (¬ ((iv M 67 x4) - 1000) = x2 → am_x t_Mo_references (34, [.ref 58, .null, .int (zi x2), .int (zi (x3 + 0)), .int (zi (x4 + 1)), .null, .null, .null], [], M) Q)))))))) ∧ ((iv M 66 (x4 / 6)) ≤ (x4 % 6) → am_x t_Mo_references (34, [.ref 58, .null, .int (zi x2), .int (zi (x3 + 0)), .int (zi (x4 + 1)), .null, .null, .null], [], M) Q)))) ∧ (¬ (iv M 64 (x4 / 6)) = 1 → am_x t_Mo_references (34, [.ref 58, .null, .int (zi x2), .int (zi (x3 + 0)), .int (zi (x4 + 1)), .null, .null, .null], [], M) Q)))) ∧ (240 ≤ x4 → Q (some (.int (zi x3))) M))) : am_x t_Mo_references (34, [.ref 58, .null, .int (zi x2), .int (zi x3), .int (zi x4), .null, .null, .null], [], M) Q := by
  obtain ⟨r1, hv⟩ := hv
  refine am_xn 3 (c1 := (if zi x4 < zi 240 then 42 else 160, [.ref 58, .null, .int (zi x2), .int (zi x3), .int (zi x4), .null, .null, .null], [], M)) rfl (am_xlt r1 (by decide) (fun h => ?_) (fun h => ?_))
  · replace hv := hv.1 h
    obtain ⟨r2, hv⟩ := hv
    refine am_xn 2 (c1 := (46, [.ref 58, .null, .int (zi x2), .int (zi x3), .int (zi x4), .null, .null, .null], [.int (zi 6), .int (zi x4)], M)) rfl ?_
    refine am_xdiv rfl r2 (by decide) r1 (by decide) ?_
    refine am_xn 0 (c1 := (47, [.ref 58, .null, .int (zi x2), .int (zi x3), .int (zi x4), .null, .null, .null], [.int (zi (x4 / 6))], M)) rfl ?_
    obtain ⟨r3, hv⟩ := hv
    refine am_xn 4 (c1 := (55, [.ref 58, .null, .int (zi x2), .int (zi x3), .int (zi x4), .int (zi (x4 / 6)), .null, .null], [.int (zi (x4 / 6)), .ref 64], M)) rfl ?_
    refine am_xald rfl rfl rfl r3 ?_
    refine am_xn 0 (c1 := (56, [.ref 58, .null, .int (zi x2), .int (zi x3), .int (zi x4), .int (zi (x4 / 6)), .null, .null], [.int (zi (iv M 64 (x4 / 6)))], M)) rfl ?_
    refine am_xn 2 (c1 := (if zi (iv M 64 (x4 / 6)) = zi 1 then 60 else 92, [.ref 58, .null, .int (zi x2), .int (zi x3), .int (zi x4), .int (zi (x4 / 6)), .null, .null], [], M)) rfl (am_xeq (iv_r _ _ _) (by decide) (fun h => ?_) (fun h => ?_))
    · replace hv := hv.1 h
      obtain ⟨r4, hv⟩ := hv
      refine am_xn 2 (c1 := (64, [.ref 58, .null, .int (zi x2), .int (zi x3), .int (zi x4), .int (zi (x4 / 6)), .null, .null], [.int (zi 6), .int (zi x4)], M)) rfl ?_
      refine am_xrem rfl r4 (by decide) r1 (by decide) ?_
      refine am_xn 0 (c1 := (65, [.ref 58, .null, .int (zi x2), .int (zi x3), .int (zi x4), .int (zi (x4 / 6)), .null, .null], [.int (zi (x4 % 6))], M)) rfl ?_
      obtain ⟨r5, hv⟩ := hv
      refine am_xn 3 (c1 := (71, [.ref 58, .null, .int (zi x2), .int (zi x3), .int (zi x4), .int (zi (x4 / 6)), .null, .null], [.int (zi (x4 / 6)), .ref 66, .int (zi (x4 % 6))], M)) rfl ?_
      refine am_xald rfl rfl rfl r5 ?_
      refine am_xn 0 (c1 := (72, [.ref 58, .null, .int (zi x2), .int (zi x3), .int (zi x4), .int (zi (x4 / 6)), .null, .null], [.int (zi (iv M 66 (x4 / 6))), .int (zi (x4 % 6))], M)) rfl ?_
      refine am_xn 1 (c1 := (if zi (x4 % 6) < zi (iv M 66 (x4 / 6)) then 75 else 92, [.ref 58, .null, .int (zi x2), .int (zi x3), .int (zi x4), .int (zi (x4 / 6)), .null, .null], [], M)) rfl (am_xlt (zr_rem r4 (by decide) r1 (by decide)) (iv_r _ _ _) (fun h => ?_) (fun h => ?_))
      · replace hv := hv.1 h
        obtain ⟨r6, hv⟩ := hv
        refine am_xn 3 (c1 := (81, [.ref 58, .null, .int (zi x2), .int (zi x3), .int (zi x4), .int (zi (x4 / 6)), .null, .null], [.int (zi x4), .ref 67], M)) rfl ?_
        refine am_xald rfl rfl rfl r6 ?_
        refine am_xn 0 (c1 := (82, [.ref 58, .null, .int (zi x2), .int (zi x3), .int (zi x4), .int (zi (x4 / 6)), .null, .null], [.int (zi (iv M 67 x4))], M)) rfl ?_
        refine am_xn 2 (c1 := (if zi (iv M 67 x4) < zi 1000 then 92 else 88, [.ref 58, .null, .int (zi x2), .int (zi x3), .int (zi x4), .int (zi (x4 / 6)), .null, .null], [], M)) rfl (am_xlt (iv_r _ _ _) (by decide) (fun h => ?_) (fun h => ?_))
        · replace hv := hv.1 h
          refine am_xiadd 11 x3 0 (pc := 153) (ls := [.ref 58, .null, .int (zi x2), .int (zi x3), .int (zi x4), .int (zi (x4 / 6)), .int (zi 0), .int (zi 0)]) (st := []) rfl ?_
          refine am_xn 2 (c1 := (157, [.ref 58, .null, .int (zi x2), .int (zi (x3 + 0)), .int (zi x4 + zi 1), .int (zi (x4 / 6)), .int (zi 0), .int (zi 0)], [], M)) rfl ?_
          rw [zi_add]
          refine am_xn 1 (c1 := (34, [.ref 58, .null, .int (zi x2), .int (zi (x3 + 0)), .int (zi (x4 + 1)), .int (zi (x4 / 6)), .int (zi 0), .int (zi 0)], [], M)) rfl ?_
          refine am_xf 5 ?_
          refine am_xf 6 ?_
          refine am_xf 7 ?_
          exact hv
        · replace hv := hv.2 h
          obtain ⟨r7, hv⟩ := hv
          refine am_xn 8 (c1 := (106, [.ref 58, .null, .int (zi x2), .int (zi x3), .int (zi x4), .int (zi (x4 / 6)), .int (zi 1), .null], [.int (zi x4), .ref 67], M)) rfl ?_
          refine am_xald rfl rfl rfl r7 ?_
          refine am_xn 0 (c1 := (107, [.ref 58, .null, .int (zi x2), .int (zi x3), .int (zi x4), .int (zi (x4 / 6)), .int (zi 1), .null], [.int (zi (iv M 67 x4))], M)) rfl ?_
          refine am_xisub 2 (iv M 67 x4) 1000 (pc := 111) (ls := [.ref 58, .null, .int (zi x2), .int (zi x3), .int (zi x4), .int (zi (x4 / 6)), .int (zi 1), .null]) (st := []) rfl ?_
          obtain ⟨r8, hv⟩ := hv
          refine am_xn 8 (c1 := (if zi x2 = zi (-1) then 128 else 141, [.ref 58, .null, .int (zi x2), .int (zi x3), .int (zi x4), .int (zi (x4 / 6)), .int (zi 1), .int (zi ((iv M 67 x4) - 1000))], [.int (zi x3)], M)) rfl (am_xeq r8 (by decide) (fun h => ?_) (fun h => ?_))
          · replace hv := hv.1 h
            obtain ⟨r9, hv⟩ := hv
            refine am_xn 3 (c1 := (134, [.ref 58, .null, .int (zi x2), .int (zi x3), .int (zi x4), .int (zi (x4 / 6)), .int (zi 1), .int (zi ((iv M 67 x4) - 1000))], [.int (zi ((iv M 67 x4) - 1000)), .ref 64, .int (zi x3)], M)) rfl ?_
            refine am_xald rfl rfl rfl r9 ?_
            refine am_xn 0 (c1 := (135, [.ref 58, .null, .int (zi x2), .int (zi x3), .int (zi x4), .int (zi (x4 / 6)), .int (zi 1), .int (zi ((iv M 67 x4) - 1000))], [.int (zi (iv M 64 ((iv M 67 x4) - 1000))), .int (zi x3)], M)) rfl ?_
            refine am_xn 1 (c1 := (if zi (iv M 64 ((iv M 67 x4) - 1000)) = zi 0 then 138 else 151, [.ref 58, .null, .int (zi x2), .int (zi x3), .int (zi x4), .int (zi (x4 / 6)), .int (zi 1), .int (zi ((iv M 67 x4) - 1000))], [.int (zi x3)], M)) rfl (am_xeq (iv_r _ _ _) (by decide) (fun h => ?_) (fun h => ?_))
            · replace hv := hv.1 h
              refine am_xiadd 4 x3 1 (pc := 153) (ls := [.ref 58, .null, .int (zi x2), .int (zi x3), .int (zi x4), .int (zi (x4 / 6)), .int (zi 1), .int (zi ((iv M 67 x4) - 1000))]) (st := []) rfl ?_
              refine am_xn 2 (c1 := (157, [.ref 58, .null, .int (zi x2), .int (zi (x3 + 1)), .int (zi x4 + zi 1), .int (zi (x4 / 6)), .int (zi 1), .int (zi ((iv M 67 x4) - 1000))], [], M)) rfl ?_
              rw [zi_add]
              refine am_xn 1 (c1 := (34, [.ref 58, .null, .int (zi x2), .int (zi (x3 + 1)), .int (zi (x4 + 1)), .int (zi (x4 / 6)), .int (zi 1), .int (zi ((iv M 67 x4) - 1000))], [], M)) rfl ?_
              refine am_xf 5 ?_
              refine am_xf 6 ?_
              refine am_xf 7 ?_
              exact hv
            · replace hv := hv.2 h
              refine am_xiadd 2 x3 0 (pc := 153) (ls := [.ref 58, .null, .int (zi x2), .int (zi x3), .int (zi x4), .int (zi (x4 / 6)), .int (zi 1), .int (zi ((iv M 67 x4) - 1000))]) (st := []) rfl ?_
              refine am_xn 2 (c1 := (157, [.ref 58, .null, .int (zi x2), .int (zi (x3 + 0)), .int (zi x4 + zi 1), .int (zi (x4 / 6)), .int (zi 1), .int (zi ((iv M 67 x4) - 1000))], [], M)) rfl ?_
              rw [zi_add]
              refine am_xn 1 (c1 := (34, [.ref 58, .null, .int (zi x2), .int (zi (x3 + 0)), .int (zi (x4 + 1)), .int (zi (x4 / 6)), .int (zi 1), .int (zi ((iv M 67 x4) - 1000))], [], M)) rfl ?_
              refine am_xf 5 ?_
              refine am_xf 6 ?_
              refine am_xf 7 ?_
              exact hv
          · replace hv := hv.2 h
            obtain ⟨r10, hv⟩ := hv
            refine am_xn 3 (c1 := (if zi ((iv M 67 x4) - 1000) = zi x2 then 147 else 151, [.ref 58, .null, .int (zi x2), .int (zi x3), .int (zi x4), .int (zi (x4 / 6)), .int (zi 1), .int (zi ((iv M 67 x4) - 1000))], [.int (zi x3)], M)) rfl (am_xeq r10 r8 (fun h => ?_) (fun h => ?_))
            · replace hv := hv.1 h
              refine am_xiadd 3 x3 1 (pc := 153) (ls := [.ref 58, .null, .int (zi x2), .int (zi x3), .int (zi x4), .int (zi (x4 / 6)), .int (zi 1), .int (zi ((iv M 67 x4) - 1000))]) (st := []) rfl ?_
              refine am_xn 2 (c1 := (157, [.ref 58, .null, .int (zi x2), .int (zi (x3 + 1)), .int (zi x4 + zi 1), .int (zi (x4 / 6)), .int (zi 1), .int (zi ((iv M 67 x4) - 1000))], [], M)) rfl ?_
              rw [zi_add]
              refine am_xn 1 (c1 := (34, [.ref 58, .null, .int (zi x2), .int (zi (x3 + 1)), .int (zi (x4 + 1)), .int (zi (x4 / 6)), .int (zi 1), .int (zi ((iv M 67 x4) - 1000))], [], M)) rfl ?_
              refine am_xf 5 ?_
              refine am_xf 6 ?_
              refine am_xf 7 ?_
              exact hv
            · replace hv := hv.2 h
              refine am_xiadd 2 x3 0 (pc := 153) (ls := [.ref 58, .null, .int (zi x2), .int (zi x3), .int (zi x4), .int (zi (x4 / 6)), .int (zi 1), .int (zi ((iv M 67 x4) - 1000))]) (st := []) rfl ?_
              refine am_xn 2 (c1 := (157, [.ref 58, .null, .int (zi x2), .int (zi (x3 + 0)), .int (zi x4 + zi 1), .int (zi (x4 / 6)), .int (zi 1), .int (zi ((iv M 67 x4) - 1000))], [], M)) rfl ?_
              rw [zi_add]
              refine am_xn 1 (c1 := (34, [.ref 58, .null, .int (zi x2), .int (zi (x3 + 0)), .int (zi (x4 + 1)), .int (zi (x4 / 6)), .int (zi 1), .int (zi ((iv M 67 x4) - 1000))], [], M)) rfl ?_
              refine am_xf 5 ?_
              refine am_xf 6 ?_
              refine am_xf 7 ?_
              exact hv
      · replace hv := hv.2 h
        refine am_xiadd 11 x3 0 (pc := 153) (ls := [.ref 58, .null, .int (zi x2), .int (zi x3), .int (zi x4), .int (zi (x4 / 6)), .int (zi 0), .int (zi 0)]) (st := []) rfl ?_
        refine am_xn 2 (c1 := (157, [.ref 58, .null, .int (zi x2), .int (zi (x3 + 0)), .int (zi x4 + zi 1), .int (zi (x4 / 6)), .int (zi 0), .int (zi 0)], [], M)) rfl ?_
        rw [zi_add]
        refine am_xn 1 (c1 := (34, [.ref 58, .null, .int (zi x2), .int (zi (x3 + 0)), .int (zi (x4 + 1)), .int (zi (x4 / 6)), .int (zi 0), .int (zi 0)], [], M)) rfl ?_
        refine am_xf 5 ?_
        refine am_xf 6 ?_
        refine am_xf 7 ?_
        exact hv
    · replace hv := hv.2 h
      refine am_xiadd 11 x3 0 (pc := 153) (ls := [.ref 58, .null, .int (zi x2), .int (zi x3), .int (zi x4), .int (zi (x4 / 6)), .int (zi 0), .int (zi 0)]) (st := []) rfl ?_
      refine am_xn 2 (c1 := (157, [.ref 58, .null, .int (zi x2), .int (zi (x3 + 0)), .int (zi x4 + zi 1), .int (zi (x4 / 6)), .int (zi 0), .int (zi 0)], [], M)) rfl ?_
      rw [zi_add]
      refine am_xn 1 (c1 := (34, [.ref 58, .null, .int (zi x2), .int (zi (x3 + 0)), .int (zi (x4 + 1)), .int (zi (x4 / 6)), .int (zi 0), .int (zi 0)], [], M)) rfl ?_
      refine am_xf 5 ?_
      refine am_xf 6 ?_
      refine am_xf 7 ?_
      exact hv
  · replace hv := hv.2 h
    refine am_xn 1 (c1 := (161, [.ref 58, .null, .int (zi x2), .int (zi x3), .int (zi x4), .null, .null, .null], [.int (zi x3)], M)) rfl ?_
    exact am_xr (some (.int (zi x3))) ⟨rfl, rfl, .int, rfl, rfl⟩ hv
set_option maxRecDepth 100000 in
theorem vc_numberBetween (c : Int) (e : Int) (M : am_M) (Q : Option Value → am_M → Prop) (hv : (zr c) ∧ ((0 ≤ c) ∧ ((0 ≤ (c % 729)) ∧ ((0 ≤ c) ∧ ((0 ≤ c) ∧ ((zr (((c / 729) + 1) * 729)) ∧ ((zr e) ∧ (((((c / 729) + 1) * 729) < e → Q (some (.int (zi (((c / 729) + 1) * 729)))) M) ∧ (e ≤ (((c / 729) + 1) * 729) → (((c % 729) / 27) < 26 → (zr ((c - (c % 27)) + 27)) ∧ ((((c - (c % 27)) + 27) < e → Q (some (.int (zi ((c - (c % 27)) + 27)))) M) ∧ (e ≤ ((c - (c % 27)) + 27) → (0 < ((c % 729) / 27) → ((c % 27) < 26 → (zr (c + 1)) ∧ (((c + 1) < e → Q (some (.int (zi (c + 1)))) M) ∧ (e ≤ (c + 1) → Q (some (.int (zi (-1)))) M))) ∧ (26 ≤ (c % 27) → Q (some (.int (zi (-1)))) M)) ∧ (((c % 729) / 27) ≤ 0 → Q (some (.int (zi (-1)))) M)))) ∧ (26 ≤ ((c % 729) / 27) → ((c % 27) < 26 → (zr (c + 1)) ∧ (((c + 1) < e → Q (some (.int (zi (c + 1)))) M) ∧ (e ≤ (c + 1) → Q (some (.int (zi (-1)))) M))) ∧ (26 ≤ (c % 27) → Q (some (.int (zi (-1)))) M))))))))))) : am_x t_SB_numberBetween (0, am_ent (am_mL t_SB_numberBetween) [.int (zi c), .int (zi e)], [], M) Q := by
  refine am_xn 0 (c1 := (0, [.int (zi c), .int (zi e), .null, .null, .null, .null, .null], [], M)) rfl ?_
  obtain ⟨r1, hv⟩ := hv
  obtain ⟨r2, hv⟩ := hv
  refine am_xn 2 (c1 := (4, [.int (zi c), .int (zi e), .null, .null, .null, .null, .null], [.int (zi 729), .int (zi c)], M)) rfl ?_
  refine am_xrem rfl r2 (by decide) r1 (by decide) ?_
  refine am_xn 0 (c1 := (5, [.int (zi c), .int (zi e), .null, .null, .null, .null, .null], [.int (zi (c % 729))], M)) rfl ?_
  obtain ⟨r3, hv⟩ := hv
  refine am_xn 1 (c1 := (7, [.int (zi c), .int (zi e), .null, .null, .null, .null, .null], [.int (zi 27), .int (zi (c % 729))], M)) rfl ?_
  refine am_xdiv rfl r3 (by decide) (zr_rem r2 (by decide) r1 (by decide)) (by decide) ?_
  refine am_xn 0 (c1 := (8, [.int (zi c), .int (zi e), .null, .null, .null, .null, .null], [.int (zi ((c % 729) / 27))], M)) rfl ?_
  obtain ⟨r4, hv⟩ := hv
  refine am_xn 3 (c1 := (12, [.int (zi c), .int (zi e), .int (zi ((c % 729) / 27)), .null, .null, .null, .null], [.int (zi 27), .int (zi c)], M)) rfl ?_
  refine am_xrem rfl r4 (by decide) r1 (by decide) ?_
  refine am_xn 0 (c1 := (13, [.int (zi c), .int (zi e), .int (zi ((c % 729) / 27)), .null, .null, .null, .null], [.int (zi (c % 27))], M)) rfl ?_
  obtain ⟨r5, hv⟩ := hv
  refine am_xn 3 (c1 := (18, [.int (zi c), .int (zi e), .int (zi ((c % 729) / 27)), .int (zi (c % 27)), .null, .null, .null], [.int (zi 729), .int (zi c)], M)) rfl ?_
  refine am_xdiv rfl r5 (by decide) r1 (by decide) ?_
  refine am_xn 0 (c1 := (19, [.int (zi c), .int (zi e), .int (zi ((c % 729) / 27)), .int (zi (c % 27)), .null, .null, .null], [.int (zi (c / 729))], M)) rfl ?_
  refine am_xiadd 2 (c / 729) 1 (pc := 21) (ls := [.int (zi c), .int (zi e), .int (zi ((c % 729) / 27)), .int (zi (c % 27)), .null, .null, .null]) (st := []) rfl ?_
  refine am_ximul 2 ((c / 729) + 1) 729 (pc := 25) (ls := [.int (zi c), .int (zi e), .int (zi ((c % 729) / 27)), .int (zi (c % 27)), .null, .null, .null]) (st := []) rfl ?_
  obtain ⟨r6, hv⟩ := hv
  obtain ⟨r7, hv⟩ := hv
  refine am_xn 4 (c1 := (if zi (((c / 729) + 1) * 729) < zi e then 33 else 36, [.int (zi c), .int (zi e), .int (zi ((c % 729) / 27)), .int (zi (c % 27)), .int (zi (((c / 729) + 1) * 729)), .null, .null], [], M)) rfl (am_xlt r6 r7 (fun h => ?_) (fun h => ?_))
  · replace hv := hv.1 h
    refine am_xn 1 (c1 := (35, [.int (zi c), .int (zi e), .int (zi ((c % 729) / 27)), .int (zi (c % 27)), .int (zi (((c / 729) + 1) * 729)), .null, .null], [.int (zi (((c / 729) + 1) * 729))], M)) rfl ?_
    exact am_xr (some (.int (zi (((c / 729) + 1) * 729)))) ⟨rfl, rfl, .int, rfl, rfl⟩ hv
  · replace hv := hv.2 h
    refine am_xisub 3 c (c % 27) (pc := 39) (ls := [.int (zi c), .int (zi e), .int (zi ((c % 729) / 27)), .int (zi (c % 27)), .int (zi (((c / 729) + 1) * 729)), .null, .null]) (st := []) rfl ?_
    refine am_xiadd 2 (c - (c % 27)) 27 (pc := 42) (ls := [.int (zi c), .int (zi e), .int (zi ((c % 729) / 27)), .int (zi (c % 27)), .int (zi (((c / 729) + 1) * 729)), .null, .null]) (st := []) rfl ?_
    refine am_xn 4 (c1 := (if zi ((c % 729) / 27) < zi 26 then 50 else 59, [.int (zi c), .int (zi e), .int (zi ((c % 729) / 27)), .int (zi (c % 27)), .int (zi (((c / 729) + 1) * 729)), .int (zi ((c - (c % 27)) + 27)), .null], [], M)) rfl (am_xlt (zr_div r3 (by decide) (zr_rem r2 (by decide) r1 (by decide)) (by decide)) (by decide) (fun h => ?_) (fun h => ?_))
    · replace hv := hv.1 h
      obtain ⟨r8, hv⟩ := hv
      refine am_xn 3 (c1 := (if zi ((c - (c % 27)) + 27) < zi e then 56 else 59, [.int (zi c), .int (zi e), .int (zi ((c % 729) / 27)), .int (zi (c % 27)), .int (zi (((c / 729) + 1) * 729)), .int (zi ((c - (c % 27)) + 27)), .null], [], M)) rfl (am_xlt r8 r7 (fun h => ?_) (fun h => ?_))
      · replace hv := hv.1 h
        refine am_xn 1 (c1 := (58, [.int (zi c), .int (zi e), .int (zi ((c % 729) / 27)), .int (zi (c % 27)), .int (zi (((c / 729) + 1) * 729)), .int (zi ((c - (c % 27)) + 27)), .null], [.int (zi ((c - (c % 27)) + 27))], M)) rfl ?_
        exact am_xr (some (.int (zi ((c - (c % 27)) + 27)))) ⟨rfl, rfl, .int, rfl, rfl⟩ hv
      · replace hv := hv.2 h
        refine am_xiadd 3 c 1 (pc := 62) (ls := [.int (zi c), .int (zi e), .int (zi ((c % 729) / 27)), .int (zi (c % 27)), .int (zi (((c / 729) + 1) * 729)), .int (zi ((c - (c % 27)) + 27)), .null]) (st := []) rfl ?_
        refine am_xn 3 (c1 := (if zi 0 < zi ((c % 729) / 27) then 68 else 85, [.int (zi c), .int (zi e), .int (zi ((c % 729) / 27)), .int (zi (c % 27)), .int (zi (((c / 729) + 1) * 729)), .int (zi ((c - (c % 27)) + 27)), .int (zi (c + 1))], [], M)) rfl (am_xlt (by decide) (zr_div r3 (by decide) (zr_rem r2 (by decide) r1 (by decide)) (by decide)) (fun h => ?_) (fun h => ?_))
        · replace hv := hv.1 h
          refine am_xn 3 (c1 := (if zi (c % 27) < zi 26 then 74 else 85, [.int (zi c), .int (zi e), .int (zi ((c % 729) / 27)), .int (zi (c % 27)), .int (zi (((c / 729) + 1) * 729)), .int (zi ((c - (c % 27)) + 27)), .int (zi (c + 1))], [], M)) rfl (am_xlt (zr_rem r4 (by decide) r1 (by decide)) (by decide) (fun h => ?_) (fun h => ?_))
          · replace hv := hv.1 h
            obtain ⟨r9, hv⟩ := hv
            refine am_xn 3 (c1 := (if zi (c + 1) < zi e then 80 else 85, [.int (zi c), .int (zi e), .int (zi ((c % 729) / 27)), .int (zi (c % 27)), .int (zi (((c / 729) + 1) * 729)), .int (zi ((c - (c % 27)) + 27)), .int (zi (c + 1))], [], M)) rfl (am_xlt r9 r7 (fun h => ?_) (fun h => ?_))
            · replace hv := hv.1 h
              refine am_xn 2 (c1 := (86, [.int (zi c), .int (zi e), .int (zi ((c % 729) / 27)), .int (zi (c % 27)), .int (zi (((c / 729) + 1) * 729)), .int (zi ((c - (c % 27)) + 27)), .int (zi (c + 1))], [.int (zi (c + 1))], M)) rfl ?_
              exact am_xr (some (.int (zi (c + 1)))) ⟨rfl, rfl, .int, rfl, rfl⟩ hv
            · replace hv := hv.2 h
              refine am_xn 1 (c1 := (86, [.int (zi c), .int (zi e), .int (zi ((c % 729) / 27)), .int (zi (c % 27)), .int (zi (((c / 729) + 1) * 729)), .int (zi ((c - (c % 27)) + 27)), .int (zi (c + 1))], [.int (zi (-1))], M)) rfl ?_
              exact am_xr (some (.int (zi (-1)))) ⟨rfl, rfl, .int, rfl, rfl⟩ hv
          · replace hv := hv.2 h
            refine am_xn 1 (c1 := (86, [.int (zi c), .int (zi e), .int (zi ((c % 729) / 27)), .int (zi (c % 27)), .int (zi (((c / 729) + 1) * 729)), .int (zi ((c - (c % 27)) + 27)), .int (zi (c + 1))], [.int (zi (-1))], M)) rfl ?_
            exact am_xr (some (.int (zi (-1)))) ⟨rfl, rfl, .int, rfl, rfl⟩ hv
        · replace hv := hv.2 h
          refine am_xn 1 (c1 := (86, [.int (zi c), .int (zi e), .int (zi ((c % 729) / 27)), .int (zi (c % 27)), .int (zi (((c / 729) + 1) * 729)), .int (zi ((c - (c % 27)) + 27)), .int (zi (c + 1))], [.int (zi (-1))], M)) rfl ?_
          exact am_xr (some (.int (zi (-1)))) ⟨rfl, rfl, .int, rfl, rfl⟩ hv
    · replace hv := hv.2 h
      refine am_xiadd 3 c 1 (pc := 62) (ls := [.int (zi c), .int (zi e), .int (zi ((c % 729) / 27)), .int (zi (c % 27)), .int (zi (((c / 729) + 1) * 729)), .int (zi ((c - (c % 27)) + 27)), .null]) (st := []) rfl ?_
      refine am_xn 3 (c1 := (if zi 0 < zi ((c % 729) / 27) then 68 else 85, [.int (zi c), .int (zi e), .int (zi ((c % 729) / 27)), .int (zi (c % 27)), .int (zi (((c / 729) + 1) * 729)), .int (zi ((c - (c % 27)) + 27)), .int (zi (c + 1))], [], M)) rfl (am_xlt (by decide) (zr_div r3 (by decide) (zr_rem r2 (by decide) r1 (by decide)) (by decide)) (fun h => ?_) (fun h => by clear hv; exfalso; omega))
      refine am_xn 3 (c1 := (if zi (c % 27) < zi 26 then 74 else 85, [.int (zi c), .int (zi e), .int (zi ((c % 729) / 27)), .int (zi (c % 27)), .int (zi (((c / 729) + 1) * 729)), .int (zi ((c - (c % 27)) + 27)), .int (zi (c + 1))], [], M)) rfl (am_xlt (zr_rem r4 (by decide) r1 (by decide)) (by decide) (fun h => ?_) (fun h => ?_))
      · replace hv := hv.1 h
        obtain ⟨r10, hv⟩ := hv
        refine am_xn 3 (c1 := (if zi (c + 1) < zi e then 80 else 85, [.int (zi c), .int (zi e), .int (zi ((c % 729) / 27)), .int (zi (c % 27)), .int (zi (((c / 729) + 1) * 729)), .int (zi ((c - (c % 27)) + 27)), .int (zi (c + 1))], [], M)) rfl (am_xlt r10 r7 (fun h => ?_) (fun h => ?_))
        · replace hv := hv.1 h
          refine am_xn 2 (c1 := (86, [.int (zi c), .int (zi e), .int (zi ((c % 729) / 27)), .int (zi (c % 27)), .int (zi (((c / 729) + 1) * 729)), .int (zi ((c - (c % 27)) + 27)), .int (zi (c + 1))], [.int (zi (c + 1))], M)) rfl ?_
          exact am_xr (some (.int (zi (c + 1)))) ⟨rfl, rfl, .int, rfl, rfl⟩ hv
        · replace hv := hv.2 h
          refine am_xn 1 (c1 := (86, [.int (zi c), .int (zi e), .int (zi ((c % 729) / 27)), .int (zi (c % 27)), .int (zi (((c / 729) + 1) * 729)), .int (zi ((c - (c % 27)) + 27)), .int (zi (c + 1))], [.int (zi (-1))], M)) rfl ?_
          exact am_xr (some (.int (zi (-1)))) ⟨rfl, rfl, .int, rfl, rfl⟩ hv
      · replace hv := hv.2 h
        refine am_xn 1 (c1 := (86, [.int (zi c), .int (zi e), .int (zi ((c % 729) / 27)), .int (zi (c % 27)), .int (zi (((c / 729) + 1) * 729)), .int (zi ((c - (c % 27)) + 27)), .int (zi (c + 1))], [.int (zi (-1))], M)) rfl ?_
        exact am_xr (some (.int (zi (-1)))) ⟨rfl, rfl, .int, rfl, rfl⟩ hv
set_option maxRecDepth 100000 in
theorem vc_c_between (d : Int) (x : Int) (M : am_M) (Q : Option Value → am_M → Prop) (hv : (zr d ∧ zr (9999 : Int)) ∧ ((0 ≤ d ∧ d ≤ 9999 → (zr x) ∧ ((isCd x → ∃ M1, am_call t_SB_consolidate [.ref 0, .int (zi d), .int (zi (-1))] M none M1 ∧ (∃ (r3 : Int) (M2 : am_M), am_call t_Law_indexOf [.ref 15, .int (zi x)] M1 (some (.int (zi r3))) M2 ∧ ((zr r3) ∧ ((r3 = (-1) → Q (some (.int (zi (-3)))) M2) ∧ (¬ r3 = (-1) → (zr ((iv M2 15 9) - 1)) ∧ ((r3 = ((iv M2 15 9) - 1) → ∃ (r7 : Int) (M6 : am_M), am_call t_SB_numberBetween [.int (zi x), .int (zi 729000)] M2 (some (.int (zi r7))) M6 ∧ (Q (some (.int (zi r7))) M6)) ∧ (¬ r3 = ((iv M2 15 9) - 1) → (0 ≤ (r3 + 1) ∧ (r3 + 1) < 40) ∧ ((0 ≤ (iv M2 25 (r3 + 1)) ∧ (iv M2 25 (r3 + 1)) < 40) ∧ (∃ (r9 : Int) (M8 : am_M), am_call t_SB_numberBetween [.int (zi x), .int (zi (iv M2 17 (iv M2 25 (r3 + 1))))] M2 (some (.int (zi r9))) M8 ∧ (Q (some (.int (zi r9))) M8)))))))))) ∧ (¬ (isCd x) → Q (some (.int (zi (-2)))) M))) ∧ (¬ (0 ≤ d ∧ d ≤ 9999) → Q (some (.int (zi (-2)))) M))) : am_x t_SB_between (0, am_ent (am_mL t_SB_between) [.ref 0, .int (zi d), .int (zi x)], [], M) Q := by
  refine am_xn 0 (c1 := (0, [.ref 0, .int (zi d), .int (zi x), .null, .null, .null], [], M)) rfl ?_
  refine am_xn 2 (c1 := (4, [.ref 0, .int (zi d), .int (zi x), .null, .null, .null], [.int (zi 9999), .int (zi d)], M)) rfl ?_
  obtain ⟨g, hv⟩ := hv
  by_cases c11 : 0 ≤ d ∧ d ≤ 9999
  · replace hv := hv.1 c11
    refine am_xc t_SB_within (.invokestatic 56) 56 (av := [.int (zi d), .int (zi 9999)]) (rest := []) (rv := some (.int (zi 1))) (M' := M) rfl rfl rfl rfl (Nat.le_of_ble_eq_true rfl) (fun h => nomatch h) (by have q := sp_within M d 9999 g; rwa [if_pos c11] at q) ?_
    refine am_xn 0 (c1 := (7, [.ref 0, .int (zi d), .int (zi x), .null, .null, .null], [.int (zi 1)], M)) rfl ?_
    refine am_xn 2 (c1 := (11, [.ref 0, .int (zi d), .int (zi x), .null, .null, .null], [.int (zi x)], M)) rfl ?_
    obtain ⟨g, hv⟩ := hv
    by_cases c10 : isCd x
    · replace hv := hv.1 c10
      refine am_xc t_SB_isCode (.invokestatic 187) 187 (av := [.int (zi x)]) (rest := []) (rv := some (.int (zi 1))) (M' := M) rfl rfl rfl rfl (Nat.le_of_ble_eq_true rfl) (fun h => nomatch h) (by have q := sp_c_isCode M x g; rwa [if_pos c10] at q) ?_
      refine am_xn 0 (c1 := (14, [.ref 0, .int (zi d), .int (zi x), .null, .null, .null], [.int (zi 1)], M)) rfl ?_
      refine am_xn 4 (c1 := (23, [.ref 0, .int (zi d), .int (zi x), .null, .null, .null], [.int (zi (-1)), .int (zi d), .ref 0], M)) rfl ?_
      obtain ⟨M1, hc, hv⟩ := hv
      refine am_xc t_SB_consolidate (.invokevirtual 162) 162 (av := [.ref 0, .int (zi d), .int (zi (-1))]) (rest := []) (rv := none) (M' := M1) rfl rfl rfl rfl (Nat.le_of_ble_eq_true rfl) (fun _ => rfl) (hc) ?_
      refine am_xn 0 (c1 := (26, [.ref 0, .int (zi d), .int (zi x), .null, .null, .null], [], M1)) rfl ?_
      refine am_xn 3 (c1 := (31, [.ref 0, .int (zi d), .int (zi x), .null, .null, .null], [.int (zi x), .ref 15], M1)) rfl ?_
      obtain ⟨r3, M2, hc, hv⟩ := hv
      refine am_xc t_Law_indexOf (.invokevirtual 190) 190 (av := [.ref 15, .int (zi x)]) (rest := []) (rv := some (.int (zi r3))) (M' := M2) rfl rfl rfl rfl (Nat.le_of_ble_eq_true rfl) (fun _ => rfl) (hc) ?_
      refine am_xn 0 (c1 := (34, [.ref 0, .int (zi d), .int (zi x), .null, .null, .null], [.int (zi r3)], M2)) rfl ?_
      obtain ⟨r4, hv⟩ := hv
      refine am_xn 4 (c1 := (if zi r3 = zi (-1) then 40 else 43, [.ref 0, .int (zi d), .int (zi x), .int (zi r3), .null, .null], [], M2)) rfl (am_xeq r4 (by decide) (fun h => ?_) (fun h => ?_))
      · replace hv := hv.1 h
        refine am_xn 1 (c1 := (42, [.ref 0, .int (zi d), .int (zi x), .int (zi r3), .null, .null], [.int (zi (-3))], M2)) rfl ?_
        exact am_xr (some (.int (zi (-3)))) ⟨rfl, rfl, .int, rfl, rfl⟩ hv
      · replace hv := hv.2 h
        refine am_xn 3 (c1 := (48, [.ref 0, .int (zi d), .int (zi x), .int (zi r3), .null, .null], [.ref 15, .int (zi r3)], M2)) rfl ?_
        refine am_xc t_Law_size (.invokevirtual 165) 165 (av := [.ref 15]) (rest := [.int (zi r3)]) (rv := some (.int (zi (iv M2 15 9)))) (M' := M2) rfl rfl rfl rfl (Nat.le_of_ble_eq_true rfl) (fun _ => rfl) (sp_l15_size M2) ?_
        refine am_xn 0 (c1 := (51, [.ref 0, .int (zi d), .int (zi x), .int (zi r3), .null, .null], [.int (zi (iv M2 15 9)), .int (zi r3)], M2)) rfl ?_
        refine am_xisub 2 (iv M2 15 9) 1 (pc := 53) (ls := [.ref 0, .int (zi d), .int (zi x), .int (zi r3), .null, .null]) (st := [.int (zi r3)]) rfl ?_
        obtain ⟨r5, hv⟩ := hv
        refine am_xn 1 (c1 := (if zi r3 = zi ((iv M2 15 9) - 1) then 56 else 60, [.ref 0, .int (zi d), .int (zi x), .int (zi r3), .null, .null], [], M2)) rfl (am_xeq r4 r5 (fun h => ?_) (fun h => ?_))
        · replace hv := hv.1 h
          refine am_xn 10 (c1 := (96, [.ref 0, .int (zi d), .int (zi x), .int (zi r3), .int (zi 1), .int (zi 729000)], [.int (zi 729000), .int (zi x)], M2)) rfl ?_
          obtain ⟨r7, M6, hc, hv⟩ := hv
          refine am_xc t_SB_numberBetween (.invokestatic 274) 274 (av := [.int (zi x), .int (zi 729000)]) (rest := []) (rv := some (.int (zi r7))) (M' := M6) rfl rfl rfl rfl (Nat.le_of_ble_eq_true rfl) (fun h => nomatch h) (hc) ?_
          refine am_xn 0 (c1 := (99, [.ref 0, .int (zi d), .int (zi x), .int (zi r3), .int (zi 1), .int (zi 729000)], [.int (zi r7)], M6)) rfl ?_
          exact am_xr (some (.int (zi r7))) ⟨rfl, rfl, .int, rfl, rfl⟩ hv
        · replace hv := hv.2 h
          refine am_xiadd 11 r3 1 (pc := 85) (ls := [.ref 0, .int (zi d), .int (zi x), .int (zi r3), .int (zi 0), .null]) (st := [.ref 15, .ref 15]) rfl ?_
          obtain ⟨g, hv⟩ := hv
          refine am_xc t_Law_at (.invokevirtual 166) 166 (av := [.ref 15, .int (zi (r3 + 1))]) (rest := [.ref 15]) (rv := some (.int (zi (iv M2 25 (r3 + 1))))) (M' := M2) rfl rfl rfl rfl (Nat.le_of_ble_eq_true rfl) (fun _ => rfl) (sp_l15_at M2 (r3 + 1) g) ?_
          refine am_xn 0 (c1 := (88, [.ref 0, .int (zi d), .int (zi x), .int (zi r3), .int (zi 0), .null], [.int (zi (iv M2 25 (r3 + 1))), .ref 15], M2)) rfl ?_
          obtain ⟨g, hv⟩ := hv
          refine am_xc t_Law_code (.invokevirtual 172) 172 (av := [.ref 15, .int (zi (iv M2 25 (r3 + 1)))]) (rest := []) (rv := some (.int (zi (iv M2 17 (iv M2 25 (r3 + 1)))))) (M' := M2) rfl rfl rfl rfl (Nat.le_of_ble_eq_true rfl) (fun _ => rfl) (sp_l15_code M2 (iv M2 25 (r3 + 1)) g) ?_
          refine am_xn 0 (c1 := (91, [.ref 0, .int (zi d), .int (zi x), .int (zi r3), .int (zi 0), .null], [.int (zi (iv M2 17 (iv M2 25 (r3 + 1))))], M2)) rfl ?_
          refine am_xn 3 (c1 := (96, [.ref 0, .int (zi d), .int (zi x), .int (zi r3), .int (zi 0), .int (zi (iv M2 17 (iv M2 25 (r3 + 1))))], [.int (zi (iv M2 17 (iv M2 25 (r3 + 1)))), .int (zi x)], M2)) rfl ?_
          obtain ⟨r9, M8, hc, hv⟩ := hv
          refine am_xc t_SB_numberBetween (.invokestatic 274) 274 (av := [.int (zi x), .int (zi (iv M2 17 (iv M2 25 (r3 + 1))))]) (rest := []) (rv := some (.int (zi r9))) (M' := M8) rfl rfl rfl rfl (Nat.le_of_ble_eq_true rfl) (fun h => nomatch h) (hc) ?_
          refine am_xn 0 (c1 := (99, [.ref 0, .int (zi d), .int (zi x), .int (zi r3), .int (zi 0), .int (zi (iv M2 17 (iv M2 25 (r3 + 1))))], [.int (zi r9)], M8)) rfl ?_
          exact am_xr (some (.int (zi r9))) ⟨rfl, rfl, .int, rfl, rfl⟩ hv
    · replace hv := hv.2 c10
      refine am_xc t_SB_isCode (.invokestatic 187) 187 (av := [.int (zi x)]) (rest := []) (rv := some (.int (zi 0))) (M' := M) rfl rfl rfl rfl (Nat.le_of_ble_eq_true rfl) (fun h => nomatch h) (by have q := sp_c_isCode M x g; rwa [if_neg c10] at q) ?_
      refine am_xn 0 (c1 := (14, [.ref 0, .int (zi d), .int (zi x), .null, .null, .null], [.int (zi 0)], M)) rfl ?_
      refine am_xn 2 (c1 := (19, [.ref 0, .int (zi d), .int (zi x), .null, .null, .null], [.int (zi (-2))], M)) rfl ?_
      exact am_xr (some (.int (zi (-2)))) ⟨rfl, rfl, .int, rfl, rfl⟩ hv
  · replace hv := hv.2 c11
    refine am_xc t_SB_within (.invokestatic 56) 56 (av := [.int (zi d), .int (zi 9999)]) (rest := []) (rv := some (.int (zi 0))) (M' := M) rfl rfl rfl rfl (Nat.le_of_ble_eq_true rfl) (fun h => nomatch h) (by have q := sp_within M d 9999 g; rwa [if_neg c11] at q) ?_
    refine am_xn 0 (c1 := (7, [.ref 0, .int (zi d), .int (zi x), .null, .null, .null], [.int (zi 0)], M)) rfl ?_
    refine am_xn 2 (c1 := (19, [.ref 0, .int (zi d), .int (zi x), .null, .null, .null], [.int (zi (-2))], M)) rfl ?_
    exact am_xr (some (.int (zi (-2)))) ⟨rfl, rfl, .int, rfl, rfl⟩ hv
set_option maxRecDepth 100000 in
theorem vc_m_between (d : Int) (x : Int) (M : am_M) (Q : Option Value → am_M → Prop) (hv : (zr d) ∧ ((0 ≤ d ∧ d ≤ 9999 → (zr x) ∧ ((isCd x → ∃ M1, am_call t_Mo_laws [.ref 58, .int (zi d), .int (zi (-1))] M none M1 ∧ ((zr x) ∧ (((mwc M1 x) = (-1) → Q (some (.int (zi (-3)))) M1) ∧ (¬ (mwc M1 x) = (-1) → ∃ (r3 : Int) (M2 : am_M), am_call t_Mo_indexOf [.ref 58, .int (zi (mwc M1 x))] M1 (some (.int (zi r3))) M2 ∧ (∃ (r5 : Int) (M4 : am_M), am_call t_Mo_atIndex [.ref 58, .int (zi (r3 + 1))] M2 (some (.int (zi r5))) M4 ∧ ((zr r5) ∧ ((r5 = (-1) → am_x t_Mo_between (73, [.null, .null, .int (zi x), .null, .null, .int (zi 729000), .int (zi 0), .null], [], M4) Q) ∧ (¬ r5 = (-1) → (0 ≤ r5 ∧ r5 < 40) ∧ (am_x t_Mo_between (73, [.null, .null, .int (zi x), .null, .null, .int (zi (iv M4 65 r5)), .int (zi 0), .null], [], M4) Q))))))))) ∧ (¬ (isCd x) → Q (some (.int (zi (-2)))) M))) ∧ (¬ (0 ≤ d ∧ d ≤ 9999) → Q (some (.int (zi (-2)))) M))) : am_x t_Mo_between (0, am_ent (am_mL t_Mo_between) [.ref 58, .int (zi d), .int (zi x)], [], M) Q := by
  refine am_xn 0 (c1 := (0, [.ref 58, .int (zi d), .int (zi x), .null, .null, .null, .null, .null], [], M)) rfl ?_
  refine am_xn 1 (c1 := (1, [.ref 58, .int (zi d), .int (zi x), .null, .null, .null, .null, .null], [.int (zi d)], M)) rfl ?_
  obtain ⟨g, hv⟩ := hv
  by_cases c9 : 0 ≤ d ∧ d ≤ 9999
  · replace hv := hv.1 c9
    refine am_xc t_Mo_isDay (.invokestatic 80) 80 (av := [.int (zi d)]) (rest := []) (rv := some (.int (zi 1))) (M' := M) rfl rfl rfl rfl (Nat.le_of_ble_eq_true rfl) (fun h => nomatch h) (by have q := sp_isDay M d g; rwa [if_pos c9] at q) ?_
    refine am_xn 0 (c1 := (4, [.ref 58, .int (zi d), .int (zi x), .null, .null, .null, .null, .null], [.int (zi 1)], M)) rfl ?_
    refine am_xn 2 (c1 := (8, [.ref 58, .int (zi d), .int (zi x), .null, .null, .null, .null, .null], [.int (zi x)], M)) rfl ?_
    obtain ⟨g, hv⟩ := hv
    by_cases c8 : isCd x
    · replace hv := hv.1 c8
      refine am_xc t_Mo_isCode (.invokestatic 269) 269 (av := [.int (zi x)]) (rest := []) (rv := some (.int (zi 1))) (M' := M) rfl rfl rfl rfl (Nat.le_of_ble_eq_true rfl) (fun h => nomatch h) (by have q := sp_isCode M x g; rwa [if_pos c8] at q) ?_
      refine am_xn 0 (c1 := (11, [.ref 58, .int (zi d), .int (zi x), .null, .null, .null, .null, .null], [.int (zi 1)], M)) rfl ?_
      refine am_xn 4 (c1 := (20, [.ref 58, .int (zi d), .int (zi x), .null, .null, .null, .null, .null], [.int (zi (-1)), .int (zi d), .ref 58], M)) rfl ?_
      obtain ⟨M1, hc, hv⟩ := hv
      refine am_xc t_Mo_laws (.invokevirtual 140) 140 (av := [.ref 58, .int (zi d), .int (zi (-1))]) (rest := []) (rv := none) (M' := M1) rfl rfl rfl rfl (Nat.le_of_ble_eq_true rfl) (fun _ => rfl) (hc) ?_
      refine am_xn 0 (c1 := (23, [.ref 58, .int (zi d), .int (zi x), .null, .null, .null, .null, .null], [], M1)) rfl ?_
      refine am_xn 2 (c1 := (25, [.ref 58, .int (zi d), .int (zi x), .null, .null, .null, .null, .null], [.int (zi x), .ref 58], M1)) rfl ?_
      obtain ⟨g, hv⟩ := hv
      refine am_xc t_Mo_withCode (.invokevirtual 104) 104 (av := [.ref 58, .int (zi x)]) (rest := []) (rv := some (.int (zi (mwc M1 x)))) (M' := M1) rfl rfl rfl rfl (Nat.le_of_ble_eq_true rfl) (fun _ => rfl) (sp_withCode M1 x g) ?_
      refine am_xn 0 (c1 := (28, [.ref 58, .int (zi d), .int (zi x), .null, .null, .null, .null, .null], [.int (zi (mwc M1 x))], M1)) rfl ?_
      refine am_xn 4 (c1 := (if zi (mwc M1 x) = zi (-1) then 34 else 37, [.ref 58, .int (zi d), .int (zi x), .int (zi (mwc M1 x)), .null, .null, .null, .null], [], M1)) rfl (am_xeq (mwc_zr _ _) (by decide) (fun h => ?_) (fun h => ?_))
      · replace hv := hv.1 h
        refine am_xn 1 (c1 := (36, [.ref 58, .int (zi d), .int (zi x), .int (zi (mwc M1 x)), .null, .null, .null, .null], [.int (zi (-3))], M1)) rfl ?_
        exact am_xr (some (.int (zi (-3)))) ⟨rfl, rfl, .int, rfl, rfl⟩ hv
      · replace hv := hv.2 h
        refine am_xn 3 (c1 := (40, [.ref 58, .int (zi d), .int (zi x), .int (zi (mwc M1 x)), .null, .null, .null, .null], [.int (zi (mwc M1 x)), .ref 58, .ref 58], M1)) rfl ?_
        obtain ⟨r3, M2, hc, hv⟩ := hv
        refine am_xc t_Mo_indexOf (.invokevirtual 146) 146 (av := [.ref 58, .int (zi (mwc M1 x))]) (rest := [.ref 58]) (rv := some (.int (zi r3))) (M' := M2) rfl rfl rfl rfl (Nat.le_of_ble_eq_true rfl) (fun _ => rfl) (hc) ?_
        refine am_xn 0 (c1 := (43, [.ref 58, .int (zi d), .int (zi x), .int (zi (mwc M1 x)), .null, .null, .null, .null], [.int (zi r3), .ref 58], M2)) rfl ?_
        refine am_xiadd 2 r3 1 (pc := 45) (ls := [.ref 58, .int (zi d), .int (zi x), .int (zi (mwc M1 x)), .null, .null, .null, .null]) (st := [.ref 58]) rfl ?_
        obtain ⟨r5, M4, hc, hv⟩ := hv
        refine am_xc t_Mo_atIndex (.invokevirtual 260) 260 (av := [.ref 58, .int (zi (r3 + 1))]) (rest := []) (rv := some (.int (zi r5))) (M' := M4) rfl rfl rfl rfl (Nat.le_of_ble_eq_true rfl) (fun _ => rfl) (hc) ?_
        refine am_xn 0 (c1 := (48, [.ref 58, .int (zi d), .int (zi x), .int (zi (mwc M1 x)), .null, .null, .null, .null], [.int (zi r5)], M4)) rfl ?_
        obtain ⟨r6, hv⟩ := hv
        refine am_xn 4 (c1 := (if zi r5 = zi (-1) then 56 else 61, [.ref 58, .int (zi d), .int (zi x), .int (zi (mwc M1 x)), .int (zi r5), .null, .null, .null], [], M4)) rfl (am_xeq r6 (by decide) (fun h => ?_) (fun h => ?_))
        · replace hv := hv.1 h
          refine am_xn 5 (c1 := (73, [.ref 58, .int (zi d), .int (zi x), .int (zi (mwc M1 x)), .int (zi r5), .int (zi 729000), .int (zi 0), .null], [], M4)) rfl ?_
          refine am_xf 0 ?_
          refine am_xf 1 ?_
          refine am_xf 3 ?_
          refine am_xf 4 ?_
          exact hv
        · replace hv := hv.2 h
          obtain ⟨r7, hv⟩ := hv
          refine am_xn 3 (c1 := (67, [.ref 58, .int (zi d), .int (zi x), .int (zi (mwc M1 x)), .int (zi r5), .null, .null, .null], [.int (zi r5), .ref 65], M4)) rfl ?_
          refine am_xald rfl rfl rfl r7 ?_
          refine am_xn 0 (c1 := (68, [.ref 58, .int (zi d), .int (zi x), .int (zi (mwc M1 x)), .int (zi r5), .null, .null, .null], [.int (zi (iv M4 65 r5))], M4)) rfl ?_
          refine am_xn 3 (c1 := (73, [.ref 58, .int (zi d), .int (zi x), .int (zi (mwc M1 x)), .int (zi r5), .int (zi (iv M4 65 r5)), .int (zi 0), .null], [], M4)) rfl ?_
          refine am_xf 0 ?_
          refine am_xf 1 ?_
          refine am_xf 3 ?_
          refine am_xf 4 ?_
          exact hv
    · replace hv := hv.2 c8
      refine am_xc t_Mo_isCode (.invokestatic 269) 269 (av := [.int (zi x)]) (rest := []) (rv := some (.int (zi 0))) (M' := M) rfl rfl rfl rfl (Nat.le_of_ble_eq_true rfl) (fun h => nomatch h) (by have q := sp_isCode M x g; rwa [if_neg c8] at q) ?_
      refine am_xn 0 (c1 := (11, [.ref 58, .int (zi d), .int (zi x), .null, .null, .null, .null, .null], [.int (zi 0)], M)) rfl ?_
      refine am_xn 2 (c1 := (16, [.ref 58, .int (zi d), .int (zi x), .null, .null, .null, .null, .null], [.int (zi (-2))], M)) rfl ?_
      exact am_xr (some (.int (zi (-2)))) ⟨rfl, rfl, .int, rfl, rfl⟩ hv
  · replace hv := hv.2 c9
    refine am_xc t_Mo_isDay (.invokestatic 80) 80 (av := [.int (zi d)]) (rest := []) (rv := some (.int (zi 0))) (M' := M) rfl rfl rfl rfl (Nat.le_of_ble_eq_true rfl) (fun h => nomatch h) (by have q := sp_isDay M d g; rwa [if_neg c9] at q) ?_
    refine am_xn 0 (c1 := (4, [.ref 58, .int (zi d), .int (zi x), .null, .null, .null, .null, .null], [.int (zi 0)], M)) rfl ?_
    refine am_xn 2 (c1 := (16, [.ref 58, .int (zi d), .int (zi x), .null, .null, .null, .null, .null], [.int (zi (-2))], M)) rfl ?_
    exact am_xr (some (.int (zi (-2)))) ⟨rfl, rfl, .int, rfl, rfl⟩ hv
set_option maxRecDepth 100000 in
theorem vc_m_between_73 (x2 : Int) (x5 : Int) (x6 : Int) (M : am_M) (Q : Option Value → am_M → Prop) (hv : (zr x6) ∧ ((x6 < 3 → am_x t_Mo_between (84, [.null, .null, .int (zi x2), .null, .null, .int (zi x5), .int (zi x6), .int (zi (x2 + 1))], [], M) Q) ∧ (3 ≤ x6 → Q (some (.int (zi (-1)))) M))) : am_x t_Mo_between (73, [.null, .null, .int (zi x2), .null, .null, .int (zi x5), .int (zi x6), .null], [], M) Q := by
  obtain ⟨r1, hv⟩ := hv
  refine am_xn 3 (c1 := (if zi x6 < zi 3 then 79 else 134, [.null, .null, .int (zi x2), .null, .null, .int (zi x5), .int (zi x6), .null], [], M)) rfl (am_xlt r1 (by decide) (fun h => ?_) (fun h => ?_))
  · replace hv := hv.1 h
    refine am_xiadd 3 x2 1 (pc := 82) (ls := [.null, .null, .int (zi x2), .null, .null, .int (zi x5), .int (zi x6), .null]) (st := []) rfl ?_
    refine am_xn 1 (c1 := (84, [.null, .null, .int (zi x2), .null, .null, .int (zi x5), .int (zi x6), .int (zi (x2 + 1))], [], M)) rfl ?_
    exact hv
  · replace hv := hv.2 h
    refine am_xn 1 (c1 := (135, [.null, .null, .int (zi x2), .null, .null, .int (zi x5), .int (zi x6), .null], [.int (zi (-1))], M)) rfl ?_
    exact am_xr (some (.int (zi (-1)))) ⟨rfl, rfl, .int, rfl, rfl⟩ hv
set_option maxRecDepth 100000 in
theorem vc_m_between_84 (x2 : Int) (x5 : Int) (x6 : Int) (x7 : Int) (M : am_M) (Q : Option Value → am_M → Prop) (hv : (zr x7) ∧ ((zr x5) ∧ ((x7 < x5 → (zr (x2 + 1500)) ∧ ((x7 < (x2 + 1500) → (zr x7) ∧ ((isCd x7 → ∃ (r5 : Int) (M4 : am_M), am_call t_Mo_lettersIn [.int (zi x7)] M (some (.int (zi r5))) M4 ∧ ((zr r5) ∧ ((zr x6) ∧ ((r5 = x6 → Q (some (.int (zi x7))) M4) ∧ (¬ r5 = x6 → am_x t_Mo_between (84, [.null, .null, .int (zi x2), .null, .null, .int (zi x5), .int (zi x6), .int (zi (x7 + 1))], [], M4) Q))))) ∧ (¬ (isCd x7) → am_x t_Mo_between (84, [.null, .null, .int (zi x2), .null, .null, .int (zi x5), .int (zi x6), .int (zi (x7 + 1))], [], M) Q))) ∧ ((x2 + 1500) ≤ x7 → am_x t_Mo_between (73, [.null, .null, .int (zi x2), .null, .null, .int (zi x5), .int (zi (x6 + 1)), .null], [], M) Q))) ∧ (x5 ≤ x7 → am_x t_Mo_between (73, [.null, .null, .int (zi x2), .null, .null, .int (zi x5), .int (zi (x6 + 1)), .null], [], M) Q)))) : am_x t_Mo_between (84, [.null, .null, .int (zi x2), .null, .null, .int (zi x5), .int (zi x6), .int (zi x7)], [], M) Q := by
  obtain ⟨r1, hv⟩ := hv
  obtain ⟨r2, hv⟩ := hv
  refine am_xn 3 (c1 := (if zi x7 < zi x5 then 91 else 128, [.null, .null, .int (zi x2), .null, .null, .int (zi x5), .int (zi x6), .int (zi x7)], [], M)) rfl (am_xlt r1 r2 (fun h => ?_) (fun h => ?_))
  · replace hv := hv.1 h
    refine am_xiadd 4 x2 1500 (pc := 98) (ls := [.null, .null, .int (zi x2), .null, .null, .int (zi x5), .int (zi x6), .int (zi x7)]) (st := [.int (zi x7)]) rfl ?_
    obtain ⟨r3, hv⟩ := hv
    refine am_xn 1 (c1 := (if zi x7 < zi (x2 + 1500) then 101 else 128, [.null, .null, .int (zi x2), .null, .null, .int (zi x5), .int (zi x6), .int (zi x7)], [], M)) rfl (am_xlt r1 r3 (fun h => ?_) (fun h => ?_))
    · replace hv := hv.1 h
      refine am_xn 1 (c1 := (103, [.null, .null, .int (zi x2), .null, .null, .int (zi x5), .int (zi x6), .int (zi x7)], [.int (zi x7)], M)) rfl ?_
      obtain ⟨g, hv⟩ := hv
      by_cases c8 : isCd x7
      · replace hv := hv.1 c8
        refine am_xc t_Mo_isCode (.invokestatic 269) 269 (av := [.int (zi x7)]) (rest := []) (rv := some (.int (zi 1))) (M' := M) rfl rfl rfl rfl (Nat.le_of_ble_eq_true rfl) (fun h => nomatch h) (by have q := sp_isCode M x7 g; rwa [if_pos c8] at q) ?_
        refine am_xn 0 (c1 := (106, [.null, .null, .int (zi x2), .null, .null, .int (zi x5), .int (zi x6), .int (zi x7)], [.int (zi 1)], M)) rfl ?_
        refine am_xn 2 (c1 := (111, [.null, .null, .int (zi x2), .null, .null, .int (zi x5), .int (zi x6), .int (zi x7)], [.int (zi x7)], M)) rfl ?_
        obtain ⟨r5, M4, hc, hv⟩ := hv
        refine am_xc t_Mo_lettersIn (.invokestatic 315) 315 (av := [.int (zi x7)]) (rest := []) (rv := some (.int (zi r5))) (M' := M4) rfl rfl rfl rfl (Nat.le_of_ble_eq_true rfl) (fun h => nomatch h) (hc) ?_
        refine am_xn 0 (c1 := (114, [.null, .null, .int (zi x2), .null, .null, .int (zi x5), .int (zi x6), .int (zi x7)], [.int (zi r5)], M4)) rfl ?_
        obtain ⟨r6, hv⟩ := hv
        obtain ⟨r7, hv⟩ := hv
        refine am_xn 2 (c1 := (if zi r5 = zi x6 then 119 else 122, [.null, .null, .int (zi x2), .null, .null, .int (zi x5), .int (zi x6), .int (zi x7)], [], M4)) rfl (am_xeq r6 r7 (fun h => ?_) (fun h => ?_))
        · replace hv := hv.1 h
          refine am_xn 1 (c1 := (121, [.null, .null, .int (zi x2), .null, .null, .int (zi x5), .int (zi x6), .int (zi x7)], [.int (zi x7)], M4)) rfl ?_
          exact am_xr (some (.int (zi x7))) ⟨rfl, rfl, .int, rfl, rfl⟩ hv
        · replace hv := hv.2 h
          refine am_xn 1 (c1 := (125, [.null, .null, .int (zi x2), .null, .null, .int (zi x5), .int (zi x6), .int (zi x7 + zi 1)], [], M4)) rfl ?_
          rw [zi_add]
          refine am_xn 1 (c1 := (84, [.null, .null, .int (zi x2), .null, .null, .int (zi x5), .int (zi x6), .int (zi (x7 + 1))], [], M4)) rfl ?_
          exact hv
      · replace hv := hv.2 c8
        refine am_xc t_Mo_isCode (.invokestatic 269) 269 (av := [.int (zi x7)]) (rest := []) (rv := some (.int (zi 0))) (M' := M) rfl rfl rfl rfl (Nat.le_of_ble_eq_true rfl) (fun h => nomatch h) (by have q := sp_isCode M x7 g; rwa [if_neg c8] at q) ?_
        refine am_xn 0 (c1 := (106, [.null, .null, .int (zi x2), .null, .null, .int (zi x5), .int (zi x6), .int (zi x7)], [.int (zi 0)], M)) rfl ?_
        refine am_xn 2 (c1 := (125, [.null, .null, .int (zi x2), .null, .null, .int (zi x5), .int (zi x6), .int (zi x7 + zi 1)], [], M)) rfl ?_
        rw [zi_add]
        refine am_xn 1 (c1 := (84, [.null, .null, .int (zi x2), .null, .null, .int (zi x5), .int (zi x6), .int (zi (x7 + 1))], [], M)) rfl ?_
        exact hv
    · replace hv := hv.2 h
      refine am_xn 1 (c1 := (131, [.null, .null, .int (zi x2), .null, .null, .int (zi x5), .int (zi x6 + zi 1), .int (zi x7)], [], M)) rfl ?_
      rw [zi_add]
      refine am_xn 1 (c1 := (73, [.null, .null, .int (zi x2), .null, .null, .int (zi x5), .int (zi (x6 + 1)), .int (zi x7)], [], M)) rfl ?_
      refine am_xf 7 ?_
      exact hv
  · replace hv := hv.2 h
    refine am_xn 1 (c1 := (131, [.null, .null, .int (zi x2), .null, .null, .int (zi x5), .int (zi x6 + zi 1), .int (zi x7)], [], M)) rfl ?_
    rw [zi_add]
    refine am_xn 1 (c1 := (73, [.null, .null, .int (zi x2), .null, .null, .int (zi x5), .int (zi (x6 + 1)), .int (zi x7)], [], M)) rfl ?_
    refine am_xf 7 ?_
    exact hv
set_option maxRecDepth 100000 in
theorem vc_lettersIn (x : Int) (M : am_M) (Q : Option Value → am_M → Prop) (hv : (zr x) ∧ (((Int.tmod x 729) = 0 → Q (some (.int (zi 0))) M) ∧ (¬ (Int.tmod x 729) = 0 → ((Int.tmod x 27) = 0 → Q (some (.int (zi 1))) M) ∧ (¬ (Int.tmod x 27) = 0 → Q (some (.int (zi 2))) M)))) : am_x t_Mo_lettersIn (0, am_ent (am_mL t_Mo_lettersIn) [.int (zi x)], [], M) Q := by
  refine am_xn 0 (c1 := (0, [.int (zi x)], [], M)) rfl ?_
  obtain ⟨r1, hv⟩ := hv
  refine am_xn 2 (c1 := (4, [.int (zi x)], [.int (zi 729), .int (zi x)], M)) rfl ?_
  refine am_xtrem rfl (by decide) r1 ?_
  refine am_xn 0 (c1 := (5, [.int (zi x)], [.int (zi (Int.tmod x 729))], M)) rfl ?_
  refine am_xn 1 (c1 := (if zi (Int.tmod x 729) = zi 0 then 8 else 12, [.int (zi x)], [], M)) rfl (am_xeq (zr_trem (by decide) r1) (by decide) (fun h => ?_) (fun h => ?_))
  · replace hv := hv.1 h
    refine am_xn 2 (c1 := (24, [.int (zi x)], [.int (zi 0)], M)) rfl ?_
    exact am_xr (some (.int (zi 0))) ⟨rfl, rfl, .int, rfl, rfl⟩ hv
  · replace hv := hv.2 h
    refine am_xn 2 (c1 := (15, [.int (zi x)], [.int (zi 27), .int (zi x)], M)) rfl ?_
    refine am_xtrem rfl (by decide) r1 ?_
    refine am_xn 0 (c1 := (16, [.int (zi x)], [.int (zi (Int.tmod x 27))], M)) rfl ?_
    refine am_xn 1 (c1 := (if zi (Int.tmod x 27) = zi 0 then 19 else 23, [.int (zi x)], [], M)) rfl (am_xeq (zr_trem (by decide) r1) (by decide) (fun h => ?_) (fun h => ?_))
    · replace hv := hv.1 h
      refine am_xn 2 (c1 := (24, [.int (zi x)], [.int (zi 1)], M)) rfl ?_
      exact am_xr (some (.int (zi 1))) ⟨rfl, rfl, .int, rfl, rfl⟩ hv
    · replace hv := hv.2 h
      refine am_xn 1 (c1 := (24, [.int (zi x)], [.int (zi 2)], M)) rfl ?_
      exact am_xr (some (.int (zi 2))) ⟨rfl, rfl, .int, rfl, rfl⟩ hv
theorem sp_l15_target {L : Lw} {M : am_M} (v : VL L) (r : CLR15 L M) {c k : Int} (c0 : 0 ≤ c) (c1 : c < 40) (n : ¬ L.code c = 0) (k0 : 0 ≤ k) (k1 : k < L.len c) : am_call t_Law_target [.ref 15, .int (zi c), .int (zi k)] M (some (.int (zi (if L.tx c k < 1000 then -1 else L.tx c k - 1000)))) M := by
  have ln := v.ln c c0 c1 n
  refine am_call_of ⟨Nat.le_of_ble_eq_true rfl, rfl⟩ (vc_l15_target c k M _ ⟨⟨c0, c1, k0, by omega⟩, ?_⟩)
  rw [(r.2.1 c c0 c1 n).2.2 k k0 k1]
  exact ⟨fun q => ⟨by rw [if_pos q], rfl⟩, fun q => ⟨by rw [if_neg (by omega)], rfl⟩⟩
theorem sp_referencesFrom {L : Lw} {M : am_M} (v : VL L) (r : CLR15 L M) {c x : Int} (c0 : 0 ≤ c) (c1 : c < 40) (n : ¬ L.code c = 0) (xz : zr x) (hx : -1 ≤ x) : am_call t_SB_referencesFrom [.ref 0, .int (zi c), .int (zi x)] M (some (.int (zi (rfc L x c)))) M := by
  have ln := v.ln c c0 c1 n
  have el := (r.2.1 c c0 c1 n).1
  refine am_call_of ⟨Nat.le_of_ble_eq_true rfl, rfl⟩ (vc_referencesFrom c x M _ ?_)
  refine loop_up (fun i (s : Int) => (5, [.ref 0, .int (zi c), .int (zi x), .int (zi s), .int (zi i), .null, .null], [], M)) (L.len c) (fun i s => s = sm (fun k => bz (rp L x c k)) i) ?_ ?_ 0 0 (by omega) ln.1 rfl
  · intro s hs
    exact vc_referencesFrom_5 _ _ _ _ M _ ⟨⟨c0, c1⟩, ⟨by omega, by omega⟩, fun q => by omega, fun _ => ⟨by rw [hs]; rfl, rfl⟩⟩
  · intro i s i0 i1 hs k
    have e := sm_s (fun k => bz (rp L x c k)) i0
    have wt := v.wt c i c0 c1 n i0 i1
    have yes : rp L x c i → am_x t_SB_referencesFrom (5, [.ref 0, .int (zi c), .int (zi x), .int (zi (s + 1)), .int (zi (i + 1)), .null, .null], [], M) _ := fun q => k _ (by rw [e, bz_t q, hs])
    have no : ¬ rp L x c i → am_x t_SB_referencesFrom (5, [.ref 0, .int (zi c), .int (zi x), .int (zi s), .int (zi (i + 1)), .null, .null], [], M) _ := fun q => k _ (by rw [e, bz_f q, hs]; omega)
    refine vc_referencesFrom_5 _ _ _ _ M _ ⟨⟨c0, c1⟩, ⟨by omega, by omega⟩, fun _ => ⟨_, M, sp_l15_target v r c0 c1 n i0 i1, ?_⟩, fun q => by omega⟩
    by_cases t : L.tx c i < 1000
    · rw [if_pos t]
      have nr : ¬ rp L x c i := fun z => by have := z.1; omega
      exact ⟨by decide, fun _ => ⟨xz, fun _ => no nr, fun q => ⟨fun q2 => absurd q2.symm q, fun _ => no nr⟩⟩, fun q => absurd rfl q⟩
    · rw [if_neg t]
      have rc := r.1 (L.tx c i - 1000) (by omega) (by omega)
      rw [rc]
      exact ⟨⟨by omega, by omega⟩, fun q => by omega, fun _ => ⟨⟨by omega, by omega⟩, fun q => ⟨xz, fun q2 => yes ⟨by omega, Or.inl ⟨q2, q⟩⟩, fun q2 => ⟨fun q3 => yes ⟨by omega, Or.inr ⟨q2, q3⟩⟩, fun q3 => no (fun z => z.2.elim (fun y => q2 y.1) (fun y => q3 y.2))⟩⟩, fun q => ⟨xz, fun q2 => no (fun z => z.2.elim (fun y => q y.2) (fun y => y.1 q2)), fun q2 => ⟨fun q3 => yes ⟨by omega, Or.inr ⟨q2, q3⟩⟩, fun q3 => no (fun z => z.2.elim (fun y => q2 y.1) (fun y => q3 y.2))⟩⟩⟩⟩
theorem q_references {M : am_M} (s : CSt M) {d x : Int} (dz : zr d) (xz : zr x) : QRY t_SB_references t_Mo_references [.ref 0, .int (zi d), .int (zi x)] [.ref 58, .int (zi d), .int (zi x)] M := by
  obtain ⟨w, cb⟩ := s
  have w1 := w.n1
  have wt := w.tot
  have n0 : 0 ≤ nops (iv M 59) := w.fo_nn (n := iv M 59 0) (Int.le_refl _)
  by_cases hl : (0 ≤ d ∧ d ≤ 9999) ∧ (x = -1 ∨ (0 ≤ x ∧ x < ia (iv M 59) (nops (iv M 59))))
  · obtain ⟨hd, hx⟩ := hl
    have v := lw_VL w d (-1)
    obtain ⟨L, hL⟩ : ∃ L, L = lw (iv M 59) d (-1) := ⟨_, rfl⟩
    rw [← hL] at v
    refine qry (rfv L x) ⟨Nat.le_of_ble_eq_true rfl, rfl⟩ ⟨Nat.le_of_ble_eq_true rfl, rfl⟩ ?_ (fun M1 hs => ?_)
    · obtain ⟨M4, h4, fr, r4, od⟩ := sp_c_consolidate M w cb dz (cas := -1) (by decide)
      rw [← hL] at r4 od
      have n40 := frc40 L
      have en := od.1
      have es : rfv L x = sm (fun j => rfc L x (iv M4 25 j)) (iv M4 15 9) := by
        unfold rfv
        rw [sum_ord od (by omega) _ (fun c _ _ q => if_pos q)]
        exact sm_congr (fun j j0 j1 => if_neg (od.2.1 j j0 j1).2.2)
      have run : am_x t_SB_references (37, [.ref 0, .null, .int (zi x), .int (zi 0), .int (zi 0)], [], M4) (fun rv M1 => rv = some (.int (zi (rfv L x))) ∧ CQ M M1) := by
        refine loop_up (fun i (s : Int) => (37, [.ref 0, .null, .int (zi x), .int (zi s), .int (zi i)], [], M4)) (iv M4 15 9) (fun i s => s = sm (fun j => rfc L x (iv M4 25 j)) i) ?_ ?_ 0 0 (by omega) (by omega) rfl
        · intro s hs
          exact vc_c_references_37 _ _ _ M4 _ ⟨iv_r _ _ _, fun q => by omega, fun _ => ⟨by rw [es, hs], CQ_15 fr⟩⟩
        · intro i s i0 i1 hs k
          have oi := od.2.1 i i0 i1
          have e := sm_s (fun j => rfc L x (iv M4 25 j)) i0
          exact vc_c_references_37 _ _ _ M4 _ ⟨⟨by omega, by omega⟩, fun _ => ⟨⟨i0, by omega⟩, _, M4, sp_referencesFrom v r4 oi.1 oi.2.1 oi.2.2 xz (by omega), k _ (by rw [e, hs])⟩, fun q => by omega⟩
      refine vc_c_references d x M _ ⟨⟨dz, by decide⟩, fun _ => ⟨xz, fun _ => ⟨M4, h4, run⟩, fun q => ⟨xz, fun _ => ⟨M4, h4, run⟩, fun q2 => absurd (by rw [cb.1.2.2.1]; exact hx.resolve_left q) q2⟩⟩, fun q => absurd hd q⟩
    · have g59 : iv M1 59 = iv M 59 := iv_row (hs 59 (by decide))
      obtain ⟨M', a1, a2, a3⟩ := ms_laws hs w dz (cas := -1) (by decide)
      rw [← hL] at a3
      have es : rfv L x = sm (fun k => bz (¬ L.code (k / 6) = 0 ∧ k % 6 < L.len (k / 6) ∧ rp L x (k / 6) (k % 6))) 240 := by
        have h := sm_block (fun c j => bz (¬ L.code c = 0 ∧ j < L.len c ∧ rp L x c j)) 40
        have h2 : sm (fun k => bz (¬ L.code (k / 6) = 0 ∧ k % 6 < L.len (k / 6) ∧ rp L x (k / 6) (k % 6))) 240 = sm (fun c => sm (fun j => bz (¬ L.code c = 0 ∧ j < L.len c ∧ rp L x c j)) 6) 40 := h
        rw [h2]
        exact sm_congr (fun c c0 c1 => rfc_6 v x c0 c1)
      have run : am_x t_Mo_references (34, [.ref 58, .null, .int (zi x), .int (zi 0), .int (zi 0), .null, .null, .null], [], M') (fun rv M2 => rv = some (.int (zi (rfv L x))) ∧ MqF M1 M2) := by
        refine loop_up (fun i (s : Int) => (34, [.ref 58, .null, .int (zi x), .int (zi s), .int (zi i), .null, .null, .null], [], M')) 240 (fun i s => s = sm (fun k => bz (¬ L.code (k / 6) = 0 ∧ k % 6 < L.len (k / 6) ∧ rp L x (k / 6) (k % 6))) i) ?_ ?_ 0 0 (by omega) (by omega) rfl
        · intro s hs
          exact vc_m_references_34 _ _ _ M' _ ⟨by decide, fun q => by omega, fun _ => ⟨by rw [es, hs], MqF_lf a2⟩⟩
        · intro i s i0 i1 hs k
          have e := sm_s (fun k => bz (¬ L.code (k / 6) = 0 ∧ k % 6 < L.len (k / 6) ∧ rp L x (k / 6) (k % 6))) i0
          have yes : (¬ L.code (i / 6) = 0 ∧ i % 6 < L.len (i / 6) ∧ rp L x (i / 6) (i % 6)) → am_x t_Mo_references (34, [.ref 58, .null, .int (zi x), .int (zi (s + 1)), .int (zi (i + 1)), .null, .null, .null], [], M') (fun rv M2 => rv = some (.int (zi (rfv L x))) ∧ MqF M1 M2) := fun q => k _ (by rw [e, bz_t q, hs])
          have no : ¬ (¬ L.code (i / 6) = 0 ∧ i % 6 < L.len (i / 6) ∧ rp L x (i / 6) (i % 6)) → am_x t_Mo_references (34, [.ref 58, .null, .int (zi x), .int (zi (s + 0)), .int (zi (i + 1)), .null, .null, .null], [], M') (fun rv M2 => rv = some (.int (zi (rfv L x))) ∧ MqF M1 M2) := fun q => k _ (by rw [e, bz_f q, hs])
          have c0 : 0 ≤ i / 6 := by omega
          have c1 : i / 6 < 40 := by omega
          have ef := a3.1 (i / 6) c0 c1
          refine vc_m_references_34 _ _ _ M' _ ⟨⟨by omega, by omega⟩, fun _ => ⟨i0, ⟨c0, c1⟩, ?_⟩, fun q => by omega⟩
          rw [ef]
          by_cases n : L.code (i / 6) = 0
          · rw [if_pos n]
            exact ⟨fun q => by omega, fun _ => no (fun z => z.1 n)⟩
          · rw [if_neg n]
            obtain ⟨f1, f2, f3, f4⟩ := a3.2.1 (i / 6) c0 c1 n
            refine ⟨fun _ => ⟨i0, ⟨c0, c1⟩, ?_⟩, fun q => absurd rfl q⟩
            rw [f2]
            refine ⟨fun q => ⟨⟨i0, i1⟩, ?_⟩, fun q => no (fun z => by have := z.2.1; omega)⟩
            have ft := f4 (i % 6) (by omega) q
            rw [show 6 * (i / 6) + i % 6 = i by omega] at ft
            have wt := v.wt (i / 6) (i % 6) c0 c1 n (by omega) q
            rw [ft]
            refine ⟨fun q2 => no (fun z => by have := z.2.2.1; omega), fun q2 => ⟨⟨i0, i1⟩, xz, fun q3 => ⟨⟨by omega, by omega⟩, ?_⟩, fun q3 => ⟨⟨by omega, by omega⟩, fun q4 => yes ⟨n, q, q2, Or.inr ⟨q3, q4⟩⟩, fun q4 => no (fun z => z.2.2.2.elim (fun y => q3 y.1) (fun y => q4 y.2))⟩⟩⟩
            have eg := a3.1 (L.tx (i / 6) (i % 6) - 1000) (by omega) (by omega)
            rw [eg]
            by_cases m : L.code (L.tx (i / 6) (i % 6) - 1000) = 0
            · rw [if_pos m]
              exact ⟨fun _ => yes ⟨n, q, q2, Or.inl ⟨q3, m⟩⟩, fun z => absurd rfl z⟩
            · rw [if_neg m]
              exact ⟨fun z => by omega, fun _ => no (fun z => z.2.2.2.elim (fun y => m y.2) (fun y => y.1 q3))⟩
      exact vc_m_references d x M1 _ ⟨dz, fun _ => ⟨xz, fun _ => ⟨M', a1, run⟩, fun q => ⟨⟨xz, by rw [g59]; exact w1, by rw [g59]; exact n0, by rw [g59]; exact wt⟩, fun _ => ⟨M', a1, run⟩, fun q2 => absurd (by rw [g59]; exact hx.resolve_left q) q2⟩⟩, fun q => absurd hd q⟩
  · refine qry (-2) ⟨Nat.le_of_ble_eq_true rfl, rfl⟩ ⟨Nat.le_of_ble_eq_true rfl, rfl⟩ (vc_c_references d x M _ ⟨⟨dz, by decide⟩, fun q => ⟨xz, fun q2 => absurd ⟨q, Or.inl q2⟩ hl, fun q2 => ⟨xz, fun q3 => absurd ⟨q, Or.inr (by rw [cb.1.2.2.1] at q3; exact q3)⟩ hl, fun _ => ⟨rfl, CQ_refl M⟩⟩⟩, fun _ => ⟨rfl, CQ_refl M⟩⟩) (fun M1 hs => ?_)
    have g59 : iv M1 59 = iv M 59 := iv_row (hs 59 (by decide))
    exact vc_m_references d x M1 _ ⟨dz, fun q => ⟨xz, fun q2 => absurd ⟨q, Or.inl q2⟩ hl, fun q2 => ⟨⟨xz, by rw [g59]; exact w1, by rw [g59]; exact n0, by rw [g59]; exact wt⟩, fun q3 => absurd ⟨q, Or.inr (by rw [g59] at q3; exact q3)⟩ hl, fun _ => ⟨rfl, MqF_refl M1⟩⟩⟩, fun _ => ⟨rfl, MqF_refl M1⟩⟩
/-- the number that is proposed -/
def nbt (x e : Int) : Int := if (x / 729 + 1) * 729 < e then (x / 729 + 1) * 729 else if x % 729 / 27 < 26 ∧ x - x % 27 + 27 < e then x - x % 27 + 27 else if 0 < x % 729 / 27 ∧ x % 27 < 26 ∧ x + 1 < e then x + 1 else -1
theorem sp_numberBetween (M : am_M) {x e : Int} (x0 : 729 ≤ x) (x1 : x < 729000) (ez : zr e) : am_call t_SB_numberBetween [.int (zi x), .int (zi e)] M (some (.int (zi (nbt x e)))) M := by
  have y : ∀ n, nbt x e = n → (some (Value.int (zi n)) = some (.int (zi (nbt x e))) ∧ M = M) := fun n h => ⟨by rw [h], rfl⟩
  refine am_call_of ⟨Nat.le_of_ble_eq_true rfl, rfl⟩ (vc_numberBetween x e M _ ⟨⟨by omega, by omega⟩, by omega, by omega, by omega, by omega, ⟨by omega, by omega⟩, ez, fun q => y _ (if_pos q), fun q => ⟨fun q2 => ⟨⟨by omega, by omega⟩, fun q3 => y _ ?_, fun q3 => ⟨fun q4 => ⟨fun q5 => ⟨⟨by omega, by omega⟩, fun q6 => y _ ?_, fun q6 => y _ ?_⟩, fun q5 => y _ ?_⟩, fun q4 => y _ ?_⟩⟩, fun q2 => ⟨fun q5 => ⟨⟨by omega, by omega⟩, fun q6 => y _ ?_, fun q6 => y _ ?_⟩, fun q5 => y _ ?_⟩⟩⟩)
  · unfold nbt; rw [if_neg (by omega), if_pos ⟨q2, q3⟩]
  · unfold nbt; rw [if_neg (by omega), if_neg (by omega), if_pos ⟨q4, q5, q6⟩]
  · unfold nbt; rw [if_neg (by omega), if_neg (by omega), if_neg (by omega)]
  · unfold nbt; rw [if_neg (by omega), if_neg (by omega), if_neg (by omega)]
  · unfold nbt; rw [if_neg (by omega), if_neg (by omega), if_neg (by omega)]
  · unfold nbt; rw [if_neg (by omega), if_neg (by omega), if_pos ⟨by omega, q5, q6⟩]
  · unfold nbt; rw [if_neg (by omega), if_neg (by omega), if_neg (by omega)]
  · unfold nbt; rw [if_neg (by omega), if_neg (by omega), if_neg (by omega)]
def ltr (v : Int) : Int := if v % 729 = 0 then 0 else if v % 27 = 0 then 1 else 2
theorem sp_lettersIn (M : am_M) {v : Int} (v0 : 0 ≤ v) (vz : zr v) : am_call t_Mo_lettersIn [.int (zi v)] M (some (.int (zi (ltr v)))) M := by
  refine am_call_of ⟨Nat.le_of_ble_eq_true rfl, rfl⟩ (vc_lettersIn v M _ ?_)
  rw [Int.tmod_eq_emod_of_nonneg v0, Int.tmod_eq_emod_of_nonneg v0]
  exact ⟨vz, fun q => ⟨by rw [ltr, if_pos q], rfl⟩, fun q => ⟨fun q2 => ⟨by rw [ltr, if_neg q, if_pos q2], rfl⟩, fun q2 => ⟨by rw [ltr, if_neg q, if_neg q2], rfl⟩⟩⟩
theorem btw_loop (M : am_M) {x e : Int} (hx : isCd x) (he : x < e) (e1 : e ≤ 729000) (Q : Option Value → am_M → Prop) (h : Q (some (.int (zi (nbt x e)))) M) : am_x t_Mo_between (73, [.null, .null, .int (zi x), .null, .null, .int (zi e), .int (zi 0), .null], [], M) Q := by
  have lz : ∀ v, zr (ltr v) := fun v => by unfold ltr; repeat' split
                                           all_goals decide
  have find : ∀ l T, zr l → x < T → T < e → T < x + 1500 → isCd T → ltr T = l → (∀ i, x < i → i < T → isCd i → ¬ ltr i = l) → Q (some (.int (zi T))) M → am_x t_Mo_between (84, [.null, .null, .int (zi x), .null, .null, .int (zi e), .int (zi l), .int (zi (x + 1))], [], M) Q := by
    intro l T lzz t0 t1 t2 t3 t4 t5 hq
    refine loop_up (fun i (s : Int) => (84, [.null, .null, .int (zi x), .null, .null, .int (zi e), .int (zi l), .int (zi i)], [], M)) T (fun i s => x < i) ?_ ?_ (x + 1) 0 (by omega) (by omega) (by omega)
    · intro s _
      exact vc_m_between_84 _ _ _ _ M _ ⟨⟨by omega, by omega⟩, ⟨by omega, by omega⟩, fun _ => ⟨⟨by omega, by omega⟩, fun _ => ⟨⟨by omega, by omega⟩, fun _ => ⟨_, M, sp_lettersIn M (by omega) ⟨by omega, by omega⟩, lz _, lzz, fun _ => hq, fun q => absurd t4 q⟩, fun q => absurd t3 q⟩, fun q => by omega⟩, fun q => by omega⟩
    · intro i s i0 i1 hi k
      exact vc_m_between_84 _ _ _ _ M _ ⟨⟨by omega, by omega⟩, ⟨by omega, by omega⟩, fun _ => ⟨⟨by omega, by omega⟩, fun _ => ⟨⟨by omega, by omega⟩, fun q => ⟨_, M, sp_lettersIn M (by omega) ⟨by omega, by omega⟩, lz _, lzz, fun q2 => absurd q2 (t5 i hi i1 q), fun _ => k 0 (by omega)⟩, fun q => k 0 (by omega)⟩, fun q => by omega⟩, fun q => by omega⟩
  have none : ∀ l, zr l → (∀ i, x < i → i < e → i < x + 1500 → isCd i → ¬ ltr i = l) → am_x t_Mo_between (73, [.null, .null, .int (zi x), .null, .null, .int (zi e), .int (zi (l + 1)), .null], [], M) Q → am_x t_Mo_between (84, [.null, .null, .int (zi x), .null, .null, .int (zi e), .int (zi l), .int (zi (x + 1))], [], M) Q := by
    intro l lzz hn hk
    refine loop_up (fun i (s : Int) => (84, [.null, .null, .int (zi x), .null, .null, .int (zi e), .int (zi l), .int (zi i)], [], M)) (min e (x + 1500)) (fun i s => x < i) ?_ ?_ (x + 1) 0 (by omega) (by omega) (by omega)
    · intro s _
      exact vc_m_between_84 _ _ _ _ M _ ⟨⟨by omega, by omega⟩, ⟨by omega, by omega⟩, fun _ => ⟨⟨by omega, by omega⟩, fun q => by omega, fun _ => hk⟩, fun _ => hk⟩
    · intro i s i0 i1 hi k
      exact vc_m_between_84 _ _ _ _ M _ ⟨⟨by omega, by omega⟩, ⟨by omega, by omega⟩, fun _ => ⟨⟨by omega, by omega⟩, fun _ => ⟨⟨by omega, by omega⟩, fun q => ⟨_, M, sp_lettersIn M (by omega) ⟨by omega, by omega⟩, lz _, lzz, fun q2 => absurd q2 (hn i hi (by omega) (by omega) q), fun _ => k 0 (by omega)⟩, fun q => k 0 (by omega)⟩, fun q => by omega⟩, fun q => by omega⟩
  have go : ∀ l, zr l → l < 3 → am_x t_Mo_between (84, [.null, .null, .int (zi x), .null, .null, .int (zi e), .int (zi l), .int (zi (x + 1))], [], M) Q → am_x t_Mo_between (73, [.null, .null, .int (zi x), .null, .null, .int (zi e), .int (zi l), .null], [], M) Q := fun l lzz l3 k => vc_m_between_73 _ _ _ M _ ⟨lzz, fun _ => k, fun q => by omega⟩
  have l0 : ∀ i, ltr i = 0 ↔ i % 729 = 0 := fun i => by unfold ltr; repeat' split
                                                        all_goals omega
  have l1 : ∀ i, ltr i = 1 ↔ (¬ i % 729 = 0 ∧ i % 27 = 0) := fun i => by unfold ltr; repeat' split
                                                                         all_goals omega
  have l2 : ∀ i, ltr i = 2 ↔ (¬ i % 729 = 0 ∧ ¬ i % 27 = 0) := fun i => by unfold ltr; repeat' split
                                                                           all_goals omega
  refine go 0 (by decide) (by decide) ?_
  by_cases a0 : (x / 729 + 1) * 729 < e
  · have en : nbt x e = (x / 729 + 1) * 729 := if_pos a0
    rw [en] at h
    exact find 0 _ (by decide) (by omega) a0 (by omega) (by omega) ((l0 _).mpr (by omega)) (fun i h1 h2 _ z => by have := (l0 i).mp z; omega) h
  refine none 0 (by decide) (fun i h1 h2 _ _ z => by have := (l0 i).mp z; omega) (go 1 (by decide) (by decide) ?_)
  by_cases a1 : x % 729 / 27 < 26 ∧ x - x % 27 + 27 < e
  · have en : nbt x e = x - x % 27 + 27 := by unfold nbt; rw [if_neg a0, if_pos a1]
    rw [en] at h
    exact find 1 _ (by decide) (by omega) a1.2 (by omega) (by omega) ((l1 _).mpr (by omega)) (fun i h1 h2 _ z => by have := (l1 i).mp z; omega) h
  refine none 1 (by decide) (fun i h1 h2 _ _ z => by have := (l1 i).mp z; omega) (go 2 (by decide) (by decide) ?_)
  by_cases a2 : 0 < x % 729 / 27 ∧ x % 27 < 26 ∧ x + 1 < e
  · have en : nbt x e = x + 1 := by unfold nbt; rw [if_neg a0, if_neg a1, if_pos a2]
    rw [en] at h
    exact find 2 _ (by decide) (by omega) a2.2.2 (by omega) (by omega) ((l2 _).mpr (by omega)) (fun i h1 h2 _ z => by omega) h
  have en : nbt x e = -1 := by unfold nbt; rw [if_neg a0, if_neg a1, if_neg a2]
  rw [en] at h
  exact none 2 (by decide) (fun i h1 h2 _ hc z => by have := (l2 i).mp z; omega) (vc_m_between_73 _ _ _ M _ ⟨by decide, fun q => by omega, fun _ => h⟩)
theorem q_between {M : am_M} (s : CSt M) {d x : Int} (dz : zr d) (xz : zr x) : QRY t_SB_between t_Mo_between [.ref 0, .int (zi d), .int (zi x)] [.ref 58, .int (zi d), .int (zi x)] M := by
  obtain ⟨w, cb⟩ := s
  by_cases hl : (0 ≤ d ∧ d ≤ 9999) ∧ isCd x
  · obtain ⟨hd, hx⟩ := hl
    have x0 : ¬ x = 0 := by omega
    have v := lw_VL w d (-1)
    obtain ⟨L, hL⟩ : ∃ L, L = lw (iv M 59) d (-1) := ⟨_, rfl⟩
    rw [← hL] at v
    obtain ⟨M4, h4, fr, r4, od⟩ := sp_c_consolidate M w cb dz (cas := -1) (by decide)
    rw [← hL] at r4 od
    have n40 := frc40 L
    have en := od.1
    have io := sp_l15_indexOf v r4 od x0 xz
    by_cases hh : hold L x = -1
    · rw [if_pos hh] at io
      refine qry (-3) ⟨Nat.le_of_ble_eq_true rfl, rfl⟩ ⟨Nat.le_of_ble_eq_true rfl, rfl⟩ (vc_c_between d x M _ ⟨⟨dz, by decide⟩, fun _ => ⟨xz, fun _ => ⟨M4, h4, _, M4, io, by decide, fun _ => ⟨rfl, CQ_15 fr⟩, fun q => absurd rfl q⟩, fun q => absurd hx q⟩, fun q => absurd hd q⟩) (fun M1 hs => ?_)
      obtain ⟨M', a1, a2, a3⟩ := ms_laws hs w dz (cas := -1) (by decide)
      rw [← hL] at a3
      refine vc_m_between d x M1 _ ⟨dz, fun _ => ⟨xz, fun _ => ⟨M', a1, xz, ?_⟩, fun q => absurd hx q⟩, fun q => absurd hd q⟩
      rw [mwc_hold v a3 x0]
      exact ⟨fun _ => ⟨rfl, MqF_lf a2⟩, fun q => absurd hh q⟩
    · rw [if_neg hh] at io
      have hc := hold_cd hh
      have nz : ¬ L.code (hold L x) = 0 := by rw [hc.2.2]; exact x0
      obtain ⟨j, j0, j1, j2⟩ := od.2.2.2 _ hc.1 hc.2.1 nz
      have er : rank L (hold L x) = j := by rw [← j2]; exact rank_ord od j0 j1
      rw [er] at io
      have ea1 : j + 1 < iv M4 15 9 → atx L (j + 1) = iv M4 25 (j + 1) := fun q => (atx_ord v od (j + 1)).trans (if_pos ⟨by omega, q⟩)
      have ea0 : ¬ j + 1 < iv M4 15 9 → atx L (j + 1) = -1 := fun q => (atx_ord v od (j + 1)).trans (if_neg (fun z => q z.2))
      have gt : j + 1 < iv M4 15 9 → x < L.code (iv M4 25 (j + 1)) := fun q => by
        have := od.2.2.1 j (j + 1) j0 (by omega) q
        rw [j2, hc.2.2] at this
        exact this
      refine qry (nbt x (if atx L (j + 1) = -1 then 729000 else L.code (atx L (j + 1)))) ⟨Nat.le_of_ble_eq_true rfl, rfl⟩ ⟨Nat.le_of_ble_eq_true rfl, rfl⟩ (vc_c_between d x M _ ⟨⟨dz, by decide⟩, fun _ => ⟨xz, fun _ => ⟨M4, h4, j, M4, io, ⟨by omega, by omega⟩, fun q => by omega, fun _ => ⟨⟨by omega, by omega⟩, fun q => ⟨_, M4, sp_numberBetween M4 (by omega) (by omega) (by decide), ?_, CQ_15 fr⟩, fun q => ?_⟩⟩, fun q => absurd hx q⟩, fun q => absurd hd q⟩) (fun M1 hs => ?_)
      · rw [ea0 (by omega), if_pos rfl]
      · have oj := od.2.1 (j + 1) (by omega) (by omega)
        refine ⟨⟨by omega, by omega⟩, ⟨oj.1, oj.2.1⟩, ?_⟩
        rw [r4.1 _ oj.1 oj.2.1]
        have rg := v.rg _ oj.1 oj.2.1
        refine ⟨_, M4, sp_numberBetween M4 (by omega) (by omega) ⟨by omega, by omega⟩, ?_, CQ_15 fr⟩
        rw [ea1 (by omega), if_neg (by omega)]
      · obtain ⟨M', a1, a2, a3⟩ := ms_laws hs w dz (cas := -1) (by decide)
        rw [← hL] at a3
        have ai := sp_indexOf a3 hc.1 hc.2.1 nz
        rw [er] at ai
        have ar := atx_rg L (j + 1)
        refine vc_m_between d x M1 _ ⟨dz, fun _ => ⟨xz, fun _ => ⟨M', a1, xz, ?_⟩, fun q => absurd hx q⟩, fun q => absurd hd q⟩
        rw [mwc_hold v a3 x0]
        refine ⟨fun q => absurd q hh, fun _ => ⟨_, M', ai, _, M', sp_atIndex v a3 ⟨by omega, by omega⟩, ⟨by omega, by omega⟩, fun q => btw_loop M' hx (by omega) (by omega) _ ⟨by rw [if_pos q], MqF_lf a2⟩, fun q => ?_⟩⟩
        have lt : j + 1 < iv M4 15 9 := by
          by_cases z : j + 1 < iv M4 15 9
          · exact z
          · exact absurd (ea0 z) q
        have oj := od.2.1 (j + 1) (by omega) lt
        have rg := v.rg _ oj.1 oj.2.1
        have g := gt lt
        have eat := ea1 lt
        rw [eat]
        refine ⟨⟨oj.1, oj.2.1⟩, ?_⟩
        rw [(a3.2.1 _ oj.1 oj.2.1 oj.2.2).1]
        exact btw_loop M' hx g (by omega) _ ⟨by rw [if_neg (by omega)], MqF_lf a2⟩
  · exact qry (-2) ⟨Nat.le_of_ble_eq_true rfl, rfl⟩ ⟨Nat.le_of_ble_eq_true rfl, rfl⟩ (vc_c_between d x M _ ⟨⟨dz, by decide⟩, fun q => ⟨xz, fun q2 => absurd ⟨q, q2⟩ hl, fun _ => ⟨rfl, CQ_refl M⟩⟩, fun _ => ⟨rfl, CQ_refl M⟩⟩) (fun M1 hs => vc_m_between d x M1 _ ⟨dz, fun q => ⟨xz, fun q2 => absurd ⟨q, q2⟩ hl, fun _ => ⟨rfl, MqF_refl M1⟩⟩, fun _ => ⟨rfl, MqF_refl M1⟩⟩)
