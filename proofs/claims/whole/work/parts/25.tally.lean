/-! tallies and conflicts -/
theorem amo_mono {b : Int → Int} {o p : Int} (h : o ≤ p) : amo b o ≤ amo b p := sm_le _ _ _ (fun i _ _ => by
  show (if fo b (i + 1) ≤ o then (1 : Int) else 0) ≤ if fo b (i + 1) ≤ p then 1 else 0
  split
  · rw [if_pos (by omega)]; omega
  · split <;> omega)
def cfl (b : Int → Int) (o p : Int) : Prop := amo b o < amo b p ∧ b (1 + amo b o) = b (1 + amo b p) ∧ stt b o = 0 ∧ stt b p = 0 ∧ (lw b 9999 (-1)).af o = (lw b 9999 (-1)).af p
noncomputable def cfg (b : Int → Int) (n x : Int) : Int := bz (cfl b (x / n) (x % n))
theorem cfg_01 (b : Int → Int) (n x : Int) : cfg b n x = 0 ∨ cfg b n x = 1 := bz_01 _
theorem pair_dm {n o l : Int} (l0 : 0 ≤ l) (l1 : l < n) : (o * n + l) / n = o ∧ (o * n + l) % n = l := by
  have h := (Int.ediv_emod_unique (a := o * n + l) (r := l) (q := o) (b := n) (by omega)).mpr ⟨by rw [Int.mul_comm]; omega, l0, l1⟩
  exact h
theorem cfg_pair (b : Int → Int) {n o l : Int} (l0 : 0 ≤ l) (l1 : l < n) : cfg b n (o * n + l) = bz (cfl b o l) := by
  have h := pair_dm (o := o) l0 l1
  unfold cfg
  rw [h.1, h.2]
theorem cfl_no {b : Int → Int} {o l : Int} (h : l ≤ o) : ¬ cfl b o l := fun q => by have := amo_mono (b := b) h; have := q.1; omega
noncomputable def scn (b : Int → Int) (n : Int) : Nat → Int → Int → Int
  | 0, _, _ => -1
  | f + 1, p, k => if cfg b n p = 0 then scn b n f (p + 1) k else if k = 0 then p else scn b n f (p + 1) (k - 1)
noncomputable def scp (b : Int → Int) (n p k : Int) : Int := scn b n (n * n - p).toNat p k
theorem scp_e (b : Int → Int) {n p k : Int} (h : n * n ≤ p) : scp b n p k = -1 := by
  unfold scp
  rw [show (n * n - p).toNat = 0 by omega]
  rfl
theorem scp_s (b : Int → Int) {n p k : Int} (h : p < n * n) : scp b n p k = if cfg b n p = 0 then scp b n (p + 1) k else if k = 0 then p else scp b n (p + 1) (k - 1) := by
  unfold scp
  rw [show (n * n - p).toNat = (n * n - (p + 1)).toNat + 1 by omega]
  rfl
theorem scp_skip (b : Int → Int) {n k : Int} : ∀ (j : Nat) (p : Int), p + j ≤ n * n → (∀ q, p ≤ q → q < p + j → cfg b n q = 0) → scp b n p k = scp b n (p + j) k := by
  intro j
  induction j with
  | zero => intro p _ _; rw [show p + ((0 : Nat) : Int) = p by omega]
  | succ j ih =>
    intro p h hq
    rw [scp_s b (by omega), if_pos (hq p (by omega) (by omega)), ih (p + 1) (by omega) (fun q q0 q1 => hq q (by omega) (by omega))]
    rw [show p + 1 + (j : Int) = p + ((j + 1 : Nat) : Int) by omega]
theorem scp_rg (b : Int → Int) (n : Int) : ∀ (f : Nat) (p k : Int), 0 ≤ p → scn b n f p k = -1 ∨ (p ≤ scn b n f p k ∧ scn b n f p k < p + f) := by
  intro f
  induction f with
  | zero => intro p k _; exact Or.inl rfl
  | succ f ih =>
    intro p k hp
    unfold scn
    split
    · rcases ih (p + 1) k (by omega) with h | h
      · exact Or.inl h
      · exact Or.inr ⟨by omega, by omega⟩
    · split
      · exact Or.inr ⟨by omega, by omega⟩
      · rcases ih (p + 1) (k - 1) (by omega) with h | h
        · exact Or.inl h
        · exact Or.inr ⟨by omega, by omega⟩
theorem sm_skip (g : Int → Int) : ∀ (j : Nat) (p : Int), 0 ≤ p → (∀ q, p ≤ q → q < p + j → g q = 0) → sm g (p + j) = sm g p := by
  intro j
  induction j with
  | zero => intro p _ _; rw [show p + ((0 : Nat) : Int) = p by omega]
  | succ j ih =>
    intro p hp hq
    rw [show p + ((j + 1 : Nat) : Int) = (p + j) + 1 by omega, sm_s g (by omega), ih p hp (fun q q0 q1 => hq q q0 (by omega)), hq (p + j) (by omega) (by omega)]
    omega
theorem sq_rg {n : Int} (h0 : 0 ≤ n) (h1 : n ≤ 120) : 0 ≤ n * n ∧ n * n ≤ 14400 := by
  have a := Int.mul_le_mul h1 h1 h0 (by omega : (0 : Int) ≤ 120)
  have b := Int.mul_nonneg h0 h0
  omega
theorem row_rg {n o l : Int} (o0 : 0 ≤ o) (o1 : o < n) (l0 : 0 ≤ l) (l1 : l ≤ n) : 0 ≤ o * n + l ∧ o * n + l ≤ n * n ∧ (l < n → o * n + l < n * n) := by
  have a : (o + 1) * n ≤ n * n := Int.mul_le_mul_of_nonneg_right (by omega) (by omega)
  have b : 0 ≤ o * n := Int.mul_nonneg o0 (by omega)
  rw [Int.add_mul, Int.one_mul] at a
  exact ⟨by omega, by omega, fun _ => by omega⟩
noncomputable def tlv (b : Int → Int) (x : Int) : Int := if x = 6 then sm (cfg b (nops b)) (nops b * nops b) else sm (fun o => if stt b o = x then 1 else 0) (nops b)
set_option maxRecDepth 100000 in
theorem vc_c_amendmentOf (o : Int) (M : am_M) (Q : Option Value → am_M → Prop) (hv : am_x t_Amd_amendmentOf (2, [.ref 9, .int (zi o), .int (zi 0)], [], M) Q) : am_x t_Amd_amendmentOf (0, am_ent (am_mL t_Amd_amendmentOf) [.ref 9, .int (zi o)], [], M) Q := by
  refine am_xn 0 (c1 := (0, [.ref 9, .int (zi o), .null], [], M)) rfl ?_
  refine am_xn 2 (c1 := (2, [.ref 9, .int (zi o), .int (zi 0)], [], M)) rfl ?_
  exact hv
set_option maxRecDepth 100000 in
theorem vc_c_amendmentOf_2 (x1 : Int) (x2 : Int) (M : am_M) (Q : Option Value → am_M → Prop) (hv : (zr x2) ∧ ((x2 < (iv M 11 0) → (0 ≤ (x2 + 1) ∧ (x2 + 1) ≤ 20) ∧ ((zr x1) ∧ ((x1 < (iv M 11 (24 + (x2 + 1))) → Q (some (.int (zi x2))) M) ∧ ((iv M 11 (24 + (x2 + 1))) ≤ x1 → am_x t_Amd_amendmentOf (2, [.ref 9, .int (zi x1), .int (zi (x2 + 1))], [], M) Q)))) ∧ ((iv M 11 0) ≤ x2 → Q (some (.int (zi x2))) M))) : am_x t_Amd_amendmentOf (2, [.ref 9, .int (zi x1), .int (zi x2)], [], M) Q := by
  refine am_xn 2 (c1 := (4, [.ref 9, .int (zi x1), .int (zi x2)], [.ref 9, .int (zi x2)], M)) rfl ?_
  refine am_xc t_Amd_size (.invokevirtual 31) 31 (av := [.ref 9]) (rest := [.int (zi x2)]) (rv := some (.int (zi (iv M 11 0)))) (M' := M) rfl rfl rfl rfl (Nat.le_of_ble_eq_true rfl) (fun _ => rfl) (sp_c_size M) ?_
  refine am_xn 0 (c1 := (7, [.ref 9, .int (zi x1), .int (zi x2)], [.int (zi (iv M 11 0)), .int (zi x2)], M)) rfl ?_
  obtain ⟨r1, hv⟩ := hv
  refine am_xn 1 (c1 := (if zi x2 < zi (iv M 11 0) then 10 else 27, [.ref 9, .int (zi x1), .int (zi x2)], [], M)) rfl (am_xlt r1 (iv_r _ _ _) (fun h => ?_) (fun h => ?_))
  · replace hv := hv.1 h
    refine am_xiadd 4 x2 1 (pc := 14) (ls := [.ref 9, .int (zi x1), .int (zi x2)]) (st := [.ref 9]) rfl ?_
    obtain ⟨g, hv⟩ := hv
    refine am_xc t_Amd_start (.invokevirtual 28) 28 (av := [.ref 9, .int (zi (x2 + 1))]) (rest := []) (rv := some (.int (zi (iv M 11 (24 + (x2 + 1)))))) (M' := M) rfl rfl rfl rfl (Nat.le_of_ble_eq_true rfl) (fun _ => rfl) (sp_c_start M (x2 + 1) g) ?_
    refine am_xn 0 (c1 := (17, [.ref 9, .int (zi x1), .int (zi x2)], [.int (zi (iv M 11 (24 + (x2 + 1))))], M)) rfl ?_
    obtain ⟨r2, hv⟩ := hv
    refine am_xn 2 (c1 := (if zi x1 < zi (iv M 11 (24 + (x2 + 1))) then 27 else 21, [.ref 9, .int (zi x1), .int (zi x2)], [], M)) rfl (am_xlt r2 (iv_r _ _ _) (fun h => ?_) (fun h => ?_))
    · replace hv := hv.1 h
      refine am_xn 1 (c1 := (28, [.ref 9, .int (zi x1), .int (zi x2)], [.int (zi x2)], M)) rfl ?_
      exact am_xr (some (.int (zi x2))) ⟨rfl, rfl, .int, rfl, rfl⟩ hv
    · replace hv := hv.2 h
      refine am_xn 1 (c1 := (24, [.ref 9, .int (zi x1), .int (zi x2 + zi 1)], [], M)) rfl ?_
      rw [zi_add]
      refine am_xn 1 (c1 := (2, [.ref 9, .int (zi x1), .int (zi (x2 + 1))], [], M)) rfl ?_
      exact hv
  · replace hv := hv.2 h
    refine am_xn 1 (c1 := (28, [.ref 9, .int (zi x1), .int (zi x2)], [.int (zi x2)], M)) rfl ?_
    exact am_xr (some (.int (zi x2))) ⟨rfl, rfl, .int, rfl, rfl⟩ hv
set_option maxRecDepth 100000 in
theorem vc_clash (o : Int) (p : Int) (M : am_M) (Q : Option Value → am_M → Prop) (hv : (0 ≤ o ∧ o < 120) ∧ (((iv M 29 o) = (-1) → Q (some (.int (zi 0))) M) ∧ (¬ (iv M 29 o) = (-1) → (0 ≤ p ∧ p < 120) ∧ (((iv M 29 o) = (iv M 29 p) → ∃ (r2 : Int) (M1 : am_M), am_call t_Amd_amendmentOf [.ref 9, .int (zi o)] M (some (.int (zi r2))) M1 ∧ (∃ (r4 : Int) (M3 : am_M), am_call t_Amd_amendmentOf [.ref 9, .int (zi p)] M1 (some (.int (zi r4))) M3 ∧ ((zr r2) ∧ ((zr r4) ∧ ((r2 = r4 → Q (some (.int (zi 0))) M3) ∧ (¬ r2 = r4 → (0 ≤ r2 ∧ r2 ≤ 20) ∧ ((0 ≤ r4 ∧ r4 ≤ 20) ∧ (((iv M3 11 (4 + r2)) = (iv M3 11 (4 + r4)) → Q (some (.int (zi 1))) M3) ∧ (¬ (iv M3 11 (4 + r2)) = (iv M3 11 (4 + r4)) → Q (some (.int (zi 0))) M3))))))))) ∧ (¬ (iv M 29 o) = (iv M 29 p) → Q (some (.int (zi 0))) M))))) : am_x t_SB_clash (0, am_ent (am_mL t_SB_clash) [.ref 0, .int (zi o), .int (zi p)], [], M) Q := by
  refine am_xn 0 (c1 := (0, [.ref 0, .int (zi o), .int (zi p), .null, .null, .null], [], M)) rfl ?_
  refine am_xn 3 (c1 := (5, [.ref 0, .int (zi o), .int (zi p), .null, .null, .null], [.int (zi o), .ref 15], M)) rfl ?_
  obtain ⟨g, hv⟩ := hv
  refine am_xc t_Law_affected (.invokevirtual 153) 153 (av := [.ref 15, .int (zi o)]) (rest := []) (rv := some (.int (zi (iv M 29 o)))) (M' := M) rfl rfl rfl rfl (Nat.le_of_ble_eq_true rfl) (fun _ => rfl) (sp_l15_affected M o g) ?_
  refine am_xn 0 (c1 := (8, [.ref 0, .int (zi o), .int (zi p), .null, .null, .null], [.int (zi (iv M 29 o))], M)) rfl ?_
  refine am_xn 4 (c1 := (if zi (iv M 29 o) = zi (-1) then 26 else 14, [.ref 0, .int (zi o), .int (zi p), .int (zi (iv M 29 o)), .null, .null], [], M)) rfl (am_xeq (iv_r _ _ _) (by decide) (fun h => ?_) (fun h => ?_))
  · replace hv := hv.1 h
    refine am_xn 1 (c1 := (27, [.ref 0, .int (zi o), .int (zi p), .int (zi (iv M 29 o)), .null, .null], [.int (zi 0)], M)) rfl ?_
    exact am_xr (some (.int (zi 0))) ⟨rfl, rfl, .boolean, rfl, rfl⟩ hv
  · replace hv := hv.2 h
    refine am_xn 4 (c1 := (20, [.ref 0, .int (zi o), .int (zi p), .int (zi (iv M 29 o)), .null, .null], [.int (zi p), .ref 15, .int (zi (iv M 29 o))], M)) rfl ?_
    obtain ⟨g, hv⟩ := hv
    refine am_xc t_Law_affected (.invokevirtual 153) 153 (av := [.ref 15, .int (zi p)]) (rest := [.int (zi (iv M 29 o))]) (rv := some (.int (zi (iv M 29 p)))) (M' := M) rfl rfl rfl rfl (Nat.le_of_ble_eq_true rfl) (fun _ => rfl) (sp_l15_affected M p g) ?_
    refine am_xn 0 (c1 := (23, [.ref 0, .int (zi o), .int (zi p), .int (zi (iv M 29 o)), .null, .null], [.int (zi (iv M 29 p)), .int (zi (iv M 29 o))], M)) rfl ?_
    refine am_xn 1 (c1 := (if zi (iv M 29 o) = zi (iv M 29 p) then 28 else 26, [.ref 0, .int (zi o), .int (zi p), .int (zi (iv M 29 o)), .null, .null], [], M)) rfl (am_xeq (iv_r _ _ _) (iv_r _ _ _) (fun h => ?_) (fun h => ?_))
    · replace hv := hv.1 h
      refine am_xn 3 (c1 := (33, [.ref 0, .int (zi o), .int (zi p), .int (zi (iv M 29 o)), .null, .null], [.int (zi o), .ref 9], M)) rfl ?_
      obtain ⟨r2, M1, hc, hv⟩ := hv
      refine am_xc t_Amd_amendmentOf (.invokevirtual 214) 214 (av := [.ref 9, .int (zi o)]) (rest := []) (rv := some (.int (zi r2))) (M' := M1) rfl rfl rfl rfl (Nat.le_of_ble_eq_true rfl) (fun _ => rfl) (hc) ?_
      refine am_xn 0 (c1 := (36, [.ref 0, .int (zi o), .int (zi p), .int (zi (iv M 29 o)), .null, .null], [.int (zi r2)], M1)) rfl ?_
      refine am_xn 4 (c1 := (43, [.ref 0, .int (zi o), .int (zi p), .int (zi (iv M 29 o)), .int (zi r2), .null], [.int (zi p), .ref 9], M1)) rfl ?_
      obtain ⟨r4, M3, hc, hv⟩ := hv
      refine am_xc t_Amd_amendmentOf (.invokevirtual 214) 214 (av := [.ref 9, .int (zi p)]) (rest := []) (rv := some (.int (zi r4))) (M' := M3) rfl rfl rfl rfl (Nat.le_of_ble_eq_true rfl) (fun _ => rfl) (hc) ?_
      refine am_xn 0 (c1 := (46, [.ref 0, .int (zi o), .int (zi p), .int (zi (iv M 29 o)), .int (zi r2), .null], [.int (zi r4)], M3)) rfl ?_
      obtain ⟨r5, hv⟩ := hv
      obtain ⟨r6, hv⟩ := hv
      refine am_xn 4 (c1 := (if zi r2 = zi r4 then 80 else 55, [.ref 0, .int (zi o), .int (zi p), .int (zi (iv M 29 o)), .int (zi r2), .int (zi r4)], [], M3)) rfl (am_xeq r5 r6 (fun h => ?_) (fun h => ?_))
      · replace hv := hv.1 h
        refine am_xn 1 (c1 := (81, [.ref 0, .int (zi o), .int (zi p), .int (zi (iv M 29 o)), .int (zi r2), .int (zi r4)], [.int (zi 0)], M3)) rfl ?_
        exact am_xr (some (.int (zi 0))) ⟨rfl, rfl, .boolean, rfl, rfl⟩ hv
      · replace hv := hv.2 h
        refine am_xn 3 (c1 := (61, [.ref 0, .int (zi o), .int (zi p), .int (zi (iv M 29 o)), .int (zi r2), .int (zi r4)], [.int (zi r2), .ref 9], M3)) rfl ?_
        obtain ⟨g, hv⟩ := hv
        refine am_xc t_Amd_day (.invokevirtual 112) 112 (av := [.ref 9, .int (zi r2)]) (rest := []) (rv := some (.int (zi (iv M3 11 (4 + r2))))) (M' := M3) rfl rfl rfl rfl (Nat.le_of_ble_eq_true rfl) (fun _ => rfl) (sp_c_day M3 r2 g) ?_
        refine am_xn 0 (c1 := (64, [.ref 0, .int (zi o), .int (zi p), .int (zi (iv M 29 o)), .int (zi r2), .int (zi r4)], [.int (zi (iv M3 11 (4 + r2)))], M3)) rfl ?_
        refine am_xn 3 (c1 := (70, [.ref 0, .int (zi o), .int (zi p), .int (zi (iv M 29 o)), .int (zi r2), .int (zi r4)], [.int (zi r4), .ref 9, .int (zi (iv M3 11 (4 + r2)))], M3)) rfl ?_
        obtain ⟨g, hv⟩ := hv
        refine am_xc t_Amd_day (.invokevirtual 112) 112 (av := [.ref 9, .int (zi r4)]) (rest := [.int (zi (iv M3 11 (4 + r2)))]) (rv := some (.int (zi (iv M3 11 (4 + r4))))) (M' := M3) rfl rfl rfl rfl (Nat.le_of_ble_eq_true rfl) (fun _ => rfl) (sp_c_day M3 r4 g) ?_
        refine am_xn 0 (c1 := (73, [.ref 0, .int (zi o), .int (zi p), .int (zi (iv M 29 o)), .int (zi r2), .int (zi r4)], [.int (zi (iv M3 11 (4 + r4))), .int (zi (iv M3 11 (4 + r2)))], M3)) rfl ?_
        refine am_xn 1 (c1 := (if zi (iv M3 11 (4 + r2)) = zi (iv M3 11 (4 + r4)) then 76 else 80, [.ref 0, .int (zi o), .int (zi p), .int (zi (iv M 29 o)), .int (zi r2), .int (zi r4)], [], M3)) rfl (am_xeq (iv_r _ _ _) (iv_r _ _ _) (fun h => ?_) (fun h => ?_))
        · replace hv := hv.1 h
          refine am_xn 2 (c1 := (81, [.ref 0, .int (zi o), .int (zi p), .int (zi (iv M 29 o)), .int (zi r2), .int (zi r4)], [.int (zi 1)], M3)) rfl ?_
          exact am_xr (some (.int (zi 1))) ⟨rfl, rfl, .boolean, rfl, rfl⟩ hv
        · replace hv := hv.2 h
          refine am_xn 1 (c1 := (81, [.ref 0, .int (zi o), .int (zi p), .int (zi (iv M 29 o)), .int (zi r2), .int (zi r4)], [.int (zi 0)], M3)) rfl ?_
          exact am_xr (some (.int (zi 0))) ⟨rfl, rfl, .boolean, rfl, rfl⟩ hv
    · replace hv := hv.2 h
      refine am_xn 1 (c1 := (27, [.ref 0, .int (zi o), .int (zi p), .int (zi (iv M 29 o)), .null, .null], [.int (zi 0)], M)) rfl ?_
      exact am_xr (some (.int (zi 0))) ⟨rfl, rfl, .boolean, rfl, rfl⟩ hv
set_option maxRecDepth 100000 in
theorem vc_conflicts  (M : am_M) (Q : Option Value → am_M → Prop) (hv : am_x t_SB_conflicts (4, [.ref 0, .int (zi 0), .int (zi 0), .null], [], M) Q) : am_x t_SB_conflicts (0, am_ent (am_mL t_SB_conflicts) [.ref 0], [], M) Q := by
  refine am_xn 0 (c1 := (0, [.ref 0, .null, .null, .null], [], M)) rfl ?_
  refine am_xn 4 (c1 := (4, [.ref 0, .int (zi 0), .int (zi 0), .null], [], M)) rfl ?_
  exact hv
set_option maxRecDepth 100000 in
theorem vc_conflicts_4 (x1 : Int) (x2 : Int) (M : am_M) (Q : Option Value → am_M → Prop) (hv : (zr x2) ∧ ((x2 < (iv M 11 1) → am_x t_SB_conflicts (19, [.ref 0, .int (zi x1), .int (zi x2), .int (zi (x2 + 1))], [], M) Q) ∧ ((iv M 11 1) ≤ x2 → Q (some (.int (zi x1))) M))) : am_x t_SB_conflicts (4, [.ref 0, .int (zi x1), .int (zi x2), .null], [], M) Q := by
  refine am_xn 3 (c1 := (9, [.ref 0, .int (zi x1), .int (zi x2), .null], [.ref 9, .int (zi x2)], M)) rfl ?_
  refine am_xc t_Amd_operations (.invokevirtual 256) 256 (av := [.ref 9]) (rest := [.int (zi x2)]) (rv := some (.int (zi (iv M 11 1)))) (M' := M) rfl rfl rfl rfl (Nat.le_of_ble_eq_true rfl) (fun _ => rfl) (sp_c_operations M) ?_
  refine am_xn 0 (c1 := (12, [.ref 0, .int (zi x1), .int (zi x2), .null], [.int (zi (iv M 11 1)), .int (zi x2)], M)) rfl ?_
  obtain ⟨r1, hv⟩ := hv
  refine am_xn 1 (c1 := (if zi x2 < zi (iv M 11 1) then 15 else 54, [.ref 0, .int (zi x1), .int (zi x2), .null], [], M)) rfl (am_xlt r1 (iv_r _ _ _) (fun h => ?_) (fun h => ?_))
  · replace hv := hv.1 h
    refine am_xiadd 3 x2 1 (pc := 18) (ls := [.ref 0, .int (zi x1), .int (zi x2), .null]) (st := []) rfl ?_
    refine am_xn 1 (c1 := (19, [.ref 0, .int (zi x1), .int (zi x2), .int (zi (x2 + 1))], [], M)) rfl ?_
    exact hv
  · replace hv := hv.2 h
    refine am_xn 1 (c1 := (55, [.ref 0, .int (zi x1), .int (zi x2), .null], [.int (zi x1)], M)) rfl ?_
    exact am_xr (some (.int (zi x1))) ⟨rfl, rfl, .int, rfl, rfl⟩ hv
set_option maxRecDepth 100000 in
theorem vc_conflicts_19 (x1 : Int) (x2 : Int) (x3 : Int) (M : am_M) (Q : Option Value → am_M → Prop) (hv : (zr x3) ∧ ((x3 < (iv M 11 1) → ∃ (r3 : Int) (M2 : am_M), am_call t_SB_clash [.ref 0, .int (zi x2), .int (zi x3)] M (some (.int (zi r3))) M2 ∧ ((zr r3) ∧ ((r3 = 0 → am_x t_SB_conflicts (19, [.ref 0, .int (zi x1), .int (zi x2), .int (zi (x3 + 1))], [], M2) Q) ∧ (¬ r3 = 0 → am_x t_SB_conflicts (19, [.ref 0, .int (zi (x1 + 1)), .int (zi x2), .int (zi (x3 + 1))], [], M2) Q)))) ∧ ((iv M 11 1) ≤ x3 → am_x t_SB_conflicts (4, [.ref 0, .int (zi x1), .int (zi (x2 + 1)), .null], [], M) Q))) : am_x t_SB_conflicts (19, [.ref 0, .int (zi x1), .int (zi x2), .int (zi x3)], [], M) Q := by
  refine am_xn 3 (c1 := (24, [.ref 0, .int (zi x1), .int (zi x2), .int (zi x3)], [.ref 9, .int (zi x3)], M)) rfl ?_
  refine am_xc t_Amd_operations (.invokevirtual 256) 256 (av := [.ref 9]) (rest := [.int (zi x3)]) (rv := some (.int (zi (iv M 11 1)))) (M' := M) rfl rfl rfl rfl (Nat.le_of_ble_eq_true rfl) (fun _ => rfl) (sp_c_operations M) ?_
  refine am_xn 0 (c1 := (27, [.ref 0, .int (zi x1), .int (zi x2), .int (zi x3)], [.int (zi (iv M 11 1)), .int (zi x3)], M)) rfl ?_
  obtain ⟨r1, hv⟩ := hv
  refine am_xn 1 (c1 := (if zi x3 < zi (iv M 11 1) then 30 else 48, [.ref 0, .int (zi x1), .int (zi x2), .int (zi x3)], [], M)) rfl (am_xlt r1 (iv_r _ _ _) (fun h => ?_) (fun h => ?_))
  · replace hv := hv.1 h
    refine am_xn 3 (c1 := (33, [.ref 0, .int (zi x1), .int (zi x2), .int (zi x3)], [.int (zi x3), .int (zi x2), .ref 0], M)) rfl ?_
    obtain ⟨r3, M2, hc, hv⟩ := hv
    refine am_xc t_SB_clash (.invokevirtual 259) 259 (av := [.ref 0, .int (zi x2), .int (zi x3)]) (rest := []) (rv := some (.int (zi r3))) (M' := M2) rfl rfl rfl rfl (Nat.le_of_ble_eq_true rfl) (fun _ => rfl) (hc) ?_
    refine am_xn 0 (c1 := (36, [.ref 0, .int (zi x1), .int (zi x2), .int (zi x3)], [.int (zi r3)], M2)) rfl ?_
    obtain ⟨r4, hv⟩ := hv
    refine am_xn 1 (c1 := (if zi r3 = zi 0 then 42 else 39, [.ref 0, .int (zi x1), .int (zi x2), .int (zi x3)], [], M2)) rfl (am_xeq r4 (by decide) (fun h => ?_) (fun h => ?_))
    · replace hv := hv.1 h
      refine am_xn 1 (c1 := (45, [.ref 0, .int (zi x1), .int (zi x2), .int (zi x3 + zi 1)], [], M2)) rfl ?_
      rw [zi_add]
      refine am_xn 1 (c1 := (19, [.ref 0, .int (zi x1), .int (zi x2), .int (zi (x3 + 1))], [], M2)) rfl ?_
      exact hv
    · replace hv := hv.2 h
      refine am_xn 1 (c1 := (42, [.ref 0, .int (zi x1 + zi 1), .int (zi x2), .int (zi x3)], [], M2)) rfl ?_
      rw [zi_add]
      refine am_xn 1 (c1 := (45, [.ref 0, .int (zi (x1 + 1)), .int (zi x2), .int (zi x3 + zi 1)], [], M2)) rfl ?_
      rw [zi_add]
      refine am_xn 1 (c1 := (19, [.ref 0, .int (zi (x1 + 1)), .int (zi x2), .int (zi (x3 + 1))], [], M2)) rfl ?_
      exact hv
  · replace hv := hv.2 h
    refine am_xn 1 (c1 := (51, [.ref 0, .int (zi x1), .int (zi x2 + zi 1), .int (zi x3)], [], M)) rfl ?_
    rw [zi_add]
    refine am_xn 1 (c1 := (4, [.ref 0, .int (zi x1), .int (zi (x2 + 1)), .int (zi x3)], [], M)) rfl ?_
    refine am_xf 3 ?_
    exact hv
set_option maxRecDepth 100000 in
theorem vc_tallyPart (w : Int) (M : am_M) (Q : Option Value → am_M → Prop) (hv : (zr w) ∧ ((w = 6 → ∃ (r3 : Int) (M2 : am_M), am_call t_SB_conflicts [.ref 0] M (some (.int (zi r3))) M2 ∧ (Q (some (.int (zi r3))) M2)) ∧ (¬ w = 6 → am_x t_SB_tallyPart (15, [.ref 0, .int (zi w), .int (zi 0), .int (zi 0)], [], M) Q))) : am_x t_SB_tallyPart (0, am_ent (am_mL t_SB_tallyPart) [.ref 0, .int (zi w)], [], M) Q := by
  refine am_xn 0 (c1 := (0, [.ref 0, .int (zi w), .null, .null], [], M)) rfl ?_
  obtain ⟨r1, hv⟩ := hv
  refine am_xn 3 (c1 := (if zi w = zi 6 then 6 else 11, [.ref 0, .int (zi w), .null, .null], [], M)) rfl (am_xeq r1 (by decide) (fun h => ?_) (fun h => ?_))
  · replace hv := hv.1 h
    refine am_xn 1 (c1 := (7, [.ref 0, .int (zi w), .null, .null], [.ref 0], M)) rfl ?_
    obtain ⟨r3, M2, hc, hv⟩ := hv
    refine am_xc t_SB_conflicts (.invokevirtual 253) 253 (av := [.ref 0]) (rest := []) (rv := some (.int (zi r3))) (M' := M2) rfl rfl rfl rfl (Nat.le_of_ble_eq_true rfl) (fun _ => rfl) (hc) ?_
    refine am_xn 0 (c1 := (10, [.ref 0, .int (zi w), .null, .null], [.int (zi r3)], M2)) rfl ?_
    exact am_xr (some (.int (zi r3))) ⟨rfl, rfl, .int, rfl, rfl⟩ hv
  · replace hv := hv.2 h
    refine am_xn 4 (c1 := (15, [.ref 0, .int (zi w), .int (zi 0), .int (zi 0)], [], M)) rfl ?_
    exact hv
set_option maxRecDepth 100000 in
theorem vc_tallyPart_15 (x1 : Int) (x2 : Int) (x3 : Int) (M : am_M) (Q : Option Value → am_M → Prop) (hv : (zr x3) ∧ ((x3 < (iv M 11 1) → (0 ≤ x3 ∧ x3 < 120) ∧ ((zr x1) ∧ (((iv M 27 x3) = x1 → am_x t_SB_tallyPart (15, [.ref 0, .int (zi x1), .int (zi (x2 + 1)), .int (zi (x3 + 1))], [], M) Q) ∧ (¬ (iv M 27 x3) = x1 → am_x t_SB_tallyPart (15, [.ref 0, .int (zi x1), .int (zi x2), .int (zi (x3 + 1))], [], M) Q)))) ∧ ((iv M 11 1) ≤ x3 → Q (some (.int (zi x2))) M))) : am_x t_SB_tallyPart (15, [.ref 0, .int (zi x1), .int (zi x2), .int (zi x3)], [], M) Q := by
  refine am_xn 3 (c1 := (20, [.ref 0, .int (zi x1), .int (zi x2), .int (zi x3)], [.ref 9, .int (zi x3)], M)) rfl ?_
  refine am_xc t_Amd_operations (.invokevirtual 256) 256 (av := [.ref 9]) (rest := [.int (zi x3)]) (rv := some (.int (zi (iv M 11 1)))) (M' := M) rfl rfl rfl rfl (Nat.le_of_ble_eq_true rfl) (fun _ => rfl) (sp_c_operations M) ?_
  refine am_xn 0 (c1 := (23, [.ref 0, .int (zi x1), .int (zi x2), .int (zi x3)], [.int (zi (iv M 11 1)), .int (zi x3)], M)) rfl ?_
  obtain ⟨r1, hv⟩ := hv
  refine am_xn 1 (c1 := (if zi x3 < zi (iv M 11 1) then 26 else 47, [.ref 0, .int (zi x1), .int (zi x2), .int (zi x3)], [], M)) rfl (am_xlt r1 (iv_r _ _ _) (fun h => ?_) (fun h => ?_))
  · replace hv := hv.1 h
    refine am_xn 3 (c1 := (31, [.ref 0, .int (zi x1), .int (zi x2), .int (zi x3)], [.int (zi x3), .ref 15], M)) rfl ?_
    obtain ⟨g, hv⟩ := hv
    refine am_xc t_Law_status (.invokevirtual 150) 150 (av := [.ref 15, .int (zi x3)]) (rest := []) (rv := some (.int (zi (iv M 27 x3)))) (M' := M) rfl rfl rfl rfl (Nat.le_of_ble_eq_true rfl) (fun _ => rfl) (sp_l15_status M x3 g) ?_
    refine am_xn 0 (c1 := (34, [.ref 0, .int (zi x1), .int (zi x2), .int (zi x3)], [.int (zi (iv M 27 x3))], M)) rfl ?_
    obtain ⟨r2, hv⟩ := hv
    refine am_xn 2 (c1 := (if zi (iv M 27 x3) = zi x1 then 38 else 41, [.ref 0, .int (zi x1), .int (zi x2), .int (zi x3)], [], M)) rfl (am_xeq (iv_r _ _ _) r2 (fun h => ?_) (fun h => ?_))
    · replace hv := hv.1 h
      refine am_xn 1 (c1 := (41, [.ref 0, .int (zi x1), .int (zi x2 + zi 1), .int (zi x3)], [], M)) rfl ?_
      rw [zi_add]
      refine am_xn 1 (c1 := (44, [.ref 0, .int (zi x1), .int (zi (x2 + 1)), .int (zi x3 + zi 1)], [], M)) rfl ?_
      rw [zi_add]
      refine am_xn 1 (c1 := (15, [.ref 0, .int (zi x1), .int (zi (x2 + 1)), .int (zi (x3 + 1))], [], M)) rfl ?_
      exact hv
    · replace hv := hv.2 h
      refine am_xn 1 (c1 := (44, [.ref 0, .int (zi x1), .int (zi x2), .int (zi x3 + zi 1)], [], M)) rfl ?_
      rw [zi_add]
      refine am_xn 1 (c1 := (15, [.ref 0, .int (zi x1), .int (zi x2), .int (zi (x3 + 1))], [], M)) rfl ?_
      exact hv
  · replace hv := hv.2 h
    refine am_xn 1 (c1 := (48, [.ref 0, .int (zi x1), .int (zi x2), .int (zi x3)], [.int (zi x2)], M)) rfl ?_
    exact am_xr (some (.int (zi x2))) ⟨rfl, rfl, .int, rfl, rfl⟩ hv
set_option maxRecDepth 100000 in
theorem vc_c_tally (w : Int) (M : am_M) (Q : Option Value → am_M → Prop) (hv : (zr w ∧ zr (6 : Int)) ∧ ((0 ≤ w ∧ w ≤ 6 → ∃ M1, am_call t_SB_consolidateFully [.ref 0] M none M1 ∧ (∃ (r3 : Int) (M2 : am_M), am_call t_SB_tallyPart [.ref 0, .int (zi w)] M1 (some (.int (zi r3))) M2 ∧ (Q (some (.int (zi r3))) M2))) ∧ (¬ (0 ≤ w ∧ w ≤ 6) → Q (some (.int (zi (-2)))) M))) : am_x t_SB_tally (0, am_ent (am_mL t_SB_tally) [.ref 0, .int (zi w)], [], M) Q := by
  refine am_xn 0 (c1 := (0, [.ref 0, .int (zi w)], [], M)) rfl ?_
  refine am_xn 2 (c1 := (3, [.ref 0, .int (zi w)], [.int (zi 6), .int (zi w)], M)) rfl ?_
  obtain ⟨g, hv⟩ := hv
  by_cases c4 : 0 ≤ w ∧ w ≤ 6
  · replace hv := hv.1 c4
    refine am_xc t_SB_within (.invokestatic 56) 56 (av := [.int (zi w), .int (zi 6)]) (rest := []) (rv := some (.int (zi 1))) (M' := M) rfl rfl rfl rfl (Nat.le_of_ble_eq_true rfl) (fun h => nomatch h) (by have q := sp_within M w 6 g; rwa [if_pos c4] at q) ?_
    refine am_xn 0 (c1 := (6, [.ref 0, .int (zi w)], [.int (zi 1)], M)) rfl ?_
    refine am_xn 2 (c1 := (13, [.ref 0, .int (zi w)], [.ref 0], M)) rfl ?_
    obtain ⟨M1, hc, hv⟩ := hv
    refine am_xc t_SB_consolidateFully (.invokevirtual 128) 128 (av := [.ref 0]) (rest := []) (rv := none) (M' := M1) rfl rfl rfl rfl (Nat.le_of_ble_eq_true rfl) (fun _ => rfl) (hc) ?_
    refine am_xn 0 (c1 := (16, [.ref 0, .int (zi w)], [], M1)) rfl ?_
    refine am_xn 2 (c1 := (18, [.ref 0, .int (zi w)], [.int (zi w), .ref 0], M1)) rfl ?_
    obtain ⟨r3, M2, hc, hv⟩ := hv
    refine am_xc t_SB_tallyPart (.invokevirtual 250) 250 (av := [.ref 0, .int (zi w)]) (rest := []) (rv := some (.int (zi r3))) (M' := M2) rfl rfl rfl rfl (Nat.le_of_ble_eq_true rfl) (fun _ => rfl) (hc) ?_
    refine am_xn 0 (c1 := (21, [.ref 0, .int (zi w)], [.int (zi r3)], M2)) rfl ?_
    exact am_xr (some (.int (zi r3))) ⟨rfl, rfl, .int, rfl, rfl⟩ hv
  · replace hv := hv.2 c4
    refine am_xc t_SB_within (.invokestatic 56) 56 (av := [.int (zi w), .int (zi 6)]) (rest := []) (rv := some (.int (zi 0))) (M' := M) rfl rfl rfl rfl (Nat.le_of_ble_eq_true rfl) (fun h => nomatch h) (by have q := sp_within M w 6 g; rwa [if_neg c4] at q) ?_
    refine am_xn 0 (c1 := (6, [.ref 0, .int (zi w)], [.int (zi 0)], M)) rfl ?_
    refine am_xn 2 (c1 := (11, [.ref 0, .int (zi w)], [.int (zi (-2))], M)) rfl ?_
    exact am_xr (some (.int (zi (-2)))) ⟨rfl, rfl, .int, rfl, rfl⟩ hv
set_option maxRecDepth 100000 in
theorem vc_areInConflict (o : Int) (p : Int) (M : am_M) (Q : Option Value → am_M → Prop) (hv : (WB (iv M 59) ∧ 0 ≤ o ∧ o < nops (iv M 59)) ∧ ((WB (iv M 59) ∧ 0 ≤ p ∧ p < nops (iv M 59)) ∧ (∃ (r2 : Int) (M1 : am_M), am_call t_Mo_statusOf [.ref 58, .int (zi o)] M (some (.int (zi r2))) M1 ∧ ((zr r2) ∧ ((r2 = 0 → ∃ (r5 : Int) (M4 : am_M), am_call t_Mo_statusOf [.ref 58, .int (zi p)] M1 (some (.int (zi r5))) M4 ∧ ((zr r5) ∧ ((r5 = 0 → (zr (amo (iv M 59) o)) ∧ ((zr (amo (iv M 59) p)) ∧ (((amo (iv M 59) o) < (amo (iv M 59) p) → (0 ≤ (1 + (amo (iv M 59) o)) ∧ (1 + (amo (iv M 59) o)) < 1501) ∧ ((0 ≤ (1 + (amo (iv M 59) p)) ∧ (1 + (amo (iv M 59) p)) < 1501) ∧ (((iv M4 59 (1 + (amo (iv M 59) o))) = (iv M4 59 (1 + (amo (iv M 59) p))) → (0 ≤ o ∧ o < 120) ∧ ((0 ≤ p ∧ p < 120) ∧ (((iv M4 70 o) = (iv M4 70 p) → Q (some (.int (zi 1))) M4) ∧ (¬ (iv M4 70 o) = (iv M4 70 p) → Q (some (.int (zi 0))) M4)))) ∧ (¬ (iv M4 59 (1 + (amo (iv M 59) o))) = (iv M4 59 (1 + (amo (iv M 59) p))) → Q (some (.int (zi 0))) M4)))) ∧ ((amo (iv M 59) p) ≤ (amo (iv M 59) o) → Q (some (.int (zi 0))) M4)))) ∧ (¬ r5 = 0 → (zr (amo (iv M 59) o)) ∧ ((zr (amo (iv M 59) p)) ∧ (((amo (iv M 59) o) < (amo (iv M 59) p) → (0 ≤ (1 + (amo (iv M 59) o)) ∧ (1 + (amo (iv M 59) o)) < 1501) ∧ ((0 ≤ (1 + (amo (iv M 59) p)) ∧ (1 + (amo (iv M 59) p)) < 1501) ∧ (((iv M4 59 (1 + (amo (iv M 59) o))) = (iv M4 59 (1 + (amo (iv M 59) p))) → Q (some (.int (zi 0))) M4) ∧ (¬ (iv M4 59 (1 + (amo (iv M 59) o))) = (iv M4 59 (1 + (amo (iv M 59) p))) → Q (some (.int (zi 0))) M4)))) ∧ ((amo (iv M 59) p) ≤ (amo (iv M 59) o) → Q (some (.int (zi 0))) M4))))))) ∧ (¬ r2 = 0 → (zr (amo (iv M 59) o)) ∧ ((zr (amo (iv M 59) p)) ∧ (((amo (iv M 59) o) < (amo (iv M 59) p) → (0 ≤ (1 + (amo (iv M 59) o)) ∧ (1 + (amo (iv M 59) o)) < 1501) ∧ ((0 ≤ (1 + (amo (iv M 59) p)) ∧ (1 + (amo (iv M 59) p)) < 1501) ∧ (((iv M1 59 (1 + (amo (iv M 59) o))) = (iv M1 59 (1 + (amo (iv M 59) p))) → Q (some (.int (zi 0))) M1) ∧ (¬ (iv M1 59 (1 + (amo (iv M 59) o))) = (iv M1 59 (1 + (amo (iv M 59) p))) → Q (some (.int (zi 0))) M1)))) ∧ ((amo (iv M 59) p) ≤ (amo (iv M 59) o) → Q (some (.int (zi 0))) M1))))))))) : am_x t_Mo_areInConflict (0, am_ent (am_mL t_Mo_areInConflict) [.ref 58, .int (zi o), .int (zi p)], [], M) Q := by
  refine am_xn 0 (c1 := (0, [.ref 58, .int (zi o), .int (zi p), .null, .null, .null], [], M)) rfl ?_
  refine am_xn 2 (c1 := (2, [.ref 58, .int (zi o), .int (zi p), .null, .null, .null], [.int (zi o), .ref 58], M)) rfl ?_
  obtain ⟨g, hv⟩ := hv
  refine am_xc t_Mo_amendmentOf (.invokevirtual 143) 143 (av := [.ref 58, .int (zi o)]) (rest := []) (rv := some (.int (zi (amo (iv M 59) o)))) (M' := M) rfl rfl rfl rfl (Nat.le_of_ble_eq_true rfl) (fun _ => rfl) (sp_amendmentOf M o g) ?_
  refine am_xn 0 (c1 := (5, [.ref 58, .int (zi o), .int (zi p), .null, .null, .null], [.int (zi (amo (iv M 59) o))], M)) rfl ?_
  refine am_xn 3 (c1 := (8, [.ref 58, .int (zi o), .int (zi p), .int (zi (amo (iv M 59) o)), .null, .null], [.int (zi p), .ref 58], M)) rfl ?_
  obtain ⟨g, hv⟩ := hv
  refine am_xc t_Mo_amendmentOf (.invokevirtual 143) 143 (av := [.ref 58, .int (zi p)]) (rest := []) (rv := some (.int (zi (amo (iv M 59) p)))) (M' := M) rfl rfl rfl rfl (Nat.le_of_ble_eq_true rfl) (fun _ => rfl) (sp_amendmentOf M p g) ?_
  refine am_xn 0 (c1 := (11, [.ref 58, .int (zi o), .int (zi p), .int (zi (amo (iv M 59) o)), .null, .null], [.int (zi (amo (iv M 59) p))], M)) rfl ?_
  refine am_xn 3 (c1 := (15, [.ref 58, .int (zi o), .int (zi p), .int (zi (amo (iv M 59) o)), .int (zi (amo (iv M 59) p)), .null], [.int (zi o), .ref 58], M)) rfl ?_
  obtain ⟨r2, M1, hc, hv⟩ := hv
  refine am_xc t_Mo_statusOf (.invokevirtual 245) 245 (av := [.ref 58, .int (zi o)]) (rest := []) (rv := some (.int (zi r2))) (M' := M1) rfl rfl rfl rfl (Nat.le_of_ble_eq_true rfl) (fun _ => rfl) (hc) ?_
  refine am_xn 0 (c1 := (18, [.ref 58, .int (zi o), .int (zi p), .int (zi (amo (iv M 59) o)), .int (zi (amo (iv M 59) p)), .null], [.int (zi r2)], M1)) rfl ?_
  obtain ⟨r3, hv⟩ := hv
  refine am_xn 1 (c1 := (if zi r2 = zi 0 then 21 else 33, [.ref 58, .int (zi o), .int (zi p), .int (zi (amo (iv M 59) o)), .int (zi (amo (iv M 59) p)), .null], [], M1)) rfl (am_xeq r3 (by decide) (fun h => ?_) (fun h => ?_))
  · replace hv := hv.1 h
    refine am_xn 2 (c1 := (23, [.ref 58, .int (zi o), .int (zi p), .int (zi (amo (iv M 59) o)), .int (zi (amo (iv M 59) p)), .null], [.int (zi p), .ref 58], M1)) rfl ?_
    obtain ⟨r5, M4, hc, hv⟩ := hv
    refine am_xc t_Mo_statusOf (.invokevirtual 245) 245 (av := [.ref 58, .int (zi p)]) (rest := []) (rv := some (.int (zi r5))) (M' := M4) rfl rfl rfl rfl (Nat.le_of_ble_eq_true rfl) (fun _ => rfl) (hc) ?_
    refine am_xn 0 (c1 := (26, [.ref 58, .int (zi o), .int (zi p), .int (zi (amo (iv M 59) o)), .int (zi (amo (iv M 59) p)), .null], [.int (zi r5)], M4)) rfl ?_
    obtain ⟨r6, hv⟩ := hv
    refine am_xn 1 (c1 := (if zi r5 = zi 0 then 29 else 33, [.ref 58, .int (zi o), .int (zi p), .int (zi (amo (iv M 59) o)), .int (zi (amo (iv M 59) p)), .null], [], M4)) rfl (am_xeq r6 (by decide) (fun h => ?_) (fun h => ?_))
    · replace hv := hv.1 h
      obtain ⟨r7, hv⟩ := hv
      obtain ⟨r8, hv⟩ := hv
      refine am_xn 6 (c1 := (if zi (amo (iv M 59) o) < zi (amo (iv M 59) p) then 42 else 86, [.ref 58, .int (zi o), .int (zi p), .int (zi (amo (iv M 59) o)), .int (zi (amo (iv M 59) p)), .int (zi 1)], [], M4)) rfl (am_xlt r7 r8 (fun h => ?_) (fun h => ?_))
      · replace hv := hv.1 h
        refine am_xiadd 5 1 (amo (iv M 59) o) (pc := 49) (ls := [.ref 58, .int (zi o), .int (zi p), .int (zi (amo (iv M 59) o)), .int (zi (amo (iv M 59) p)), .int (zi 1)]) (st := [.ref 59]) rfl ?_
        obtain ⟨r9, hv⟩ := hv
        refine am_xald rfl rfl rfl r9 ?_
        refine am_xn 0 (c1 := (50, [.ref 58, .int (zi o), .int (zi p), .int (zi (amo (iv M 59) o)), .int (zi (amo (iv M 59) p)), .int (zi 1)], [.int (zi (iv M4 59 (1 + (amo (iv M 59) o))))], M4)) rfl ?_
        refine am_xiadd 5 1 (amo (iv M 59) p) (pc := 58) (ls := [.ref 58, .int (zi o), .int (zi p), .int (zi (amo (iv M 59) o)), .int (zi (amo (iv M 59) p)), .int (zi 1)]) (st := [.ref 59, .int (zi (iv M4 59 (1 + (amo (iv M 59) o))))]) rfl ?_
        obtain ⟨r10, hv⟩ := hv
        refine am_xald rfl rfl rfl r10 ?_
        refine am_xn 0 (c1 := (59, [.ref 58, .int (zi o), .int (zi p), .int (zi (amo (iv M 59) o)), .int (zi (amo (iv M 59) p)), .int (zi 1)], [.int (zi (iv M4 59 (1 + (amo (iv M 59) p)))), .int (zi (iv M4 59 (1 + (amo (iv M 59) o))))], M4)) rfl ?_
        refine am_xn 1 (c1 := (if zi (iv M4 59 (1 + (amo (iv M 59) o))) = zi (iv M4 59 (1 + (amo (iv M 59) p))) then 62 else 86, [.ref 58, .int (zi o), .int (zi p), .int (zi (amo (iv M 59) o)), .int (zi (amo (iv M 59) p)), .int (zi 1)], [], M4)) rfl (am_xeq (iv_r _ _ _) (iv_r _ _ _) (fun h => ?_) (fun h => ?_))
        · replace hv := hv.1 h
          obtain ⟨r11, hv⟩ := hv
          refine am_xn 5 (c1 := (72, [.ref 58, .int (zi o), .int (zi p), .int (zi (amo (iv M 59) o)), .int (zi (amo (iv M 59) p)), .int (zi 1)], [.int (zi o), .ref 70], M4)) rfl ?_
          refine am_xald rfl rfl rfl r11 ?_
          refine am_xn 0 (c1 := (73, [.ref 58, .int (zi o), .int (zi p), .int (zi (amo (iv M 59) o)), .int (zi (amo (iv M 59) p)), .int (zi 1)], [.int (zi (iv M4 70 o))], M4)) rfl ?_
          obtain ⟨r12, hv⟩ := hv
          refine am_xn 3 (c1 := (78, [.ref 58, .int (zi o), .int (zi p), .int (zi (amo (iv M 59) o)), .int (zi (amo (iv M 59) p)), .int (zi 1)], [.int (zi p), .ref 70, .int (zi (iv M4 70 o))], M4)) rfl ?_
          refine am_xald rfl rfl rfl r12 ?_
          refine am_xn 0 (c1 := (79, [.ref 58, .int (zi o), .int (zi p), .int (zi (amo (iv M 59) o)), .int (zi (amo (iv M 59) p)), .int (zi 1)], [.int (zi (iv M4 70 p)), .int (zi (iv M4 70 o))], M4)) rfl ?_
          refine am_xn 1 (c1 := (if zi (iv M4 70 o) = zi (iv M4 70 p) then 82 else 86, [.ref 58, .int (zi o), .int (zi p), .int (zi (amo (iv M 59) o)), .int (zi (amo (iv M 59) p)), .int (zi 1)], [], M4)) rfl (am_xeq (iv_r _ _ _) (iv_r _ _ _) (fun h => ?_) (fun h => ?_))
          · replace hv := hv.1 h
            refine am_xn 2 (c1 := (87, [.ref 58, .int (zi o), .int (zi p), .int (zi (amo (iv M 59) o)), .int (zi (amo (iv M 59) p)), .int (zi 1)], [.int (zi 1)], M4)) rfl ?_
            exact am_xr (some (.int (zi 1))) ⟨rfl, rfl, .boolean, rfl, rfl⟩ hv
          · replace hv := hv.2 h
            refine am_xn 1 (c1 := (87, [.ref 58, .int (zi o), .int (zi p), .int (zi (amo (iv M 59) o)), .int (zi (amo (iv M 59) p)), .int (zi 1)], [.int (zi 0)], M4)) rfl ?_
            exact am_xr (some (.int (zi 0))) ⟨rfl, rfl, .boolean, rfl, rfl⟩ hv
        · replace hv := hv.2 h
          refine am_xn 1 (c1 := (87, [.ref 58, .int (zi o), .int (zi p), .int (zi (amo (iv M 59) o)), .int (zi (amo (iv M 59) p)), .int (zi 1)], [.int (zi 0)], M4)) rfl ?_
          exact am_xr (some (.int (zi 0))) ⟨rfl, rfl, .boolean, rfl, rfl⟩ hv
      · replace hv := hv.2 h
        refine am_xn 1 (c1 := (87, [.ref 58, .int (zi o), .int (zi p), .int (zi (amo (iv M 59) o)), .int (zi (amo (iv M 59) p)), .int (zi 1)], [.int (zi 0)], M4)) rfl ?_
        exact am_xr (some (.int (zi 0))) ⟨rfl, rfl, .boolean, rfl, rfl⟩ hv
    · replace hv := hv.2 h
      obtain ⟨r13, hv⟩ := hv
      obtain ⟨r14, hv⟩ := hv
      refine am_xn 5 (c1 := (if zi (amo (iv M 59) o) < zi (amo (iv M 59) p) then 42 else 86, [.ref 58, .int (zi o), .int (zi p), .int (zi (amo (iv M 59) o)), .int (zi (amo (iv M 59) p)), .int (zi 0)], [], M4)) rfl (am_xlt r13 r14 (fun h => ?_) (fun h => ?_))
      · replace hv := hv.1 h
        refine am_xiadd 5 1 (amo (iv M 59) o) (pc := 49) (ls := [.ref 58, .int (zi o), .int (zi p), .int (zi (amo (iv M 59) o)), .int (zi (amo (iv M 59) p)), .int (zi 0)]) (st := [.ref 59]) rfl ?_
        obtain ⟨r15, hv⟩ := hv
        refine am_xald rfl rfl rfl r15 ?_
        refine am_xn 0 (c1 := (50, [.ref 58, .int (zi o), .int (zi p), .int (zi (amo (iv M 59) o)), .int (zi (amo (iv M 59) p)), .int (zi 0)], [.int (zi (iv M4 59 (1 + (amo (iv M 59) o))))], M4)) rfl ?_
        refine am_xiadd 5 1 (amo (iv M 59) p) (pc := 58) (ls := [.ref 58, .int (zi o), .int (zi p), .int (zi (amo (iv M 59) o)), .int (zi (amo (iv M 59) p)), .int (zi 0)]) (st := [.ref 59, .int (zi (iv M4 59 (1 + (amo (iv M 59) o))))]) rfl ?_
        obtain ⟨r16, hv⟩ := hv
        refine am_xald rfl rfl rfl r16 ?_
        refine am_xn 0 (c1 := (59, [.ref 58, .int (zi o), .int (zi p), .int (zi (amo (iv M 59) o)), .int (zi (amo (iv M 59) p)), .int (zi 0)], [.int (zi (iv M4 59 (1 + (amo (iv M 59) p)))), .int (zi (iv M4 59 (1 + (amo (iv M 59) o))))], M4)) rfl ?_
        refine am_xn 1 (c1 := (if zi (iv M4 59 (1 + (amo (iv M 59) o))) = zi (iv M4 59 (1 + (amo (iv M 59) p))) then 62 else 86, [.ref 58, .int (zi o), .int (zi p), .int (zi (amo (iv M 59) o)), .int (zi (amo (iv M 59) p)), .int (zi 0)], [], M4)) rfl (am_xeq (iv_r _ _ _) (iv_r _ _ _) (fun h => ?_) (fun h => ?_))
        · replace hv := hv.1 h
          refine am_xn 3 (c1 := (87, [.ref 58, .int (zi o), .int (zi p), .int (zi (amo (iv M 59) o)), .int (zi (amo (iv M 59) p)), .int (zi 0)], [.int (zi 0)], M4)) rfl ?_
          exact am_xr (some (.int (zi 0))) ⟨rfl, rfl, .boolean, rfl, rfl⟩ hv
        · replace hv := hv.2 h
          refine am_xn 1 (c1 := (87, [.ref 58, .int (zi o), .int (zi p), .int (zi (amo (iv M 59) o)), .int (zi (amo (iv M 59) p)), .int (zi 0)], [.int (zi 0)], M4)) rfl ?_
          exact am_xr (some (.int (zi 0))) ⟨rfl, rfl, .boolean, rfl, rfl⟩ hv
      · replace hv := hv.2 h
        refine am_xn 1 (c1 := (87, [.ref 58, .int (zi o), .int (zi p), .int (zi (amo (iv M 59) o)), .int (zi (amo (iv M 59) p)), .int (zi 0)], [.int (zi 0)], M4)) rfl ?_
        exact am_xr (some (.int (zi 0))) ⟨rfl, rfl, .boolean, rfl, rfl⟩ hv
  · replace hv := hv.2 h
    obtain ⟨r17, hv⟩ := hv
    obtain ⟨r18, hv⟩ := hv
    refine am_xn 5 (c1 := (if zi (amo (iv M 59) o) < zi (amo (iv M 59) p) then 42 else 86, [.ref 58, .int (zi o), .int (zi p), .int (zi (amo (iv M 59) o)), .int (zi (amo (iv M 59) p)), .int (zi 0)], [], M1)) rfl (am_xlt r17 r18 (fun h => ?_) (fun h => ?_))
    · replace hv := hv.1 h
      refine am_xiadd 5 1 (amo (iv M 59) o) (pc := 49) (ls := [.ref 58, .int (zi o), .int (zi p), .int (zi (amo (iv M 59) o)), .int (zi (amo (iv M 59) p)), .int (zi 0)]) (st := [.ref 59]) rfl ?_
      obtain ⟨r19, hv⟩ := hv
      refine am_xald rfl rfl rfl r19 ?_
      refine am_xn 0 (c1 := (50, [.ref 58, .int (zi o), .int (zi p), .int (zi (amo (iv M 59) o)), .int (zi (amo (iv M 59) p)), .int (zi 0)], [.int (zi (iv M1 59 (1 + (amo (iv M 59) o))))], M1)) rfl ?_
      refine am_xiadd 5 1 (amo (iv M 59) p) (pc := 58) (ls := [.ref 58, .int (zi o), .int (zi p), .int (zi (amo (iv M 59) o)), .int (zi (amo (iv M 59) p)), .int (zi 0)]) (st := [.ref 59, .int (zi (iv M1 59 (1 + (amo (iv M 59) o))))]) rfl ?_
      obtain ⟨r20, hv⟩ := hv
      refine am_xald rfl rfl rfl r20 ?_
      refine am_xn 0 (c1 := (59, [.ref 58, .int (zi o), .int (zi p), .int (zi (amo (iv M 59) o)), .int (zi (amo (iv M 59) p)), .int (zi 0)], [.int (zi (iv M1 59 (1 + (amo (iv M 59) p)))), .int (zi (iv M1 59 (1 + (amo (iv M 59) o))))], M1)) rfl ?_
      refine am_xn 1 (c1 := (if zi (iv M1 59 (1 + (amo (iv M 59) o))) = zi (iv M1 59 (1 + (amo (iv M 59) p))) then 62 else 86, [.ref 58, .int (zi o), .int (zi p), .int (zi (amo (iv M 59) o)), .int (zi (amo (iv M 59) p)), .int (zi 0)], [], M1)) rfl (am_xeq (iv_r _ _ _) (iv_r _ _ _) (fun h => ?_) (fun h => ?_))
      · replace hv := hv.1 h
        refine am_xn 3 (c1 := (87, [.ref 58, .int (zi o), .int (zi p), .int (zi (amo (iv M 59) o)), .int (zi (amo (iv M 59) p)), .int (zi 0)], [.int (zi 0)], M1)) rfl ?_
        exact am_xr (some (.int (zi 0))) ⟨rfl, rfl, .boolean, rfl, rfl⟩ hv
      · replace hv := hv.2 h
        refine am_xn 1 (c1 := (87, [.ref 58, .int (zi o), .int (zi p), .int (zi (amo (iv M 59) o)), .int (zi (amo (iv M 59) p)), .int (zi 0)], [.int (zi 0)], M1)) rfl ?_
        exact am_xr (some (.int (zi 0))) ⟨rfl, rfl, .boolean, rfl, rfl⟩ hv
    · replace hv := hv.2 h
      refine am_xn 1 (c1 := (87, [.ref 58, .int (zi o), .int (zi p), .int (zi (amo (iv M 59) o)), .int (zi (amo (iv M 59) p)), .int (zi 0)], [.int (zi 0)], M1)) rfl ?_
      exact am_xr (some (.int (zi 0))) ⟨rfl, rfl, .boolean, rfl, rfl⟩ hv
set_option maxRecDepth 100000 in
theorem vc_m_tally (w : Int) (M : am_M) (Q : Option Value → am_M → Prop) (hv : (zr w ∧ zr (0 : Int) ∧ zr (6 : Int)) ∧ ((0 ≤ w ∧ w ≤ 6 → ∃ M1, am_call t_Mo_fullLaw [.ref 58] M none M1 ∧ ((iv M1 59 0 ≤ 20) ∧ (am_x t_Mo_tally (27, [.ref 58, .int (zi w), .int (zi (nops (iv M1 59))), .int (zi 0), .int (zi 0)], [], M1) Q))) ∧ (¬ (0 ≤ w ∧ w ≤ 6) → Q (some (.int (zi (-2)))) M))) : am_x t_Mo_tally (0, am_ent (am_mL t_Mo_tally) [.ref 58, .int (zi w)], [], M) Q := by
  refine am_xn 0 (c1 := (0, [.ref 58, .int (zi w), .null, .null, .null], [], M)) rfl ?_
  refine am_xn 3 (c1 := (4, [.ref 58, .int (zi w), .null, .null, .null], [.int (zi 6), .int (zi 0), .int (zi w)], M)) rfl ?_
  obtain ⟨g, hv⟩ := hv
  by_cases c2 : 0 ≤ w ∧ w ≤ 6
  · replace hv := hv.1 c2
    refine am_xc t_Mo_in (.invokestatic 76) 76 (av := [.int (zi w), .int (zi 0), .int (zi 6)]) (rest := []) (rv := some (.int (zi 1))) (M' := M) rfl rfl rfl rfl (Nat.le_of_ble_eq_true rfl) (fun h => nomatch h) (by have q := sp_in M w 0 6 g; rwa [if_pos c2] at q) ?_
    refine am_xn 0 (c1 := (7, [.ref 58, .int (zi w), .null, .null, .null], [.int (zi 1)], M)) rfl ?_
    refine am_xn 2 (c1 := (14, [.ref 58, .int (zi w), .null, .null, .null], [.ref 58], M)) rfl ?_
    obtain ⟨M1, hc, hv⟩ := hv
    refine am_xc t_Mo_fullLaw (.invokevirtual 242) 242 (av := [.ref 58]) (rest := []) (rv := none) (M' := M1) rfl rfl rfl rfl (Nat.le_of_ble_eq_true rfl) (fun _ => rfl) (hc) ?_
    refine am_xn 0 (c1 := (17, [.ref 58, .int (zi w), .null, .null, .null], [], M1)) rfl ?_
    refine am_xn 1 (c1 := (18, [.ref 58, .int (zi w), .null, .null, .null], [.ref 58], M1)) rfl ?_
    obtain ⟨g, hv⟩ := hv
    refine am_xc t_Mo_operations (.invokevirtual 89) 89 (av := [.ref 58]) (rest := []) (rv := some (.int (zi (nops (iv M1 59))))) (M' := M1) rfl rfl rfl rfl (Nat.le_of_ble_eq_true rfl) (fun _ => rfl) (sp_operations M1 g) ?_
    refine am_xn 0 (c1 := (21, [.ref 58, .int (zi w), .null, .null, .null], [.int (zi (nops (iv M1 59)))], M1)) rfl ?_
    refine am_xn 5 (c1 := (27, [.ref 58, .int (zi w), .int (zi (nops (iv M1 59))), .int (zi 0), .int (zi 0)], [], M1)) rfl ?_
    exact hv
  · replace hv := hv.2 c2
    refine am_xc t_Mo_in (.invokestatic 76) 76 (av := [.int (zi w), .int (zi 0), .int (zi 6)]) (rest := []) (rv := some (.int (zi 0))) (M' := M) rfl rfl rfl rfl (Nat.le_of_ble_eq_true rfl) (fun h => nomatch h) (by have q := sp_in M w 0 6 g; rwa [if_neg c2] at q) ?_
    refine am_xn 0 (c1 := (7, [.ref 58, .int (zi w), .null, .null, .null], [.int (zi 0)], M)) rfl ?_
    refine am_xn 2 (c1 := (12, [.ref 58, .int (zi w), .null, .null, .null], [.int (zi (-2))], M)) rfl ?_
    exact am_xr (some (.int (zi (-2)))) ⟨rfl, rfl, .int, rfl, rfl⟩ hv
set_option maxRecDepth 100000 in
theorem vc_m_tally_27 (x1 : Int) (x2 : Int) (x3 : Int) (x4 : Int) (M : am_M) (Q : Option Value → am_M → Prop) (hv : (zr x4) ∧ ((zr x2) ∧ ((x4 < x2 → ∃ (r4 : Int) (M3 : am_M), am_call t_Mo_statusOf [.ref 58, .int (zi x4)] M (some (.int (zi r4))) M3 ∧ ((zr r4) ∧ ((zr x1) ∧ ((r4 = x1 → am_x t_Mo_tally (27, [.ref 58, .int (zi x1), .int (zi x2), .int (zi (x3 + 1)), .int (zi (x4 + 1))], [], M3) Q) ∧ (¬ r4 = x1 → am_x t_Mo_tally (27, [.ref 58, .int (zi x1), .int (zi x2), .int (zi (x3 + 0)), .int (zi (x4 + 1))], [], M3) Q))))) ∧ (x2 ≤ x4 → am_x t_Mo_tally (60, [.ref 58, .int (zi x1), .int (zi x2), .int (zi x3), .int (zi 0)], [], M) Q)))) : am_x t_Mo_tally (27, [.ref 58, .int (zi x1), .int (zi x2), .int (zi x3), .int (zi x4)], [], M) Q := by
  obtain ⟨r1, hv⟩ := hv
  obtain ⟨r2, hv⟩ := hv
  refine am_xn 3 (c1 := (if zi x4 < zi x2 then 33 else 57, [.ref 58, .int (zi x1), .int (zi x2), .int (zi x3), .int (zi x4)], [], M)) rfl (am_xlt r1 r2 (fun h => ?_) (fun h => ?_))
  · replace hv := hv.1 h
    refine am_xn 3 (c1 := (37, [.ref 58, .int (zi x1), .int (zi x2), .int (zi x3), .int (zi x4)], [.int (zi x4), .ref 58, .int (zi x3)], M)) rfl ?_
    obtain ⟨r4, M3, hc, hv⟩ := hv
    refine am_xc t_Mo_statusOf (.invokevirtual 245) 245 (av := [.ref 58, .int (zi x4)]) (rest := [.int (zi x3)]) (rv := some (.int (zi r4))) (M' := M3) rfl rfl rfl rfl (Nat.le_of_ble_eq_true rfl) (fun _ => rfl) (hc) ?_
    refine am_xn 0 (c1 := (40, [.ref 58, .int (zi x1), .int (zi x2), .int (zi x3), .int (zi x4)], [.int (zi r4), .int (zi x3)], M3)) rfl ?_
    obtain ⟨r5, hv⟩ := hv
    obtain ⟨r6, hv⟩ := hv
    refine am_xn 2 (c1 := (if zi r4 = zi x1 then 44 else 48, [.ref 58, .int (zi x1), .int (zi x2), .int (zi x3), .int (zi x4)], [.int (zi x3)], M3)) rfl (am_xeq r5 r6 (fun h => ?_) (fun h => ?_))
    · replace hv := hv.1 h
      refine am_xiadd 3 x3 1 (pc := 50) (ls := [.ref 58, .int (zi x1), .int (zi x2), .int (zi x3), .int (zi x4)]) (st := []) rfl ?_
      refine am_xn 2 (c1 := (54, [.ref 58, .int (zi x1), .int (zi x2), .int (zi (x3 + 1)), .int (zi x4 + zi 1)], [], M3)) rfl ?_
      rw [zi_add]
      refine am_xn 1 (c1 := (27, [.ref 58, .int (zi x1), .int (zi x2), .int (zi (x3 + 1)), .int (zi (x4 + 1))], [], M3)) rfl ?_
      exact hv
    · replace hv := hv.2 h
      refine am_xiadd 2 x3 0 (pc := 50) (ls := [.ref 58, .int (zi x1), .int (zi x2), .int (zi x3), .int (zi x4)]) (st := []) rfl ?_
      refine am_xn 2 (c1 := (54, [.ref 58, .int (zi x1), .int (zi x2), .int (zi (x3 + 0)), .int (zi x4 + zi 1)], [], M3)) rfl ?_
      rw [zi_add]
      refine am_xn 1 (c1 := (27, [.ref 58, .int (zi x1), .int (zi x2), .int (zi (x3 + 0)), .int (zi (x4 + 1))], [], M3)) rfl ?_
      exact hv
  · replace hv := hv.2 h
    refine am_xn 2 (c1 := (60, [.ref 58, .int (zi x1), .int (zi x2), .int (zi x3), .int (zi 0)], [], M)) rfl ?_
    exact hv
set_option maxRecDepth 100000 in
theorem vc_m_tally_60 (x1 : Int) (x2 : Int) (x3 : Int) (x4 : Int) (M : am_M) (Q : Option Value → am_M → Prop) (hv : (zr x4) ∧ ((zr (x2 * x2)) ∧ ((x4 < (x2 * x2) → (zr x1) ∧ ((x1 = 6 → (zr x2) ∧ ((0 ≤ x4 ∧ 0 < x2) ∧ ((0 ≤ x4 ∧ 0 < x2) ∧ (∃ (r8 : Int) (M7 : am_M), am_call t_Mo_areInConflict [.ref 58, .int (zi (x4 / x2)), .int (zi (x4 % x2))] M (some (.int (zi r8))) M7 ∧ ((zr r8) ∧ ((r8 = 0 → am_x t_Mo_tally (60, [.ref 58, .int (zi x1), .int (zi x2), .int (zi (x3 + 0)), .int (zi (x4 + 1))], [], M7) Q) ∧ (¬ r8 = 0 → am_x t_Mo_tally (60, [.ref 58, .int (zi x1), .int (zi x2), .int (zi (x3 + 1)), .int (zi (x4 + 1))], [], M7) Q))))))) ∧ (¬ x1 = 6 → Q (some (.int (zi x3))) M))) ∧ ((x2 * x2) ≤ x4 → Q (some (.int (zi x3))) M)))) : am_x t_Mo_tally (60, [.ref 58, .int (zi x1), .int (zi x2), .int (zi x3), .int (zi x4)], [], M) Q := by
  refine am_ximul 4 x2 x2 (pc := 65) (ls := [.ref 58, .int (zi x1), .int (zi x2), .int (zi x3), .int (zi x4)]) (st := [.int (zi x4)]) rfl ?_
  obtain ⟨r1, hv⟩ := hv
  obtain ⟨r2, hv⟩ := hv
  refine am_xn 1 (c1 := (if zi x4 < zi (x2 * x2) then 68 else 103, [.ref 58, .int (zi x1), .int (zi x2), .int (zi x3), .int (zi x4)], [], M)) rfl (am_xlt r1 r2 (fun h => ?_) (fun h => ?_))
  · replace hv := hv.1 h
    obtain ⟨r3, hv⟩ := hv
    refine am_xn 3 (c1 := (if zi x1 = zi 6 then 74 else 103, [.ref 58, .int (zi x1), .int (zi x2), .int (zi x3), .int (zi x4)], [], M)) rfl (am_xeq r3 (by decide) (fun h => ?_) (fun h => ?_))
    · replace hv := hv.1 h
      obtain ⟨r4, hv⟩ := hv
      obtain ⟨r5, hv⟩ := hv
      refine am_xn 4 (c1 := (79, [.ref 58, .int (zi x1), .int (zi x2), .int (zi x3), .int (zi x4)], [.int (zi x2), .int (zi x4), .ref 58, .int (zi x3)], M)) rfl ?_
      refine am_xdiv rfl r5.1 r5.2 r1 r4 ?_
      refine am_xn 0 (c1 := (80, [.ref 58, .int (zi x1), .int (zi x2), .int (zi x3), .int (zi x4)], [.int (zi (x4 / x2)), .ref 58, .int (zi x3)], M)) rfl ?_
      obtain ⟨r6, hv⟩ := hv
      refine am_xn 2 (c1 := (83, [.ref 58, .int (zi x1), .int (zi x2), .int (zi x3), .int (zi x4)], [.int (zi x2), .int (zi x4), .int (zi (x4 / x2)), .ref 58, .int (zi x3)], M)) rfl ?_
      refine am_xrem rfl r6.1 r6.2 r1 r4 ?_
      refine am_xn 0 (c1 := (84, [.ref 58, .int (zi x1), .int (zi x2), .int (zi x3), .int (zi x4)], [.int (zi (x4 % x2)), .int (zi (x4 / x2)), .ref 58, .int (zi x3)], M)) rfl ?_
      obtain ⟨r8, M7, hc, hv⟩ := hv
      refine am_xc t_Mo_areInConflict (.invokevirtual 305) 305 (av := [.ref 58, .int (zi (x4 / x2)), .int (zi (x4 % x2))]) (rest := [.int (zi x3)]) (rv := some (.int (zi r8))) (M' := M7) rfl rfl rfl rfl (Nat.le_of_ble_eq_true rfl) (fun _ => rfl) (hc) ?_
      refine am_xn 0 (c1 := (87, [.ref 58, .int (zi x1), .int (zi x2), .int (zi x3), .int (zi x4)], [.int (zi r8), .int (zi x3)], M7)) rfl ?_
      obtain ⟨r9, hv⟩ := hv
      refine am_xn 1 (c1 := (if zi r8 = zi 0 then 94 else 90, [.ref 58, .int (zi x1), .int (zi x2), .int (zi x3), .int (zi x4)], [.int (zi x3)], M7)) rfl (am_xeq r9 (by decide) (fun h => ?_) (fun h => ?_))
      · replace hv := hv.1 h
        refine am_xiadd 2 x3 0 (pc := 96) (ls := [.ref 58, .int (zi x1), .int (zi x2), .int (zi x3), .int (zi x4)]) (st := []) rfl ?_
        refine am_xn 2 (c1 := (100, [.ref 58, .int (zi x1), .int (zi x2), .int (zi (x3 + 0)), .int (zi x4 + zi 1)], [], M7)) rfl ?_
        rw [zi_add]
        refine am_xn 1 (c1 := (60, [.ref 58, .int (zi x1), .int (zi x2), .int (zi (x3 + 0)), .int (zi (x4 + 1))], [], M7)) rfl ?_
        exact hv
      · replace hv := hv.2 h
        refine am_xiadd 3 x3 1 (pc := 96) (ls := [.ref 58, .int (zi x1), .int (zi x2), .int (zi x3), .int (zi x4)]) (st := []) rfl ?_
        refine am_xn 2 (c1 := (100, [.ref 58, .int (zi x1), .int (zi x2), .int (zi (x3 + 1)), .int (zi x4 + zi 1)], [], M7)) rfl ?_
        rw [zi_add]
        refine am_xn 1 (c1 := (60, [.ref 58, .int (zi x1), .int (zi x2), .int (zi (x3 + 1)), .int (zi (x4 + 1))], [], M7)) rfl ?_
        exact hv
    · replace hv := hv.2 h
      refine am_xn 1 (c1 := (104, [.ref 58, .int (zi x1), .int (zi x2), .int (zi x3), .int (zi x4)], [.int (zi x3)], M)) rfl ?_
      exact am_xr (some (.int (zi x3))) ⟨rfl, rfl, .int, rfl, rfl⟩ hv
  · replace hv := hv.2 h
    refine am_xn 1 (c1 := (104, [.ref 58, .int (zi x1), .int (zi x2), .int (zi x3), .int (zi x4)], [.int (zi x3)], M)) rfl ?_
    exact am_xr (some (.int (zi x3))) ⟨rfl, rfl, .int, rfl, rfl⟩ hv
set_option maxRecDepth 100000 in
theorem vc_c_conflict (k : Int) (w : Int) (M : am_M) (Q : Option Value → am_M → Prop) (hv : (zr k) ∧ ((k < 0 → Q (some (.int (zi (-2)))) M) ∧ (0 ≤ k → (zr w ∧ zr (4 : Int)) ∧ ((0 ≤ w ∧ w ≤ 4 → ∃ M2, am_call t_SB_consolidateFully [.ref 0] M none M2 ∧ (am_x t_SB_conflict (24, [.ref 0, .int (zi k), .int (zi w), .int (zi 0), .int (zi 0), .null], [], M2) Q)) ∧ (¬ (0 ≤ w ∧ w ≤ 4) → Q (some (.int (zi (-2)))) M))))) : am_x t_SB_conflict (0, am_ent (am_mL t_SB_conflict) [.ref 0, .int (zi k), .int (zi w)], [], M) Q := by
  refine am_xn 0 (c1 := (0, [.ref 0, .int (zi k), .int (zi w), .null, .null, .null], [], M)) rfl ?_
  obtain ⟨r1, hv⟩ := hv
  refine am_xn 2 (c1 := (if zi k < zi 0 then 12 else 4, [.ref 0, .int (zi k), .int (zi w), .null, .null, .null], [], M)) rfl (am_xlt r1 (by decide) (fun h => ?_) (fun h => ?_))
  · replace hv := hv.1 h
    refine am_xn 1 (c1 := (14, [.ref 0, .int (zi k), .int (zi w), .null, .null, .null], [.int (zi (-2))], M)) rfl ?_
    exact am_xr (some (.int (zi (-2)))) ⟨rfl, rfl, .int, rfl, rfl⟩ hv
  · replace hv := hv.2 h
    refine am_xn 2 (c1 := (6, [.ref 0, .int (zi k), .int (zi w), .null, .null, .null], [.int (zi 4), .int (zi w)], M)) rfl ?_
    obtain ⟨g, hv⟩ := hv
    by_cases c3 : 0 ≤ w ∧ w ≤ 4
    · replace hv := hv.1 c3
      refine am_xc t_SB_within (.invokestatic 56) 56 (av := [.int (zi w), .int (zi 4)]) (rest := []) (rv := some (.int (zi 1))) (M' := M) rfl rfl rfl rfl (Nat.le_of_ble_eq_true rfl) (fun h => nomatch h) (by have q := sp_within M w 4 g; rwa [if_pos c3] at q) ?_
      refine am_xn 0 (c1 := (9, [.ref 0, .int (zi k), .int (zi w), .null, .null, .null], [.int (zi 1)], M)) rfl ?_
      refine am_xn 2 (c1 := (16, [.ref 0, .int (zi k), .int (zi w), .null, .null, .null], [.ref 0], M)) rfl ?_
      obtain ⟨M2, hc, hv⟩ := hv
      refine am_xc t_SB_consolidateFully (.invokevirtual 128) 128 (av := [.ref 0]) (rest := []) (rv := none) (M' := M2) rfl rfl rfl rfl (Nat.le_of_ble_eq_true rfl) (fun _ => rfl) (hc) ?_
      refine am_xn 0 (c1 := (19, [.ref 0, .int (zi k), .int (zi w), .null, .null, .null], [], M2)) rfl ?_
      refine am_xn 4 (c1 := (24, [.ref 0, .int (zi k), .int (zi w), .int (zi 0), .int (zi 0), .null], [], M2)) rfl ?_
      exact hv
    · replace hv := hv.2 c3
      refine am_xc t_SB_within (.invokestatic 56) 56 (av := [.int (zi w), .int (zi 4)]) (rest := []) (rv := some (.int (zi 0))) (M' := M) rfl rfl rfl rfl (Nat.le_of_ble_eq_true rfl) (fun h => nomatch h) (by have q := sp_within M w 4 g; rwa [if_neg c3] at q) ?_
      refine am_xn 0 (c1 := (9, [.ref 0, .int (zi k), .int (zi w), .null, .null, .null], [.int (zi 0)], M)) rfl ?_
      refine am_xn 2 (c1 := (14, [.ref 0, .int (zi k), .int (zi w), .null, .null, .null], [.int (zi (-2))], M)) rfl ?_
      exact am_xr (some (.int (zi (-2)))) ⟨rfl, rfl, .int, rfl, rfl⟩ hv
set_option maxRecDepth 100000 in
theorem vc_c_conflict_24 (x1 : Int) (x2 : Int) (x3 : Int) (x4 : Int) (M : am_M) (Q : Option Value → am_M → Prop) (hv : (zr x4) ∧ ((x4 < (iv M 11 1) → am_x t_SB_conflict (42, [.ref 0, .int (zi x1), .int (zi x2), .int (zi x3), .int (zi x4), .int (zi (x4 + 1))], [], M) Q) ∧ ((iv M 11 1) ≤ x4 → Q (some (.int (zi (-1)))) M))) : am_x t_SB_conflict (24, [.ref 0, .int (zi x1), .int (zi x2), .int (zi x3), .int (zi x4), .null], [], M) Q := by
  refine am_xn 3 (c1 := (30, [.ref 0, .int (zi x1), .int (zi x2), .int (zi x3), .int (zi x4), .null], [.ref 9, .int (zi x4)], M)) rfl ?_
  refine am_xc t_Amd_operations (.invokevirtual 256) 256 (av := [.ref 9]) (rest := [.int (zi x4)]) (rv := some (.int (zi (iv M 11 1)))) (M' := M) rfl rfl rfl rfl (Nat.le_of_ble_eq_true rfl) (fun _ => rfl) (sp_c_operations M) ?_
  refine am_xn 0 (c1 := (33, [.ref 0, .int (zi x1), .int (zi x2), .int (zi x3), .int (zi x4), .null], [.int (zi (iv M 11 1)), .int (zi x4)], M)) rfl ?_
  obtain ⟨r1, hv⟩ := hv
  refine am_xn 1 (c1 := (if zi x4 < zi (iv M 11 1) then 36 else 95, [.ref 0, .int (zi x1), .int (zi x2), .int (zi x3), .int (zi x4), .null], [], M)) rfl (am_xlt r1 (iv_r _ _ _) (fun h => ?_) (fun h => ?_))
  · replace hv := hv.1 h
    refine am_xiadd 3 x4 1 (pc := 40) (ls := [.ref 0, .int (zi x1), .int (zi x2), .int (zi x3), .int (zi x4), .null]) (st := []) rfl ?_
    refine am_xn 1 (c1 := (42, [.ref 0, .int (zi x1), .int (zi x2), .int (zi x3), .int (zi x4), .int (zi (x4 + 1))], [], M)) rfl ?_
    exact hv
  · replace hv := hv.2 h
    refine am_xn 1 (c1 := (96, [.ref 0, .int (zi x1), .int (zi x2), .int (zi x3), .int (zi x4), .null], [.int (zi (-1))], M)) rfl ?_
    exact am_xr (some (.int (zi (-1)))) ⟨rfl, rfl, .int, rfl, rfl⟩ hv
set_option maxRecDepth 100000 in
theorem vc_c_conflict_42 (x1 : Int) (x2 : Int) (x3 : Int) (x4 : Int) (x5 : Int) (M : am_M) (Q : Option Value → am_M → Prop) (hv : (zr x5) ∧ ((x5 < (iv M 11 1) → ∃ (r3 : Int) (M2 : am_M), am_call t_SB_clash [.ref 0, .int (zi x4), .int (zi x5)] M (some (.int (zi r3))) M2 ∧ ((zr r3) ∧ ((r3 = 0 → am_x t_SB_conflict (42, [.ref 0, .int (zi x1), .int (zi x2), .int (zi x3), .int (zi x4), .int (zi (x5 + 1))], [], M2) Q) ∧ (¬ r3 = 0 → (zr x3) ∧ ((zr x1) ∧ ((x3 = x1 → ∃ (r8 : Int) (M7 : am_M), am_call t_SB_conflictPart [.ref 0, .int (zi x4), .int (zi x5), .int (zi x2)] M2 (some (.int (zi r8))) M7 ∧ (Q (some (.int (zi r8))) M7)) ∧ (¬ x3 = x1 → am_x t_SB_conflict (42, [.ref 0, .int (zi x1), .int (zi x2), .int (zi (x3 + 1)), .int (zi x4), .int (zi (x5 + 1))], [], M2) Q))))))) ∧ ((iv M 11 1) ≤ x5 → am_x t_SB_conflict (24, [.ref 0, .int (zi x1), .int (zi x2), .int (zi x3), .int (zi (x4 + 1)), .null], [], M) Q))) : am_x t_SB_conflict (42, [.ref 0, .int (zi x1), .int (zi x2), .int (zi x3), .int (zi x4), .int (zi x5)], [], M) Q := by
  refine am_xn 3 (c1 := (48, [.ref 0, .int (zi x1), .int (zi x2), .int (zi x3), .int (zi x4), .int (zi x5)], [.ref 9, .int (zi x5)], M)) rfl ?_
  refine am_xc t_Amd_operations (.invokevirtual 256) 256 (av := [.ref 9]) (rest := [.int (zi x5)]) (rv := some (.int (zi (iv M 11 1)))) (M' := M) rfl rfl rfl rfl (Nat.le_of_ble_eq_true rfl) (fun _ => rfl) (sp_c_operations M) ?_
  refine am_xn 0 (c1 := (51, [.ref 0, .int (zi x1), .int (zi x2), .int (zi x3), .int (zi x4), .int (zi x5)], [.int (zi (iv M 11 1)), .int (zi x5)], M)) rfl ?_
  obtain ⟨r1, hv⟩ := hv
  refine am_xn 1 (c1 := (if zi x5 < zi (iv M 11 1) then 54 else 89, [.ref 0, .int (zi x1), .int (zi x2), .int (zi x3), .int (zi x4), .int (zi x5)], [], M)) rfl (am_xlt r1 (iv_r _ _ _) (fun h => ?_) (fun h => ?_))
  · replace hv := hv.1 h
    refine am_xn 3 (c1 := (59, [.ref 0, .int (zi x1), .int (zi x2), .int (zi x3), .int (zi x4), .int (zi x5)], [.int (zi x5), .int (zi x4), .ref 0], M)) rfl ?_
    obtain ⟨r3, M2, hc, hv⟩ := hv
    refine am_xc t_SB_clash (.invokevirtual 259) 259 (av := [.ref 0, .int (zi x4), .int (zi x5)]) (rest := []) (rv := some (.int (zi r3))) (M' := M2) rfl rfl rfl rfl (Nat.le_of_ble_eq_true rfl) (fun _ => rfl) (hc) ?_
    refine am_xn 0 (c1 := (62, [.ref 0, .int (zi x1), .int (zi x2), .int (zi x3), .int (zi x4), .int (zi x5)], [.int (zi r3)], M2)) rfl ?_
    obtain ⟨r4, hv⟩ := hv
    refine am_xn 1 (c1 := (if zi r3 = zi 0 then 83 else 65, [.ref 0, .int (zi x1), .int (zi x2), .int (zi x3), .int (zi x4), .int (zi x5)], [], M2)) rfl (am_xeq r4 (by decide) (fun h => ?_) (fun h => ?_))
    · replace hv := hv.1 h
      refine am_xn 1 (c1 := (86, [.ref 0, .int (zi x1), .int (zi x2), .int (zi x3), .int (zi x4), .int (zi x5 + zi 1)], [], M2)) rfl ?_
      rw [zi_add]
      refine am_xn 1 (c1 := (42, [.ref 0, .int (zi x1), .int (zi x2), .int (zi x3), .int (zi x4), .int (zi (x5 + 1))], [], M2)) rfl ?_
      exact hv
    · replace hv := hv.2 h
      obtain ⟨r5, hv⟩ := hv
      obtain ⟨r6, hv⟩ := hv
      refine am_xn 3 (c1 := (if zi x3 = zi x1 then 70 else 80, [.ref 0, .int (zi x1), .int (zi x2), .int (zi x3), .int (zi x4), .int (zi x5)], [], M2)) rfl (am_xeq r5 r6 (fun h => ?_) (fun h => ?_))
      · replace hv := hv.1 h
        refine am_xn 4 (c1 := (76, [.ref 0, .int (zi x1), .int (zi x2), .int (zi x3), .int (zi x4), .int (zi x5)], [.int (zi x2), .int (zi x5), .int (zi x4), .ref 0], M2)) rfl ?_
        obtain ⟨r8, M7, hc, hv⟩ := hv
        refine am_xc t_SB_conflictPart (.invokevirtual 262) 262 (av := [.ref 0, .int (zi x4), .int (zi x5), .int (zi x2)]) (rest := []) (rv := some (.int (zi r8))) (M' := M7) rfl rfl rfl rfl (Nat.le_of_ble_eq_true rfl) (fun _ => rfl) (hc) ?_
        refine am_xn 0 (c1 := (79, [.ref 0, .int (zi x1), .int (zi x2), .int (zi x3), .int (zi x4), .int (zi x5)], [.int (zi r8)], M7)) rfl ?_
        exact am_xr (some (.int (zi r8))) ⟨rfl, rfl, .int, rfl, rfl⟩ hv
      · replace hv := hv.2 h
        refine am_xn 1 (c1 := (83, [.ref 0, .int (zi x1), .int (zi x2), .int (zi x3 + zi 1), .int (zi x4), .int (zi x5)], [], M2)) rfl ?_
        rw [zi_add]
        refine am_xn 1 (c1 := (86, [.ref 0, .int (zi x1), .int (zi x2), .int (zi (x3 + 1)), .int (zi x4), .int (zi x5 + zi 1)], [], M2)) rfl ?_
        rw [zi_add]
        refine am_xn 1 (c1 := (42, [.ref 0, .int (zi x1), .int (zi x2), .int (zi (x3 + 1)), .int (zi x4), .int (zi (x5 + 1))], [], M2)) rfl ?_
        exact hv
  · replace hv := hv.2 h
    refine am_xn 1 (c1 := (92, [.ref 0, .int (zi x1), .int (zi x2), .int (zi x3), .int (zi x4 + zi 1), .int (zi x5)], [], M)) rfl ?_
    rw [zi_add]
    refine am_xn 1 (c1 := (24, [.ref 0, .int (zi x1), .int (zi x2), .int (zi x3), .int (zi (x4 + 1)), .int (zi x5)], [], M)) rfl ?_
    refine am_xf 5 ?_
    exact hv
set_option maxRecDepth 100000 in
theorem vc_conflictPart (o : Int) (p : Int) (w : Int) (M : am_M) (Q : Option Value → am_M → Prop) (hv : ∃ (r2 : Int) (M1 : am_M), am_call t_Amd_amendmentOf [.ref 9, .int (zi o)] M (some (.int (zi r2))) M1 ∧ (∃ (r4 : Int) (M3 : am_M), am_call t_Amd_amendmentOf [.ref 9, .int (zi p)] M1 (some (.int (zi r4))) M3 ∧ ((zr w) ∧ ((w = 0 → Q (some (.int (zi r2))) M3) ∧ (w = 1 → (0 ≤ r2 ∧ r2 ≤ 20) ∧ (Q (some (.int (zi (o - (iv M3 11 (24 + r2)))))) M3)) ∧ (w = 2 → Q (some (.int (zi r4))) M3) ∧ (w = 3 → (0 ≤ r4 ∧ r4 ≤ 20) ∧ (Q (some (.int (zi (p - (iv M3 11 (24 + r4)))))) M3)) ∧ (¬ w = 0 → ¬ w = 1 → ¬ w = 2 → ¬ w = 3 → (0 ≤ o ∧ o < 120) ∧ (Q (some (.int (zi (iv M3 29 o)))) M3)))))) : am_x t_SB_conflictPart (0, am_ent (am_mL t_SB_conflictPart) [.ref 0, .int (zi o), .int (zi p), .int (zi w)], [], M) Q := by
  refine am_xn 0 (c1 := (0, [.ref 0, .int (zi o), .int (zi p), .int (zi w), .null, .null], [], M)) rfl ?_
  refine am_xn 3 (c1 := (5, [.ref 0, .int (zi o), .int (zi p), .int (zi w), .null, .null], [.int (zi o), .ref 9], M)) rfl ?_
  obtain ⟨r2, M1, hc, hv⟩ := hv
  refine am_xc t_Amd_amendmentOf (.invokevirtual 214) 214 (av := [.ref 9, .int (zi o)]) (rest := []) (rv := some (.int (zi r2))) (M' := M1) rfl rfl rfl rfl (Nat.le_of_ble_eq_true rfl) (fun _ => rfl) (hc) ?_
  refine am_xn 0 (c1 := (8, [.ref 0, .int (zi o), .int (zi p), .int (zi w), .null, .null], [.int (zi r2)], M1)) rfl ?_
  refine am_xn 4 (c1 := (15, [.ref 0, .int (zi o), .int (zi p), .int (zi w), .int (zi r2), .null], [.int (zi p), .ref 9], M1)) rfl ?_
  obtain ⟨r4, M3, hc, hv⟩ := hv
  refine am_xc t_Amd_amendmentOf (.invokevirtual 214) 214 (av := [.ref 9, .int (zi p)]) (rest := []) (rv := some (.int (zi r4))) (M' := M3) rfl rfl rfl rfl (Nat.le_of_ble_eq_true rfl) (fun _ => rfl) (hc) ?_
  refine am_xn 0 (c1 := (18, [.ref 0, .int (zi o), .int (zi p), .int (zi w), .int (zi r2), .null], [.int (zi r4)], M3)) rfl ?_
  obtain ⟨r5, hv⟩ := hv
  refine am_xn 2 (c1 := (21, [.ref 0, .int (zi o), .int (zi p), .int (zi w), .int (zi r2), .int (zi r4)], [.int (zi w)], M3)) rfl ?_
  by_cases h0 : w = 0
  · replace hv := hv.1 h0
    refine am_xswt rfl 0 (by rw [h0]; rfl) 52 rfl ?_
    refine am_xn 1 (c1 := (54, [.ref 0, .int (zi o), .int (zi p), .int (zi w), .int (zi r2), .int (zi r4)], [.int (zi r2)], M3)) rfl ?_
    exact am_xr (some (.int (zi r2))) ⟨rfl, rfl, .int, rfl, rfl⟩ hv
  replace hv := hv.2
  by_cases h1 : w = 1
  · replace hv := hv.1 h1
    refine am_xswt rfl 1 (by rw [h1]; rfl) 55 rfl ?_
    refine am_xn 4 (c1 := (62, [.ref 0, .int (zi o), .int (zi p), .int (zi w), .int (zi r2), .int (zi r4)], [.int (zi r2), .ref 9, .int (zi o)], M3)) rfl ?_
    obtain ⟨g, hv⟩ := hv
    refine am_xc t_Amd_start (.invokevirtual 138) 138 (av := [.ref 9, .int (zi r2)]) (rest := [.int (zi o)]) (rv := some (.int (zi (iv M3 11 (24 + r2))))) (M' := M3) rfl rfl rfl rfl (Nat.le_of_ble_eq_true rfl) (fun _ => rfl) (sp_c_start M3 r2 g) ?_
    refine am_xn 0 (c1 := (65, [.ref 0, .int (zi o), .int (zi p), .int (zi w), .int (zi r2), .int (zi r4)], [.int (zi (iv M3 11 (24 + r2))), .int (zi o)], M3)) rfl ?_
    refine am_xisub 1 o (iv M3 11 (24 + r2)) (pc := 66) (ls := [.ref 0, .int (zi o), .int (zi p), .int (zi w), .int (zi r2), .int (zi r4)]) (st := []) rfl ?_
    exact am_xr (some (.int (zi (o - (iv M3 11 (24 + r2)))))) ⟨rfl, rfl, .int, rfl, rfl⟩ hv
  replace hv := hv.2
  by_cases h2 : w = 2
  · replace hv := hv.1 h2
    refine am_xswt rfl 2 (by rw [h2]; rfl) 67 rfl ?_
    refine am_xn 1 (c1 := (69, [.ref 0, .int (zi o), .int (zi p), .int (zi w), .int (zi r2), .int (zi r4)], [.int (zi r4)], M3)) rfl ?_
    exact am_xr (some (.int (zi r4))) ⟨rfl, rfl, .int, rfl, rfl⟩ hv
  replace hv := hv.2
  by_cases h3 : w = 3
  · replace hv := hv.1 h3
    refine am_xswt rfl 3 (by rw [h3]; rfl) 70 rfl ?_
    refine am_xn 4 (c1 := (77, [.ref 0, .int (zi o), .int (zi p), .int (zi w), .int (zi r2), .int (zi r4)], [.int (zi r4), .ref 9, .int (zi p)], M3)) rfl ?_
    obtain ⟨g, hv⟩ := hv
    refine am_xc t_Amd_start (.invokevirtual 138) 138 (av := [.ref 9, .int (zi r4)]) (rest := [.int (zi p)]) (rv := some (.int (zi (iv M3 11 (24 + r4))))) (M' := M3) rfl rfl rfl rfl (Nat.le_of_ble_eq_true rfl) (fun _ => rfl) (sp_c_start M3 r4 g) ?_
    refine am_xn 0 (c1 := (80, [.ref 0, .int (zi o), .int (zi p), .int (zi w), .int (zi r2), .int (zi r4)], [.int (zi (iv M3 11 (24 + r4))), .int (zi p)], M3)) rfl ?_
    refine am_xisub 1 p (iv M3 11 (24 + r4)) (pc := 81) (ls := [.ref 0, .int (zi o), .int (zi p), .int (zi w), .int (zi r2), .int (zi r4)]) (st := []) rfl ?_
    exact am_xr (some (.int (zi (p - (iv M3 11 (24 + r4)))))) ⟨rfl, rfl, .int, rfl, rfl⟩ hv
  replace hv := hv.2
  replace hv := hv h0 h1 h2 h3
  refine am_xswd rfl r5 (by omega) 82 rfl ?_
  refine am_xn 3 (c1 := (87, [.ref 0, .int (zi o), .int (zi p), .int (zi w), .int (zi r2), .int (zi r4)], [.int (zi o), .ref 15], M3)) rfl ?_
  obtain ⟨g, hv⟩ := hv
  refine am_xc t_Law_affected (.invokevirtual 153) 153 (av := [.ref 15, .int (zi o)]) (rest := []) (rv := some (.int (zi (iv M3 29 o)))) (M' := M3) rfl rfl rfl rfl (Nat.le_of_ble_eq_true rfl) (fun _ => rfl) (sp_l15_affected M3 o g) ?_
  refine am_xn 0 (c1 := (90, [.ref 0, .int (zi o), .int (zi p), .int (zi w), .int (zi r2), .int (zi r4)], [.int (zi (iv M3 29 o))], M3)) rfl ?_
  exact am_xr (some (.int (zi (iv M3 29 o)))) ⟨rfl, rfl, .int, rfl, rfl⟩ hv
set_option maxRecDepth 100000 in
theorem vc_m_conflict (k : Int) (w : Int) (M : am_M) (Q : Option Value → am_M → Prop) (hv : (zr k) ∧ ((k < 0 → Q (some (.int (zi (-2)))) M) ∧ (0 ≤ k → (zr w ∧ zr (0 : Int) ∧ zr (4 : Int)) ∧ ((0 ≤ w ∧ w ≤ 4 → ∃ M2, am_call t_Mo_fullLaw [.ref 58] M none M2 ∧ ((iv M2 59 0 ≤ 20) ∧ (am_x t_Mo_conflict (31, [.ref 58, .null, .int (zi w), .int (zi (nops (iv M2 59))), .int (zi k), .int (zi 0), .null, .null], [], M2) Q))) ∧ (¬ (0 ≤ w ∧ w ≤ 4) → Q (some (.int (zi (-2)))) M))))) : am_x t_Mo_conflict (0, am_ent (am_mL t_Mo_conflict) [.ref 58, .int (zi k), .int (zi w)], [], M) Q := by
  refine am_xn 0 (c1 := (0, [.ref 58, .int (zi k), .int (zi w), .null, .null, .null, .null, .null], [], M)) rfl ?_
  obtain ⟨r1, hv⟩ := hv
  refine am_xn 2 (c1 := (if zi k < zi 0 then 13 else 4, [.ref 58, .int (zi k), .int (zi w), .null, .null, .null, .null, .null], [], M)) rfl (am_xlt r1 (by decide) (fun h => ?_) (fun h => ?_))
  · replace hv := hv.1 h
    refine am_xn 1 (c1 := (15, [.ref 58, .int (zi k), .int (zi w), .null, .null, .null, .null, .null], [.int (zi (-2))], M)) rfl ?_
    exact am_xr (some (.int (zi (-2)))) ⟨rfl, rfl, .int, rfl, rfl⟩ hv
  · replace hv := hv.2 h
    refine am_xn 3 (c1 := (7, [.ref 58, .int (zi k), .int (zi w), .null, .null, .null, .null, .null], [.int (zi 4), .int (zi 0), .int (zi w)], M)) rfl ?_
    obtain ⟨g, hv⟩ := hv
    by_cases c3 : 0 ≤ w ∧ w ≤ 4
    · replace hv := hv.1 c3
      refine am_xc t_Mo_in (.invokestatic 76) 76 (av := [.int (zi w), .int (zi 0), .int (zi 4)]) (rest := []) (rv := some (.int (zi 1))) (M' := M) rfl rfl rfl rfl (Nat.le_of_ble_eq_true rfl) (fun h => nomatch h) (by have q := sp_in M w 0 4 g; rwa [if_pos c3] at q) ?_
      refine am_xn 0 (c1 := (10, [.ref 58, .int (zi k), .int (zi w), .null, .null, .null, .null, .null], [.int (zi 1)], M)) rfl ?_
      refine am_xn 2 (c1 := (17, [.ref 58, .int (zi k), .int (zi w), .null, .null, .null, .null, .null], [.ref 58], M)) rfl ?_
      obtain ⟨M2, hc, hv⟩ := hv
      refine am_xc t_Mo_fullLaw (.invokevirtual 242) 242 (av := [.ref 58]) (rest := []) (rv := none) (M' := M2) rfl rfl rfl rfl (Nat.le_of_ble_eq_true rfl) (fun _ => rfl) (hc) ?_
      refine am_xn 0 (c1 := (20, [.ref 58, .int (zi k), .int (zi w), .null, .null, .null, .null, .null], [], M2)) rfl ?_
      refine am_xn 1 (c1 := (21, [.ref 58, .int (zi k), .int (zi w), .null, .null, .null, .null, .null], [.ref 58], M2)) rfl ?_
      obtain ⟨g, hv⟩ := hv
      refine am_xc t_Mo_operations (.invokevirtual 89) 89 (av := [.ref 58]) (rest := []) (rv := some (.int (zi (nops (iv M2 59))))) (M' := M2) rfl rfl rfl rfl (Nat.le_of_ble_eq_true rfl) (fun _ => rfl) (sp_operations M2 g) ?_
      refine am_xn 0 (c1 := (24, [.ref 58, .int (zi k), .int (zi w), .null, .null, .null, .null, .null], [.int (zi (nops (iv M2 59)))], M2)) rfl ?_
      refine am_xn 5 (c1 := (31, [.ref 58, .int (zi k), .int (zi w), .int (zi (nops (iv M2 59))), .int (zi k), .int (zi 0), .null, .null], [], M2)) rfl ?_
      refine am_xf 1 ?_
      exact hv
    · replace hv := hv.2 c3
      refine am_xc t_Mo_in (.invokestatic 76) 76 (av := [.int (zi w), .int (zi 0), .int (zi 4)]) (rest := []) (rv := some (.int (zi 0))) (M' := M) rfl rfl rfl rfl (Nat.le_of_ble_eq_true rfl) (fun h => nomatch h) (by have q := sp_in M w 0 4 g; rwa [if_neg c3] at q) ?_
      refine am_xn 0 (c1 := (10, [.ref 58, .int (zi k), .int (zi w), .null, .null, .null, .null, .null], [.int (zi 0)], M)) rfl ?_
      refine am_xn 2 (c1 := (15, [.ref 58, .int (zi k), .int (zi w), .null, .null, .null, .null, .null], [.int (zi (-2))], M)) rfl ?_
      exact am_xr (some (.int (zi (-2)))) ⟨rfl, rfl, .int, rfl, rfl⟩ hv
set_option maxRecDepth 100000 in
theorem vc_m_conflict_31 (x2 : Int) (x3 : Int) (x4 : Int) (x5 : Int) (M : am_M) (Q : Option Value → am_M → Prop) (hv : (zr x5) ∧ ((zr (x3 * x3)) ∧ ((x5 < (x3 * x3) → (zr x3) ∧ ((0 ≤ x5 ∧ 0 < x3) ∧ ((0 ≤ x5 ∧ 0 < x3) ∧ (∃ (r7 : Int) (M6 : am_M), am_call t_Mo_areInConflict [.ref 58, .int (zi (x5 / x3)), .int (zi (x5 % x3))] M (some (.int (zi r7))) M6 ∧ ((zr r7) ∧ ((r7 = 0 → am_x t_Mo_conflict (31, [.ref 58, .null, .int (zi x2), .int (zi x3), .int (zi x4), .int (zi (x5 + 1)), .null, .null], [], M6) Q) ∧ (¬ r7 = 0 → (zr x4) ∧ ((x4 = 0 → ∃ (r11 : Int) (M10 : am_M), am_call t_Mo_ofConflict [.ref 58, .int (zi (x5 / x3)), .int (zi (x5 % x3)), .int (zi x2)] M6 (some (.int (zi r11))) M10 ∧ (Q (some (.int (zi r11))) M10)) ∧ (¬ x4 = 0 → am_x t_Mo_conflict (31, [.ref 58, .null, .int (zi x2), .int (zi x3), .int (zi (x4 + (-1))), .int (zi (x5 + 1)), .null, .null], [], M6) Q))))))))) ∧ ((x3 * x3) ≤ x5 → Q (some (.int (zi (-1)))) M)))) : am_x t_Mo_conflict (31, [.ref 58, .null, .int (zi x2), .int (zi x3), .int (zi x4), .int (zi x5), .null, .null], [], M) Q := by
  refine am_ximul 4 x3 x3 (pc := 36) (ls := [.ref 58, .null, .int (zi x2), .int (zi x3), .int (zi x4), .int (zi x5), .null, .null]) (st := [.int (zi x5)]) rfl ?_
  obtain ⟨r1, hv⟩ := hv
  obtain ⟨r2, hv⟩ := hv
  refine am_xn 1 (c1 := (if zi x5 < zi (x3 * x3) then 39 else 86, [.ref 58, .null, .int (zi x2), .int (zi x3), .int (zi x4), .int (zi x5), .null, .null], [], M)) rfl (am_xlt r1 r2 (fun h => ?_) (fun h => ?_))
  · replace hv := hv.1 h
    obtain ⟨r3, hv⟩ := hv
    obtain ⟨r4, hv⟩ := hv
    refine am_xn 2 (c1 := (42, [.ref 58, .null, .int (zi x2), .int (zi x3), .int (zi x4), .int (zi x5), .null, .null], [.int (zi x3), .int (zi x5)], M)) rfl ?_
    refine am_xdiv rfl r4.1 r4.2 r1 r3 ?_
    refine am_xn 0 (c1 := (43, [.ref 58, .null, .int (zi x2), .int (zi x3), .int (zi x4), .int (zi x5), .null, .null], [.int (zi (x5 / x3))], M)) rfl ?_
    obtain ⟨r5, hv⟩ := hv
    refine am_xn 3 (c1 := (48, [.ref 58, .null, .int (zi x2), .int (zi x3), .int (zi x4), .int (zi x5), .int (zi (x5 / x3)), .null], [.int (zi x3), .int (zi x5)], M)) rfl ?_
    refine am_xrem rfl r5.1 r5.2 r1 r3 ?_
    refine am_xn 0 (c1 := (49, [.ref 58, .null, .int (zi x2), .int (zi x3), .int (zi x4), .int (zi x5), .int (zi (x5 / x3)), .null], [.int (zi (x5 % x3))], M)) rfl ?_
    refine am_xn 4 (c1 := (56, [.ref 58, .null, .int (zi x2), .int (zi x3), .int (zi x4), .int (zi x5), .int (zi (x5 / x3)), .int (zi (x5 % x3))], [.int (zi (x5 % x3)), .int (zi (x5 / x3)), .ref 58], M)) rfl ?_
    obtain ⟨r7, M6, hc, hv⟩ := hv
    refine am_xc t_Mo_areInConflict (.invokevirtual 305) 305 (av := [.ref 58, .int (zi (x5 / x3)), .int (zi (x5 % x3))]) (rest := []) (rv := some (.int (zi r7))) (M' := M6) rfl rfl rfl rfl (Nat.le_of_ble_eq_true rfl) (fun _ => rfl) (hc) ?_
    refine am_xn 0 (c1 := (59, [.ref 58, .null, .int (zi x2), .int (zi x3), .int (zi x4), .int (zi x5), .int (zi (x5 / x3)), .int (zi (x5 % x3))], [.int (zi r7)], M6)) rfl ?_
    obtain ⟨r8, hv⟩ := hv
    refine am_xn 1 (c1 := (if zi r7 = zi 0 then 80 else 62, [.ref 58, .null, .int (zi x2), .int (zi x3), .int (zi x4), .int (zi x5), .int (zi (x5 / x3)), .int (zi (x5 % x3))], [], M6)) rfl (am_xeq r8 (by decide) (fun h => ?_) (fun h => ?_))
    · replace hv := hv.1 h
      refine am_xn 1 (c1 := (83, [.ref 58, .null, .int (zi x2), .int (zi x3), .int (zi x4), .int (zi x5 + zi 1), .int (zi (x5 / x3)), .int (zi (x5 % x3))], [], M6)) rfl ?_
      rw [zi_add]
      refine am_xn 1 (c1 := (31, [.ref 58, .null, .int (zi x2), .int (zi x3), .int (zi x4), .int (zi (x5 + 1)), .int (zi (x5 / x3)), .int (zi (x5 % x3))], [], M6)) rfl ?_
      refine am_xf 6 ?_
      refine am_xf 7 ?_
      exact hv
    · replace hv := hv.2 h
      obtain ⟨r9, hv⟩ := hv
      refine am_xn 2 (c1 := (if zi x4 = zi 0 then 67 else 77, [.ref 58, .null, .int (zi x2), .int (zi x3), .int (zi x4), .int (zi x5), .int (zi (x5 / x3)), .int (zi (x5 % x3))], [], M6)) rfl (am_xeq r9 (by decide) (fun h => ?_) (fun h => ?_))
      · replace hv := hv.1 h
        refine am_xn 4 (c1 := (73, [.ref 58, .null, .int (zi x2), .int (zi x3), .int (zi x4), .int (zi x5), .int (zi (x5 / x3)), .int (zi (x5 % x3))], [.int (zi x2), .int (zi (x5 % x3)), .int (zi (x5 / x3)), .ref 58], M6)) rfl ?_
        obtain ⟨r11, M10, hc, hv⟩ := hv
        refine am_xc t_Mo_ofConflict (.invokevirtual 308) 308 (av := [.ref 58, .int (zi (x5 / x3)), .int (zi (x5 % x3)), .int (zi x2)]) (rest := []) (rv := some (.int (zi r11))) (M' := M10) rfl rfl rfl rfl (Nat.le_of_ble_eq_true rfl) (fun _ => rfl) (hc) ?_
        refine am_xn 0 (c1 := (76, [.ref 58, .null, .int (zi x2), .int (zi x3), .int (zi x4), .int (zi x5), .int (zi (x5 / x3)), .int (zi (x5 % x3))], [.int (zi r11)], M10)) rfl ?_
        exact am_xr (some (.int (zi r11))) ⟨rfl, rfl, .int, rfl, rfl⟩ hv
      · replace hv := hv.2 h
        refine am_xn 1 (c1 := (80, [.ref 58, .null, .int (zi x2), .int (zi x3), .int (zi x4 + zi (-1)), .int (zi x5), .int (zi (x5 / x3)), .int (zi (x5 % x3))], [], M6)) rfl ?_
        rw [zi_add]
        refine am_xn 1 (c1 := (83, [.ref 58, .null, .int (zi x2), .int (zi x3), .int (zi (x4 + (-1))), .int (zi x5 + zi 1), .int (zi (x5 / x3)), .int (zi (x5 % x3))], [], M6)) rfl ?_
        rw [zi_add]
        refine am_xn 1 (c1 := (31, [.ref 58, .null, .int (zi x2), .int (zi x3), .int (zi (x4 + (-1))), .int (zi (x5 + 1)), .int (zi (x5 / x3)), .int (zi (x5 % x3))], [], M6)) rfl ?_
        refine am_xf 6 ?_
        refine am_xf 7 ?_
        exact hv
  · replace hv := hv.2 h
    refine am_xn 1 (c1 := (87, [.ref 58, .null, .int (zi x2), .int (zi x3), .int (zi x4), .int (zi x5), .null, .null], [.int (zi (-1))], M)) rfl ?_
    exact am_xr (some (.int (zi (-1)))) ⟨rfl, rfl, .int, rfl, rfl⟩ hv
set_option maxRecDepth 100000 in
theorem vc_ofConflict (o : Int) (p : Int) (w : Int) (M : am_M) (Q : Option Value → am_M → Prop) (hv : (WB (iv M 59) ∧ 0 ≤ o ∧ o < nops (iv M 59)) ∧ ((WB (iv M 59) ∧ 0 ≤ p ∧ p < nops (iv M 59)) ∧ ((zr w) ∧ ((w = 0 → Q (some (.int (zi (amo (iv M 59) o)))) M) ∧ (w = 1 → (0 ≤ (amo (iv M 59) o) ∧ (amo (iv M 59) o) ≤ 20) ∧ (Q (some (.int (zi (o - (fo (iv M 59) (amo (iv M 59) o)))))) M)) ∧ (w = 2 → Q (some (.int (zi (amo (iv M 59) p)))) M) ∧ (w = 3 → (0 ≤ (amo (iv M 59) p) ∧ (amo (iv M 59) p) ≤ 20) ∧ (Q (some (.int (zi (p - (fo (iv M 59) (amo (iv M 59) p)))))) M)) ∧ (¬ w = 0 → ¬ w = 1 → ¬ w = 2 → ¬ w = 3 → (0 ≤ o ∧ o < 120) ∧ (Q (some (.int (zi (iv M 70 o)))) M)))))) : am_x t_Mo_ofConflict (0, am_ent (am_mL t_Mo_ofConflict) [.ref 58, .int (zi o), .int (zi p), .int (zi w)], [], M) Q := by
  refine am_xn 0 (c1 := (0, [.ref 58, .int (zi o), .int (zi p), .int (zi w), .null, .null], [], M)) rfl ?_
  refine am_xn 2 (c1 := (2, [.ref 58, .int (zi o), .int (zi p), .int (zi w), .null, .null], [.int (zi o), .ref 58], M)) rfl ?_
  obtain ⟨g, hv⟩ := hv
  refine am_xc t_Mo_amendmentOf (.invokevirtual 143) 143 (av := [.ref 58, .int (zi o)]) (rest := []) (rv := some (.int (zi (amo (iv M 59) o)))) (M' := M) rfl rfl rfl rfl (Nat.le_of_ble_eq_true rfl) (fun _ => rfl) (sp_amendmentOf M o g) ?_
  refine am_xn 0 (c1 := (5, [.ref 58, .int (zi o), .int (zi p), .int (zi w), .null, .null], [.int (zi (amo (iv M 59) o))], M)) rfl ?_
  refine am_xn 3 (c1 := (9, [.ref 58, .int (zi o), .int (zi p), .int (zi w), .int (zi (amo (iv M 59) o)), .null], [.int (zi p), .ref 58], M)) rfl ?_
  obtain ⟨g, hv⟩ := hv
  refine am_xc t_Mo_amendmentOf (.invokevirtual 143) 143 (av := [.ref 58, .int (zi p)]) (rest := []) (rv := some (.int (zi (amo (iv M 59) p)))) (M' := M) rfl rfl rfl rfl (Nat.le_of_ble_eq_true rfl) (fun _ => rfl) (sp_amendmentOf M p g) ?_
  refine am_xn 0 (c1 := (12, [.ref 58, .int (zi o), .int (zi p), .int (zi w), .int (zi (amo (iv M 59) o)), .null], [.int (zi (amo (iv M 59) p))], M)) rfl ?_
  obtain ⟨r1, hv⟩ := hv
  refine am_xn 2 (c1 := (15, [.ref 58, .int (zi o), .int (zi p), .int (zi w), .int (zi (amo (iv M 59) o)), .int (zi (amo (iv M 59) p))], [.int (zi w)], M)) rfl ?_
  by_cases h0 : w = 0
  · replace hv := hv.1 h0
    refine am_xswt rfl 0 (by rw [h0]; rfl) 44 rfl ?_
    refine am_xn 1 (c1 := (46, [.ref 58, .int (zi o), .int (zi p), .int (zi w), .int (zi (amo (iv M 59) o)), .int (zi (amo (iv M 59) p))], [.int (zi (amo (iv M 59) o))], M)) rfl ?_
    exact am_xr (some (.int (zi (amo (iv M 59) o)))) ⟨rfl, rfl, .int, rfl, rfl⟩ hv
  replace hv := hv.2
  by_cases h1 : w = 1
  · replace hv := hv.1 h1
    refine am_xswt rfl 1 (by rw [h1]; rfl) 47 rfl ?_
    refine am_xn 3 (c1 := (51, [.ref 58, .int (zi o), .int (zi p), .int (zi w), .int (zi (amo (iv M 59) o)), .int (zi (amo (iv M 59) p))], [.int (zi (amo (iv M 59) o)), .ref 58, .int (zi o)], M)) rfl ?_
    obtain ⟨g, hv⟩ := hv
    refine am_xc t_Mo_firstOf (.invokevirtual 128) 128 (av := [.ref 58, .int (zi (amo (iv M 59) o))]) (rest := [.int (zi o)]) (rv := some (.int (zi (fo (iv M 59) (amo (iv M 59) o))))) (M' := M) rfl rfl rfl rfl (Nat.le_of_ble_eq_true rfl) (fun _ => rfl) (sp_firstOf M (amo (iv M 59) o) g) ?_
    refine am_xn 0 (c1 := (54, [.ref 58, .int (zi o), .int (zi p), .int (zi w), .int (zi (amo (iv M 59) o)), .int (zi (amo (iv M 59) p))], [.int (zi (fo (iv M 59) (amo (iv M 59) o))), .int (zi o)], M)) rfl ?_
    refine am_xisub 1 o (fo (iv M 59) (amo (iv M 59) o)) (pc := 55) (ls := [.ref 58, .int (zi o), .int (zi p), .int (zi w), .int (zi (amo (iv M 59) o)), .int (zi (amo (iv M 59) p))]) (st := []) rfl ?_
    exact am_xr (some (.int (zi (o - (fo (iv M 59) (amo (iv M 59) o)))))) ⟨rfl, rfl, .int, rfl, rfl⟩ hv
  replace hv := hv.2
  by_cases h2 : w = 2
  · replace hv := hv.1 h2
    refine am_xswt rfl 2 (by rw [h2]; rfl) 56 rfl ?_
    refine am_xn 1 (c1 := (58, [.ref 58, .int (zi o), .int (zi p), .int (zi w), .int (zi (amo (iv M 59) o)), .int (zi (amo (iv M 59) p))], [.int (zi (amo (iv M 59) p))], M)) rfl ?_
    exact am_xr (some (.int (zi (amo (iv M 59) p)))) ⟨rfl, rfl, .int, rfl, rfl⟩ hv
  replace hv := hv.2
  by_cases h3 : w = 3
  · replace hv := hv.1 h3
    refine am_xswt rfl 3 (by rw [h3]; rfl) 59 rfl ?_
    refine am_xn 3 (c1 := (63, [.ref 58, .int (zi o), .int (zi p), .int (zi w), .int (zi (amo (iv M 59) o)), .int (zi (amo (iv M 59) p))], [.int (zi (amo (iv M 59) p)), .ref 58, .int (zi p)], M)) rfl ?_
    obtain ⟨g, hv⟩ := hv
    refine am_xc t_Mo_firstOf (.invokevirtual 128) 128 (av := [.ref 58, .int (zi (amo (iv M 59) p))]) (rest := [.int (zi p)]) (rv := some (.int (zi (fo (iv M 59) (amo (iv M 59) p))))) (M' := M) rfl rfl rfl rfl (Nat.le_of_ble_eq_true rfl) (fun _ => rfl) (sp_firstOf M (amo (iv M 59) p) g) ?_
    refine am_xn 0 (c1 := (66, [.ref 58, .int (zi o), .int (zi p), .int (zi w), .int (zi (amo (iv M 59) o)), .int (zi (amo (iv M 59) p))], [.int (zi (fo (iv M 59) (amo (iv M 59) p))), .int (zi p)], M)) rfl ?_
    refine am_xisub 1 p (fo (iv M 59) (amo (iv M 59) p)) (pc := 67) (ls := [.ref 58, .int (zi o), .int (zi p), .int (zi w), .int (zi (amo (iv M 59) o)), .int (zi (amo (iv M 59) p))]) (st := []) rfl ?_
    exact am_xr (some (.int (zi (p - (fo (iv M 59) (amo (iv M 59) p)))))) ⟨rfl, rfl, .int, rfl, rfl⟩ hv
  replace hv := hv.2
  replace hv := hv h0 h1 h2 h3
  refine am_xswd rfl r1 (by omega) 68 rfl ?_
  obtain ⟨r2, hv⟩ := hv
  refine am_xn 3 (c1 := (73, [.ref 58, .int (zi o), .int (zi p), .int (zi w), .int (zi (amo (iv M 59) o)), .int (zi (amo (iv M 59) p))], [.int (zi o), .ref 70], M)) rfl ?_
  refine am_xald rfl rfl rfl r2 ?_
  refine am_xn 0 (c1 := (74, [.ref 58, .int (zi o), .int (zi p), .int (zi w), .int (zi (amo (iv M 59) o)), .int (zi (amo (iv M 59) p))], [.int (zi (iv M 70 o))], M)) rfl ?_
  exact am_xr (some (.int (zi (iv M 70 o)))) ⟨rfl, rfl, .int, rfl, rfl⟩ hv
theorem sp_c_amendmentOf {M : am_M} {b : Int → Int} (w : WB b) (cb : CBR (iv M 11) b) {o : Int} (g0 : 0 ≤ o) (g1 : o < nops b) : am_call t_Amd_amendmentOf [.ref 9, .int (zi o)] M (some (.int (zi (amo b o)))) M := by
  obtain ⟨a0, a1, a2, a3⟩ := amo_ex w g0 g1
  have w1 := w.n1
  have wt := w.tot
  refine am_call_of ⟨Nat.le_of_ble_eq_true rfl, rfl⟩ (vc_c_amendmentOf o M _ ?_)
  refine loop_up (fun i (s : Int) => (2, [.ref 9, .int (zi o), .int (zi i)], [], M)) (amo b o) (fun i s => True) ?_ ?_ 0 0 (by omega) a0 trivial
  · intro s _
    refine vc_c_amendmentOf_2 _ _ M _ ⟨⟨by omega, by omega⟩, fun _ => ⟨⟨by omega, by omega⟩, ⟨by omega, by omega⟩, fun _ => ⟨rfl, rfl⟩, fun q => ?_⟩, fun _ => ⟨rfl, rfl⟩⟩
    rw [cb.1.2.2.2.2.1 _ (by omega) (by omega)] at q
    omega
  · intro i s i0 i1 _ k
    have f := w.fo_mono (m := i + 1) (n := amo b o) (by omega) (by omega) (by omega)
    refine vc_c_amendmentOf_2 _ _ M _ ⟨⟨by omega, by omega⟩, fun _ => ⟨⟨by omega, by omega⟩, ⟨by omega, by omega⟩, fun q => ?_, fun q => k 0 trivial⟩, fun q => by rw [cb.1.1] at q; omega⟩
    rw [cb.1.2.2.2.2.1 _ (by omega) (by omega)] at q
    omega
theorem sp_clash {M : am_M} {b : Int → Int} (w : WB b) (cb : CBR (iv M 11) b) (r : CLR15 (lw b 9999 (-1)) M) {o p : Int} (g0 : 0 ≤ o) (g1 : o < p) (g2 : p < nops b) : am_call t_SB_clash [.ref 0, .int (zi o), .int (zi p)] M (some (.int (zi (bz (cfl b o p))))) M := by
  have wt := w.tot
  have w1 := w.n1
  have so := stt_af w g0 (show o < nops b by omega)
  have sp := stt_af w (show 0 ≤ p by omega) g2
  have ao := amo_ex w g0 (show o < nops b by omega)
  have ap := amo_ex w (show 0 ≤ p by omega) g2
  have mono := amo_mono (b := b) (o := o) (p := p) (by omega)
  have no : ¬ cfl b o p → (some (Value.int (zi 0)) = some (.int (zi (bz (cfl b o p)))) ∧ M = M) := fun q => ⟨by rw [bz_f q], rfl⟩
  refine am_call_of ⟨Nat.le_of_ble_eq_true rfl, rfl⟩ (vc_clash o p M _ ?_)
  rw [(r.2.2.1 o g0 (by omega)).2, (r.2.2.1 p (by omega) (by omega)).2]
  refine ⟨⟨g0, by omega⟩, fun q => no (fun z => so.1.mp z.2.2.1 q), fun q => ⟨⟨by omega, by omega⟩, fun q2 => ⟨_, M, sp_c_amendmentOf w cb g0 (by omega), _, M, sp_c_amendmentOf w cb (by omega) g2, ⟨by omega, by omega⟩, ⟨by omega, by omega⟩, fun q3 => no (fun z => by have := z.1; omega), fun q3 => ⟨⟨by omega, by omega⟩, ⟨by omega, by omega⟩, ?_⟩⟩, fun q2 => no (fun z => q2 z.2.2.2.2)⟩⟩
  rw [cb.1.2.2.2.1 _ ao.1 ao.2.1, cb.1.2.2.2.1 _ ap.1 ap.2.1]
  refine ⟨fun q4 => ⟨?_, rfl⟩, fun q4 => no (fun z => q4 z.2.1)⟩
  rw [bz_t ⟨by omega, q4, so.1.mpr q, sp.1.mpr (by rw [← q2]; exact q), q2⟩]
theorem sp_areInConflict {M : am_M} (w : WB (iv M 59)) (r : MLR (lw (iv M 59) 9999 (-1)) M) {o p : Int} (g0 : 0 ≤ o) (g1 : o < nops (iv M 59)) (h0 : 0 ≤ p) (h1 : p < nops (iv M 59)) : am_call t_Mo_areInConflict [.ref 58, .int (zi o), .int (zi p)] M (some (.int (zi (bz (cfl (iv M 59) o p))))) M := by
  have wt := w.tot
  have w1 := w.n1
  have so := stt_rg w g0 g1
  have sp := stt_rg w h0 h1
  have ao := amo_ex w g0 g1
  have ap := amo_ex w h0 h1
  have zo : zr (amo (iv M 59) o) := ⟨by omega, by omega⟩
  have zp : zr (amo (iv M 59) p) := ⟨by omega, by omega⟩
  have no : ¬ cfl (iv M 59) o p → (some (Value.int (zi 0)) = some (.int (zi (bz (cfl (iv M 59) o p)))) ∧ M = M) := fun q => ⟨by rw [bz_f q], rfl⟩
  refine am_call_of ⟨Nat.le_of_ble_eq_true rfl, rfl⟩ (vc_areInConflict o p M _ ⟨⟨w, g0, g1⟩, ⟨w, h0, h1⟩, _, M, sp_statusOf w r g0 g1, ⟨by omega, by omega⟩, fun q => ⟨_, M, sp_statusOf w r h0 h1, ⟨by omega, by omega⟩, fun q2 => ⟨zo, zp, fun q3 => ⟨⟨by omega, by omega⟩, ⟨by omega, by omega⟩, fun q4 => ⟨⟨g0, by omega⟩, ⟨h0, by omega⟩, ?_⟩, fun q4 => no (fun z => q4 z.2.1)⟩, fun q3 => no (fun z => by have := z.1; omega)⟩, fun q2 => ⟨zo, zp, fun q3 => ⟨⟨by omega, by omega⟩, ⟨by omega, by omega⟩, fun q4 => no (fun z => q2 z.2.2.2.1), fun q4 => no (fun z => q2 z.2.2.2.1)⟩, fun q3 => no (fun z => q2 z.2.2.2.1)⟩⟩, fun q => ⟨zo, zp, fun q3 => ⟨⟨by omega, by omega⟩, ⟨by omega, by omega⟩, fun q4 => no (fun z => q z.2.2.1), fun q4 => no (fun z => q z.2.2.1)⟩, fun q3 => no (fun z => q z.2.2.1)⟩⟩)
  rw [(r.2.2.1 o g0 (by omega)).2, (r.2.2.1 p h0 (by omega)).2]
  exact ⟨fun q5 => ⟨by rw [bz_t ⟨q3, q4, q, q2, q5⟩], rfl⟩, fun q5 => no (fun z => q5 z.2.2.2.2)⟩
theorem sp_conflicts {M : am_M} {b : Int → Int} (w : WB b) (cb : CBR (iv M 11) b) (r : CLR15 (lw b 9999 (-1)) M) : am_call t_SB_conflicts [.ref 0] M (some (.int (zi (sm (cfg b (nops b)) (nops b * nops b))))) M := by
  have wt := w.tot
  have n0 := w.fo_nn (n := b 0) (Int.le_refl _)
  obtain ⟨n, hn⟩ : ∃ n, n = nops b := ⟨_, rfl⟩
  have n0 : 0 ≤ n := by rw [hn]; exact n0
  have e1 : iv M 11 1 = n := by rw [cb.1.2.1, hn]
  rw [← hn] at wt ⊢
  refine am_call_of ⟨Nat.le_of_ble_eq_true rfl, rfl⟩ (vc_conflicts M _ ?_)
  refine loop_up (fun i (s : Int) => (4, [.ref 0, .int (zi s), .int (zi i), .null], [], M)) n (fun i s => s = sm (cfg b n) (i * n)) ?_ ?_ 0 0 (by omega) n0 (by rw [Int.zero_mul]; rfl)
  · intro s hs
    exact vc_conflicts_4 _ _ M _ ⟨⟨by omega, by omega⟩, fun q => by omega, fun _ => ⟨by rw [hs], rfl⟩⟩
  · intro i s i0 i1 hs k
    refine vc_conflicts_4 _ _ M _ ⟨⟨by omega, by omega⟩, fun _ => ?_, fun q => by omega⟩
    refine loop_up (fun l (s : Int) => (19, [.ref 0, .int (zi s), .int (zi i), .int (zi l)], [], M)) n (fun l s => i < l ∧ s = sm (cfg b n) (i * n + l)) ?_ ?_ (i + 1) s (by omega) (by omega) ⟨by omega, ?_⟩
    · intro s ⟨_, hs⟩
      refine vc_conflicts_19 _ _ _ M _ ⟨⟨by omega, by omega⟩, fun q => by omega, fun _ => k s ?_⟩
      rw [hs, Int.add_mul, Int.one_mul]
    · intro l s l0 l1 ⟨hl, hs⟩ k2
      have c01 := bz_01 (cfl b i l)
      have e := sm_s (cfg b n) (row_rg i0 i1 l0 (Int.le_of_lt l1)).1
      rw [cfg_pair b l0 l1, Int.add_assoc] at e
      refine vc_conflicts_19 _ _ _ M _ ⟨⟨by omega, by omega⟩, fun _ => ⟨_, M, sp_clash w cb r i0 hl (by omega), by rcases c01 with q | q <;> (rw [q]; decide), fun q => k2 _ ⟨by omega, by rw [e, q, hs]; omega⟩, fun q => k2 _ ⟨by omega, by rw [e, hs]; omega⟩⟩, fun q => by omega⟩
    · rw [hs]
      have := sm_skip (cfg b n) (i + 1).toNat (i * n) (by have := (row_rg i0 i1 (l := 0) (by omega) (by omega)).1; omega) (fun q q0 q1 => by
        have e : q = i * n + (q - i * n) := by omega
        rw [e, cfg_pair b (by omega) (by omega), bz_f (cfl_no (by omega))])
      rw [show (((i + 1).toNat : Nat) : Int) = i + 1 by omega] at this
      exact this.symm
theorem sp_tallyPart {M : am_M} {b : Int → Int} (w : WB b) (cb : CBR (iv M 11) b) (r : CLR15 (lw b 9999 (-1)) M) {x : Int} (xz : zr x) : am_call t_SB_tallyPart [.ref 0, .int (zi x)] M (some (.int (zi (tlv b x)))) M := by
  have wt := w.tot
  have n0 := w.fo_nn (n := b 0) (Int.le_refl _)
  have n0 : 0 ≤ nops b := n0
  have e1 : iv M 11 1 = nops b := cb.1.2.1
  refine am_call_of ⟨Nat.le_of_ble_eq_true rfl, rfl⟩ (vc_tallyPart x M _ ⟨xz, fun q => ⟨_, M, sp_conflicts w cb r, by rw [tlv, if_pos q], rfl⟩, fun q => ?_⟩)
  refine loop_up (fun i (s : Int) => (15, [.ref 0, .int (zi x), .int (zi s), .int (zi i)], [], M)) (nops b) (fun i s => s = sm (fun o => if stt b o = x then 1 else 0) i) ?_ ?_ 0 0 (by omega) n0 rfl
  · intro s hs
    exact vc_tallyPart_15 _ _ _ M _ ⟨⟨by omega, by omega⟩, fun q => by omega, fun _ => ⟨by rw [tlv, if_neg q, hs], rfl⟩⟩
  · intro i s i0 i1 hs k
    have e := sm_s (fun o => if stt b o = x then 1 else 0) i0
    refine vc_tallyPart_15 _ _ _ M _ ⟨⟨by omega, by omega⟩, fun _ => ⟨⟨i0, by omega⟩, xz, ?_⟩, fun q => by omega⟩
    rw [cst_full w r i0 i1]
    exact ⟨fun z => k _ (by rw [e, if_pos z, hs]), fun z => k _ (by rw [e, if_neg z, hs]; omega)⟩
theorem sp_m_tally {M : am_M} (w : WB (iv M 59)) {x : Int} (hx : 0 ≤ x ∧ x ≤ 6) : ∃ M', am_call t_Mo_tally [.ref 58, .int (zi x)] M (some (.int (zi (tlv (iv M 59) x)))) M' ∧ MLf M M' := by
  have xz : zr x := ⟨by omega, by omega⟩
  have wt := w.tot
  have w1 := w.n1
  have n0 : 0 ≤ nops (iv M 59) := w.fo_nn (n := iv M 59 0) (Int.le_refl _)
  suffices h : am_x t_Mo_tally (0, am_ent (am_mL t_Mo_tally) [.ref 58, .int (zi x)], [], M) (fun r M' => r = some (.int (zi (tlv (iv M 59) x))) ∧ MLf M M') by
    obtain ⟨r, M', h1, h2, h3⟩ := am_call_ex (by exact ⟨Nat.le_of_ble_eq_true rfl, rfl⟩) h
    subst h2
    exact ⟨M', h1, h3⟩
  obtain ⟨M5, m1, m2, m3⟩ := sp_fullLaw M w
  have e59 : iv M5 59 = iv M 59 := iv_row (m2.1 59 (by decide) (by decide))
  refine vc_m_tally x M _ ⟨⟨xz, by decide, by decide⟩, fun _ => ⟨M5, m1, by rw [e59]; exact w1, ?_⟩, fun q => absurd hx q⟩
  rw [e59]
  obtain ⟨n, hn⟩ : ∃ n, n = nops (iv M 59) := ⟨_, rfl⟩
  have sq := sq_rg n0 wt
  rw [← hn] at n0 wt sq ⊢
  have etl : tlv (iv M 59) x = if x = 6 then sm (cfg (iv M 59) n) (n * n) else sm (fun o => if stt (iv M 59) o = x then 1 else 0) n := by rw [hn]; rfl
  refine loop_up (fun i (s : Int) => (27, [.ref 58, .int (zi x), .int (zi n), .int (zi s), .int (zi i)], [], M5)) n (fun i s => s = sm (fun o => if stt (iv M 59) o = x then 1 else 0) i) ?_ ?_ 0 0 (by omega) n0 rfl
  · intro s hs
    refine vc_m_tally_27 _ _ _ _ M5 _ ⟨⟨by omega, by omega⟩, ⟨by omega, by omega⟩, fun q => by omega, fun _ => ?_⟩
    by_cases h6 : x = 6
    · have s0 : s = 0 := by
        rw [hs, sm_congr (g := fun _ => 0) (fun i i0 i1 => by
          have := stt_rg w i0 (show i < nops (iv M 59) by omega)
          show (if stt (iv M 59) i = x then (1 : Int) else 0) = 0
          rw [if_neg (by omega)]), sm_zero]
      rw [s0]
      rw [etl, if_pos h6]
      refine loop_up (fun i (s : Int) => (60, [.ref 58, .int (zi x), .int (zi n), .int (zi s), .int (zi i)], [], M5)) (n * n) (fun i s => s = sm (cfg (iv M 59) n) i) ?_ ?_ 0 0 (by omega) sq.1 rfl
      · intro s hs
        exact vc_m_tally_60 _ _ _ _ M5 _ ⟨⟨by omega, by omega⟩, ⟨by omega, by omega⟩, fun q => by omega, fun _ => ⟨by rw [hs], m2⟩⟩
      · intro i s i0 i1 hs k
        have np : 0 < n := by
          by_cases z : 0 < n
          · exact z
          · have : n = 0 := by omega
            rw [this] at i1; omega
        have d0 := Int.ediv_nonneg i0 n0
        have d1 : i / n < n := Int.ediv_lt_of_lt_mul np i1
        have d2 := Int.emod_nonneg i (show n ≠ 0 by omega)
        have d3 := Int.emod_lt_of_pos i np
        have c01 := cfg_01 (iv M 59) n i
        have cc := sp_areInConflict (M := M5) (by rw [e59]; exact w) (by rw [e59]; exact m3) d0 (by rw [e59]; omega) d2 (by rw [e59]; omega)
        rw [e59] at cc
        have e := sm_s (cfg (iv M 59) n) i0
        refine vc_m_tally_60 _ _ _ _ M5 _ ⟨⟨by omega, by omega⟩, ⟨by omega, by omega⟩, fun _ => ⟨xz, fun _ => ⟨⟨by omega, by omega⟩, ⟨i0, np⟩, ⟨i0, np⟩, cfg (iv M 59) n i, M5, cc, by rcases c01 with q | q <;> (rw [q]; decide), fun q => k _ (by rw [e, q, hs]), fun q => k _ (by rw [e, hs]; omega)⟩, fun q => absurd h6 q⟩, fun q => by omega⟩
    · rw [etl, if_neg h6]
      exact vc_m_tally_60 _ _ _ _ M5 _ ⟨by decide, ⟨by omega, by omega⟩, fun _ => ⟨xz, fun q => absurd q h6, fun _ => ⟨by rw [hs], m2⟩⟩, fun _ => ⟨by rw [hs], m2⟩⟩
  · intro i s i0 i1 hs k
    have e := sm_s (fun o => if stt (iv M 59) o = x then 1 else 0) i0
    have sr := stt_rg w i0 (show i < nops (iv M 59) by omega)
    have st := sp_statusOf (M := M5) (by rw [e59]; exact w) (by rw [e59]; exact m3) i0 (by rw [e59]; omega)
    rw [e59] at st
    exact vc_m_tally_27 _ _ _ _ M5 _ ⟨⟨by omega, by omega⟩, ⟨by omega, by omega⟩, fun _ => ⟨_, M5, st, ⟨by omega, by omega⟩, xz, fun q => k _ (by rw [e, if_pos q, hs]), fun q => k _ (by rw [e, if_neg q, hs])⟩, fun q => by omega⟩
theorem q_tally {M : am_M} (s : CSt M) {x : Int} (xz : zr x) : QRY t_SB_tally t_Mo_tally [.ref 0, .int (zi x)] [.ref 58, .int (zi x)] M := by
  obtain ⟨w, cb⟩ := s
  by_cases hl : 0 ≤ x ∧ x ≤ 6
  · obtain ⟨M4, h4, fr, r4, od⟩ := sp_c_consolidateFully M w cb
    have cb4 : CBR (iv M4 11) (iv M 59) := by rw [iv_row (fr.1 11 (by decide) (by decide))]; exact cb
    refine ⟨tlv (iv M 59) x, ⟨M4, am_call_of ⟨Nat.le_of_ble_eq_true rfl, rfl⟩ (vc_c_tally x M _ ⟨⟨xz, by decide⟩, fun _ => ⟨M4, h4, _, M4, sp_tallyPart w cb4 r4 xz, rfl, rfl⟩, fun q => absurd hl q⟩), CQ_15 fr⟩, fun M1 hs => ?_⟩
    have e59 := iv_row (hs 59 (by decide))
    obtain ⟨M2, m1, m2⟩ := sp_m_tally (M := M1) (by rw [e59]; exact w) hl
    rw [e59] at m1
    exact ⟨M2, m1, MqF_lf m2⟩
  · exact qry (-2) ⟨Nat.le_of_ble_eq_true rfl, rfl⟩ ⟨Nat.le_of_ble_eq_true rfl, rfl⟩ (vc_c_tally x M _ ⟨⟨xz, by decide⟩, fun q => absurd q hl, fun _ => ⟨rfl, CQ_refl M⟩⟩) (fun M1 hs => vc_m_tally x M1 _ ⟨⟨xz, by decide, by decide⟩, fun q => absurd q hl, fun _ => ⟨rfl, MqF_refl M1⟩⟩)
noncomputable def cpv (b : Int → Int) (o l x : Int) : Int := if x = 0 then amo b o else if x = 1 then o - fo b (amo b o) else if x = 2 then amo b l else if x = 3 then l - fo b (amo b l) else (lw b 9999 (-1)).af o
theorem sp_conflictPart {M : am_M} {b : Int → Int} (w : WB b) (cb : CBR (iv M 11) b) (r : CLR15 (lw b 9999 (-1)) M) {o l x : Int} (g0 : 0 ≤ o) (g1 : o < nops b) (h0 : 0 ≤ l) (h1 : l < nops b) (xz : zr x) : am_call t_SB_conflictPart [.ref 0, .int (zi o), .int (zi l), .int (zi x)] M (some (.int (zi (cpv b o l x)))) M := by
  have wt := w.tot
  have w1 := w.n1
  have ao := amo_ex w g0 g1
  have ap := amo_ex w h0 h1
  refine am_call_of ⟨Nat.le_of_ble_eq_true rfl, rfl⟩ (vc_conflictPart o l x M _ ⟨_, M, sp_c_amendmentOf w cb g0 g1, _, M, sp_c_amendmentOf w cb h0 h1, xz, fun h => ⟨by rw [cpv, if_pos h], rfl⟩, fun h => ⟨⟨by omega, by omega⟩, ?_, rfl⟩, fun h => ⟨by rw [cpv, if_neg (by omega), if_neg (by omega), if_pos h], rfl⟩, fun h => ⟨⟨by omega, by omega⟩, ?_, rfl⟩, fun h h' h'' h3 => ⟨⟨g0, by omega⟩, ?_, rfl⟩⟩)
  · rw [cpv, if_neg (by omega), if_pos h, cb.1.2.2.2.2.1 _ ao.1 (by omega)]
  · rw [cpv, if_neg (by omega), if_neg (by omega), if_neg (by omega), if_pos h, cb.1.2.2.2.2.1 _ ap.1 (by omega)]
  · rw [cpv, if_neg h, if_neg h', if_neg h'', if_neg h3, (r.2.2.1 o g0 (by omega)).2]
theorem sp_ofConflict {M : am_M} (w : WB (iv M 59)) (r : MLR (lw (iv M 59) 9999 (-1)) M) {o l x : Int} (g0 : 0 ≤ o) (g1 : o < nops (iv M 59)) (h0 : 0 ≤ l) (h1 : l < nops (iv M 59)) (xz : zr x) : am_call t_Mo_ofConflict [.ref 58, .int (zi o), .int (zi l), .int (zi x)] M (some (.int (zi (cpv (iv M 59) o l x)))) M := by
  have wt := w.tot
  have w1 := w.n1
  have ao := amo_ex w g0 g1
  have ap := amo_ex w h0 h1
  refine am_call_of ⟨Nat.le_of_ble_eq_true rfl, rfl⟩ (vc_ofConflict o l x M _ ⟨⟨w, g0, g1⟩, ⟨w, h0, h1⟩, xz, fun h => ⟨by rw [cpv, if_pos h], rfl⟩, fun h => ⟨⟨by omega, by omega⟩, by rw [cpv, if_neg (by omega), if_pos h], rfl⟩, fun h => ⟨by rw [cpv, if_neg (by omega), if_neg (by omega), if_pos h], rfl⟩, fun h => ⟨⟨by omega, by omega⟩, by rw [cpv, if_neg (by omega), if_neg (by omega), if_neg (by omega), if_pos h], rfl⟩, fun h h' h'' h3 => ⟨⟨g0, by omega⟩, ?_, rfl⟩⟩)
  rw [cpv, if_neg h, if_neg h', if_neg h'', if_neg h3, (r.2.2.1 o g0 (by omega)).2]
noncomputable def cnv (b : Int → Int) (k x : Int) : Int := if scp b (nops b) 0 k = -1 then -1 else cpv b (scp b (nops b) 0 k / nops b) (scp b (nops b) 0 k % nops b) x
theorem q_conflict {M : am_M} (s : CSt M) {k x : Int} (kz : zr k) (xz : zr x) : QRY t_SB_conflict t_Mo_conflict [.ref 0, .int (zi k), .int (zi x)] [.ref 58, .int (zi k), .int (zi x)] M := by
  obtain ⟨w, cb⟩ := s
  have wt := w.tot
  have w1 := w.n1
  have n0 : 0 ≤ nops (iv M 59) := w.fo_nn (n := iv M 59 0) (Int.le_refl _)
  by_cases hl : 0 ≤ k ∧ (0 ≤ x ∧ x ≤ 4)
  · obtain ⟨hk, hx⟩ := hl
    obtain ⟨n, hn⟩ : ∃ n, n = nops (iv M 59) := ⟨_, rfl⟩
    have sq := sq_rg n0 wt
    rw [← hn] at n0 wt sq
    have ec : cnv (iv M 59) k x = if scp (iv M 59) n 0 k = -1 then -1 else cpv (iv M 59) (scp (iv M 59) n 0 k / n) (scp (iv M 59) n 0 k % n) x := by rw [hn]; rfl
    refine qry (cnv (iv M 59) k x) ⟨Nat.le_of_ble_eq_true rfl, rfl⟩ ⟨Nat.le_of_ble_eq_true rfl, rfl⟩ ?_ (fun M1 hs => ?_)
    · obtain ⟨M4, h4, fr, r4, od⟩ := sp_c_consolidateFully M w cb
      have cb4 : CBR (iv M4 11) (iv M 59) := by rw [iv_row (fr.1 11 (by decide) (by decide))]; exact cb
      have e1 : iv M4 11 1 = n := by rw [cb4.1.2.1, hn]
      refine vc_c_conflict k x M _ ⟨kz, fun q => by omega, fun _ => ⟨⟨xz, by decide⟩, fun _ => ⟨M4, h4, ?_⟩, fun q => absurd hx q⟩⟩
      refine loop_up (fun i (s : Int) => (24, [.ref 0, .int (zi k), .int (zi x), .int (zi s), .int (zi i), .null], [], M4)) n (fun i s => 0 ≤ s ∧ s ≤ k ∧ scp (iv M 59) n 0 k = scp (iv M 59) n (i * n) (k - s)) ?_ ?_ 0 0 (by omega) n0 ⟨by omega, hk, by rw [Int.zero_mul, Int.sub_zero]⟩
      · intro s ⟨_, _, hs⟩
        refine vc_c_conflict_24 _ _ _ _ M4 _ ⟨⟨by omega, by omega⟩, fun q => by omega, fun _ => ⟨?_, CQ_15 fr⟩⟩
        rw [ec, hs, scp_e _ (Int.le_refl _), if_pos rfl]
      · intro i s i0 i1 ⟨s0, s1, hs⟩ kk
        refine vc_c_conflict_24 _ _ _ _ M4 _ ⟨⟨by omega, by omega⟩, fun _ => ?_, fun q => by omega⟩
        have rr := (row_rg i0 i1 (l := 0) (by omega) (by omega))
        refine loop_up (fun l (s : Int) => (42, [.ref 0, .int (zi k), .int (zi x), .int (zi s), .int (zi i), .int (zi l)], [], M4)) n (fun l s => i < l ∧ 0 ≤ s ∧ s ≤ k ∧ scp (iv M 59) n 0 k = scp (iv M 59) n (i * n + l) (k - s)) ?_ ?_ (i + 1) s (by omega) (by omega) ⟨by omega, s0, s1, ?_⟩
        · intro s ⟨_, s0, s1, hs⟩
          refine vc_c_conflict_42 _ _ _ _ _ M4 _ ⟨⟨by omega, by omega⟩, fun q => by omega, fun _ => kk s ⟨s0, s1, ?_⟩⟩
          rw [hs, Int.add_mul, Int.one_mul]
        · intro l s l0 l1 ⟨hl, s0, s1, hs⟩ k2
          have c01 := bz_01 (cfl (iv M 59) i l)
          have rr := row_rg i0 i1 l0 (Int.le_of_lt l1)
          have e := scp_s (iv M 59) (n := n) (p := i * n + l) (k := k - s) (rr.2.2 l1)
          rw [cfg_pair _ l0 l1, Int.add_assoc] at e
          refine vc_c_conflict_42 _ _ _ _ _ M4 _ ⟨⟨by omega, by omega⟩, fun _ => ⟨_, M4, sp_clash w cb4 r4 i0 hl (by omega), by rcases c01 with q | q <;> (rw [q]; decide), fun q => k2 s ⟨by omega, s0, s1, by rw [hs, e, if_pos q]⟩, fun q => ⟨⟨by omega, by omega⟩, kz, fun q2 => ⟨_, M4, sp_conflictPart w cb4 r4 i0 (by omega) l0 (by omega) xz, ?_, CQ_15 fr⟩, fun q2 => k2 (s + 1) ⟨by omega, by omega, by omega, ?_⟩⟩⟩, fun q => by omega⟩
          · rw [if_neg q, if_pos (by omega)] at e
            have dm := pair_dm (o := i) l0 l1
            rw [ec, hs, e, if_neg (by omega), dm.1, dm.2]
          · rw [hs, e, if_neg q, if_neg (by omega), show k - s - 1 = k - (s + 1) by omega]
        · rw [hs]
          have := scp_skip (iv M 59) (n := n) (k := k - s) (i + 1).toNat (i * n) (by
            have := (row_rg i0 i1 (l := i + 1) (by omega) (by omega)).2.1; omega) (fun q q0 q1 => by
            have e : q = i * n + (q - i * n) := by omega
            rw [e, cfg_pair _ (by omega) (by omega), bz_f (cfl_no (by omega))])
          rw [show (((i + 1).toNat : Nat) : Int) = i + 1 by omega] at this
          exact this
    · obtain ⟨M5, m1, m2, m3⟩ := ms_full hs w
      have e59 : iv M5 59 = iv M 59 := (iv_row (m2.1 59 (by decide) (by decide))).trans (iv_row (hs 59 (by decide)))
      refine vc_m_conflict k x M1 _ ⟨kz, fun q => by omega, fun _ => ⟨⟨xz, by decide, by decide⟩, fun _ => ⟨M5, m1, by rw [e59]; exact w1, ?_⟩, fun q => absurd hx q⟩⟩
      rw [e59, ← hn]
      refine loop_up (fun i (s : Int) => (31, [.ref 58, .null, .int (zi x), .int (zi n), .int (zi s), .int (zi i), .null, .null], [], M5)) (n * n) (fun i s => 0 ≤ s ∧ s ≤ k ∧ scp (iv M 59) n 0 k = scp (iv M 59) n i s) ?_ ?_ 0 k (by omega) sq.1 ⟨hk, Int.le_refl _, rfl⟩
      · intro s ⟨_, _, hs⟩
        refine vc_m_conflict_31 _ _ _ _ M5 _ ⟨⟨by omega, by omega⟩, ⟨by omega, by omega⟩, fun q => by omega, fun _ => ⟨?_, MqF_lf m2⟩⟩
        rw [ec, hs, scp_e _ (Int.le_refl _), if_pos rfl]
      · intro i s i0 i1 ⟨s0, s1, hs⟩ kk
        have np : 0 < n := by
          by_cases z : 0 < n
          · exact z
          · have : n = 0 := by omega
            rw [this] at i1; omega
        have d0 := Int.ediv_nonneg i0 n0
        have d1 : i / n < n := Int.ediv_lt_of_lt_mul np i1
        have d2 := Int.emod_nonneg i (show n ≠ 0 by omega)
        have d3 := Int.emod_lt_of_pos i np
        have c01 := cfg_01 (iv M 59) n i
        have cc := sp_areInConflict (M := M5) (by rw [e59]; exact w) (by rw [e59]; exact m3) d0 (by rw [e59]; omega) d2 (by rw [e59]; omega)
        have oc := sp_ofConflict (M := M5) (by rw [e59]; exact w) (by rw [e59]; exact m3) d0 (by rw [e59]; omega) d2 (by rw [e59]; omega) xz
        rw [e59] at cc oc
        have e := scp_s (iv M 59) (n := n) (p := i) (k := s) i1
        refine vc_m_conflict_31 _ _ _ _ M5 _ ⟨⟨by omega, by omega⟩, ⟨by omega, by omega⟩, fun _ => ⟨⟨by omega, by omega⟩, ⟨i0, np⟩, ⟨i0, np⟩, cfg (iv M 59) n i, M5, cc, by rcases c01 with q | q <;> (rw [q]; decide), fun q => kk s ⟨s0, s1, by rw [hs, e, if_pos q]⟩, fun q => ⟨⟨by omega, by omega⟩, fun q2 => ⟨_, M5, oc, ?_, MqF_lf m2⟩, fun q2 => kk (s + (-1)) ⟨by omega, by omega, ?_⟩⟩⟩, fun q => by omega⟩
        · rw [if_neg q, if_pos q2] at e
          rw [ec, hs, e, if_neg (by omega)]
        · rw [hs, e, if_neg q, if_neg q2, show s - 1 = s + (-1) by omega]
  · exact qry (-2) ⟨Nat.le_of_ble_eq_true rfl, rfl⟩ ⟨Nat.le_of_ble_eq_true rfl, rfl⟩ (vc_c_conflict k x M _ ⟨kz, fun _ => ⟨rfl, CQ_refl M⟩, fun q => ⟨⟨xz, by decide⟩, fun q2 => absurd ⟨q, q2⟩ hl, fun _ => ⟨rfl, CQ_refl M⟩⟩⟩) (fun M1 hs => vc_m_conflict k x M1 _ ⟨kz, fun _ => ⟨rfl, MqF_refl M1⟩, fun q => ⟨⟨xz, by decide, by decide⟩, fun q2 => absurd ⟨q, q2⟩ hl, fun _ => ⟨rfl, MqF_refl M1⟩⟩⟩)
