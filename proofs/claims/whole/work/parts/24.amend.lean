/-! amendments, operations, words, histories -/
noncomputable def stt (b : Int → Int) (o : Int) : Int := if b (21 + amo b o) = 1 then 5 else (lw b 9999 (-1)).rs o
theorem full_rs {b : Int → Int} (w : WB b) {o : Int} (g0 : 0 ≤ o) (g1 : o < nops b) : b (21 + amo b o) = 1 ↔ (lw b 9999 (-1)).rs o = -1 := by
  have j := (con_is (off := rvk b) (day := 9999) (cas := -1) w).1.2.1 o g0 g1
  obtain ⟨a0, a1, a2, a3⟩ := amo_ex w g0 g1
  have d := w.day _ a0 a1
  have rv := w.rev _ a0 a1
  constructor
  · intro h
    by_cases q : (lw b 9999 (-1)).rs o = -1
    · exact q
    · obtain ⟨a, x0, x1, x2, x3, x4, _⟩ := j.mp q
      have e := am_of w x0 x1 x2 x3 a0 a1 a2 a3
      rw [e] at x4
      have : b (21 + amo b o) = 0 := x4.1
      omega
  · intro h
    by_cases q : b (21 + amo b o) = 1
    · exact q
    · refine absurd h (j.mpr ⟨amo b o, a0, a1, a2, a3, ⟨?_, d.2⟩, fun z => z.2.1 rfl⟩)
      show b (21 + amo b o) = 0
      omega
theorem stt_rg {b : Int → Int} (w : WB b) {o : Int} (g0 : 0 ≤ o) (g1 : o < nops b) : 0 ≤ stt b o ∧ stt b o ≤ 5 := by
  have h := full_rs w g0 g1
  have v := (lw_VL w 9999 (-1)).rs o
  unfold stt
  split <;> omega
theorem stt_af {b : Int → Int} (w : WB b) {o : Int} (g0 : 0 ≤ o) (g1 : o < nops b) : (stt b o = 0 ↔ ¬ (lw b 9999 (-1)).af o = -1) ∧ -1 ≤ (lw b 9999 (-1)).af o ∧ (lw b 9999 (-1)).af o < 40 := by
  have h := full_rs w g0 g1
  have v := (lw_VL w 9999 (-1)).af o
  unfold stt
  by_cases q : b (21 + amo b o) = 1
  · rw [if_pos q]
    have := h.mp q
    omega
  · rw [if_neg q]
    omega
theorem cst_full {M : am_M} {b : Int → Int} (w : WB b) (r : CLR15 (lw b 9999 (-1)) M) {o : Int} (g0 : 0 ≤ o) (g1 : o < nops b) : iv M 27 o = stt b o := by
  have wt := w.tot
  have h := full_rs w g0 g1
  rw [(r.2.2.1 o g0 (by omega)).1]
  unfold stt
  by_cases q : b (21 + amo b o) = 1
  · rw [if_pos q, if_pos (h.mp q)]
  · rw [if_neg q, if_neg (fun z => q (h.mpr z))]
set_option maxRecDepth 100000 in
theorem vc_statusOf (o : Int) (M : am_M) (Q : Option Value → am_M → Prop) (hv : (WB (iv M 59) ∧ 0 ≤ o ∧ o < nops (iv M 59)) ∧ ((0 ≤ (21 + (amo (iv M 59) o)) ∧ (21 + (amo (iv M 59) o)) < 1501) ∧ (((iv M 59 (21 + (amo (iv M 59) o))) = 1 → Q (some (.int (zi 5))) M) ∧ (¬ (iv M 59 (21 + (amo (iv M 59) o))) = 1 → (0 ≤ o ∧ o < 120) ∧ (Q (some (.int (zi (iv M 69 o)))) M))))) : am_x t_Mo_statusOf (0, am_ent (am_mL t_Mo_statusOf) [.ref 58, .int (zi o)], [], M) Q := by
  refine am_xn 0 (c1 := (0, [.ref 58, .int (zi o)], [], M)) rfl ?_
  refine am_xn 5 (c1 := (8, [.ref 58, .int (zi o)], [.int (zi o), .ref 58, .int (zi 21), .ref 59], M)) rfl ?_
  obtain ⟨g, hv⟩ := hv
  refine am_xc t_Mo_amendmentOf (.invokevirtual 143) 143 (av := [.ref 58, .int (zi o)]) (rest := [.int (zi 21), .ref 59]) (rv := some (.int (zi (amo (iv M 59) o)))) (M' := M) rfl rfl rfl rfl (Nat.le_of_ble_eq_true rfl) (fun _ => rfl) (sp_amendmentOf M o g) ?_
  refine am_xn 0 (c1 := (11, [.ref 58, .int (zi o)], [.int (zi (amo (iv M 59) o)), .int (zi 21), .ref 59], M)) rfl ?_
  refine am_xiadd 1 21 (amo (iv M 59) o) (pc := 12) (ls := [.ref 58, .int (zi o)]) (st := [.ref 59]) rfl ?_
  obtain ⟨r1, hv⟩ := hv
  refine am_xald rfl rfl rfl r1 ?_
  refine am_xn 0 (c1 := (13, [.ref 58, .int (zi o)], [.int (zi (iv M 59 (21 + (amo (iv M 59) o))))], M)) rfl ?_
  refine am_xn 2 (c1 := (if zi (iv M 59 (21 + (amo (iv M 59) o))) = zi 1 then 17 else 21, [.ref 58, .int (zi o)], [], M)) rfl (am_xeq (iv_r _ _ _) (by decide) (fun h => ?_) (fun h => ?_))
  · replace hv := hv.1 h
    refine am_xn 2 (c1 := (27, [.ref 58, .int (zi o)], [.int (zi 5)], M)) rfl ?_
    exact am_xr (some (.int (zi 5))) ⟨rfl, rfl, .int, rfl, rfl⟩ hv
  · replace hv := hv.2 h
    obtain ⟨r2, hv⟩ := hv
    refine am_xn 3 (c1 := (26, [.ref 58, .int (zi o)], [.int (zi o), .ref 69], M)) rfl ?_
    refine am_xald rfl rfl rfl r2 ?_
    refine am_xn 0 (c1 := (27, [.ref 58, .int (zi o)], [.int (zi (iv M 69 o))], M)) rfl ?_
    exact am_xr (some (.int (zi (iv M 69 o)))) ⟨rfl, rfl, .int, rfl, rfl⟩ hv
theorem sp_statusOf {M : am_M} (w : WB (iv M 59)) (r : MLR (lw (iv M 59) 9999 (-1)) M) {o : Int} (g0 : 0 ≤ o) (g1 : o < nops (iv M 59)) : am_call t_Mo_statusOf [.ref 58, .int (zi o)] M (some (.int (zi (stt (iv M 59) o)))) M := by
  have wt := w.tot
  have w1 := w.n1
  have ar := amo_rg w o
  refine am_call_of ⟨Nat.le_of_ble_eq_true rfl, rfl⟩ (vc_statusOf o M _ ⟨⟨w, g0, g1⟩, ⟨by omega, by omega⟩, fun q => ⟨by rw [stt, if_pos q], rfl⟩, fun q => ⟨⟨g0, by omega⟩, by rw [stt, if_neg q, (r.2.2.1 o g0 (by omega)).1], rfl⟩⟩)
noncomputable def effn (b : Int → Int) (s n : Int) : Int := sm (fun j => if stt b (s + j) = 0 then 1 else 0) n
noncomputable def amdv (b : Int → Int) (a x : Int) : Int := if x = 0 then b (1 + a) else if x = 1 then b (21 + a) else if x = 2 then b (41 + a) else effn b (fo b a) (b (41 + a))
set_option maxRecDepth 100000 in
theorem vc_effective (s : Int) (n : Int) (M : am_M) (Q : Option Value → am_M → Prop) (hv : am_x t_Law_effective (5, [.ref 15, .null, .int (zi n), .int (zi 0), .int (zi s)], [], M) Q) : am_x t_Law_effective (0, am_ent (am_mL t_Law_effective) [.ref 15, .int (zi s), .int (zi n)], [], M) Q := by
  refine am_xn 0 (c1 := (0, [.ref 15, .int (zi s), .int (zi n), .null, .null], [], M)) rfl ?_
  refine am_xn 4 (c1 := (5, [.ref 15, .int (zi s), .int (zi n), .int (zi 0), .int (zi s)], [], M)) rfl ?_
  refine am_xf 1 ?_
  exact hv
set_option maxRecDepth 100000 in
theorem vc_effective_5 (x2 : Int) (x3 : Int) (x4 : Int) (M : am_M) (Q : Option Value → am_M → Prop) (hv : zr x4 ∧ (zr x2 ∧ ((x4 < x2 → (0 ≤ x4 ∧ x4 < 120) ∧ (((iv M 27 x4) = 0 → am_x t_Law_effective (5, [.ref 15, .null, .int (zi x2), .int (zi (x3 + 1)), .int (zi (x4 + 1))], [], M) Q) ∧ (¬ (iv M 27 x4) = 0 → am_x t_Law_effective (5, [.ref 15, .null, .int (zi x2), .int (zi x3), .int (zi (x4 + 1))], [], M) Q))) ∧ (x2 ≤ x4 → Q (some (.int (zi x3))) M)))) : am_x t_Law_effective (5, [.ref 15, .null, .int (zi x2), .int (zi x3), .int (zi x4)], [], M) Q := by
  obtain ⟨r1, hv⟩ := hv
  obtain ⟨r2, hv⟩ := hv
  refine am_xn 3 (c1 := (if zi x4 < zi x2 then 11 else 29, [.ref 15, .null, .int (zi x2), .int (zi x3), .int (zi x4)], [], M)) rfl (am_xlt r1 r2 (fun h => ?_) (fun h => ?_))
  · replace hv := hv.1 h
    refine am_xn 2 (c1 := (14, [.ref 15, .null, .int (zi x2), .int (zi x3), .int (zi x4)], [.int (zi x4), .ref 15], M)) rfl ?_
    obtain ⟨g, hv⟩ := hv
    refine am_xc t_Law_status (.invokevirtual 129) 129 (av := [.ref 15, .int (zi x4)]) (rest := []) (rv := some (.int (zi (iv M 27 x4)))) (M' := M) rfl rfl rfl rfl (Nat.le_of_ble_eq_true rfl) (fun _ => rfl) (sp_l15_status M x4 g) ?_
    refine am_xn 0 (c1 := (17, [.ref 15, .null, .int (zi x2), .int (zi x3), .int (zi x4)], [.int (zi (iv M 27 x4))], M)) rfl ?_
    refine am_xn 1 (c1 := (if zi (iv M 27 x4) = zi 0 then 20 else 23, [.ref 15, .null, .int (zi x2), .int (zi x3), .int (zi x4)], [], M)) rfl (am_xeq (iv_r _ _ _) (by decide) (fun h => ?_) (fun h => ?_))
    · replace hv := hv.1 h
      refine am_xn 1 (c1 := (23, [.ref 15, .null, .int (zi x2), .int (zi x3 + zi 1), .int (zi x4)], [], M)) rfl ?_
      rw [zi_add]
      refine am_xn 1 (c1 := (26, [.ref 15, .null, .int (zi x2), .int (zi (x3 + 1)), .int (zi x4 + zi 1)], [], M)) rfl ?_
      rw [zi_add]
      refine am_xn 1 (c1 := (5, [.ref 15, .null, .int (zi x2), .int (zi (x3 + 1)), .int (zi (x4 + 1))], [], M)) rfl ?_
      exact hv
    · replace hv := hv.2 h
      refine am_xn 1 (c1 := (26, [.ref 15, .null, .int (zi x2), .int (zi x3), .int (zi x4 + zi 1)], [], M)) rfl ?_
      rw [zi_add]
      refine am_xn 1 (c1 := (5, [.ref 15, .null, .int (zi x2), .int (zi x3), .int (zi (x4 + 1))], [], M)) rfl ?_
      exact hv
  · replace hv := hv.2 h
    refine am_xn 1 (c1 := (30, [.ref 15, .null, .int (zi x2), .int (zi x3), .int (zi x4)], [.int (zi x3)], M)) rfl ?_
    exact am_xr (some (.int (zi x3))) ⟨rfl, rfl, .int, rfl, rfl⟩ hv
set_option maxRecDepth 100000 in
theorem vc_amendmentPart (a : Int) (w : Int) (M : am_M) (Q : Option Value → am_M → Prop) (hv : zr w ∧ ((w = 0 → (0 ≤ a ∧ a ≤ 20) ∧ (Q (some (.int (zi (iv M 11 (4 + a))))) M)) ∧ (w = 1 → (zand (zshr (iv M 11 3) a) 1 = 1 → Q (some (.int (zi 1))) M) ∧ (¬ (zand (zshr (iv M 11 3) a) 1 = 1) → Q (some (.int (zi 0))) M)) ∧ (w = 2 → (0 ≤ a ∧ a < 20) ∧ (Q (some (.int (zi (iv M 11 (24 + (a + 1)) - iv M 11 (24 + a))))) M)) ∧ (¬ w = 0 → ¬ w = 1 → ¬ w = 2 → (0 ≤ a ∧ a ≤ 20) ∧ ((0 ≤ (a + 1) ∧ (a + 1) ≤ 20) ∧ (∃ (r4 : Int) (M3 : am_M), am_call t_Law_effective [.ref 15, .int (zi (iv M 11 (24 + a))), .int (zi (iv M 11 (24 + (a + 1))))] M (some (.int (zi r4))) M3 ∧ (Q (some (.int (zi r4))) M3)))))) : am_x t_SB_amendmentPart (0, am_ent (am_mL t_SB_amendmentPart) [.ref 0, .int (zi a), .int (zi w)], [], M) Q := by
  refine am_xn 0 (c1 := (0, [.ref 0, .int (zi a), .int (zi w)], [], M)) rfl ?_
  obtain ⟨r1, hv⟩ := hv
  refine am_xn 1 (c1 := (1, [.ref 0, .int (zi a), .int (zi w)], [.int (zi w)], M)) rfl ?_
  by_cases h0 : w = 0
  · replace hv := hv.1 h0
    refine am_xswt rfl 0 (by rw [h0]; rfl) 28 rfl ?_
    refine am_xn 3 (c1 := (33, [.ref 0, .int (zi a), .int (zi w)], [.int (zi a), .ref 9], M)) rfl ?_
    obtain ⟨g, hv⟩ := hv
    refine am_xc t_Amd_day (.invokevirtual 112) 112 (av := [.ref 9, .int (zi a)]) (rest := []) (rv := some (.int (zi (iv M 11 (4 + a))))) (M' := M) rfl rfl rfl rfl (Nat.le_of_ble_eq_true rfl) (fun _ => rfl) (sp_c_day M a g) ?_
    refine am_xn 0 (c1 := (36, [.ref 0, .int (zi a), .int (zi w)], [.int (zi (iv M 11 (4 + a)))], M)) rfl ?_
    exact am_xr (some (.int (zi (iv M 11 (4 + a))))) ⟨rfl, rfl, .int, rfl, rfl⟩ hv
  replace hv := hv.2
  by_cases h1 : w = 1
  · replace hv := hv.1 h1
    refine am_xswt rfl 1 (by rw [h1]; rfl) 37 rfl ?_
    refine am_xn 3 (c1 := (42, [.ref 0, .int (zi a), .int (zi w)], [.int (zi a), .ref 9], M)) rfl ?_
    by_cases c2 : zand (zshr (iv M 11 3) a) 1 = 1
    · replace hv := hv.1 c2
      refine am_xc t_Amd_isRevoked (.invokevirtual 103) 103 (av := [.ref 9, .int (zi a)]) (rest := []) (rv := some (.int (zi 1))) (M' := M) rfl rfl rfl rfl (Nat.le_of_ble_eq_true rfl) (fun _ => rfl) (by have q := sp_c_isRevoked M a; rwa [if_pos c2] at q) ?_
      refine am_xn 0 (c1 := (45, [.ref 0, .int (zi a), .int (zi w)], [.int (zi 1)], M)) rfl ?_
      refine am_xn 3 (c1 := (53, [.ref 0, .int (zi a), .int (zi w)], [.int (zi 1)], M)) rfl ?_
      exact am_xr (some (.int (zi 1))) ⟨rfl, rfl, .int, rfl, rfl⟩ hv
    · replace hv := hv.2 c2
      refine am_xc t_Amd_isRevoked (.invokevirtual 103) 103 (av := [.ref 9, .int (zi a)]) (rest := []) (rv := some (.int (zi 0))) (M' := M) rfl rfl rfl rfl (Nat.le_of_ble_eq_true rfl) (fun _ => rfl) (by have q := sp_c_isRevoked M a; rwa [if_neg c2] at q) ?_
      refine am_xn 0 (c1 := (45, [.ref 0, .int (zi a), .int (zi w)], [.int (zi 0)], M)) rfl ?_
      refine am_xn 2 (c1 := (53, [.ref 0, .int (zi a), .int (zi w)], [.int (zi 0)], M)) rfl ?_
      exact am_xr (some (.int (zi 0))) ⟨rfl, rfl, .int, rfl, rfl⟩ hv
  replace hv := hv.2
  by_cases h2 : w = 2
  · replace hv := hv.1 h2
    refine am_xswt rfl 2 (by rw [h2]; rfl) 54 rfl ?_
    refine am_xn 3 (c1 := (59, [.ref 0, .int (zi a), .int (zi w)], [.int (zi a), .ref 9], M)) rfl ?_
    obtain ⟨g, hv⟩ := hv
    refine am_xc t_Amd_operationsOf (.invokevirtual 135) 135 (av := [.ref 9, .int (zi a)]) (rest := []) (rv := some (.int (zi (iv M 11 (24 + (a + 1)) - iv M 11 (24 + a))))) (M' := M) rfl rfl rfl rfl (Nat.le_of_ble_eq_true rfl) (fun _ => rfl) (sp_c_operationsOf M a g) ?_
    refine am_xn 0 (c1 := (62, [.ref 0, .int (zi a), .int (zi w)], [.int (zi (iv M 11 (24 + (a + 1)) - iv M 11 (24 + a)))], M)) rfl ?_
    exact am_xr (some (.int (zi (iv M 11 (24 + (a + 1)) - iv M 11 (24 + a))))) ⟨rfl, rfl, .int, rfl, rfl⟩ hv
  replace hv := hv.2
  replace hv := hv h0 h1 h2
  refine am_xswd rfl r1 (by omega) 63 rfl ?_
  refine am_xn 5 (c1 := (72, [.ref 0, .int (zi a), .int (zi w)], [.int (zi a), .ref 9, .ref 15], M)) rfl ?_
  obtain ⟨g, hv⟩ := hv
  refine am_xc t_Amd_start (.invokevirtual 138) 138 (av := [.ref 9, .int (zi a)]) (rest := [.ref 15]) (rv := some (.int (zi (iv M 11 (24 + a))))) (M' := M) rfl rfl rfl rfl (Nat.le_of_ble_eq_true rfl) (fun _ => rfl) (sp_c_start M a g) ?_
  refine am_xn 0 (c1 := (75, [.ref 0, .int (zi a), .int (zi w)], [.int (zi (iv M 11 (24 + a))), .ref 15], M)) rfl ?_
  refine am_xiadd 5 a 1 (pc := 82) (ls := [.ref 0, .int (zi a), .int (zi w)]) (st := [.ref 9, .int (zi (iv M 11 (24 + a))), .ref 15]) rfl ?_
  obtain ⟨g, hv⟩ := hv
  refine am_xc t_Amd_start (.invokevirtual 138) 138 (av := [.ref 9, .int (zi (a + 1))]) (rest := [.int (zi (iv M 11 (24 + a))), .ref 15]) (rv := some (.int (zi (iv M 11 (24 + (a + 1)))))) (M' := M) rfl rfl rfl rfl (Nat.le_of_ble_eq_true rfl) (fun _ => rfl) (sp_c_start M (a + 1) g) ?_
  refine am_xn 0 (c1 := (85, [.ref 0, .int (zi a), .int (zi w)], [.int (zi (iv M 11 (24 + (a + 1)))), .int (zi (iv M 11 (24 + a))), .ref 15], M)) rfl ?_
  obtain ⟨r4, M3, hc, hv⟩ := hv
  refine am_xc t_Law_effective (.invokevirtual 141) 141 (av := [.ref 15, .int (zi (iv M 11 (24 + a))), .int (zi (iv M 11 (24 + (a + 1))))]) (rest := []) (rv := some (.int (zi r4))) (M' := M3) rfl rfl rfl rfl (Nat.le_of_ble_eq_true rfl) (fun _ => rfl) (hc) ?_
  refine am_xn 0 (c1 := (88, [.ref 0, .int (zi a), .int (zi w)], [.int (zi r4)], M3)) rfl ?_
  exact am_xr (some (.int (zi r4))) ⟨rfl, rfl, .int, rfl, rfl⟩ hv
set_option maxRecDepth 100000 in
theorem vc_c_amendment (a : Int) (w : Int) (M : am_M) (Q : Option Value → am_M → Prop) (hv : (zr a) ∧ ((0 ≤ a ∧ a < iv M 11 0 → (zr w ∧ zr (3 : Int)) ∧ ((0 ≤ w ∧ w ≤ 3 → ∃ M1, am_call t_SB_consolidateFully [.ref 0] M none M1 ∧ (∃ (r3 : Int) (M2 : am_M), am_call t_SB_amendmentPart [.ref 0, .int (zi a), .int (zi w)] M1 (some (.int (zi r3))) M2 ∧ (Q (some (.int (zi r3))) M2))) ∧ (¬ (0 ≤ w ∧ w ≤ 3) → Q (some (.int (zi (-2)))) M))) ∧ (¬ (0 ≤ a ∧ a < iv M 11 0) → Q (some (.int (zi (-2)))) M))) : am_x t_SB_amendment (0, am_ent (am_mL t_SB_amendment) [.ref 0, .int (zi a), .int (zi w)], [], M) Q := by
  refine am_xn 0 (c1 := (0, [.ref 0, .int (zi a), .int (zi w)], [], M)) rfl ?_
  refine am_xn 3 (c1 := (5, [.ref 0, .int (zi a), .int (zi w)], [.int (zi a), .ref 9], M)) rfl ?_
  obtain ⟨g, hv⟩ := hv
  by_cases c5 : 0 ≤ a ∧ a < iv M 11 0
  · replace hv := hv.1 c5
    refine am_xc t_Amd_has (.invokevirtual 99) 99 (av := [.ref 9, .int (zi a)]) (rest := []) (rv := some (.int (zi 1))) (M' := M) rfl rfl rfl rfl (Nat.le_of_ble_eq_true rfl) (fun _ => rfl) (by have q := sp_c_has M a g; rwa [if_pos c5] at q) ?_
    refine am_xn 0 (c1 := (8, [.ref 0, .int (zi a), .int (zi w)], [.int (zi 1)], M)) rfl ?_
    refine am_xn 3 (c1 := (13, [.ref 0, .int (zi a), .int (zi w)], [.int (zi 3), .int (zi w)], M)) rfl ?_
    obtain ⟨g, hv⟩ := hv
    by_cases c4 : 0 ≤ w ∧ w ≤ 3
    · replace hv := hv.1 c4
      refine am_xc t_SB_within (.invokestatic 56) 56 (av := [.int (zi w), .int (zi 3)]) (rest := []) (rv := some (.int (zi 1))) (M' := M) rfl rfl rfl rfl (Nat.le_of_ble_eq_true rfl) (fun h => nomatch h) (by have q := sp_within M w 3 g; rwa [if_pos c4] at q) ?_
      refine am_xn 0 (c1 := (16, [.ref 0, .int (zi a), .int (zi w)], [.int (zi 1)], M)) rfl ?_
      refine am_xn 2 (c1 := (23, [.ref 0, .int (zi a), .int (zi w)], [.ref 0], M)) rfl ?_
      obtain ⟨M1, hc, hv⟩ := hv
      refine am_xc t_SB_consolidateFully (.invokevirtual 128) 128 (av := [.ref 0]) (rest := []) (rv := none) (M' := M1) rfl rfl rfl rfl (Nat.le_of_ble_eq_true rfl) (fun _ => rfl) (hc) ?_
      refine am_xn 0 (c1 := (26, [.ref 0, .int (zi a), .int (zi w)], [], M1)) rfl ?_
      refine am_xn 3 (c1 := (29, [.ref 0, .int (zi a), .int (zi w)], [.int (zi w), .int (zi a), .ref 0], M1)) rfl ?_
      obtain ⟨r3, M2, hc, hv⟩ := hv
      refine am_xc t_SB_amendmentPart (.invokevirtual 131) 131 (av := [.ref 0, .int (zi a), .int (zi w)]) (rest := []) (rv := some (.int (zi r3))) (M' := M2) rfl rfl rfl rfl (Nat.le_of_ble_eq_true rfl) (fun _ => rfl) (hc) ?_
      refine am_xn 0 (c1 := (32, [.ref 0, .int (zi a), .int (zi w)], [.int (zi r3)], M2)) rfl ?_
      exact am_xr (some (.int (zi r3))) ⟨rfl, rfl, .int, rfl, rfl⟩ hv
    · replace hv := hv.2 c4
      refine am_xc t_SB_within (.invokestatic 56) 56 (av := [.int (zi w), .int (zi 3)]) (rest := []) (rv := some (.int (zi 0))) (M' := M) rfl rfl rfl rfl (Nat.le_of_ble_eq_true rfl) (fun h => nomatch h) (by have q := sp_within M w 3 g; rwa [if_neg c4] at q) ?_
      refine am_xn 0 (c1 := (16, [.ref 0, .int (zi a), .int (zi w)], [.int (zi 0)], M)) rfl ?_
      refine am_xn 2 (c1 := (21, [.ref 0, .int (zi a), .int (zi w)], [.int (zi (-2))], M)) rfl ?_
      exact am_xr (some (.int (zi (-2)))) ⟨rfl, rfl, .int, rfl, rfl⟩ hv
  · replace hv := hv.2 c5
    refine am_xc t_Amd_has (.invokevirtual 99) 99 (av := [.ref 9, .int (zi a)]) (rest := []) (rv := some (.int (zi 0))) (M' := M) rfl rfl rfl rfl (Nat.le_of_ble_eq_true rfl) (fun _ => rfl) (by have q := sp_c_has M a g; rwa [if_neg c5] at q) ?_
    refine am_xn 0 (c1 := (8, [.ref 0, .int (zi a), .int (zi w)], [.int (zi 0)], M)) rfl ?_
    refine am_xn 2 (c1 := (21, [.ref 0, .int (zi a), .int (zi w)], [.int (zi (-2))], M)) rfl ?_
    exact am_xr (some (.int (zi (-2)))) ⟨rfl, rfl, .int, rfl, rfl⟩ hv
set_option maxRecDepth 100000 in
theorem vc_m_amendment (a : Int) (w : Int) (M : am_M) (Q : Option Value → am_M → Prop) (hv : (zr a ∧ 0 ≤ iv M 59 0) ∧ ((0 ≤ a ∧ a < iv M 59 0 → (zr w ∧ zr (0 : Int) ∧ zr (3 : Int)) ∧ ((0 ≤ w ∧ w ≤ 3 → zr w ∧ ((w < 3 → (w = 0 → (0 ≤ (1 + a) ∧ (1 + a) < 1501) ∧ (Q (some (.int (zi (iv M 59 (1 + a))))) M)) ∧ (¬ w = 0 → (w = 1 → (0 ≤ (21 + a) ∧ (21 + a) < 1501) ∧ (Q (some (.int (zi (iv M 59 (21 + a))))) M)) ∧ (¬ w = 1 → (0 ≤ (41 + a) ∧ (41 + a) < 1501) ∧ (Q (some (.int (zi (iv M 59 (41 + a))))) M)))) ∧ (3 ≤ w → ∃ M5, am_call t_Mo_fullLaw [.ref 58] M none M5 ∧ ((0 ≤ a ∧ a ≤ 20) ∧ (am_x t_Mo_amendment (84, [.ref 58, .int (zi a), .null, .int (zi 0), .int (zi (fo (iv M5 59) a)), .int (zi (fo (iv M5 59) a))], [], M5) Q))))) ∧ (¬ (0 ≤ w ∧ w ≤ 3) → Q (some (.int (zi (-2)))) M))) ∧ (¬ (0 ≤ a ∧ a < iv M 59 0) → Q (some (.int (zi (-2)))) M))) : am_x t_Mo_amendment (0, am_ent (am_mL t_Mo_amendment) [.ref 58, .int (zi a), .int (zi w)], [], M) Q := by
  refine am_xn 0 (c1 := (0, [.ref 58, .int (zi a), .int (zi w), .null, .null, .null], [], M)) rfl ?_
  refine am_xn 2 (c1 := (2, [.ref 58, .int (zi a), .int (zi w), .null, .null, .null], [.int (zi a), .ref 58], M)) rfl ?_
  obtain ⟨g, hv⟩ := hv
  by_cases c7 : 0 ≤ a ∧ a < iv M 59 0
  · replace hv := hv.1 c7
    refine am_xc t_Mo_isAmendment (.invokevirtual 239) 239 (av := [.ref 58, .int (zi a)]) (rest := []) (rv := some (.int (zi 1))) (M' := M) rfl rfl rfl rfl (Nat.le_of_ble_eq_true rfl) (fun _ => rfl) (by have q := sp_isAmendment M a g; rwa [if_pos c7] at q) ?_
    refine am_xn 0 (c1 := (5, [.ref 58, .int (zi a), .int (zi w), .null, .null, .null], [.int (zi 1)], M)) rfl ?_
    refine am_xn 4 (c1 := (11, [.ref 58, .int (zi a), .int (zi w), .null, .null, .null], [.int (zi 3), .int (zi 0), .int (zi w)], M)) rfl ?_
    obtain ⟨g, hv⟩ := hv
    by_cases c6 : 0 ≤ w ∧ w ≤ 3
    · replace hv := hv.1 c6
      refine am_xc t_Mo_in (.invokestatic 76) 76 (av := [.int (zi w), .int (zi 0), .int (zi 3)]) (rest := []) (rv := some (.int (zi 1))) (M' := M) rfl rfl rfl rfl (Nat.le_of_ble_eq_true rfl) (fun h => nomatch h) (by have q := sp_in M w 0 3 g; rwa [if_pos c6] at q) ?_
      refine am_xn 0 (c1 := (14, [.ref 58, .int (zi a), .int (zi w), .null, .null, .null], [.int (zi 1)], M)) rfl ?_
      obtain ⟨r1, hv⟩ := hv
      refine am_xn 4 (c1 := (if zi w < zi 3 then 25 else 67, [.ref 58, .int (zi a), .int (zi w), .null, .null, .null], [], M)) rfl (am_xlt r1 (by decide) (fun h => ?_) (fun h => ?_))
      · replace hv := hv.1 h
        refine am_xn 2 (c1 := (if zi w = zi 0 then 29 else 40, [.ref 58, .int (zi a), .int (zi w), .null, .null, .null], [], M)) rfl (am_xeq r1 (by decide) (fun h => ?_) (fun h => ?_))
        · replace hv := hv.1 h
          refine am_xiadd 5 1 a (pc := 36) (ls := [.ref 58, .int (zi a), .int (zi w), .null, .null, .null]) (st := [.ref 59]) rfl ?_
          obtain ⟨r2, hv⟩ := hv
          refine am_xald rfl rfl rfl r2 ?_
          refine am_xn 0 (c1 := (37, [.ref 58, .int (zi a), .int (zi w), .null, .null, .null], [.int (zi (iv M 59 (1 + a)))], M)) rfl ?_
          refine am_xn 1 (c1 := (66, [.ref 58, .int (zi a), .int (zi w), .null, .null, .null], [.int (zi (iv M 59 (1 + a)))], M)) rfl ?_
          exact am_xr (some (.int (zi (iv M 59 (1 + a))))) ⟨rfl, rfl, .int, rfl, rfl⟩ hv
        · replace hv := hv.2 h
          refine am_xn 3 (c1 := (if zi w = zi 1 then 45 else 57, [.ref 58, .int (zi a), .int (zi w), .null, .null, .null], [], M)) rfl (am_xeq r1 (by decide) (fun h => ?_) (fun h => ?_))
          · replace hv := hv.1 h
            refine am_xiadd 5 21 a (pc := 53) (ls := [.ref 58, .int (zi a), .int (zi w), .null, .null, .null]) (st := [.ref 59]) rfl ?_
            obtain ⟨r3, hv⟩ := hv
            refine am_xald rfl rfl rfl r3 ?_
            refine am_xn 0 (c1 := (54, [.ref 58, .int (zi a), .int (zi w), .null, .null, .null], [.int (zi (iv M 59 (21 + a)))], M)) rfl ?_
            refine am_xn 1 (c1 := (66, [.ref 58, .int (zi a), .int (zi w), .null, .null, .null], [.int (zi (iv M 59 (21 + a)))], M)) rfl ?_
            exact am_xr (some (.int (zi (iv M 59 (21 + a))))) ⟨rfl, rfl, .int, rfl, rfl⟩ hv
          · replace hv := hv.2 h
            refine am_xiadd 5 41 a (pc := 65) (ls := [.ref 58, .int (zi a), .int (zi w), .null, .null, .null]) (st := [.ref 59]) rfl ?_
            obtain ⟨r4, hv⟩ := hv
            refine am_xald rfl rfl rfl r4 ?_
            refine am_xn 0 (c1 := (66, [.ref 58, .int (zi a), .int (zi w), .null, .null, .null], [.int (zi (iv M 59 (41 + a)))], M)) rfl ?_
            exact am_xr (some (.int (zi (iv M 59 (41 + a))))) ⟨rfl, rfl, .int, rfl, rfl⟩ hv
      · replace hv := hv.2 h
        refine am_xn 1 (c1 := (68, [.ref 58, .int (zi a), .int (zi w), .null, .null, .null], [.ref 58], M)) rfl ?_
        obtain ⟨M5, hc, hv⟩ := hv
        refine am_xc t_Mo_fullLaw (.invokevirtual 242) 242 (av := [.ref 58]) (rest := []) (rv := none) (M' := M5) rfl rfl rfl rfl (Nat.le_of_ble_eq_true rfl) (fun _ => rfl) (hc) ?_
        refine am_xn 0 (c1 := (71, [.ref 58, .int (zi a), .int (zi w), .null, .null, .null], [], M5)) rfl ?_
        refine am_xn 4 (c1 := (75, [.ref 58, .int (zi a), .int (zi w), .int (zi 0), .null, .null], [.int (zi a), .ref 58], M5)) rfl ?_
        obtain ⟨g, hv⟩ := hv
        refine am_xc t_Mo_firstOf (.invokevirtual 128) 128 (av := [.ref 58, .int (zi a)]) (rest := []) (rv := some (.int (zi (fo (iv M5 59) a)))) (M' := M5) rfl rfl rfl rfl (Nat.le_of_ble_eq_true rfl) (fun _ => rfl) (sp_firstOf M5 a g) ?_
        refine am_xn 0 (c1 := (78, [.ref 58, .int (zi a), .int (zi w), .int (zi 0), .null, .null], [.int (zi (fo (iv M5 59) a))], M5)) rfl ?_
        refine am_xn 3 (c1 := (84, [.ref 58, .int (zi a), .int (zi w), .int (zi 0), .int (zi (fo (iv M5 59) a)), .int (zi (fo (iv M5 59) a))], [], M5)) rfl ?_
        refine am_xf 2 ?_
        exact hv
    · replace hv := hv.2 c6
      refine am_xc t_Mo_in (.invokestatic 76) 76 (av := [.int (zi w), .int (zi 0), .int (zi 3)]) (rest := []) (rv := some (.int (zi 0))) (M' := M) rfl rfl rfl rfl (Nat.le_of_ble_eq_true rfl) (fun h => nomatch h) (by have q := sp_in M w 0 3 g; rwa [if_neg c6] at q) ?_
      refine am_xn 0 (c1 := (14, [.ref 58, .int (zi a), .int (zi w), .null, .null, .null], [.int (zi 0)], M)) rfl ?_
      refine am_xn 2 (c1 := (19, [.ref 58, .int (zi a), .int (zi w), .null, .null, .null], [.int (zi (-2))], M)) rfl ?_
      exact am_xr (some (.int (zi (-2)))) ⟨rfl, rfl, .int, rfl, rfl⟩ hv
  · replace hv := hv.2 c7
    refine am_xc t_Mo_isAmendment (.invokevirtual 239) 239 (av := [.ref 58, .int (zi a)]) (rest := []) (rv := some (.int (zi 0))) (M' := M) rfl rfl rfl rfl (Nat.le_of_ble_eq_true rfl) (fun _ => rfl) (by have q := sp_isAmendment M a g; rwa [if_neg c7] at q) ?_
    refine am_xn 0 (c1 := (5, [.ref 58, .int (zi a), .int (zi w), .null, .null, .null], [.int (zi 0)], M)) rfl ?_
    refine am_xn 2 (c1 := (19, [.ref 58, .int (zi a), .int (zi w), .null, .null, .null], [.int (zi (-2))], M)) rfl ?_
    exact am_xr (some (.int (zi (-2)))) ⟨rfl, rfl, .int, rfl, rfl⟩ hv
set_option maxRecDepth 100000 in
theorem vc_m_amendment_84 (x1 : Int) (x3 : Int) (x4 : Int) (x5 : Int) (M : am_M) (Q : Option Value → am_M → Prop) (hv : (0 ≤ (41 + x1) ∧ (41 + x1) < 1501) ∧ (zr x5 ∧ (zr (x4 + (iv M 59 (41 + x1))) ∧ ((x5 < (x4 + (iv M 59 (41 + x1))) → ∃ (r5 : Int) (M4 : am_M), am_call t_Mo_statusOf [.ref 58, .int (zi x5)] M (some (.int (zi r5))) M4 ∧ (zr r5 ∧ ((r5 = 0 → am_x t_Mo_amendment (84, [.ref 58, .int (zi x1), .null, .int (zi (x3 + 1)), .int (zi x4), .int (zi (x5 + 1))], [], M4) Q) ∧ (¬ r5 = 0 → am_x t_Mo_amendment (84, [.ref 58, .int (zi x1), .null, .int (zi (x3 + 0)), .int (zi x4), .int (zi (x5 + 1))], [], M4) Q)))) ∧ ((x4 + (iv M 59 (41 + x1))) ≤ x5 → Q (some (.int (zi x3))) M))))) : am_x t_Mo_amendment (84, [.ref 58, .int (zi x1), .null, .int (zi x3), .int (zi x4), .int (zi x5)], [], M) Q := by
  refine am_xiadd 7 41 x1 (pc := 96) (ls := [.ref 58, .int (zi x1), .null, .int (zi x3), .int (zi x4), .int (zi x5)]) (st := [.ref 59, .int (zi x4), .int (zi x5)]) rfl ?_
  obtain ⟨r1, hv⟩ := hv
  refine am_xald rfl rfl rfl r1 ?_
  refine am_xn 0 (c1 := (97, [.ref 58, .int (zi x1), .null, .int (zi x3), .int (zi x4), .int (zi x5)], [.int (zi (iv M 59 (41 + x1))), .int (zi x4), .int (zi x5)], M)) rfl ?_
  refine am_xiadd 1 x4 (iv M 59 (41 + x1)) (pc := 98) (ls := [.ref 58, .int (zi x1), .null, .int (zi x3), .int (zi x4), .int (zi x5)]) (st := [.int (zi x5)]) rfl ?_
  obtain ⟨r2, hv⟩ := hv
  obtain ⟨r3, hv⟩ := hv
  refine am_xn 1 (c1 := (if zi x5 < zi (x4 + (iv M 59 (41 + x1))) then 101 else 124, [.ref 58, .int (zi x1), .null, .int (zi x3), .int (zi x4), .int (zi x5)], [], M)) rfl (am_xlt r2 r3 (fun h => ?_) (fun h => ?_))
  · replace hv := hv.1 h
    refine am_xn 3 (c1 := (105, [.ref 58, .int (zi x1), .null, .int (zi x3), .int (zi x4), .int (zi x5)], [.int (zi x5), .ref 58, .int (zi x3)], M)) rfl ?_
    obtain ⟨r5, M4, hc, hv⟩ := hv
    refine am_xc t_Mo_statusOf (.invokevirtual 245) 245 (av := [.ref 58, .int (zi x5)]) (rest := [.int (zi x3)]) (rv := some (.int (zi r5))) (M' := M4) rfl rfl rfl rfl (Nat.le_of_ble_eq_true rfl) (fun _ => rfl) (hc) ?_
    refine am_xn 0 (c1 := (108, [.ref 58, .int (zi x1), .null, .int (zi x3), .int (zi x4), .int (zi x5)], [.int (zi r5), .int (zi x3)], M4)) rfl ?_
    obtain ⟨r6, hv⟩ := hv
    refine am_xn 1 (c1 := (if zi r5 = zi 0 then 111 else 115, [.ref 58, .int (zi x1), .null, .int (zi x3), .int (zi x4), .int (zi x5)], [.int (zi x3)], M4)) rfl (am_xeq r6 (by decide) (fun h => ?_) (fun h => ?_))
    · replace hv := hv.1 h
      refine am_xiadd 3 x3 1 (pc := 117) (ls := [.ref 58, .int (zi x1), .null, .int (zi x3), .int (zi x4), .int (zi x5)]) (st := []) rfl ?_
      refine am_xn 2 (c1 := (121, [.ref 58, .int (zi x1), .null, .int (zi (x3 + 1)), .int (zi x4), .int (zi x5 + zi 1)], [], M4)) rfl ?_
      rw [zi_add]
      refine am_xn 1 (c1 := (84, [.ref 58, .int (zi x1), .null, .int (zi (x3 + 1)), .int (zi x4), .int (zi (x5 + 1))], [], M4)) rfl ?_
      exact hv
    · replace hv := hv.2 h
      refine am_xiadd 2 x3 0 (pc := 117) (ls := [.ref 58, .int (zi x1), .null, .int (zi x3), .int (zi x4), .int (zi x5)]) (st := []) rfl ?_
      refine am_xn 2 (c1 := (121, [.ref 58, .int (zi x1), .null, .int (zi (x3 + 0)), .int (zi x4), .int (zi x5 + zi 1)], [], M4)) rfl ?_
      rw [zi_add]
      refine am_xn 1 (c1 := (84, [.ref 58, .int (zi x1), .null, .int (zi (x3 + 0)), .int (zi x4), .int (zi (x5 + 1))], [], M4)) rfl ?_
      exact hv
  · replace hv := hv.2 h
    refine am_xn 1 (c1 := (125, [.ref 58, .int (zi x1), .null, .int (zi x3), .int (zi x4), .int (zi x5)], [.int (zi x3)], M)) rfl ?_
    exact am_xr (some (.int (zi x3))) ⟨rfl, rfl, .int, rfl, rfl⟩ hv
theorem sp_effective {M : am_M} {b : Int → Int} (w : WB b) (r : CLR15 (lw b 9999 (-1)) M) {s n : Int} (s0 : 0 ≤ s) (n0 : 0 ≤ n) (h : s + n ≤ nops b) : am_call t_Law_effective [.ref 15, .int (zi s), .int (zi (s + n))] M (some (.int (zi (effn b s n)))) M := by
  have wt := w.tot
  refine am_call_of ⟨Nat.le_of_ble_eq_true rfl, rfl⟩ (vc_effective s (s + n) M _ ?_)
  refine loop_up (fun i (x : Int) => (5, [.ref 15, .null, .int (zi (s + n)), .int (zi x), .int (zi i)], [], M)) (s + n) (fun i x => s ≤ i ∧ x = effn b s (i - s)) ?_ ?_ s 0 s0 (by omega) ⟨Int.le_refl _, by rw [Int.sub_self]; rfl⟩
  · intro x ⟨_, hx⟩
    refine vc_effective_5 _ _ _ M _ ⟨⟨by omega, by omega⟩, ⟨by omega, by omega⟩, fun q => by omega, fun _ => ⟨?_, rfl⟩⟩
    rw [hx, show s + n - s = n by omega]
  · intro i x i0 i1 ⟨i2, hx⟩ k
    have e := sm_s (fun j => if stt b (s + j) = 0 then 1 else 0) (n := i - s) (by omega)
    rw [show s + (i - s) = i by omega, show i - s + 1 = i + 1 - s by omega] at e
    refine vc_effective_5 _ _ _ M _ ⟨⟨by omega, by omega⟩, ⟨by omega, by omega⟩, fun _ => ⟨⟨i0, by omega⟩, ?_⟩, fun q => by omega⟩
    rw [cst_full w r i0 (by omega)]
    exact ⟨fun q => k _ ⟨by omega, by rw [effn, e, if_pos q, hx]; rfl⟩, fun q => k _ ⟨by omega, by rw [effn, e, if_neg q, hx, Int.add_zero]; rfl⟩⟩
theorem sp_amendmentPart {M : am_M} {b : Int → Int} (w : WB b) (cb : CBR (iv M 11) b) (r : CLR15 (lw b 9999 (-1)) M) {a x : Int} (a0 : 0 ≤ a) (a1 : a < b 0) (xz : zr x) : am_call t_SB_amendmentPart [.ref 0, .int (zi a), .int (zi x)] M (some (.int (zi (amdv b a x)))) M := by
  have w1 := w.n1
  have ws := w.sz a a0 a1
  have f0 := w.fo_nn (n := a) (by omega)
  have f1 := fo_s b a0
  have f2 := w.fo_le (n := a + 1) (by omega) (by omega)
  have e1 := cb.1.2.2.2.1 a a0 a1
  have e2 := cb.1.2.2.2.2.1 a a0 (by omega)
  have e3 := cb.1.2.2.2.2.1 (a + 1) (by omega) (by omega)
  have e4 := cb.2.2 a a0 (by omega)
  rw [if_pos a1] at e4
  have rv := w.rev a a0 a1
  refine am_call_of ⟨Nat.le_of_ble_eq_true rfl, rfl⟩ (vc_amendmentPart a x M _ ⟨xz, fun h => ⟨⟨a0, by omega⟩, by rw [e1, amdv, if_pos h], rfl⟩, fun h => ⟨fun q => ⟨?_, rfl⟩, fun q => ⟨?_, rfl⟩⟩, fun h => ⟨⟨a0, by omega⟩, ?_, rfl⟩, fun h h' h'' => ⟨⟨a0, by omega⟩, ⟨by omega, by omega⟩, _, M, ?_, rfl, rfl⟩⟩)
  · rw [e4] at q
    rw [amdv, if_neg (by omega), if_pos h, q]
  · rw [e4] at q
    rw [amdv, if_neg (by omega), if_pos h, show b (21 + a) = 0 by omega]
  · rw [e2, e3, amdv, if_neg (by omega), if_neg (by omega), if_pos h, show fo b (a + 1) - fo b a = b (41 + a) by omega]
  · have hh := sp_effective w r f0 (n := b (41 + a)) (by omega) (by omega)
    rw [e2, e3, f1, amdv, if_neg h, if_neg h', if_neg h'']
    exact hh
theorem sp_m_amendment {M : am_M} (w : WB (iv M 59)) {a x : Int} (a0 : 0 ≤ a) (a1 : a < iv M 59 0) (hx : 0 ≤ x ∧ x ≤ 3) : ∃ M', am_call t_Mo_amendment [.ref 58, .int (zi a), .int (zi x)] M (some (.int (zi (amdv (iv M 59) a x)))) M' ∧ MLf M M' := by
  have xz : zr x := ⟨by omega, by omega⟩
  have w1 := w.n1
  have ws := w.sz a a0 a1
  have f0 := w.fo_nn (n := a) (by omega)
  have f1 := fo_s (iv M 59) a0
  have f2 := w.fo_le (n := a + 1) (by omega) (by omega)
  have wt := w.tot
  have refl : MLf M M := ⟨fun _ _ _ => rfl, fun _ _ => rfl⟩
  suffices h : am_x t_Mo_amendment (0, am_ent (am_mL t_Mo_amendment) [.ref 58, .int (zi a), .int (zi x)], [], M) (fun r M' => r = some (.int (zi (amdv (iv M 59) a x))) ∧ MLf M M') by
    obtain ⟨r, M', h1, h2, h3⟩ := am_call_ex (by exact ⟨Nat.le_of_ble_eq_true rfl, rfl⟩) h
    subst h2
    exact ⟨M', h1, h3⟩
  obtain ⟨M5, m1, m2, m3⟩ := sp_fullLaw M w
  have e59 : iv M5 59 = iv M 59 := iv_row (m2.1 59 (by decide) (by decide))
  refine vc_m_amendment a x M _ ⟨⟨⟨by omega, by omega⟩, by omega⟩, fun _ => ⟨⟨xz, by decide, by decide⟩, fun _ => ⟨xz, fun h3 => ⟨fun h => ⟨⟨by omega, by omega⟩, by rw [amdv, if_pos h], refl⟩, fun h => ⟨fun h' => ⟨⟨by omega, by omega⟩, by rw [amdv, if_neg h, if_pos h'], refl⟩, fun h' => ⟨⟨by omega, by omega⟩, by rw [amdv, if_neg h, if_neg h', if_pos (by omega)], refl⟩⟩⟩, fun h3 => ⟨M5, m1, ⟨a0, by omega⟩, ?_⟩⟩, fun q => absurd hx q⟩, fun q => absurd ⟨a0, a1⟩ q⟩
  rw [e59]
  rw [amdv, if_neg (by omega), if_neg (by omega), if_neg (by omega)]
  refine loop_up (fun i (s : Int) => (84, [.ref 58, .int (zi a), .null, .int (zi s), .int (zi (fo (iv M 59) a)), .int (zi i)], [], M5)) (fo (iv M 59) a + iv M 59 (41 + a)) (fun i s => fo (iv M 59) a ≤ i ∧ s = effn (iv M 59) (fo (iv M 59) a) (i - fo (iv M 59) a)) ?_ ?_ (fo (iv M 59) a) 0 f0 (by omega) ⟨Int.le_refl _, by rw [Int.sub_self]; rfl⟩
  · intro s ⟨_, hs⟩
    refine vc_m_amendment_84 _ _ _ _ M5 _ ⟨⟨by omega, by omega⟩, ⟨by omega, by omega⟩, ⟨by rw [e59]; omega, by rw [e59]; omega⟩, fun q => by rw [e59] at q; omega, fun _ => ⟨?_, m2⟩⟩
    rw [hs, show fo (iv M 59) a + iv M 59 (41 + a) - fo (iv M 59) a = iv M 59 (41 + a) by omega]
  · intro i s i0 i1 ⟨i2, hs⟩ k
    have e := sm_s (fun j => if stt (iv M 59) (fo (iv M 59) a + j) = 0 then 1 else 0) (n := i - fo (iv M 59) a) (by omega)
    rw [show fo (iv M 59) a + (i - fo (iv M 59) a) = i by omega, show i - fo (iv M 59) a + 1 = i + 1 - fo (iv M 59) a by omega] at e
    have st := sp_statusOf (M := M5) (by rw [e59]; exact w) (by rw [e59]; exact m3) i0 (by rw [e59]; omega)
    rw [e59] at st
    have sr := stt_rg w i0 (show i < nops (iv M 59) by omega)
    refine vc_m_amendment_84 _ _ _ _ M5 _ ⟨⟨by omega, by omega⟩, ⟨by omega, by omega⟩, ⟨by rw [e59]; omega, by rw [e59]; omega⟩, fun _ => ⟨_, M5, st, ⟨by omega, by omega⟩, fun q => k _ ⟨by omega, ?_⟩, fun q => k _ ⟨by omega, ?_⟩⟩, fun q => by rw [e59] at q; omega⟩
    · rw [effn, e, if_pos q, hs]; rfl
    · rw [effn, e, if_neg q, hs]; rfl
theorem q_amendment {M : am_M} (s : CSt M) {a x : Int} (az : zr a) (xz : zr x) : QRY t_SB_amendment t_Mo_amendment [.ref 0, .int (zi a), .int (zi x)] [.ref 58, .int (zi a), .int (zi x)] M := by
  obtain ⟨w, cb⟩ := s
  have n0 := w.n0
  by_cases hl : (0 ≤ a ∧ a < iv M 59 0) ∧ (0 ≤ x ∧ x ≤ 3)
  · obtain ⟨M4, h4, fr, r4, od⟩ := sp_c_consolidateFully M w cb
    refine ⟨amdv (iv M 59) a x, ⟨M4, ?_, CQ_15 fr⟩, fun M1 hs => ?_⟩
    · have cb4 : CBR (iv M4 11) (iv M 59) := by rw [iv_row (fr.1 11 (by decide) (by decide))]; exact cb
      exact am_call_of ⟨Nat.le_of_ble_eq_true rfl, rfl⟩ (vc_c_amendment a x M _ ⟨az, fun _ => ⟨⟨xz, by decide⟩, fun _ => ⟨M4, h4, _, M4, sp_amendmentPart w cb4 r4 hl.1.1 hl.1.2 xz, rfl, rfl⟩, fun q => absurd hl.2 q⟩, fun q => absurd (by rw [cb.1.1]; exact hl.1) q⟩)
    · have e59 := iv_row (hs 59 (by decide))
      obtain ⟨M2, m1, m2⟩ := sp_m_amendment (M := M1) (by rw [e59]; exact w) hl.1.1 (by rw [e59]; exact hl.1.2) hl.2
      rw [e59] at m1
      exact ⟨M2, m1, MqF_lf m2⟩
  · refine qry (-2) ⟨Nat.le_of_ble_eq_true rfl, rfl⟩ ⟨Nat.le_of_ble_eq_true rfl, rfl⟩ (vc_c_amendment a x M _ ⟨az, fun q => ⟨⟨xz, by decide⟩, fun q2 => absurd ⟨by rw [cb.1.1] at q; exact q, q2⟩ hl, fun _ => ⟨rfl, CQ_refl M⟩⟩, fun _ => ⟨rfl, CQ_refl M⟩⟩) (fun M1 hs => vc_m_amendment a x M1 _ ⟨⟨az, by rw [iv_row (hs 59 (by decide))]; exact n0⟩, fun q => ⟨⟨xz, by decide, by decide⟩, fun q2 => absurd ⟨by rw [iv_row (hs 59 (by decide))] at q; exact q, q2⟩ hl, fun _ => ⟨rfl, MqF_refl M1⟩⟩, fun _ => ⟨rfl, MqF_refl M1⟩⟩)
set_option maxRecDepth 100000 in
theorem vc_isOperation (a : Int) (o : Int) (M : am_M) (Q : Option Value → am_M → Prop) (hv : (zr a ∧ 0 ≤ iv M 59 0) ∧ ((0 ≤ a ∧ a < iv M 59 0 → (0 ≤ (41 + a) ∧ (41 + a) < 1501) ∧ ((zr o ∧ zr (0 : Int) ∧ zr ((iv M 59 (41 + a)) - 1)) ∧ ((0 ≤ o ∧ o ≤ ((iv M 59 (41 + a)) - 1) → Q (some (.int (zi 1))) M) ∧ (¬ (0 ≤ o ∧ o ≤ ((iv M 59 (41 + a)) - 1)) → Q (some (.int (zi 0))) M)))) ∧ (¬ (0 ≤ a ∧ a < iv M 59 0) → Q (some (.int (zi 0))) M))) : am_x t_Mo_isOperation (0, am_ent (am_mL t_Mo_isOperation) [.ref 58, .int (zi a), .int (zi o)], [], M) Q := by
  refine am_xn 0 (c1 := (0, [.ref 58, .int (zi a), .int (zi o)], [], M)) rfl ?_
  refine am_xn 2 (c1 := (2, [.ref 58, .int (zi a), .int (zi o)], [.int (zi a), .ref 58], M)) rfl ?_
  obtain ⟨g, hv⟩ := hv
  by_cases c3 : 0 ≤ a ∧ a < iv M 59 0
  · replace hv := hv.1 c3
    refine am_xc t_Mo_isAmendment (.invokevirtual 239) 239 (av := [.ref 58, .int (zi a)]) (rest := []) (rv := some (.int (zi 1))) (M' := M) rfl rfl rfl rfl (Nat.le_of_ble_eq_true rfl) (fun _ => rfl) (by have q := sp_isAmendment M a g; rwa [if_pos c3] at q) ?_
    refine am_xn 0 (c1 := (5, [.ref 58, .int (zi a), .int (zi o)], [.int (zi 1)], M)) rfl ?_
    refine am_xiadd 8 41 a (pc := 18) (ls := [.ref 58, .int (zi a), .int (zi o)]) (st := [.ref 59, .int (zi 0), .int (zi o)]) rfl ?_
    obtain ⟨r1, hv⟩ := hv
    refine am_xald rfl rfl rfl r1 ?_
    refine am_xn 0 (c1 := (19, [.ref 58, .int (zi a), .int (zi o)], [.int (zi (iv M 59 (41 + a))), .int (zi 0), .int (zi o)], M)) rfl ?_
    refine am_xisub 2 (iv M 59 (41 + a)) 1 (pc := 21) (ls := [.ref 58, .int (zi a), .int (zi o)]) (st := [.int (zi 0), .int (zi o)]) rfl ?_
    obtain ⟨g, hv⟩ := hv
    by_cases c2 : 0 ≤ o ∧ o ≤ ((iv M 59 (41 + a)) - 1)
    · replace hv := hv.1 c2
      refine am_xc t_Mo_in (.invokestatic 76) 76 (av := [.int (zi o), .int (zi 0), .int (zi ((iv M 59 (41 + a)) - 1))]) (rest := []) (rv := some (.int (zi 1))) (M' := M) rfl rfl rfl rfl (Nat.le_of_ble_eq_true rfl) (fun h => nomatch h) (by have q := sp_in M o 0 ((iv M 59 (41 + a)) - 1) g; rwa [if_pos c2] at q) ?_
      refine am_xn 0 (c1 := (24, [.ref 58, .int (zi a), .int (zi o)], [.int (zi 1)], M)) rfl ?_
      refine am_xn 3 (c1 := (32, [.ref 58, .int (zi a), .int (zi o)], [.int (zi 1)], M)) rfl ?_
      exact am_xr (some (.int (zi 1))) ⟨rfl, rfl, .boolean, rfl, rfl⟩ hv
    · replace hv := hv.2 c2
      refine am_xc t_Mo_in (.invokestatic 76) 76 (av := [.int (zi o), .int (zi 0), .int (zi ((iv M 59 (41 + a)) - 1))]) (rest := []) (rv := some (.int (zi 0))) (M' := M) rfl rfl rfl rfl (Nat.le_of_ble_eq_true rfl) (fun h => nomatch h) (by have q := sp_in M o 0 ((iv M 59 (41 + a)) - 1) g; rwa [if_neg c2] at q) ?_
      refine am_xn 0 (c1 := (24, [.ref 58, .int (zi a), .int (zi o)], [.int (zi 0)], M)) rfl ?_
      refine am_xn 2 (c1 := (32, [.ref 58, .int (zi a), .int (zi o)], [.int (zi 0)], M)) rfl ?_
      exact am_xr (some (.int (zi 0))) ⟨rfl, rfl, .boolean, rfl, rfl⟩ hv
  · replace hv := hv.2 c3
    refine am_xc t_Mo_isAmendment (.invokevirtual 239) 239 (av := [.ref 58, .int (zi a)]) (rest := []) (rv := some (.int (zi 0))) (M' := M) rfl rfl rfl rfl (Nat.le_of_ble_eq_true rfl) (fun _ => rfl) (by have q := sp_isAmendment M a g; rwa [if_neg c3] at q) ?_
    refine am_xn 0 (c1 := (5, [.ref 58, .int (zi a), .int (zi o)], [.int (zi 0)], M)) rfl ?_
    refine am_xn 2 (c1 := (32, [.ref 58, .int (zi a), .int (zi o)], [.int (zi 0)], M)) rfl ?_
    exact am_xr (some (.int (zi 0))) ⟨rfl, rfl, .boolean, rfl, rfl⟩ hv
set_option maxRecDepth 100000 in
theorem vc_told (o : Int) (w : Int) (M : am_M) (Q : Option Value → am_M → Prop) (hv : (0 ≤ o ∧ o < 120 ∧ 0 ≤ (0 : Int) ∧ (0 : Int) < 12) ∧ (zr w ∧ ((w = 0 → Q (some (.int (zi (pt (iv M 59) o 0)))) M) ∧ (w = 1 → (0 ≤ o ∧ o < 120 ∧ 0 ≤ (1 : Int) ∧ (1 : Int) < 12) ∧ (Q (some (.int (zi (pt (iv M 59) o 1)))) M)) ∧ (w = 2 → (2 < (pt (iv M 59) o 0) → (0 ≤ o ∧ o < 120 ∧ 0 ≤ (2 : Int) ∧ (2 : Int) < 12) ∧ (Q (some (.int (zi (pt (iv M 59) o 2)))) M)) ∧ ((pt (iv M 59) o 0) ≤ 2 → Q (some (.int (zi (-1)))) M)) ∧ (w = 3 → ((pt (iv M 59) o 0) = 4 → (0 ≤ o ∧ o < 120 ∧ 0 ≤ (3 : Int) ∧ (3 : Int) < 12) ∧ (Q (some (.int (zi (pt (iv M 59) o 3)))) M)) ∧ (¬ (pt (iv M 59) o 0) = 4 → Q (some (.int (zi (-1)))) M)) ∧ (w = 4 → (0 ≤ o ∧ o < 120 ∧ 0 ≤ (4 : Int) ∧ (4 : Int) < 12) ∧ (Q (some (.int (zi (pt (iv M 59) o 4)))) M)) ∧ (w = 5 → (0 ≤ o ∧ o < 120 ∧ 0 ≤ (5 : Int) ∧ (5 : Int) < 12) ∧ (Q (some (.int (zi (pt (iv M 59) o 5)))) M)) ∧ (w = 6 → ∃ (r3 : Int) (M2 : am_M), am_call t_Mo_statusOf [.ref 58, .int (zi o)] M (some (.int (zi r3))) M2 ∧ (Q (some (.int (zi r3))) M2)) ∧ (w = 7 → ∃ (r5 : Int) (M4 : am_M), am_call t_Mo_statusOf [.ref 58, .int (zi o)] M (some (.int (zi r5))) M4 ∧ (zr r5 ∧ ((r5 = 0 → (0 ≤ o ∧ o < 120) ∧ (Q (some (.int (zi (iv M4 70 o)))) M4)) ∧ (¬ r5 = 0 → Q (some (.int (zi (-1)))) M4)))) ∧ (¬ w = 0 → ¬ w = 1 → ¬ w = 2 → ¬ w = 3 → ¬ w = 4 → ¬ w = 5 → ¬ w = 6 → ¬ w = 7 → ((pt (iv M 59) o 0) = 0 → (0 ≤ o ∧ o ≤ 120) ∧ (Q (some (.int (zi (ia (iv M 59) o)))) M)) ∧ (¬ (pt (iv M 59) o 0) = 0 → Q (some (.int (zi (-1)))) M))))) : am_x t_Mo_told (0, am_ent (am_mL t_Mo_told) [.ref 58, .int (zi o), .int (zi w)], [], M) Q := by
  refine am_xn 0 (c1 := (0, [.ref 58, .int (zi o), .int (zi w), .null], [], M)) rfl ?_
  refine am_xn 3 (c1 := (3, [.ref 58, .int (zi o), .int (zi w), .null], [.int (zi 0), .int (zi o), .ref 58], M)) rfl ?_
  obtain ⟨g, hv⟩ := hv
  refine am_xc t_Mo_part (.invokevirtual 85) 85 (av := [.ref 58, .int (zi o), .int (zi 0)]) (rest := []) (rv := some (.int (zi (pt (iv M 59) o 0)))) (M' := M) rfl rfl rfl rfl (Nat.le_of_ble_eq_true rfl) (fun _ => rfl) (sp_part M o 0 g) ?_
  refine am_xn 0 (c1 := (6, [.ref 58, .int (zi o), .int (zi w), .null], [.int (zi (pt (iv M 59) o 0))], M)) rfl ?_
  obtain ⟨r1, hv⟩ := hv
  refine am_xn 2 (c1 := (8, [.ref 58, .int (zi o), .int (zi w), .int (zi (pt (iv M 59) o 0))], [.int (zi w)], M)) rfl ?_
  by_cases h0 : w = 0
  · replace hv := hv.1 h0
    refine am_xswt rfl 0 (by rw [h0]; rfl) 56 rfl ?_
    refine am_xn 1 (c1 := (57, [.ref 58, .int (zi o), .int (zi w), .int (zi (pt (iv M 59) o 0))], [.int (zi (pt (iv M 59) o 0))], M)) rfl ?_
    exact am_xr (some (.int (zi (pt (iv M 59) o 0)))) ⟨rfl, rfl, .int, rfl, rfl⟩ hv
  replace hv := hv.2
  by_cases h1 : w = 1
  · replace hv := hv.1 h1
    refine am_xswt rfl 1 (by rw [h1]; rfl) 58 rfl ?_
    refine am_xn 3 (c1 := (61, [.ref 58, .int (zi o), .int (zi w), .int (zi (pt (iv M 59) o 0))], [.int (zi 1), .int (zi o), .ref 58], M)) rfl ?_
    obtain ⟨g, hv⟩ := hv
    refine am_xc t_Mo_part (.invokevirtual 85) 85 (av := [.ref 58, .int (zi o), .int (zi 1)]) (rest := []) (rv := some (.int (zi (pt (iv M 59) o 1)))) (M' := M) rfl rfl rfl rfl (Nat.le_of_ble_eq_true rfl) (fun _ => rfl) (sp_part M o 1 g) ?_
    refine am_xn 0 (c1 := (64, [.ref 58, .int (zi o), .int (zi w), .int (zi (pt (iv M 59) o 0))], [.int (zi (pt (iv M 59) o 1))], M)) rfl ?_
    exact am_xr (some (.int (zi (pt (iv M 59) o 1)))) ⟨rfl, rfl, .int, rfl, rfl⟩ hv
  replace hv := hv.2
  by_cases h2 : w = 2
  · replace hv := hv.1 h2
    refine am_xswt rfl 2 (by rw [h2]; rfl) 65 rfl ?_
    refine am_xn 3 (c1 := (if zi 2 < zi (pt (iv M 59) o 0) then 70 else 79, [.ref 58, .int (zi o), .int (zi w), .int (zi (pt (iv M 59) o 0))], [], M)) rfl (am_xlt (by decide) (iv_r _ 59 _) (fun h => ?_) (fun h => ?_))
    · replace hv := hv.1 h
      refine am_xn 3 (c1 := (73, [.ref 58, .int (zi o), .int (zi w), .int (zi (pt (iv M 59) o 0))], [.int (zi 2), .int (zi o), .ref 58], M)) rfl ?_
      obtain ⟨g, hv⟩ := hv
      refine am_xc t_Mo_part (.invokevirtual 85) 85 (av := [.ref 58, .int (zi o), .int (zi 2)]) (rest := []) (rv := some (.int (zi (pt (iv M 59) o 2)))) (M' := M) rfl rfl rfl rfl (Nat.le_of_ble_eq_true rfl) (fun _ => rfl) (sp_part M o 2 g) ?_
      refine am_xn 0 (c1 := (76, [.ref 58, .int (zi o), .int (zi w), .int (zi (pt (iv M 59) o 0))], [.int (zi (pt (iv M 59) o 2))], M)) rfl ?_
      refine am_xn 1 (c1 := (80, [.ref 58, .int (zi o), .int (zi w), .int (zi (pt (iv M 59) o 0))], [.int (zi (pt (iv M 59) o 2))], M)) rfl ?_
      exact am_xr (some (.int (zi (pt (iv M 59) o 2)))) ⟨rfl, rfl, .int, rfl, rfl⟩ hv
    · replace hv := hv.2 h
      refine am_xn 1 (c1 := (80, [.ref 58, .int (zi o), .int (zi w), .int (zi (pt (iv M 59) o 0))], [.int (zi (-1))], M)) rfl ?_
      exact am_xr (some (.int (zi (-1)))) ⟨rfl, rfl, .int, rfl, rfl⟩ hv
  replace hv := hv.2
  by_cases h3 : w = 3
  · replace hv := hv.1 h3
    refine am_xswt rfl 3 (by rw [h3]; rfl) 81 rfl ?_
    refine am_xn 3 (c1 := (if zi (pt (iv M 59) o 0) = zi 4 then 86 else 95, [.ref 58, .int (zi o), .int (zi w), .int (zi (pt (iv M 59) o 0))], [], M)) rfl (am_xeq (iv_r _ 59 _) (by decide) (fun h => ?_) (fun h => ?_))
    · replace hv := hv.1 h
      refine am_xn 3 (c1 := (89, [.ref 58, .int (zi o), .int (zi w), .int (zi (pt (iv M 59) o 0))], [.int (zi 3), .int (zi o), .ref 58], M)) rfl ?_
      obtain ⟨g, hv⟩ := hv
      refine am_xc t_Mo_part (.invokevirtual 85) 85 (av := [.ref 58, .int (zi o), .int (zi 3)]) (rest := []) (rv := some (.int (zi (pt (iv M 59) o 3)))) (M' := M) rfl rfl rfl rfl (Nat.le_of_ble_eq_true rfl) (fun _ => rfl) (sp_part M o 3 g) ?_
      refine am_xn 0 (c1 := (92, [.ref 58, .int (zi o), .int (zi w), .int (zi (pt (iv M 59) o 0))], [.int (zi (pt (iv M 59) o 3))], M)) rfl ?_
      refine am_xn 1 (c1 := (96, [.ref 58, .int (zi o), .int (zi w), .int (zi (pt (iv M 59) o 0))], [.int (zi (pt (iv M 59) o 3))], M)) rfl ?_
      exact am_xr (some (.int (zi (pt (iv M 59) o 3)))) ⟨rfl, rfl, .int, rfl, rfl⟩ hv
    · replace hv := hv.2 h
      refine am_xn 1 (c1 := (96, [.ref 58, .int (zi o), .int (zi w), .int (zi (pt (iv M 59) o 0))], [.int (zi (-1))], M)) rfl ?_
      exact am_xr (some (.int (zi (-1)))) ⟨rfl, rfl, .int, rfl, rfl⟩ hv
  replace hv := hv.2
  by_cases h4 : w = 4
  · replace hv := hv.1 h4
    refine am_xswt rfl 4 (by rw [h4]; rfl) 97 rfl ?_
    refine am_xn 3 (c1 := (100, [.ref 58, .int (zi o), .int (zi w), .int (zi (pt (iv M 59) o 0))], [.int (zi 4), .int (zi o), .ref 58], M)) rfl ?_
    obtain ⟨g, hv⟩ := hv
    refine am_xc t_Mo_part (.invokevirtual 85) 85 (av := [.ref 58, .int (zi o), .int (zi 4)]) (rest := []) (rv := some (.int (zi (pt (iv M 59) o 4)))) (M' := M) rfl rfl rfl rfl (Nat.le_of_ble_eq_true rfl) (fun _ => rfl) (sp_part M o 4 g) ?_
    refine am_xn 0 (c1 := (103, [.ref 58, .int (zi o), .int (zi w), .int (zi (pt (iv M 59) o 0))], [.int (zi (pt (iv M 59) o 4))], M)) rfl ?_
    exact am_xr (some (.int (zi (pt (iv M 59) o 4)))) ⟨rfl, rfl, .int, rfl, rfl⟩ hv
  replace hv := hv.2
  by_cases h5 : w = 5
  · replace hv := hv.1 h5
    refine am_xswt rfl 5 (by rw [h5]; rfl) 104 rfl ?_
    refine am_xn 3 (c1 := (107, [.ref 58, .int (zi o), .int (zi w), .int (zi (pt (iv M 59) o 0))], [.int (zi 5), .int (zi o), .ref 58], M)) rfl ?_
    obtain ⟨g, hv⟩ := hv
    refine am_xc t_Mo_part (.invokevirtual 85) 85 (av := [.ref 58, .int (zi o), .int (zi 5)]) (rest := []) (rv := some (.int (zi (pt (iv M 59) o 5)))) (M' := M) rfl rfl rfl rfl (Nat.le_of_ble_eq_true rfl) (fun _ => rfl) (sp_part M o 5 g) ?_
    refine am_xn 0 (c1 := (110, [.ref 58, .int (zi o), .int (zi w), .int (zi (pt (iv M 59) o 0))], [.int (zi (pt (iv M 59) o 5))], M)) rfl ?_
    exact am_xr (some (.int (zi (pt (iv M 59) o 5)))) ⟨rfl, rfl, .int, rfl, rfl⟩ hv
  replace hv := hv.2
  by_cases h6 : w = 6
  · replace hv := hv.1 h6
    refine am_xswt rfl 6 (by rw [h6]; rfl) 111 rfl ?_
    refine am_xn 2 (c1 := (113, [.ref 58, .int (zi o), .int (zi w), .int (zi (pt (iv M 59) o 0))], [.int (zi o), .ref 58], M)) rfl ?_
    obtain ⟨r3, M2, hc, hv⟩ := hv
    refine am_xc t_Mo_statusOf (.invokevirtual 245) 245 (av := [.ref 58, .int (zi o)]) (rest := []) (rv := some (.int (zi r3))) (M' := M2) rfl rfl rfl rfl (Nat.le_of_ble_eq_true rfl) (fun _ => rfl) (hc) ?_
    refine am_xn 0 (c1 := (116, [.ref 58, .int (zi o), .int (zi w), .int (zi (pt (iv M 59) o 0))], [.int (zi r3)], M2)) rfl ?_
    exact am_xr (some (.int (zi r3))) ⟨rfl, rfl, .int, rfl, rfl⟩ hv
  replace hv := hv.2
  by_cases h7 : w = 7
  · replace hv := hv.1 h7
    refine am_xswt rfl 7 (by rw [h7]; rfl) 117 rfl ?_
    refine am_xn 2 (c1 := (119, [.ref 58, .int (zi o), .int (zi w), .int (zi (pt (iv M 59) o 0))], [.int (zi o), .ref 58], M)) rfl ?_
    obtain ⟨r5, M4, hc, hv⟩ := hv
    refine am_xc t_Mo_statusOf (.invokevirtual 245) 245 (av := [.ref 58, .int (zi o)]) (rest := []) (rv := some (.int (zi r5))) (M' := M4) rfl rfl rfl rfl (Nat.le_of_ble_eq_true rfl) (fun _ => rfl) (hc) ?_
    refine am_xn 0 (c1 := (122, [.ref 58, .int (zi o), .int (zi w), .int (zi (pt (iv M 59) o 0))], [.int (zi r5)], M4)) rfl ?_
    obtain ⟨r6, hv⟩ := hv
    refine am_xn 1 (c1 := (if zi r5 = zi 0 then 125 else 134, [.ref 58, .int (zi o), .int (zi w), .int (zi (pt (iv M 59) o 0))], [], M4)) rfl (am_xeq r6 (by decide) (fun h => ?_) (fun h => ?_))
    · replace hv := hv.1 h
      obtain ⟨r7, hv⟩ := hv
      refine am_xn 3 (c1 := (130, [.ref 58, .int (zi o), .int (zi w), .int (zi (pt (iv M 59) o 0))], [.int (zi o), .ref 70], M4)) rfl ?_
      refine am_xald rfl rfl rfl r7 ?_
      refine am_xn 0 (c1 := (131, [.ref 58, .int (zi o), .int (zi w), .int (zi (pt (iv M 59) o 0))], [.int (zi (iv M4 70 o))], M4)) rfl ?_
      refine am_xn 1 (c1 := (135, [.ref 58, .int (zi o), .int (zi w), .int (zi (pt (iv M 59) o 0))], [.int (zi (iv M4 70 o))], M4)) rfl ?_
      exact am_xr (some (.int (zi (iv M4 70 o)))) ⟨rfl, rfl, .int, rfl, rfl⟩ hv
    · replace hv := hv.2 h
      refine am_xn 1 (c1 := (135, [.ref 58, .int (zi o), .int (zi w), .int (zi (pt (iv M 59) o 0))], [.int (zi (-1))], M4)) rfl ?_
      exact am_xr (some (.int (zi (-1)))) ⟨rfl, rfl, .int, rfl, rfl⟩ hv
  replace hv := hv.2
  replace hv := hv h0 h1 h2 h3 h4 h5 h6 h7
  refine am_xswd rfl r1 (by omega) 136 rfl ?_
  refine am_xn 2 (c1 := (if zi (pt (iv M 59) o 0) = zi 0 then 140 else 148, [.ref 58, .int (zi o), .int (zi w), .int (zi (pt (iv M 59) o 0))], [], M)) rfl (am_xeq (iv_r _ 59 _) (by decide) (fun h => ?_) (fun h => ?_))
  · replace hv := hv.1 h
    refine am_xn 2 (c1 := (142, [.ref 58, .int (zi o), .int (zi w), .int (zi (pt (iv M 59) o 0))], [.int (zi o), .ref 58], M)) rfl ?_
    obtain ⟨g, hv⟩ := hv
    refine am_xc t_Mo_identitiesAhead (.invokevirtual 93) 93 (av := [.ref 58, .int (zi o)]) (rest := []) (rv := some (.int (zi (ia (iv M 59) o)))) (M' := M) rfl rfl rfl rfl (Nat.le_of_ble_eq_true rfl) (fun _ => rfl) (sp_identitiesAhead M o g) ?_
    refine am_xn 0 (c1 := (145, [.ref 58, .int (zi o), .int (zi w), .int (zi (pt (iv M 59) o 0))], [.int (zi (ia (iv M 59) o))], M)) rfl ?_
    refine am_xn 1 (c1 := (149, [.ref 58, .int (zi o), .int (zi w), .int (zi (pt (iv M 59) o 0))], [.int (zi (ia (iv M 59) o))], M)) rfl ?_
    exact am_xr (some (.int (zi (ia (iv M 59) o)))) ⟨rfl, rfl, .int, rfl, rfl⟩ hv
  · replace hv := hv.2 h
    refine am_xn 1 (c1 := (149, [.ref 58, .int (zi o), .int (zi w), .int (zi (pt (iv M 59) o 0))], [.int (zi (-1))], M)) rfl ?_
    exact am_xr (some (.int (zi (-1)))) ⟨rfl, rfl, .int, rfl, rfl⟩ hv
set_option maxRecDepth 100000 in
theorem vc_m_operation (a : Int) (o : Int) (w : Int) (M : am_M) (Q : Option Value → am_M → Prop) (hv : ∃ (r2 : Int) (M1 : am_M), am_call t_Mo_isOperation [.ref 58, .int (zi a), .int (zi o)] M (some (.int (zi r2))) M1 ∧ (zr r2 ∧ ((r2 = 0 → Q (some (.int (zi (-2)))) M1) ∧ (¬ r2 = 0 → (zr w ∧ zr (0 : Int) ∧ zr (8 : Int)) ∧ ((0 ≤ w ∧ w ≤ 8 → ∃ M4, am_call t_Mo_fullLaw [.ref 58] M1 none M4 ∧ ((0 ≤ a ∧ a ≤ 20) ∧ (∃ (r6 : Int) (M5 : am_M), am_call t_Mo_told [.ref 58, .int (zi ((fo (iv M4 59) a) + o)), .int (zi w)] M4 (some (.int (zi r6))) M5 ∧ (Q (some (.int (zi r6))) M5)))) ∧ (¬ (0 ≤ w ∧ w ≤ 8) → Q (some (.int (zi (-2)))) M1)))))) : am_x t_Mo_operation (0, am_ent (am_mL t_Mo_operation) [.ref 58, .int (zi a), .int (zi o), .int (zi w)], [], M) Q := by
  refine am_xn 0 (c1 := (0, [.ref 58, .int (zi a), .int (zi o), .int (zi w)], [], M)) rfl ?_
  refine am_xn 3 (c1 := (3, [.ref 58, .int (zi a), .int (zi o), .int (zi w)], [.int (zi o), .int (zi a), .ref 58], M)) rfl ?_
  obtain ⟨r2, M1, hc, hv⟩ := hv
  refine am_xc t_Mo_isOperation (.invokevirtual 248) 248 (av := [.ref 58, .int (zi a), .int (zi o)]) (rest := []) (rv := some (.int (zi r2))) (M' := M1) rfl rfl rfl rfl (Nat.le_of_ble_eq_true rfl) (fun _ => rfl) (hc) ?_
  refine am_xn 0 (c1 := (6, [.ref 58, .int (zi a), .int (zi o), .int (zi w)], [.int (zi r2)], M1)) rfl ?_
  obtain ⟨r3, hv⟩ := hv
  refine am_xn 1 (c1 := (if zi r2 = zi 0 then 19 else 9, [.ref 58, .int (zi a), .int (zi o), .int (zi w)], [], M1)) rfl (am_xeq r3 (by decide) (fun h => ?_) (fun h => ?_))
  · replace hv := hv.1 h
    refine am_xn 1 (c1 := (21, [.ref 58, .int (zi a), .int (zi o), .int (zi w)], [.int (zi (-2))], M1)) rfl ?_
    exact am_xr (some (.int (zi (-2)))) ⟨rfl, rfl, .int, rfl, rfl⟩ hv
  · replace hv := hv.2 h
    refine am_xn 3 (c1 := (13, [.ref 58, .int (zi a), .int (zi o), .int (zi w)], [.int (zi 8), .int (zi 0), .int (zi w)], M1)) rfl ?_
    obtain ⟨g, hv⟩ := hv
    by_cases c7 : 0 ≤ w ∧ w ≤ 8
    · replace hv := hv.1 c7
      refine am_xc t_Mo_in (.invokestatic 76) 76 (av := [.int (zi w), .int (zi 0), .int (zi 8)]) (rest := []) (rv := some (.int (zi 1))) (M' := M1) rfl rfl rfl rfl (Nat.le_of_ble_eq_true rfl) (fun h => nomatch h) (by have q := sp_in M1 w 0 8 g; rwa [if_pos c7] at q) ?_
      refine am_xn 0 (c1 := (16, [.ref 58, .int (zi a), .int (zi o), .int (zi w)], [.int (zi 1)], M1)) rfl ?_
      refine am_xn 2 (c1 := (23, [.ref 58, .int (zi a), .int (zi o), .int (zi w)], [.ref 58], M1)) rfl ?_
      obtain ⟨M4, hc, hv⟩ := hv
      refine am_xc t_Mo_fullLaw (.invokevirtual 242) 242 (av := [.ref 58]) (rest := []) (rv := none) (M' := M4) rfl rfl rfl rfl (Nat.le_of_ble_eq_true rfl) (fun _ => rfl) (hc) ?_
      refine am_xn 0 (c1 := (26, [.ref 58, .int (zi a), .int (zi o), .int (zi w)], [], M4)) rfl ?_
      refine am_xn 3 (c1 := (29, [.ref 58, .int (zi a), .int (zi o), .int (zi w)], [.int (zi a), .ref 58, .ref 58], M4)) rfl ?_
      obtain ⟨g, hv⟩ := hv
      refine am_xc t_Mo_firstOf (.invokevirtual 128) 128 (av := [.ref 58, .int (zi a)]) (rest := [.ref 58]) (rv := some (.int (zi (fo (iv M4 59) a)))) (M' := M4) rfl rfl rfl rfl (Nat.le_of_ble_eq_true rfl) (fun _ => rfl) (sp_firstOf M4 a g) ?_
      refine am_xn 0 (c1 := (32, [.ref 58, .int (zi a), .int (zi o), .int (zi w)], [.int (zi (fo (iv M4 59) a)), .ref 58], M4)) rfl ?_
      refine am_xiadd 2 (fo (iv M4 59) a) o (pc := 34) (ls := [.ref 58, .int (zi a), .int (zi o), .int (zi w)]) (st := [.ref 58]) rfl ?_
      refine am_xn 1 (c1 := (35, [.ref 58, .int (zi a), .int (zi o), .int (zi w)], [.int (zi w), .int (zi ((fo (iv M4 59) a) + o)), .ref 58], M4)) rfl ?_
      obtain ⟨r6, M5, hc, hv⟩ := hv
      refine am_xc t_Mo_told (.invokevirtual 251) 251 (av := [.ref 58, .int (zi ((fo (iv M4 59) a) + o)), .int (zi w)]) (rest := []) (rv := some (.int (zi r6))) (M' := M5) rfl rfl rfl rfl (Nat.le_of_ble_eq_true rfl) (fun _ => rfl) (hc) ?_
      refine am_xn 0 (c1 := (38, [.ref 58, .int (zi a), .int (zi o), .int (zi w)], [.int (zi r6)], M5)) rfl ?_
      exact am_xr (some (.int (zi r6))) ⟨rfl, rfl, .int, rfl, rfl⟩ hv
    · replace hv := hv.2 c7
      refine am_xc t_Mo_in (.invokestatic 76) 76 (av := [.int (zi w), .int (zi 0), .int (zi 8)]) (rest := []) (rv := some (.int (zi 0))) (M' := M1) rfl rfl rfl rfl (Nat.le_of_ble_eq_true rfl) (fun h => nomatch h) (by have q := sp_in M1 w 0 8 g; rwa [if_neg c7] at q) ?_
      refine am_xn 0 (c1 := (16, [.ref 58, .int (zi a), .int (zi o), .int (zi w)], [.int (zi 0)], M1)) rfl ?_
      refine am_xn 2 (c1 := (21, [.ref 58, .int (zi a), .int (zi o), .int (zi w)], [.int (zi (-2))], M1)) rfl ?_
      exact am_xr (some (.int (zi (-2)))) ⟨rfl, rfl, .int, rfl, rfl⟩ hv
set_option maxRecDepth 100000 in
theorem vc_c_operation (a : Int) (o : Int) (w : Int) (M : am_M) (Q : Option Value → am_M → Prop) (hv : ∃ (r2 : Int) (M1 : am_M), am_call t_Amd_hasOperation [.ref 9, .int (zi a), .int (zi o)] M (some (.int (zi r2))) M1 ∧ (zr r2 ∧ ((r2 = 0 → Q (some (.int (zi (-2)))) M1) ∧ (¬ r2 = 0 → (zr w ∧ zr (8 : Int)) ∧ ((0 ≤ w ∧ w ≤ 8 → ∃ M4, am_call t_SB_consolidateFully [.ref 0] M1 none M4 ∧ ((0 ≤ a ∧ a ≤ 20) ∧ (∃ (r6 : Int) (M5 : am_M), am_call t_SB_operationPart [.ref 0, .int (zi ((iv M4 11 (24 + a)) + o)), .int (zi w)] M4 (some (.int (zi r6))) M5 ∧ (Q (some (.int (zi r6))) M5)))) ∧ (¬ (0 ≤ w ∧ w ≤ 8) → Q (some (.int (zi (-2)))) M1)))))) : am_x t_SB_operation (0, am_ent (am_mL t_SB_operation) [.ref 0, .int (zi a), .int (zi o), .int (zi w)], [], M) Q := by
  refine am_xn 0 (c1 := (0, [.ref 0, .int (zi a), .int (zi o), .int (zi w)], [], M)) rfl ?_
  refine am_xn 4 (c1 := (6, [.ref 0, .int (zi a), .int (zi o), .int (zi w)], [.int (zi o), .int (zi a), .ref 9], M)) rfl ?_
  obtain ⟨r2, M1, hc, hv⟩ := hv
  refine am_xc t_Amd_hasOperation (.invokevirtual 144) 144 (av := [.ref 9, .int (zi a), .int (zi o)]) (rest := []) (rv := some (.int (zi r2))) (M' := M1) rfl rfl rfl rfl (Nat.le_of_ble_eq_true rfl) (fun _ => rfl) (hc) ?_
  refine am_xn 0 (c1 := (9, [.ref 0, .int (zi a), .int (zi o), .int (zi w)], [.int (zi r2)], M1)) rfl ?_
  obtain ⟨r3, hv⟩ := hv
  refine am_xn 1 (c1 := (if zi r2 = zi 0 then 21 else 12, [.ref 0, .int (zi a), .int (zi o), .int (zi w)], [], M1)) rfl (am_xeq r3 (by decide) (fun h => ?_) (fun h => ?_))
  · replace hv := hv.1 h
    refine am_xn 1 (c1 := (23, [.ref 0, .int (zi a), .int (zi o), .int (zi w)], [.int (zi (-2))], M1)) rfl ?_
    exact am_xr (some (.int (zi (-2)))) ⟨rfl, rfl, .int, rfl, rfl⟩ hv
  · replace hv := hv.2 h
    refine am_xn 2 (c1 := (15, [.ref 0, .int (zi a), .int (zi o), .int (zi w)], [.int (zi 8), .int (zi w)], M1)) rfl ?_
    obtain ⟨g, hv⟩ := hv
    by_cases c7 : 0 ≤ w ∧ w ≤ 8
    · replace hv := hv.1 c7
      refine am_xc t_SB_within (.invokestatic 56) 56 (av := [.int (zi w), .int (zi 8)]) (rest := []) (rv := some (.int (zi 1))) (M' := M1) rfl rfl rfl rfl (Nat.le_of_ble_eq_true rfl) (fun h => nomatch h) (by have q := sp_within M1 w 8 g; rwa [if_pos c7] at q) ?_
      refine am_xn 0 (c1 := (18, [.ref 0, .int (zi a), .int (zi o), .int (zi w)], [.int (zi 1)], M1)) rfl ?_
      refine am_xn 2 (c1 := (25, [.ref 0, .int (zi a), .int (zi o), .int (zi w)], [.ref 0], M1)) rfl ?_
      obtain ⟨M4, hc, hv⟩ := hv
      refine am_xc t_SB_consolidateFully (.invokevirtual 128) 128 (av := [.ref 0]) (rest := []) (rv := none) (M' := M4) rfl rfl rfl rfl (Nat.le_of_ble_eq_true rfl) (fun _ => rfl) (hc) ?_
      refine am_xn 0 (c1 := (28, [.ref 0, .int (zi a), .int (zi o), .int (zi w)], [], M4)) rfl ?_
      refine am_xn 4 (c1 := (34, [.ref 0, .int (zi a), .int (zi o), .int (zi w)], [.int (zi a), .ref 9, .ref 0], M4)) rfl ?_
      obtain ⟨g, hv⟩ := hv
      refine am_xc t_Amd_start (.invokevirtual 138) 138 (av := [.ref 9, .int (zi a)]) (rest := [.ref 0]) (rv := some (.int (zi (iv M4 11 (24 + a))))) (M' := M4) rfl rfl rfl rfl (Nat.le_of_ble_eq_true rfl) (fun _ => rfl) (sp_c_start M4 a g) ?_
      refine am_xn 0 (c1 := (37, [.ref 0, .int (zi a), .int (zi o), .int (zi w)], [.int (zi (iv M4 11 (24 + a))), .ref 0], M4)) rfl ?_
      refine am_xiadd 2 (iv M4 11 (24 + a)) o (pc := 39) (ls := [.ref 0, .int (zi a), .int (zi o), .int (zi w)]) (st := [.ref 0]) rfl ?_
      refine am_xn 1 (c1 := (40, [.ref 0, .int (zi a), .int (zi o), .int (zi w)], [.int (zi w), .int (zi ((iv M4 11 (24 + a)) + o)), .ref 0], M4)) rfl ?_
      obtain ⟨r6, M5, hc, hv⟩ := hv
      refine am_xc t_SB_operationPart (.invokevirtual 147) 147 (av := [.ref 0, .int (zi ((iv M4 11 (24 + a)) + o)), .int (zi w)]) (rest := []) (rv := some (.int (zi r6))) (M' := M5) rfl rfl rfl rfl (Nat.le_of_ble_eq_true rfl) (fun _ => rfl) (hc) ?_
      refine am_xn 0 (c1 := (43, [.ref 0, .int (zi a), .int (zi o), .int (zi w)], [.int (zi r6)], M5)) rfl ?_
      exact am_xr (some (.int (zi r6))) ⟨rfl, rfl, .int, rfl, rfl⟩ hv
    · replace hv := hv.2 c7
      refine am_xc t_SB_within (.invokestatic 56) 56 (av := [.int (zi w), .int (zi 8)]) (rest := []) (rv := some (.int (zi 0))) (M' := M1) rfl rfl rfl rfl (Nat.le_of_ble_eq_true rfl) (fun h => nomatch h) (by have q := sp_within M1 w 8 g; rwa [if_neg c7] at q) ?_
      refine am_xn 0 (c1 := (18, [.ref 0, .int (zi a), .int (zi o), .int (zi w)], [.int (zi 0)], M1)) rfl ?_
      refine am_xn 2 (c1 := (23, [.ref 0, .int (zi a), .int (zi o), .int (zi w)], [.int (zi (-2))], M1)) rfl ?_
      exact am_xr (some (.int (zi (-2)))) ⟨rfl, rfl, .int, rfl, rfl⟩ hv
set_option maxRecDepth 100000 in
theorem vc_operationPart (o : Int) (w : Int) (M : am_M) (Q : Option Value → am_M → Prop) (hv : zr w ∧ ((w = 6 → (0 ≤ o ∧ o < 120) ∧ (Q (some (.int (zi (iv M 27 o)))) M)) ∧ (w = 7 → (0 ≤ o ∧ o < 120) ∧ (Q (some (.int (zi (iv M 29 o)))) M)) ∧ (w = 8 → (0 ≤ o ∧ o < 120 ∧ 0 ≤ (6 : Int) ∧ (6 : Int) < 13) ∧ (Q (some (.int (zi (cpt (iv M 11) o 6)))) M)) ∧ (¬ w = 6 → ¬ w = 7 → ¬ w = 8 → (0 ≤ o ∧ o < 120 ∧ 0 ≤ w ∧ w < 13) ∧ (Q (some (.int (zi (cpt (iv M 11) o w)))) M)))) : am_x t_SB_operationPart (0, am_ent (am_mL t_SB_operationPart) [.ref 0, .int (zi o), .int (zi w)], [], M) Q := by
  refine am_xn 0 (c1 := (0, [.ref 0, .int (zi o), .int (zi w)], [], M)) rfl ?_
  obtain ⟨r1, hv⟩ := hv
  refine am_xn 1 (c1 := (1, [.ref 0, .int (zi o), .int (zi w)], [.int (zi w)], M)) rfl ?_
  by_cases h6 : w = 6
  · replace hv := hv.1 h6
    refine am_xswt rfl 6 (by rw [h6]; rfl) 28 rfl ?_
    refine am_xn 3 (c1 := (33, [.ref 0, .int (zi o), .int (zi w)], [.int (zi o), .ref 15], M)) rfl ?_
    obtain ⟨g, hv⟩ := hv
    refine am_xc t_Law_status (.invokevirtual 150) 150 (av := [.ref 15, .int (zi o)]) (rest := []) (rv := some (.int (zi (iv M 27 o)))) (M' := M) rfl rfl rfl rfl (Nat.le_of_ble_eq_true rfl) (fun _ => rfl) (sp_l15_status M o g) ?_
    refine am_xn 0 (c1 := (36, [.ref 0, .int (zi o), .int (zi w)], [.int (zi (iv M 27 o))], M)) rfl ?_
    exact am_xr (some (.int (zi (iv M 27 o)))) ⟨rfl, rfl, .int, rfl, rfl⟩ hv
  replace hv := hv.2
  by_cases h7 : w = 7
  · replace hv := hv.1 h7
    refine am_xswt rfl 7 (by rw [h7]; rfl) 37 rfl ?_
    refine am_xn 3 (c1 := (42, [.ref 0, .int (zi o), .int (zi w)], [.int (zi o), .ref 15], M)) rfl ?_
    obtain ⟨g, hv⟩ := hv
    refine am_xc t_Law_affected (.invokevirtual 153) 153 (av := [.ref 15, .int (zi o)]) (rest := []) (rv := some (.int (zi (iv M 29 o)))) (M' := M) rfl rfl rfl rfl (Nat.le_of_ble_eq_true rfl) (fun _ => rfl) (sp_l15_affected M o g) ?_
    refine am_xn 0 (c1 := (45, [.ref 0, .int (zi o), .int (zi w)], [.int (zi (iv M 29 o))], M)) rfl ?_
    exact am_xr (some (.int (zi (iv M 29 o)))) ⟨rfl, rfl, .int, rfl, rfl⟩ hv
  replace hv := hv.2
  by_cases h8 : w = 8
  · replace hv := hv.1 h8
    refine am_xswt rfl 8 (by rw [h8]; rfl) 46 rfl ?_
    refine am_xn 4 (c1 := (53, [.ref 0, .int (zi o), .int (zi w)], [.int (zi 6), .int (zi o), .ref 9], M)) rfl ?_
    obtain ⟨g, hv⟩ := hv
    refine am_xc t_Amd_cell (.invokevirtual 156) 156 (av := [.ref 9, .int (zi o), .int (zi 6)]) (rest := []) (rv := some (.int (zi (cpt (iv M 11) o 6)))) (M' := M) rfl rfl rfl rfl (Nat.le_of_ble_eq_true rfl) (fun _ => rfl) (sp_c_cell M o 6 g) ?_
    refine am_xn 0 (c1 := (56, [.ref 0, .int (zi o), .int (zi w)], [.int (zi (cpt (iv M 11) o 6))], M)) rfl ?_
    exact am_xr (some (.int (zi (cpt (iv M 11) o 6)))) ⟨rfl, rfl, .int, rfl, rfl⟩ hv
  replace hv := hv.2
  replace hv := hv h6 h7 h8
  refine am_xswd rfl r1 (by omega) 57 rfl ?_
  refine am_xn 4 (c1 := (63, [.ref 0, .int (zi o), .int (zi w)], [.int (zi w), .int (zi o), .ref 9], M)) rfl ?_
  obtain ⟨g, hv⟩ := hv
  refine am_xc t_Amd_cell (.invokevirtual 156) 156 (av := [.ref 9, .int (zi o), .int (zi w)]) (rest := []) (rv := some (.int (zi (cpt (iv M 11) o w)))) (M' := M) rfl rfl rfl rfl (Nat.le_of_ble_eq_true rfl) (fun _ => rfl) (sp_c_cell M o w g) ?_
  refine am_xn 0 (c1 := (66, [.ref 0, .int (zi o), .int (zi w)], [.int (zi (cpt (iv M 11) o w))], M)) rfl ?_
  exact am_xr (some (.int (zi (cpt (iv M 11) o w)))) ⟨rfl, rfl, .int, rfl, rfl⟩ hv
set_option maxRecDepth 100000 in
theorem vc_m_word (a : Int) (o : Int) (k : Int) (M : am_M) (Q : Option Value → am_M → Prop) (hv : ∃ (r2 : Int) (M1 : am_M), am_call t_Mo_isOperation [.ref 58, .int (zi a), .int (zi o)] M (some (.int (zi r2))) M1 ∧ (zr r2 ∧ ((r2 = 0 → Q (some (.int (zi (-2)))) M1) ∧ (¬ r2 = 0 → (0 ≤ a ∧ a ≤ 20) ∧ ((0 ≤ ((fo (iv M1 59) a) + o) ∧ ((fo (iv M1 59) a) + o) < 120 ∧ 0 ≤ (5 : Int) ∧ (5 : Int) < 12) ∧ ((zr k ∧ zr (0 : Int) ∧ zr ((pt (iv M1 59) ((fo (iv M1 59) a) + o) 5) - 1)) ∧ ((0 ≤ k ∧ k ≤ ((pt (iv M1 59) ((fo (iv M1 59) a) + o) 5) - 1) → (0 ≤ ((fo (iv M1 59) a) + o) ∧ ((fo (iv M1 59) a) + o) < 120 ∧ 0 ≤ (6 + k) ∧ (6 + k) < 12) ∧ (Q (some (.int (zi (pt (iv M1 59) ((fo (iv M1 59) a) + o) (6 + k))))) M1)) ∧ (¬ (0 ≤ k ∧ k ≤ ((pt (iv M1 59) ((fo (iv M1 59) a) + o) 5) - 1)) → Q (some (.int (zi (-2)))) M1)))))))) : am_x t_Mo_word (0, am_ent (am_mL t_Mo_word) [.ref 58, .int (zi a), .int (zi o), .int (zi k)], [], M) Q := by
  refine am_xn 0 (c1 := (0, [.ref 58, .int (zi a), .int (zi o), .int (zi k), .null], [], M)) rfl ?_
  refine am_xn 3 (c1 := (3, [.ref 58, .int (zi a), .int (zi o), .int (zi k), .null], [.int (zi o), .int (zi a), .ref 58], M)) rfl ?_
  obtain ⟨r2, M1, hc, hv⟩ := hv
  refine am_xc t_Mo_isOperation (.invokevirtual 248) 248 (av := [.ref 58, .int (zi a), .int (zi o)]) (rest := []) (rv := some (.int (zi r2))) (M' := M1) rfl rfl rfl rfl (Nat.le_of_ble_eq_true rfl) (fun _ => rfl) (hc) ?_
  refine am_xn 0 (c1 := (6, [.ref 58, .int (zi a), .int (zi o), .int (zi k), .null], [.int (zi r2)], M1)) rfl ?_
  obtain ⟨r3, hv⟩ := hv
  refine am_xn 1 (c1 := (if zi r2 = zi 0 then 9 else 12, [.ref 58, .int (zi a), .int (zi o), .int (zi k), .null], [], M1)) rfl (am_xeq r3 (by decide) (fun h => ?_) (fun h => ?_))
  · replace hv := hv.1 h
    refine am_xn 1 (c1 := (11, [.ref 58, .int (zi a), .int (zi o), .int (zi k), .null], [.int (zi (-2))], M1)) rfl ?_
    exact am_xr (some (.int (zi (-2)))) ⟨rfl, rfl, .int, rfl, rfl⟩ hv
  · replace hv := hv.2 h
    refine am_xn 2 (c1 := (14, [.ref 58, .int (zi a), .int (zi o), .int (zi k), .null], [.int (zi a), .ref 58], M1)) rfl ?_
    obtain ⟨g, hv⟩ := hv
    refine am_xc t_Mo_firstOf (.invokevirtual 128) 128 (av := [.ref 58, .int (zi a)]) (rest := []) (rv := some (.int (zi (fo (iv M1 59) a)))) (M' := M1) rfl rfl rfl rfl (Nat.le_of_ble_eq_true rfl) (fun _ => rfl) (sp_firstOf M1 a g) ?_
    refine am_xn 0 (c1 := (17, [.ref 58, .int (zi a), .int (zi o), .int (zi k), .null], [.int (zi (fo (iv M1 59) a))], M1)) rfl ?_
    refine am_xiadd 2 (fo (iv M1 59) a) o (pc := 19) (ls := [.ref 58, .int (zi a), .int (zi o), .int (zi k), .null]) (st := []) rfl ?_
    refine am_xn 6 (c1 := (27, [.ref 58, .int (zi a), .int (zi o), .int (zi k), .int (zi ((fo (iv M1 59) a) + o))], [.int (zi 5), .int (zi ((fo (iv M1 59) a) + o)), .ref 58, .int (zi 0), .int (zi k)], M1)) rfl ?_
    obtain ⟨g, hv⟩ := hv
    refine am_xc t_Mo_part (.invokevirtual 85) 85 (av := [.ref 58, .int (zi ((fo (iv M1 59) a) + o)), .int (zi 5)]) (rest := [.int (zi 0), .int (zi k)]) (rv := some (.int (zi (pt (iv M1 59) ((fo (iv M1 59) a) + o) 5)))) (M' := M1) rfl rfl rfl rfl (Nat.le_of_ble_eq_true rfl) (fun _ => rfl) (sp_part M1 ((fo (iv M1 59) a) + o) 5 g) ?_
    refine am_xn 0 (c1 := (30, [.ref 58, .int (zi a), .int (zi o), .int (zi k), .int (zi ((fo (iv M1 59) a) + o))], [.int (zi (pt (iv M1 59) ((fo (iv M1 59) a) + o) 5)), .int (zi 0), .int (zi k)], M1)) rfl ?_
    refine am_xisub 2 (pt (iv M1 59) ((fo (iv M1 59) a) + o) 5) 1 (pc := 32) (ls := [.ref 58, .int (zi a), .int (zi o), .int (zi k), .int (zi ((fo (iv M1 59) a) + o))]) (st := [.int (zi 0), .int (zi k)]) rfl ?_
    obtain ⟨g, hv⟩ := hv
    by_cases c4 : 0 ≤ k ∧ k ≤ ((pt (iv M1 59) ((fo (iv M1 59) a) + o) 5) - 1)
    · replace hv := hv.1 c4
      refine am_xc t_Mo_in (.invokestatic 76) 76 (av := [.int (zi k), .int (zi 0), .int (zi ((pt (iv M1 59) ((fo (iv M1 59) a) + o) 5) - 1))]) (rest := []) (rv := some (.int (zi 1))) (M' := M1) rfl rfl rfl rfl (Nat.le_of_ble_eq_true rfl) (fun h => nomatch h) (by have q := sp_in M1 k 0 ((pt (iv M1 59) ((fo (iv M1 59) a) + o) 5) - 1) g; rwa [if_pos c4] at q) ?_
      refine am_xn 0 (c1 := (35, [.ref 58, .int (zi a), .int (zi o), .int (zi k), .int (zi ((fo (iv M1 59) a) + o))], [.int (zi 1)], M1)) rfl ?_
      refine am_xiadd 6 6 k (pc := 45) (ls := [.ref 58, .int (zi a), .int (zi o), .int (zi k), .int (zi ((fo (iv M1 59) a) + o))]) (st := [.int (zi ((fo (iv M1 59) a) + o)), .ref 58]) rfl ?_
      obtain ⟨g, hv⟩ := hv
      refine am_xc t_Mo_part (.invokevirtual 85) 85 (av := [.ref 58, .int (zi ((fo (iv M1 59) a) + o)), .int (zi (6 + k))]) (rest := []) (rv := some (.int (zi (pt (iv M1 59) ((fo (iv M1 59) a) + o) (6 + k))))) (M' := M1) rfl rfl rfl rfl (Nat.le_of_ble_eq_true rfl) (fun _ => rfl) (sp_part M1 ((fo (iv M1 59) a) + o) (6 + k) g) ?_
      refine am_xn 0 (c1 := (48, [.ref 58, .int (zi a), .int (zi o), .int (zi k), .int (zi ((fo (iv M1 59) a) + o))], [.int (zi (pt (iv M1 59) ((fo (iv M1 59) a) + o) (6 + k)))], M1)) rfl ?_
      refine am_xn 1 (c1 := (53, [.ref 58, .int (zi a), .int (zi o), .int (zi k), .int (zi ((fo (iv M1 59) a) + o))], [.int (zi (pt (iv M1 59) ((fo (iv M1 59) a) + o) (6 + k)))], M1)) rfl ?_
      exact am_xr (some (.int (zi (pt (iv M1 59) ((fo (iv M1 59) a) + o) (6 + k))))) ⟨rfl, rfl, .int, rfl, rfl⟩ hv
    · replace hv := hv.2 c4
      refine am_xc t_Mo_in (.invokestatic 76) 76 (av := [.int (zi k), .int (zi 0), .int (zi ((pt (iv M1 59) ((fo (iv M1 59) a) + o) 5) - 1))]) (rest := []) (rv := some (.int (zi 0))) (M' := M1) rfl rfl rfl rfl (Nat.le_of_ble_eq_true rfl) (fun h => nomatch h) (by have q := sp_in M1 k 0 ((pt (iv M1 59) ((fo (iv M1 59) a) + o) 5) - 1) g; rwa [if_neg c4] at q) ?_
      refine am_xn 0 (c1 := (35, [.ref 58, .int (zi a), .int (zi o), .int (zi k), .int (zi ((fo (iv M1 59) a) + o))], [.int (zi 0)], M1)) rfl ?_
      refine am_xn 2 (c1 := (53, [.ref 58, .int (zi a), .int (zi o), .int (zi k), .int (zi ((fo (iv M1 59) a) + o))], [.int (zi (-2))], M1)) rfl ?_
      exact am_xr (some (.int (zi (-2)))) ⟨rfl, rfl, .int, rfl, rfl⟩ hv
set_option maxRecDepth 100000 in
theorem vc_c_word (a : Int) (o : Int) (k : Int) (M : am_M) (Q : Option Value → am_M → Prop) (hv : ∃ (r2 : Int) (M1 : am_M), am_call t_Amd_hasOperation [.ref 9, .int (zi a), .int (zi o)] M (some (.int (zi r2))) M1 ∧ (zr r2 ∧ ((r2 = 0 → Q (some (.int (zi (-2)))) M1) ∧ (¬ r2 = 0 → (0 ≤ a ∧ a ≤ 20) ∧ (zr k ∧ ((k < 0 → Q (some (.int (zi (-2)))) M1) ∧ (0 ≤ k → (0 ≤ ((iv M1 11 (24 + a)) + o) ∧ ((iv M1 11 (24 + a)) + o) < 120 ∧ 0 ≤ (5 : Int) ∧ (5 : Int) < 13) ∧ ((k < (cpt (iv M1 11) ((iv M1 11 (24 + a)) + o) 5) → (0 ≤ ((iv M1 11 (24 + a)) + o) ∧ ((iv M1 11 (24 + a)) + o) < 120 ∧ 0 ≤ (7 + k) ∧ (7 + k) < 13) ∧ (Q (some (.int (zi (cpt (iv M1 11) ((iv M1 11 (24 + a)) + o) (7 + k))))) M1)) ∧ ((cpt (iv M1 11) ((iv M1 11 (24 + a)) + o) 5) ≤ k → Q (some (.int (zi (-2)))) M1))))))))) : am_x t_SB_word (0, am_ent (am_mL t_SB_word) [.ref 0, .int (zi a), .int (zi o), .int (zi k)], [], M) Q := by
  refine am_xn 0 (c1 := (0, [.ref 0, .int (zi a), .int (zi o), .int (zi k), .null], [], M)) rfl ?_
  refine am_xn 4 (c1 := (6, [.ref 0, .int (zi a), .int (zi o), .int (zi k), .null], [.int (zi o), .int (zi a), .ref 9], M)) rfl ?_
  obtain ⟨r2, M1, hc, hv⟩ := hv
  refine am_xc t_Amd_hasOperation (.invokevirtual 144) 144 (av := [.ref 9, .int (zi a), .int (zi o)]) (rest := []) (rv := some (.int (zi r2))) (M' := M1) rfl rfl rfl rfl (Nat.le_of_ble_eq_true rfl) (fun _ => rfl) (hc) ?_
  refine am_xn 0 (c1 := (9, [.ref 0, .int (zi a), .int (zi o), .int (zi k), .null], [.int (zi r2)], M1)) rfl ?_
  obtain ⟨r3, hv⟩ := hv
  refine am_xn 1 (c1 := (if zi r2 = zi 0 then 12 else 15, [.ref 0, .int (zi a), .int (zi o), .int (zi k), .null], [], M1)) rfl (am_xeq r3 (by decide) (fun h => ?_) (fun h => ?_))
  · replace hv := hv.1 h
    refine am_xn 1 (c1 := (14, [.ref 0, .int (zi a), .int (zi o), .int (zi k), .null], [.int (zi (-2))], M1)) rfl ?_
    exact am_xr (some (.int (zi (-2)))) ⟨rfl, rfl, .int, rfl, rfl⟩ hv
  · replace hv := hv.2 h
    refine am_xn 3 (c1 := (20, [.ref 0, .int (zi a), .int (zi o), .int (zi k), .null], [.int (zi a), .ref 9], M1)) rfl ?_
    obtain ⟨g, hv⟩ := hv
    refine am_xc t_Amd_start (.invokevirtual 138) 138 (av := [.ref 9, .int (zi a)]) (rest := []) (rv := some (.int (zi (iv M1 11 (24 + a))))) (M' := M1) rfl rfl rfl rfl (Nat.le_of_ble_eq_true rfl) (fun _ => rfl) (sp_c_start M1 a g) ?_
    refine am_xn 0 (c1 := (23, [.ref 0, .int (zi a), .int (zi o), .int (zi k), .null], [.int (zi (iv M1 11 (24 + a)))], M1)) rfl ?_
    refine am_xiadd 2 (iv M1 11 (24 + a)) o (pc := 25) (ls := [.ref 0, .int (zi a), .int (zi o), .int (zi k), .null]) (st := []) rfl ?_
    obtain ⟨r4, hv⟩ := hv
    refine am_xn 3 (c1 := (if zi k < zi 0 then 45 else 31, [.ref 0, .int (zi a), .int (zi o), .int (zi k), .int (zi ((iv M1 11 (24 + a)) + o))], [], M1)) rfl (am_xlt r4 (by decide) (fun h => ?_) (fun h => ?_))
    · replace hv := hv.1 h
      refine am_xn 1 (c1 := (47, [.ref 0, .int (zi a), .int (zi o), .int (zi k), .int (zi ((iv M1 11 (24 + a)) + o))], [.int (zi (-2))], M1)) rfl ?_
      exact am_xr (some (.int (zi (-2)))) ⟨rfl, rfl, .int, rfl, rfl⟩ hv
    · replace hv := hv.2 h
      refine am_xn 5 (c1 := (39, [.ref 0, .int (zi a), .int (zi o), .int (zi k), .int (zi ((iv M1 11 (24 + a)) + o))], [.int (zi 5), .int (zi ((iv M1 11 (24 + a)) + o)), .ref 9, .int (zi k)], M1)) rfl ?_
      obtain ⟨g, hv⟩ := hv
      refine am_xc t_Amd_cell (.invokevirtual 156) 156 (av := [.ref 9, .int (zi ((iv M1 11 (24 + a)) + o)), .int (zi 5)]) (rest := [.int (zi k)]) (rv := some (.int (zi (cpt (iv M1 11) ((iv M1 11 (24 + a)) + o) 5)))) (M' := M1) rfl rfl rfl rfl (Nat.le_of_ble_eq_true rfl) (fun _ => rfl) (sp_c_cell M1 ((iv M1 11 (24 + a)) + o) 5 g) ?_
      refine am_xn 0 (c1 := (42, [.ref 0, .int (zi a), .int (zi o), .int (zi k), .int (zi ((iv M1 11 (24 + a)) + o))], [.int (zi (cpt (iv M1 11) ((iv M1 11 (24 + a)) + o) 5)), .int (zi k)], M1)) rfl ?_
      refine am_xn 1 (c1 := (if zi k < zi (cpt (iv M1 11) ((iv M1 11 (24 + a)) + o) 5) then 48 else 45, [.ref 0, .int (zi a), .int (zi o), .int (zi k), .int (zi ((iv M1 11 (24 + a)) + o))], [], M1)) rfl (am_xlt r4 (iv_r _ 11 _) (fun h => ?_) (fun h => ?_))
      · replace hv := hv.1 h
        refine am_xiadd 6 7 k (pc := 58) (ls := [.ref 0, .int (zi a), .int (zi o), .int (zi k), .int (zi ((iv M1 11 (24 + a)) + o))]) (st := [.int (zi ((iv M1 11 (24 + a)) + o)), .ref 9]) rfl ?_
        obtain ⟨g, hv⟩ := hv
        refine am_xc t_Amd_cell (.invokevirtual 156) 156 (av := [.ref 9, .int (zi ((iv M1 11 (24 + a)) + o)), .int (zi (7 + k))]) (rest := []) (rv := some (.int (zi (cpt (iv M1 11) ((iv M1 11 (24 + a)) + o) (7 + k))))) (M' := M1) rfl rfl rfl rfl (Nat.le_of_ble_eq_true rfl) (fun _ => rfl) (sp_c_cell M1 ((iv M1 11 (24 + a)) + o) (7 + k) g) ?_
        refine am_xn 0 (c1 := (61, [.ref 0, .int (zi a), .int (zi o), .int (zi k), .int (zi ((iv M1 11 (24 + a)) + o))], [.int (zi (cpt (iv M1 11) ((iv M1 11 (24 + a)) + o) (7 + k)))], M1)) rfl ?_
        exact am_xr (some (.int (zi (cpt (iv M1 11) ((iv M1 11 (24 + a)) + o) (7 + k))))) ⟨rfl, rfl, .int, rfl, rfl⟩ hv
      · replace hv := hv.2 h
        refine am_xn 1 (c1 := (47, [.ref 0, .int (zi a), .int (zi o), .int (zi k), .int (zi ((iv M1 11 (24 + a)) + o))], [.int (zi (-2))], M1)) rfl ?_
        exact am_xr (some (.int (zi (-2)))) ⟨rfl, rfl, .int, rfl, rfl⟩ hv
theorem sp_hasOp {M : am_M} {b : Int → Int} (w : WB b) (cb : CBR (iv M 11) b) {a x : Int} (az : zr a) (xz : zr x) : am_call t_Amd_hasOperation [.ref 9, .int (zi a), .int (zi x)] M (some (.int (zi (if (0 ≤ a ∧ a < b 0) ∧ 0 ≤ x ∧ x < b (41 + a) then 1 else 0)))) M := by
  have w1 := w.n1
  refine am_call_of ⟨Nat.le_of_ble_eq_true rfl, rfl⟩ (vc_c_hasOperation a x M _ ?_)
  rw [cb.1.1]
  refine ⟨az, fun h => ?_, fun h => ⟨by rw [if_neg (fun z => h z.1)], rfl⟩⟩
  have ws := w.sz a h.1 h.2
  have f1 := fo_s b h.1
  have e : iv M 11 (24 + (a + 1)) - iv M 11 (24 + a) = b (41 + a) := by rw [cb.1.2.2.2.2.1 a h.1 (by omega), cb.1.2.2.2.2.1 (a + 1) (by omega) (by omega)]; omega
  rw [e]
  refine ⟨xz, fun q => ⟨by rw [if_neg (by omega)], rfl⟩, fun q => ⟨⟨h.1, by omega⟩, ⟨by omega, by omega⟩, fun q2 => ⟨by rw [if_pos ⟨h, q, q2⟩], rfl⟩, fun q2 => ⟨by rw [if_neg (by omega)], rfl⟩⟩⟩
theorem sp_isOp {M : am_M} (w : WB (iv M 59)) {a x : Int} (az : zr a) (xz : zr x) : am_call t_Mo_isOperation [.ref 58, .int (zi a), .int (zi x)] M (some (.int (zi (if (0 ≤ a ∧ a < iv M 59 0) ∧ 0 ≤ x ∧ x < iv M 59 (41 + a) then 1 else 0)))) M := by
  have w1 := w.n1
  have w0 := w.n0
  refine am_call_of ⟨Nat.le_of_ble_eq_true rfl, rfl⟩ (vc_isOperation a x M _ ⟨⟨az, w0⟩, fun h => ?_, fun h => ⟨by rw [if_neg (fun z => h z.1)], rfl⟩⟩)
  have ws := w.sz a h.1 h.2
  exact ⟨⟨by omega, by omega⟩, ⟨xz, by decide, ⟨by omega, by omega⟩⟩, fun q => ⟨by rw [if_pos ⟨h, q.1, by omega⟩], rfl⟩, fun q => ⟨by rw [if_neg (by omega)], rfl⟩⟩
noncomputable def tdv (b : Int → Int) (o x : Int) : Int := if x = 0 then pt b o 0 else if x = 1 then pt b o 1 else if x = 2 then (if 2 < pt b o 0 then pt b o 2 else -1) else if x = 3 then (if pt b o 0 = 4 then pt b o 3 else -1) else if x = 4 then pt b o 4 else if x = 5 then pt b o 5 else if x = 6 then stt b o else if x = 7 then (lw b 9999 (-1)).af o else if pt b o 0 = 0 then ia b o else -1
theorem sp_operationPart {M : am_M} {b : Int → Int} (w : WB b) (cb : CBR (iv M 11) b) (r : CLR15 (lw b 9999 (-1)) M) {o x : Int} (g0 : 0 ≤ o) (g1 : o < nops b) (hx : 0 ≤ x ∧ x ≤ 8) : am_call t_SB_operationPart [.ref 0, .int (zi o), .int (zi x)] M (some (.int (zi (tdv b o x)))) M := by
  have wt := w.tot
  obtain ⟨q0, q1, q2, q3, q4, q5, q6, q7⟩ := cb.1.2.2.2.2.2 o g0 g1
  refine am_call_of ⟨Nat.le_of_ble_eq_true rfl, rfl⟩ (vc_operationPart o x M _ ⟨⟨by omega, by omega⟩, fun h => ⟨⟨g0, by omega⟩, ?_, rfl⟩, fun h => ⟨⟨g0, by omega⟩, ?_, rfl⟩, fun h => ⟨⟨g0, by omega, by omega, by omega⟩, ?_, rfl⟩, fun h6 h7 h8 => ⟨⟨g0, by omega, by omega, by omega⟩, ?_, rfl⟩⟩)
  · subst h; rw [cst_full w r g0 g1]; rfl
  · subst h; rw [(r.2.2.1 o g0 (by omega)).2]; rfl
  · subst h; rw [q6]; rfl
  · have : x = 0 ∨ x = 1 ∨ x = 2 ∨ x = 3 ∨ x = 4 ∨ x = 5 := by omega
    rcases this with e | e | e | e | e | e <;> subst e
    · rw [q0]; rfl
    · rw [q1]; rfl
    · rw [q2]; rfl
    · rw [q3]; rfl
    · rw [q4]; rfl
    · rw [q5]; rfl
theorem sp_told {M : am_M} (w : WB (iv M 59)) (r : MLR (lw (iv M 59) 9999 (-1)) M) {o x : Int} (g0 : 0 ≤ o) (g1 : o < nops (iv M 59)) (hx : 0 ≤ x ∧ x ≤ 8) : am_call t_Mo_told [.ref 58, .int (zi o), .int (zi x)] M (some (.int (zi (tdv (iv M 59) o x)))) M := by
  have wt := w.tot
  have sr := stt_rg w g0 g1
  have sa := stt_af w g0 g1
  have st := sp_statusOf w r g0 g1
  refine am_call_of ⟨Nat.le_of_ble_eq_true rfl, rfl⟩ (vc_told o x M _ ⟨⟨g0, by omega, by omega, by omega⟩, ⟨by omega, by omega⟩, fun h => ?_, fun h => ⟨⟨g0, by omega, by omega, by omega⟩, ?_⟩, fun h => ⟨fun q => ⟨⟨g0, by omega, by omega, by omega⟩, ?_⟩, fun q => ?_⟩, fun h => ⟨fun q => ⟨⟨g0, by omega, by omega, by omega⟩, ?_⟩, fun q => ?_⟩, fun h => ⟨⟨g0, by omega, by omega, by omega⟩, ?_⟩, fun h => ⟨⟨g0, by omega, by omega, by omega⟩, ?_⟩, fun h => ⟨_, M, st, ?_⟩, fun h => ⟨_, M, st, ⟨by omega, by omega⟩, fun q => ⟨⟨g0, by omega⟩, ?_⟩, fun q => ?_⟩, fun h0 h1 h2 h3 h4 h5 h6 h7 => ?_⟩)
  · subst h; exact ⟨rfl, rfl⟩
  · subst h; exact ⟨rfl, rfl⟩
  · subst h
    refine ⟨?_, rfl⟩
    show _ = some (Value.int (zi (if 2 < pt (iv M 59) o 0 then pt (iv M 59) o 2 else -1)))
    rw [if_pos q]
  · subst h
    refine ⟨?_, rfl⟩
    show _ = some (Value.int (zi (if 2 < pt (iv M 59) o 0 then pt (iv M 59) o 2 else -1)))
    rw [if_neg (by omega)]
  · subst h
    refine ⟨?_, rfl⟩
    show _ = some (Value.int (zi (if pt (iv M 59) o 0 = 4 then pt (iv M 59) o 3 else -1)))
    rw [if_pos q]
  · subst h
    refine ⟨?_, rfl⟩
    show _ = some (Value.int (zi (if pt (iv M 59) o 0 = 4 then pt (iv M 59) o 3 else -1)))
    rw [if_neg q]
  · subst h; exact ⟨rfl, rfl⟩
  · subst h; exact ⟨rfl, rfl⟩
  · subst h; exact ⟨rfl, rfl⟩
  · subst h
    rw [(r.2.2.1 o g0 (by omega)).2]
    exact ⟨rfl, rfl⟩
  · subst h
    refine ⟨?_, rfl⟩
    show _ = some (Value.int (zi ((lw (iv M 59) 9999 (-1)).af o)))
    rw [show (lw (iv M 59) 9999 (-1)).af o = -1 by omega]
  · have e : x = 8 := by omega
    subst e
    refine ⟨fun q => ⟨⟨g0, by omega⟩, ?_, rfl⟩, fun q => ⟨?_, rfl⟩⟩
    · show _ = some (Value.int (zi (if pt (iv M 59) o 0 = 0 then ia (iv M 59) o else -1)))
      rw [if_pos q]
    · show _ = some (Value.int (zi (if pt (iv M 59) o 0 = 0 then ia (iv M 59) o else -1)))
      rw [if_neg q]
theorem q_operation {M : am_M} (s : CSt M) {a x y : Int} (az : zr a) (xz : zr x) (yz : zr y) : QRY t_SB_operation t_Mo_operation [.ref 0, .int (zi a), .int (zi x), .int (zi y)] [.ref 58, .int (zi a), .int (zi x), .int (zi y)] M := by
  obtain ⟨w, cb⟩ := s
  have w1 := w.n1
  by_cases hl : ((0 ≤ a ∧ a < iv M 59 0) ∧ 0 ≤ x ∧ x < iv M 59 (41 + a)) ∧ (0 ≤ y ∧ y ≤ 8)
  · obtain ⟨hl, hy⟩ := hl
    have f0 := w.fo_nn (n := a) (by omega)
    have f1 := fo_s (iv M 59) hl.1.1
    have f2 := w.fo_le (n := a + 1) (by omega) (by omega)
    obtain ⟨M4, h4, fr, r4, od⟩ := sp_c_consolidateFully M w cb
    have cb4 : CBR (iv M4 11) (iv M 59) := by rw [iv_row (fr.1 11 (by decide) (by decide))]; exact cb
    have e2 := cb4.1.2.2.2.2.1 a hl.1.1 (by omega)
    have ho := sp_hasOp w cb az xz
    rw [if_pos hl] at ho
    refine qry (tdv (iv M 59) (fo (iv M 59) a + x) y) ⟨Nat.le_of_ble_eq_true rfl, rfl⟩ ⟨Nat.le_of_ble_eq_true rfl, rfl⟩ (vc_c_operation a x y M _ ⟨1, M, ho, by decide, fun q => by omega, fun _ => ⟨⟨yz, by decide⟩, fun _ => ⟨M4, h4, ⟨hl.1.1, by omega⟩, _, M4, by rw [e2]; exact sp_operationPart w cb4 r4 (by omega) (by omega) hy, rfl, CQ_15 fr⟩, fun q => absurd hy q⟩⟩) (fun M1 hs => ?_)
    have e59 := iv_row (hs 59 (by decide))
    have io := sp_isOp (M := M1) (by rw [e59]; exact w) az xz
    rw [e59, if_pos hl] at io
    obtain ⟨M2, m1, m2, m3⟩ := ms_full hs w
    have e2 : iv M2 59 = iv M 59 := (iv_row (m2.1 59 (by decide) (by decide))).trans e59
    have td := sp_told (M := M2) (by rw [e2]; exact w) (by rw [e2]; exact m3) (o := fo (iv M 59) a + x) (x := y) (by omega) (by rw [e2]; omega) hy
    rw [e2] at td
    refine vc_m_operation a x y M1 _ ⟨1, M1, io, by decide, fun q => by omega, fun _ => ⟨⟨yz, by decide, by decide⟩, fun _ => ⟨M2, m1, ⟨hl.1.1, by omega⟩, _, M2, by rw [e2]; exact td, rfl, MqF_lf m2⟩, fun q => absurd hy q⟩⟩
  · have ho := sp_hasOp w cb az xz
    by_cases h1 : (0 ≤ a ∧ a < iv M 59 0) ∧ 0 ≤ x ∧ x < iv M 59 (41 + a)
    · rw [if_pos h1] at ho
      refine qry (-2) ⟨Nat.le_of_ble_eq_true rfl, rfl⟩ ⟨Nat.le_of_ble_eq_true rfl, rfl⟩ (vc_c_operation a x y M _ ⟨1, M, ho, by decide, fun q => by omega, fun _ => ⟨⟨yz, by decide⟩, fun q => absurd ⟨h1, q⟩ hl, fun _ => ⟨rfl, CQ_refl M⟩⟩⟩) (fun M1 hs => ?_)
      have e59 := iv_row (hs 59 (by decide))
      have io := sp_isOp (M := M1) (by rw [e59]; exact w) az xz
      rw [e59, if_pos h1] at io
      exact vc_m_operation a x y M1 _ ⟨1, M1, io, by decide, fun q => by omega, fun _ => ⟨⟨yz, by decide, by decide⟩, fun q => absurd ⟨h1, q⟩ hl, fun _ => ⟨rfl, MqF_refl M1⟩⟩⟩
    · rw [if_neg h1] at ho
      refine qry (-2) ⟨Nat.le_of_ble_eq_true rfl, rfl⟩ ⟨Nat.le_of_ble_eq_true rfl, rfl⟩ (vc_c_operation a x y M _ ⟨0, M, ho, by decide, fun _ => ⟨rfl, CQ_refl M⟩, fun q => absurd rfl q⟩) (fun M1 hs => ?_)
      have e59 := iv_row (hs 59 (by decide))
      have io := sp_isOp (M := M1) (by rw [e59]; exact w) az xz
      rw [e59, if_neg h1] at io
      exact vc_m_operation a x y M1 _ ⟨0, M1, io, by decide, fun _ => ⟨rfl, MqF_refl M1⟩, fun q => absurd rfl q⟩
theorem q_word {M : am_M} (s : CSt M) {a x k : Int} (az : zr a) (xz : zr x) (kz : zr k) : QRY t_SB_word t_Mo_word [.ref 0, .int (zi a), .int (zi x), .int (zi k)] [.ref 58, .int (zi a), .int (zi x), .int (zi k)] M := by
  obtain ⟨w, cb⟩ := s
  have w1 := w.n1
  have wt := w.tot
  have ho := sp_hasOp w cb az xz
  by_cases hl : (0 ≤ a ∧ a < iv M 59 0) ∧ 0 ≤ x ∧ x < iv M 59 (41 + a)
  · rw [if_pos hl] at ho
    have f0 := w.fo_nn (n := a) (by omega)
    have f1 := fo_s (iv M 59) hl.1.1
    have f2 := w.fo_le (n := a + 1) (by omega) (by omega)
    have e2 := cb.1.2.2.2.2.1 a hl.1.1 (by omega)
    have co := cb.1.2.2.2.2.2 (fo (iv M 59) a + x) (by omega) (by omega)
    have wl := (w.op (fo (iv M 59) a + x) (by omega) (by omega)).ln
    refine qry (if 0 ≤ k ∧ k < pt (iv M 59) (fo (iv M 59) a + x) 5 then pt (iv M 59) (fo (iv M 59) a + x) (6 + k) else -2) ⟨Nat.le_of_ble_eq_true rfl, rfl⟩ ⟨Nat.le_of_ble_eq_true rfl, rfl⟩ (vc_c_word a x k M _ ⟨1, M, ho, by decide, fun q => by omega, fun _ => ?_⟩) (fun M1 hs => ?_)
    · rw [e2, co.2.2.2.2.2.1]
      refine ⟨⟨hl.1.1, by omega⟩, kz, fun q => ⟨by rw [if_neg (by omega)], CQ_refl M⟩, fun q => ⟨⟨by omega, by omega, by omega, by omega⟩, fun q2 => ⟨⟨by omega, by omega, by omega, by omega⟩, ?_, CQ_refl M⟩, fun q2 => ⟨by rw [if_neg (by omega)], CQ_refl M⟩⟩⟩
      rw [if_pos ⟨q, q2⟩, co.2.2.2.2.2.2.2 k q q2]
    · have e59 := iv_row (hs 59 (by decide))
      have io := sp_isOp (M := M1) (by rw [e59]; exact w) az xz
      rw [e59, if_pos hl] at io
      refine vc_m_word a x k M1 _ ⟨1, M1, io, by decide, fun q => by omega, fun _ => ?_⟩
      rw [e59]
      exact ⟨⟨hl.1.1, by omega⟩, ⟨by omega, by omega, by omega, by omega⟩, ⟨kz, by decide, ⟨by omega, by omega⟩⟩, fun q => ⟨⟨by omega, by omega, by omega, by omega⟩, by rw [if_pos ⟨q.1, by omega⟩], MqF_refl M1⟩, fun q => ⟨by rw [if_neg (by omega)], MqF_refl M1⟩⟩
  · rw [if_neg hl] at ho
    refine qry (-2) ⟨Nat.le_of_ble_eq_true rfl, rfl⟩ ⟨Nat.le_of_ble_eq_true rfl, rfl⟩ (vc_c_word a x k M _ ⟨0, M, ho, by decide, fun _ => ⟨rfl, CQ_refl M⟩, fun q => absurd rfl q⟩) (fun M1 hs => ?_)
    have e59 := iv_row (hs 59 (by decide))
    have io := sp_isOp (M := M1) (by rw [e59]; exact w) az xz
    rw [e59, if_neg hl] at io
    exact vc_m_word a x k M1 _ ⟨0, M1, io, by decide, fun _ => ⟨rfl, MqF_refl M1⟩, fun q => absurd rfl q⟩
