/-! count -/
theorem nbits_rvk {c b : Int → Int} (w : WB b) (cb : CBR c b) : nbits (c 3) = sm (rvk b) (b 0) := by
  have n0 := w.n0
  have n1 := w.n1
  have e1 : nbits (c 3) = sm (fun a => if a < b 0 then b (21 + a) else 0) 20 := sm_congr (fun i i0 i1 => by rw [← cb.2.2 i i0 i1, zb_is _ i0 (by omega)])
  have e2 := sm_skip (fun a => if a < b 0 then b (21 + a) else 0) (20 - b 0).toNat (b 0) n0 (fun q q0 _ => if_neg (by omega))
  rw [show b 0 + ((20 - b 0).toNat : Int) = 20 by omega] at e2
  rw [e1, e2]
  exact sm_congr (fun i _ i1 => if_pos i1)
theorem nbits_sav {s : Int} (h0 : 0 ≤ s) (h1 : s ≤ 3) {p q : Int} (hp : p = 0 ∨ p = 1) (hq : q = 0 ∨ q = 1) (h2 : zbt s 0 = true ↔ p = 1) (h3 : zbt s 1 = true ↔ q = 1) : nbits s = p + q := by
  have hs : s = 0 ∨ s = 1 ∨ s = 2 ∨ s = 3 := by omega
  have k0 : nbits 0 = 0 ∧ zbt 0 0 = false ∧ zbt 0 1 = false := by decide +kernel
  have k1 : nbits 1 = 1 ∧ zbt 1 0 = true ∧ zbt 1 1 = false := by decide +kernel
  have k2 : nbits 2 = 1 ∧ zbt 2 0 = false ∧ zbt 2 1 = true := by decide +kernel
  have k3 : nbits 3 = 2 ∧ zbt 3 0 = true ∧ zbt 3 1 = true := by decide +kernel
  have ap : zbt s 0 = false → p = 0 := fun z => by
    rcases hp with h | h
    · exact h
    · rw [h2.mpr h] at z; exact absurd z (by decide)
  have aq : zbt s 1 = false → q = 0 := fun z => by
    rcases hq with h | h
    · exact h
    · rw [h3.mpr h] at z; exact absurd z (by decide)
  rcases hs with e | e | e | e <;> subst e
  · rw [k0.1, ap k0.2.1, aq k0.2.2]; rfl
  · rw [k1.1, h2.mp k1.2.1, aq k1.2.2]; rfl
  · rw [k2.1, ap k2.2.1, h3.mp k2.2.2]; rfl
  · rw [k3.1, h2.mp k3.2.1, h3.mp k3.2.2]; rfl
noncomputable def cntv (b p s : Int → Int) (w : Int) : Int := if w = 0 then b 0 else if w = 1 then nops b else if w = 2 then ia b (nops b) else if w = 3 then p 2 else if w = 4 then p 17 else if w = 5 then p 23 else if w = 6 then sm (rvk b) (b 0) else if w = 7 then s 0 + s 1 else frc (lw b 9999 (-1)) 40
set_option maxRecDepth 100000 in
theorem vc_snapshots  (M : am_M) (Q : Option Value → am_M → Prop) (hv : ∃ (r2 : Int) (M1 : am_M), am_call t_Int_bitCount [.int (zi (iv M 12 3))] M (some (.int (zi r2))) M1 ∧ (Q (some (.int (zi r2))) M1)) : am_x t_Arc_snapshots (0, am_ent (am_mL t_Arc_snapshots) [.ref 12], [], M) Q := by
  refine am_xn 0 (c1 := (0, [.ref 12], [], M)) rfl ?_
  refine am_xrd 2 12 3 (pc := 4) (ls := [.ref 12]) (st := []) rfl ?_
  obtain ⟨r2, M1, hc, hv⟩ := hv
  refine am_xc t_Int_bitCount (.invokestatic 50) 50 (av := [.int (zi (iv M 12 3))]) (rest := []) (rv := some (.int (zi r2))) (M' := M1) rfl rfl rfl rfl (Nat.le_of_ble_eq_true rfl) (fun h => nomatch h) (hc) ?_
  refine am_xn 0 (c1 := (7, [.ref 12], [.int (zi r2)], M1)) rfl ?_
  exact am_xr (some (.int (zi r2))) ⟨rfl, rfl, .int, rfl, rfl⟩ hv
set_option maxRecDepth 100000 in
theorem vc_p7_kept  (M : am_M) (Q : Option Value → am_M → Prop) (hv : Q (some (.int (zi (min (iv M 7 1) 1000)))) M) : am_x t_Pag_kept (0, am_ent (am_mL t_Pag_kept) [.ref 7], [], M) Q := by
  refine am_xn 0 (c1 := (0, [.ref 7], [], M)) rfl ?_
  refine am_xrd 2 7 1 (pc := 4) (ls := [.ref 7]) (st := []) rfl ?_
  refine am_xn 3 (c1 := (9, [.ref 7], [.int (zi 1000), .int (zi (iv M 7 1))], M)) rfl ?_
  refine am_xmin 25 rfl rfl (by decide) (iv_r _ _ _) (by decide) ?_
  refine am_xn 0 (c1 := (12, [.ref 7], [.int (zi (min (iv M 7 1) 1000))], M)) rfl ?_
  exact am_xr (some (.int (zi (min (iv M 7 1) 1000)))) ⟨rfl, rfl, .int, rfl, rfl⟩ hv
set_option maxRecDepth 100000 in
theorem vc_countPart (w : Int) (M : am_M) (Q : Option Value → am_M → Prop) (hv : (zr w) ∧ ((w = 0 → Q (some (.int (zi (iv M 11 0)))) M) ∧ (w = 1 → Q (some (.int (zi (iv M 11 1)))) M) ∧ (w = 2 → Q (some (.int (zi (iv M 11 2)))) M) ∧ (w = 3 → ∃ (r3 : Int) (M2 : am_M), am_call t_Arc_states [.ref 12] M (some (.int (zi r3))) M2 ∧ (Q (some (.int (zi r3))) M2)) ∧ (w = 4 → ∃ (r5 : Int) (M4 : am_M), am_call t_Pag_kept [.ref 2] M (some (.int (zi r5))) M4 ∧ (Q (some (.int (zi r5))) M4)) ∧ (w = 5 → ∃ (r7 : Int) (M6 : am_M), am_call t_Pag_kept [.ref 7] M (some (.int (zi r7))) M6 ∧ (Q (some (.int (zi r7))) M6)) ∧ (w = 6 → ∃ (r9 : Int) (M8 : am_M), am_call t_Int_bitCount [.int (zi (iv M 11 3))] M (some (.int (zi r9))) M8 ∧ (Q (some (.int (zi r9))) M8)) ∧ (w = 7 → ∃ (r11 : Int) (M10 : am_M), am_call t_Arc_snapshots [.ref 12] M (some (.int (zi r11))) M10 ∧ (Q (some (.int (zi r11))) M10)) ∧ (¬ w = 0 → ¬ w = 1 → ¬ w = 2 → ¬ w = 3 → ¬ w = 4 → ¬ w = 5 → ¬ w = 6 → ¬ w = 7 → Q (some (.int (zi (iv M 15 9)))) M))) : am_x t_SB_countPart (0, am_ent (am_mL t_SB_countPart) [.ref 0, .int (zi w)], [], M) Q := by
  refine am_xn 0 (c1 := (0, [.ref 0, .int (zi w)], [], M)) rfl ?_
  obtain ⟨r1, hv⟩ := hv
  refine am_xn 1 (c1 := (1, [.ref 0, .int (zi w)], [.int (zi w)], M)) rfl ?_
  by_cases h0 : w = 0
  · replace hv := hv.1 h0
    refine am_xswt rfl 0 (by rw [h0]; rfl) 48 rfl ?_
    refine am_xn 2 (c1 := (52, [.ref 0, .int (zi w)], [.ref 9], M)) rfl ?_
    refine am_xc t_Amd_size (.invokevirtual 96) 96 (av := [.ref 9]) (rest := []) (rv := some (.int (zi (iv M 11 0)))) (M' := M) rfl rfl rfl rfl (Nat.le_of_ble_eq_true rfl) (fun _ => rfl) (sp_c_size M) ?_
    refine am_xn 0 (c1 := (55, [.ref 0, .int (zi w)], [.int (zi (iv M 11 0))], M)) rfl ?_
    exact am_xr (some (.int (zi (iv M 11 0)))) ⟨rfl, rfl, .int, rfl, rfl⟩ hv
  replace hv := hv.2
  by_cases h1 : w = 1
  · replace hv := hv.1 h1
    refine am_xswt rfl 1 (by rw [h1]; rfl) 56 rfl ?_
    refine am_xn 2 (c1 := (60, [.ref 0, .int (zi w)], [.ref 9], M)) rfl ?_
    refine am_xc t_Amd_operations (.invokevirtual 256) 256 (av := [.ref 9]) (rest := []) (rv := some (.int (zi (iv M 11 1)))) (M' := M) rfl rfl rfl rfl (Nat.le_of_ble_eq_true rfl) (fun _ => rfl) (sp_c_operations M) ?_
    refine am_xn 0 (c1 := (63, [.ref 0, .int (zi w)], [.int (zi (iv M 11 1))], M)) rfl ?_
    exact am_xr (some (.int (zi (iv M 11 1)))) ⟨rfl, rfl, .int, rfl, rfl⟩ hv
  replace hv := hv.2
  by_cases h2 : w = 2
  · replace hv := hv.1 h2
    refine am_xswt rfl 2 (by rw [h2]; rfl) 64 rfl ?_
    refine am_xn 2 (c1 := (68, [.ref 0, .int (zi w)], [.ref 9], M)) rfl ?_
    refine am_xc t_Amd_identities (.invokevirtual 304) 304 (av := [.ref 9]) (rest := []) (rv := some (.int (zi (iv M 11 2)))) (M' := M) rfl rfl rfl rfl (Nat.le_of_ble_eq_true rfl) (fun _ => rfl) (sp_c_identities M) ?_
    refine am_xn 0 (c1 := (71, [.ref 0, .int (zi w)], [.int (zi (iv M 11 2))], M)) rfl ?_
    exact am_xr (some (.int (zi (iv M 11 2)))) ⟨rfl, rfl, .int, rfl, rfl⟩ hv
  replace hv := hv.2
  by_cases h3 : w = 3
  · replace hv := hv.1 h3
    refine am_xswt rfl 3 (by rw [h3]; rfl) 72 rfl ?_
    refine am_xn 2 (c1 := (76, [.ref 0, .int (zi w)], [.ref 12], M)) rfl ?_
    obtain ⟨r3, M2, hc, hv⟩ := hv
    refine am_xc t_Arc_states (.invokevirtual 122) 122 (av := [.ref 12]) (rest := []) (rv := some (.int (zi r3))) (M' := M2) rfl rfl rfl rfl (Nat.le_of_ble_eq_true rfl) (fun _ => rfl) (hc) ?_
    refine am_xn 0 (c1 := (79, [.ref 0, .int (zi w)], [.int (zi r3)], M2)) rfl ?_
    exact am_xr (some (.int (zi r3))) ⟨rfl, rfl, .int, rfl, rfl⟩ hv
  replace hv := hv.2
  by_cases h4 : w = 4
  · replace hv := hv.1 h4
    refine am_xswt rfl 4 (by rw [h4]; rfl) 80 rfl ?_
    refine am_xn 3 (c1 := (87, [.ref 0, .int (zi w)], [.ref 2], M)) rfl ?_
    obtain ⟨r5, M4, hc, hv⟩ := hv
    refine am_xc t_Pag_kept (.invokevirtual 63) 63 (av := [.ref 2]) (rest := []) (rv := some (.int (zi r5))) (M' := M4) rfl rfl rfl rfl (Nat.le_of_ble_eq_true rfl) (fun _ => rfl) (hc) ?_
    refine am_xn 0 (c1 := (90, [.ref 0, .int (zi w)], [.int (zi r5)], M4)) rfl ?_
    exact am_xr (some (.int (zi r5))) ⟨rfl, rfl, .int, rfl, rfl⟩ hv
  replace hv := hv.2
  by_cases h5 : w = 5
  · replace hv := hv.1 h5
    refine am_xswt rfl 5 (by rw [h5]; rfl) 91 rfl ?_
    refine am_xn 2 (c1 := (95, [.ref 0, .int (zi w)], [.ref 7], M)) rfl ?_
    obtain ⟨r7, M6, hc, hv⟩ := hv
    refine am_xc t_Pag_kept (.invokevirtual 63) 63 (av := [.ref 7]) (rest := []) (rv := some (.int (zi r7))) (M' := M6) rfl rfl rfl rfl (Nat.le_of_ble_eq_true rfl) (fun _ => rfl) (hc) ?_
    refine am_xn 0 (c1 := (98, [.ref 0, .int (zi w)], [.int (zi r7)], M6)) rfl ?_
    exact am_xr (some (.int (zi r7))) ⟨rfl, rfl, .int, rfl, rfl⟩ hv
  replace hv := hv.2
  by_cases h6 : w = 6
  · replace hv := hv.1 h6
    refine am_xswt rfl 6 (by rw [h6]; rfl) 99 rfl ?_
    refine am_xn 2 (c1 := (103, [.ref 0, .int (zi w)], [.ref 9], M)) rfl ?_
    refine am_xc t_Amd_revoked (.invokevirtual 106) 106 (av := [.ref 9]) (rest := []) (rv := some (.int (zi (iv M 11 3)))) (M' := M) rfl rfl rfl rfl (Nat.le_of_ble_eq_true rfl) (fun _ => rfl) (sp_c_revoked M) ?_
    refine am_xn 0 (c1 := (106, [.ref 0, .int (zi w)], [.int (zi (iv M 11 3))], M)) rfl ?_
    obtain ⟨r9, M8, hc, hv⟩ := hv
    refine am_xc t_Int_bitCount (.invokestatic 307) 307 (av := [.int (zi (iv M 11 3))]) (rest := []) (rv := some (.int (zi r9))) (M' := M8) rfl rfl rfl rfl (Nat.le_of_ble_eq_true rfl) (fun h => nomatch h) (hc) ?_
    refine am_xn 0 (c1 := (109, [.ref 0, .int (zi w)], [.int (zi r9)], M8)) rfl ?_
    exact am_xr (some (.int (zi r9))) ⟨rfl, rfl, .int, rfl, rfl⟩ hv
  replace hv := hv.2
  by_cases h7 : w = 7
  · replace hv := hv.1 h7
    refine am_xswt rfl 7 (by rw [h7]; rfl) 110 rfl ?_
    refine am_xn 2 (c1 := (114, [.ref 0, .int (zi w)], [.ref 12], M)) rfl ?_
    obtain ⟨r11, M10, hc, hv⟩ := hv
    refine am_xc t_Arc_snapshots (.invokevirtual 312) 312 (av := [.ref 12]) (rest := []) (rv := some (.int (zi r11))) (M' := M10) rfl rfl rfl rfl (Nat.le_of_ble_eq_true rfl) (fun _ => rfl) (hc) ?_
    refine am_xn 0 (c1 := (117, [.ref 0, .int (zi w)], [.int (zi r11)], M10)) rfl ?_
    exact am_xr (some (.int (zi r11))) ⟨rfl, rfl, .int, rfl, rfl⟩ hv
  replace hv := hv.2
  replace hv := hv h0 h1 h2 h3 h4 h5 h6 h7
  refine am_xswd rfl r1 (by omega) 118 rfl ?_
  refine am_xn 2 (c1 := (122, [.ref 0, .int (zi w)], [.ref 15], M)) rfl ?_
  refine am_xc t_Law_size (.invokevirtual 165) 165 (av := [.ref 15]) (rest := []) (rv := some (.int (zi (iv M 15 9)))) (M' := M) rfl rfl rfl rfl (Nat.le_of_ble_eq_true rfl) (fun _ => rfl) (sp_l15_size M) ?_
  refine am_xn 0 (c1 := (125, [.ref 0, .int (zi w)], [.int (zi (iv M 15 9))], M)) rfl ?_
  exact am_xr (some (.int (zi (iv M 15 9)))) ⟨rfl, rfl, .int, rfl, rfl⟩ hv
set_option maxRecDepth 100000 in
theorem vc_c_count (w : Int) (M : am_M) (Q : Option Value → am_M → Prop) (hv : (zr w ∧ zr (8 : Int)) ∧ ((0 ≤ w ∧ w ≤ 8 → ∃ M1, am_call t_SB_consolidateFully [.ref 0] M none M1 ∧ (∃ (r3 : Int) (M2 : am_M), am_call t_SB_countPart [.ref 0, .int (zi w)] M1 (some (.int (zi r3))) M2 ∧ (Q (some (.int (zi r3))) M2))) ∧ (¬ (0 ≤ w ∧ w ≤ 8) → Q (some (.int (zi (-2)))) M))) : am_x t_SB_count (0, am_ent (am_mL t_SB_count) [.ref 0, .int (zi w)], [], M) Q := by
  refine am_xn 0 (c1 := (0, [.ref 0, .int (zi w)], [], M)) rfl ?_
  refine am_xn 2 (c1 := (3, [.ref 0, .int (zi w)], [.int (zi 8), .int (zi w)], M)) rfl ?_
  obtain ⟨g, hv⟩ := hv
  by_cases c4 : 0 ≤ w ∧ w ≤ 8
  · replace hv := hv.1 c4
    refine am_xc t_SB_within (.invokestatic 56) 56 (av := [.int (zi w), .int (zi 8)]) (rest := []) (rv := some (.int (zi 1))) (M' := M) rfl rfl rfl rfl (Nat.le_of_ble_eq_true rfl) (fun h => nomatch h) (by have q := sp_within M w 8 g; rwa [if_pos c4] at q) ?_
    refine am_xn 0 (c1 := (6, [.ref 0, .int (zi w)], [.int (zi 1)], M)) rfl ?_
    refine am_xn 2 (c1 := (13, [.ref 0, .int (zi w)], [.ref 0], M)) rfl ?_
    obtain ⟨M1, hc, hv⟩ := hv
    refine am_xc t_SB_consolidateFully (.invokevirtual 128) 128 (av := [.ref 0]) (rest := []) (rv := none) (M' := M1) rfl rfl rfl rfl (Nat.le_of_ble_eq_true rfl) (fun _ => rfl) (hc) ?_
    refine am_xn 0 (c1 := (16, [.ref 0, .int (zi w)], [], M1)) rfl ?_
    refine am_xn 2 (c1 := (18, [.ref 0, .int (zi w)], [.int (zi w), .ref 0], M1)) rfl ?_
    obtain ⟨r3, M2, hc, hv⟩ := hv
    refine am_xc t_SB_countPart (.invokevirtual 301) 301 (av := [.ref 0, .int (zi w)]) (rest := []) (rv := some (.int (zi r3))) (M' := M2) rfl rfl rfl rfl (Nat.le_of_ble_eq_true rfl) (fun _ => rfl) (hc) ?_
    refine am_xn 0 (c1 := (21, [.ref 0, .int (zi w)], [.int (zi r3)], M2)) rfl ?_
    exact am_xr (some (.int (zi r3))) ⟨rfl, rfl, .int, rfl, rfl⟩ hv
  · replace hv := hv.2 c4
    refine am_xc t_SB_within (.invokestatic 56) 56 (av := [.int (zi w), .int (zi 8)]) (rest := []) (rv := some (.int (zi 0))) (M' := M) rfl rfl rfl rfl (Nat.le_of_ble_eq_true rfl) (fun h => nomatch h) (by have q := sp_within M w 8 g; rwa [if_neg c4] at q) ?_
    refine am_xn 0 (c1 := (6, [.ref 0, .int (zi w)], [.int (zi 0)], M)) rfl ?_
    refine am_xn 2 (c1 := (11, [.ref 0, .int (zi w)], [.int (zi (-2))], M)) rfl ?_
    exact am_xr (some (.int (zi (-2)))) ⟨rfl, rfl, .int, rfl, rfl⟩ hv
set_option maxRecDepth 100000 in
theorem vc_m_count (w : Int) (M : am_M) (Q : Option Value → am_M → Prop) (hv : (zr w) ∧ ((w = 0 → Q (some (.int (zi (iv M 59 0)))) M) ∧ (w = 1 → (iv M 59 0 ≤ 20) ∧ (Q (some (.int (zi (nops (iv M 59))))) M)) ∧ (w = 2 → (iv M 59 0 ≤ 20 ∧ 0 ≤ nops (iv M 59) ∧ nops (iv M 59) ≤ 120) ∧ (Q (some (.int (zi (ia (iv M 59) (nops (iv M 59)))))) M)) ∧ (w = 3 → Q (some (.int (zi (iv M 58 2)))) M) ∧ (w = 4 → Q (some (.int (zi (iv M 58 17)))) M) ∧ (w = 5 → Q (some (.int (zi (iv M 58 23)))) M) ∧ (w = 6 → ∃ (r3 : Int) (M2 : am_M), am_call t_Mo_revoked [.ref 58] M (some (.int (zi r3))) M2 ∧ (Q (some (.int (zi r3))) M2)) ∧ (w = 7 → Q (some (.int (zi ((iv M 62 0) + (iv M 62 1))))) M) ∧ (w = 8 → ∃ (r5 : Int) (M4 : am_M), am_call t_Mo_clauses [.ref 58, .int (zi 9999), .int (zi (-1))] M (some (.int (zi r5))) M4 ∧ (Q (some (.int (zi r5))) M4)) ∧ (¬ w = 0 → ¬ w = 1 → ¬ w = 2 → ¬ w = 3 → ¬ w = 4 → ¬ w = 5 → ¬ w = 6 → ¬ w = 7 → ¬ w = 8 → Q (some (.int (zi (-2)))) M))) : am_x t_Mo_count (0, am_ent (am_mL t_Mo_count) [.ref 58, .int (zi w)], [], M) Q := by
  refine am_xn 0 (c1 := (0, [.ref 58, .int (zi w)], [], M)) rfl ?_
  obtain ⟨r1, hv⟩ := hv
  refine am_xn 1 (c1 := (1, [.ref 58, .int (zi w)], [.int (zi w)], M)) rfl ?_
  by_cases h0 : w = 0
  · replace hv := hv.1 h0
    refine am_xswt rfl 0 (by rw [h0]; rfl) 52 rfl ?_
    refine am_xrd 4 59 0 (pc := 58) (ls := [.ref 58, .int (zi w)]) (st := []) rfl ?_
    exact am_xr (some (.int (zi (iv M 59 0)))) ⟨rfl, rfl, .int, rfl, rfl⟩ hv
  replace hv := hv.2
  by_cases h1 : w = 1
  · replace hv := hv.1 h1
    refine am_xswt rfl 1 (by rw [h1]; rfl) 59 rfl ?_
    refine am_xn 1 (c1 := (60, [.ref 58, .int (zi w)], [.ref 58], M)) rfl ?_
    obtain ⟨g, hv⟩ := hv
    refine am_xc t_Mo_operations (.invokevirtual 89) 89 (av := [.ref 58]) (rest := []) (rv := some (.int (zi (nops (iv M 59))))) (M' := M) rfl rfl rfl rfl (Nat.le_of_ble_eq_true rfl) (fun _ => rfl) (sp_operations M g) ?_
    refine am_xn 0 (c1 := (63, [.ref 58, .int (zi w)], [.int (zi (nops (iv M 59)))], M)) rfl ?_
    exact am_xr (some (.int (zi (nops (iv M 59))))) ⟨rfl, rfl, .int, rfl, rfl⟩ hv
  replace hv := hv.2
  by_cases h2 : w = 2
  · replace hv := hv.1 h2
    refine am_xswt rfl 2 (by rw [h2]; rfl) 64 rfl ?_
    refine am_xn 1 (c1 := (65, [.ref 58, .int (zi w)], [.ref 58], M)) rfl ?_
    obtain ⟨g, hv⟩ := hv
    refine am_xc t_Mo_identities (.invokevirtual 97) 97 (av := [.ref 58]) (rest := []) (rv := some (.int (zi (ia (iv M 59) (nops (iv M 59)))))) (M' := M) rfl rfl rfl rfl (Nat.le_of_ble_eq_true rfl) (fun _ => rfl) (sp_identities M g) ?_
    refine am_xn 0 (c1 := (68, [.ref 58, .int (zi w)], [.int (zi (ia (iv M 59) (nops (iv M 59))))], M)) rfl ?_
    exact am_xr (some (.int (zi (ia (iv M 59) (nops (iv M 59)))))) ⟨rfl, rfl, .int, rfl, rfl⟩ hv
  replace hv := hv.2
  by_cases h3 : w = 3
  · replace hv := hv.1 h3
    refine am_xswt rfl 3 (by rw [h3]; rfl) 69 rfl ?_
    refine am_xrd 2 58 2 (pc := 73) (ls := [.ref 58, .int (zi w)]) (st := []) rfl ?_
    exact am_xr (some (.int (zi (iv M 58 2)))) ⟨rfl, rfl, .int, rfl, rfl⟩ hv
  replace hv := hv.2
  by_cases h4 : w = 4
  · replace hv := hv.1 h4
    refine am_xswt rfl 4 (by rw [h4]; rfl) 74 rfl ?_
    refine am_xrd 2 58 17 (pc := 78) (ls := [.ref 58, .int (zi w)]) (st := []) rfl ?_
    exact am_xr (some (.int (zi (iv M 58 17)))) ⟨rfl, rfl, .int, rfl, rfl⟩ hv
  replace hv := hv.2
  by_cases h5 : w = 5
  · replace hv := hv.1 h5
    refine am_xswt rfl 5 (by rw [h5]; rfl) 79 rfl ?_
    refine am_xrd 2 58 23 (pc := 83) (ls := [.ref 58, .int (zi w)]) (st := []) rfl ?_
    exact am_xr (some (.int (zi (iv M 58 23)))) ⟨rfl, rfl, .int, rfl, rfl⟩ hv
  replace hv := hv.2
  by_cases h6 : w = 6
  · replace hv := hv.1 h6
    refine am_xswt rfl 6 (by rw [h6]; rfl) 84 rfl ?_
    refine am_xn 1 (c1 := (85, [.ref 58, .int (zi w)], [.ref 58], M)) rfl ?_
    obtain ⟨r3, M2, hc, hv⟩ := hv
    refine am_xc t_Mo_revoked (.invokevirtual 321) 321 (av := [.ref 58]) (rest := []) (rv := some (.int (zi r3))) (M' := M2) rfl rfl rfl rfl (Nat.le_of_ble_eq_true rfl) (fun _ => rfl) (hc) ?_
    refine am_xn 0 (c1 := (88, [.ref 58, .int (zi w)], [.int (zi r3)], M2)) rfl ?_
    exact am_xr (some (.int (zi r3))) ⟨rfl, rfl, .int, rfl, rfl⟩ hv
  replace hv := hv.2
  by_cases h7 : w = 7
  · replace hv := hv.1 h7
    refine am_xswt rfl 7 (by rw [h7]; rfl) 89 rfl ?_
    refine am_xrd 4 62 0 (pc := 95) (ls := [.ref 58, .int (zi w)]) (st := []) rfl ?_
    refine am_xrd 4 62 1 (pc := 101) (ls := [.ref 58, .int (zi w)]) (st := [.int (zi (iv M 62 0))]) rfl ?_
    refine am_xiadd 1 (iv M 62 0) (iv M 62 1) (pc := 102) (ls := [.ref 58, .int (zi w)]) (st := []) rfl ?_
    exact am_xr (some (.int (zi ((iv M 62 0) + (iv M 62 1))))) ⟨rfl, rfl, .int, rfl, rfl⟩ hv
  replace hv := hv.2
  by_cases h8 : w = 8
  · replace hv := hv.1 h8
    refine am_xswt rfl 8 (by rw [h8]; rfl) 103 rfl ?_
    refine am_xn 3 (c1 := (108, [.ref 58, .int (zi w)], [.int (zi (-1)), .int (zi 9999), .ref 58], M)) rfl ?_
    obtain ⟨r5, M4, hc, hv⟩ := hv
    refine am_xc t_Mo_clauses (.invokevirtual 324) 324 (av := [.ref 58, .int (zi 9999), .int (zi (-1))]) (rest := []) (rv := some (.int (zi r5))) (M' := M4) rfl rfl rfl rfl (Nat.le_of_ble_eq_true rfl) (fun _ => rfl) (hc) ?_
    refine am_xn 0 (c1 := (111, [.ref 58, .int (zi w)], [.int (zi r5)], M4)) rfl ?_
    exact am_xr (some (.int (zi r5))) ⟨rfl, rfl, .int, rfl, rfl⟩ hv
  replace hv := hv.2
  replace hv := hv h0 h1 h2 h3 h4 h5 h6 h7 h8
  refine am_xswd rfl r1 (by omega) 112 rfl ?_
  refine am_xn 1 (c1 := (114, [.ref 58, .int (zi w)], [.int (zi (-2))], M)) rfl ?_
  exact am_xr (some (.int (zi (-2)))) ⟨rfl, rfl, .int, rfl, rfl⟩ hv
set_option maxRecDepth 100000 in
theorem vc_m_revoked  (M : am_M) (Q : Option Value → am_M → Prop) (hv : am_x t_Mo_revoked (4, [.ref 58, .int (zi 0), .int (zi 0)], [], M) Q) : am_x t_Mo_revoked (0, am_ent (am_mL t_Mo_revoked) [.ref 58], [], M) Q := by
  refine am_xn 0 (c1 := (0, [.ref 58, .null, .null], [], M)) rfl ?_
  refine am_xn 4 (c1 := (4, [.ref 58, .int (zi 0), .int (zi 0)], [], M)) rfl ?_
  exact hv
set_option maxRecDepth 100000 in
theorem vc_m_revoked_4 (x1 : Int) (x2 : Int) (M : am_M) (Q : Option Value → am_M → Prop) (hv : (zr x2) ∧ ((x2 < (iv M 59 0) → (0 ≤ (21 + x2) ∧ (21 + x2) < 1501) ∧ (am_x t_Mo_revoked (4, [.ref 58, .int (zi (x1 + (iv M 59 (21 + x2)))), .int (zi (x2 + 1))], [], M) Q)) ∧ ((iv M 59 0) ≤ x2 → Q (some (.int (zi x1))) M))) : am_x t_Mo_revoked (4, [.ref 58, .int (zi x1), .int (zi x2)], [], M) Q := by
  refine am_xrd 5 59 0 (pc := 11) (ls := [.ref 58, .int (zi x1), .int (zi x2)]) (st := [.int (zi x2)]) rfl ?_
  obtain ⟨r1, hv⟩ := hv
  refine am_xn 1 (c1 := (if zi x2 < zi (iv M 59 0) then 14 else 32, [.ref 58, .int (zi x1), .int (zi x2)], [], M)) rfl (am_xlt r1 (iv_r _ _ _) (fun h => ?_) (fun h => ?_))
  · replace hv := hv.1 h
    refine am_xiadd 6 21 x2 (pc := 23) (ls := [.ref 58, .int (zi x1), .int (zi x2)]) (st := [.ref 59, .int (zi x1)]) rfl ?_
    obtain ⟨r2, hv⟩ := hv
    refine am_xald rfl rfl rfl r2 ?_
    refine am_xn 0 (c1 := (24, [.ref 58, .int (zi x1), .int (zi x2)], [.int (zi (iv M 59 (21 + x2))), .int (zi x1)], M)) rfl ?_
    refine am_xiadd 1 x1 (iv M 59 (21 + x2)) (pc := 25) (ls := [.ref 58, .int (zi x1), .int (zi x2)]) (st := []) rfl ?_
    refine am_xn 2 (c1 := (29, [.ref 58, .int (zi (x1 + (iv M 59 (21 + x2)))), .int (zi x2 + zi 1)], [], M)) rfl ?_
    rw [zi_add]
    refine am_xn 1 (c1 := (4, [.ref 58, .int (zi (x1 + (iv M 59 (21 + x2)))), .int (zi (x2 + 1))], [], M)) rfl ?_
    exact hv
  · replace hv := hv.2 h
    refine am_xn 1 (c1 := (33, [.ref 58, .int (zi x1), .int (zi x2)], [.int (zi x1)], M)) rfl ?_
    exact am_xr (some (.int (zi x1))) ⟨rfl, rfl, .int, rfl, rfl⟩ hv
theorem sp_m_revoked {M : am_M} (w : WB (iv M 59)) : am_call t_Mo_revoked [.ref 58] M (some (.int (zi (sm (rvk (iv M 59)) (iv M 59 0))))) M := by
  have n0 := w.n0
  have n1 := w.n1
  refine am_call_of ⟨Nat.le_of_ble_eq_true rfl, rfl⟩ (vc_m_revoked M _ ?_)
  refine loop_up (fun i (s : Int) => (4, [.ref 58, .int (zi s), .int (zi i)], [], M)) (iv M 59 0) (fun i s => s = sm (rvk (iv M 59)) i) ?_ ?_ 0 0 (by omega) n0 rfl
  · intro s hs
    exact vc_m_revoked_4 _ _ M _ ⟨⟨by omega, by omega⟩, fun q => by omega, fun _ => ⟨by rw [hs], rfl⟩⟩
  · intro i s i0 i1 hs k
    exact vc_m_revoked_4 _ _ M _ ⟨⟨by omega, by omega⟩, fun _ => ⟨⟨by omega, by omega⟩, k _ (by rw [sm_s _ i0, hs]; rfl)⟩, fun q => by omega⟩
theorem sp_p7_kept {M : am_M} (h : OUTR M) : am_call t_Pag_kept [.ref 7] M (some (.int (zi (iv M 58 23)))) M := by
  obtain ⟨l, h1, h2, h3⟩ := h
  refine am_call_of ⟨Nat.le_of_ble_eq_true rfl, rfl⟩ (vc_p7_kept M _ ⟨?_, rfl⟩)
  rw [h1.1, h2.2.1]
theorem sp_snapshots {M : am_M} (h : ARC M) : am_call t_Arc_snapshots [.ref 12] M (some (.int (zi (iv M 62 0 + iv M 62 1)))) M := by
  obtain ⟨_, _, _, _, h5, h6⟩ := h
  have a := h6 0 (by decide) (by decide)
  have b := h6 1 (by decide) (by decide)
  refine am_call_of ⟨Nat.le_of_ble_eq_true rfl, rfl⟩ (vc_snapshots M _ ⟨_, M, sp_bitCount M h5.1 (by omega), ?_, rfl⟩)
  rw [nbits_sav h5.1 h5.2 a.1 b.1 a.2.1 b.2.1]
theorem rr_cq {M M4 : am_M} (rr : RR M) (h : CQ M M4) : RR M4 := by
  obtain ⟨s1, s2, s3, s4⟩ := rr
  exact ⟨cst_rows s1 (h 11 (by decide)) (h 59 (by decide)), txt_rows s2 (h 2 (by decide)) (h 3 (by decide)) (h 73 (by decide)) (by rw [h 58 (by decide)]), out_rows s3 (h 7 (by decide)) (h 8 (by decide)) (h 75 (by decide)) (by rw [h 58 (by decide)]) (by rw [h 58 (by decide)]), arc_rows s4 (h 12 (by decide)) (h 14 (by decide)) (h 60 (by decide)) (h 61 (by decide)) (h 62 (by decide)) (by rw [h 58 (by decide)])⟩
theorem sp_countPart {M : am_M} (rr : RR M) (e9 : iv M 15 9 = frc (lw (iv M 59) 9999 (-1)) 40) {w : Int} (hw : 0 ≤ w ∧ w ≤ 8) : am_call t_SB_countPart [.ref 0, .int (zi w)] M (some (.int (zi (cntv (iv M 59) (iv M 58) (iv M 62) w)))) M := by
  obtain ⟨⟨w1, cb⟩, s2, s3, s4⟩ := rr
  refine am_call_of ⟨Nat.le_of_ble_eq_true rfl, rfl⟩ (vc_countPart w M _ ⟨⟨by omega, by omega⟩, fun h => ⟨?_, rfl⟩, fun h => ⟨?_, rfl⟩, fun h => ⟨?_, rfl⟩, fun h => ⟨_, M, sp_c_states M, ?_, rfl⟩, fun h => ⟨_, M, sp_p2_kept s2.2.1, ?_, rfl⟩, fun h => ⟨_, M, sp_p7_kept s3, ?_, rfl⟩, fun h => ⟨_, M, sp_bitCount M cb.2.1.1 cb.2.1.2, ?_, rfl⟩, fun h => ⟨_, M, sp_snapshots s4, ?_, rfl⟩, fun a0 a1 a2 a3 a4 a5 a6 a7 => ⟨?_, rfl⟩⟩)
  · subst h; rw [cb.1.1]; rfl
  · subst h; rw [cb.1.2.1]; rfl
  · subst h; rw [cb.1.2.2.1]; rfl
  · subst h; rw [s4.2.1]; rfl
  · subst h; rw [← s2.1]; rfl
  · subst h; rfl
  · subst h; rw [nbits_rvk w1 cb]; rfl
  · subst h; rfl
  · rw [cntv, if_neg a0, if_neg a1, if_neg a2, if_neg a3, if_neg a4, if_neg a5, if_neg a6, if_neg a7, e9]
theorem MLf_refl (M : am_M) : MLf M M := ⟨fun _ _ _ => rfl, fun _ _ => rfl⟩
theorem sp_m_count {M : am_M} (w1 : WB (iv M 59)) {w : Int} (hw : 0 ≤ w ∧ w ≤ 8) : ∃ M', am_call t_Mo_count [.ref 58, .int (zi w)] M (some (.int (zi (cntv (iv M 59) (iv M 58) (iv M 62) w)))) M' ∧ MLf M M' := by
  have n0 := w1.n0
  have n1 := w1.n1
  have wt := w1.tot
  have f2 := w1.fo_nn (n := iv M 59 0) (Int.le_refl _)
  suffices h : am_x t_Mo_count (0, am_ent (am_mL t_Mo_count) [.ref 58, .int (zi w)], [], M) (fun r M' => r = some (.int (zi (cntv (iv M 59) (iv M 58) (iv M 62) w))) ∧ MLf M M') by
    obtain ⟨r, M', h1, h2, h3⟩ := am_call_ex (by exact ⟨Nat.le_of_ble_eq_true rfl, rfl⟩) h
    subst h2
    exact ⟨M', h1, h3⟩
  obtain ⟨M', a1, a2, a3⟩ := sp_laws M w1 (day := 9999) (cas := -1) (by decide) (by decide)
  have cl : am_call t_Mo_clauses [.ref 58, .int (zi 9999), .int (zi (-1))] M (some (.int (zi (frc (lw (iv M 59) 9999 (-1)) 40)))) M' := am_call_of ⟨Nat.le_of_ble_eq_true rfl, rfl⟩ (vc_m_clauses 9999 (-1) M _ ⟨by decide, fun _ => ⟨by decide, fun _ => ⟨M', a1, _, M', sp_inForce a3, rfl, rfl⟩, fun q => absurd (Or.inl rfl) q⟩, fun q => absurd (by decide) q⟩)
  refine vc_m_count w M _ ⟨⟨by omega, by omega⟩, fun h => ⟨by subst h; rfl, MLf_refl M⟩, fun h => ⟨n1, by subst h; rfl, MLf_refl M⟩, fun h => ⟨⟨n1, f2, wt⟩, by subst h; rfl, MLf_refl M⟩, fun h => ⟨by subst h; rfl, MLf_refl M⟩, fun h => ⟨by subst h; rfl, MLf_refl M⟩, fun h => ⟨by subst h; rfl, MLf_refl M⟩, fun h => ⟨_, M, sp_m_revoked w1, by subst h; rfl, MLf_refl M⟩, fun h => ⟨by subst h; rfl, MLf_refl M⟩, fun h => ⟨_, M', cl, by subst h; rfl, a2⟩, fun a0 a1 a2 a3 a4 a5 a6 a7 a8 => by omega⟩
theorem st_count {M : am_M} (rr : RR M) {w : Int} (wz : zr w) : STEP t_SB_count t_Mo_count [.ref 0, .int (zi w)] [.ref 58, .int (zi w)] M := by
  have s1 := rr.1
  refine st_of_qry rr ?_
  by_cases hl : 0 ≤ w ∧ w ≤ 8
  · obtain ⟨M4, h4, fr, r4, od⟩ := sp_c_consolidateFully M s1.1 s1.2
    have cq := CQ_15 fr
    have e59 := iv_row (cq 59 (by decide))
    have e58 := iv_row (cq 58 (by decide))
    have e62 := iv_row (cq 62 (by decide))
    have cp := sp_countPart (rr_cq rr cq) (by rw [e59]; exact od.1) hl
    rw [e59, e58, e62] at cp
    refine ⟨cntv (iv M 59) (iv M 58) (iv M 62) w, ⟨M4, am_call_of ⟨Nat.le_of_ble_eq_true rfl, rfl⟩ (vc_c_count w M _ ⟨⟨wz, by decide⟩, fun _ => ⟨M4, h4, _, M4, cp, rfl, rfl⟩, fun q => absurd hl q⟩), cq⟩, fun M1 hs => ?_⟩
    obtain ⟨M2, m1, m2⟩ := sp_m_count (M := M1) (MSm_w hs s1.1) hl
    rw [iv_row (hs 59 (by decide)), iv_row (hs 58 (by decide)), iv_row (hs 62 (by decide))] at m1
    exact ⟨M2, m1, MqF_lf m2⟩
  · exact qry (-2) ⟨Nat.le_of_ble_eq_true rfl, rfl⟩ ⟨Nat.le_of_ble_eq_true rfl, rfl⟩ (vc_c_count w M _ ⟨⟨wz, by decide⟩, fun q => absurd q hl, fun _ => ⟨rfl, CQ_refl M⟩⟩) (fun M1 hs => vc_m_count w M1 _ ⟨wz, fun h => by omega, fun h => by omega, fun h => by omega, fun h => by omega, fun h => by omega, fun h => by omega, fun h => by omega, fun h => by omega, fun h => by omega, fun _ _ _ _ _ _ _ _ _ => ⟨rfl, MqF_refl M1⟩⟩)
