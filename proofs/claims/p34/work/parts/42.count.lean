/-! out of the proof of whole: count -/
set_option maxRecDepth 100000 in
theorem vc_countPart (w : Int) (M : am_M) (Q : Option Value → am_M → Prop) (hv : (zr w) ∧ ((w = 0 → Q (some (.int (zi (iv M 11 0)))) M) ∧ (w = 1 → Q (some (.int (zi (iv M 11 1)))) M) ∧ (w = 2 → Q (some (.int (zi (iv M 11 2)))) M) ∧ (w = 3 → ∃ (r3 : Int) (M2 : am_M), am_call t_Arc_states [.ref 12] M (some (.int (zi r3))) M2 ∧ (Q (some (.int (zi r3))) M2)) ∧ (w = 4 → ∃ (r5 : Int) (M4 : am_M), am_call t_Pag_kept [.ref 2] M (some (.int (zi r5))) M4 ∧ (Q (some (.int (zi r5))) M4)) ∧ (w = 5 → ∃ (r7 : Int) (M6 : am_M), am_call t_Pag_kept [.ref 7] M (some (.int (zi r7))) M6 ∧ (Q (some (.int (zi r7))) M6)) ∧ (w = 6 → ∃ (r9 : Int) (M8 : am_M), am_call t_Int_bitCount [.int (zi (iv M 11 3))] M (some (.int (zi r9))) M8 ∧ (Q (some (.int (zi r9))) M8)) ∧ (w = 7 → ∃ (r11 : Int) (M10 : am_M), am_call t_Arc_snapshots [.ref 12] M (some (.int (zi r11))) M10 ∧ (Q (some (.int (zi r11))) M10)) ∧ (¬ w = 0 → ¬ w = 1 → ¬ w = 2 → ¬ w = 3 → ¬ w = 4 → ¬ w = 5 → ¬ w = 6 → ¬ w = 7 → Q (some (.int (zi (iv M 15 9)))) M))) : am_x t_SB_countPart (0, am_ent (am_mL t_SB_countPart) [.ref 0, .int (zi w)], [], M) Q := by
  refine am_xn 0 (c1 := (0, [.ref 0, .int (zi w)], [], M)) rfl ?_
  obtain ⟨r1, hv⟩ := hv
  refine am_xn 1 (c1 := (1, [.ref 0, .int (zi w)], [.int (zi w)], M)) rfl ?_
  by_cases h0 : w = 0
  · replace hv := hv.1 h0
    refine am_xswt rfl 0 (by rw [h0]; rfl) 48 rfl ?_
    refine am_xn 2 (c1 := (52, [.ref 0, .int (zi w)], [.ref 9], M)) rfl ?_
    refine am_xc t_Amd_size (.invokevirtual 96) 96 (av := [.ref 9]) (rest := []) (rv := some (.int (zi (iv M 11 0)))) (M' := M) rfl rfl rfl rfl (Nat.le_of_ble_eq_true rfl) (fun _ => rfl) (sp_c_size M) ?_
    refine am_xn 0 (c1 := (55, [.ref 0, .int (zi w)], [.int (zi (iv M 11 0))], M)) rfl ?_
    exact am_xr (some (.int (zi (iv M 11 0)))) ⟨rfl, rfl, .int, rfl, rfl⟩ hv
  replace hv := hv.2
  by_cases h1 : w = 1
  · replace hv := hv.1 h1
    refine am_xswt rfl 1 (by rw [h1]; rfl) 56 rfl ?_
    refine am_xn 2 (c1 := (60, [.ref 0, .int (zi w)], [.ref 9], M)) rfl ?_
    refine am_xc t_Amd_operations (.invokevirtual 256) 256 (av := [.ref 9]) (rest := []) (rv := some (.int (zi (iv M 11 1)))) (M' := M) rfl rfl rfl rfl (Nat.le_of_ble_eq_true rfl) (fun _ => rfl) (sp_c_operations M) ?_
    refine am_xn 0 (c1 := (63, [.ref 0, .int (zi w)], [.int (zi (iv M 11 1))], M)) rfl ?_
    exact am_xr (some (.int (zi (iv M 11 1)))) ⟨rfl, rfl, .int, rfl, rfl⟩ hv
  replace hv := hv.2
  by_cases h2 : w = 2
  · replace hv := hv.1 h2
    refine am_xswt rfl 2 (by rw [h2]; rfl) 64 rfl ?_
    refine am_xn 2 (c1 := (68, [.ref 0, .int (zi w)], [.ref 9], M)) rfl ?_
    refine am_xc t_Amd_identities (.invokevirtual 304) 304 (av := [.ref 9]) (rest := []) (rv := some (.int (zi (iv M 11 2)))) (M' := M) rfl rfl rfl rfl (Nat.le_of_ble_eq_true rfl) (fun _ => rfl) (sp_c_identities M) ?_
    refine am_xn 0 (c1 := (71, [.ref 0, .int (zi w)], [.int (zi (iv M 11 2))], M)) rfl ?_
    exact am_xr (some (.int (zi (iv M 11 2)))) ⟨rfl, rfl, .int, rfl, rfl⟩ hv
  replace hv := hv.2
  by_cases h3 : w = 3
  · replace hv := hv.1 h3
    refine am_xswt rfl 3 (by rw [h3]; rfl) 72 rfl ?_
    refine am_xn 2 (c1 := (76, [.ref 0, .int (zi w)], [.ref 12], M)) rfl ?_
    obtain ⟨r3, M2, hc, hv⟩ := hv
    refine am_xc t_Arc_states (.invokevirtual 122) 122 (av := [.ref 12]) (rest := []) (rv := some (.int (zi r3))) (M' := M2) rfl rfl rfl rfl (Nat.le_of_ble_eq_true rfl) (fun _ => rfl) (hc) ?_
    refine am_xn 0 (c1 := (79, [.ref 0, .int (zi w)], [.int (zi r3)], M2)) rfl ?_
    exact am_xr (some (.int (zi r3))) ⟨rfl, rfl, .int, rfl, rfl⟩ hv
  replace hv := hv.2
  by_cases h4 : w = 4
  · replace hv := hv.1 h4
    refine am_xswt rfl 4 (by rw [h4]; rfl) 80 rfl ?_
    refine am_xn 3 (c1 := (87, [.ref 0, .int (zi w)], [.ref 2], M)) rfl ?_
    obtain ⟨r5, M4, hc, hv⟩ := hv
    refine am_xc t_Pag_kept (.invokevirtual 63) 63 (av := [.ref 2]) (rest := []) (rv := some (.int (zi r5))) (M' := M4) rfl rfl rfl rfl (Nat.le_of_ble_eq_true rfl) (fun _ => rfl) (hc) ?_
    refine am_xn 0 (c1 := (90, [.ref 0, .int (zi w)], [.int (zi r5)], M4)) rfl ?_
    exact am_xr (some (.int (zi r5))) ⟨rfl, rfl, .int, rfl, rfl⟩ hv
  replace hv := hv.2
  by_cases h5 : w = 5
  · replace hv := hv.1 h5
    refine am_xswt rfl 5 (by rw [h5]; rfl) 91 rfl ?_
    refine am_xn 2 (c1 := (95, [.ref 0, .int (zi w)], [.ref 7], M)) rfl ?_
    obtain ⟨r7, M6, hc, hv⟩ := hv
    refine am_xc t_Pag_kept (.invokevirtual 63) 63 (av := [.ref 7]) (rest := []) (rv := some (.int (zi r7))) (M' := M6) rfl rfl rfl rfl (Nat.le_of_ble_eq_true rfl) (fun _ => rfl) (hc) ?_
    refine am_xn 0 (c1 := (98, [.ref 0, .int (zi w)], [.int (zi r7)], M6)) rfl ?_
    exact am_xr (some (.int (zi r7))) ⟨rfl, rfl, .int, rfl, rfl⟩ hv
  replace hv := hv.2
  by_cases h6 : w = 6
  · replace hv := hv.1 h6
    refine am_xswt rfl 6 (by rw [h6]; rfl) 99 rfl ?_
    refine am_xn 2 (c1 := (103, [.ref 0, .int (zi w)], [.ref 9], M)) rfl ?_
    refine am_xc t_Amd_revoked (.invokevirtual 106) 106 (av := [.ref 9]) (rest := []) (rv := some (.int (zi (iv M 11 3)))) (M' := M) rfl rfl rfl rfl (Nat.le_of_ble_eq_true rfl) (fun _ => rfl) (sp_c_revoked M) ?_
    refine am_xn 0 (c1 := (106, [.ref 0, .int (zi w)], [.int (zi (iv M 11 3))], M)) rfl ?_
    obtain ⟨r9, M8, hc, hv⟩ := hv
    refine am_xc t_Int_bitCount (.invokestatic 307) 307 (av := [.int (zi (iv M 11 3))]) (rest := []) (rv := some (.int (zi r9))) (M' := M8) rfl rfl rfl rfl (Nat.le_of_ble_eq_true rfl) (fun h => nomatch h) (hc) ?_
    refine am_xn 0 (c1 := (109, [.ref 0, .int (zi w)], [.int (zi r9)], M8)) rfl ?_
    exact am_xr (some (.int (zi r9))) ⟨rfl, rfl, .int, rfl, rfl⟩ hv
  replace hv := hv.2
  by_cases h7 : w = 7
  · replace hv := hv.1 h7
    refine am_xswt rfl 7 (by rw [h7]; rfl) 110 rfl ?_
    refine am_xn 2 (c1 := (114, [.ref 0, .int (zi w)], [.ref 12], M)) rfl ?_
    obtain ⟨r11, M10, hc, hv⟩ := hv
    refine am_xc t_Arc_snapshots (.invokevirtual 312) 312 (av := [.ref 12]) (rest := []) (rv := some (.int (zi r11))) (M' := M10) rfl rfl rfl rfl (Nat.le_of_ble_eq_true rfl) (fun _ => rfl) (hc) ?_
    refine am_xn 0 (c1 := (117, [.ref 0, .int (zi w)], [.int (zi r11)], M10)) rfl ?_
    exact am_xr (some (.int (zi r11))) ⟨rfl, rfl, .int, rfl, rfl⟩ hv
  replace hv := hv.2
  replace hv := hv h0 h1 h2 h3 h4 h5 h6 h7
  refine am_xswd rfl r1 (by omega) 118 rfl ?_
  refine am_xn 2 (c1 := (122, [.ref 0, .int (zi w)], [.ref 15], M)) rfl ?_
  refine am_xc t_Law_size (.invokevirtual 165) 165 (av := [.ref 15]) (rest := []) (rv := some (.int (zi (iv M 15 9)))) (M' := M) rfl rfl rfl rfl (Nat.le_of_ble_eq_true rfl) (fun _ => rfl) (sp_l15_size M) ?_
  refine am_xn 0 (c1 := (125, [.ref 0, .int (zi w)], [.int (zi (iv M 15 9))], M)) rfl ?_
  exact am_xr (some (.int (zi (iv M 15 9)))) ⟨rfl, rfl, .int, rfl, rfl⟩ hv
set_option maxRecDepth 100000 in
theorem vc_c_count (w : Int) (M : am_M) (Q : Option Value → am_M → Prop) (hv : (zr w ∧ zr (8 : Int)) ∧ ((0 ≤ w ∧ w ≤ 8 → ∃ M1, am_call t_SB_consolidateFully [.ref 0] M none M1 ∧ (∃ (r3 : Int) (M2 : am_M), am_call t_SB_countPart [.ref 0, .int (zi w)] M1 (some (.int (zi r3))) M2 ∧ (Q (some (.int (zi r3))) M2))) ∧ (¬ (0 ≤ w ∧ w ≤ 8) → Q (some (.int (zi (-2)))) M))) : am_x t_SB_count (0, am_ent (am_mL t_SB_count) [.ref 0, .int (zi w)], [], M) Q := by
  refine am_xn 0 (c1 := (0, [.ref 0, .int (zi w)], [], M)) rfl ?_
  refine am_xn 2 (c1 := (3, [.ref 0, .int (zi w)], [.int (zi 8), .int (zi w)], M)) rfl ?_
  obtain ⟨g, hv⟩ := hv
  by_cases c4 : 0 ≤ w ∧ w ≤ 8
  · replace hv := hv.1 c4
    refine am_xc t_SB_within (.invokestatic 56) 56 (av := [.int (zi w), .int (zi 8)]) (rest := []) (rv := some (.int (zi 1))) (M' := M) rfl rfl rfl rfl (Nat.le_of_ble_eq_true rfl) (fun h => nomatch h) (by have q := sp_within M w 8 g; rwa [if_pos c4] at q) ?_
    refine am_xn 0 (c1 := (6, [.ref 0, .int (zi w)], [.int (zi 1)], M)) rfl ?_
    refine am_xn 2 (c1 := (13, [.ref 0, .int (zi w)], [.ref 0], M)) rfl ?_
    obtain ⟨M1, hc, hv⟩ := hv
    refine am_xc t_SB_consolidateFully (.invokevirtual 128) 128 (av := [.ref 0]) (rest := []) (rv := none) (M' := M1) rfl rfl rfl rfl (Nat.le_of_ble_eq_true rfl) (fun _ => rfl) (hc) ?_
    refine am_xn 0 (c1 := (16, [.ref 0, .int (zi w)], [], M1)) rfl ?_
    refine am_xn 2 (c1 := (18, [.ref 0, .int (zi w)], [.int (zi w), .ref 0], M1)) rfl ?_
    obtain ⟨r3, M2, hc, hv⟩ := hv
    refine am_xc t_SB_countPart (.invokevirtual 301) 301 (av := [.ref 0, .int (zi w)]) (rest := []) (rv := some (.int (zi r3))) (M' := M2) rfl rfl rfl rfl (Nat.le_of_ble_eq_true rfl) (fun _ => rfl) (hc) ?_
    refine am_xn 0 (c1 := (21, [.ref 0, .int (zi w)], [.int (zi r3)], M2)) rfl ?_
    exact am_xr (some (.int (zi r3))) ⟨rfl, rfl, .int, rfl, rfl⟩ hv
  · replace hv := hv.2 c4
    refine am_xc t_SB_within (.invokestatic 56) 56 (av := [.int (zi w), .int (zi 8)]) (rest := []) (rv := some (.int (zi 0))) (M' := M) rfl rfl rfl rfl (Nat.le_of_ble_eq_true rfl) (fun h => nomatch h) (by have q := sp_within M w 8 g; rwa [if_neg c4] at q) ?_
    refine am_xn 0 (c1 := (6, [.ref 0, .int (zi w)], [.int (zi 0)], M)) rfl ?_
    refine am_xn 2 (c1 := (11, [.ref 0, .int (zi w)], [.int (zi (-2))], M)) rfl ?_
    exact am_xr (some (.int (zi (-2)))) ⟨rfl, rfl, .int, rfl, rfl⟩ hv
def wz (x : Int) : Int := (zi x).toInt
set_option maxRecDepth 100000 in
theorem vc_p2_byteAt (k : Int) (M : am_M) (Q : Option Value → am_M → Prop) (hv : (zr k) ∧ ((k < 0 → Q (some (.int (zi (-1)))) M) ∧ (0 ≤ k → (k < (iv M 2 1) → (k < 120 → (0 ≤ k ∧ k < 120) ∧ (Q (some (.int (zi (iv M 3 k)))) M)) ∧ (120 ≤ k → Q (some (.int (zi (-1)))) M)) ∧ ((iv M 2 1) ≤ k → Q (some (.int (zi (-1)))) M)))) : am_x t_Pag_byteAt (0, am_ent (am_mL t_Pag_byteAt) [.ref 2, .int (zi k)], [], M) Q := by
  refine am_xn 0 (c1 := (0, [.ref 2, .int (zi k)], [], M)) rfl ?_
  obtain ⟨r1, hv⟩ := hv
  refine am_xn 2 (c1 := (if zi k < zi 0 then 30 else 4, [.ref 2, .int (zi k)], [], M)) rfl (am_xlt r1 (by decide) (fun h => ?_) (fun h => ?_))
  · replace hv := hv.1 h
    refine am_xn 1 (c1 := (31, [.ref 2, .int (zi k)], [.int (zi (-1))], M)) rfl ?_
    exact am_xr (some (.int (zi (-1)))) ⟨rfl, rfl, .int, rfl, rfl⟩ hv
  · replace hv := hv.2 h
    refine am_xrd 3 2 1 (pc := 9) (ls := [.ref 2, .int (zi k)]) (st := [.int (zi k)]) rfl ?_
    refine am_xn 1 (c1 := (if zi k < zi (iv M 2 1) then 12 else 30, [.ref 2, .int (zi k)], [], M)) rfl (am_xlt r1 (iv_r _ _ _) (fun h => ?_) (fun h => ?_))
    · replace hv := hv.1 h
      refine am_xn 5 (c1 := (if zi k < zi 120 then 21 else 30, [.ref 2, .int (zi k)], [], M)) rfl (am_xlt r1 (by decide) (fun h => ?_) (fun h => ?_))
      · replace hv := hv.1 h
        obtain ⟨r2, hv⟩ := hv
        refine am_xn 3 (c1 := (26, [.ref 2, .int (zi k)], [.int (zi k), .ref 3], M)) rfl ?_
        refine am_xald rfl rfl rfl r2 ?_
        refine am_xn 0 (c1 := (27, [.ref 2, .int (zi k)], [.int (zi (iv M 3 k))], M)) rfl ?_
        refine am_xn 1 (c1 := (31, [.ref 2, .int (zi k)], [.int (zi (iv M 3 k))], M)) rfl ?_
        exact am_xr (some (.int (zi (iv M 3 k)))) ⟨rfl, rfl, .int, rfl, rfl⟩ hv
      · replace hv := hv.2 h
        refine am_xn 1 (c1 := (31, [.ref 2, .int (zi k)], [.int (zi (-1))], M)) rfl ?_
        exact am_xr (some (.int (zi (-1)))) ⟨rfl, rfl, .int, rfl, rfl⟩ hv
    · replace hv := hv.2 h
      refine am_xn 1 (c1 := (31, [.ref 2, .int (zi k)], [.int (zi (-1))], M)) rfl ?_
      exact am_xr (some (.int (zi (-1)))) ⟨rfl, rfl, .int, rfl, rfl⟩ hv
