/-! digest: what is mixed; the class -/
def wz (x : Int) : Int := (zi x).toInt
theorem wz_r (x : Int) : zr (wz x) := zr_toInt _
theorem zi_wz (x : Int) : zi (wz x) = zi x := zi_of _
theorem wz_e {x : Int} (h : zr x) : wz x = x := zi_toInt h
def fdN (F : Int → Int → Int) (h : Int) : Nat → Int
  | 0 => h
  | n + 1 => F n (fdN F h n)
def fdI (F : Int → Int → Int) (n h : Int) : Int := fdN F h n.toNat
theorem fdI_s (F : Int → Int → Int) {n : Int} (h0 : 0 ≤ n) (h : Int) : fdI F (n + 1) h = F n (fdI F n h) := by
  unfold fdI
  rw [show (n + 1).toNat = n.toNat + 1 by omega, fdN, show ((n.toNat : Nat) : Int) = n by omega]
def hX (f : Int → Int) (n h : Int) : Int := fdI (fun i h => 31 * h + wz (f i)) n h
theorem hX_s (f : Int → Int) {n : Int} (h0 : 0 ≤ n) (h : Int) : hX f (n + 1) h = 31 * hX f n h + wz (f n) := fdI_s _ h0 h
noncomputable def hOp (b : Int → Int) (x h : Int) : Int := hX (fun k => pt b x (6 + k)) (pt b x 5) (hX (tdv b x) 9 h)
noncomputable def hAm (b : Int → Int) (a h : Int) : Int := fdI (fun i h => hOp b (fo b a + i) h) (b (41 + a)) (hX (amdv b a) 4 h)
def hCl (L : Lw) (c h : Int) : Int := hX (tw L c) (L.len c) (hX (abt L c) 4 h)
noncomputable def hLw (L : Lw) (h : Int) : Int := fdI (fun i h => hCl L (atx L i) h) (frc L 40) h
noncomputable def dgst (b p s q t : Int → Int) : Int := hX t (p 17) (hX q (p 23) (hX (tlv b) 7 (hLw (lw b 9999 (-1)) (fdI (hAm b) (b 0) (hX (cntv b p s) 9 311)))))
set_option maxRecDepth 100000 in
theorem vc_mixed (h : Int) (n : Int) (M : am_M) (Q : Option Value → am_M → Prop) (hv : (zr n) ∧ (Q (some (.long (zl ((31 * h) + n)))) M)) : am_x t_SB_mixed (0, am_ent (am_mL t_SB_mixed) [.long (zl h), .int (zi n)], [], M) Q := by
  refine am_xn 0 (c1 := (0, [.long (zl h), .null, .int (zi n)], [], M)) rfl ?_
  refine am_xlmul 3 31 h (pc := 5) (ls := [.long (zl h), .null, .int (zi n)]) (st := []) rfl ?_
  obtain ⟨r1, hv⟩ := hv
  refine am_xi2l 2 n r1 (pc := 7) (ls := [.long (zl h), .null, .int (zi n)]) (st := [.long (zl (31 * h))]) rfl ?_
  refine am_xladd 1 (31 * h) n (pc := 8) (ls := [.long (zl h), .null, .int (zi n)]) (st := []) rfl ?_
  exact am_xr (some (.long (zl ((31 * h) + n)))) ⟨rfl, rfl, rfl⟩ hv
theorem sp_mixed (M : am_M) (h : Int) (n : Int) (g : zr n) : am_call t_SB_mixed [.long (zl h), .int (zi n)] M (some (.long (zl (31 * h + n)))) M := by
  exact am_call_of ⟨Nat.le_of_ble_eq_true rfl, rfl⟩ (vc_mixed h n M _ ⟨g, rfl, rfl⟩)
set_option maxRecDepth 100000 in
theorem vc_mixedAmendment (h : Int) (a : Int) (M : am_M) (Q : Option Value → am_M → Prop) (hv : am_x t_SB_mixedAmendment (6, [.ref 0, .null, .null, .int (zi a), .long (zl h), .null, .int (zi 0), .null], [], M) Q) : am_x t_SB_mixedAmendment (0, am_ent (am_mL t_SB_mixedAmendment) [.ref 0, .long (zl h), .int (zi a)], [], M) Q := by
  refine am_xn 0 (c1 := (0, [.ref 0, .long (zl h), .null, .int (zi a), .null, .null, .null, .null], [], M)) rfl ?_
  refine am_xn 4 (c1 := (6, [.ref 0, .long (zl h), .null, .int (zi a), .long (zl h), .null, .int (zi 0), .null], [], M)) rfl ?_
  refine am_xf 1 ?_
  exact hv
set_option maxRecDepth 100000 in
theorem vc_mixedAmendment_6 (x3 : Int) (x4 : Int) (x6 : Int) (M : am_M) (Q : Option Value → am_M → Prop) (hv : (zr x6) ∧ ((3 < x6 → (0 ≤ x3 ∧ x3 ≤ 20) ∧ (am_x t_SB_mixedAmendment (42, [.ref 0, .null, .null, .int (zi x3), .long (zl x4), .null, .int (zi (iv M 11 (24 + x3))), .null], [], M) Q)) ∧ (x6 ≤ 3 → ∃ (r3 : Int) (M2 : am_M), am_call t_SB_amendmentPart [.ref 0, .int (zi x3), .int (zi x6)] M (some (.int (zi r3))) M2 ∧ ((zr r3) ∧ (am_x t_SB_mixedAmendment (6, [.ref 0, .null, .null, .int (zi x3), .long (zl (31 * x4 + r3)), .null, .int (zi (x6 + 1)), .null], [], M2) Q))))) : am_x t_SB_mixedAmendment (6, [.ref 0, .null, .null, .int (zi x3), .long (zl x4), .null, .int (zi x6), .null], [], M) Q := by
  obtain ⟨r1, hv⟩ := hv
  refine am_xn 3 (c1 := (if zi 3 < zi x6 then 32 else 12, [.ref 0, .null, .null, .int (zi x3), .long (zl x4), .null, .int (zi x6), .null], [], M)) rfl (am_xlt (by decide) r1 (fun h => ?_) (fun h => ?_))
  · replace hv := hv.1 h
    refine am_xn 3 (c1 := (37, [.ref 0, .null, .null, .int (zi x3), .long (zl x4), .null, .int (zi x6), .null], [.int (zi x3), .ref 9], M)) rfl ?_
    obtain ⟨g, hv⟩ := hv
    refine am_xc t_Amd_start (.invokevirtual 138) 138 (av := [.ref 9, .int (zi x3)]) (rest := []) (rv := some (.int (zi (iv M 11 (24 + x3))))) (M' := M) rfl rfl rfl rfl (Nat.le_of_ble_eq_true rfl) (fun _ => rfl) (sp_c_start M x3 g) ?_
    refine am_xn 0 (c1 := (40, [.ref 0, .null, .null, .int (zi x3), .long (zl x4), .null, .int (zi x6), .null], [.int (zi (iv M 11 (24 + x3)))], M)) rfl ?_
    refine am_xn 1 (c1 := (42, [.ref 0, .null, .null, .int (zi x3), .long (zl x4), .null, .int (zi (iv M 11 (24 + x3))), .null], [], M)) rfl ?_
    exact hv
  · replace hv := hv.2 h
    refine am_xn 4 (c1 := (18, [.ref 0, .null, .null, .int (zi x3), .long (zl x4), .null, .int (zi x6), .null], [.int (zi x6), .int (zi x3), .ref 0, .long (zl x4)], M)) rfl ?_
    obtain ⟨r3, M2, hc, hv⟩ := hv
    refine am_xc t_SB_amendmentPart (.invokevirtual 131) 131 (av := [.ref 0, .int (zi x3), .int (zi x6)]) (rest := [.long (zl x4)]) (rv := some (.int (zi r3))) (M' := M2) rfl rfl rfl rfl (Nat.le_of_ble_eq_true rfl) (fun _ => rfl) (hc) ?_
    refine am_xn 0 (c1 := (21, [.ref 0, .null, .null, .int (zi x3), .long (zl x4), .null, .int (zi x6), .null], [.int (zi r3), .long (zl x4)], M2)) rfl ?_
    obtain ⟨g, hv⟩ := hv
    refine am_xc t_SB_mixed (.invokestatic 317) 317 (av := [.long (zl x4), .int (zi r3)]) (rest := []) (rv := some (.long (zl (31 * x4 + r3)))) (M' := M2) rfl rfl rfl rfl (Nat.le_of_ble_eq_true rfl) (fun h => nomatch h) (sp_mixed M2 x4 r3 g) ?_
    refine am_xn 0 (c1 := (24, [.ref 0, .null, .null, .int (zi x3), .long (zl x4), .null, .int (zi x6), .null], [.long (zl (31 * x4 + r3))], M2)) rfl ?_
    refine am_xn 2 (c1 := (29, [.ref 0, .null, .null, .int (zi x3), .long (zl (31 * x4 + r3)), .null, .int (zi x6 + zi 1), .null], [], M2)) rfl ?_
    rw [zi_add]
    refine am_xn 1 (c1 := (6, [.ref 0, .null, .null, .int (zi x3), .long (zl (31 * x4 + r3)), .null, .int (zi (x6 + 1)), .null], [], M2)) rfl ?_
    exact hv
set_option maxRecDepth 100000 in
theorem vc_mixedAmendment_42 (x3 : Int) (x4 : Int) (x6 : Int) (M : am_M) (Q : Option Value → am_M → Prop) (hv : (0 ≤ (x3 + 1) ∧ (x3 + 1) ≤ 20) ∧ ((zr x6) ∧ ((x6 < (iv M 11 (24 + (x3 + 1))) → am_x t_SB_mixedAmendment (60, [.ref 0, .null, .null, .int (zi x3), .long (zl x4), .null, .int (zi x6), .int (zi 0)], [], M) Q) ∧ ((iv M 11 (24 + (x3 + 1))) ≤ x6 → Q (some (.long (zl x4))) M)))) : am_x t_SB_mixedAmendment (42, [.ref 0, .null, .null, .int (zi x3), .long (zl x4), .null, .int (zi x6), .null], [], M) Q := by
  refine am_xiadd 6 x3 1 (pc := 51) (ls := [.ref 0, .null, .null, .int (zi x3), .long (zl x4), .null, .int (zi x6), .null]) (st := [.ref 9, .int (zi x6)]) rfl ?_
  obtain ⟨g, hv⟩ := hv
  refine am_xc t_Amd_start (.invokevirtual 138) 138 (av := [.ref 9, .int (zi (x3 + 1))]) (rest := [.int (zi x6)]) (rv := some (.int (zi (iv M 11 (24 + (x3 + 1)))))) (M' := M) rfl rfl rfl rfl (Nat.le_of_ble_eq_true rfl) (fun _ => rfl) (sp_c_start M (x3 + 1) g) ?_
  refine am_xn 0 (c1 := (54, [.ref 0, .null, .null, .int (zi x3), .long (zl x4), .null, .int (zi x6), .null], [.int (zi (iv M 11 (24 + (x3 + 1)))), .int (zi x6)], M)) rfl ?_
  obtain ⟨r1, hv⟩ := hv
  refine am_xn 1 (c1 := (if zi x6 < zi (iv M 11 (24 + (x3 + 1))) then 57 else 139, [.ref 0, .null, .null, .int (zi x3), .long (zl x4), .null, .int (zi x6), .null], [], M)) rfl (am_xlt r1 (iv_r _ _ _) (fun h => ?_) (fun h => ?_))
  · replace hv := hv.1 h
    refine am_xn 2 (c1 := (60, [.ref 0, .null, .null, .int (zi x3), .long (zl x4), .null, .int (zi x6), .int (zi 0)], [], M)) rfl ?_
    exact hv
  · replace hv := hv.2 h
    refine am_xn 1 (c1 := (141, [.ref 0, .null, .null, .int (zi x3), .long (zl x4), .null, .int (zi x6), .null], [.long (zl x4)], M)) rfl ?_
    exact am_xr (some (.long (zl x4))) ⟨rfl, rfl, rfl⟩ hv
set_option maxRecDepth 100000 in
theorem vc_mixedAmendment_60 (x3 : Int) (x4 : Int) (x6 : Int) (x7 : Int) (M : am_M) (Q : Option Value → am_M → Prop) (hv : (zr x7) ∧ ((8 < x7 → am_x t_SB_mixedAmendment (91, [.ref 0, .null, .null, .int (zi x3), .long (zl x4), .null, .int (zi x6), .int (zi 0)], [], M) Q) ∧ (x7 ≤ 8 → ∃ (r3 : Int) (M2 : am_M), am_call t_SB_operationPart [.ref 0, .int (zi x6), .int (zi x7)] M (some (.int (zi r3))) M2 ∧ ((zr r3) ∧ (am_x t_SB_mixedAmendment (60, [.ref 0, .null, .null, .int (zi x3), .long (zl (31 * x4 + r3)), .null, .int (zi x6), .int (zi (x7 + 1))], [], M2) Q))))) : am_x t_SB_mixedAmendment (60, [.ref 0, .null, .null, .int (zi x3), .long (zl x4), .null, .int (zi x6), .int (zi x7)], [], M) Q := by
  obtain ⟨r1, hv⟩ := hv
  refine am_xn 3 (c1 := (if zi 8 < zi x7 then 88 else 67, [.ref 0, .null, .null, .int (zi x3), .long (zl x4), .null, .int (zi x6), .int (zi x7)], [], M)) rfl (am_xlt (by decide) r1 (fun h => ?_) (fun h => ?_))
  · replace hv := hv.1 h
    refine am_xn 2 (c1 := (91, [.ref 0, .null, .null, .int (zi x3), .long (zl x4), .null, .int (zi x6), .int (zi 0)], [], M)) rfl ?_
    exact hv
  · replace hv := hv.2 h
    refine am_xn 4 (c1 := (74, [.ref 0, .null, .null, .int (zi x3), .long (zl x4), .null, .int (zi x6), .int (zi x7)], [.int (zi x7), .int (zi x6), .ref 0, .long (zl x4)], M)) rfl ?_
    obtain ⟨r3, M2, hc, hv⟩ := hv
    refine am_xc t_SB_operationPart (.invokevirtual 147) 147 (av := [.ref 0, .int (zi x6), .int (zi x7)]) (rest := [.long (zl x4)]) (rv := some (.int (zi r3))) (M' := M2) rfl rfl rfl rfl (Nat.le_of_ble_eq_true rfl) (fun _ => rfl) (hc) ?_
    refine am_xn 0 (c1 := (77, [.ref 0, .null, .null, .int (zi x3), .long (zl x4), .null, .int (zi x6), .int (zi x7)], [.int (zi r3), .long (zl x4)], M2)) rfl ?_
    obtain ⟨g, hv⟩ := hv
    refine am_xc t_SB_mixed (.invokestatic 317) 317 (av := [.long (zl x4), .int (zi r3)]) (rest := []) (rv := some (.long (zl (31 * x4 + r3)))) (M' := M2) rfl rfl rfl rfl (Nat.le_of_ble_eq_true rfl) (fun h => nomatch h) (sp_mixed M2 x4 r3 g) ?_
    refine am_xn 0 (c1 := (80, [.ref 0, .null, .null, .int (zi x3), .long (zl x4), .null, .int (zi x6), .int (zi x7)], [.long (zl (31 * x4 + r3))], M2)) rfl ?_
    refine am_xn 2 (c1 := (85, [.ref 0, .null, .null, .int (zi x3), .long (zl (31 * x4 + r3)), .null, .int (zi x6), .int (zi x7 + zi 1)], [], M2)) rfl ?_
    rw [zi_add]
    refine am_xn 1 (c1 := (60, [.ref 0, .null, .null, .int (zi x3), .long (zl (31 * x4 + r3)), .null, .int (zi x6), .int (zi (x7 + 1))], [], M2)) rfl ?_
    exact hv
set_option maxRecDepth 100000 in
theorem vc_mixedAmendment_91 (x3 : Int) (x4 : Int) (x6 : Int) (x7 : Int) (M : am_M) (Q : Option Value → am_M → Prop) (hv : (0 ≤ x6 ∧ x6 < 120 ∧ 0 ≤ (5 : Int) ∧ (5 : Int) < 13) ∧ ((zr x7) ∧ ((x7 < (cpt (iv M 11) x6 5) → (0 ≤ x6 ∧ x6 < 120 ∧ 0 ≤ (7 + x7) ∧ (7 + x7) < 13) ∧ ((zr (cpt (iv M 11) x6 (7 + x7))) ∧ (am_x t_SB_mixedAmendment (91, [.ref 0, .null, .null, .int (zi x3), .long (zl (31 * x4 + (cpt (iv M 11) x6 (7 + x7)))), .null, .int (zi x6), .int (zi (x7 + 1))], [], M) Q))) ∧ ((cpt (iv M 11) x6 5) ≤ x7 → am_x t_SB_mixedAmendment (42, [.ref 0, .null, .null, .int (zi x3), .long (zl x4), .null, .int (zi (x6 + 1)), .null], [], M) Q)))) : am_x t_SB_mixedAmendment (91, [.ref 0, .null, .null, .int (zi x3), .long (zl x4), .null, .int (zi x6), .int (zi x7)], [], M) Q := by
  refine am_xn 5 (c1 := (100, [.ref 0, .null, .null, .int (zi x3), .long (zl x4), .null, .int (zi x6), .int (zi x7)], [.int (zi 5), .int (zi x6), .ref 9, .int (zi x7)], M)) rfl ?_
  obtain ⟨g, hv⟩ := hv
  refine am_xc t_Amd_cell (.invokevirtual 156) 156 (av := [.ref 9, .int (zi x6), .int (zi 5)]) (rest := [.int (zi x7)]) (rv := some (.int (zi (cpt (iv M 11) x6 5)))) (M' := M) rfl rfl rfl rfl (Nat.le_of_ble_eq_true rfl) (fun _ => rfl) (sp_c_cell M x6 5 g) ?_
  refine am_xn 0 (c1 := (103, [.ref 0, .null, .null, .int (zi x3), .long (zl x4), .null, .int (zi x6), .int (zi x7)], [.int (zi (cpt (iv M 11) x6 5)), .int (zi x7)], M)) rfl ?_
  obtain ⟨r1, hv⟩ := hv
  refine am_xn 1 (c1 := (if zi x7 < zi (cpt (iv M 11) x6 5) then 106 else 133, [.ref 0, .null, .null, .int (zi x3), .long (zl x4), .null, .int (zi x6), .int (zi x7)], [], M)) rfl (am_xlt r1 (iv_r _ 11 _) (fun h => ?_) (fun h => ?_))
  · replace hv := hv.1 h
    refine am_xiadd 7 7 x7 (pc := 119) (ls := [.ref 0, .null, .null, .int (zi x3), .long (zl x4), .null, .int (zi x6), .int (zi x7)]) (st := [.int (zi x6), .ref 9, .long (zl x4)]) rfl ?_
    obtain ⟨g, hv⟩ := hv
    refine am_xc t_Amd_cell (.invokevirtual 156) 156 (av := [.ref 9, .int (zi x6), .int (zi (7 + x7))]) (rest := [.long (zl x4)]) (rv := some (.int (zi (cpt (iv M 11) x6 (7 + x7))))) (M' := M) rfl rfl rfl rfl (Nat.le_of_ble_eq_true rfl) (fun _ => rfl) (sp_c_cell M x6 (7 + x7) g) ?_
    refine am_xn 0 (c1 := (122, [.ref 0, .null, .null, .int (zi x3), .long (zl x4), .null, .int (zi x6), .int (zi x7)], [.int (zi (cpt (iv M 11) x6 (7 + x7))), .long (zl x4)], M)) rfl ?_
    obtain ⟨g, hv⟩ := hv
    refine am_xc t_SB_mixed (.invokestatic 317) 317 (av := [.long (zl x4), .int (zi (cpt (iv M 11) x6 (7 + x7)))]) (rest := []) (rv := some (.long (zl (31 * x4 + (cpt (iv M 11) x6 (7 + x7)))))) (M' := M) rfl rfl rfl rfl (Nat.le_of_ble_eq_true rfl) (fun h => nomatch h) (sp_mixed M x4 (cpt (iv M 11) x6 (7 + x7)) g) ?_
    refine am_xn 0 (c1 := (125, [.ref 0, .null, .null, .int (zi x3), .long (zl x4), .null, .int (zi x6), .int (zi x7)], [.long (zl (31 * x4 + (cpt (iv M 11) x6 (7 + x7))))], M)) rfl ?_
    refine am_xn 2 (c1 := (130, [.ref 0, .null, .null, .int (zi x3), .long (zl (31 * x4 + (cpt (iv M 11) x6 (7 + x7)))), .null, .int (zi x6), .int (zi x7 + zi 1)], [], M)) rfl ?_
    rw [zi_add]
    refine am_xn 1 (c1 := (91, [.ref 0, .null, .null, .int (zi x3), .long (zl (31 * x4 + (cpt (iv M 11) x6 (7 + x7)))), .null, .int (zi x6), .int (zi (x7 + 1))], [], M)) rfl ?_
    exact hv
  · replace hv := hv.2 h
    refine am_xn 1 (c1 := (136, [.ref 0, .null, .null, .int (zi x3), .long (zl x4), .null, .int (zi x6 + zi 1), .int (zi x7)], [], M)) rfl ?_
    rw [zi_add]
    refine am_xn 1 (c1 := (42, [.ref 0, .null, .null, .int (zi x3), .long (zl x4), .null, .int (zi (x6 + 1)), .int (zi x7)], [], M)) rfl ?_
    refine am_xf 7 ?_
    exact hv
set_option maxRecDepth 100000 in
theorem vc_mixedClause (h : Int) (c : Int) (M : am_M) (Q : Option Value → am_M → Prop) (hv : am_x t_SB_mixedClause (6, [.ref 0, .null, .null, .int (zi c), .long (zl h), .null, .int (zi 0)], [], M) Q) : am_x t_SB_mixedClause (0, am_ent (am_mL t_SB_mixedClause) [.ref 0, .long (zl h), .int (zi c)], [], M) Q := by
  refine am_xn 0 (c1 := (0, [.ref 0, .long (zl h), .null, .int (zi c), .null, .null, .null], [], M)) rfl ?_
  refine am_xn 4 (c1 := (6, [.ref 0, .long (zl h), .null, .int (zi c), .long (zl h), .null, .int (zi 0)], [], M)) rfl ?_
  refine am_xf 1 ?_
  exact hv
set_option maxRecDepth 100000 in
theorem vc_mixedClause_6 (x3 : Int) (x4 : Int) (x6 : Int) (M : am_M) (Q : Option Value → am_M → Prop) (hv : (zr x6) ∧ ((3 < x6 → am_x t_SB_mixedClause (35, [.ref 0, .null, .null, .int (zi x3), .long (zl x4), .null, .int (zi 0)], [], M) Q) ∧ (x6 ≤ 3 → ∃ (r3 : Int) (M2 : am_M), am_call t_SB_clausePart [.ref 0, .int (zi x3), .int (zi x6)] M (some (.int (zi r3))) M2 ∧ ((zr r3) ∧ (am_x t_SB_mixedClause (6, [.ref 0, .null, .null, .int (zi x3), .long (zl (31 * x4 + r3)), .null, .int (zi (x6 + 1))], [], M2) Q))))) : am_x t_SB_mixedClause (6, [.ref 0, .null, .null, .int (zi x3), .long (zl x4), .null, .int (zi x6)], [], M) Q := by
  obtain ⟨r1, hv⟩ := hv
  refine am_xn 3 (c1 := (if zi 3 < zi x6 then 32 else 12, [.ref 0, .null, .null, .int (zi x3), .long (zl x4), .null, .int (zi x6)], [], M)) rfl (am_xlt (by decide) r1 (fun h => ?_) (fun h => ?_))
  · replace hv := hv.1 h
    refine am_xn 2 (c1 := (35, [.ref 0, .null, .null, .int (zi x3), .long (zl x4), .null, .int (zi 0)], [], M)) rfl ?_
    exact hv
  · replace hv := hv.2 h
    refine am_xn 4 (c1 := (18, [.ref 0, .null, .null, .int (zi x3), .long (zl x4), .null, .int (zi x6)], [.int (zi x6), .int (zi x3), .ref 0, .long (zl x4)], M)) rfl ?_
    obtain ⟨r3, M2, hc, hv⟩ := hv
    refine am_xc t_SB_clausePart (.invokevirtual 169) 169 (av := [.ref 0, .int (zi x3), .int (zi x6)]) (rest := [.long (zl x4)]) (rv := some (.int (zi r3))) (M' := M2) rfl rfl rfl rfl (Nat.le_of_ble_eq_true rfl) (fun _ => rfl) (hc) ?_
    refine am_xn 0 (c1 := (21, [.ref 0, .null, .null, .int (zi x3), .long (zl x4), .null, .int (zi x6)], [.int (zi r3), .long (zl x4)], M2)) rfl ?_
    obtain ⟨g, hv⟩ := hv
    refine am_xc t_SB_mixed (.invokestatic 317) 317 (av := [.long (zl x4), .int (zi r3)]) (rest := []) (rv := some (.long (zl (31 * x4 + r3)))) (M' := M2) rfl rfl rfl rfl (Nat.le_of_ble_eq_true rfl) (fun h => nomatch h) (sp_mixed M2 x4 r3 g) ?_
    refine am_xn 0 (c1 := (24, [.ref 0, .null, .null, .int (zi x3), .long (zl x4), .null, .int (zi x6)], [.long (zl (31 * x4 + r3))], M2)) rfl ?_
    refine am_xn 2 (c1 := (29, [.ref 0, .null, .null, .int (zi x3), .long (zl (31 * x4 + r3)), .null, .int (zi x6 + zi 1)], [], M2)) rfl ?_
    rw [zi_add]
    refine am_xn 1 (c1 := (6, [.ref 0, .null, .null, .int (zi x3), .long (zl (31 * x4 + r3)), .null, .int (zi (x6 + 1))], [], M2)) rfl ?_
    exact hv
set_option maxRecDepth 100000 in
theorem vc_mixedClause_35 (x3 : Int) (x4 : Int) (x6 : Int) (M : am_M) (Q : Option Value → am_M → Prop) (hv : (0 ≤ x3 ∧ x3 < 40) ∧ ((zr x6) ∧ ((x6 < (iv M 21 x3) → ∃ (r3 : Int) (M2 : am_M), am_call t_SB_presentWord [.ref 0, .int (zi x3), .int (zi x6)] M (some (.int (zi r3))) M2 ∧ ((zr r3) ∧ (am_x t_SB_mixedClause (35, [.ref 0, .null, .null, .int (zi x3), .long (zl (31 * x4 + r3)), .null, .int (zi (x6 + 1))], [], M2) Q))) ∧ ((iv M 21 x3) ≤ x6 → Q (some (.long (zl x4))) M)))) : am_x t_SB_mixedClause (35, [.ref 0, .null, .null, .int (zi x3), .long (zl x4), .null, .int (zi x6)], [], M) Q := by
  refine am_xn 4 (c1 := (42, [.ref 0, .null, .null, .int (zi x3), .long (zl x4), .null, .int (zi x6)], [.int (zi x3), .ref 15, .int (zi x6)], M)) rfl ?_
  obtain ⟨g, hv⟩ := hv
  refine am_xc t_Law_length (.invokevirtual 175) 175 (av := [.ref 15, .int (zi x3)]) (rest := [.int (zi x6)]) (rv := some (.int (zi (iv M 21 x3)))) (M' := M) rfl rfl rfl rfl (Nat.le_of_ble_eq_true rfl) (fun _ => rfl) (sp_l15_length M x3 g) ?_
  refine am_xn 0 (c1 := (45, [.ref 0, .null, .null, .int (zi x3), .long (zl x4), .null, .int (zi x6)], [.int (zi (iv M 21 x3)), .int (zi x6)], M)) rfl ?_
  obtain ⟨r1, hv⟩ := hv
  refine am_xn 1 (c1 := (if zi x6 < zi (iv M 21 x3) then 48 else 68, [.ref 0, .null, .null, .int (zi x3), .long (zl x4), .null, .int (zi x6)], [], M)) rfl (am_xlt r1 (iv_r _ _ _) (fun h => ?_) (fun h => ?_))
  · replace hv := hv.1 h
    refine am_xn 4 (c1 := (54, [.ref 0, .null, .null, .int (zi x3), .long (zl x4), .null, .int (zi x6)], [.int (zi x6), .int (zi x3), .ref 0, .long (zl x4)], M)) rfl ?_
    obtain ⟨r3, M2, hc, hv⟩ := hv
    refine am_xc t_SB_presentWord (.invokevirtual 181) 181 (av := [.ref 0, .int (zi x3), .int (zi x6)]) (rest := [.long (zl x4)]) (rv := some (.int (zi r3))) (M' := M2) rfl rfl rfl rfl (Nat.le_of_ble_eq_true rfl) (fun _ => rfl) (hc) ?_
    refine am_xn 0 (c1 := (57, [.ref 0, .null, .null, .int (zi x3), .long (zl x4), .null, .int (zi x6)], [.int (zi r3), .long (zl x4)], M2)) rfl ?_
    obtain ⟨g, hv⟩ := hv
    refine am_xc t_SB_mixed (.invokestatic 317) 317 (av := [.long (zl x4), .int (zi r3)]) (rest := []) (rv := some (.long (zl (31 * x4 + r3)))) (M' := M2) rfl rfl rfl rfl (Nat.le_of_ble_eq_true rfl) (fun h => nomatch h) (sp_mixed M2 x4 r3 g) ?_
    refine am_xn 0 (c1 := (60, [.ref 0, .null, .null, .int (zi x3), .long (zl x4), .null, .int (zi x6)], [.long (zl (31 * x4 + r3))], M2)) rfl ?_
    refine am_xn 2 (c1 := (65, [.ref 0, .null, .null, .int (zi x3), .long (zl (31 * x4 + r3)), .null, .int (zi x6 + zi 1)], [], M2)) rfl ?_
    rw [zi_add]
    refine am_xn 1 (c1 := (35, [.ref 0, .null, .null, .int (zi x3), .long (zl (31 * x4 + r3)), .null, .int (zi (x6 + 1))], [], M2)) rfl ?_
    exact hv
  · replace hv := hv.2 h
    refine am_xn 1 (c1 := (70, [.ref 0, .null, .null, .int (zi x3), .long (zl x4), .null, .int (zi x6)], [.long (zl x4)], M)) rfl ?_
    exact am_xr (some (.long (zl x4))) ⟨rfl, rfl, rfl⟩ hv
set_option maxRecDepth 100000 in
theorem vc_mixedPage7 (h : Int) (M : am_M) (Q : Option Value → am_M → Prop) (hv : am_x t_SB_mixedPage (5, [.null, .null, .ref 7, .long (zl h), .null, .int (zi 0)], [], M) Q) : am_x t_SB_mixedPage (0, am_ent (am_mL t_SB_mixedPage) [.long (zl h), .ref 7], [], M) Q := by
  refine am_xn 0 (c1 := (0, [.long (zl h), .null, .ref 7, .null, .null, .null], [], M)) rfl ?_
  refine am_xn 4 (c1 := (5, [.long (zl h), .null, .ref 7, .long (zl h), .null, .int (zi 0)], [], M)) rfl ?_
  refine am_xf 0 ?_
  exact hv
set_option maxRecDepth 100000 in
theorem vc_mixedPage7_5 (x3 : Int) (x5 : Int) (M : am_M) (Q : Option Value → am_M → Prop) (hv : ∃ (r2 : Int) (M1 : am_M), am_call t_Pag_kept [.ref 7] M (some (.int (zi r2))) M1 ∧ ((zr x5) ∧ ((zr r2) ∧ ((x5 < r2 → ∃ (r6 : Int) (M5 : am_M), am_call t_Pag_byteAt [.ref 7, .int (zi x5)] M1 (some (.int (zi r6))) M5 ∧ ((zr r6) ∧ (am_x t_SB_mixedPage (5, [.null, .null, .ref 7, .long (zl (31 * x3 + r6)), .null, .int (zi (x5 + 1))], [], M5) Q))) ∧ (r2 ≤ x5 → Q (some (.long (zl x3))) M1))))) : am_x t_SB_mixedPage (5, [.null, .null, .ref 7, .long (zl x3), .null, .int (zi x5)], [], M) Q := by
  refine am_xn 2 (c1 := (8, [.null, .null, .ref 7, .long (zl x3), .null, .int (zi x5)], [.ref 7, .int (zi x5)], M)) rfl ?_
  obtain ⟨r2, M1, hc, hv⟩ := hv
  refine am_xc t_Pag_kept (.invokevirtual 63) 63 (av := [.ref 7]) (rest := [.int (zi x5)]) (rv := some (.int (zi r2))) (M' := M1) rfl rfl rfl rfl (Nat.le_of_ble_eq_true rfl) (fun _ => rfl) (hc) ?_
  refine am_xn 0 (c1 := (11, [.null, .null, .ref 7, .long (zl x3), .null, .int (zi x5)], [.int (zi r2), .int (zi x5)], M1)) rfl ?_
  obtain ⟨r3, hv⟩ := hv
  obtain ⟨r4, hv⟩ := hv
  refine am_xn 1 (c1 := (if zi x5 < zi r2 then 14 else 31, [.null, .null, .ref 7, .long (zl x3), .null, .int (zi x5)], [], M1)) rfl (am_xlt r3 r4 (fun h => ?_) (fun h => ?_))
  · replace hv := hv.1 h
    refine am_xn 3 (c1 := (18, [.null, .null, .ref 7, .long (zl x3), .null, .int (zi x5)], [.int (zi x5), .ref 7, .long (zl x3)], M1)) rfl ?_
    obtain ⟨r6, M5, hc, hv⟩ := hv
    refine am_xc t_Pag_byteAt (.invokevirtual 205) 205 (av := [.ref 7, .int (zi x5)]) (rest := [.long (zl x3)]) (rv := some (.int (zi r6))) (M' := M5) rfl rfl rfl rfl (Nat.le_of_ble_eq_true rfl) (fun _ => rfl) (hc) ?_
    refine am_xn 0 (c1 := (21, [.null, .null, .ref 7, .long (zl x3), .null, .int (zi x5)], [.int (zi r6), .long (zl x3)], M5)) rfl ?_
    obtain ⟨g, hv⟩ := hv
    refine am_xc t_SB_mixed (.invokestatic 317) 317 (av := [.long (zl x3), .int (zi r6)]) (rest := []) (rv := some (.long (zl (31 * x3 + r6)))) (M' := M5) rfl rfl rfl rfl (Nat.le_of_ble_eq_true rfl) (fun h => nomatch h) (sp_mixed M5 x3 r6 g) ?_
    refine am_xn 0 (c1 := (24, [.null, .null, .ref 7, .long (zl x3), .null, .int (zi x5)], [.long (zl (31 * x3 + r6))], M5)) rfl ?_
    refine am_xn 2 (c1 := (28, [.null, .null, .ref 7, .long (zl (31 * x3 + r6)), .null, .int (zi x5 + zi 1)], [], M5)) rfl ?_
    rw [zi_add]
    refine am_xn 1 (c1 := (5, [.null, .null, .ref 7, .long (zl (31 * x3 + r6)), .null, .int (zi (x5 + 1))], [], M5)) rfl ?_
    exact hv
  · replace hv := hv.2 h
    refine am_xn 1 (c1 := (32, [.null, .null, .ref 7, .long (zl x3), .null, .int (zi x5)], [.long (zl x3)], M1)) rfl ?_
    exact am_xr (some (.long (zl x3))) ⟨rfl, rfl, rfl⟩ hv
set_option maxRecDepth 100000 in
theorem vc_mixedPage2 (h : Int) (M : am_M) (Q : Option Value → am_M → Prop) (hv : am_x t_SB_mixedPage (5, [.null, .null, .ref 2, .long (zl h), .null, .int (zi 0)], [], M) Q) : am_x t_SB_mixedPage (0, am_ent (am_mL t_SB_mixedPage) [.long (zl h), .ref 2], [], M) Q := by
  refine am_xn 0 (c1 := (0, [.long (zl h), .null, .ref 2, .null, .null, .null], [], M)) rfl ?_
  refine am_xn 4 (c1 := (5, [.long (zl h), .null, .ref 2, .long (zl h), .null, .int (zi 0)], [], M)) rfl ?_
  refine am_xf 0 ?_
  exact hv
set_option maxRecDepth 100000 in
theorem vc_mixedPage2_5 (x3 : Int) (x5 : Int) (M : am_M) (Q : Option Value → am_M → Prop) (hv : ∃ (r2 : Int) (M1 : am_M), am_call t_Pag_kept [.ref 2] M (some (.int (zi r2))) M1 ∧ ((zr x5) ∧ ((zr r2) ∧ ((x5 < r2 → ∃ (r6 : Int) (M5 : am_M), am_call t_Pag_byteAt [.ref 2, .int (zi x5)] M1 (some (.int (zi r6))) M5 ∧ ((zr r6) ∧ (am_x t_SB_mixedPage (5, [.null, .null, .ref 2, .long (zl (31 * x3 + r6)), .null, .int (zi (x5 + 1))], [], M5) Q))) ∧ (r2 ≤ x5 → Q (some (.long (zl x3))) M1))))) : am_x t_SB_mixedPage (5, [.null, .null, .ref 2, .long (zl x3), .null, .int (zi x5)], [], M) Q := by
  refine am_xn 2 (c1 := (8, [.null, .null, .ref 2, .long (zl x3), .null, .int (zi x5)], [.ref 2, .int (zi x5)], M)) rfl ?_
  obtain ⟨r2, M1, hc, hv⟩ := hv
  refine am_xc t_Pag_kept (.invokevirtual 63) 63 (av := [.ref 2]) (rest := [.int (zi x5)]) (rv := some (.int (zi r2))) (M' := M1) rfl rfl rfl rfl (Nat.le_of_ble_eq_true rfl) (fun _ => rfl) (hc) ?_
  refine am_xn 0 (c1 := (11, [.null, .null, .ref 2, .long (zl x3), .null, .int (zi x5)], [.int (zi r2), .int (zi x5)], M1)) rfl ?_
  obtain ⟨r3, hv⟩ := hv
  obtain ⟨r4, hv⟩ := hv
  refine am_xn 1 (c1 := (if zi x5 < zi r2 then 14 else 31, [.null, .null, .ref 2, .long (zl x3), .null, .int (zi x5)], [], M1)) rfl (am_xlt r3 r4 (fun h => ?_) (fun h => ?_))
  · replace hv := hv.1 h
    refine am_xn 3 (c1 := (18, [.null, .null, .ref 2, .long (zl x3), .null, .int (zi x5)], [.int (zi x5), .ref 2, .long (zl x3)], M1)) rfl ?_
    obtain ⟨r6, M5, hc, hv⟩ := hv
    refine am_xc t_Pag_byteAt (.invokevirtual 205) 205 (av := [.ref 2, .int (zi x5)]) (rest := [.long (zl x3)]) (rv := some (.int (zi r6))) (M' := M5) rfl rfl rfl rfl (Nat.le_of_ble_eq_true rfl) (fun _ => rfl) (hc) ?_
    refine am_xn 0 (c1 := (21, [.null, .null, .ref 2, .long (zl x3), .null, .int (zi x5)], [.int (zi r6), .long (zl x3)], M5)) rfl ?_
    obtain ⟨g, hv⟩ := hv
    refine am_xc t_SB_mixed (.invokestatic 317) 317 (av := [.long (zl x3), .int (zi r6)]) (rest := []) (rv := some (.long (zl (31 * x3 + r6)))) (M' := M5) rfl rfl rfl rfl (Nat.le_of_ble_eq_true rfl) (fun h => nomatch h) (sp_mixed M5 x3 r6 g) ?_
    refine am_xn 0 (c1 := (24, [.null, .null, .ref 2, .long (zl x3), .null, .int (zi x5)], [.long (zl (31 * x3 + r6))], M5)) rfl ?_
    refine am_xn 2 (c1 := (28, [.null, .null, .ref 2, .long (zl (31 * x3 + r6)), .null, .int (zi x5 + zi 1)], [], M5)) rfl ?_
    rw [zi_add]
    refine am_xn 1 (c1 := (5, [.null, .null, .ref 2, .long (zl (31 * x3 + r6)), .null, .int (zi (x5 + 1))], [], M5)) rfl ?_
    exact hv
  · replace hv := hv.2 h
    refine am_xn 1 (c1 := (32, [.null, .null, .ref 2, .long (zl x3), .null, .int (zi x5)], [.long (zl x3)], M1)) rfl ?_
    exact am_xr (some (.long (zl x3))) ⟨rfl, rfl, rfl⟩ hv
set_option maxRecDepth 100000 in
theorem vc_p2_byteAt (k : Int) (M : am_M) (Q : Option Value → am_M → Prop) (hv : (zr k) ∧ ((k < 0 → Q (some (.int (zi (-1)))) M) ∧ (0 ≤ k → (k < (iv M 2 1) → (k < 120 → (0 ≤ k ∧ k < 120) ∧ (Q (some (.int (zi (iv M 3 k)))) M)) ∧ (120 ≤ k → Q (some (.int (zi (-1)))) M)) ∧ ((iv M 2 1) ≤ k → Q (some (.int (zi (-1)))) M)))) : am_x t_Pag_byteAt (0, am_ent (am_mL t_Pag_byteAt) [.ref 2, .int (zi k)], [], M) Q := by
  refine am_xn 0 (c1 := (0, [.ref 2, .int (zi k)], [], M)) rfl ?_
  obtain ⟨r1, hv⟩ := hv
  refine am_xn 2 (c1 := (if zi k < zi 0 then 30 else 4, [.ref 2, .int (zi k)], [], M)) rfl (am_xlt r1 (by decide) (fun h => ?_) (fun h => ?_))
  · replace hv := hv.1 h
    refine am_xn 1 (c1 := (31, [.ref 2, .int (zi k)], [.int (zi (-1))], M)) rfl ?_
    exact am_xr (some (.int (zi (-1)))) ⟨rfl, rfl, .int, rfl, rfl⟩ hv
  · replace hv := hv.2 h
    refine am_xrd 3 2 1 (pc := 9) (ls := [.ref 2, .int (zi k)]) (st := [.int (zi k)]) rfl ?_
    refine am_xn 1 (c1 := (if zi k < zi (iv M 2 1) then 12 else 30, [.ref 2, .int (zi k)], [], M)) rfl (am_xlt r1 (iv_r _ _ _) (fun h => ?_) (fun h => ?_))
    · replace hv := hv.1 h
      refine am_xn 5 (c1 := (if zi k < zi 120 then 21 else 30, [.ref 2, .int (zi k)], [], M)) rfl (am_xlt r1 (by decide) (fun h => ?_) (fun h => ?_))
      · replace hv := hv.1 h
        obtain ⟨r2, hv⟩ := hv
        refine am_xn 3 (c1 := (26, [.ref 2, .int (zi k)], [.int (zi k), .ref 3], M)) rfl ?_
        refine am_xald rfl rfl rfl r2 ?_
        refine am_xn 0 (c1 := (27, [.ref 2, .int (zi k)], [.int (zi (iv M 3 k))], M)) rfl ?_
        refine am_xn 1 (c1 := (31, [.ref 2, .int (zi k)], [.int (zi (iv M 3 k))], M)) rfl ?_
        exact am_xr (some (.int (zi (iv M 3 k)))) ⟨rfl, rfl, .int, rfl, rfl⟩ hv
      · replace hv := hv.2 h
        refine am_xn 1 (c1 := (31, [.ref 2, .int (zi k)], [.int (zi (-1))], M)) rfl ?_
        exact am_xr (some (.int (zi (-1)))) ⟨rfl, rfl, .int, rfl, rfl⟩ hv
    · replace hv := hv.2 h
      refine am_xn 1 (c1 := (31, [.ref 2, .int (zi k)], [.int (zi (-1))], M)) rfl ?_
      exact am_xr (some (.int (zi (-1)))) ⟨rfl, rfl, .int, rfl, rfl⟩ hv
set_option maxRecDepth 100000 in
theorem vc_c_digest  (M : am_M) (Q : Option Value → am_M → Prop) (hv : ∃ M1, am_call t_SB_consolidateFully [.ref 0] M none M1 ∧ (am_x t_SB_digest (10, [.ref 0, .long (zl 311), .null, .int (zi 0)], [], M1) Q)) : am_x t_SB_digest (0, am_ent (am_mL t_SB_digest) [.ref 0], [], M) Q := by
  refine am_xn 0 (c1 := (0, [.ref 0, .null, .null, .null], [], M)) rfl ?_
  refine am_xn 1 (c1 := (1, [.ref 0, .null, .null, .null], [.ref 0], M)) rfl ?_
  obtain ⟨M1, hc, hv⟩ := hv
  refine am_xc t_SB_consolidateFully (.invokevirtual 128) 128 (av := [.ref 0]) (rest := []) (rv := none) (M' := M1) rfl rfl rfl rfl (Nat.le_of_ble_eq_true rfl) (fun _ => rfl) (hc) ?_
  refine am_xn 0 (c1 := (4, [.ref 0, .null, .null, .null], [], M1)) rfl ?_
  refine am_xn 4 (c1 := (10, [.ref 0, .long (zl 311), .null, .int (zi 0)], [], M1)) rfl ?_
  exact hv
set_option maxRecDepth 100000 in
theorem vc_c_digest_10 (x1 : Int) (x3 : Int) (M : am_M) (Q : Option Value → am_M → Prop) (hv : (zr x3) ∧ ((8 < x3 → am_x t_SB_digest (34, [.ref 0, .long (zl x1), .null, .int (zi 0)], [], M) Q) ∧ (x3 ≤ 8 → ∃ (r3 : Int) (M2 : am_M), am_call t_SB_countPart [.ref 0, .int (zi x3)] M (some (.int (zi r3))) M2 ∧ ((zr r3) ∧ (am_x t_SB_digest (10, [.ref 0, .long (zl (31 * x1 + r3)), .null, .int (zi (x3 + 1))], [], M2) Q))))) : am_x t_SB_digest (10, [.ref 0, .long (zl x1), .null, .int (zi x3)], [], M) Q := by
  obtain ⟨r1, hv⟩ := hv
  refine am_xn 3 (c1 := (if zi 8 < zi x3 then 32 else 16, [.ref 0, .long (zl x1), .null, .int (zi x3)], [], M)) rfl (am_xlt (by decide) r1 (fun h => ?_) (fun h => ?_))
  · replace hv := hv.1 h
    refine am_xn 2 (c1 := (34, [.ref 0, .long (zl x1), .null, .int (zi 0)], [], M)) rfl ?_
    exact hv
  · replace hv := hv.2 h
    refine am_xn 3 (c1 := (19, [.ref 0, .long (zl x1), .null, .int (zi x3)], [.int (zi x3), .ref 0, .long (zl x1)], M)) rfl ?_
    obtain ⟨r3, M2, hc, hv⟩ := hv
    refine am_xc t_SB_countPart (.invokevirtual 301) 301 (av := [.ref 0, .int (zi x3)]) (rest := [.long (zl x1)]) (rv := some (.int (zi r3))) (M' := M2) rfl rfl rfl rfl (Nat.le_of_ble_eq_true rfl) (fun _ => rfl) (hc) ?_
    refine am_xn 0 (c1 := (22, [.ref 0, .long (zl x1), .null, .int (zi x3)], [.int (zi r3), .long (zl x1)], M2)) rfl ?_
    obtain ⟨g, hv⟩ := hv
    refine am_xc t_SB_mixed (.invokestatic 317) 317 (av := [.long (zl x1), .int (zi r3)]) (rest := []) (rv := some (.long (zl (31 * x1 + r3)))) (M' := M2) rfl rfl rfl rfl (Nat.le_of_ble_eq_true rfl) (fun h => nomatch h) (sp_mixed M2 x1 r3 g) ?_
    refine am_xn 0 (c1 := (25, [.ref 0, .long (zl x1), .null, .int (zi x3)], [.long (zl (31 * x1 + r3))], M2)) rfl ?_
    refine am_xn 2 (c1 := (29, [.ref 0, .long (zl (31 * x1 + r3)), .null, .int (zi x3 + zi 1)], [], M2)) rfl ?_
    rw [zi_add]
    refine am_xn 1 (c1 := (10, [.ref 0, .long (zl (31 * x1 + r3)), .null, .int (zi (x3 + 1))], [], M2)) rfl ?_
    exact hv
set_option maxRecDepth 100000 in
theorem vc_c_digest_34 (x1 : Int) (x3 : Int) (M : am_M) (Q : Option Value → am_M → Prop) (hv : (zr x3) ∧ ((x3 < (iv M 11 0) → ∃ (r3 : Int) (M2 : am_M), am_call t_SB_mixedAmendment [.ref 0, .long (zl x1), .int (zi x3)] M (some (.long (zl r3))) M2 ∧ (am_x t_SB_digest (34, [.ref 0, .long (zl r3), .null, .int (zi (x3 + 1))], [], M2) Q)) ∧ ((iv M 11 0) ≤ x3 → am_x t_SB_digest (60, [.ref 0, .long (zl x1), .null, .int (zi 0)], [], M) Q))) : am_x t_SB_digest (34, [.ref 0, .long (zl x1), .null, .int (zi x3)], [], M) Q := by
  refine am_xn 3 (c1 := (39, [.ref 0, .long (zl x1), .null, .int (zi x3)], [.ref 9, .int (zi x3)], M)) rfl ?_
  refine am_xc t_Amd_size (.invokevirtual 96) 96 (av := [.ref 9]) (rest := [.int (zi x3)]) (rv := some (.int (zi (iv M 11 0)))) (M' := M) rfl rfl rfl rfl (Nat.le_of_ble_eq_true rfl) (fun _ => rfl) (sp_c_size M) ?_
  refine am_xn 0 (c1 := (42, [.ref 0, .long (zl x1), .null, .int (zi x3)], [.int (zi (iv M 11 0)), .int (zi x3)], M)) rfl ?_
  obtain ⟨r1, hv⟩ := hv
  refine am_xn 1 (c1 := (if zi x3 < zi (iv M 11 0) then 45 else 58, [.ref 0, .long (zl x1), .null, .int (zi x3)], [], M)) rfl (am_xlt r1 (iv_r _ _ _) (fun h => ?_) (fun h => ?_))
  · replace hv := hv.1 h
    refine am_xn 3 (c1 := (48, [.ref 0, .long (zl x1), .null, .int (zi x3)], [.int (zi x3), .long (zl x1), .ref 0], M)) rfl ?_
    obtain ⟨r3, M2, hc, hv⟩ := hv
    refine am_xc t_SB_mixedAmendment (.invokevirtual 321) 321 (av := [.ref 0, .long (zl x1), .int (zi x3)]) (rest := []) (rv := some (.long (zl r3))) (M' := M2) rfl rfl rfl rfl (Nat.le_of_ble_eq_true rfl) (fun _ => rfl) (hc) ?_
    refine am_xn 0 (c1 := (51, [.ref 0, .long (zl x1), .null, .int (zi x3)], [.long (zl r3)], M2)) rfl ?_
    refine am_xn 2 (c1 := (55, [.ref 0, .long (zl r3), .null, .int (zi x3 + zi 1)], [], M2)) rfl ?_
    rw [zi_add]
    refine am_xn 1 (c1 := (34, [.ref 0, .long (zl r3), .null, .int (zi (x3 + 1))], [], M2)) rfl ?_
    exact hv
  · replace hv := hv.2 h
    refine am_xn 2 (c1 := (60, [.ref 0, .long (zl x1), .null, .int (zi 0)], [], M)) rfl ?_
    exact hv
set_option maxRecDepth 100000 in
theorem vc_c_digest_60 (x1 : Int) (x3 : Int) (M : am_M) (Q : Option Value → am_M → Prop) (hv : (zr x3) ∧ ((x3 < (iv M 15 9) → (0 ≤ x3 ∧ x3 < 40) ∧ (∃ (r3 : Int) (M2 : am_M), am_call t_SB_mixedClause [.ref 0, .long (zl x1), .int (zi (iv M 25 x3))] M (some (.long (zl r3))) M2 ∧ (am_x t_SB_digest (60, [.ref 0, .long (zl r3), .null, .int (zi (x3 + 1))], [], M2) Q))) ∧ ((iv M 15 9) ≤ x3 → am_x t_SB_digest (93, [.ref 0, .long (zl x1), .null, .int (zi 0)], [], M) Q))) : am_x t_SB_digest (60, [.ref 0, .long (zl x1), .null, .int (zi x3)], [], M) Q := by
  refine am_xn 3 (c1 := (65, [.ref 0, .long (zl x1), .null, .int (zi x3)], [.ref 15, .int (zi x3)], M)) rfl ?_
  refine am_xc t_Law_size (.invokevirtual 165) 165 (av := [.ref 15]) (rest := [.int (zi x3)]) (rv := some (.int (zi (iv M 15 9)))) (M' := M) rfl rfl rfl rfl (Nat.le_of_ble_eq_true rfl) (fun _ => rfl) (sp_l15_size M) ?_
  refine am_xn 0 (c1 := (68, [.ref 0, .long (zl x1), .null, .int (zi x3)], [.int (zi (iv M 15 9)), .int (zi x3)], M)) rfl ?_
  obtain ⟨r1, hv⟩ := hv
  refine am_xn 1 (c1 := (if zi x3 < zi (iv M 15 9) then 71 else 91, [.ref 0, .long (zl x1), .null, .int (zi x3)], [], M)) rfl (am_xlt r1 (iv_r _ _ _) (fun h => ?_) (fun h => ?_))
  · replace hv := hv.1 h
    refine am_xn 5 (c1 := (78, [.ref 0, .long (zl x1), .null, .int (zi x3)], [.int (zi x3), .ref 15, .long (zl x1), .ref 0], M)) rfl ?_
    obtain ⟨g, hv⟩ := hv
    refine am_xc t_Law_at (.invokevirtual 166) 166 (av := [.ref 15, .int (zi x3)]) (rest := [.long (zl x1), .ref 0]) (rv := some (.int (zi (iv M 25 x3)))) (M' := M) rfl rfl rfl rfl (Nat.le_of_ble_eq_true rfl) (fun _ => rfl) (sp_l15_at M x3 g) ?_
    refine am_xn 0 (c1 := (81, [.ref 0, .long (zl x1), .null, .int (zi x3)], [.int (zi (iv M 25 x3)), .long (zl x1), .ref 0], M)) rfl ?_
    obtain ⟨r3, M2, hc, hv⟩ := hv
    refine am_xc t_SB_mixedClause (.invokevirtual 324) 324 (av := [.ref 0, .long (zl x1), .int (zi (iv M 25 x3))]) (rest := []) (rv := some (.long (zl r3))) (M' := M2) rfl rfl rfl rfl (Nat.le_of_ble_eq_true rfl) (fun _ => rfl) (hc) ?_
    refine am_xn 0 (c1 := (84, [.ref 0, .long (zl x1), .null, .int (zi x3)], [.long (zl r3)], M2)) rfl ?_
    refine am_xn 2 (c1 := (88, [.ref 0, .long (zl r3), .null, .int (zi x3 + zi 1)], [], M2)) rfl ?_
    rw [zi_add]
    refine am_xn 1 (c1 := (60, [.ref 0, .long (zl r3), .null, .int (zi (x3 + 1))], [], M2)) rfl ?_
    exact hv
  · replace hv := hv.2 h
    refine am_xn 2 (c1 := (93, [.ref 0, .long (zl x1), .null, .int (zi 0)], [], M)) rfl ?_
    exact hv
set_option maxRecDepth 100000 in
theorem vc_c_digest_93 (x1 : Int) (x3 : Int) (M : am_M) (Q : Option Value → am_M → Prop) (hv : (zr x3) ∧ ((6 < x3 → ∃ (r3 : Int) (M2 : am_M), am_call t_SB_mixedPage [.long (zl x1), .ref 7] M (some (.long (zl r3))) M2 ∧ (∃ (r5 : Int) (M4 : am_M), am_call t_SB_mixedPage [.long (zl r3), .ref 2] M2 (some (.long (zl r5))) M4 ∧ (Q (some (.long (zl r5))) M4))) ∧ (x3 ≤ 6 → ∃ (r7 : Int) (M6 : am_M), am_call t_SB_tallyPart [.ref 0, .int (zi x3)] M (some (.int (zi r7))) M6 ∧ ((zr r7) ∧ (am_x t_SB_digest (93, [.ref 0, .long (zl (31 * x1 + r7)), .null, .int (zi (x3 + 1))], [], M6) Q))))) : am_x t_SB_digest (93, [.ref 0, .long (zl x1), .null, .int (zi x3)], [], M) Q := by
  obtain ⟨r1, hv⟩ := hv
  refine am_xn 3 (c1 := (if zi 6 < zi x3 then 115 else 99, [.ref 0, .long (zl x1), .null, .int (zi x3)], [], M)) rfl (am_xlt (by decide) r1 (fun h => ?_) (fun h => ?_))
  · replace hv := hv.1 h
    refine am_xn 3 (c1 := (120, [.ref 0, .long (zl x1), .null, .int (zi x3)], [.ref 7, .long (zl x1)], M)) rfl ?_
    obtain ⟨r3, M2, hc, hv⟩ := hv
    refine am_xc t_SB_mixedPage (.invokestatic 327) 327 (av := [.long (zl x1), .ref 7]) (rest := []) (rv := some (.long (zl r3))) (M' := M2) rfl rfl rfl rfl (Nat.le_of_ble_eq_true rfl) (fun h => nomatch h) (hc) ?_
    refine am_xn 0 (c1 := (123, [.ref 0, .long (zl x1), .null, .int (zi x3)], [.long (zl r3)], M2)) rfl ?_
    refine am_xn 3 (c1 := (130, [.ref 0, .long (zl x1), .null, .int (zi x3)], [.ref 2, .long (zl r3)], M2)) rfl ?_
    obtain ⟨r5, M4, hc, hv⟩ := hv
    refine am_xc t_SB_mixedPage (.invokestatic 327) 327 (av := [.long (zl r3), .ref 2]) (rest := []) (rv := some (.long (zl r5))) (M' := M4) rfl rfl rfl rfl (Nat.le_of_ble_eq_true rfl) (fun h => nomatch h) (hc) ?_
    refine am_xn 0 (c1 := (133, [.ref 0, .long (zl x1), .null, .int (zi x3)], [.long (zl r5)], M4)) rfl ?_
    exact am_xr (some (.long (zl r5))) ⟨rfl, rfl, rfl⟩ hv
  · replace hv := hv.2 h
    refine am_xn 3 (c1 := (102, [.ref 0, .long (zl x1), .null, .int (zi x3)], [.int (zi x3), .ref 0, .long (zl x1)], M)) rfl ?_
    obtain ⟨r7, M6, hc, hv⟩ := hv
    refine am_xc t_SB_tallyPart (.invokevirtual 250) 250 (av := [.ref 0, .int (zi x3)]) (rest := [.long (zl x1)]) (rv := some (.int (zi r7))) (M' := M6) rfl rfl rfl rfl (Nat.le_of_ble_eq_true rfl) (fun _ => rfl) (hc) ?_
    refine am_xn 0 (c1 := (105, [.ref 0, .long (zl x1), .null, .int (zi x3)], [.int (zi r7), .long (zl x1)], M6)) rfl ?_
    obtain ⟨g, hv⟩ := hv
    refine am_xc t_SB_mixed (.invokestatic 317) 317 (av := [.long (zl x1), .int (zi r7)]) (rest := []) (rv := some (.long (zl (31 * x1 + r7)))) (M' := M6) rfl rfl rfl rfl (Nat.le_of_ble_eq_true rfl) (fun h => nomatch h) (sp_mixed M6 x1 r7 g) ?_
    refine am_xn 0 (c1 := (108, [.ref 0, .long (zl x1), .null, .int (zi x3)], [.long (zl (31 * x1 + r7))], M6)) rfl ?_
    refine am_xn 2 (c1 := (112, [.ref 0, .long (zl (31 * x1 + r7)), .null, .int (zi x3 + zi 1)], [], M6)) rfl ?_
    rw [zi_add]
    refine am_xn 1 (c1 := (93, [.ref 0, .long (zl (31 * x1 + r7)), .null, .int (zi (x3 + 1))], [], M6)) rfl ?_
    exact hv
theorem sp_mixedAmendment {M : am_M} {b : Int → Int} (w : WB b) (cb : CBR (iv M 11) b) (r : CLR15 (lw b 9999 (-1)) M) {a : Int} (h : Int) (a0 : 0 ≤ a) (a1 : a < b 0) : am_call t_SB_mixedAmendment [.ref 0, .long (zl h), .int (zi a)] M (some (.long (zl (hAm b a h)))) M := by
  have n1 := w.n1
  have ws := w.sz a a0 a1
  have f0 := w.fo_nn (n := a) (by omega)
  have f1 := fo_s b a0
  have f2 := w.fo_le (n := a + 1) (by omega) (by omega)
  have wt := w.tot
  have e24 := cb.1.2.2.2.2.1 a a0 (by omega)
  have e25 := cb.1.2.2.2.2.1 (a + 1) (by omega) (by omega)
  refine am_call_of ⟨Nat.le_of_ble_eq_true rfl, rfl⟩ (vc_mixedAmendment h a M _ ?_)
  refine loop_up (fun i (s : Int) => (6, [.ref 0, .null, .null, .int (zi a), .long (zl s), .null, .int (zi i), .null], [], M)) 4 (fun i s => s = hX (amdv b a) i h) ?_ ?_ 0 h (by omega) (by omega) rfl
  · intro s hs
    refine vc_mixedAmendment_6 _ _ _ M _ ⟨by decide, fun _ => ⟨⟨a0, by omega⟩, ?_⟩, fun q => by omega⟩
    rw [e24]
    refine loop_up (fun i (s : Int) => (42, [.ref 0, .null, .null, .int (zi a), .long (zl s), .null, .int (zi i), .null], [], M)) (fo b (a + 1)) (fun i s => fo b a ≤ i ∧ s = fdI (fun i h => hOp b (fo b a + i) h) (i - fo b a) (hX (amdv b a) 4 h)) ?_ ?_ (fo b a) s f0 (by omega) ⟨Int.le_refl _, by rw [Int.sub_self]; exact hs⟩
    · intro s ⟨_, hs⟩
      refine vc_mixedAmendment_42 _ _ _ M _ ⟨⟨by omega, by omega⟩, ⟨by omega, by omega⟩, fun q => ?_, fun _ => ⟨?_, rfl⟩⟩
      · rw [e25] at q; omega
      · rw [hs, show fo b (a + 1) - fo b a = b (41 + a) by omega]; rfl
    · intro i s i0 i1 ⟨i2, hs⟩ k
      have wl := (w.op i i0 (by omega)).ln
      obtain ⟨q0, q1, q2, q3, q4, q5, q6, q7⟩ := cb.1.2.2.2.2.2 i i0 (by omega)
      refine vc_mixedAmendment_42 _ _ _ M _ ⟨⟨by omega, by omega⟩, ⟨by omega, by omega⟩, fun _ => ?_, fun q => by rw [e25] at q; omega⟩
      refine loop_up (fun j (t : Int) => (60, [.ref 0, .null, .null, .int (zi a), .long (zl t), .null, .int (zi i), .int (zi j)], [], M)) 9 (fun j t => t = hX (tdv b i) j s) ?_ ?_ 0 s (by omega) (by omega) rfl
      · intro t ht
        refine vc_mixedAmendment_60 _ _ _ _ M _ ⟨by decide, fun _ => ?_, fun q => by omega⟩
        refine loop_up (fun j (t : Int) => (91, [.ref 0, .null, .null, .int (zi a), .long (zl t), .null, .int (zi i), .int (zi j)], [], M)) (pt b i 5) (fun j t => t = hX (fun k => pt b i (6 + k)) j (hX (tdv b i) 9 s)) ?_ ?_ 0 t (by omega) wl.1 ht
        · intro t ht
          refine vc_mixedAmendment_91 _ _ _ _ M _ ⟨⟨i0, by omega, by decide, by decide⟩, ⟨by omega, by omega⟩, fun q => by rw [q5] at q; omega, fun _ => k _ ⟨by omega, ?_⟩⟩
          rw [show i + 1 - fo b a = (i - fo b a) + 1 by omega, fdI_s _ (by omega), ← hs, show fo b a + (i - fo b a) = i by omega, ht]
          rfl
        · intro j t j0 j1 ht k2
          refine vc_mixedAmendment_91 _ _ _ _ M _ ⟨⟨i0, by omega, by decide, by decide⟩, ⟨by omega, by omega⟩, fun _ => ⟨⟨i0, by omega, by omega, by omega⟩, iv_r M 11 _, k2 _ ?_⟩, fun q => by rw [q5] at q; omega⟩
          have e : wz (cpt (iv M 11) i (7 + j)) = cpt (iv M 11) i (7 + j) := wz_e (iv_r M 11 _)
          rw [hX_s _ j0, ← ht, ← q7 j j0 j1, e]
      · intro j t j0 j1 ht k2
        exact vc_mixedAmendment_60 _ _ _ _ M _ ⟨⟨by omega, by omega⟩, fun q => by omega, fun _ => ⟨wz (tdv b i j), M, by rw [zi_wz]; exact sp_operationPart w cb r i0 (by omega) ⟨j0, by omega⟩, wz_r _, k2 _ (by rw [hX_s _ j0, ht])⟩⟩
  · intro i s i0 i1 hs k
    exact vc_mixedAmendment_6 _ _ _ M _ ⟨⟨by omega, by omega⟩, fun q => by omega, fun _ => ⟨wz (amdv b a i), M, by rw [zi_wz]; exact sp_amendmentPart w cb r a0 a1 ⟨by omega, by omega⟩, wz_r _, k _ (by rw [hX_s _ i0, hs])⟩⟩
theorem sp_mixedClause {L : Lw} {M : am_M} (v : VL L) (r : CLR15 L M) {c : Int} (h : Int) (c0 : 0 ≤ c) (c1 : c < 40) (n : ¬ L.code c = 0) : am_call t_SB_mixedClause [.ref 0, .long (zl h), .int (zi c)] M (some (.long (zl (hCl L c h)))) M := by
  have el := (r.2.1 c c0 c1 n).1
  have ln := v.ln c c0 c1 n
  refine am_call_of ⟨Nat.le_of_ble_eq_true rfl, rfl⟩ (vc_mixedClause h c M _ ?_)
  refine loop_up (fun i (s : Int) => (6, [.ref 0, .null, .null, .int (zi c), .long (zl s), .null, .int (zi i)], [], M)) 4 (fun i s => s = hX (abt L c) i h) ?_ ?_ 0 h (by omega) (by omega) rfl
  · intro s hs
    refine vc_mixedClause_6 _ _ _ M _ ⟨by decide, fun _ => ?_, fun q => by omega⟩
    refine loop_up (fun i (s : Int) => (35, [.ref 0, .null, .null, .int (zi c), .long (zl s), .null, .int (zi i)], [], M)) (L.len c) (fun i s => s = hX (tw L c) i (hX (abt L c) 4 h)) ?_ ?_ 0 s (by omega) (by omega) hs
    · intro s hs
      exact vc_mixedClause_35 _ _ _ M _ ⟨⟨c0, c1⟩, ⟨by omega, by omega⟩, fun q => by omega, fun _ => ⟨by rw [hs]; rfl, rfl⟩⟩
    · intro i s i0 i1 hs k
      exact vc_mixedClause_35 _ _ _ M _ ⟨⟨c0, c1⟩, ⟨by omega, by omega⟩, fun _ => ⟨wz (tw L c i), M, by rw [zi_wz]; exact sp_presentWord v r c0 c1 n i0 i1, wz_r _, k _ (by rw [hX_s _ i0, hs])⟩, fun q => by omega⟩
  · intro i s i0 i1 hs k
    exact vc_mixedClause_6 _ _ _ M _ ⟨⟨by omega, by omega⟩, fun q => by omega, fun _ => ⟨wz (abt L c i), M, by rw [zi_wz]; exact sp_clausePart r c0 c1 n ⟨by omega, by omega⟩, wz_r _, k _ (by rw [hX_s _ i0, hs])⟩⟩
theorem sp_mixedPage7 {M : am_M} (ho : OUTR M) (h : Int) : am_call t_SB_mixedPage [.long (zl h), .ref 7] M (some (.long (zl (hX (iv M 75) (iv M 58 23) h)))) M := by
  have kp := sp_p7_kept ho
  obtain ⟨l, h1, h2, h3⟩ := ho
  have e2 := h2.2.1
  have e1 := h1.1
  refine am_call_of ⟨Nat.le_of_ble_eq_true rfl, rfl⟩ (vc_mixedPage7 h M _ ?_)
  refine loop_up (fun i (s : Int) => (5, [.null, .null, .ref 7, .long (zl s), .null, .int (zi i)], [], M)) (iv M 58 23) (fun i s => s = hX (iv M 75) i h) ?_ ?_ 0 h (by omega) (by omega) rfl
  · intro s hs
    exact vc_mixedPage7_5 _ _ M _ ⟨_, M, kp, iv_r _ _ _, iv_r _ _ _, fun q => by omega, fun _ => ⟨by rw [hs], rfl⟩⟩
  · intro i s i0 i1 hs k
    have a8 := h1.2 i.toNat (by omega) (by omega)
    have a75 := h2.2.2 i.toNat (by omega) (by omega)
    rw [show ((i.toNat : Nat) : Int) = i by omega] at a8 a75
    have by_ : am_call t_Pag_byteAt [.ref 7, .int (zi i)] M (some (.int (zi (iv M 75 i)))) M := am_call_of ⟨Nat.le_of_ble_eq_true rfl, rfl⟩ (vc_p7_byteAt i M _ ⟨⟨by omega, by omega⟩, fun q => by omega, fun _ => ⟨fun _ => ⟨fun _ => ⟨⟨i0, by omega⟩, by rw [a8, a75], rfl⟩, fun q => by omega⟩, fun q => by omega⟩⟩)
    exact vc_mixedPage7_5 _ _ M _ ⟨_, M, kp, ⟨by omega, by omega⟩, iv_r _ _ _, fun _ => ⟨iv M 75 i, M, by_, iv_r _ _ _, k _ (by rw [hX_s _ i0, hs, wz_e (iv_r M 75 i)])⟩, fun q => by omega⟩
theorem sp_mixedPage2 {M : am_M} (s2 : TXT M) (h : Int) : am_call t_SB_mixedPage [.long (zl h), .ref 2] M (some (.long (zl (hX (iv M 73) (iv M 58 17) h)))) M := by
  obtain ⟨t1, t2, t3⟩ := s2
  have kp := sp_p2_kept t2
  refine am_call_of ⟨Nat.le_of_ble_eq_true rfl, rfl⟩ (vc_mixedPage2 h M _ ?_)
  rw [t1]
  refine loop_up (fun i (s : Int) => (5, [.null, .null, .ref 2, .long (zl s), .null, .int (zi i)], [], M)) (iv M 2 1) (fun i s => s = hX (iv M 73) i h) ?_ ?_ 0 h (by omega) (by omega) rfl
  · intro s hs
    exact vc_mixedPage2_5 _ _ M _ ⟨_, M, kp, iv_r _ _ _, iv_r _ _ _, fun q => by omega, fun _ => ⟨by rw [hs], rfl⟩⟩
  · intro i s i0 i1 hs k
    have a := t3 i i0 i1
    have by_ : am_call t_Pag_byteAt [.ref 2, .int (zi i)] M (some (.int (zi (iv M 73 i)))) M := am_call_of ⟨Nat.le_of_ble_eq_true rfl, rfl⟩ (vc_p2_byteAt i M _ ⟨⟨by omega, by omega⟩, fun q => by omega, fun _ => ⟨fun _ => ⟨fun _ => ⟨⟨i0, by omega⟩, by rw [a.1], rfl⟩, fun q => by omega⟩, fun q => by omega⟩⟩)
    exact vc_mixedPage2_5 _ _ M _ ⟨_, M, kp, ⟨by omega, by omega⟩, iv_r _ _ _, fun _ => ⟨iv M 73 i, M, by_, iv_r _ _ _, k _ (by rw [hX_s _ i0, hs, wz_e (iv_r M 73 i)])⟩, fun q => by omega⟩
theorem sp_c_digest {M : am_M} (rr : RR M) : ∃ M4, am_call t_SB_digest [.ref 0] M (some (.long (zl (dgst (iv M 59) (iv M 58) (iv M 62) (iv M 75) (iv M 73))))) M4 ∧ CQ M M4 ∧ ORD (lw (iv M 59) 9999 (-1)) (iv M4 25) 40 (iv M4 15 9) := by
  obtain ⟨M4, h4, fr, r4, od⟩ := sp_c_consolidateFully M rr.1.1 rr.1.2
  have cq := CQ_15 fr
  refine ⟨M4, ?_, cq, od⟩
  have rr4 := rr_cq rr cq
  have e59 := iv_row (cq 59 (by decide))
  rw [← e59, ← iv_row (cq 58 (by decide)), ← iv_row (cq 62 (by decide)), ← iv_row (cq 75 (by decide)), ← iv_row (cq 73 (by decide))]
  rw [← e59] at r4 od
  obtain ⟨⟨w, cb⟩, s2, s3, s4⟩ := rr4
  have rr4 := rr_cq rr cq
  have n0 := w.n0
  have n1 := w.n1
  have v := lw_VL w 9999 (-1)
  have f40 := frc40 (lw (iv M4 59) 9999 (-1))
  have e9 := od.1
  have e11 := cb.1.1
  obtain ⟨h1, eh1⟩ : ∃ h1, h1 = hX (cntv (iv M4 59) (iv M4 58) (iv M4 62)) 9 311 := ⟨_, rfl⟩
  obtain ⟨h2, eh2⟩ : ∃ h2, h2 = fdI (hAm (iv M4 59)) (iv M4 59 0) h1 := ⟨_, rfl⟩
  obtain ⟨h3, eh3⟩ : ∃ h3, h3 = hLw (lw (iv M4 59) 9999 (-1)) h2 := ⟨_, rfl⟩
  refine am_call_of ⟨Nat.le_of_ble_eq_true rfl, rfl⟩ (vc_c_digest M _ ⟨M4, h4, ?_⟩)
  refine loop_up (fun i (s : Int) => (10, [.ref 0, .long (zl s), .null, .int (zi i)], [], M4)) 9 (fun i s => s = hX (cntv (iv M4 59) (iv M4 58) (iv M4 62)) i 311) ?_ ?_ 0 311 (by omega) (by omega) rfl
  · intro s hs
    refine vc_c_digest_10 _ _ M4 _ ⟨by decide, fun _ => ?_, fun q => by omega⟩
    refine loop_up (fun i (s : Int) => (34, [.ref 0, .long (zl s), .null, .int (zi i)], [], M4)) (iv M4 59 0) (fun i s => s = fdI (hAm (iv M4 59)) i h1) ?_ ?_ 0 s (by omega) n0 (by rw [hs, eh1]; rfl)
    · intro s hs
      refine vc_c_digest_34 _ _ M4 _ ⟨⟨by omega, by omega⟩, fun q => by rw [e11] at q; omega, fun _ => ?_⟩
      refine loop_up (fun i (s : Int) => (60, [.ref 0, .long (zl s), .null, .int (zi i)], [], M4)) (frc (lw (iv M4 59) 9999 (-1)) 40) (fun i s => s = fdI (fun i h => hCl (lw (iv M4 59) 9999 (-1)) (atx (lw (iv M4 59) 9999 (-1)) i) h) i h2) ?_ ?_ 0 s (by omega) f40.1 (by rw [hs, eh2]; rfl)
      · intro s hs
        refine vc_c_digest_60 _ _ M4 _ ⟨⟨by omega, by omega⟩, fun q => by rw [e9] at q; omega, fun _ => ?_⟩
        refine loop_up (fun i (s : Int) => (93, [.ref 0, .long (zl s), .null, .int (zi i)], [], M4)) 7 (fun i s => s = hX (tlv (iv M4 59)) i h3) ?_ ?_ 0 s (by omega) (by omega) (by rw [hs, eh3]; rfl)
        · intro s hs
          refine vc_c_digest_93 _ _ M4 _ ⟨by decide, fun _ => ⟨_, M4, sp_mixedPage7 s3 s, _, M4, sp_mixedPage2 s2 _, ?_, rfl⟩, fun q => by omega⟩
          rw [hs, eh3, eh2, eh1]
          rfl
        · intro i s i0 i1 hs k
          exact vc_c_digest_93 _ _ M4 _ ⟨⟨by omega, by omega⟩, fun q => by omega, fun _ => ⟨wz (tlv (iv M4 59) i), M4, by rw [zi_wz]; exact sp_tallyPart w cb r4 ⟨by omega, by omega⟩, wz_r _, k _ (by rw [hX_s _ i0, hs])⟩⟩
      · intro i s i0 i1 hs k
        have oi := od.2.1 i i0 (by rw [e9]; exact i1)
        have ea := (atx_ord v od i).trans (if_pos ⟨i0, by rw [e9]; exact i1⟩)
        refine vc_c_digest_60 _ _ M4 _ ⟨⟨by omega, by omega⟩, fun _ => ⟨⟨i0, by omega⟩, _, M4, sp_mixedClause v r4 s oi.1 oi.2.1 oi.2.2, k _ ?_⟩, fun q => by rw [e9] at q; omega⟩
        rw [fdI_s _ i0, ← hs, ea]
    · intro i s i0 i1 hs k
      refine vc_c_digest_34 _ _ M4 _ ⟨⟨by omega, by omega⟩, fun _ => ⟨_, M4, sp_mixedAmendment w cb r4 s i0 i1, k _ ?_⟩, fun q => by rw [e11] at q; omega⟩
      rw [fdI_s _ i0, ← hs]
  · intro i s i0 i1 hs k
    exact vc_c_digest_10 _ _ M4 _ ⟨⟨by omega, by omega⟩, fun q => by omega, fun _ => ⟨wz (cntv (iv M4 59) (iv M4 58) (iv M4 62) i), M4, by rw [zi_wz]; exact sp_countPart rr4 e9 ⟨i0, by omega⟩, wz_r _, k _ (by rw [hX_s _ i0, hs])⟩⟩
