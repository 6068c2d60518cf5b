/-! revoke, withdraw, undo, save, restore -/
theorem xor_rg {s t : Int} (h0 : 0 ≤ s) (h1 : s < 1048576) {a : Int} (a0 : 0 ≤ a) (a1 : a < 20) : 0 ≤ zxor s (zshl 1 a) ∧ zxor s (zshl 1 a) < 1048576 := by
  refine zb_rg (zr_toInt _) (fun x x0 x1 => ?_)
  rw [zb_xor, zb_of h0 h1 x0, zb_1 a0 (by omega) (by omega) x1, decide_eq_false (by omega)]
  rfl
theorem st_revoke {M : am_M} (rr : RR M) {a on : Int} (az : zr a) (ho : on = 0 ∨ on = 1) : STEP t_SB_revoke t_Mo_revoke [.ref 0, .int (zi a), .int (zi on)] [.ref 58, .int (zi a), .int (zi on)] M := by
  have s := rr.1
  have w := s.1
  have cb := s.2
  have w1 := w.n1
  have w0 := w.n0
  have oz : zr on := by rcases ho with e | e <;> (rw [e]; decide)
  by_cases hl : 0 ≤ a ∧ a < iv M 59 0
  · have rv := w.rev a hl.1 hl.2
    have bit := cb.2.2 a hl.1 (by omega)
    rw [if_pos hl.2] at bit
    by_cases same : iv M 59 (21 + a) = on
    · refine step_same rr (-3) ⟨Nat.le_of_ble_eq_true rfl, rfl⟩ ⟨Nat.le_of_ble_eq_true rfl, rfl⟩ (vc_c_revoke a on M _ ⟨az, fun _ => ?_, fun q => absurd (by rw [cb.1.1]; exact hl) q⟩) (vc_m_revoke a on M _ ⟨⟨az, w0⟩, fun _ => ⟨⟨by omega, by omega⟩, fun q => ⟨oz, fun _ => ⟨rfl, rfl⟩, fun q2 => by omega⟩, fun q => ⟨oz, fun _ => ⟨rfl, rfl⟩, fun q2 => by omega⟩⟩, fun q => absurd hl q⟩)
      rw [bit]
      exact ⟨fun q => ⟨oz, fun _ => ⟨rfl, rfl⟩, fun q2 => by omega⟩, fun q => ⟨oz, fun _ => ⟨rfl, rfl⟩, fun q2 => by omega⟩⟩
    · obtain ⟨M1, p1, p2, p3⟩ := st_change rr
      have r11 : M1 11 = M 11 := p2 11 (by decide) (by decide)
      obtain ⟨c3, e3⟩ : ∃ c3, c3 = zxor (iv M1 11 3) (zshl 1 a) := ⟨_, rfl⟩
      have c3z : zr c3 := by rw [e3]; exact zr_toInt _
      obtain ⟨M2, k1, k2, k3, k4⟩ := p3 (zup M1 11 3 c3) (fun x hx => zupr _ hx)
      have r59 : M2 59 = M 59 := by rw [k2 59 (by decide) (by decide), zupr _ (by decide), p2 59 (by decide) (by decide)]
      have bk : BKr (iv (zup M2 59 (21 + a) on) 11) (iv (zup M2 59 (21 + a) on) 59) := by
        have n3 : iv (zup M2 59 (21 + a) on) 11 = iv (zup M1 11 3 c3) 11 := by rw [ivr _ (by decide), iv_row (k2 11 (by decide) (by decide))]
        have v3 : iv (zup M1 11 3 c3) 11 3 = c3 := by rw [ivs _ _ (by decide) (by decide) c3z, if_pos rfl]
        refine BKr_congr (c := iv (zup M2 59 (21 + a) on) 11) (b := fu (iv M 59) (21 + a) on) (fun _ _ _ => rfl) (fun j j0 j1 => ?_) (BK_rev s hl.1 hl.2 ho (fun j j0 hj => ?_) ?_ (fun x x0 x1 => ?_))
        · rw [ivs _ _ (by omega) j0 oz, iv_row r59]; rfl
        · rw [n3, ivs _ _ (by decide) j0 c3z, if_neg hj, iv_row r11]
        · rw [n3, v3, e3, iv_row r11]
          exact xor_rg (t := 0) cb.2.1.1 cb.2.1.2 hl.1 (by omega)
        · rw [n3, v3, e3, iv_row r11, zb_xor, zb_1 hl.1 (by omega) x0 (by omega)]
          by_cases e : x = a
          · rw [if_pos e, e, cbr_b w cb hl.1 hl.2, decide_eq_true (p := a = a) rfl]
            rcases rv with r | r <;> rcases ho with h | h
            · omega
            · rw [r, h]; rfl
            · rw [r, h]; rfl
            · omega
          · rw [if_neg e, decide_eq_false e, Bool.xor_false]
      obtain ⟨f1, f2, f3⟩ := k4 (zup M2 59 (21 + a) on) (fun x hx => zupr _ hx) bk
      have q1 : iv (zup M1 11 3 c3) 59 = iv M 59 := by rw [ivr _ (by decide), iv_row (p2 59 (by decide) (by decide))]
      refine ⟨1, zup M1 11 3 c3, zup M2 59 (21 + a) on, am_call_of ⟨Nat.le_of_ble_eq_true rfl, rfl⟩ (vc_c_revoke a on M _ ⟨az, fun _ => ?_, fun q => absurd (by rw [cb.1.1]; exact hl) q⟩), am_call_of ⟨Nat.le_of_ble_eq_true rfl, rfl⟩ (vc_m_revoke a on _ _ ⟨⟨az, by rw [q1]; exact w0⟩, fun _ => ⟨⟨by omega, by omega⟩, ?_⟩, fun q => absurd (by rw [q1]; exact hl) q⟩), f1, f2, f3⟩
      · rw [bit]
        exact ⟨fun q => ⟨oz, fun q2 => by omega, fun _ => ⟨M1, p1, fun Mx ex => ⟨rfl, by rw [ex, e3]⟩⟩⟩, fun q => ⟨oz, fun q2 => by omega, fun _ => ⟨M1, p1, fun Mx ex => ⟨rfl, by rw [ex, e3]⟩⟩⟩⟩
      · rw [q1]
        exact ⟨fun q => ⟨oz, fun q2 => by omega, fun _ => ⟨M2, k1, fun z => ⟨⟨by omega, by omega⟩, fun Mx ex => ⟨rfl, by rw [ex, z]⟩⟩, fun z => by omega⟩⟩, fun q => ⟨oz, fun q2 => by omega, fun z => ⟨M2, k1, ⟨by omega, by omega⟩, fun Mx ex => ⟨rfl, by rw [ex, show on = 1 by omega]⟩⟩⟩⟩
  · exact step_same rr (-2) ⟨Nat.le_of_ble_eq_true rfl, rfl⟩ ⟨Nat.le_of_ble_eq_true rfl, rfl⟩ (vc_c_revoke a on M _ ⟨az, fun q => absurd (by rw [cb.1.1] at q; exact q) hl, fun _ => ⟨rfl, rfl⟩⟩) (vc_m_revoke a on M _ ⟨⟨az, w0⟩, fun q => absurd q hl, fun _ => ⟨rfl, rfl⟩⟩)
set_option maxRecDepth 100000 in
theorem vc_removeLast  (M : am_M) (Q : Option Value → am_M → Prop) (hv : (0 ≤ ((iv M 11 0) - 1) ∧ ((iv M 11 0) - 1) ≤ 20) ∧ (am_x t_Amd_removeLast (13, [.ref 9, .int (zi ((iv M 11 0) - 1)), .int (zi (iv M 11 (24 + ((iv M 11 0) - 1))))], [], M) Q)) : am_x t_Amd_removeLast (0, am_ent (am_mL t_Amd_removeLast) [.ref 9], [], M) Q := by
  refine am_xn 0 (c1 := (0, [.ref 9, .null, .null], [], M)) rfl ?_
  refine am_xn 1 (c1 := (1, [.ref 9, .null, .null], [.ref 9], M)) rfl ?_
  refine am_xc t_Amd_size (.invokevirtual 31) 31 (av := [.ref 9]) (rest := []) (rv := some (.int (zi (iv M 11 0)))) (M' := M) rfl rfl rfl rfl (Nat.le_of_ble_eq_true rfl) (fun _ => rfl) (sp_c_size M) ?_
  refine am_xn 0 (c1 := (4, [.ref 9, .null, .null], [.int (zi (iv M 11 0))], M)) rfl ?_
  refine am_xisub 2 (iv M 11 0) 1 (pc := 6) (ls := [.ref 9, .null, .null]) (st := []) rfl ?_
  refine am_xn 3 (c1 := (9, [.ref 9, .int (zi ((iv M 11 0) - 1)), .null], [.int (zi ((iv M 11 0) - 1)), .ref 9], M)) rfl ?_
  obtain ⟨g, hv⟩ := hv
  refine am_xc t_Amd_start (.invokevirtual 28) 28 (av := [.ref 9, .int (zi ((iv M 11 0) - 1))]) (rest := []) (rv := some (.int (zi (iv M 11 (24 + ((iv M 11 0) - 1)))))) (M' := M) rfl rfl rfl rfl (Nat.le_of_ble_eq_true rfl) (fun _ => rfl) (sp_c_start M ((iv M 11 0) - 1) g) ?_
  refine am_xn 0 (c1 := (12, [.ref 9, .int (zi ((iv M 11 0) - 1)), .null], [.int (zi (iv M 11 (24 + ((iv M 11 0) - 1))))], M)) rfl ?_
  refine am_xn 1 (c1 := (13, [.ref 9, .int (zi ((iv M 11 0) - 1)), .int (zi (iv M 11 (24 + ((iv M 11 0) - 1))))], [], M)) rfl ?_
  exact hv
set_option maxRecDepth 100000 in
theorem vc_removeLast_13 (x1 : Int) (x2 : Int) (M : am_M) (Q : Option Value → am_M → Prop) (hv : (zr x2) ∧ ((x2 < (iv M 11 1) → (0 ≤ x2 ∧ x2 < 120 ∧ 0 ≤ (0 : Int) ∧ (0 : Int) < 13) ∧ (((cpt (iv M 11) x2 0) = 0 → (0 ≤ (2 : Int) ∧ (2 : Int) < 1605) ∧ (∀ M2, M2 = zup M 11 2 ((iv M 11 2) - 1) → am_x t_Amd_removeLast (13, [.ref 9, .int (zi x1), .int (zi (x2 + 1))], [], M2) Q)) ∧ (¬ (cpt (iv M 11) x2 0) = 0 → am_x t_Amd_removeLast (13, [.ref 9, .int (zi x1), .int (zi (x2 + 1))], [], M) Q))) ∧ ((iv M 11 1) ≤ x2 → (0 ≤ x1 ∧ x1 ≤ 20) ∧ ((0 ≤ (1 : Int) ∧ (1 : Int) < 1605) ∧ (∀ M3, M3 = zup M 11 1 (iv M 11 (24 + x1)) → ∀ M4, M4 = zup M3 11 3 (zand (iv M3 11 3) (zxor (zshl 1 x1) (-1))) → (0 ≤ (0 : Int) ∧ (0 : Int) < 1605) ∧ (∀ M5, M5 = zup M4 11 0 x1 → Q none M5)))))) : am_x t_Amd_removeLast (13, [.ref 9, .int (zi x1), .int (zi x2)], [], M) Q := by
  refine am_xn 2 (c1 := (15, [.ref 9, .int (zi x1), .int (zi x2)], [.ref 9, .int (zi x2)], M)) rfl ?_
  refine am_xc t_Amd_operations (.invokevirtual 42) 42 (av := [.ref 9]) (rest := [.int (zi x2)]) (rv := some (.int (zi (iv M 11 1)))) (M' := M) rfl rfl rfl rfl (Nat.le_of_ble_eq_true rfl) (fun _ => rfl) (sp_c_operations M) ?_
  refine am_xn 0 (c1 := (18, [.ref 9, .int (zi x1), .int (zi x2)], [.int (zi (iv M 11 1)), .int (zi x2)], M)) rfl ?_
  obtain ⟨r1, hv⟩ := hv
  refine am_xn 1 (c1 := (if zi x2 < zi (iv M 11 1) then 21 else 50, [.ref 9, .int (zi x1), .int (zi x2)], [], M)) rfl (am_xlt r1 (iv_r _ _ _) (fun h => ?_) (fun h => ?_))
  · replace hv := hv.1 h
    refine am_xn 3 (c1 := (24, [.ref 9, .int (zi x1), .int (zi x2)], [.int (zi 0), .int (zi x2), .ref 9], M)) rfl ?_
    obtain ⟨g, hv⟩ := hv
    refine am_xc t_Amd_cell (.invokevirtual 59) 59 (av := [.ref 9, .int (zi x2), .int (zi 0)]) (rest := []) (rv := some (.int (zi (cpt (iv M 11) x2 0)))) (M' := M) rfl rfl rfl rfl (Nat.le_of_ble_eq_true rfl) (fun _ => rfl) (sp_c_cell M x2 0 g) ?_
    refine am_xn 0 (c1 := (27, [.ref 9, .int (zi x1), .int (zi x2)], [.int (zi (cpt (iv M 11) x2 0))], M)) rfl ?_
    refine am_xn 1 (c1 := (if zi (cpt (iv M 11) x2 0) = zi 0 then 30 else 44, [.ref 9, .int (zi x1), .int (zi x2)], [], M)) rfl (am_xeq (iv_r _ 11 _) (by decide) (fun h => ?_) (fun h => ?_))
    · replace hv := hv.1 h
      refine am_xn 4 (c1 := (36, [.ref 9, .int (zi x1), .int (zi x2)], [.ref 9, .int (zi 2), .ref 10], M)) rfl ?_
      refine am_xc t_Amd_identities (.invokevirtual 48) 48 (av := [.ref 9]) (rest := [.int (zi 2), .ref 10]) (rv := some (.int (zi (iv M 11 2)))) (M' := M) rfl rfl rfl rfl (Nat.le_of_ble_eq_true rfl) (fun _ => rfl) (sp_c_identities M) ?_
      refine am_xn 0 (c1 := (39, [.ref 9, .int (zi x1), .int (zi x2)], [.int (zi (iv M 11 2)), .int (zi 2), .ref 10], M)) rfl ?_
      refine am_xisub 2 (iv M 11 2) 1 (pc := 41) (ls := [.ref 9, .int (zi x1), .int (zi x2)]) (st := [.int (zi 2), .ref 10]) rfl ?_
      obtain ⟨g, hv⟩ := hv
      obtain ⟨M2, eM2⟩ : ∃ m, m = zup M 11 2 ((iv M 11 2) - 1) := ⟨_, rfl⟩
      replace hv := hv M2 eM2
      refine am_xc t_Row_set (.invokevirtual 24) 24 (av := [.ref 10, .int (zi 2), .int (zi ((iv M 11 2) - 1))]) (rest := []) (rv := none) (M' := M2) rfl rfl rfl rfl (Nat.le_of_ble_eq_true rfl) (fun _ => rfl) (by rw [eM2]; exact sp_set_10 M 2 ((iv M 11 2) - 1) g) ?_
      refine am_xn 0 (c1 := (44, [.ref 9, .int (zi x1), .int (zi x2)], [], M2)) rfl ?_
      refine am_xn 1 (c1 := (47, [.ref 9, .int (zi x1), .int (zi x2 + zi 1)], [], M2)) rfl ?_
      rw [zi_add]
      refine am_xn 1 (c1 := (13, [.ref 9, .int (zi x1), .int (zi (x2 + 1))], [], M2)) rfl ?_
      exact hv
    · replace hv := hv.2 h
      refine am_xn 1 (c1 := (47, [.ref 9, .int (zi x1), .int (zi x2 + zi 1)], [], M)) rfl ?_
      rw [zi_add]
      refine am_xn 1 (c1 := (13, [.ref 9, .int (zi x1), .int (zi (x2 + 1))], [], M)) rfl ?_
      exact hv
  · replace hv := hv.2 h
    refine am_xn 5 (c1 := (57, [.ref 9, .int (zi x1), .int (zi x2)], [.int (zi x1), .ref 9, .int (zi 1), .ref 10], M)) rfl ?_
    obtain ⟨g, hv⟩ := hv
    refine am_xc t_Amd_start (.invokevirtual 28) 28 (av := [.ref 9, .int (zi x1)]) (rest := [.int (zi 1), .ref 10]) (rv := some (.int (zi (iv M 11 (24 + x1))))) (M' := M) rfl rfl rfl rfl (Nat.le_of_ble_eq_true rfl) (fun _ => rfl) (sp_c_start M x1 g) ?_
    refine am_xn 0 (c1 := (60, [.ref 9, .int (zi x1), .int (zi x2)], [.int (zi (iv M 11 (24 + x1))), .int (zi 1), .ref 10], M)) rfl ?_
    obtain ⟨g, hv⟩ := hv
    obtain ⟨M3, eM3⟩ : ∃ m, m = zup M 11 1 (iv M 11 (24 + x1)) := ⟨_, rfl⟩
    replace hv := hv M3 eM3
    refine am_xc t_Row_set (.invokevirtual 24) 24 (av := [.ref 10, .int (zi 1), .int (zi (iv M 11 (24 + x1)))]) (rest := []) (rv := none) (M' := M3) rfl rfl rfl rfl (Nat.le_of_ble_eq_true rfl) (fun _ => rfl) (by rw [eM3]; exact sp_set_10 M 1 (iv M 11 (24 + x1)) g) ?_
    refine am_xn 0 (c1 := (63, [.ref 9, .int (zi x1), .int (zi x2)], [], M3)) rfl ?_
    refine am_xn 2 (c1 := (65, [.ref 9, .int (zi x1), .int (zi x2)], [.ref 9, .ref 9], M3)) rfl ?_
    refine am_xc t_Amd_revoked (.invokevirtual 66) 66 (av := [.ref 9]) (rest := [.ref 9]) (rv := some (.int (zi (iv M3 11 3)))) (M' := M3) rfl rfl rfl rfl (Nat.le_of_ble_eq_true rfl) (fun _ => rfl) (sp_c_revoked M3) ?_
    refine am_xn 0 (c1 := (68, [.ref 9, .int (zi x1), .int (zi x2)], [.int (zi (iv M3 11 3)), .ref 9], M3)) rfl ?_
    refine am_xbit 3 (zi 1 <<< (zi x1 &&& 31)) (pc := 71) (ls := [.ref 9, .int (zi x1), .int (zi x2)]) (st := [.int (zi (iv M3 11 3)), .ref 9]) rfl ?_
    refine am_xn 0 (c1 := (71, [.ref 9, .int (zi x1), .int (zi x2)], [.int (zi (zshl 1 x1)), .int (zi (iv M3 11 3)), .ref 9], M3)) rfl ?_
    refine am_xbit 2 (zi (zshl 1 x1) ^^^ zi (-1)) (pc := 73) (ls := [.ref 9, .int (zi x1), .int (zi x2)]) (st := [.int (zi (iv M3 11 3)), .ref 9]) rfl ?_
    refine am_xn 0 (c1 := (73, [.ref 9, .int (zi x1), .int (zi x2)], [.int (zi (zxor (zshl 1 x1) (-1))), .int (zi (iv M3 11 3)), .ref 9], M3)) rfl ?_
    refine am_xbit 1 (zi (iv M3 11 3) &&& zi (zxor (zshl 1 x1) (-1))) (pc := 74) (ls := [.ref 9, .int (zi x1), .int (zi x2)]) (st := [.ref 9]) rfl ?_
    refine am_xn 0 (c1 := (74, [.ref 9, .int (zi x1), .int (zi x2)], [.int (zi (zand (iv M3 11 3) (zxor (zshl 1 x1) (-1)))), .ref 9], M3)) rfl ?_
    obtain ⟨M4, eM4⟩ : ∃ m, m = zup M3 11 3 (zand (iv M3 11 3) (zxor (zshl 1 x1) (-1))) := ⟨_, rfl⟩
    replace hv := hv M4 eM4
    refine am_xc t_Amd_setRevoked (.invokevirtual 69) 69 (av := [.ref 9, .int (zi (zand (iv M3 11 3) (zxor (zshl 1 x1) (-1))))]) (rest := []) (rv := none) (M' := M4) rfl rfl rfl rfl (Nat.le_of_ble_eq_true rfl) (fun _ => rfl) (by rw [eM4]; exact sp_c_setRevoked M3 (zand (iv M3 11 3) (zxor (zshl 1 x1) (-1)))) ?_
    refine am_xn 0 (c1 := (77, [.ref 9, .int (zi x1), .int (zi x2)], [], M4)) rfl ?_
    refine am_xn 4 (c1 := (83, [.ref 9, .int (zi x1), .int (zi x2)], [.int (zi x1), .int (zi 0), .ref 10], M4)) rfl ?_
    obtain ⟨g, hv⟩ := hv
    obtain ⟨M5, eM5⟩ : ∃ m, m = zup M4 11 0 x1 := ⟨_, rfl⟩
    replace hv := hv M5 eM5
    refine am_xc t_Row_set (.invokevirtual 24) 24 (av := [.ref 10, .int (zi 0), .int (zi x1)]) (rest := []) (rv := none) (M' := M5) rfl rfl rfl rfl (Nat.le_of_ble_eq_true rfl) (fun _ => rfl) (by rw [eM5]; exact sp_set_10 M4 0 x1 g) ?_
    refine am_xn 0 (c1 := (86, [.ref 9, .int (zi x1), .int (zi x2)], [], M5)) rfl ?_
    exact am_xr none ⟨rfl, rfl, rfl⟩ hv
set_option maxRecDepth 100000 in
theorem vc_c_withdraw  (M : am_M) (Q : Option Value → am_M → Prop) (hv : ((iv M 11 0) = 0 → Q (some (.int (zi (-3)))) M) ∧ (¬ (iv M 11 0) = 0 → ∃ M1, am_call t_Arc_push [.ref 12, .ref 9] M none M1 ∧ (∃ M2, am_call t_Amd_removeLast [.ref 9] M1 none M2 ∧ (Q (some (.int (zi (iv M2 11 0)))) M2)))) : am_x t_SB_withdraw (0, am_ent (am_mL t_SB_withdraw) [.ref 0], [], M) Q := by
  refine am_xn 0 (c1 := (0, [.ref 0], [], M)) rfl ?_
  refine am_xn 2 (c1 := (4, [.ref 0], [.ref 9], M)) rfl ?_
  refine am_xc t_Amd_size (.invokevirtual 96) 96 (av := [.ref 9]) (rest := []) (rv := some (.int (zi (iv M 11 0)))) (M' := M) rfl rfl rfl rfl (Nat.le_of_ble_eq_true rfl) (fun _ => rfl) (sp_c_size M) ?_
  refine am_xn 0 (c1 := (7, [.ref 0], [.int (zi (iv M 11 0))], M)) rfl ?_
  refine am_xn 1 (c1 := (if zi (iv M 11 0) = zi 0 then 10 else 13, [.ref 0], [], M)) rfl (am_xeq (iv_r _ _ _) (by decide) (fun h => ?_) (fun h => ?_))
  · replace hv := hv.1 h
    refine am_xn 1 (c1 := (12, [.ref 0], [.int (zi (-3))], M)) rfl ?_
    exact am_xr (some (.int (zi (-3)))) ⟨rfl, rfl, .int, rfl, rfl⟩ hv
  · replace hv := hv.2 h
    refine am_xn 4 (c1 := (21, [.ref 0], [.ref 9, .ref 12], M)) rfl ?_
    obtain ⟨M1, hc, hv⟩ := hv
    refine am_xc t_Arc_push (.invokevirtual 88) 88 (av := [.ref 12, .ref 9]) (rest := []) (rv := none) (M' := M1) rfl rfl rfl rfl (Nat.le_of_ble_eq_true rfl) (fun _ => rfl) (hc) ?_
    refine am_xn 0 (c1 := (24, [.ref 0], [], M1)) rfl ?_
    refine am_xn 2 (c1 := (28, [.ref 0], [.ref 9], M1)) rfl ?_
    obtain ⟨M2, hc, hv⟩ := hv
    refine am_xc t_Amd_removeLast (.invokevirtual 119) 119 (av := [.ref 9]) (rest := []) (rv := none) (M' := M2) rfl rfl rfl rfl (Nat.le_of_ble_eq_true rfl) (fun _ => rfl) (hc) ?_
    refine am_xn 0 (c1 := (31, [.ref 0], [], M2)) rfl ?_
    refine am_xn 2 (c1 := (35, [.ref 0], [.ref 9], M2)) rfl ?_
    refine am_xc t_Amd_size (.invokevirtual 96) 96 (av := [.ref 9]) (rest := []) (rv := some (.int (zi (iv M2 11 0)))) (M' := M2) rfl rfl rfl rfl (Nat.le_of_ble_eq_true rfl) (fun _ => rfl) (sp_c_size M2) ?_
    refine am_xn 0 (c1 := (38, [.ref 0], [.int (zi (iv M2 11 0))], M2)) rfl ?_
    exact am_xr (some (.int (zi (iv M2 11 0)))) ⟨rfl, rfl, .int, rfl, rfl⟩ hv
set_option maxRecDepth 100000 in
theorem vc_m_withdraw  (M : am_M) (Q : Option Value → am_M → Prop) (hv : ((iv M 59 0) = 0 → Q (some (.int (zi (-3)))) M) ∧ (¬ (iv M 59 0) = 0 → ∃ M1, am_call t_Mo_keeps [.ref 58] M none M1 ∧ ((0 ≤ (0 : Int) ∧ (0 : Int) < 1501) ∧ (∀ M2, M2 = zup M1 59 0 ((iv M1 59 0) - 1) → Q (some (.int (zi (iv M2 59 0)))) M2)))) : am_x t_Mo_withdraw (0, am_ent (am_mL t_Mo_withdraw) [.ref 58], [], M) Q := by
  refine am_xn 0 (c1 := (0, [.ref 58], [], M)) rfl ?_
  refine am_xrd 4 59 0 (pc := 6) (ls := [.ref 58]) (st := []) rfl ?_
  refine am_xn 1 (c1 := (if zi (iv M 59 0) = zi 0 then 9 else 12, [.ref 58], [], M)) rfl (am_xeq (iv_r _ _ _) (by decide) (fun h => ?_) (fun h => ?_))
  · replace hv := hv.1 h
    refine am_xn 1 (c1 := (11, [.ref 58], [.int (zi (-3))], M)) rfl ?_
    exact am_xr (some (.int (zi (-3)))) ⟨rfl, rfl, .int, rfl, rfl⟩ hv
  · replace hv := hv.2 h
    refine am_xn 1 (c1 := (13, [.ref 58], [.ref 58], M)) rfl ?_
    obtain ⟨M1, hc, hv⟩ := hv
    refine am_xc t_Mo_keeps (.invokevirtual 230) 230 (av := [.ref 58]) (rest := []) (rv := none) (M' := M1) rfl rfl rfl rfl (Nat.le_of_ble_eq_true rfl) (fun _ => rfl) (hc) ?_
    refine am_xn 0 (c1 := (16, [.ref 58], [], M1)) rfl ?_
    refine am_xrd 5 59 0 (pc := 23) (ls := [.ref 58]) (st := [.int (zi 0), .ref 59]) rfl ?_
    refine am_xisub 2 (iv M1 59 0) 1 (pc := 25) (ls := [.ref 58]) (st := [.int (zi 0), .ref 59]) rfl ?_
    obtain ⟨r3, hv⟩ := hv
    refine am_xast rfl rfl rfl r3 ?_
    refine am_xn 0 (c1 := (26, [.ref 58], [], zup M1 59 0 ((iv M1 59 0) - 1))) rfl ?_
    obtain ⟨M2, eM2⟩ : ∃ m, m = zup M1 59 0 ((iv M1 59 0) - 1) := ⟨_, rfl⟩
    replace hv := hv M2 eM2
    rw [← eM2]
    refine am_xrd 4 59 0 (pc := 32) (ls := [.ref 58]) (st := []) rfl ?_
    exact am_xr (some (.int (zi (iv M2 59 0)))) ⟨rfl, rfl, .int, rfl, rfl⟩ hv
set_option maxRecDepth 100000 in
theorem vc_c_undo  (M : am_M) (Q : Option Value → am_M → Prop) (hv : ∃ (r2 : Int) (M1 : am_M), am_call t_Arc_states [.ref 12] M (some (.int (zi r2))) M1 ∧ ((zr r2) ∧ ((r2 = 0 → Q (some (.int (zi (-3)))) M1) ∧ (¬ r2 = 0 → ∃ M4, am_call t_Arc_pop [.ref 12, .ref 9] M1 none M4 ∧ (∃ (r6 : Int) (M5 : am_M), am_call t_Arc_states [.ref 12] M4 (some (.int (zi r6))) M5 ∧ (Q (some (.int (zi r6))) M5)))))) : am_x t_SB_undo (0, am_ent (am_mL t_SB_undo) [.ref 0], [], M) Q := by
  refine am_xn 0 (c1 := (0, [.ref 0], [], M)) rfl ?_
  refine am_xn 2 (c1 := (4, [.ref 0], [.ref 12], M)) rfl ?_
  obtain ⟨r2, M1, hc, hv⟩ := hv
  refine am_xc t_Arc_states (.invokevirtual 122) 122 (av := [.ref 12]) (rest := []) (rv := some (.int (zi r2))) (M' := M1) rfl rfl rfl rfl (Nat.le_of_ble_eq_true rfl) (fun _ => rfl) (hc) ?_
  refine am_xn 0 (c1 := (7, [.ref 0], [.int (zi r2)], M1)) rfl ?_
  obtain ⟨r3, hv⟩ := hv
  refine am_xn 1 (c1 := (if zi r2 = zi 0 then 10 else 13, [.ref 0], [], M1)) rfl (am_xeq r3 (by decide) (fun h => ?_) (fun h => ?_))
  · replace hv := hv.1 h
    refine am_xn 1 (c1 := (12, [.ref 0], [.int (zi (-3))], M1)) rfl ?_
    exact am_xr (some (.int (zi (-3)))) ⟨rfl, rfl, .int, rfl, rfl⟩ hv
  · replace hv := hv.2 h
    refine am_xn 4 (c1 := (21, [.ref 0], [.ref 9, .ref 12], M1)) rfl ?_
    obtain ⟨M4, hc, hv⟩ := hv
    refine am_xc t_Arc_pop (.invokevirtual 125) 125 (av := [.ref 12, .ref 9]) (rest := []) (rv := none) (M' := M4) rfl rfl rfl rfl (Nat.le_of_ble_eq_true rfl) (fun _ => rfl) (hc) ?_
    refine am_xn 0 (c1 := (24, [.ref 0], [], M4)) rfl ?_
    refine am_xn 2 (c1 := (28, [.ref 0], [.ref 12], M4)) rfl ?_
    obtain ⟨r6, M5, hc, hv⟩ := hv
    refine am_xc t_Arc_states (.invokevirtual 122) 122 (av := [.ref 12]) (rest := []) (rv := some (.int (zi r6))) (M' := M5) rfl rfl rfl rfl (Nat.le_of_ble_eq_true rfl) (fun _ => rfl) (hc) ?_
    refine am_xn 0 (c1 := (31, [.ref 0], [.int (zi r6)], M5)) rfl ?_
    exact am_xr (some (.int (zi r6))) ⟨rfl, rfl, .int, rfl, rfl⟩ hv
set_option maxRecDepth 100000 in
theorem vc_m_undo  (M : am_M) (Q : Option Value → am_M → Prop) (hv : ((iv M 58 2) = 0 → Q (some (.int (zi (-3)))) M) ∧ (¬ (iv M 58 2) = 0 → ∀ M1, M1 = zup M 58 2 ((iv M 58 2) - 1) → am_x t_Mo_undo (22, [.ref 58, .int (zi 0)], [], M1) Q)) : am_x t_Mo_undo (0, am_ent (am_mL t_Mo_undo) [.ref 58], [], M) Q := by
  refine am_xn 0 (c1 := (0, [.ref 58, .null], [], M)) rfl ?_
  refine am_xrd 2 58 2 (pc := 4) (ls := [.ref 58, .null]) (st := []) rfl ?_
  refine am_xn 1 (c1 := (if zi (iv M 58 2) = zi 0 then 7 else 10, [.ref 58, .null], [], M)) rfl (am_xeq (iv_r _ _ _) (by decide) (fun h => ?_) (fun h => ?_))
  · replace hv := hv.1 h
    refine am_xn 1 (c1 := (9, [.ref 58, .null], [.int (zi (-3))], M)) rfl ?_
    exact am_xr (some (.int (zi (-3)))) ⟨rfl, rfl, .int, rfl, rfl⟩ hv
  · replace hv := hv.2 h
    refine am_xrd 3 58 2 (pc := 15) (ls := [.ref 58, .null]) (st := [.ref 58]) rfl ?_
    refine am_xisub 2 (iv M 58 2) 1 (pc := 17) (ls := [.ref 58, .null]) (st := [.ref 58]) rfl ?_
    refine am_xn 1 (c1 := (20, [.ref 58, .null], [], zup M 58 2 ((iv M 58 2) - 1))) rfl ?_
    obtain ⟨M1, eM1⟩ : ∃ m, m = zup M 58 2 ((iv M 58 2) - 1) := ⟨_, rfl⟩
    replace hv := hv M1 eM1
    rw [← eM1]
    refine am_xn 2 (c1 := (22, [.ref 58, .int (zi 0)], [], M1)) rfl ?_
    exact hv
set_option maxRecDepth 100000 in
theorem vc_m_undo_22 (x1 : Int) (M : am_M) (Q : Option Value → am_M → Prop) (hv : (zr x1) ∧ ((x1 < 1501 → (0 ≤ ((1501 * (iv M 58 2)) + x1) ∧ ((1501 * (iv M 58 2)) + x1) < 15010) ∧ ((0 ≤ x1 ∧ x1 < 1501) ∧ (∀ M3, M3 = zup M 59 x1 (iv M 60 ((1501 * (iv M 58 2)) + x1)) → am_x t_Mo_undo (22, [.ref 58, .int (zi (x1 + 1))], [], M3) Q))) ∧ (1501 ≤ x1 → Q (some (.int (zi (iv M 58 2)))) M))) : am_x t_Mo_undo (22, [.ref 58, .int (zi x1)], [], M) Q := by
  obtain ⟨r1, hv⟩ := hv
  refine am_xn 3 (c1 := (if zi x1 < zi 1501 then 29 else 56, [.ref 58, .int (zi x1)], [], M)) rfl (am_xlt r1 (by decide) (fun h => ?_) (fun h => ?_))
  · replace hv := hv.1 h
    refine am_xrd 8 58 2 (pc := 45) (ls := [.ref 58, .int (zi x1)]) (st := [.int (zi 1501), .ref 60, .int (zi x1), .ref 59]) rfl ?_
    refine am_ximul 1 1501 (iv M 58 2) (pc := 46) (ls := [.ref 58, .int (zi x1)]) (st := [.ref 60, .int (zi x1), .ref 59]) rfl ?_
    refine am_xiadd 2 (1501 * (iv M 58 2)) x1 (pc := 48) (ls := [.ref 58, .int (zi x1)]) (st := [.ref 60, .int (zi x1), .ref 59]) rfl ?_
    obtain ⟨r2, hv⟩ := hv
    refine am_xald rfl rfl rfl r2 ?_
    refine am_xn 0 (c1 := (49, [.ref 58, .int (zi x1)], [.int (zi (iv M 60 ((1501 * (iv M 58 2)) + x1))), .int (zi x1), .ref 59], M)) rfl ?_
    obtain ⟨r4, hv⟩ := hv
    refine am_xast rfl rfl rfl r4 ?_
    refine am_xn 0 (c1 := (50, [.ref 58, .int (zi x1)], [], zup M 59 x1 (iv M 60 ((1501 * (iv M 58 2)) + x1)))) rfl ?_
    obtain ⟨M3, eM3⟩ : ∃ m, m = zup M 59 x1 (iv M 60 ((1501 * (iv M 58 2)) + x1)) := ⟨_, rfl⟩
    replace hv := hv M3 eM3
    rw [← eM3]
    refine am_xn 1 (c1 := (53, [.ref 58, .int (zi x1 + zi 1)], [], M3)) rfl ?_
    rw [zi_add]
    refine am_xn 1 (c1 := (22, [.ref 58, .int (zi (x1 + 1))], [], M3)) rfl ?_
    exact hv
  · replace hv := hv.2 h
    refine am_xrd 2 58 2 (pc := 60) (ls := [.ref 58, .int (zi x1)]) (st := []) rfl ?_
    exact am_xr (some (.int (zi (iv M 58 2)))) ⟨rfl, rfl, .int, rfl, rfl⟩ hv
set_option maxRecDepth 100000 in
theorem vc_c_save (k : Int) (M : am_M) (Q : Option Value → am_M → Prop) (hv : (zr k ∧ zr (1 : Int)) ∧ ((0 ≤ k ∧ k ≤ 1 → ∃ M1, am_call t_Arc_keepSnapshot [.ref 12, .int (zi k), .ref 9] M none M1 ∧ (Q (some (.int (zi (iv M1 11 0)))) M1)) ∧ (¬ (0 ≤ k ∧ k ≤ 1) → Q (some (.int (zi (-2)))) M))) : am_x t_SB_save (0, am_ent (am_mL t_SB_save) [.ref 0, .int (zi k)], [], M) Q := by
  refine am_xn 0 (c1 := (0, [.ref 0, .int (zi k)], [], M)) rfl ?_
  refine am_xn 2 (c1 := (2, [.ref 0, .int (zi k)], [.int (zi 1), .int (zi k)], M)) rfl ?_
  obtain ⟨g, hv⟩ := hv
  by_cases c2 : 0 ≤ k ∧ k ≤ 1
  · replace hv := hv.1 c2
    refine am_xc t_SB_within (.invokestatic 56) 56 (av := [.int (zi k), .int (zi 1)]) (rest := []) (rv := some (.int (zi 1))) (M' := M) rfl rfl rfl rfl (Nat.le_of_ble_eq_true rfl) (fun h => nomatch h) (by have q := sp_within M k 1 g; rwa [if_pos c2] at q) ?_
    refine am_xn 0 (c1 := (5, [.ref 0, .int (zi k)], [.int (zi 1)], M)) rfl ?_
    refine am_xn 6 (c1 := (20, [.ref 0, .int (zi k)], [.ref 9, .int (zi k), .ref 12], M)) rfl ?_
    obtain ⟨M1, hc, hv⟩ := hv
    refine am_xc t_Arc_keepSnapshot (.invokevirtual 291) 291 (av := [.ref 12, .int (zi k), .ref 9]) (rest := []) (rv := none) (M' := M1) rfl rfl rfl rfl (Nat.le_of_ble_eq_true rfl) (fun _ => rfl) (hc) ?_
    refine am_xn 0 (c1 := (23, [.ref 0, .int (zi k)], [], M1)) rfl ?_
    refine am_xn 2 (c1 := (27, [.ref 0, .int (zi k)], [.ref 9], M1)) rfl ?_
    refine am_xc t_Amd_size (.invokevirtual 96) 96 (av := [.ref 9]) (rest := []) (rv := some (.int (zi (iv M1 11 0)))) (M' := M1) rfl rfl rfl rfl (Nat.le_of_ble_eq_true rfl) (fun _ => rfl) (sp_c_size M1) ?_
    refine am_xn 0 (c1 := (30, [.ref 0, .int (zi k)], [.int (zi (iv M1 11 0))], M1)) rfl ?_
    exact am_xr (some (.int (zi (iv M1 11 0)))) ⟨rfl, rfl, .int, rfl, rfl⟩ hv
  · replace hv := hv.2 c2
    refine am_xc t_SB_within (.invokestatic 56) 56 (av := [.int (zi k), .int (zi 1)]) (rest := []) (rv := some (.int (zi 0))) (M' := M) rfl rfl rfl rfl (Nat.le_of_ble_eq_true rfl) (fun h => nomatch h) (by have q := sp_within M k 1 g; rwa [if_neg c2] at q) ?_
    refine am_xn 0 (c1 := (5, [.ref 0, .int (zi k)], [.int (zi 0)], M)) rfl ?_
    refine am_xn 2 (c1 := (10, [.ref 0, .int (zi k)], [.int (zi (-2))], M)) rfl ?_
    exact am_xr (some (.int (zi (-2)))) ⟨rfl, rfl, .int, rfl, rfl⟩ hv
set_option maxRecDepth 100000 in
theorem vc_m_save (k : Int) (M : am_M) (Q : Option Value → am_M → Prop) (hv : (zr k ∧ zr (0 : Int) ∧ zr (1 : Int)) ∧ ((0 ≤ k ∧ k ≤ 1 → am_x t_Mo_save (14, [.ref 58, .int (zi k), .int (zi 0)], [], M) Q) ∧ (¬ (0 ≤ k ∧ k ≤ 1) → Q (some (.int (zi (-2)))) M))) : am_x t_Mo_save (0, am_ent (am_mL t_Mo_save) [.ref 58, .int (zi k)], [], M) Q := by
  refine am_xn 0 (c1 := (0, [.ref 58, .int (zi k), .null], [], M)) rfl ?_
  refine am_xn 3 (c1 := (3, [.ref 58, .int (zi k), .null], [.int (zi 1), .int (zi 0), .int (zi k)], M)) rfl ?_
  obtain ⟨g, hv⟩ := hv
  by_cases c1 : 0 ≤ k ∧ k ≤ 1
  · replace hv := hv.1 c1
    refine am_xc t_Mo_in (.invokestatic 76) 76 (av := [.int (zi k), .int (zi 0), .int (zi 1)]) (rest := []) (rv := some (.int (zi 1))) (M' := M) rfl rfl rfl rfl (Nat.le_of_ble_eq_true rfl) (fun h => nomatch h) (by have q := sp_in M k 0 1 g; rwa [if_pos c1] at q) ?_
    refine am_xn 0 (c1 := (6, [.ref 58, .int (zi k), .null], [.int (zi 1)], M)) rfl ?_
    refine am_xn 3 (c1 := (14, [.ref 58, .int (zi k), .int (zi 0)], [], M)) rfl ?_
    exact hv
  · replace hv := hv.2 c1
    refine am_xc t_Mo_in (.invokestatic 76) 76 (av := [.int (zi k), .int (zi 0), .int (zi 1)]) (rest := []) (rv := some (.int (zi 0))) (M' := M) rfl rfl rfl rfl (Nat.le_of_ble_eq_true rfl) (fun h => nomatch h) (by have q := sp_in M k 0 1 g; rwa [if_neg c1] at q) ?_
    refine am_xn 0 (c1 := (6, [.ref 58, .int (zi k), .null], [.int (zi 0)], M)) rfl ?_
    refine am_xn 2 (c1 := (11, [.ref 58, .int (zi k), .null], [.int (zi (-2))], M)) rfl ?_
    exact am_xr (some (.int (zi (-2)))) ⟨rfl, rfl, .int, rfl, rfl⟩ hv
set_option maxRecDepth 100000 in
theorem vc_m_save_14 (x1 : Int) (x2 : Int) (M : am_M) (Q : Option Value → am_M → Prop) (hv : (zr x2) ∧ ((x2 < 1501 → (0 ≤ x2 ∧ x2 < 1501) ∧ ((0 ≤ ((1501 * x1) + x2) ∧ ((1501 * x1) + x2) < 3002) ∧ (∀ M3, M3 = zup M 61 ((1501 * x1) + x2) (iv M 59 x2) → am_x t_Mo_save (14, [.ref 58, .int (zi x1), .int (zi (x2 + 1))], [], M3) Q))) ∧ (1501 ≤ x2 → (0 ≤ x1 ∧ x1 < 2) ∧ (∀ M5, M5 = zup M 62 x1 1 → Q (some (.int (zi (iv M5 59 0)))) M5)))) : am_x t_Mo_save (14, [.ref 58, .int (zi x1), .int (zi x2)], [], M) Q := by
  obtain ⟨r1, hv⟩ := hv
  refine am_xn 3 (c1 := (if zi x2 < zi 1501 then 21 else 45, [.ref 58, .int (zi x1), .int (zi x2)], [], M)) rfl (am_xlt r1 (by decide) (fun h => ?_) (fun h => ?_))
  · replace hv := hv.1 h
    refine am_ximul 5 1501 x1 (pc := 30) (ls := [.ref 58, .int (zi x1), .int (zi x2)]) (st := [.ref 61]) rfl ?_
    refine am_xiadd 2 (1501 * x1) x2 (pc := 32) (ls := [.ref 58, .int (zi x1), .int (zi x2)]) (st := [.ref 61]) rfl ?_
    obtain ⟨r2, hv⟩ := hv
    refine am_xn 3 (c1 := (37, [.ref 58, .int (zi x1), .int (zi x2)], [.int (zi x2), .ref 59, .int (zi ((1501 * x1) + x2)), .ref 61], M)) rfl ?_
    refine am_xald rfl rfl rfl r2 ?_
    refine am_xn 0 (c1 := (38, [.ref 58, .int (zi x1), .int (zi x2)], [.int (zi (iv M 59 x2)), .int (zi ((1501 * x1) + x2)), .ref 61], M)) rfl ?_
    obtain ⟨r4, hv⟩ := hv
    refine am_xast rfl rfl rfl r4 ?_
    refine am_xn 0 (c1 := (39, [.ref 58, .int (zi x1), .int (zi x2)], [], zup M 61 ((1501 * x1) + x2) (iv M 59 x2))) rfl ?_
    obtain ⟨M3, eM3⟩ : ∃ m, m = zup M 61 ((1501 * x1) + x2) (iv M 59 x2) := ⟨_, rfl⟩
    replace hv := hv M3 eM3
    rw [← eM3]
    refine am_xn 1 (c1 := (42, [.ref 58, .int (zi x1), .int (zi x2 + zi 1)], [], M3)) rfl ?_
    rw [zi_add]
    refine am_xn 1 (c1 := (14, [.ref 58, .int (zi x1), .int (zi (x2 + 1))], [], M3)) rfl ?_
    exact hv
  · replace hv := hv.2 h
    obtain ⟨r6, hv⟩ := hv
    refine am_xn 4 (c1 := (51, [.ref 58, .int (zi x1), .int (zi x2)], [.int (zi 1), .int (zi x1), .ref 62], M)) rfl ?_
    refine am_xast rfl rfl rfl r6 ?_
    refine am_xn 0 (c1 := (52, [.ref 58, .int (zi x1), .int (zi x2)], [], zup M 62 x1 1)) rfl ?_
    obtain ⟨M5, eM5⟩ : ∃ m, m = zup M 62 x1 1 := ⟨_, rfl⟩
    replace hv := hv M5 eM5
    rw [← eM5]
    refine am_xrd 4 59 0 (pc := 58) (ls := [.ref 58, .int (zi x1), .int (zi x2)]) (st := []) rfl ?_
    exact am_xr (some (.int (zi (iv M5 59 0)))) ⟨rfl, rfl, .int, rfl, rfl⟩ hv
set_option maxRecDepth 100000 in
theorem vc_c_restore (k : Int) (M : am_M) (Q : Option Value → am_M → Prop) (hv : (zr k ∧ zr (1 : Int)) ∧ ((0 ≤ k ∧ k ≤ 1 → ∃ (r2 : Int) (M1 : am_M), am_call t_Arc_hasSnapshot [.ref 12, .int (zi k)] M (some (.int (zi r2))) M1 ∧ ((zr r2) ∧ ((r2 = 0 → Q (some (.int (zi (-3)))) M1) ∧ (¬ r2 = 0 → ∃ M4, am_call t_Arc_bringSnapshot [.ref 12, .int (zi k), .ref 9] M1 none M4 ∧ (Q (some (.int (zi (iv M4 11 0)))) M4))))) ∧ (¬ (0 ≤ k ∧ k ≤ 1) → Q (some (.int (zi (-2)))) M))) : am_x t_SB_restore (0, am_ent (am_mL t_SB_restore) [.ref 0, .int (zi k)], [], M) Q := by
  refine am_xn 0 (c1 := (0, [.ref 0, .int (zi k)], [], M)) rfl ?_
  refine am_xn 2 (c1 := (2, [.ref 0, .int (zi k)], [.int (zi 1), .int (zi k)], M)) rfl ?_
  obtain ⟨g, hv⟩ := hv
  by_cases c5 : 0 ≤ k ∧ k ≤ 1
  · replace hv := hv.1 c5
    refine am_xc t_SB_within (.invokestatic 56) 56 (av := [.int (zi k), .int (zi 1)]) (rest := []) (rv := some (.int (zi 1))) (M' := M) rfl rfl rfl rfl (Nat.le_of_ble_eq_true rfl) (fun h => nomatch h) (by have q := sp_within M k 1 g; rwa [if_pos c5] at q) ?_
    refine am_xn 0 (c1 := (5, [.ref 0, .int (zi k)], [.int (zi 1)], M)) rfl ?_
    refine am_xn 4 (c1 := (16, [.ref 0, .int (zi k)], [.int (zi k), .ref 12], M)) rfl ?_
    obtain ⟨r2, M1, hc, hv⟩ := hv
    refine am_xc t_Arc_hasSnapshot (.invokevirtual 295) 295 (av := [.ref 12, .int (zi k)]) (rest := []) (rv := some (.int (zi r2))) (M' := M1) rfl rfl rfl rfl (Nat.le_of_ble_eq_true rfl) (fun _ => rfl) (hc) ?_
    refine am_xn 0 (c1 := (19, [.ref 0, .int (zi k)], [.int (zi r2)], M1)) rfl ?_
    obtain ⟨r3, hv⟩ := hv
    refine am_xn 1 (c1 := (if zi r2 = zi 0 then 22 else 25, [.ref 0, .int (zi k)], [], M1)) rfl (am_xeq r3 (by decide) (fun h => ?_) (fun h => ?_))
    · replace hv := hv.1 h
      refine am_xn 1 (c1 := (24, [.ref 0, .int (zi k)], [.int (zi (-3))], M1)) rfl ?_
      exact am_xr (some (.int (zi (-3)))) ⟨rfl, rfl, .int, rfl, rfl⟩ hv
    · replace hv := hv.2 h
      refine am_xn 5 (c1 := (34, [.ref 0, .int (zi k)], [.ref 9, .int (zi k), .ref 12], M1)) rfl ?_
      obtain ⟨M4, hc, hv⟩ := hv
      refine am_xc t_Arc_bringSnapshot (.invokevirtual 298) 298 (av := [.ref 12, .int (zi k), .ref 9]) (rest := []) (rv := none) (M' := M4) rfl rfl rfl rfl (Nat.le_of_ble_eq_true rfl) (fun _ => rfl) (hc) ?_
      refine am_xn 0 (c1 := (37, [.ref 0, .int (zi k)], [], M4)) rfl ?_
      refine am_xn 2 (c1 := (41, [.ref 0, .int (zi k)], [.ref 9], M4)) rfl ?_
      refine am_xc t_Amd_size (.invokevirtual 96) 96 (av := [.ref 9]) (rest := []) (rv := some (.int (zi (iv M4 11 0)))) (M' := M4) rfl rfl rfl rfl (Nat.le_of_ble_eq_true rfl) (fun _ => rfl) (sp_c_size M4) ?_
      refine am_xn 0 (c1 := (44, [.ref 0, .int (zi k)], [.int (zi (iv M4 11 0))], M4)) rfl ?_
      exact am_xr (some (.int (zi (iv M4 11 0)))) ⟨rfl, rfl, .int, rfl, rfl⟩ hv
  · replace hv := hv.2 c5
    refine am_xc t_SB_within (.invokestatic 56) 56 (av := [.int (zi k), .int (zi 1)]) (rest := []) (rv := some (.int (zi 0))) (M' := M) rfl rfl rfl rfl (Nat.le_of_ble_eq_true rfl) (fun h => nomatch h) (by have q := sp_within M k 1 g; rwa [if_neg c5] at q) ?_
    refine am_xn 0 (c1 := (5, [.ref 0, .int (zi k)], [.int (zi 0)], M)) rfl ?_
    refine am_xn 2 (c1 := (10, [.ref 0, .int (zi k)], [.int (zi (-2))], M)) rfl ?_
    exact am_xr (some (.int (zi (-2)))) ⟨rfl, rfl, .int, rfl, rfl⟩ hv
set_option maxRecDepth 100000 in
theorem vc_m_restore (k : Int) (M : am_M) (Q : Option Value → am_M → Prop) (hv : (zr k ∧ zr (0 : Int) ∧ zr (1 : Int)) ∧ ((0 ≤ k ∧ k ≤ 1 → (0 ≤ k ∧ k < 2) ∧ (((iv M 62 k) = 0 → Q (some (.int (zi (-3)))) M) ∧ (¬ (iv M 62 k) = 0 → am_x t_Mo_restore (26, [.ref 58, .int (zi k), .int (zi 0)], [], M) Q))) ∧ (¬ (0 ≤ k ∧ k ≤ 1) → Q (some (.int (zi (-2)))) M))) : am_x t_Mo_restore (0, am_ent (am_mL t_Mo_restore) [.ref 58, .int (zi k)], [], M) Q := by
  refine am_xn 0 (c1 := (0, [.ref 58, .int (zi k), .null], [], M)) rfl ?_
  refine am_xn 3 (c1 := (3, [.ref 58, .int (zi k), .null], [.int (zi 1), .int (zi 0), .int (zi k)], M)) rfl ?_
  obtain ⟨g, hv⟩ := hv
  by_cases c2 : 0 ≤ k ∧ k ≤ 1
  · replace hv := hv.1 c2
    refine am_xc t_Mo_in (.invokestatic 76) 76 (av := [.int (zi k), .int (zi 0), .int (zi 1)]) (rest := []) (rv := some (.int (zi 1))) (M' := M) rfl rfl rfl rfl (Nat.le_of_ble_eq_true rfl) (fun h => nomatch h) (by have q := sp_in M k 0 1 g; rwa [if_pos c2] at q) ?_
    refine am_xn 0 (c1 := (6, [.ref 58, .int (zi k), .null], [.int (zi 1)], M)) rfl ?_
    obtain ⟨r1, hv⟩ := hv
    refine am_xn 4 (c1 := (17, [.ref 58, .int (zi k), .null], [.int (zi k), .ref 62], M)) rfl ?_
    refine am_xald rfl rfl rfl r1 ?_
    refine am_xn 0 (c1 := (18, [.ref 58, .int (zi k), .null], [.int (zi (iv M 62 k))], M)) rfl ?_
    refine am_xn 1 (c1 := (if zi (iv M 62 k) = zi 0 then 21 else 24, [.ref 58, .int (zi k), .null], [], M)) rfl (am_xeq (iv_r _ _ _) (by decide) (fun h => ?_) (fun h => ?_))
    · replace hv := hv.1 h
      refine am_xn 1 (c1 := (23, [.ref 58, .int (zi k), .null], [.int (zi (-3))], M)) rfl ?_
      exact am_xr (some (.int (zi (-3)))) ⟨rfl, rfl, .int, rfl, rfl⟩ hv
    · replace hv := hv.2 h
      refine am_xn 2 (c1 := (26, [.ref 58, .int (zi k), .int (zi 0)], [], M)) rfl ?_
      exact hv
  · replace hv := hv.2 c2
    refine am_xc t_Mo_in (.invokestatic 76) 76 (av := [.int (zi k), .int (zi 0), .int (zi 1)]) (rest := []) (rv := some (.int (zi 0))) (M' := M) rfl rfl rfl rfl (Nat.le_of_ble_eq_true rfl) (fun h => nomatch h) (by have q := sp_in M k 0 1 g; rwa [if_neg c2] at q) ?_
    refine am_xn 0 (c1 := (6, [.ref 58, .int (zi k), .null], [.int (zi 0)], M)) rfl ?_
    refine am_xn 2 (c1 := (11, [.ref 58, .int (zi k), .null], [.int (zi (-2))], M)) rfl ?_
    exact am_xr (some (.int (zi (-2)))) ⟨rfl, rfl, .int, rfl, rfl⟩ hv
set_option maxRecDepth 100000 in
theorem vc_m_restore_26 (x1 : Int) (x2 : Int) (M : am_M) (Q : Option Value → am_M → Prop) (hv : (zr x2) ∧ ((x2 < 1501 → (0 ≤ ((1501 * x1) + x2) ∧ ((1501 * x1) + x2) < 3002) ∧ ((0 ≤ x2 ∧ x2 < 1501) ∧ (∀ M3, M3 = zup M 59 x2 (iv M 61 ((1501 * x1) + x2)) → am_x t_Mo_restore (26, [.ref 58, .int (zi x1), .int (zi (x2 + 1))], [], M3) Q))) ∧ (1501 ≤ x2 → ∀ M5, M5 = zup M 58 2 0 → Q (some (.int (zi (iv M5 59 0)))) M5))) : am_x t_Mo_restore (26, [.ref 58, .int (zi x1), .int (zi x2)], [], M) Q := by
  obtain ⟨r1, hv⟩ := hv
  refine am_xn 3 (c1 := (if zi x2 < zi 1501 then 33 else 57, [.ref 58, .int (zi x1), .int (zi x2)], [], M)) rfl (am_xlt r1 (by decide) (fun h => ?_) (fun h => ?_))
  · replace hv := hv.1 h
    refine am_ximul 8 1501 x1 (pc := 47) (ls := [.ref 58, .int (zi x1), .int (zi x2)]) (st := [.ref 61, .int (zi x2), .ref 59]) rfl ?_
    refine am_xiadd 2 (1501 * x1) x2 (pc := 49) (ls := [.ref 58, .int (zi x1), .int (zi x2)]) (st := [.ref 61, .int (zi x2), .ref 59]) rfl ?_
    obtain ⟨r2, hv⟩ := hv
    refine am_xald rfl rfl rfl r2 ?_
    refine am_xn 0 (c1 := (50, [.ref 58, .int (zi x1), .int (zi x2)], [.int (zi (iv M 61 ((1501 * x1) + x2))), .int (zi x2), .ref 59], M)) rfl ?_
    obtain ⟨r4, hv⟩ := hv
    refine am_xast rfl rfl rfl r4 ?_
    refine am_xn 0 (c1 := (51, [.ref 58, .int (zi x1), .int (zi x2)], [], zup M 59 x2 (iv M 61 ((1501 * x1) + x2)))) rfl ?_
    obtain ⟨M3, eM3⟩ : ∃ m, m = zup M 59 x2 (iv M 61 ((1501 * x1) + x2)) := ⟨_, rfl⟩
    replace hv := hv M3 eM3
    rw [← eM3]
    refine am_xn 1 (c1 := (54, [.ref 58, .int (zi x1), .int (zi x2 + zi 1)], [], M3)) rfl ?_
    rw [zi_add]
    refine am_xn 1 (c1 := (26, [.ref 58, .int (zi x1), .int (zi (x2 + 1))], [], M3)) rfl ?_
    exact hv
  · replace hv := hv.2 h
    refine am_xn 3 (c1 := (62, [.ref 58, .int (zi x1), .int (zi x2)], [], zup M 58 2 0)) rfl ?_
    obtain ⟨M5, eM5⟩ : ∃ m, m = zup M 58 2 0 := ⟨_, rfl⟩
    replace hv := hv M5 eM5
    rw [← eM5]
    refine am_xrd 4 59 0 (pc := 68) (ls := [.ref 58, .int (zi x1), .int (zi x2)]) (st := []) rfl ?_
    exact am_xr (some (.int (zi (iv M5 59 0)))) ⟨rfl, rfl, .int, rfl, rfl⟩ hv
theorem and_not {s : Int} {a x : Int} (a0 : 0 ≤ a) (a1 : a < 20) (x0 : 0 ≤ x) (x1 : x < 32) : zbt (zand s (zxor (zshl 1 a) (-1))) x = if x = a then false else zbt s x := by
  rw [zb_and, zb_xor, zb_1 a0 (by omega) x0 x1, zb_m1 x0 x1]
  by_cases e : x = a
  · rw [if_pos e, decide_eq_true e, Bool.xor_self, Bool.and_false]
  · rw [if_neg e, decide_eq_false e, Bool.false_xor, Bool.and_true]
theorem sp_removeLast {M : am_M} {b : Int → Int} (s : BKr (iv M 11) b) (hn : 0 < b 0) : ∃ M', am_call t_Amd_removeLast [.ref 9] M none M' ∧ (∀ a, ¬ a = 11 → M' a = M a) ∧ iv M' 11 0 = b 0 - 1 ∧ BKr (iv M' 11) (fu b 0 (b 0 - 1)) := by
  obtain ⟨w, cbr⟩ := s
  have cbr' := cbr
  obtain ⟨⟨q0, q1, q2, q3, q4, q5⟩, q6, q7⟩ := cbr'
  have w1 := w.n1
  have wt := w.tot
  obtain ⟨n, en⟩ : ∃ n, n = b 0 - 1 := ⟨_, rfl⟩
  have f0 := w.fo_nn (n := n) (by omega)
  have f1 := w.fo_le (n := n) (by omega) (by omega)
  have sz := w.sz n (by omega) (by omega)
  have fs := fo_s b (show 0 ≤ n by omega)
  have eno : nops b = fo b (n + 1) := by unfold nops; rw [show b 0 = n + 1 by omega]
  suffices hh : am_x t_Amd_removeLast (0, am_ent (am_mL t_Amd_removeLast) [.ref 9], [], M) (fun r M' => r = none ∧ (∀ a, ¬ a = 11 → M' a = M a) ∧ iv M' 11 0 = b 0 - 1 ∧ BKr (iv M' 11) (fu b 0 (b 0 - 1))) by
    obtain ⟨r, M', h1, h2, h3⟩ := am_call_ex (by exact ⟨Nat.le_of_ble_eq_true rfl, rfl⟩) hh
    subst h2
    exact ⟨M', h1, h3⟩
  refine vc_removeLast M _ ?_
  rw [q0, ← en, q4 n (by omega) (by omega)]
  refine ⟨by omega, ?_⟩
  have iar := ia_le b (nops b) (by omega)
  have ian := ia_nn b (nops b)
  refine loop_up (fun i (s : am_M) => (13, [.ref 9, .int (zi n), .int (zi i)], [], s)) (nops b) (fun i s => fo b n ≤ i ∧ (∀ a, ¬ a = 11 → s a = M a) ∧ ∀ j, 0 ≤ j → iv s 11 j = if j = 2 then ia b (nops b) - (ia b i - ia b (fo b n)) else iv M 11 j) ?_ ?_ (fo b n) M f0 f1 ⟨Int.le_refl _, fun _ _ => rfl, fun j j0 => ?_⟩
  · intro s ⟨_, s1, s2⟩
    have e1 : iv s 11 1 = nops b := by rw [s2 1 (by decide), if_neg (by decide), q1]
    have e24 : iv s 11 (24 + n) = fo b n := by rw [s2 _ (by omega), if_neg (by omega), q4 n (by omega) (by omega)]
    have e3 : iv s 11 3 = iv M 11 3 := by rw [s2 3 (by decide), if_neg (by decide)]
    refine vc_removeLast_13 _ _ s _ ⟨⟨by omega, by omega⟩, fun q => by omega, fun _ => ⟨by omega, by decide, fun Ma ea Mb eb => ⟨by decide, fun Mc ec => ⟨rfl, fun a ha => by rw [ec, zupr _ ha, eb, zupr _ ha, ea, zupr _ ha, s1 a ha], ?_⟩⟩⟩⟩
    rw [e24] at ea
    have a3 : iv Ma 11 3 = iv M 11 3 := by rw [ea, ivs _ _ (by decide) (by decide) ⟨by omega, by omega⟩, if_neg (by decide), e3]
    rw [a3] at eb
    obtain ⟨c3, ec3⟩ : ∃ c3, c3 = zand (iv M 11 3) (zxor (zshl 1 n) (-1)) := ⟨_, rfl⟩
    have c3z : zr c3 := by rw [ec3]; exact zr_toInt _
    rw [← ec3] at eb
    have all : ∀ j, 0 ≤ j → iv Mc 11 j = if j = 0 then n else if j = 3 then c3 else if j = 1 then fo b n else iv s 11 j := fun j j0 => by
      rw [ec, ivs _ _ (by decide) j0 ⟨by omega, by omega⟩, eb, ivs _ _ (by decide) j0 c3z, ea, ivs _ _ (by decide) j0 ⟨by omega, by omega⟩]
    have rest : ∀ j, 4 ≤ j → iv Mc 11 j = iv M 11 j := fun j j0 => by
      rw [all j (by omega), if_neg (by omega), if_neg (by omega), if_neg (by omega), s2 j (by omega), if_neg (by omega)]
    have i0 : iv Mc 11 0 = n := by rw [all 0 (by decide), if_pos rfl]
    have i1 : iv Mc 11 1 = fo b n := by rw [all 1 (by decide), if_neg (by decide), if_neg (by decide), if_pos rfl]
    have i2 : iv Mc 11 2 = ia b (fo b n) := by rw [all 2 (by decide), if_neg (by decide), if_neg (by decide), if_neg (by decide), s2 2 (by decide), if_pos rfl]; omega
    have i3 : iv Mc 11 3 = c3 := by rw [all 3 (by decide), if_neg (by decide), if_pos rfl]
    have z0 : fu b 0 n 0 = n := fu_s ..
    have zn : nops (fu b 0 n) = fo b n := by unfold nops; rw [z0, fu_fo b (by omega)]
    have zx : ∀ j, ¬ j = 0 → fu b 0 n j = b j := fun j hj => fu_n b hj
    refine ⟨i0, ?_, ⟨?_, ?_, ?_, fun x x0 x1 => ?_, fun x x0 x1 => ?_, fun o o0 o1 => ?_⟩, ?_, fun x x0 x1 => ?_⟩
    · unfold WB
      rw [z0, zn]
      refine ⟨by omega, by omega, fun x x0 x1 => ?_, fun x x0 x1 => ?_, fun x x0 x1 => ?_, by omega, ?_, fun o o0 o1 => WO_fu (by omega) o0 (w.op o o0 (by omega))⟩
      · rw [zx _ (by omega)]; exact w.day x x0 (by omega)
      · rw [zx _ (by omega)]; exact w.rev x x0 (by omega)
      · rw [zx _ (by omega)]; exact w.sz x x0 (by omega)
      · rw [fu_ia b (by omega)]
        have := ia_mono b f0 f1
        have := w.ins
        omega
    · rw [i0, z0]
    · rw [i1, zn]
    · rw [i2, zn, fu_ia b (by omega)]
    · rw [z0] at x1
      rw [rest _ (by omega), zx _ (by omega)]; exact q3 x x0 (by omega)
    · rw [z0] at x1
      rw [rest _ (by omega), fu_fo b (by omega)]; exact q4 x x0 (by omega)
    · rw [zn] at o1
      exact CO_fu (by omega) o0 (fun j hj => rest j (by omega)) (q5 o o0 (by omega)) (w.op o o0 (by omega))
    · rw [i3, ec3]
      refine zb_rg (by rw [← ec3]; exact c3z) (fun x x0 x1 => ?_)
      rw [and_not (by omega) (by omega) (by omega) x1, if_neg (by omega), zb_of q6.1 q6.2 x0]
    · rw [i3, ec3, zb_is _ x0 (by omega), and_not (by omega) (by omega) x0 (by omega), z0]
      have h7 := q7 x x0 x1
      rw [zb_is _ x0 (by omega)] at h7
      by_cases e : x = n
      · rw [if_pos e, if_neg (show ¬ x < n by omega)]; rfl
      · rw [if_neg e, h7]
        by_cases l : x < n
        · rw [if_pos l, if_pos (by omega), zx _ (by omega)]
        · rw [if_neg l, if_neg (by omega)]
  · intro i s i0 i1 ⟨i2, s1, s2⟩ k
    have e1 : iv s 11 1 = nops b := by rw [s2 1 (by decide), if_neg (by decide), q1]
    have e0 : cpt (iv s 11) i 0 = pt b i 0 := by
      have : cpt (iv s 11) i 0 = cpt (iv M 11) i 0 := by
        show iv s 11 (45 + i * 13 + 0) = iv M 11 (45 + i * 13 + 0)
        rw [s2 _ (by omega), if_neg (by omega)]
      rw [this]
      exact (q5 i i0 i1).1
    have is := ia_s b i0
    have m1 := ia_mono b f0 i2
    have m2 := ia_mono b i0 (Int.le_of_lt i1)
    have m3 := ia_nn b (fo b n)
    refine vc_removeLast_13 _ _ s _ ⟨⟨by omega, by omega⟩, fun _ => ⟨⟨i0, by omega, by omega, by omega⟩, ?_⟩, fun q => by omega⟩
    rw [e0]
    refine ⟨fun q => ⟨by decide, fun M2 e2 => k M2 ⟨by omega, fun a ha => by rw [e2, zupr _ ha, s1 a ha], fun j j0 => ?_⟩⟩, fun q => k s ⟨by omega, s1, fun j j0 => ?_⟩⟩
    · rw [if_pos q] at is
      have v2 : iv s 11 2 = ia b (nops b) - (ia b i - ia b (fo b n)) := by rw [s2 2 (by decide), if_pos rfl]
      rw [e2, v2, ivs _ _ (by decide) j0 ⟨by omega, by omega⟩, s2 j j0]
      by_cases z : j = 2
      · rw [if_pos z, if_pos z]; omega
      · rw [if_neg z, if_neg z, if_neg z]
    · rw [if_neg q, Int.add_zero] at is
      rw [s2 j j0, is]
  · by_cases z : j = 2
    · rw [if_pos z, z, q2]; omega
    · rw [if_neg z]
theorem st_withdraw {M : am_M} (rr : RR M) : STEP t_SB_withdraw t_Mo_withdraw [.ref 0] [.ref 58] M := by
  have s := rr.1
  have w := s.1
  have cb := s.2
  have w1 := w.n1
  have w0 := w.n0
  by_cases hz : iv M 59 0 = 0
  · exact step_same rr (-3) ⟨Nat.le_of_ble_eq_true rfl, rfl⟩ ⟨Nat.le_of_ble_eq_true rfl, rfl⟩ (vc_c_withdraw M _ ⟨fun _ => ⟨rfl, rfl⟩, fun q => absurd (by rw [cb.1.1]; exact hz) q⟩) (vc_m_withdraw M _ ⟨fun _ => ⟨rfl, rfl⟩, fun q => absurd hz q⟩)
  · obtain ⟨M1, p1, p2, p3⟩ := st_change rr
    have r11 : M1 11 = M 11 := p2 11 (by decide) (by decide)
    obtain ⟨Mr, r1, r2, r3, r4⟩ := sp_removeLast (M := M1) (b := iv M 59) (by rw [iv_row r11]; exact s) (by omega)
    obtain ⟨M2, k1, k2, k3, k4⟩ := p3 Mr r2
    have r59 : M2 59 = M 59 := by rw [k2 59 (by decide) (by decide), r2 59 (by decide), p2 59 (by decide) (by decide)]
    have bk : BKr (iv (zup M2 59 0 (iv M 59 0 - 1)) 11) (iv (zup M2 59 0 (iv M 59 0 - 1)) 59) := by
      refine BKr_congr (c := iv Mr 11) (b := fu (iv M 59) 0 (iv M 59 0 - 1)) (fun j j0 j1 => ?_) (fun j j0 j1 => ?_) r4
      · rw [ivr _ (by decide), iv_row (k2 11 (by decide) (by decide))]
      · rw [ivs _ _ (by decide) j0 ⟨by omega, by omega⟩, iv_row r59]; rfl
    obtain ⟨f1, f2, f3⟩ := k4 (zup M2 59 0 (iv M 59 0 - 1)) (fun x hx => zupr _ hx) bk
    have q1 : iv Mr 59 = iv M 59 := by rw [iv_row (r2 59 (by decide)), iv_row (p2 59 (by decide) (by decide))]
    refine ⟨iv M 59 0 - 1, Mr, zup M2 59 0 (iv M 59 0 - 1), am_call_of ⟨Nat.le_of_ble_eq_true rfl, rfl⟩ (vc_c_withdraw M _ ⟨fun q => absurd (by rw [cb.1.1] at q; exact q) hz, fun _ => ⟨M1, p1, Mr, r1, by rw [r3], rfl⟩⟩), am_call_of ⟨Nat.le_of_ble_eq_true rfl, rfl⟩ (vc_m_withdraw _ _ ⟨fun q => absurd (by rw [q1] at q; exact q) hz, fun _ => ⟨M2, k1, by decide, fun Mx ex => ?_⟩⟩), f1, f2, f3⟩
    rw [iv_row r59] at ex
    refine ⟨?_, ex⟩
    rw [ex, ivs _ _ (by decide) (by decide) ⟨by omega, by omega⟩, if_pos rfl]
