/-! undo, save, restore -/
theorem sp_c_states (M : am_M) : am_call t_Arc_states [.ref 12] M (some (.int (zi (iv M 12 1)))) M := am_call_of ⟨Nat.le_of_ble_eq_true rfl, rfl⟩ (vc_c_states M _ ⟨rfl, rfl⟩)
theorem or_rg {s k : Int} (h0 : 0 ≤ s) (h1 : s ≤ 3) (k0 : 0 ≤ k) (k1 : k ≤ 1) : 0 ≤ zor s (zshl 1 k) ∧ zor s (zshl 1 k) ≤ 3 := by
  have hk : k = 0 ∨ k = 1 := by omega
  have hs : s = 0 ∨ s = 1 ∨ s = 2 ∨ s = 3 := by omega
  rcases hk with e | e <;> rcases hs with f | f | f | f <;> (subst e; subst f; decide +kernel)
theorem st_undo {M : am_M} (rr : RR M) : STEP t_SB_undo t_Mo_undo [.ref 0] [.ref 58] M := by
  have rr' := rr
  obtain ⟨s1, s2, s3, s4⟩ := rr'
  have s4' := s4
  obtain ⟨h1, h2, h3, h4, h5, h6⟩ := s4'
  by_cases hz : iv M 58 2 = 0
  · exact step_same rr (-3) ⟨Nat.le_of_ble_eq_true rfl, rfl⟩ ⟨Nat.le_of_ble_eq_true rfl, rfl⟩ (vc_c_undo M _ ⟨_, M, sp_c_states M, iv_r _ _ _, fun _ => ⟨rfl, rfl⟩, fun q => absurd (by rw [h2]; exact hz) q⟩) (vc_m_undo M _ ⟨fun _ => ⟨rfl, rfl⟩, fun q => absurd hz q⟩)
  · obtain ⟨u, eu⟩ : ∃ u, u = iv M 58 2 := ⟨_, rfl⟩
    obtain ⟨n, en⟩ : ∃ n, n = iv M 12 2 := ⟨_, rfl⟩
    rw [← eu] at h1 h2 h4 hz
    rw [← en] at h3 h4
    obtain ⟨M1, e1⟩ : ∃ M1, M1 = zup (zup (zcp M 14 11 (n * 1605) 0 1605) 12 2 ((n + 10 - 1) % 10)) 12 1 (u - 1) := ⟨_, rfl⟩
    have pc : am_call t_Arc_pop [.ref 12, .ref 9] M none M1 := by
      refine am_call_of ⟨Nat.le_of_ble_eq_true rfl, rfl⟩ (vc_pop M _ ⟨_, by rw [← en]; exact sp_bring M h3.1 (by omega), ?_⟩)
      have a2 : iv (zcp M 14 11 (n * 1605) 0 1605) 12 = iv M 12 := iv_row (iv_zcp_r _ (by decide))
      rw [a2, ← en]
      refine ⟨⟨by omega, by omega⟩, by omega, fun M4 e4 M5 e5 => ⟨rfl, ?_⟩⟩
      have : iv M4 12 1 = u := by rw [e4, ivs _ _ (by decide) (by decide) ⟨by omega, by omega⟩, if_neg (by decide), a2, h2]
      rw [e5, this, e4, e1]
    have c1 : iv M1 12 1 = u - 1 := by rw [e1, ivs _ _ (by decide) (by decide) ⟨by omega, by omega⟩, if_pos rfl]
    have c2 : iv M1 12 2 = (n + 10 - 1) % 10 := by rw [e1, ivs _ _ (by decide) (by decide) ⟨by omega, by omega⟩, if_neg (by decide), ivs _ _ (by decide) (by decide) ⟨by omega, by omega⟩, if_pos rfl]
    have c3 : iv M1 12 3 = iv M 12 3 := by rw [e1, ivs _ _ (by decide) (by decide) ⟨by omega, by omega⟩, if_neg (by decide), ivs _ _ (by decide) (by decide) ⟨by omega, by omega⟩, if_neg (by decide), iv_row (iv_zcp_r _ (by decide))]
    have c11 : ∀ j, 0 ≤ j → j < 1605 → iv M1 11 j = iv M 14 (n * 1605 + j) := fun j j0 j1 => by
      rw [e1, ivr _ (by decide), ivr _ (by decide), iv_zcp _ _ _ _ (by omega) (by decide) (by decide) j0, if_pos ⟨rfl, j0, by omega⟩, Int.sub_zero]
    have cro : ∀ a, ¬ a = 11 → ¬ a = 12 → M1 a = M a := fun a a1 a2 => by rw [e1, zupr _ a2, zupr _ a2, iv_zcp_r _ a1]
    have cc : am_call t_SB_undo [.ref 0] M (some (.int (zi (u - 1)))) M1 := am_call_of ⟨Nat.le_of_ble_eq_true rfl, rfl⟩ (vc_c_undo M _ ⟨_, M, sp_c_states M, iv_r _ _ _, fun q => by omega, fun _ => ⟨M1, pc, _, M1, sp_c_states M1, by rw [c1], rfl⟩⟩)
    have e582 : iv M1 58 2 = u := by rw [iv_row (cro 58 (by decide) (by decide)), eu]
    have mm : ∃ M2, am_call t_Mo_undo [.ref 58] M1 (some (.int (zi (u - 1)))) M2 ∧ (∀ a, ¬ a = 58 → ¬ a = 59 → M2 a = M1 a) ∧ (∀ j, ¬ j = 2 → M2 58 j = M1 58 j) ∧ iv M2 58 2 = u - 1 ∧ ∀ j, 0 ≤ j → j < 1501 → iv M2 59 j = iv M 60 (1501 * (u - 1) + j) := by
      suffices hh : am_x t_Mo_undo (0, am_ent (am_mL t_Mo_undo) [.ref 58], [], M1) (fun r M2 => r = some (.int (zi (u - 1))) ∧ (∀ a, ¬ a = 58 → ¬ a = 59 → M2 a = M1 a) ∧ (∀ j, ¬ j = 2 → M2 58 j = M1 58 j) ∧ iv M2 58 2 = u - 1 ∧ ∀ j, 0 ≤ j → j < 1501 → iv M2 59 j = iv M 60 (1501 * (u - 1) + j)) by
        obtain ⟨r, M', h1, h2, h3⟩ := am_call_ex (by exact ⟨Nat.le_of_ble_eq_true rfl, rfl⟩) hh
        subst h2
        exact ⟨M', h1, h3⟩
      refine vc_m_undo M1 _ ⟨fun q => by omega, fun _ Ma ea => ?_⟩
      rw [e582] at ea
      have b2 : iv Ma 58 2 = u - 1 := by rw [ea, ivs _ _ (by decide) (by decide) ⟨by omega, by omega⟩, if_pos rfl]
      refine loop_up (fun i (s : am_M) => (22, [.ref 58, .int (zi i)], [], s)) 1501 (fun i s => (∀ a, ¬ a = 59 → s a = Ma a) ∧ ∀ j, 0 ≤ j → j < i → iv s 59 j = iv M 60 (1501 * (u - 1) + j)) ?_ ?_ 0 Ma (by omega) (by omega) ⟨fun _ _ => rfl, fun j j0 j1 => by omega⟩
      · intro s ⟨t1, t2⟩
        refine vc_m_undo_22 _ s _ ⟨by decide, fun q => by omega, fun _ => ⟨by rw [iv_row (t1 58 (by decide)), b2], fun a a1 a2 => by rw [t1 a a2, ea, zupr _ a1], fun j hj => by rw [t1 58 (by decide), ea, zup58 _ (by decide) hj], by rw [iv_row (t1 58 (by decide)), b2], t2⟩⟩
      · intro i s i0 i1 ⟨t1, t2⟩ k
        have e60 : iv s 60 = iv M 60 := by rw [iv_row (t1 60 (by decide)), ea, ivr _ (by decide), iv_row (cro 60 (by decide) (by decide))]
        refine vc_m_undo_22 _ s _ ⟨⟨by omega, by omega⟩, fun _ => ?_, fun q => by omega⟩
        rw [iv_row (t1 58 (by decide)), b2, e60]
        refine ⟨⟨by omega, by omega⟩, ⟨i0, i1⟩, fun M3 e3 => k M3 ⟨fun a ha => by rw [e3, zupr _ ha, t1 a ha], fun j j0 j1 => ?_⟩⟩
        rw [e3, ivs _ _ i0 j0 (iv_r _ _ _)]
        by_cases z : j = i
        · rw [if_pos z, z]
        · rw [if_neg z]; exact t2 j j0 (by omega)
    obtain ⟨M2, m1, m2, m3, m4, m5⟩ := mm
    have row : ∀ a, ¬ a = 11 → ¬ a = 12 → ¬ a = 58 → ¬ a = 59 → M2 a = M a := fun a x1 x2 x3 x4 => by rw [m2 a x3 x4, cro a x1 x2]
    have fl : ∀ j, ¬ j = 2 → M2 58 j = M 58 j := fun j hj => by rw [m3 j hj, cro 58 (by decide) (by decide)]
    refine ⟨u - 1, M1, M2, cc, m1, ⟨?_, txt_rows s2 (row 2 (by decide) (by decide) (by decide) (by decide)) (row 3 (by decide) (by decide) (by decide) (by decide)) (row 73 (by decide) (by decide) (by decide) (by decide)) (fl 17 (by decide)), out_rows s3 (row 7 (by decide) (by decide) (by decide) (by decide)) (row 8 (by decide) (by decide) (by decide) (by decide)) (row 75 (by decide) (by decide) (by decide) (by decide)) (fl 23 (by decide)) (fl 24 (by decide)), ?_⟩, row 5000 (by decide) (by decide) (by decide) (by decide), row 5001 (by decide) (by decide) (by decide) (by decide)⟩
    · have hb := h4 (u - 1) (by omega) (by omega)
      refine BKr_congr (fun j j0 j1 => ?_) (fun j j0 j1 => ?_) hb
      · rw [iv_row (m2 11 (by decide) (by decide)), c11 j j0 j1]
        show iv M 14 _ = _
        congr 1
        omega
      · exact (m5 j j0 j1).symm
    · unfold ARC
      rw [m4, iv_row (m2 12 (by decide) (by decide)), c1, c2, c3, iv_row (row 14 (by decide) (by decide) (by decide) (by decide)), iv_row (row 60 (by decide) (by decide) (by decide) (by decide)), iv_row (row 61 (by decide) (by decide) (by decide) (by decide)), iv_row (row 62 (by decide) (by decide) (by decide) (by decide))]
      refine ⟨by omega, rfl, by omega, fun i i0 i1 => ?_, h5, h6⟩
      refine BKr_congr (fun j j0 j1 => ?_) (fun j j0 j1 => rfl) (h4 i i0 (by omega))
      show iv M 14 _ = iv M 14 _
      congr 1
      omega
theorem st_save {M : am_M} (rr : RR M) {k : Int} (kz : zr k) : STEP t_SB_save t_Mo_save [.ref 0, .int (zi k)] [.ref 58, .int (zi k)] M := by
  have rr' := rr
  obtain ⟨s1, s2, s3, s4⟩ := rr'
  have s4' := s4
  obtain ⟨h1, h2, h3, h4, h5, h6⟩ := s4'
  by_cases hk : 0 ≤ k ∧ k ≤ 1
  · obtain ⟨c3, ec3⟩ : ∃ c3, c3 = zor (iv M 12 3) (zshl 1 k) := ⟨_, rfl⟩
    have cr := or_rg h5.1 h5.2 hk.1 hk.2
    rw [← ec3] at cr
    obtain ⟨M1, e1⟩ : ∃ M1, M1 = zup (zcp M 11 14 0 ((10 + k) * 1605) 1605) 12 3 c3 := ⟨_, rfl⟩
    have pc : am_call t_Arc_keepSnapshot [.ref 12, .int (zi k), .ref 9] M none M1 := by
      refine am_call_of ⟨Nat.le_of_ble_eq_true rfl, rfl⟩ (vc_keepSnapshot k M _ ⟨_, sp_putAway M (by omega) (by omega), fun M2 e2 => ⟨rfl, ?_⟩⟩)
      rw [e2, iv_row (iv_zcp_r _ (by decide)), e1, ec3]
    have cro : ∀ a, ¬ a = 12 → ¬ a = 14 → M1 a = M a := fun a a1 a2 => by rw [e1, zupr _ a1, iv_zcp_r _ a2]
    have c12 : ∀ j, 0 ≤ j → ¬ j = 3 → iv M1 12 j = iv M 12 j := fun j j0 hj => by rw [e1, ivs _ _ (by decide) j0 ⟨by omega, by omega⟩, if_neg hj, iv_row (iv_zcp_r _ (by decide))]
    have c123 : iv M1 12 3 = c3 := by rw [e1, ivs _ _ (by decide) (by decide) ⟨by omega, by omega⟩, if_pos rfl]
    have c14 : ∀ j, 0 ≤ j → iv M1 14 j = if (10 + k) * 1605 ≤ j ∧ j < (10 + k) * 1605 + 1605 then iv M 11 (j - (10 + k) * 1605) else iv M 14 j := fun j j0 => by
      rw [e1, ivr _ (by decide), iv_zcp _ _ _ _ (by decide) (by omega) (by decide) j0]
      by_cases z : (10 + k) * 1605 ≤ j ∧ j < (10 + k) * 1605 + 1605
      · rw [if_pos z, if_pos ⟨rfl, z⟩, Int.zero_add]
      · rw [if_neg z, if_neg (fun y => z y.2)]
    have cc : am_call t_SB_save [.ref 0, .int (zi k)] M (some (.int (zi (iv M 59 0)))) M1 := am_call_of ⟨Nat.le_of_ble_eq_true rfl, rfl⟩ (vc_c_save k M _ ⟨⟨kz, by decide⟩, fun _ => ⟨M1, pc, by rw [iv_row (cro 11 (by decide) (by decide)), s1.2.1.1], rfl⟩, fun q => absurd hk q⟩)
    have mm : ∃ M2, am_call t_Mo_save [.ref 58, .int (zi k)] M1 (some (.int (zi (iv M 59 0)))) M2 ∧ (∀ a, ¬ a = 61 → ¬ a = 62 → M2 a = M1 a) ∧ (∀ j, 0 ≤ j → iv M2 62 j = if j = k then 1 else iv M 62 j) ∧ ∀ j, 0 ≤ j → iv M2 61 j = if 1501 * k ≤ j ∧ j < 1501 * k + 1501 then iv M 59 (j - 1501 * k) else iv M 61 j := by
      suffices hh : am_x t_Mo_save (0, am_ent (am_mL t_Mo_save) [.ref 58, .int (zi k)], [], M1) (fun r M2 => r = some (.int (zi (iv M 59 0))) ∧ (∀ a, ¬ a = 61 → ¬ a = 62 → M2 a = M1 a) ∧ (∀ j, 0 ≤ j → iv M2 62 j = if j = k then 1 else iv M 62 j) ∧ ∀ j, 0 ≤ j → iv M2 61 j = if 1501 * k ≤ j ∧ j < 1501 * k + 1501 then iv M 59 (j - 1501 * k) else iv M 61 j) by
        obtain ⟨r, M', h1, h2, h3⟩ := am_call_ex (by exact ⟨Nat.le_of_ble_eq_true rfl, rfl⟩) hh
        subst h2
        exact ⟨M', h1, h3⟩
      refine vc_m_save k M1 _ ⟨⟨kz, by decide, by decide⟩, fun _ => ?_, fun q => absurd hk q⟩
      refine loop_up (fun i (s : am_M) => (14, [.ref 58, .int (zi k), .int (zi i)], [], s)) 1501 (fun i s => (∀ a, ¬ a = 61 → s a = M1 a) ∧ ∀ j, 0 ≤ j → iv s 61 j = if 1501 * k ≤ j ∧ j < 1501 * k + i then iv M 59 (j - 1501 * k) else iv M 61 j) ?_ ?_ 0 M1 (by omega) (by omega) ⟨fun _ _ => rfl, fun j j0 => by rw [if_neg (by omega), iv_row (cro 61 (by decide) (by decide))]⟩
      · intro s ⟨t1, t2⟩
        refine vc_m_save_14 _ _ s _ ⟨by decide, fun q => by omega, fun _ => ⟨⟨hk.1, by omega⟩, fun M5 e5 => ⟨?_, fun a a1 a2 => by rw [e5, zupr _ a2, t1 a a1], fun j j0 => ?_, fun j j0 => ?_⟩⟩⟩
        · rw [e5, ivr _ (by decide), iv_row (t1 59 (by decide)), iv_row (cro 59 (by decide) (by decide))]
        · rw [e5, ivs _ _ hk.1 j0 (by decide), iv_row (t1 62 (by decide)), iv_row (cro 62 (by decide) (by decide))]
        · rw [e5, ivr _ (by decide), t2 j j0]
      · intro i s i0 i1 ⟨t1, t2⟩ kk
        have e59 : iv s 59 = iv M 59 := by rw [iv_row (t1 59 (by decide)), iv_row (cro 59 (by decide) (by decide))]
        refine vc_m_save_14 _ _ s _ ⟨⟨by omega, by omega⟩, fun _ => ⟨⟨i0, i1⟩, ⟨by omega, by omega⟩, fun M3 e3 => kk M3 ⟨fun a ha => by rw [e3, zupr _ ha, t1 a ha], fun j j0 => ?_⟩⟩, fun q => by omega⟩
        rw [e3, ivs _ _ (by omega) j0 (iv_r _ _ _), t2 j j0, e59]
        by_cases z : j = 1501 * k + i
        · rw [if_pos z, if_pos (by omega), show j - 1501 * k = i by omega]
        · rw [if_neg z]
          by_cases y : 1501 * k ≤ j ∧ j < 1501 * k + i
          · rw [if_pos y, if_pos (by omega)]
          · rw [if_neg y, if_neg (by omega)]
    obtain ⟨M2, m1, m2, m3, m4⟩ := mm
    have row : ∀ a, ¬ a = 12 → ¬ a = 14 → ¬ a = 61 → ¬ a = 62 → M2 a = M a := fun a x1 x2 x3 x4 => by rw [m2 a x3 x4, cro a x1 x2]
    have r58 : M2 58 = M 58 := row 58 (by decide) (by decide) (by decide) (by decide)
    refine ⟨iv M 59 0, M1, M2, cc, m1, ⟨cst_rows s1 (row 11 (by decide) (by decide) (by decide) (by decide)) (row 59 (by decide) (by decide) (by decide) (by decide)), txt_rows s2 (row 2 (by decide) (by decide) (by decide) (by decide)) (row 3 (by decide) (by decide) (by decide) (by decide)) (row 73 (by decide) (by decide) (by decide) (by decide)) (by rw [r58]), out_rows s3 (row 7 (by decide) (by decide) (by decide) (by decide)) (row 8 (by decide) (by decide) (by decide) (by decide)) (row 75 (by decide) (by decide) (by decide) (by decide)) (by rw [r58]) (by rw [r58]), ?_⟩, row 5000 (by decide) (by decide) (by decide) (by decide), row 5001 (by decide) (by decide) (by decide) (by decide)⟩
    have r12 := m2 12 (by decide) (by decide)
    have r14 := m2 14 (by decide) (by decide)
    unfold ARC
    rw [iv_row r58, iv_row r12, iv_row r14, c12 1 (by decide) (by decide), c12 2 (by decide) (by decide), c123, iv_row (row 60 (by decide) (by decide) (by decide) (by decide))]
    refine ⟨h1, h2, h3, fun i i0 i1 => ?_, cr, fun x x0 x1 => ?_⟩
    · refine BKr_congr (fun j j0 j1 => ?_) (fun j j0 j1 => rfl) (h4 i i0 i1)
      show iv M 14 _ = iv M1 14 _
      rw [c14 _ (by omega), if_neg (by omega)]
    · have hx := h6 x x0 x1
      rw [m3 x x0, ec3, zb_or, zb_1 hk.1 (by omega) x0 (by omega)]
      by_cases e : x = k
      · rw [if_pos e, decide_eq_true e, Bool.or_true]
        refine ⟨Or.inr rfl, ⟨fun _ => rfl, fun _ => rfl⟩, fun _ => ?_⟩
        refine BKr_congr (fun j j0 j1 => ?_) (fun j j0 j1 => ?_) s1
        · show _ = iv M1 14 _
          rw [c14 _ (by omega), if_pos (by omega)]
          congr 1
          omega
        · show _ = iv M2 61 _
          rw [m4 _ (by omega), if_pos (by omega)]
          congr 1
          omega
      · rw [if_neg e, decide_eq_false e, Bool.or_false]
        refine ⟨hx.1, hx.2.1, fun z => ?_⟩
        refine BKr_congr (fun j j0 j1 => ?_) (fun j j0 j1 => ?_) (hx.2.2 z)
        · show iv M 14 _ = iv M1 14 _
          rw [c14 _ (by omega), if_neg (by omega)]
        · show iv M 61 _ = iv M2 61 _
          rw [m4 _ (by omega), if_neg (by omega)]
  · exact step_same rr (-2) ⟨Nat.le_of_ble_eq_true rfl, rfl⟩ ⟨Nat.le_of_ble_eq_true rfl, rfl⟩ (vc_c_save k M _ ⟨⟨kz, by decide⟩, fun q => absurd q hk, fun _ => ⟨rfl, rfl⟩⟩) (vc_m_save k M _ ⟨⟨kz, by decide, by decide⟩, fun q => absurd q hk, fun _ => ⟨rfl, rfl⟩⟩)
theorem st_restore {M : am_M} (rr : RR M) {k : Int} (kz : zr k) : STEP t_SB_restore t_Mo_restore [.ref 0, .int (zi k)] [.ref 58, .int (zi k)] M := by
  have rr' := rr
  obtain ⟨s1, s2, s3, s4⟩ := rr'
  have s4' := s4
  obtain ⟨h1, h2, h3, h4, h5, h6⟩ := s4'
  by_cases hk : 0 ≤ k ∧ k ≤ 1
  · have hx := h6 k hk.1 hk.2
    have hs : am_call t_Arc_hasSnapshot [.ref 12, .int (zi k)] M (some (.int (zi (iv M 62 k)))) M := by
      refine am_call_of ⟨Nat.le_of_ble_eq_true rfl, rfl⟩ (vc_hasSnapshot k M _ ?_)
      rw [zb_is _ hk.1 (by omega)]
      by_cases z : zbt (iv M 12 3) k = true
      · rw [if_pos z]
        exact ⟨fun _ => ⟨by rw [hx.2.1.mp z], rfl⟩, fun q => absurd rfl q⟩
      · rw [if_neg z]
        have : iv M 62 k = 0 := by
          rcases hx.1 with e | e
          · exact e
          · exact absurd (hx.2.1.mpr e) z
        exact ⟨fun q => by omega, fun _ => ⟨by rw [this], rfl⟩⟩
    by_cases hz : iv M 62 k = 0
    · exact step_same rr (-3) ⟨Nat.le_of_ble_eq_true rfl, rfl⟩ ⟨Nat.le_of_ble_eq_true rfl, rfl⟩ (vc_c_restore k M _ ⟨⟨kz, by decide⟩, fun _ => ⟨_, M, hs, iv_r _ _ _, fun _ => ⟨rfl, rfl⟩, fun q => absurd hz q⟩, fun q => absurd hk q⟩) (vc_m_restore k M _ ⟨⟨kz, by decide, by decide⟩, fun _ => ⟨⟨hk.1, by omega⟩, fun _ => ⟨rfl, rfl⟩, fun q => absurd hz q⟩, fun q => absurd hk q⟩)
    · have hb := hx.2.2 (by omega)
      obtain ⟨M1, e1⟩ : ∃ M1, M1 = zup (zcp M 14 11 ((10 + k) * 1605) 0 1605) 12 1 0 := ⟨_, rfl⟩
      have pc : am_call t_Arc_bringSnapshot [.ref 12, .int (zi k), .ref 9] M none M1 :=
        am_call_of ⟨Nat.le_of_ble_eq_true rfl, rfl⟩ (vc_bringSnapshot k M _ ⟨_, sp_bring M (by omega) (by omega), fun M2 e2 => ⟨rfl, by rw [e2, e1]⟩⟩)
      have cro : ∀ a, ¬ a = 11 → ¬ a = 12 → M1 a = M a := fun a a1 a2 => by rw [e1, zupr _ a2, iv_zcp_r _ a1]
      have c12 : ∀ j, 0 ≤ j → iv M1 12 j = if j = 1 then 0 else iv M 12 j := fun j j0 => by rw [e1, ivs _ _ (by decide) j0 (by decide), iv_row (iv_zcp_r _ (by decide))]
      have c11 : ∀ j, 0 ≤ j → j < 1605 → iv M1 11 j = iv M 14 ((10 + k) * 1605 + j) := fun j j0 j1 => by
        rw [e1, ivr _ (by decide), iv_zcp _ _ _ _ (by omega) (by decide) (by decide) j0, if_pos ⟨rfl, j0, by omega⟩, Int.sub_zero]
      have b0 : iv M 14 ((10 + k) * 1605 + 0) = iv M 61 (1501 * k + 0) := hb.2.1.1
      have cc : am_call t_SB_restore [.ref 0, .int (zi k)] M (some (.int (zi (iv M 61 (1501 * k + 0))))) M1 := am_call_of ⟨Nat.le_of_ble_eq_true rfl, rfl⟩ (vc_c_restore k M _ ⟨⟨kz, by decide⟩, fun _ => ⟨_, M, hs, iv_r _ _ _, fun q => absurd q hz, fun _ => ⟨M1, pc, by rw [c11 0 (by decide) (by decide), b0], rfl⟩⟩, fun q => absurd hk q⟩)
      have mm : ∃ M2, am_call t_Mo_restore [.ref 58, .int (zi k)] M1 (some (.int (zi (iv M 61 (1501 * k + 0))))) M2 ∧ (∀ a, ¬ a = 58 → ¬ a = 59 → M2 a = M1 a) ∧ (∀ j, ¬ j = 2 → M2 58 j = M1 58 j) ∧ iv M2 58 2 = 0 ∧ ∀ j, 0 ≤ j → j < 1501 → iv M2 59 j = iv M 61 (1501 * k + j) := by
        suffices hh : am_x t_Mo_restore (0, am_ent (am_mL t_Mo_restore) [.ref 58, .int (zi k)], [], M1) (fun r M2 => r = some (.int (zi (iv M 61 (1501 * k + 0)))) ∧ (∀ a, ¬ a = 58 → ¬ a = 59 → M2 a = M1 a) ∧ (∀ j, ¬ j = 2 → M2 58 j = M1 58 j) ∧ iv M2 58 2 = 0 ∧ ∀ j, 0 ≤ j → j < 1501 → iv M2 59 j = iv M 61 (1501 * k + j)) by
          obtain ⟨r, M', h1, h2, h3⟩ := am_call_ex (by exact ⟨Nat.le_of_ble_eq_true rfl, rfl⟩) hh
          subst h2
          exact ⟨M', h1, h3⟩
        have e62 : iv M1 62 = iv M 62 := iv_row (cro 62 (by decide) (by decide))
        refine vc_m_restore k M1 _ ⟨⟨kz, by decide, by decide⟩, fun _ => ⟨⟨hk.1, by omega⟩, fun q => absurd (by rw [e62] at q; exact q) hz, fun _ => ?_⟩, fun q => absurd hk q⟩
        refine loop_up (fun i (s : am_M) => (26, [.ref 58, .int (zi k), .int (zi i)], [], s)) 1501 (fun i s => (∀ a, ¬ a = 59 → s a = M1 a) ∧ ∀ j, 0 ≤ j → j < i → iv s 59 j = iv M 61 (1501 * k + j)) ?_ ?_ 0 M1 (by omega) (by omega) ⟨fun _ _ => rfl, fun j j0 j1 => by omega⟩
        · intro s ⟨t1, t2⟩
          refine vc_m_restore_26 _ _ s _ ⟨by decide, fun q => by omega, fun _ M5 e5 => ⟨?_, fun a a1 a2 => by rw [e5, zupr _ a1, t1 a a2], fun j hj => by rw [e5, zup58 _ (by decide) hj, t1 58 (by decide)], ?_, fun j j0 j1 => ?_⟩⟩
          · rw [e5, ivr _ (by decide), t2 0 (by decide) (by decide)]
          · rw [e5, ivs _ _ (by decide) (by decide) (by decide), if_pos rfl]
          · rw [e5, ivr _ (by decide), t2 j j0 j1]
        · intro i s i0 i1 ⟨t1, t2⟩ kk
          have e61 : iv s 61 = iv M 61 := by rw [iv_row (t1 61 (by decide)), iv_row (cro 61 (by decide) (by decide))]
          refine vc_m_restore_26 _ _ s _ ⟨⟨by omega, by omega⟩, fun _ => ⟨⟨by omega, by omega⟩, ⟨i0, i1⟩, fun M3 e3 => kk M3 ⟨fun a ha => by rw [e3, zupr _ ha, t1 a ha], fun j j0 j1 => ?_⟩⟩, fun q => by omega⟩
          rw [e3, e61, ivs _ _ i0 j0 (iv_r _ _ _)]
          by_cases z : j = i
          · rw [if_pos z, z]
          · rw [if_neg z]; exact t2 j j0 (by omega)
      obtain ⟨M2, m1, m2, m3, m4, m5⟩ := mm
      have row : ∀ a, ¬ a = 11 → ¬ a = 12 → ¬ a = 58 → ¬ a = 59 → M2 a = M a := fun a x1 x2 x3 x4 => by rw [m2 a x3 x4, cro a x1 x2]
      have fl : ∀ j, ¬ j = 2 → M2 58 j = M 58 j := fun j hj => by rw [m3 j hj, cro 58 (by decide) (by decide)]
      refine ⟨_, M1, M2, cc, m1, ⟨?_, txt_rows s2 (row 2 (by decide) (by decide) (by decide) (by decide)) (row 3 (by decide) (by decide) (by decide) (by decide)) (row 73 (by decide) (by decide) (by decide) (by decide)) (fl 17 (by decide)), out_rows s3 (row 7 (by decide) (by decide) (by decide) (by decide)) (row 8 (by decide) (by decide) (by decide) (by decide)) (row 75 (by decide) (by decide) (by decide) (by decide)) (fl 23 (by decide)) (fl 24 (by decide)), ?_⟩, row 5000 (by decide) (by decide) (by decide) (by decide), row 5001 (by decide) (by decide) (by decide) (by decide)⟩
      · refine BKr_congr (fun j j0 j1 => ?_) (fun j j0 j1 => ?_) hb
        · rw [iv_row (m2 11 (by decide) (by decide)), c11 j j0 j1]
        · exact (m5 j j0 j1).symm
      · unfold ARC
        rw [m4, iv_row (m2 12 (by decide) (by decide)), c12 1 (by decide), c12 2 (by decide), c12 3 (by decide), if_pos rfl, if_neg (by decide), if_neg (by decide), iv_row (row 14 (by decide) (by decide) (by decide) (by decide)), iv_row (row 61 (by decide) (by decide) (by decide) (by decide)), iv_row (row 62 (by decide) (by decide) (by decide) (by decide))]
        exact ⟨by decide, rfl, h3, fun i i0 i1 => by omega, h5, h6⟩
  · exact step_same rr (-2) ⟨Nat.le_of_ble_eq_true rfl, rfl⟩ ⟨Nat.le_of_ble_eq_true rfl, rfl⟩ (vc_c_restore k M _ ⟨⟨kz, by decide⟩, fun q => absurd q hk, fun _ => ⟨rfl, rfl⟩⟩) (vc_m_restore k M _ ⟨⟨kz, by decide, by decide⟩, fun q => absurd q hk, fun _ => ⟨rfl, rfl⟩⟩)
