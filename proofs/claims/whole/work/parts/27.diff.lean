/-! differences and effects -/
theorem dif01 (P : Prop) : zr (bz P) := by rcases bz_01 P with u | u <;> (rw [u]; decide)
theorem diff_loop {L K : Lw} {M : am_M} (v : VL L) (vk : VL K) (r : MTR L M) (rk : MLR K M) {x : Int} (xz : zr x) (Q : Option Value → am_M → Prop) (h : Q (some (.int (zi (sm (fun c => bz (dif L K c x)) 40)))) M) :
    am_x t_Mo_difference (48, [.ref 58, .null, .null, .int (zi x), .int (zi 0), .int (zi 0), .null, .null], [], M) Q := by
  refine loop_up (fun i (s : Int) => (48, [.ref 58, .null, .null, .int (zi x), .int (zi s), .int (zi i), .null, .null], [], M)) 40 (fun i s => s = sm (fun c => bz (dif L K c x)) i) ?_ ?_ 0 0 (by omega) (by omega) rfl
  · intro s hs
    exact vc_m_difference_48 _ _ _ M _ ⟨by decide, fun h => by omega, fun _ => by rw [hs]; exact h⟩
  · intro c s c0 c1 hs k
    have e := sm_s (fun c => bz (dif L K c x)) c0
    have d0 : x = 0 → (dif L K c x ↔ (L.code c = 0 ∧ ¬ K.code c = 0)) := fun h => by unfold dif; rw [if_pos h]
    have d1 : x = 1 → (dif L K c x ↔ (¬ L.code c = 0 ∧ K.code c = 0)) := fun h => by unfold dif; rw [if_neg (by omega), if_pos h]
    have d2 : x = 2 → (dif L K c x ↔ ((¬ L.code c = 0 ∧ ¬ K.code c = 0) ∧ ¬ L.code c = K.code c)) := fun h => by unfold dif; rw [if_neg (by omega), if_neg (by omega), if_pos h]
    have d3 : ¬ x = 0 → ¬ x = 1 → ¬ x = 2 → (dif L K c x ↔ ((¬ L.code c = 0 ∧ ¬ K.code c = 0) ∧ ¬ smt L K c)) := fun h h' h'' => by unfold dif; rw [if_neg h, if_neg h', if_neg h'']
    have yes : dif L K c x → am_x t_Mo_difference (48, [.ref 58, .null, .null, .int (zi x), .int (zi (s + 1)), .int (zi (c + 1)), .null, .null], [], M) Q := fun q => k _ (by rw [e, bz_t q, hs])
    have no : ¬ dif L K c x → am_x t_Mo_difference (48, [.ref 58, .null, .null, .int (zi x), .int (zi (s + 0)), .int (zi (c + 1)), .null, .null], [], M) Q := fun q => k _ (by rw [e, bz_f q, hs])
    have ek := rk.1 c c0 c1
    have el := r.1 c c0 c1
    refine vc_m_difference_48 _ _ _ M _ ⟨⟨by omega, by omega⟩, fun _ => ⟨⟨c0, c1⟩, ?_⟩, fun h => by omega⟩
    rw [ek, el]
    by_cases nk : K.code c = 0
    · rw [if_pos nk]
      refine ⟨fun z => by omega, fun _ => ⟨xz, fun h => ⟨⟨c0, c1⟩, ⟨c0, c1⟩, fun z => ?_, fun _ => no (fun z => ((d0 h).mp z).2 nk)⟩, fun h => ⟨fun h' => ⟨⟨c0, c1⟩, ⟨c0, c1⟩, fun z => ?_, fun z => ?_⟩, fun h' => no (fun z => ?_)⟩⟩⟩
      · split at z <;> omega
      · refine yes ((d1 h').mpr ⟨fun y => ?_, nk⟩)
        rw [if_pos y] at z; omega
      · refine no (fun y => ?_)
        rw [if_neg ((d1 h').mp y).1] at z; omega
      · by_cases h2 : x = 2
        · exact ((d2 h2).mp z).1.2 nk
        · exact ((d3 h h' h2).mp z).1.2 nk
    · rw [if_neg nk]
      by_cases nl : L.code c = 0
      · rw [if_pos nl]
        exact ⟨fun _ => ⟨⟨c0, c1⟩, fun z => by omega, fun _ => ⟨xz, fun h => ⟨⟨c0, c1⟩, ⟨c0, c1⟩, fun _ => yes ((d0 h).mpr ⟨nl, nk⟩), fun z => by omega⟩, fun h => ⟨fun h' => ⟨⟨c0, c1⟩, ⟨c0, c1⟩, fun z => by omega, fun _ => no (fun y => ((d1 h').mp y).1 nl)⟩, fun h' => no (fun z => by
          by_cases h2 : x = 2
          · exact ((d2 h2).mp z).1.1 nl
          · exact ((d3 h h' h2).mp z).1.1 nl)⟩⟩⟩, fun z => absurd rfl z⟩
      · rw [if_neg nl, (rk.2.1 c c0 c1 nk).1, (r.2 c c0 c1 nl).1]
        exact ⟨fun _ => ⟨⟨c0, c1⟩, fun _ => ⟨xz, fun h => ⟨⟨c0, c1⟩, ⟨c0, c1⟩, fun z => by omega, fun _ => no (fun y => nl ((d0 h).mp y).1)⟩, fun h => ⟨fun h' => ⟨⟨c0, c1⟩, ⟨c0, c1⟩, fun z => by omega, fun _ => no (fun y => nk ((d1 h').mp y).2)⟩, fun h' => ⟨fun h2 => ⟨⟨c0, c1⟩, ⟨c0, c1⟩, fun z => no (fun y => ((d2 h2).mp y).2 z.symm), fun z => yes ((d2 h2).mpr ⟨⟨nl, nk⟩, fun y => z y.symm⟩)⟩, fun h2 => ⟨_, M, sp_isSameText v vk r rk c0 c1 nl nk, dif01 _, fun z => yes ((d3 h h' h2).mpr ⟨⟨nl, nk⟩, fun y => by rw [bz_t y] at z; omega⟩), fun z => no (fun y => z (bz_f ((d3 h h' h2).mp y).2))⟩⟩⟩⟩, fun z => absurd rfl z⟩, fun z => absurd rfl z⟩
theorem q_difference {M : am_M} (s : CSt M) {d e x : Int} (dz : zr d) (ez : zr e) (xz : zr x) : QRY t_SB_difference t_Mo_difference [.ref 0, .int (zi d), .int (zi e), .int (zi x)] [.ref 58, .int (zi d), .int (zi e), .int (zi x)] M := by
  obtain ⟨w, cb⟩ := s
  have w1 := w.n1
  by_cases hl : (0 ≤ d ∧ d ≤ 9999) ∧ (0 ≤ e ∧ e ≤ 9999) ∧ (0 ≤ x ∧ x ≤ 3)
  · obtain ⟨h1, h2, h3⟩ := hl
    have v := lw_VL w d (-1)
    have vk := lw_VL w e (-1)
    refine qry (sm (fun c => bz (dif (lw (iv M 59) d (-1)) (lw (iv M 59) e (-1)) c x)) 40) ⟨Nat.le_of_ble_eq_true rfl, rfl⟩ ⟨Nat.le_of_ble_eq_true rfl, rfl⟩ ?_ (fun M1 hs => ?_)
    · obtain ⟨M4, h4, fr, r4, od⟩ := sp_c_consolidate M w cb dz (cas := -1) (by decide)
      have e11 : iv M4 11 = iv M 11 := iv_row (fr.1 11 (by decide) (by decide))
      obtain ⟨M5, h5, fr5, r5, od5⟩ := sp_l34_consolidate M4 (off := rvk (iv M 59)) w (by rw [e11]; exact cb.1) e (-1) (iv M4 11 3) ez (by decide) (fun a a0 a1 => by rw [e11, cb.2.2 a a0 (by omega), if_pos a1]; rfl)
      have r4' : CLR15 (lw (iv M 59) d (-1)) M5 := clr15_rows r4 (fun a ha => fr5.1 a (by omega) (by omega))
      refine vc_c_difference d e x M _ ⟨⟨dz, by decide⟩, fun _ => ⟨⟨ez, by decide⟩, fun _ => ⟨⟨xz, by decide⟩, fun _ => ⟨M4, h4, M5, h5, ?_⟩, fun q => absurd h3 q⟩, fun q => absurd h2 q⟩, fun q => absurd h1 q⟩
      refine loop_up (fun i (s : Int) => (63, [.ref 0, .null, .null, .int (zi x), .int (zi s), .int (zi i)], [], M5)) 40 (fun i s => s = sm (fun c => bz (dif (lw (iv M 59) d (-1)) (lw (iv M 59) e (-1)) c x)) i) ?_ ?_ 0 0 (by omega) (by omega) rfl
      · intro s hs
        exact vc_c_difference_63 _ _ _ M5 _ ⟨by decide, fun h => by omega, fun _ => ⟨by rw [hs], CQ_trans (CQ_15 fr) (CQ_34 fr5)⟩⟩
      · intro c s c0 c1 hs k
        have ee := sm_s (fun c => bz (dif (lw (iv M 59) d (-1)) (lw (iv M 59) e (-1)) c x)) c0
        refine vc_c_difference_63 _ _ _ M5 _ ⟨⟨by omega, by omega⟩, fun _ => ⟨_, M5, sp_differs v vk r4' r5 c0 c1 xz, dif01 _, fun q => k _ (by rw [ee, q, hs]; omega), fun q => k _ ?_⟩, fun h => by omega⟩
        rcases bz_01 (dif (lw (iv M 59) d (-1)) (lw (iv M 59) e (-1)) c x) with u | u
        · exact absurd u q
        · rw [ee, u, hs]
    · obtain ⟨M2, a1, a2, a3⟩ := ms_laws hs w dz (cas := -1) (by decide)
      have e59 : iv M2 59 = iv M 59 := (iv_row (a2.1 59 (by decide) (by decide))).trans (iv_row (hs 59 (by decide)))
      obtain ⟨M3, b1, b2, b3⟩ := sp_setsAside v a3
      have f59 : iv M3 59 = iv M 59 := (iv_row (b2 59 (by decide))).trans e59
      obtain ⟨M4, c1, c2, c3⟩ := sp_laws M3 (by rw [f59]; exact w) ez (cas := -1) (by decide)
      rw [f59] at c3
      have b3' := mtr_rows b3 (M' := M4) (fun a ha => c2.1 a (by omega) (by omega))
      have fin : MqF M1 M4 := MqF_trans (MqF_trans (MqF_lf a2) ⟨fun a ha => b2 a (by omega), fun j hj => by rw [b2 58 (by decide)]⟩) (MqF_lf c2)
      exact vc_m_difference d e x M1 _ ⟨dz, fun _ => ⟨ez, fun _ => ⟨⟨xz, by decide, by decide⟩, fun _ => ⟨M2, a1, M3, b1, M4, c1, diff_loop v vk b3' c3 xz _ ⟨rfl, fin⟩⟩, fun q => absurd h3 q⟩, fun q => absurd h2 q⟩, fun q => absurd h1 q⟩
  · exact qry (-2) ⟨Nat.le_of_ble_eq_true rfl, rfl⟩ ⟨Nat.le_of_ble_eq_true rfl, rfl⟩ (vc_c_difference d e x M _ ⟨⟨dz, by decide⟩, fun q => ⟨⟨ez, by decide⟩, fun q2 => ⟨⟨xz, by decide⟩, fun q3 => absurd ⟨q, q2, q3⟩ hl, fun _ => ⟨rfl, CQ_refl M⟩⟩, fun _ => ⟨rfl, CQ_refl M⟩⟩, fun _ => ⟨rfl, CQ_refl M⟩⟩) (fun M1 hs => vc_m_difference d e x M1 _ ⟨dz, fun q => ⟨ez, fun q2 => ⟨⟨xz, by decide, by decide⟩, fun q3 => absurd ⟨q, q2, q3⟩ hl, fun _ => ⟨rfl, MqF_refl M1⟩⟩, fun _ => ⟨rfl, MqF_refl M1⟩⟩, fun _ => ⟨rfl, MqF_refl M1⟩⟩)
def efd (L K : Lw) (c : Int) : Prop := ¬ ((L.code c = 0 ∧ K.code c = 0) ∨ ((¬ L.code c = 0 ∧ ¬ K.code c = 0) ∧ L.code c = K.code c ∧ smt L K c))
theorem efd_iff (L K : Lw) (c : Int) : efd L K c ↔ (dif L K c 0 ∨ dif L K c 1 ∨ dif L K c 2 ∨ dif L K c 3) := by
  have d0 : dif L K c 0 ↔ (L.code c = 0 ∧ ¬ K.code c = 0) := Iff.rfl
  have d1 : dif L K c 1 ↔ (¬ L.code c = 0 ∧ K.code c = 0) := Iff.rfl
  have d2 : dif L K c 2 ↔ ((¬ L.code c = 0 ∧ ¬ K.code c = 0) ∧ ¬ L.code c = K.code c) := Iff.rfl
  have d3 : dif L K c 3 ↔ ((¬ L.code c = 0 ∧ ¬ K.code c = 0) ∧ ¬ smt L K c) := Iff.rfl
  unfold efd
  rw [d0, d1, d2, d3]
  by_cases a : L.code c = 0 <;> by_cases b : K.code c = 0 <;> by_cases e : L.code c = K.code c <;> by_cases t : smt L K c <;> simp [a, b, e, t]
def foff (b : Int → Int) (a0 : Int) : Int → Int := fun a => if a = a0 then 1 - b (21 + a) else b (21 + a)
theorem sp_laws63 (M : am_M) (w : WB (iv M 59)) {day cas : Int} (dz : zr day) (ez : zr cas) : ∃ M', am_call t_Mo_laws [.ref 58, .int (zi day), .int (zi cas)] M none M' ∧ MLf M M' ∧ MLR (lw (iv M 59) day cas) M' ∧ ∀ j, 0 ≤ j → j < 20 → iv M' 63 j = iv M 59 (21 + j) := by
  have w1 := w.n1
  have e59 : iv (zcp M 59 63 21 0 20) 59 = iv M 59 := iv_row (iv_zcp_r M (by decide))
  have e63 : ∀ j, 0 ≤ j → j < 20 → iv (zcp M 59 63 21 0 20) 63 j = iv M 59 (21 + j) := fun j a0 a1 => by
    rw [iv_zcp M 59 63 63 (by decide) (by decide) (by decide) a0, if_pos ⟨rfl, a0, by omega⟩, Int.sub_zero]
  obtain ⟨M', h1, h2, h3⟩ := sp_consolidates (zcp M 59 63 21 0 20) day cas (by rw [e59]; exact w) dz ez
  refine ⟨M', am_call_of ⟨Nat.le_of_ble_eq_true rfl, rfl⟩ (vc_laws day cas M _ (fun M1 e1 => ⟨M', by rw [e1]; exact h1, rfl, rfl⟩)), ⟨fun a a1 a2 => ?_, fun j hj => ?_⟩, ?_, fun j j0 j1 => ?_⟩
  · rw [h2.1 a a1 (by omega), iv_zcp_r M (by omega)]
  · rw [h2.2 j hj, iv_zcp_r M (by decide)]
  · rw [e59] at h3
    have : con (iv M 59) (iv (zcp M 59 63 21 0 20) 63) day cas = lw (iv M 59) day cas := con_congr (fun a a0 a1 => e63 a a0 (by omega)) day cas
    rw [← this]
    exact h3
  · rw [iv_row (h2.1 63 (by decide) (by decide)), e63 j j0 j1]
theorem eff_loop {L K : Lw} {M : am_M} (v : VL L) (vk : VL K) (r : MTR L M) (rk : MLR K M) (Q : Option Value → am_M → Prop) (h : Q (some (.int (zi (sm (fun c => bz (efd L K c)) 40)))) M) :
    am_x t_Mo_effect (53, [.ref 58, .null, .null, .int (zi 0), .int (zi 0), .null], [], M) Q := by
  refine loop_up (fun i (s : Int) => (53, [.ref 58, .null, .null, .int (zi s), .int (zi i), .null], [], M)) 40 (fun i s => s = sm (fun c => bz (efd L K c)) i) ?_ ?_ 0 0 (by omega) (by omega) rfl
  · intro s hs
    exact vc_m_effect_53 _ _ M _ ⟨by decide, fun h => by omega, fun _ => by rw [hs]; exact h⟩
  · intro c s c0 c1 hs k
    have e := sm_s (fun c => bz (efd L K c)) c0
    have yes : efd L K c → am_x t_Mo_effect (53, [.ref 58, .null, .null, .int (zi (s + 1)), .int (zi (c + 1)), .null], [], M) Q := fun q => k _ (by rw [e, bz_t q, hs])
    have no : ¬ efd L K c → am_x t_Mo_effect (53, [.ref 58, .null, .null, .int (zi (s + 0)), .int (zi (c + 1)), .null], [], M) Q := fun q => k _ (by rw [e, bz_f q, hs])
    refine vc_m_effect_53 _ _ M _ ⟨⟨by omega, by omega⟩, fun _ => ⟨⟨c0, c1⟩, ⟨c0, c1⟩, ?_⟩, fun h => by omega⟩
    rw [rk.1 c c0 c1, r.1 c c0 c1]
    by_cases nk : K.code c = 0
    · rw [if_pos nk]
      by_cases nl : L.code c = 0
      · rw [if_pos nl]
        exact ⟨fun _ => ⟨⟨c0, c1⟩, fun _ => no (fun z => z (Or.inl ⟨nl, nk⟩)), fun z => absurd rfl z⟩, fun z => absurd rfl z⟩
      · rw [if_neg nl]
        exact ⟨fun z => by omega, fun _ => yes (fun z => z.elim (fun y => nl y.1) (fun y => y.1.2 nk))⟩
    · rw [if_neg nk]
      by_cases nl : L.code c = 0
      · rw [if_pos nl]
        exact ⟨fun z => by omega, fun _ => yes (fun z => z.elim (fun y => nk y.2) (fun y => y.1.1 nl))⟩
      · rw [if_neg nl, (rk.2.1 c c0 c1 nk).1, (r.2 c c0 c1 nl).1]
        refine ⟨fun _ => ⟨⟨c0, c1⟩, fun z => by omega, fun _ => ⟨⟨c0, c1⟩, ⟨c0, c1⟩, fun q => ⟨_, M, sp_isSameText v vk r rk c0 c1 nl nk, dif01 _, fun z => yes (fun y => ?_), fun z => no (fun y => ?_)⟩, fun q => yes (fun z => z.elim (fun y => nl y.1) (fun y => q y.2.1.symm))⟩⟩, fun z => absurd rfl z⟩
        · rcases y with y | y
          · exact nl y.1
          · rw [bz_t y.2.2] at z; omega
        · refine y (Or.inr ⟨⟨nl, nk⟩, q.symm, ?_⟩)
          by_cases u : smt L K c
          · exact u
          · exact absurd (bz_f u) z
theorem q_effect {M : am_M} (s : CSt M) {a d : Int} (az : zr a) (dz : zr d) : QRY t_SB_effect t_Mo_effect [.ref 0, .int (zi a), .int (zi d)] [.ref 58, .int (zi a), .int (zi d)] M := by
  obtain ⟨w, cb⟩ := s
  have w1 := w.n1
  have w0 := w.n0
  by_cases hl : (0 ≤ a ∧ a < iv M 59 0) ∧ (0 ≤ d ∧ d ≤ 9999)
  · obtain ⟨h1, h2⟩ := hl
    have v := lw_VL w d (-1)
    have vk : VL (con (iv M 59) (foff (iv M 59) a) d (-1)) := (con_is w).1.1
    refine qry (sm (fun c => bz (efd (lw (iv M 59) d (-1)) (con (iv M 59) (foff (iv M 59) a) d (-1)) c)) 40) ⟨Nat.le_of_ble_eq_true rfl, rfl⟩ ⟨Nat.le_of_ble_eq_true rfl, rfl⟩ ?_ (fun M1 hs => ?_)
    · obtain ⟨M4, h4, fr, r4, od⟩ := sp_c_consolidate M w cb dz (cas := -1) (by decide)
      have e11 : iv M4 11 = iv M 11 := iv_row (fr.1 11 (by decide) (by decide))
      obtain ⟨M5, h5, fr5, r5, od5⟩ := sp_l34_consolidate M4 (off := foff (iv M 59) a) w (by rw [e11]; exact cb.1) d (-1) (zxor (iv M4 11 3) (zshl 1 a)) dz (by decide) (fun x x0 x1 => by
        rw [e11, zb_is _ x0 (by omega), zb_xor, zb_1 h1.1 (by omega) x0 (by omega), cbr_b w cb x0 x1]
        have rv := w.rev x x0 x1
        unfold foff
        by_cases q : x = a
        · rw [if_pos q, decide_eq_true q]
          rcases rv with e | e <;> (rw [e]; decide)
        · rw [if_neg q, decide_eq_false q]
          rcases rv with e | e <;> (rw [e]; decide))
      have r4' : CLR15 (lw (iv M 59) d (-1)) M5 := clr15_rows r4 (fun a ha => fr5.1 a (by omega) (by omega))
      refine vc_c_effect a d M _ ⟨az, fun _ => ⟨⟨dz, by decide⟩, fun _ => ⟨M4, h4, M5, h5, ?_⟩, fun q => absurd h2 q⟩, fun q => absurd (by rw [cb.1.1]; exact h1) q⟩
      refine loop_up (fun i (s : Int) => (59, [.ref 0, .null, .null, .int (zi s), .int (zi i)], [], M5)) 40 (fun i s => s = sm (fun c => bz (efd (lw (iv M 59) d (-1)) (con (iv M 59) (foff (iv M 59) a) d (-1)) c)) i) ?_ ?_ 0 0 (by omega) (by omega) rfl
      · intro s hs
        exact vc_c_effect_59 _ _ M5 _ ⟨by decide, fun h => by omega, fun _ => ⟨by rw [hs], CQ_trans (CQ_15 fr) (CQ_34 fr5)⟩⟩
      · intro c s c0 c1 hs k
        have ee := sm_s (fun c => bz (efd (lw (iv M 59) d (-1)) (con (iv M 59) (foff (iv M 59) a) d (-1)) c)) c0
        have yes : ∀ x, (x = 0 ∨ x = 1 ∨ x = 2 ∨ x = 3) → ¬ bz (dif (lw (iv M 59) d (-1)) (con (iv M 59) (foff (iv M 59) a) d (-1)) c x) = 0 → am_x t_SB_effect (59, [.ref 0, .null, .null, .int (zi (s + 1)), .int (zi (c + 1))], [], M5) _ := fun x hx q => k _ (by
          have hd : dif (lw (iv M 59) d (-1)) (con (iv M 59) (foff (iv M 59) a) d (-1)) c x := by
            by_cases z : dif (lw (iv M 59) d (-1)) (con (iv M 59) (foff (iv M 59) a) d (-1)) c x
            · exact z
            · exact absurd (bz_f z) q
          rw [ee, bz_t ((efd_iff _ _ c).mpr (by rcases hx with e | e | e | e <;> (subst e; simp [hd]))), hs])
        refine vc_c_effect_59 _ _ M5 _ ⟨⟨by omega, by omega⟩, fun _ => ⟨_, M5, sp_differs v vk r4' r5 c0 c1 (by decide), dif01 _, fun q0 => ⟨_, M5, sp_differs v vk r4' r5 c0 c1 (by decide), dif01 _, fun q1 => ⟨_, M5, sp_differs v vk r4' r5 c0 c1 (by decide), dif01 _, fun q2 => ⟨_, M5, sp_differs v vk r4' r5 c0 c1 (by decide), dif01 _, fun q3 => k _ ?_, yes 3 (by omega)⟩, yes 2 (by omega)⟩, yes 1 (by omega)⟩, yes 0 (by omega)⟩, fun h => by omega⟩
        have ng : ∀ {x : Int}, bz (dif (lw (iv M 59) d (-1)) (con (iv M 59) (foff (iv M 59) a) d (-1)) c x) = 0 → ¬ dif (lw (iv M 59) d (-1)) (con (iv M 59) (foff (iv M 59) a) d (-1)) c x := fun q z => by rw [bz_t z] at q; omega
        rw [ee, bz_f (fun z => by
          rcases (efd_iff _ _ c).mp z with u | u | u | u
          · exact ng q0 u
          · exact ng q1 u
          · exact ng q2 u
          · exact ng q3 u), hs]
        omega
    · have g59 : iv M1 59 = iv M 59 := iv_row (hs 59 (by decide))
      obtain ⟨M2, a1, a2, a3, a4⟩ := sp_laws63 M1 (MSm_w hs w) dz (cas := -1) (by decide)
      rw [g59] at a3 a4
      have e59 : iv M2 59 = iv M 59 := (iv_row (a2.1 59 (by decide) (by decide))).trans g59
      obtain ⟨M3, b1, b2, b3⟩ := sp_setsAside v a3
      have f59 : iv M3 59 = iv M 59 := (iv_row (b2 59 (by decide))).trans e59
      have rva := w.rev a h1.1 h1.2
      refine vc_m_effect a d M1 _ ⟨⟨az, by rw [g59]; exact w0⟩, fun _ => ⟨dz, fun _ => ⟨M2, a1, M3, b1, ⟨h1.1, by omega⟩, ⟨h1.1, by omega⟩, fun M4 e4 => ?_⟩, fun q => absurd h2 q⟩, fun q => absurd (by rw [g59]; exact h1) q⟩
      have h59 : iv M4 59 = iv M 59 := by rw [e4, ivr _ (by decide), f59]
      have r63 : ∀ j, 0 ≤ j → j < 20 → iv M4 63 j = foff (iv M 59) a j := fun j j0 j1 => by
        have z : iv M3 63 = iv M2 63 := iv_row (b2 63 (by decide))
        rw [e4, z, a4 a h1.1 (by omega), ivs _ _ h1.1 j0 (by rcases rva with e | e <;> (rw [e]; decide)), z, a4 j j0 j1]
        unfold foff
        by_cases q : j = a
        · rw [if_pos q, if_pos q, q]
        · rw [if_neg q, if_neg q]
      obtain ⟨M6, c1, c2, c3⟩ := sp_consolidates M4 d (-1) (by rw [h59]; exact w) dz (by decide)
      rw [h59, con_congr (off' := foff (iv M 59) a) (fun j j0 j1 => r63 j j0 (by omega)) d (-1)] at c3
      have b3' : MTR (lw (iv M 59) d (-1)) M6 := mtr_rows b3 (fun x hx => by rw [c2.1 x (by omega) (by omega), e4, zupr _ (by omega)])
      have fin : MqF M1 M6 := MqF_trans (MqF_trans (MqF_trans (MqF_lf a2) ⟨fun x hx => b2 x (by omega), fun j hj => by rw [b2 58 (by decide)]⟩) ⟨fun x hx => by rw [e4, zupr _ (by omega)], fun j hj => by rw [e4, zupr _ (by decide)]⟩) (MqF_of c2)
      exact ⟨M6, c1, eff_loop v vk b3' c3 _ ⟨rfl, fin⟩⟩
  · exact qry (-2) ⟨Nat.le_of_ble_eq_true rfl, rfl⟩ ⟨Nat.le_of_ble_eq_true rfl, rfl⟩ (vc_c_effect a d M _ ⟨az, fun q => ⟨⟨dz, by decide⟩, fun q2 => absurd ⟨by rw [cb.1.1] at q; exact q, q2⟩ hl, fun _ => ⟨rfl, CQ_refl M⟩⟩, fun _ => ⟨rfl, CQ_refl M⟩⟩) (fun M1 hs => vc_m_effect a d M1 _ ⟨⟨az, by rw [iv_row (hs 59 (by decide))]; exact w0⟩, fun q => ⟨dz, fun q2 => absurd ⟨by rw [iv_row (hs 59 (by decide))] at q; exact q, q2⟩ hl, fun _ => ⟨rfl, MqF_refl M1⟩⟩, fun _ => ⟨rfl, MqF_refl M1⟩⟩)
