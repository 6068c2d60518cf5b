/-! print, printed -/
def OUTR (M : am_M) : Prop := ∃ l, PC l M ∧ PM l M ∧ l.length ≤ 2000
theorem cat_s (f : Int → List Int) {i : Int} (h : 0 ≤ i) : cat f (i + 1).toNat = cat f i.toNat ++ f i := by
  rw [show (i + 1).toNat = i.toNat + 1 by omega, cat, show ((i.toNat : Nat) : Int) = i by omega]
theorem catW_len (L : Lw) (c : Int) (n : Nat) : (cat (fun k => dW (tw L c k)) n).length ≤ 7 * n := cat_len _ 7 n (fun _ _ => dW_len _)
theorem clr15_CP {L : Lw} {M M' : am_M} (r : CLR15 L M) (h : CPf M M') : CLR15 L M' := by
  unfold CLR15 at r ⊢
  rw [iv_row (h 17 (by decide) (by decide)), iv_row (h 21 (by decide) (by decide)), iv_row (h 19 (by decide) (by decide)), iv_row (h 23 (by decide) (by decide)), iv_row (h 27 (by decide) (by decide)), iv_row (h 29 (by decide) (by decide)), iv_row (h 15 (by decide) (by decide)), iv_row (h 31 (by decide) (by decide))]
  exact r
theorem mlr_MP {L : Lw} {M M' : am_M} (r : MLR L M) (h : MPf M M') : MLR L M' := by
  have e : iv M' 58 14 = iv M 58 14 := by unfold iv; rw [h.2 _ (by decide) (by decide)]
  unfold MLR at r ⊢
  rw [iv_row (h.1 64 (by decide) (by decide)), iv_row (h.1 65 (by decide) (by decide)), iv_row (h.1 66 (by decide) (by decide)), iv_row (h.1 67 (by decide) (by decide)), iv_row (h.1 68 (by decide) (by decide)), iv_row (h.1 69 (by decide) (by decide)), iv_row (h.1 70 (by decide) (by decide)), iv_row (h.1 71 (by decide) (by decide)), e]
  exact r
theorem sp_printClause {L : Lw} {l : List Int} {M : am_M} (v : VL L) (r : CLR15 L M) (h : PC l M) (hl : l.length ≤ 70000) {c : Int} (c0 : 0 ≤ c) (c1 : c < 40) (n : ¬ L.code c = 0) : ∃ M', am_call t_SB_printClause [.ref 0, .int (zi c)] M none M' ∧ PC (l ++ dC L c) M' ∧ CPf M M' := by
  suffices hh : am_x t_SB_printClause (0, am_ent (am_mL t_SB_printClause) [.ref 0, .int (zi c)], [], M) (fun r M' => r = none ∧ PC (l ++ dC L c) M' ∧ CPf M M') by
    obtain ⟨r, M', h1, h2, h3⟩ := am_call_ex (by exact ⟨Nat.le_of_ble_eq_true rfl, rfl⟩) hh
    subst h2
    exact ⟨M', h1, h3⟩
  have rg := v.rg c c0 c1
  have ln := v.ln c c0 c1 n
  obtain ⟨M1, a1, a2, a3⟩ := sp_p7N h (by omega) (x := L.code c) (by omega) (by omega)
  have nl := dN_len (L.code c)
  refine vc_printClause c M _ ⟨⟨c0, c1⟩, M1, by rw [r.1 c c0 c1]; exact a1, ?_⟩
  refine loop_up (fun i (s : am_M) => (17, [.ref 0, .int (zi c), .int (zi i), .null], [], s)) (L.len c) (fun i s => PC (l ++ (dN (L.code c) ++ cat (fun k => dW (tw L c k)) i.toNat)) s ∧ CPf M s) ?_ ?_ 0 M1 (by omega) ln.1 ⟨by show PC (l ++ (dN (L.code c) ++ [])) M1; rw [List.append_nil]; exact a2, a3⟩
  · intro s ⟨s1, s2⟩
    have rs := clr15_CP r s2
    have cl := catW_len L c (L.len c).toNat
    obtain ⟨M2, b1, b2, b3⟩ := sp_p7 s1 (by rw [List.length_append, List.length_append]; omega) (x := 10) (by decide)
    refine vc_printClause_17 _ _ s _ ⟨⟨c0, c1⟩, ⟨by omega, by omega⟩, fun q => by rw [(rs.2.1 c c0 c1 n).1] at q; omega, fun _ => ⟨M2, b1, rfl, ?_, CPf_trans s2 b3⟩⟩
    unfold dC
    rw [List.append_assoc, List.append_assoc] at b2
    exact b2
  · intro i s i0 i1 ⟨s1, s2⟩ k
    have rs := clr15_CP r s2
    have cl := catW_len L c i.toNat
    have ll : (l ++ (dN (L.code c) ++ cat (fun k => dW (tw L c k)) i.toNat)).length ≤ 70100 := by rw [List.length_append, List.length_append]; omega
    have tr := tw_rg v c0 c1 n i0 i1
    obtain ⟨M2, b1, b2, b3⟩ := sp_p7 s1 (by omega) (x := 32) (by decide)
    have l2 : ((l ++ (dN (L.code c) ++ cat (fun k => dW (tw L c k)) i.toNat)) ++ [32]).length ≤ 70101 := by rw [List.length_append]; show _ + 1 ≤ _; omega
    have pw := sp_presentWord v (clr15_CP rs b3) c0 c1 n i0 i1
    have step : ∀ M', PC (((l ++ (dN (L.code c) ++ cat (fun k => dW (tw L c k)) i.toNat)) ++ [32]) ++ (if tw L c i = -5 then [63] else if tw L c i < 1000 then dI (tw L c i) else [64] ++ dN (tw L c i - 1000))) M' → CPf M2 M' → am_x t_SB_printClause (17, [.ref 0, .int (zi c), .int (zi (i + 1)), .null], [], M') (fun r M' => r = none ∧ PC (l ++ dC L c) M' ∧ CPf M M') := fun M' p1 p2 => k M' ⟨by
      rw [cat_s _ i0, ← List.append_assoc (dN (L.code c)), ← List.append_assoc l]
      show PC (_ ++ ([32] ++ _)) M'
      rw [← List.append_assoc]
      exact p1, CPf_trans s2 (CPf_trans b3 p2)⟩
    refine vc_printClause_17 _ _ s _ ⟨⟨c0, c1⟩, ⟨by omega, by omega⟩, fun _ => ⟨M2, b1, _, M2, pw, ⟨by omega, by omega⟩, fun q => ?_, fun q => ⟨fun q2 => ?_, fun q2 => ?_⟩⟩, fun q => by rw [(rs.2.1 c c0 c1 n).1] at q; omega⟩
    · obtain ⟨M3, d1, d2, d3⟩ := sp_p7 b2 (by omega) (x := 63) (by decide)
      exact ⟨M3, d1, step M3 (by rw [if_pos q]; exact d2) d3⟩
    · obtain ⟨M3, d1, d2, d3⟩ := sp_p7I b2 (by omega) (v := tw L c i) (by
        have := v.wt c i c0 c1 n i0 i1
        unfold tw at q q2 ⊢
        by_cases z : L.tx c i < 1000
        · rw [if_pos z]; omega
        · rw [if_neg z] at q q2 ⊢
          by_cases y : L.code (L.tx c i - 1000) = 0
          · rw [if_pos y] at q; omega
          · rw [if_neg y] at q2 ⊢
            have := v.rg (L.tx c i - 1000) (by omega) (by omega)
            omega) (by omega)
      exact ⟨M3, d1, step M3 (by rw [if_neg q, if_pos q2]; exact d2) d3⟩
    · obtain ⟨M3, d1, d2, d3⟩ := sp_p7 b2 (by omega) (x := 64) (by decide)
      obtain ⟨M4, f1, f2, f3⟩ := sp_p7N d2 (by rw [List.length_append]; show _ + 1 ≤ _; omega) (x := tw L c i - 1000) (by omega) (by omega)
      exact ⟨M3, d1, M4, f1, step M4 (by rw [if_neg q, if_neg (by omega), ← List.append_assoc]; exact f2) (CPf_trans d3 f3)⟩
theorem dC_len (L : Lw) (c : Int) (h : L.len c ≤ 6) : (dC L c).length ≤ 48 := by
  have a := dN_len (L.code c)
  have b := catW_len L c (L.len c).toNat
  unfold dC
  rw [List.length_append, List.length_append]
  show _ + (_ + 1) ≤ 48
  omega
theorem st_print {M : am_M} (s : CSt M) {d e : Int} (dz : zr d) (ez : zr e) (ho : OUTR M) : ∃ (r : Int) (M1 M2 : am_M), am_call t_SB_print [.ref 0, .int (zi d), .int (zi e)] M (some (.int (zi r))) M1 ∧ am_call t_Mo_print [.ref 58, .int (zi d), .int (zi e)] M1 (some (.int (zi r))) M2 ∧
    (∀ a, (a = 2 ∨ a = 3 ∨ a = 11 ∨ a = 12 ∨ a = 14 ∨ (59 ≤ a ∧ a ≤ 62) ∨ a = 73 ∨ 81 ≤ a) → M2 a = M a) ∧ (∀ j, (j = 2 ∨ j = 17) → M2 58 j = M 58 j) ∧ OUTR M2 := by
  obtain ⟨w, cb⟩ := s
  by_cases hl : (0 ≤ d ∧ d ≤ 9999) ∧ (e = -1 ∨ (0 ≤ e ∧ e ≤ 9999))
  · obtain ⟨M4, h4, fr, r4, od⟩ := sp_c_consolidate M w cb dz ez
    have v := lw_VL w d e
    obtain ⟨L, hL⟩ : ∃ L, L = lw (iv M 59) d e := ⟨_, rfl⟩
    rw [← hL] at v r4 od
    have n40 := frc40 L
    have en := od.1
    have ll : ∀ n : Int, 0 ≤ n → n ≤ iv M4 15 9 → (cat (fun i => dC L (atx L i)) n.toNat).length ≤ 48 * n.toNat := fun n n0 n1 => cat_len _ 48 _ (fun i hi => by
      have oi := od.2.1 i (by omega) (by omega)
      have ea : atx L i = iv M4 25 i := (atx_ord v od i).trans (if_pos ⟨by omega, by omega⟩)
      show (dC L (atx L i)).length ≤ 48
      rw [ea]
      exact dC_len L _ (v.ln _ oi.1 oi.2.1 oi.2.2).2)
    have cc : ∃ M1, am_call t_SB_print [.ref 0, .int (zi d), .int (zi e)] M (some (.int (zi (dL L).length))) M1 ∧ PC (dL L) M1 ∧ CPf M4 M1 := by
      suffices hh : am_x t_SB_print (0, am_ent (am_mL t_SB_print) [.ref 0, .int (zi d), .int (zi e)], [], M) (fun r M1 => r = some (.int (zi (dL L).length)) ∧ PC (dL L) M1 ∧ CPf M4 M1) by
        obtain ⟨r, M', h1, h2, h3⟩ := am_call_ex (by exact ⟨Nat.le_of_ble_eq_true rfl, rfl⟩) hh
        subst h2
        exact ⟨M', h1, h3⟩
      have em : am_call t_Pag_makeEmpty [.ref 7] M4 none (zup M4 7 1 0) := am_call_of ⟨Nat.le_of_ble_eq_true rfl, rfl⟩ (vc_p7_makeEmpty M4 _ (fun M1 e1 => ⟨rfl, e1⟩))
      refine vc_c_print d e M _ ⟨⟨dz, ez⟩, fun _ => ⟨M4, h4, _, em, ?_⟩, fun q => absurd hl q⟩
      refine loop_up (fun i (s : am_M) => (26, [.ref 0, .null, .null, .int (zi i)], [], s)) (iv M4 15 9) (fun i s => PC (cat (fun i => dC L (atx L i)) i.toNat) s ∧ CPf M4 s) ?_ ?_ 0 _ (by omega) (by omega) ⟨⟨by rw [ivs _ _ (by decide) (by decide) (by decide), if_pos rfl]; rfl, fun i hi => absurd hi (Nat.not_lt_zero i)⟩, fun a a1 a2 => zupr _ a1⟩
      · intro s ⟨s1, s2⟩
        have e9 : iv s 15 9 = iv M4 15 9 := by rw [iv_row (s2 15 (by decide) (by decide))]
        have ed : cat (fun i => dC L (atx L i)) (iv M4 15 9).toNat = dL L := by rw [en]; rfl
        rw [ed] at s1
        refine vc_c_print_26 _ s _ ⟨⟨by omega, by omega⟩, fun q => by omega, fun _ => ⟨_, s, am_call_of ⟨Nat.le_of_ble_eq_true rfl, rfl⟩ (vc_p7_written s _ ⟨rfl, rfl⟩), by rw [s1.1], s1, s2⟩⟩
      · intro i s i0 i1 ⟨s1, s2⟩ k
        have e9 : iv s 15 9 = iv M4 15 9 := by rw [iv_row (s2 15 (by decide) (by decide))]
        have e25 : iv s 25 = iv M4 25 := iv_row (s2 25 (by decide) (by decide))
        have oi := od.2.1 i i0 i1
        have ea : atx L i = iv M4 25 i := (atx_ord v od i).trans (if_pos ⟨i0, i1⟩)
        have lb := ll i i0 (by omega)
        obtain ⟨M5, b1, b2, b3⟩ := sp_printClause v (clr15_CP r4 s2) s1 (by omega) oi.1 oi.2.1 oi.2.2
        refine vc_c_print_26 _ s _ ⟨⟨by omega, by omega⟩, fun _ => ⟨⟨i0, by omega⟩, M5, by rw [e25]; exact b1, k M5 ⟨?_, CPf_trans s2 b3⟩⟩, fun q => by omega⟩
        rw [cat_s _ i0, ea]
        exact b2
    obtain ⟨M1, c1, c2, c3⟩ := cc
    have dl : (dL L).length ≤ 2000 := by
      have := ll (iv M4 15 9) (by omega) (Int.le_refl _)
      have ed : cat (fun i => dC L (atx L i)) (iv M4 15 9).toNat = dL L := by rw [en]; rfl
      rw [ed] at this
      omega
    have hs : MSm M M1 := fun a ha => by rw [c3 a (by omega) (by omega), fr.1 a (by omega) (by omega)]
    have mm : ∃ M2, am_call t_Mo_print [.ref 58, .int (zi d), .int (zi e)] M1 (some (.int (zi (dL L).length))) M2 ∧ PM (dL L) M2 ∧ (∀ a, (a < 58 ∨ (59 ≤ a ∧ a ≤ 62) ∨ a = 73 ∨ 81 ≤ a) → M2 a = M1 a) ∧ (∀ j, (j = 2 ∨ j = 17) → M2 58 j = M1 58 j) := by
      suffices hh : am_x t_Mo_print (0, am_ent (am_mL t_Mo_print) [.ref 58, .int (zi d), .int (zi e)], [], M1) (fun r M2 => r = some (.int (zi (dL L).length)) ∧ PM (dL L) M2 ∧ (∀ a, (a < 58 ∨ (59 ≤ a ∧ a ≤ 62) ∨ a = 73 ∨ 81 ≤ a) → M2 a = M1 a) ∧ (∀ j, (j = 2 ∨ j = 17) → M2 58 j = M1 58 j)) by
        obtain ⟨r, M', h1, h2, h3⟩ := am_call_ex (by exact ⟨Nat.le_of_ble_eq_true rfl, rfl⟩) hh
        subst h2
        exact ⟨M', h1, h3⟩
      obtain ⟨M5, a1, a2, a3⟩ := ms_laws hs w dz ez
      rw [← hL] at a3
      refine vc_m_print d e M1 _ ⟨dz, fun _ => ⟨ez, fun _ => ⟨M5, a1, fun M6 e6 M7 e7 => ?_⟩, fun q => absurd hl.2 q⟩, fun q => absurd hl.1 q⟩
      have p7 : MPf M5 M7 := ⟨fun a x1 x2 => by rw [e7, zupr _ x1, e6, zupr _ x1], fun j x1 x2 => by rw [e7, zup58 _ (by decide) x2, e6, zup58 _ (by decide) x1]⟩
      have r7 := mlr_MP a3 p7
      have l7 : PM [] M7 := by
        refine ⟨?_, ?_, fun i hi => absurd hi (Nat.not_lt_zero i)⟩
        · rw [e7, ivs _ _ (by decide) (by decide) (by decide), if_pos rfl]; rfl
        · rw [e7, ivs _ _ (by decide) (by decide) (by decide), if_neg (by decide), e6, ivs _ _ (by decide) (by decide) (by decide), if_pos rfl]; rfl
      refine ⟨_, M7, sp_inForce r7, ?_⟩
      refine loop_up (fun i (s : am_M) => (41, [.ref 58, .null, .null, .int (zi (frc L 40)), .int (zi i), .null, .null, .null], [], s)) (frc L 40) (fun i s => PM (cat (fun i => dC L (atx L i)) i.toNat) s ∧ MPf M5 s) ?_ ?_ 0 M7 (by omega) n40.1 ⟨l7, p7⟩
      · intro s ⟨s1, s2⟩
        refine vc_m_print_41 _ _ s _ ⟨⟨by omega, by omega⟩, ⟨by omega, by omega⟩, fun q => by omega, fun _ => ⟨by rw [s1.1]; rfl, s1, fun a ha => ?_, fun j hj => ?_⟩⟩
        · rw [s2.1 a (by omega) (by omega), a2.1 a (by omega) (by omega)]
        · rw [s2.2 j (by omega) (by omega), a2.2 j (by omega)]
      · intro i s i0 i1 ⟨s1, s2⟩ k
        have rs := mlr_MP a3 s2
        have oi := od.2.1 i i0 (by omega)
        have ea : atx L i = iv M4 25 i := (atx_ord v od i).trans (if_pos ⟨i0, by omega⟩)
        rw [← ea] at oi
        have lb := ll i i0 (by omega)
        have rg := v.rg _ oi.1 oi.2.1
        have ln := v.ln _ oi.1 oi.2.1 oi.2.2
        obtain ⟨M8, b1, b2, b3⟩ := sp_prN s1 (by omega) (x := L.code (atx L i)) (by omega) (by omega)
        have nl := dN_len (L.code (atx L i))
        refine vc_m_print_41 _ _ s _ ⟨⟨by omega, by omega⟩, ⟨by omega, by omega⟩, fun _ => ⟨_, s, sp_atIndex v rs ⟨by omega, by omega⟩, ⟨oi.1, oi.2.1⟩, M8, by rw [(rs.2.1 _ oi.1 oi.2.1 oi.2.2).1]; exact b1, ?_⟩, fun q => by omega⟩
        obtain ⟨c, hc⟩ : ∃ c, c = atx L i := ⟨_, rfl⟩
        obtain ⟨l0, hl0⟩ : ∃ l0, l0 = cat (fun i => dC L (atx L i)) i.toNat := ⟨_, rfl⟩
        have cs' : cat (fun i => dC L (atx L i)) (i + 1).toNat = l0 ++ dC L c := by rw [cat_s _ i0, hl0, hc]
        rw [← hc] at oi rg ln b2 nl ⊢
        rw [← hl0] at s1 b2 lb
        refine loop_up (fun j (t : am_M) => (69, [.ref 58, .null, .null, .int (zi (frc L 40)), .int (zi i), .int (zi c), .int (zi j), .null], [], t)) (L.len c) (fun j t => PM (l0 ++ (dN (L.code c) ++ cat (fun k => dW (tw L c k)) j.toNat)) t ∧ MPf M5 t) ?_ ?_ 0 M8 (by omega) ln.1 ⟨by show PM (l0 ++ (dN (L.code c) ++ [])) M8; rw [List.append_nil]; exact b2, MPf_trans s2 b3⟩
        · intro t ⟨t1, t2⟩
          have rt := mlr_MP a3 t2
          have cl := catW_len L c (L.len c).toNat
          obtain ⟨M9, f1, f2, f3⟩ := sp_prints t1 (by rw [List.length_append, List.length_append]; omega) (x := 10) (by decide)
          refine vc_m_print_69 _ _ _ _ t _ ⟨⟨oi.1, oi.2.1⟩, ⟨by omega, by omega⟩, fun q => by rw [(rt.2.1 c oi.1 oi.2.1 oi.2.2).2.1] at q; omega, fun _ => ⟨M9, f1, k M9 ⟨?_, MPf_trans t2 f3⟩⟩⟩
          rw [cs']
          unfold dC
          rw [List.append_assoc, List.append_assoc] at f2
          exact f2
        · intro j t j0 j1 ⟨t1, t2⟩ kk
          have rt := mlr_MP a3 t2
          have cl := catW_len L c j.toNat
          have ll : (l0 ++ (dN (L.code c) ++ cat (fun k => dW (tw L c k)) j.toNat)).length ≤ 70100 := by rw [List.length_append, List.length_append]; omega
          have tr := tw_rg v oi.1 oi.2.1 oi.2.2 j0 j1
          obtain ⟨M9, f1, f2, f3⟩ := sp_prints t1 (by omega) (x := 32) (by decide)
          have l2 : ((l0 ++ (dN (L.code c) ++ cat (fun k => dW (tw L c k)) j.toNat)) ++ [32]).length ≤ 70101 := by rw [List.length_append]; show _ + 1 ≤ _; omega
          have step : ∀ M', PM (((l0 ++ (dN (L.code c) ++ cat (fun k => dW (tw L c k)) j.toNat)) ++ [32]) ++ (if tw L c j = -5 then [63] else if tw L c j < 1000 then dI (tw L c j) else [64] ++ dN (tw L c j - 1000))) M' → MPf M9 M' → am_x t_Mo_print (69, [.ref 58, .null, .null, .int (zi (frc L 40)), .int (zi i), .int (zi c), .int (zi (j + 1)), .null], [], M') _ := fun M' p1 p2 => kk M' ⟨by
            rw [cat_s _ j0, ← List.append_assoc (dN (L.code c)), ← List.append_assoc l0]
            show PM (_ ++ ([32] ++ _)) M'
            rw [← List.append_assoc]
            exact p1, MPf_trans t2 (MPf_trans f3 p2)⟩
          refine vc_m_print_69 _ _ _ _ t _ ⟨⟨oi.1, oi.2.1⟩, ⟨by omega, by omega⟩, fun _ => ⟨_, t, sp_toldWord v rt oi.1 oi.2.1 oi.2.2 j0 j1, M9, f1, ⟨by omega, by omega⟩, fun q => ?_, fun q => ⟨fun q2 => ?_, fun q2 => ?_⟩⟩, fun q => by rw [(rt.2.1 c oi.1 oi.2.1 oi.2.2).2.1] at q; omega⟩
          · obtain ⟨M3, d1, d2, d3⟩ := sp_prints f2 (by omega) (x := 63) (by decide)
            exact ⟨M3, d1, step M3 (by rw [if_pos q]; exact d2) d3⟩
          · obtain ⟨M3, d1, d2, d3⟩ := sp_prI f2 (by omega) (v := tw L c j) (by
              have := v.wt c j oi.1 oi.2.1 oi.2.2 j0 j1
              unfold tw at q q2 ⊢
              by_cases z : L.tx c j < 1000
              · rw [if_pos z]; omega
              · rw [if_neg z] at q q2 ⊢
                by_cases y : L.code (L.tx c j - 1000) = 0
                · rw [if_pos y] at q; omega
                · rw [if_neg y] at q2 ⊢
                  have := v.rg (L.tx c j - 1000) (by omega) (by omega)
                  omega) (by omega)
            exact ⟨M3, d1, step M3 (by rw [if_neg q, if_pos q2]; exact d2) d3⟩
          · obtain ⟨M3, d1, d2, d3⟩ := sp_prints f2 (by omega) (x := 64) (by decide)
            obtain ⟨M4', g1, g2, g3⟩ := sp_prN d2 (by rw [List.length_append]; show _ + 1 ≤ _; omega) (x := tw L c j - 1000) (by omega) (by omega)
            exact ⟨M3, d1, M4', g1, step M4' (by rw [if_neg q, if_neg (by omega), ← List.append_assoc]; exact g2) (MPf_trans d3 g3)⟩
    obtain ⟨M2, d1, d2, d3, d4⟩ := mm
    refine ⟨(dL L).length, M1, M2, c1, d1, fun a ha => ?_, fun j hj => ?_, dL L, ?_, d2, dl⟩
    · rw [d3 a (by omega), c3 a (by omega) (by omega), fr.1 a (by omega) (by omega)]
    · rw [d4 j hj, hs 58 (by decide)]
    · exact PC_row c2 (d3 7 (by decide)) (d3 8 (by decide))
  · refine ⟨-2, M, M, am_call_of ⟨Nat.le_of_ble_eq_true rfl, rfl⟩ (vc_c_print d e M _ ⟨⟨dz, ez⟩, fun q => absurd q hl, fun _ => ⟨rfl, rfl⟩⟩), am_call_of ⟨Nat.le_of_ble_eq_true rfl, rfl⟩ (vc_m_print d e M _ ⟨dz, fun q => ⟨ez, fun q2 => absurd ⟨q, q2⟩ hl, fun _ => ⟨rfl, rfl⟩⟩, fun _ => ⟨rfl, rfl⟩⟩), fun _ _ => rfl, fun _ _ => rfl, ho⟩
theorem q_printed {M : am_M} (ho : OUTR M) {i : Int} (iz : zr i) : QRY t_SB_printed t_Mo_printed [.ref 0, .int (zi i)] [.ref 58, .int (zi i)] M := by
  obtain ⟨l, p1, p2, p3⟩ := ho
  by_cases q : i < 0
  · exact qry (-2) ⟨Nat.le_of_ble_eq_true rfl, rfl⟩ ⟨Nat.le_of_ble_eq_true rfl, rfl⟩ (vc_c_printed i M _ ⟨iz, fun _ => ⟨rfl, CQ_refl M⟩, fun z => by omega⟩) (fun M1 hs => vc_m_printed i M1 _ ⟨iz, fun _ => ⟨rfl, MqF_refl M1⟩, fun z => by omega⟩)
  · by_cases h : i < l.length ∧ i < 1000
    · refine qry (l.getD i.toNat 0) ⟨Nat.le_of_ble_eq_true rfl, rfl⟩ ⟨Nat.le_of_ble_eq_true rfl, rfl⟩ (vc_c_printed i M _ ⟨iz, fun z => by omega, fun _ => ⟨_, M, am_call_of ⟨Nat.le_of_ble_eq_true rfl, rfl⟩ (vc_p7_byteAt i M (fun rv m => rv = some (.int (zi (l.getD i.toNat 0))) ∧ m = M) ⟨iz, fun z => by omega, fun _ => ⟨fun _ => ⟨fun _ => ⟨⟨by omega, by omega⟩, ?_, rfl⟩, fun z => by omega⟩, fun z => by rw [p1.1] at z; omega⟩⟩), rfl, CQ_refl M⟩⟩) (fun M1 hs => ?_)
      · have := p1.2 i.toNat (by omega) (by omega)
        rw [show ((i.toNat : Nat) : Int) = i by omega] at this
        rw [this]
      · have e58 : iv M1 58 = iv M 58 := iv_row (hs 58 (by decide))
        have e75 : iv M1 75 = iv M 75 := iv_row (hs 75 (by decide))
        have := p2.2.2 i.toNat (by omega) (by omega)
        rw [show ((i.toNat : Nat) : Int) = i by omega] at this
        exact vc_m_printed i M1 _ ⟨iz, fun z => by omega, fun _ => ⟨fun _ => ⟨⟨by omega, by omega⟩, by rw [e75, this], MqF_refl M1⟩, fun z => by rw [e58, p2.2.1] at z; omega⟩⟩
    · refine qry (-1) ⟨Nat.le_of_ble_eq_true rfl, rfl⟩ ⟨Nat.le_of_ble_eq_true rfl, rfl⟩ (vc_c_printed i M _ ⟨iz, fun z => by omega, fun _ => ⟨_, M, am_call_of ⟨Nat.le_of_ble_eq_true rfl, rfl⟩ (vc_p7_byteAt i M (fun rv m => rv = some (.int (zi (-1))) ∧ m = M) ⟨iz, fun _ => ⟨rfl, rfl⟩, fun _ => ⟨fun z => ⟨fun z2 => absurd ⟨by rw [p1.1] at z; exact z, z2⟩ h, fun _ => ⟨rfl, rfl⟩⟩, fun _ => ⟨rfl, rfl⟩⟩⟩), rfl, CQ_refl M⟩⟩) (fun M1 hs => ?_)
      have e58 : iv M1 58 = iv M 58 := iv_row (hs 58 (by decide))
      exact vc_m_printed i M1 _ ⟨iz, fun z => by omega, fun _ => ⟨fun z => by rw [e58, p2.2.1] at z; omega, fun _ => ⟨rfl, MqF_refl M1⟩⟩⟩
