/-! out of the proof of whole: amend -/
def DO (d g : Int → Int) : Prop := d 0 = g 0 ∧ d 1 = g 1 ∧ (d 2 = if 2 < g 0 then g 2 else -1) ∧ (d 3 = if g 0 = 4 then g 3 else -1) ∧ d 4 = g 4 ∧ d 5 = g 5 ∧ d 6 = -1 ∧ ∀ k, 0 ≤ k → k < g 5 → d (7 + k) = g (6 + k)
theorem opF_0 (T : Int → Int) (s : Int) : opF T s 0 = kd T s := rfl
theorem opF_1 (T : Int → Int) (s : Int) : opF T s 1 = nv T (oA T s) := rfl
theorem opF_2 (T : Int → Int) (s : Int) : opF T s 2 = if kd T s = 3 then nv T (o3 T s) else if kd T s = 4 then dv T (o4 T s) else 0 := rfl
theorem opF_3 (T : Int → Int) (s : Int) : opF T s 3 = if kd T s = 4 then dv T (o5 T s) else 0 := rfl
theorem opF_4 (T : Int → Int) (s : Int) : opF T s 4 = if kd T s = 1 then svV T (oW T s) else if kd T s = 4 then svV T (de T (o5 T s)) else if kd T s = 2 then svV T (oB T s) else 0 := rfl
theorem opF_5 (T : Int → Int) (s : Int) : opF T s 5 = if kd T s < 2 then wc T (oB T s) else 0 := rfl
theorem opF_6 (T : Int → Int) (s : Int) {k : Int} (h : 0 ≤ k) : opF T s (6 + k) = wV T (wq T (oB T s) k) := by
  unfold opF
  rw [if_neg (by omega), if_neg (by omega), if_neg (by omega), if_neg (by omega), if_neg (by omega), if_neg (by omega), show 6 + k - 6 = k by omega]
theorem th_e {a b : Int} (h : th a b = -1) : a = -1 ∧ b = -1 := by
  unfold th at h
  by_cases q : a = -1
  · rw [if_pos q] at h; exact ⟨q, h⟩
  · rw [if_neg q] at h; exact absurd h q
theorem th_a (a b c : Int) : th (th a b) c = th a (th b c) := by
  unfold th
  by_cases q : a = -1
  · rw [if_pos q, if_pos q]
  · rw [if_neg q, if_neg q, if_neg q]
theorem th_c {a b c : Int} (h : a = -1 → b = c) : th a b = th a c := by
  unfold th
  by_cases q : a = -1
  · rw [if_pos q, if_pos q, h q]
  · rw [if_neg q, if_neg q]
/-- what an operation leaves -/
def OPc (T : Int → Int) (n s z : Int) (M M' : am_M) : Prop := (∀ a, ¬ a = 1 → ¬ a = 4 → ¬ a = 6 → M' a = M a) ∧ (0 ≤ iv M' 1 2 ∧ iv M' 1 2 ≤ n) ∧ iv M' 1 3 = opE T s ∧
  (opE T s = -1 → sk T (iv M' 1 2) = sk T (opN T s) ∧ iv M' 4 1 = z + 1 ∧ iv M' 4 2 = iv M 4 2 + (if kd T s = 0 then 1 else 0) ∧ DO (fun w => iv M' 6 (z * 13 + w)) (opF T s) ∧ ∀ j, 0 ≤ j → j < z * 13 → iv M' 6 j = iv M 6 j)
set_option maxHeartbeats 1000000 in
theorem sp_c_operation {T : Int → Int} {n : Int} {M : am_M} {p z : Int} (x : XT T n M) (g : CRd M p (-1) M) (p0 : 0 ≤ p) (p1 : p ≤ n) (ez : iv M 4 1 = z) (z0 : 0 ≤ z) (z1 : z < 40) (hi : 0 ≤ iv M 4 2 ∧ iv M 4 2 ≤ 40) : ∃ M', am_call t_Rea_readOperation [.ref 1] M none M' ∧ OPc T n (sk T p) z M M' := by
  suffices hh : am_x t_Rea_readOperation (0, am_ent (am_mL t_Rea_readOperation) [.ref 1], [], M) (fun rv M' => rv = none ∧ OPc T n (sk T p) z M M') by
    obtain ⟨rv, M', c1, c2, c3⟩ := am_call_ex (by exact ⟨Nat.le_of_ble_eq_true rfl, rfl⟩) hh
    subst c2
    exact ⟨M', c1, c3⟩
  have xn := x.2.2.1
  have r := x.2.2.skr p0 p1
  obtain ⟨M1, c1, g1⟩ := sp_skip x g p0 p1
  generalize sk T p = s at *
  have e41 : iv M1 4 1 = z := by rw [iv_row (g1.1 4 (by decide)), ez]
  obtain ⟨M5, c5, g5⟩ := sp_readKind x g1 (by omega) (by omega)
  have kr := kd_r T s
  refine vc_c_readOperation M _ ⟨M1, c1, fun _ => ⟨kd T s, M5, c5, ⟨by omega, by omega⟩, fun hk => ?_, fun hk => ?_⟩, fun q => by omega⟩
  · have ek : ke T s = s := by
      unfold kd at hk
      unfold ke
      by_cases m0 : mt0 T s
      · rw [if_pos m0] at hk; exact absurd hk (by decide)
      rw [if_neg m0] at hk ⊢
      by_cases m1 : mt1 T s
      · rw [if_pos m1] at hk; exact absurd hk (by decide)
      rw [if_neg m1] at hk ⊢
      by_cases m2 : mt2 T s
      · rw [if_pos m2] at hk; exact absurd hk (by decide)
      rw [if_neg m2] at hk ⊢
      by_cases m3 : mt3 T s
      · rw [if_pos m3] at hk; exact absurd hk (by decide)
      rw [if_neg m3] at hk ⊢
      by_cases m4 : mt4 T s
      · rw [if_pos m4] at hk; exact absurd hk (by decide)
      rw [if_neg m4]
    rw [ek] at g5
    obtain ⟨M8, c8, g8⟩ := sp_c_fail g5 (x := s) ⟨by omega, by omega⟩
    rw [g5.2.1]
    have eo : opE T s = s := by unfold opE; rw [if_pos hk]
    refine ⟨M8, c8, rfl, fun a a1 _ _ => g8.1 a a1, ?_, ?_, fun q => ?_⟩
    · rw [g8.2.1]; omega
    · rw [eo, g8.2.2, th_o]
    · rw [eo] at q; omega
  · have ar := oA_r x.2.2 (s := s) (by omega) (by omega)
    have br := oB_r x.2.2 (s := s) (by omega) (by omega)
    have kr2 := ke_r x.2.2 (p := s) (by omega) (by omega)
    obtain ⟨M9, c9, g9⟩ := sp_skip x g5 (by omega) (by omega)
    have g9 : CRd M (oA T s) (-1) M9 := g9
    obtain ⟨M10, c10, g10⟩ := sp_c_number x g9 (by omega) (by omega)
    rw [th_o] at g10
    have g10 : CRd M (oB T s) (df 1 T (oA T s)) M10 := g10
    have nr := nv_r (T := T) (p := oA T s)
    have e4 : iv M10 4 = iv M 4 := iv_row (g10.1 4 (by decide))
    have e6 : iv M10 6 = iv M 6 := iv_row (g10.1 6 (by decide))
    obtain ⟨M12, c12, b1, b2, b3, ⟨d0, d1, d2, d3, d4, d5, d6⟩, b5⟩ := sp_begin (M := M10) (z := z) (k := kd T s) (n := nv T (oA T s)) (by rw [e4, ez]) z0 z1 ⟨by omega, by omega⟩ ⟨by omega, by omega⟩ (by rw [e4]; exact hi)
    rw [e4] at b3
    rw [e6] at b5
    have g12 : CR6 M12 (oB T s) (df 1 T (oA T s)) M12 := ⟨fun _ _ _ => rfl, by rw [iv_row (b1 1 (by decide) (by decide)), g10.2.1], by rw [iv_row (b1 1 (by decide) (by decide)), g10.2.2]⟩
    have x12 : XT T n M12 := x.row (by rw [b1 2 (by decide) (by decide), g10.1 2 (by decide)]) (by rw [b1 3 (by decide) (by decide), g10.1 3 (by decide)])
    have ro : ∀ {M' : am_M} {p' f' : Int}, CR6 M12 p' f' M' → ∀ a, ¬ a = 1 → ¬ a = 4 → ¬ a = 6 → M' a = M a := fun h a a1 a4 a6 => by rw [h.1 a a1 a6, b1 a a4 a6, g10.1 a a1]
    have r41 : ∀ {M' : am_M} {p' f' : Int}, CR6 M12 p' f' M' → iv M' 4 1 = z + 1 := fun h => by rw [iv_row (h.1 4 (by decide) (by decide)), b2]
    have r42 : ∀ {M' : am_M} {p' f' : Int}, CR6 M12 p' f' M' → iv M' 4 2 = iv M 4 2 + (if kd T s = 0 then 1 else 0) := fun h => by rw [iv_row (h.1 4 (by decide) (by decide)), b3]
    have zz : (z + 1 - 1) * 13 = z * 13 := by omega
    refine ⟨M9, c9, nv T (oA T s), M10, c10, M12, c12, fun k0 => ?_, fun k0 => ⟨fun k1 => ?_, fun k1 => ⟨fun k3 => ?_, fun k3 => ⟨fun k4 => ?_, fun k4 => ?_⟩⟩⟩⟩
    · obtain ⟨M13, p', c13, g13, q1, q2, q3⟩ := sp_c_words x12 b2 (by omega) (by omega) g12 (by rw [zz]; exact d5) (by omega) (by omega)
      rw [zz] at q2 q3
      have eo : opE T s = th (df 1 T (oA T s)) (wde T (oB T s)) := by unfold opE; rw [if_neg hk, if_pos k0]
      refine ⟨M13, c13, rfl, ro g13, by rw [g13.2.1]; exact q1, by rw [g13.2.2, eo], fun ok => ?_⟩
      rw [eo] at ok
      obtain ⟨o1, o2⟩ := th_e ok
      obtain ⟨u1, u2, u3⟩ := q2 o1 o2
      refine ⟨?_, r41 g13, r42 g13, ⟨?_, ?_, ?_, ?_, ?_, ?_, ?_, fun k h0 h1 => ?_⟩, fun j j0 j1 => ?_⟩
      · rw [g13.2.1, u1]; unfold opN; rw [if_pos k0]; rfl
      · show iv M13 6 (z * 13 + 0) = _
        rw [q3 _ (by omega) (by omega) (by omega), Int.add_zero, d0]; rfl
      · show iv M13 6 (z * 13 + 1) = _
        rw [q3 _ (by omega) (by omega) (by omega), d1]; rfl
      · show iv M13 6 (z * 13 + 2) = _
        rw [q3 _ (by omega) (by omega) (by omega), d2, opF_0, if_neg (by omega)]
      · show iv M13 6 (z * 13 + 3) = _
        rw [q3 _ (by omega) (by omega) (by omega), d3, opF_0, if_neg (by omega)]
      · show iv M13 6 (z * 13 + 4) = _
        rw [q3 _ (by omega) (by omega) (by omega), d4, opF_4, if_neg (by omega), if_neg (by omega), if_neg (by omega)]
      · show iv M13 6 (z * 13 + 5) = _
        rw [u2, opF_5, if_pos (by omega)]
      · show iv M13 6 (z * 13 + 6) = _
        rw [q3 _ (by omega) (by omega) (by omega), d6]
      · show iv M13 6 (z * 13 + (7 + k)) = _
        rw [opF_5, if_pos (by omega)] at h1
        rw [u3 k h0 h1, opF_6 T s h0]
      · rw [q3 _ j0 (by omega) (by omega), b5 j j0 (by omega)]
    · obtain ⟨M13, p', c13, g13, q1, q2, q3⟩ := sp_c_words x12 b2 (by omega) (by omega) g12 (by rw [zz]; exact d5) (by omega) (by omega)
      rw [zz] at q2 q3
      obtain ⟨M15, p2, c15, g15, v1, v2, v3⟩ := sp_c_saving x12 b2 (by omega) (by omega) g13 q1.1 q1.2
      rw [zz] at v2 v3
      have eo : opE T s = th (df 1 T (oA T s)) (th (wde T (oB T s)) (svE T (oW T s))) := by unfold opE; rw [if_neg hk, if_neg k0, if_pos k1]
      have e15 : th (th (df 1 T (oA T s)) (wde T (oB T s))) (svE T p') = opE T s := by
        rw [eo, th_a]
        refine th_c (fun h1 => th_c (fun h2 => ?_))
        exact svE_c (q2 h1 h2).1
      rw [e15] at g15
      refine ⟨M13, c13, M15, c15, rfl, ro g15, by rw [g15.2.1]; exact v1, g15.2.2, fun ok => ?_⟩
      have ok2 := ok
      rw [← e15] at ok
      obtain ⟨o1, o2⟩ := th_e ok
      obtain ⟨o3', o4'⟩ := th_e o1
      obtain ⟨u1, u2, u3⟩ := q2 o3' o4'
      obtain ⟨w1, w2⟩ := v2 o1 o2
      have u1' : sk T p' = sk T (oW T s) := u1
      refine ⟨?_, r41 g15, r42 g15, ⟨?_, ?_, ?_, ?_, ?_, ?_, ?_, fun k h0 h1 => ?_⟩, fun j j0 j1 => ?_⟩
      · rw [g15.2.1, w1]; unfold opN; rw [if_neg k0, if_pos k1, svN_c u1']
      · show iv M15 6 (z * 13 + 0) = _
        rw [v3 _ (by omega) (by omega), q3 _ (by omega) (by omega) (by omega), Int.add_zero, d0]; rfl
      · show iv M15 6 (z * 13 + 1) = _
        rw [v3 _ (by omega) (by omega), q3 _ (by omega) (by omega) (by omega), d1]; rfl
      · show iv M15 6 (z * 13 + 2) = _
        rw [v3 _ (by omega) (by omega), q3 _ (by omega) (by omega) (by omega), d2, opF_0, if_neg (by omega)]
      · show iv M15 6 (z * 13 + 3) = _
        rw [v3 _ (by omega) (by omega), q3 _ (by omega) (by omega) (by omega), d3, opF_0, if_neg (by omega)]
      · show iv M15 6 (z * 13 + 4) = _
        rw [w2, q3 _ (by omega) (by omega) (by omega), d4, opF_4, if_pos k1, u1']; rfl
      · show iv M15 6 (z * 13 + 5) = _
        rw [v3 _ (by omega) (by omega), u2, opF_5, if_pos (by omega)]
      · show iv M15 6 (z * 13 + 6) = _
        rw [v3 _ (by omega) (by omega), q3 _ (by omega) (by omega) (by omega), d6]
      · show iv M15 6 (z * 13 + (7 + k)) = _
        rw [opF_5, if_pos (by omega)] at h1
        rw [v3 _ (by omega) (by omega), u3 k h0 h1, opF_6 T s h0]
      · rw [v3 _ j0 (by omega), q3 _ j0 (by omega) (by omega), b5 j j0 (by omega)]
    · have xr := xe5_r x.2.2 (p := oB T s) (by omega) (by omega)
      obtain ⟨M16, c16, h16⟩ := sp_expect5 (g12.x x12) g12.b (by omega) (by omega)
      have g16 := g12.s h16
      obtain ⟨M17, c17, h17⟩ := sp_skip (g16.x x12) g16.b (by omega) (by omega)
      have g17 := g16.s h17
      have h17 : CRd M16 (o3 T s) (th (df 1 T (oA T s)) (xf5 T (oB T s))) M17 := h17
      have g17 : CR6 M12 (o3 T s) (th (df 1 T (oA T s)) (xf5 T (oB T s))) M17 := g17
      have o3r := o3_r x.2.2 (s := s) (by omega) (by omega)
      obtain ⟨M18, c18, h18⟩ := sp_c_number (g17.x x12) g17.b (by omega) (by omega)
      have g18 := g17.s h18
      have n3 := x.2.2.ner (p := o3 T s) (by omega) (by omega)
      have nr3 := nv_r (T := T) (p := o3 T s)
      have r6 : iv M18 6 = iv M12 6 := by rw [iv_row (h18.1 6 (by decide)), iv_row (h17.1 6 (by decide)), iv_row (h16.1 6 (by decide))]
      have eo : opE T s = th (df 1 T (oA T s)) (th (xf5 T (oB T s)) (df 1 T (o3 T s))) := by unfold opE; rw [if_neg hk, if_neg k0, if_neg k1, if_pos k3]
      rw [th_a, ← eo] at g18
      refine ⟨M16, c16, M17, c17, nv T (o3 T s), M18, c18, ?_⟩
      rw [r41 g18, zz]
      refine ⟨⟨by omega, by omega⟩, fun M20 e20 => ⟨rfl, ?_⟩⟩
      have g20 := g18.w (M1 := M20) (fun a ha => by rw [e20, zupr _ ha])
      have j20 : ∀ j, 0 ≤ j → iv M20 6 j = if j = z * 13 + 2 then nv T (o3 T s) else iv M12 6 j := fun j j0 => by rw [e20, ivs _ _ (by omega) j0 ⟨by omega, by omega⟩, r6]
      refine ⟨ro g20, by rw [g20.2.1]; omega, g20.2.2, fun _ => ⟨?_, r41 g20, r42 g20, ⟨?_, ?_, ?_, ?_, ?_, ?_, ?_, fun k h0 h1 => ?_⟩, fun j j0 j1 => ?_⟩⟩
      · rw [g20.2.1]; unfold opN; rw [if_neg k0, if_neg k1, if_pos k3]
      · show iv M20 6 (z * 13 + 0) = _
        rw [j20 _ (by omega), if_neg (by omega), Int.add_zero, d0]; rfl
      · show iv M20 6 (z * 13 + 1) = _
        rw [j20 _ (by omega), if_neg (by omega), d1]; rfl
      · show iv M20 6 (z * 13 + 2) = _
        rw [j20 _ (by omega), if_pos rfl, opF_0, if_pos (by omega), opF_2, if_pos k3]
      · show iv M20 6 (z * 13 + 3) = _
        rw [j20 _ (by omega), if_neg (by omega), d3, opF_0, if_neg (by omega)]
      · show iv M20 6 (z * 13 + 4) = _
        rw [j20 _ (by omega), if_neg (by omega), d4, opF_4, if_neg (by omega), if_neg (by omega), if_neg (by omega)]
      · show iv M20 6 (z * 13 + 5) = _
        rw [j20 _ (by omega), if_neg (by omega), d5, opF_5, if_neg (by omega)]
      · show iv M20 6 (z * 13 + 6) = _
        rw [j20 _ (by omega), if_neg (by omega), d6]
      · rw [opF_5, if_neg (by omega)] at h1; omega
      · rw [j20 _ j0, if_neg (by omega), b5 j j0 (by omega)]
    · have xr := xe6_r x.2.2 (p := oB T s) (by omega) (by omega)
      have o4r := o4_r x.2.2 (s := s) (by omega) (by omega)
      have o5r := o5_r x.2.2 (s := s) (by omega) (by omega)
      have d4r := x.2.2.der (p := o4 T s) (by omega) (by omega)
      have d5r := x.2.2.der (p := o5 T s) (by omega) (by omega)
      have x7r := xe7_r x.2.2 (p := de T (o4 T s)) (by omega) (by omega)
      have v4 := dg_is T (o4 T s)
      have v5 := dg_is T (o5 T s)
      obtain ⟨M21, c21, h21⟩ := sp_expect6 (g12.x x12) g12.b (by omega) (by omega)
      have g21 := g12.s h21
      obtain ⟨M22, c22, h22⟩ := sp_readPlain (g21.x x12) g21.b (by omega) (by omega)
      have c22 : am_call t_Rea_readPlain [.ref 1] M21 (some (.int (zi (dv T (o4 T s))))) M22 := c22
      have h22 : CRd M21 (de T (o4 T s)) (th (th (df 1 T (oA T s)) (xf6 T (oB T s))) (df 0 T (o4 T s))) M22 := h22
      have g22 := g21.s h22
      have r6 : iv M22 6 = iv M12 6 := by rw [iv_row (h22.1 6 (by decide)), iv_row (h21.1 6 (by decide))]
      obtain ⟨M24, e24⟩ : ∃ M24, M24 = zup M22 6 (z * 13 + 2) (dv T (o4 T s)) := ⟨_, rfl⟩
      have g24 := g22.w (M1 := M24) (fun a ha => by rw [e24, zupr _ ha])
      have j24 : ∀ j, 0 ≤ j → iv M24 6 j = if j = z * 13 + 2 then dv T (o4 T s) else iv M12 6 j := fun j j0 => by rw [e24, ivs _ _ (by omega) j0 ⟨by omega, by omega⟩, r6]
      obtain ⟨M25, c25, h25⟩ := sp_expect7 (g24.x x12) g24.b (by omega) (by omega)
      have g25 := g24.s h25
      obtain ⟨M26, c26, h26⟩ := sp_readPlain (g25.x x12) g25.b (by omega) (by omega)
      have c26 : am_call t_Rea_readPlain [.ref 1] M25 (some (.int (zi (dv T (o5 T s))))) M26 := c26
      have h26 : CRd M25 (de T (o5 T s)) (th (th (th (th (df 1 T (oA T s)) (xf6 T (oB T s))) (df 0 T (o4 T s))) (xf7 T (de T (o4 T s)))) (df 0 T (o5 T s))) M26 := h26
      have g26 := g25.s h26
      have r66 : iv M26 6 = iv M24 6 := by rw [iv_row (h26.1 6 (by decide)), iv_row (h25.1 6 (by decide))]
      obtain ⟨M28, e28⟩ : ∃ M28, M28 = zup M26 6 (z * 13 + 3) (dv T (o5 T s)) := ⟨_, rfl⟩
      have g28 := g26.w (M1 := M28) (fun a ha => by rw [e28, zupr _ ha])
      have j28 : ∀ j, 0 ≤ j → iv M28 6 j = if j = z * 13 + 3 then dv T (o5 T s) else if j = z * 13 + 2 then dv T (o4 T s) else iv M12 6 j := fun j j0 => by rw [e28, ivs _ _ (by omega) j0 ⟨by omega, by omega⟩, r66, j24 _ j0]
      obtain ⟨M29, p2, c29, g29, v1, v2, v3⟩ := sp_c_saving x12 b2 (by omega) (by omega) g28 (by omega) (by omega)
      rw [zz] at v2 v3
      have eo : opE T s = th (df 1 T (oA T s)) (th (xf6 T (oB T s)) (th (df 0 T (o4 T s)) (th (xf7 T (de T (o4 T s))) (th (df 0 T (o5 T s)) (svE T (de T (o5 T s))))))) := by unfold opE; rw [if_neg hk, if_neg k0, if_neg k1, if_neg k3, if_pos k4]
      have e29 : th (th (th (th (th (df 1 T (oA T s)) (xf6 T (oB T s))) (df 0 T (o4 T s))) (xf7 T (de T (o4 T s)))) (df 0 T (o5 T s))) (svE T (de T (o5 T s))) = opE T s := by rw [eo, th_a, th_a, th_a, th_a]
      rw [e29] at g29
      refine ⟨M21, c21, dv T (o4 T s), M22, c22, ?_⟩
      rw [r41 g22, zz]
      refine ⟨⟨by omega, by omega⟩, fun M24' e24' => ?_⟩
      rw [← e24] at e24'
      subst e24'
      refine ⟨M25, c25, dv T (o5 T s), M26, c26, ?_⟩
      rw [r41 g26, zz]
      refine ⟨⟨by omega, by omega⟩, fun M28' e28' => ?_⟩
      rw [← e28] at e28'
      subst e28'
      refine ⟨M29, c29, rfl, ro g29, by rw [g29.2.1]; exact v1, g29.2.2, fun ok => ?_⟩
      rw [← e29] at ok
      obtain ⟨o1, o2⟩ := th_e ok
      obtain ⟨w1, w2⟩ := v2 o1 o2
      refine ⟨?_, r41 g29, r42 g29, ⟨?_, ?_, ?_, ?_, ?_, ?_, ?_, fun k h0 h1 => ?_⟩, fun j j0 j1 => ?_⟩
      · rw [g29.2.1, w1]; unfold opN; rw [if_neg k0, if_neg k1, if_neg k3, if_pos k4]
      · show iv M29 6 (z * 13 + 0) = _
        rw [v3 _ (by omega) (by omega), j28 _ (by omega), if_neg (by omega), if_neg (by omega), Int.add_zero, d0]; rfl
      · show iv M29 6 (z * 13 + 1) = _
        rw [v3 _ (by omega) (by omega), j28 _ (by omega), if_neg (by omega), if_neg (by omega), d1]; rfl
      · show iv M29 6 (z * 13 + 2) = _
        rw [v3 _ (by omega) (by omega), j28 _ (by omega), if_neg (by omega), if_pos rfl, opF_0, if_pos (by omega), opF_2, if_neg (by omega), if_pos k4]
      · show iv M29 6 (z * 13 + 3) = _
        rw [v3 _ (by omega) (by omega), j28 _ (by omega), if_pos rfl, opF_0, if_pos k4, opF_3, if_pos k4]
      · show iv M29 6 (z * 13 + 4) = _
        rw [w2, j28 _ (by omega), if_neg (c := z * 13 + 4 = z * 13 + 3) (by omega), if_neg (c := z * 13 + 4 = z * 13 + 2) (by omega), d4, opF_4, if_neg (c := kd T s = 1) k1, if_pos (c := kd T s = 4) k4]; rfl
      · show iv M29 6 (z * 13 + 5) = _
        rw [v3 _ (by omega) (by omega), j28 _ (by omega), if_neg (by omega), if_neg (by omega), d5, opF_5, if_neg (by omega)]
      · show iv M29 6 (z * 13 + 6) = _
        rw [v3 _ (by omega) (by omega), j28 _ (by omega), if_neg (by omega), if_neg (by omega), d6]
      · rw [opF_5, if_neg (by omega)] at h1; omega
      · rw [v3 _ j0 (by omega), j28 _ j0, if_neg (by omega), if_neg (by omega), b5 j j0 (by omega)]
    · obtain ⟨M15, p2, c15, g15, v1, v2, v3⟩ := sp_c_saving x12 b2 (by omega) (by omega) g12 (by omega) (by omega)
      rw [zz] at v2 v3
      have eo : opE T s = th (df 1 T (oA T s)) (svE T (oB T s)) := by unfold opE; rw [if_neg hk, if_neg k0, if_neg k1, if_neg k3, if_neg k4]
      rw [← eo] at g15
      refine ⟨M15, c15, rfl, ro g15, by rw [g15.2.1]; exact v1, g15.2.2, fun ok => ?_⟩
      rw [eo] at ok
      obtain ⟨o1, o2⟩ := th_e ok
      obtain ⟨w1, w2⟩ := v2 o1 o2
      refine ⟨?_, r41 g15, r42 g15, ⟨?_, ?_, ?_, ?_, ?_, ?_, ?_, fun k h0 h1 => ?_⟩, fun j j0 j1 => ?_⟩
      · rw [g15.2.1, w1]; unfold opN; rw [if_neg k0, if_neg k1, if_neg k3, if_neg k4]
      · show iv M15 6 (z * 13 + 0) = _
        rw [v3 _ (by omega) (by omega), Int.add_zero, d0]; rfl
      · show iv M15 6 (z * 13 + 1) = _
        rw [v3 _ (by omega) (by omega), d1]; rfl
      · show iv M15 6 (z * 13 + 2) = _
        rw [v3 _ (by omega) (by omega), d2, opF_0, if_neg (by omega)]
      · show iv M15 6 (z * 13 + 3) = _
        rw [v3 _ (by omega) (by omega), d3, opF_0, if_neg (by omega)]
      · show iv M15 6 (z * 13 + 4) = _
        rw [w2, d4, opF_4, if_neg (c := kd T s = 1) k1, if_neg (c := kd T s = 4) k4, if_pos (c := kd T s = 2) (by omega)]; rfl
      · show iv M15 6 (z * 13 + 5) = _
        rw [v3 _ (by omega) (by omega), d5, opF_5, if_neg (by omega)]
      · show iv M15 6 (z * 13 + 6) = _
        rw [v3 _ (by omega) (by omega), d6]
      · rw [opF_5, if_neg (by omega)] at h1; omega
      · rw [v3 _ j0 (by omega), b5 j j0 (by omega)]
theorem opF_5r (T : Int → Int) (s : Int) : 0 ≤ opF T s 5 ∧ opF T s 5 ≤ 6 := by
  have := wc_r T (oB T s)
  rw [opF_5]
  split <;> omega
def oSN (T : Int → Int) : Nat → Int
  | 0 => 0
  | k + 1 => sk T (opN T (sk T (oSN T k))) + 1
def oS (T : Int → Int) (i : Int) : Int := oSN T i.toNat
theorem oS_s (T : Int → Int) {i : Int} (h : 0 ≤ i) : oS T (i + 1) = sk T (opN T (sk T (oS T i))) + 1 := by
  unfold oS
  rw [show (i + 1).toNat = i.toNat + 1 by omega]
  rfl
def smE (T : Int → Int) (n q : Int) : Int := if T (sk T q) = 59 then -1 else if sk T q < n then sk T q else -1
def itE (T : Int → Int) (n p : Int) : Int := th (opE T (sk T p)) (smE T n (opN T (sk T p)))
abbrev isM (T : Int → Int) (p : Int) : Prop := T (sk T (opN T (sk T p))) = 59
def amN (T : Int → Int) (n : Int) : Nat → Int → Int × Int
  | 0, i => (sk T (oS T i), i)
  | k + 1, i => if ¬ itE T n (oS T i) = -1 then (itE T n (oS T i), i) else if isM T (oS T i) then amN T n k (i + 1) else (-1, i + 1)
def amE (T : Int → Int) (n : Int) : Int := (amN T n 40 0).1
def amC (T : Int → Int) (n : Int) : Int := (amN T n 40 0).2
theorem amN_s (T : Int → Int) (n : Int) {i : Int} (h : i < 40) : amN T n (40 - i).toNat i = if ¬ itE T n (oS T i) = -1 then (itE T n (oS T i), i) else if isM T (oS T i) then amN T n (40 - (i + 1)).toNat (i + 1) else (-1, i + 1) := by
  rw [show (40 - i).toNat = (40 - (i + 1)).toNat + 1 by omega]
  rfl
theorem oS_n {T : Int → Int} {n : Int} (x : TX T n) {i : Int} (i0 : 0 ≤ i) (h0 : 0 ≤ oS T i) (h1 : oS T i ≤ n) (m : isM T (oS T i)) : 0 ≤ oS T (i + 1) ∧ oS T (i + 1) ≤ n := by
  have s := x.skr h0 h1
  have o := opN_r x (s := sk T (oS T i)) (by omega) (by omega)
  have s2 := x.skr (p := opN T (sk T (oS T i))) (by omega) (by omega)
  have lt := x.lt (k := sk T (opN T (sk T (oS T i)))) (by rw [m]; decide)
  rw [oS_s T i0]
  omega
def insn (T : Int → Int) (i : Int) : Int := sm (fun j => if opF T (sk T (oS T j)) 0 = 0 then 1 else 0) i
theorem insn_r (T : Int → Int) {i : Int} (h : 0 ≤ i) : 0 ≤ insn T i ∧ insn T i ≤ i := by
  refine ⟨sm_nn _ _ (fun j _ _ => by show 0 ≤ (if _ then (1 : Int) else 0); split <;> omega), ?_⟩
  have h1 := sm_le (fun j => if opF T (sk T (oS T j)) 0 = 0 then 1 else 0) (fun _ => 1) i (fun j _ _ => by show (if _ then (1 : Int) else 0) ≤ 1; split <;> omega)
  have h2 : ∀ k : Nat, zsum (fun _ => 1) k = k := by
    intro k
    induction k with
    | zero => rfl
    | succ k ih => show zsum _ k + 1 = _; omega
  have h3 : sm (fun _ => 1) i = ((i.toNat : Nat) : Int) := h2 i.toNat
  unfold insn
  omega
theorem sp_readAmendment {T : Int → Int} {n : Int} {M : am_M} (x : XT T n M) : ∃ M', am_call t_Rea_readAmendment [.ref 1] M (some (.int (zi (amE T n)))) M' ∧ (∀ a, ¬ a = 1 → ¬ a = 4 → ¬ a = 6 → M' a = M a) ∧ (amE T n = -1 → iv M' 4 1 = amC T n ∧ iv M' 4 2 = insn T (amC T n) ∧ ∀ j, 0 ≤ j → j < amC T n → DO (fun w => iv M' 6 (j * 13 + w)) (opF T (sk T (oS T j)))) := by
  suffices hh : am_x t_Rea_readAmendment (0, am_ent (am_mL t_Rea_readAmendment) [.ref 1], [], M) (fun rv M' => rv = some (.int (zi (amE T n))) ∧ (∀ a, ¬ a = 1 → ¬ a = 4 → ¬ a = 6 → M' a = M a) ∧ (amE T n = -1 → iv M' 4 1 = amC T n ∧ iv M' 4 2 = insn T (amC T n) ∧ ∀ j, 0 ≤ j → j < amC T n → DO (fun w => iv M' 6 (j * 13 + w)) (opF T (sk T (oS T j))))) by
    obtain ⟨rv, M', c1, c2, c3⟩ := am_call_ex (by exact ⟨Nat.le_of_ble_eq_true rfl, rfl⟩) hh
    subst c2
    exact ⟨M', c1, c3⟩
  have xn := x.2.2.1
  have ce : am_call t_Dra_makeEmpty [.ref 4] M none (zup (zup M 4 1 0) 4 2 0) := am_call_of ⟨Nat.le_of_ble_eq_true rfl, rfl⟩ (vc_d_makeEmpty M _ (fun M1 e1 M2 e2 => ⟨rfl, by rw [e2, e1]⟩))
  refine vc_readAmendment M _ ⟨_, ce, fun M2 e2 M3 e3 => ?_⟩
  have f3 : ∀ a, ¬ a = 1 → ¬ a = 4 → M3 a = M a := fun a a1 a4 => by rw [e3, zupr _ a1, e2, zupr _ a1, zupr _ a4, zupr _ a4]
  have p3 : iv M3 1 2 = 0 := by rw [e3, ivs _ _ (by decide) (by decide) (by decide), if_neg (by decide), e2, ivs _ _ (by decide) (by decide) (by decide), if_pos rfl]
  have q3 : iv M3 1 3 = -1 := by rw [e3, ivs _ _ (by decide) (by decide) (by decide), if_pos rfl]
  have z3 : iv M3 4 1 = 0 := by rw [e3, ivr _ (by decide), e2, ivr _ (by decide), ivs _ _ (by decide) (by decide) (by decide), if_neg (by decide), ivs _ _ (by decide) (by decide) (by decide), if_pos rfl]
  have i3 : iv M3 4 2 = 0 := by rw [e3, ivr _ (by decide), e2, ivr _ (by decide), ivs _ _ (by decide) (by decide) (by decide), if_pos rfl]
  refine loop_up (fun i (s : am_M × Int) => (21, [.ref 1, .int (zi s.2), .int (zi i)], [], s.1)) 41 (fun i s => (∀ a, ¬ a = 1 → ¬ a = 4 → ¬ a = 6 → s.1 a = M a) ∧
    ((s.2 = 1 ∧ i ≤ 40 ∧ iv s.1 1 3 = -1 ∧ iv s.1 1 2 = oS T i ∧ (0 ≤ oS T i ∧ oS T i ≤ n) ∧ iv s.1 4 1 = i ∧ iv s.1 4 2 = insn T i ∧ amN T n (40 - i).toNat i = amN T n 40 0 ∧ ∀ j, 0 ≤ j → j < i → DO (fun w => iv s.1 6 (j * 13 + w)) (opF T (sk T (oS T j)))) ∨
     (s.2 = 0 ∧ iv s.1 1 3 = amE T n ∧ (amE T n = -1 → iv s.1 4 1 = amC T n ∧ iv s.1 4 2 = insn T (amC T n) ∧ ∀ j, 0 ≤ j → j < amC T n → DO (fun w => iv s.1 6 (j * 13 + w)) (opF T (sk T (oS T j))))))) ?_ ?_ 0 (M3, 1) (by omega) (by omega) ⟨fun a a1 a4 _ => f3 a a1 a4, Or.inl ⟨rfl, by omega, q3, p3, ⟨Int.le_refl _, xn.1⟩, z3, i3, rfl, fun j j0 j1 => by omega⟩⟩
  · intro s ⟨fr, h⟩
    rcases h with ⟨_, h2, _⟩ | ⟨h1, h2, h3⟩
    · omega
    · rw [h1]
      exact vc_readAmendment_21 _ _ s.1 _ ⟨by decide, fun _ => ⟨by rw [h2], fr, h3⟩, fun q => absurd rfl q⟩
  · intro i s i0 i1 ⟨fr, h⟩ k
    rcases h with ⟨h1, h2, h3, h4, h5, h6, h7, h8, h9⟩ | ⟨h1, h2, h3⟩
    · rw [h1]
      have xs : XT T n s.1 := x.row (fr 2 (by decide) (by decide) (by decide)) (fr 3 (by decide) (by decide) (by decide))
      have gs : CRd s.1 (oS T i) (-1) s.1 := ⟨fun _ _ => rfl, h4, h3⟩
      have ir := insn_r T i0
      refine vc_readAmendment_21 _ _ s.1 _ ⟨by decide, fun q => absurd q (by decide), fun _ => ⟨⟨by omega, by omega⟩, fun q => by omega, fun _ => ?_⟩⟩
      by_cases hi : i < 40
      · obtain ⟨M3', c3, o1, o2, o3', o4'⟩ := sp_c_operation xs gs h5.1 h5.2 h6 i0 hi (by rw [h7]; omega)
        refine ⟨M3', c3, ?_⟩
        rw [amN_s T n hi] at h8
        have sr := x.2.2.skr h5.1 h5.2
        rw [o3']
        refine ⟨fun w => ?_, fun w => ?_⟩
        · obtain ⟨u1, u2, u3, u4, u5⟩ := o4' w
          have x3 : XT T n M3' := xs.row (o1 2 (by decide) (by decide) (by decide)) (o1 3 (by decide) (by decide) (by decide))
          have g3 : CRd M3' (iv M3' 1 2) (-1) M3' := ⟨fun _ _ => rfl, rfl, by rw [o3', w]⟩
          obtain ⟨M4, c4, g4⟩ := sp_semicolon x3 g3 o2.1 o2.2
          rw [u1, th_o] at g4
          rw [u1] at c4
          have r4 : iv M4 4 = iv M3' 4 := iv_row (g4.1 4 (by decide))
          have r6 : iv M4 6 = iv M3' 6 := iv_row (g4.1 6 (by decide))
          have fr4 : ∀ a, ¬ a = 1 → ¬ a = 4 → ¬ a = 6 → M4 a = M a := fun a a1 a4 a6 => by rw [g4.1 a a1, o1 a a1 a4 a6, fr a a1 a4 a6]
          have dn : ∀ j, 0 ≤ j → j < i + 1 → DO (fun w => iv M4 6 (j * 13 + w)) (opF T (sk T (oS T j))) := by
            intro j j0 j1
            rw [r6]
            by_cases e : j = i
            · rw [e]; exact u4
            · have hj := h9 j j0 (by omega)
              have wr : ∀ w', 0 ≤ w' → w' < 13 → iv M3' 6 (j * 13 + w') = iv s.1 6 (j * 13 + w') := fun w' w0 w1 => u5 _ (by omega) (by omega)
              obtain ⟨a0, a1, a2, a3, a4, a5, a6, a7⟩ := hj
              have l5 := opF_5r T (sk T (oS T j))
              exact ⟨(wr 0 (by omega) (by omega)).trans a0, (wr 1 (by omega) (by omega)).trans a1, (wr 2 (by omega) (by omega)).trans a2, (wr 3 (by omega) (by omega)).trans a3, (wr 4 (by omega) (by omega)).trans a4, (wr 5 (by omega) (by omega)).trans a5, (wr 6 (by omega) (by omega)).trans a6, fun k' k0 k1 => (wr (7 + k') (by omega) (by omega)).trans (a7 k' k0 k1)⟩
          have n4 : iv M4 4 2 = insn T (i + 1) := by
            rw [r4, u3, h7]
            unfold insn
            rw [sm_s _ i0, opF_0]
          refine ⟨_, M4, c4, by split <;> decide, fun q => ?_, fun q => ?_⟩
          · have m : ¬ isM T (oS T i) := fun y => by rw [if_pos y] at q; exact absurd q (by decide)
            have m' : ¬ T (sk T (opN T (sk T (oS T i)))) = 59 := m
            rw [if_neg m', if_neg m'] at g4
            have ei : itE T n (oS T i) = (if sk T (opN T (sk T (oS T i))) < n then sk T (opN T (sk T (oS T i))) else -1) := by
              unfold itE smE
              rw [w, th_o, if_neg m']
            refine k (M4, 0) ⟨fr4, Or.inr ⟨rfl, ?_, fun am => ?_⟩⟩
            · show iv M4 1 3 = _
              rw [g4.2.2, ← ei]
              unfold amE
              by_cases y : itE T n (oS T i) = -1
              · rw [if_neg (fun z => z y), if_neg m] at h8
                rw [y, ← h8]
              · rw [if_pos y] at h8
                rw [← h8]
            · have y : itE T n (oS T i) = -1 := by
                by_cases y : itE T n (oS T i) = -1
                · exact y
                · rw [if_pos y] at h8
                  unfold amE at am
                  rw [← h8] at am
                  exact am
              rw [if_neg (fun z => z y), if_neg m] at h8
              have ec : amC T n = i + 1 := by unfold amC; rw [← h8]
              rw [ec]
              exact ⟨by show iv M4 4 1 = _; rw [r4, u2], n4, dn⟩
          · have m : isM T (oS T i) := by
              by_cases m : T (sk T (opN T (sk T (oS T i)))) = 59
              · exact m
              · rw [if_neg m] at q; exact absurd rfl q
            have m' : T (sk T (opN T (sk T (oS T i)))) = 59 := m
            rw [if_pos m', if_pos m'] at g4
            have ei : itE T n (oS T i) = -1 := by
              unfold itE smE
              rw [w, th_o, if_pos m']
            rw [if_neg (fun z => z ei), if_pos m] at h8
            exact k (M4, 1) ⟨fr4, Or.inl ⟨rfl, by omega, g4.2.2, by show iv M4 1 2 = _; rw [g4.2.1, oS_s T i0], oS_n x.2.2 i0 h5.1 h5.2 m, by show iv M4 4 1 = _; rw [r4, u2], n4, h8, dn⟩⟩
        · have ei : itE T n (oS T i) = opE T (sk T (oS T i)) := by unfold itE; rw [th_n _ w]
          rw [ei, if_pos w] at h8
          have ea : amE T n = opE T (sk T (oS T i)) := by unfold amE; rw [← h8]
          exact k (M3', 0) ⟨fun a a1 a4 a6 => by show M3' a = _; rw [o1 a a1 a4 a6, fr a a1 a4 a6], Or.inr ⟨rfl, by show iv M3' 1 3 = _; rw [o3', ea], fun y => absurd (by rw [← ea]; exact y) w⟩⟩
      · have ei : i = 40 := by omega
        subst ei
        have sr := x.2.2.skr h5.1 h5.2
        have ea : amE T n = sk T (oS T 40) := by unfold amE; rw [← h8]; rfl
        obtain ⟨M1', c1, g1⟩ := sp_skip xs gs h5.1 h5.2
        have e41 : iv M1' 4 1 = 40 := by rw [iv_row (g1.1 4 (by decide)), h6]
        obtain ⟨M2', c2, g2⟩ := sp_c_fail g1 (x := sk T (oS T 40)) ⟨by omega, by omega⟩
        have cop : am_call t_Rea_readOperation [.ref 1] s.1 none M2' := by
          refine am_call_of ⟨Nat.le_of_ble_eq_true rfl, rfl⟩ (vc_c_readOperation s.1 _ ⟨M1', c1, fun q => by omega, fun _ => ⟨M2', ?_, rfl, rfl⟩⟩)
          rw [g1.2.1]
          exact c2
        refine ⟨M2', cop, fun w => ?_, fun w => ?_⟩
        · rw [g2.2.2, th_o] at w; omega
        · exact k (M2', 0) ⟨fun a a1 a4 a6 => by show M2' a = _; rw [g2.1 a a1, fr a a1 a4 a6], Or.inr ⟨rfl, by show iv M2' 1 3 = _; rw [g2.2.2, th_o, ea], fun y => by rw [ea] at y; omega⟩⟩
    · rw [h1]
      exact vc_readAmendment_21 _ _ s.1 _ ⟨by decide, fun _ => ⟨by rw [h2], fr, h3⟩, fun q => absurd rfl q⟩
