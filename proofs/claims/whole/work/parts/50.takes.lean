/-! the reference reads an amendment -/
def opE2 (T : Int → Int) (s : Int) : Int :=
  if kd T s = -1 then s
  else if kd T s = 0 then th (df 1 T (oA T s)) (th (wde T (oB T s)) (w7 T (oB T s)))
  else if kd T s = 1 then th (df 1 T (oA T s)) (th (th (wde T (oB T s)) (w7 T (oB T s))) (svE T (oW T s)))
  else if kd T s = 3 then th (df 1 T (oA T s)) (th (xf5 T (oB T s)) (df 1 T (o3 T s)))
  else if kd T s = 4 then th (df 1 T (oA T s)) (th (xf6 T (oB T s)) (th (df 0 T (o4 T s)) (th (xf7 T (de T (o4 T s))) (th (df 0 T (o5 T s)) (svE T (de T (o5 T s)))))))
  else th (df 1 T (oA T s)) (svE T (oB T s))
theorem w7_is {T : Int → Int} {n p : Int} (x : TX T n) (p0 : 0 ≤ p) (p1 : p ≤ n) : w7 T p = -1 ∨ (wc T p = 6 ∧ w7 T p = sk T (wq T p (wc T p)) ∧ (0 ≤ w7 T p ∧ w7 T p < n) ∧ ¬ T (w7 T p) = 59 ∧ ¬ isl (T (w7 T p))) := by
  unfold w7
  by_cases h : wc T p = 6
  · rw [if_pos h]
    by_cases q : wI T (wq T p 6)
    · rw [if_pos q]
      have a := wq_r x p0 p1 6
      have b := x.skr (p := wq T p 6) (by omega) (by omega)
      have c := x.lt (k := sk T (wq T p 6)) (by rcases q with e | e <;> omega)
      refine Or.inr ⟨h, by rw [h], by omega, ?_, ?_⟩
      · rcases q with e | e <;> omega
      · rcases q with e | e <;> omega
    · rw [if_neg q]; exact Or.inl rfl
  · rw [if_neg h]; exact Or.inl rfl
theorem it_eq {T : Int → Int} {n s : Int} (x : TX T n) (s0 : 0 ≤ s) (s1 : s ≤ n) : th (opE2 T s) (smE T n (opN T s)) = th (opE T s) (smE T n (opN T s)) := by
  have br := oB_r x s0 s1
  have wr := oW_r x s0 s1
  rcases w7_is x (p := oB T s) (by omega) (by omega) with h | ⟨h1, h2, h3, h4, h5⟩
  · unfold opE2 opE
    rw [h, th_1]
  · have h2 : w7 T (oB T s) = sk T (oW T s) := h2
    have ss := sk_sk x (p := oW T s) (by omega) (by omega)
    have wd : wde T (oB T s) = -1 := by unfold wde; rw [if_pos h1]
    unfold opE2 opE
    by_cases k : kd T s = -1
    · rw [if_pos k, if_pos k]
    rw [if_neg k, if_neg k]
    by_cases k0 : kd T s = 0
    · rw [if_pos k0, if_pos k0, wd, th_o, th_1, th_a]
      refine th_c (fun _ => ?_)
      have en : opN T s = oW T s := by unfold opN; rw [if_pos k0]
      rw [th_n _ (by omega)]
      unfold smE
      rw [en, ← h2, if_neg h4, if_pos h3.2]
    rw [if_neg k0, if_neg k0]
    by_cases k1 : kd T s = 1
    · have e5 : ¬ isl (T (sk T (oW T s))) := by rw [← h2]; exact h5
      have es : svE T (oW T s) = -1 := by unfold svE; rw [if_neg e5]
      have en : opN T s = sk T (oW T s) := by unfold opN svN; rw [if_neg k0, if_pos k1, if_neg e5]
      rw [if_pos k1, if_pos k1, wd, es, th_o, th_1, th_1, th_1, th_a]
      refine th_c (fun _ => ?_)
      rw [th_n _ (by omega)]
      unfold smE
      rw [en, ss, ← h2, if_neg h4, if_pos h3.2]
    rw [if_neg k1, if_neg k1]
def OPm (T : Int → Int) (n s z : Int) (M M' : am_M) : Prop := (∀ a, ¬ a = 58 → ¬ a = 74 → M' a = M a) ∧ (∀ j, ¬ j = 18 → ¬ j = 19 → ¬ j = 21 → M' 58 j = M 58 j) ∧ (0 ≤ iv M' 58 18 ∧ iv M' 58 18 ≤ n) ∧ iv M' 58 19 = opE2 T s ∧
  (opE2 T s = -1 → iv M' 58 18 = sk T (opN T s) ∧ iv M' 58 21 = z + 1 ∧ (∀ w, 0 ≤ w → w < 6 → iv M' 74 (12 * z + w) = opF T s w) ∧ (∀ k, 0 ≤ k → k < opF T s 5 → iv M' 74 (12 * z + (6 + k)) = opF T s (6 + k)) ∧ ∀ j, 0 ≤ j → j < 12 * z → iv M' 74 j = iv M 74 j)
theorem six {P : Int → Prop} (h0 : P 0) (h1 : P 1) (h2 : P 2) (h3 : P 3) (h4 : P 4) (h5 : P 5) : ∀ w, 0 ≤ w → w < 6 → P w := fun w w0 w1 => by
  have : w = 0 ∨ w = 1 ∨ w = 2 ∨ w = 3 ∨ w = 4 ∨ w = 5 := by omega
  rcases this with e | e | e | e | e | e <;> (rw [e]; assumption)
theorem sp_operation {T : Int → Int} {n : Int} {M : am_M} {s z : Int} (x : XM T n M) (g : CRm M s (-1) M) (s0 : 0 ≤ s) (s1 : s ≤ n) (ez : iv M 58 21 = z) (z0 : 0 ≤ z) (z1 : z < 40) : ∃ M', am_call t_Mo_readsOperation [.ref 58] M none M' ∧ OPm T n s z M M' := by
  suffices hh : am_x t_Mo_readsOperation (0, am_ent (am_mL t_Mo_readsOperation) [.ref 58], [], M) (fun rv M' => rv = none ∧ OPm T n s z M M') by
    obtain ⟨rv, M', c1, c2, c3⟩ := am_call_ex (by exact ⟨Nat.le_of_ble_eq_true rfl, rfl⟩) hh
    subst c2
    exact ⟨M', c1, c3⟩
  have xn := x.2.2.1
  refine vc_readsOperation M _ ⟨fun q => by omega, fun _ => ?_⟩
  rw [g.2.2.1]
  refine loop_up (fun i (m : am_M) => (25, [.ref 58, .int (zi s), .int (zi i)], [], m)) 12 (fun i m => C74 M s (-1) m ∧ (∀ w, 0 ≤ w → w < i → iv m 74 (12 * z + w) = 0) ∧ ∀ j, 0 ≤ j → j < 12 * z → iv m 74 j = iv M 74 j) ?_ ?_ 0 M (by omega) (by omega) ⟨⟨fun _ _ _ => rfl, fun _ _ _ => rfl, g.2.2.1, g.2.2.2⟩, fun w w0 w1 => by omega, fun _ _ _ => rfl⟩
  · intro Mc ⟨gc, zc, fc⟩
    obtain ⟨M3, c3, d3⟩ := sp_letters (gc.x x) gc.b s0 s1
    have g3 := gc.s d3
    have rz := rv_zl x.2.2 s0 s1
    have kr := kd_r T s
    have r3 : iv M3 74 = iv Mc 74 := iv_row (d3.1 74 (by decide))
    have fin : ∀ Mx p', C74 M p' (opE2 T s) Mx → (0 ≤ p' ∧ p' ≤ n) → (opE2 T s = -1 → sk T p' = sk T (opN T s) ∧ (∀ w, 0 ≤ w → w < 6 → iv Mx 74 (12 * z + w) = opF T s w) ∧ (∀ k, 0 ≤ k → k < opF T s 5 → iv Mx 74 (12 * z + (6 + k)) = opF T s (6 + k)) ∧ ∀ j, 0 ≤ j → j < 12 * z → iv Mx 74 j = iv Mc 74 j) → ∃ M12, am_call t_Mo_skips [.ref 58] Mx none M12 ∧ ∀ M13, M13 = zup M12 58 21 (iv M12 58 21 + 1) → (none : Option Value) = none ∧ OPm T n s z M M13 := by
      intro Mx p' gx pr h
      obtain ⟨M12, c12, d12⟩ := sp_skips (gx.x x) gx.b pr.1 pr.2
      have g12 := gx.s d12
      have sr := x.2.2.skr pr.1 pr.2
      refine ⟨M12, c12, fun M13 e13 => ⟨rfl, fun a a1 a2 => by rw [e13, zupr _ a1, g12.1 a a1 a2], fun j j1 j2 j3 => by rw [e13, zup58 _ (by decide) j3, g12.2.1 j j1 j2], ?_, ?_, fun ok => ?_⟩⟩
      · rw [e13, g12.z, ez, ivs _ _ (by decide) (by decide) ⟨by omega, by omega⟩, if_neg (by decide), g12.2.2.1]; omega
      · rw [e13, g12.z, ez, ivs _ _ (by decide) (by decide) ⟨by omega, by omega⟩, if_neg (by decide), g12.2.2.2]
      · obtain ⟨h1, h2, h3, h4⟩ := h ok
        have r13 : iv M13 74 = iv Mx 74 := by rw [e13, ivr _ (by decide), iv_row (d12.1 74 (by decide))]
        rw [r13]
        refine ⟨?_, ?_, h2, h3, fun j j0 j1 => by rw [h4 j j0 j1, fc j j0 j1]⟩
        · rw [e13, g12.z, ez, ivs _ _ (by decide) (by decide) ⟨by omega, by omega⟩, if_neg (by decide), g12.2.2.1, h1]
        · rw [e13, g12.z, ez, ivs _ _ (by decide) (by decide) ⟨by omega, by omega⟩, if_pos rfl]
    refine vc_readsOperation_25 s 12 Mc _ ⟨by decide, fun q => by omega, fun _ => ⟨_, M3, c3, rz.1, ?_⟩⟩
    rw [kof_kd x.2.2 s0 s1]
    refine ⟨fun hk => ?_, fun hk => ?_⟩
    · obtain ⟨M5, c5, d5⟩ := sp_fails g3.b (k := s) ⟨by omega, by omega⟩
      have g5 := g3.s d5
      have eo : opE2 T s = s := by unfold opE2; rw [if_pos hk]
      rw [th_o] at g5
      refine ⟨M5, c5, rfl, g5.1, fun j j1 j2 _ => g5.2.1 j j1 j2, ?_, ?_, fun q => ?_⟩
      · rw [g5.2.2.1]; omega
      · rw [eo]; exact g5.2.2.2
      · rw [eo] at q; omega
    · have er := re_ke x.2.2 s0 s1 hk
      rw [er] at g3
      have ar := oA_r x.2.2 s0 s1
      have br := oB_r x.2.2 s0 s1
      have kr2 := ke_r x.2.2 s0 s1
      rw [g3.z, ez]
      refine ⟨by omega, fun M6 e6 => ?_⟩
      have g6 := g3.w (M1 := M6) (fun a ha => by rw [e6, zupr _ ha])
      obtain ⟨M7, r8, p7, c7, d7, b1, b2, b3⟩ := sp_mnum (g6.x x) g6.b (by omega) (by omega)
      have g7 := g6.s d7
      rw [th_o] at g7
      have g7 : C74 M p7 (df 1 T (oA T s)) M7 := g7
      have b3 : df 1 T (oA T s) = -1 → p7 = oB T s ∧ r8 = nv T (oA T s) := b3 rfl
      refine ⟨r8, M7, c7, ?_⟩
      rw [g7.z, ez]
      refine ⟨by omega, fun M9 e9 => ?_⟩
      have g9 := g7.w (M1 := M9) (fun a ha => by rw [e9, zupr _ ha])
      have j9 : ∀ j, 0 ≤ j → iv M9 74 j = if j = 12 * z + 1 then r8 else if j = 12 * z + 0 then kd T s else iv Mc 74 j := fun j j0 => by
        rw [e9, ivs _ _ (by omega) j0 ⟨by omega, by omega⟩, iv_row (d7.1 74 (by decide)), e6, ivs _ _ (by omega) j0 ⟨by omega, by omega⟩, r3]
      have v0 : iv M9 74 (12 * z + 0) = kd T s := by rw [j9 _ (by omega), if_neg (by omega), if_pos rfl]
      have v1 : iv M9 74 (12 * z + 1) = r8 := by rw [j9 _ (by omega), if_pos rfl]
      have vz : ∀ w, 2 ≤ w → w < 12 → iv M9 74 (12 * z + w) = 0 := fun w w0 w1 => by rw [j9 _ (by omega), if_neg (by omega), if_neg (by omega), zc w (by omega) w1]
      have vf : ∀ j, 0 ≤ j → j < 12 * z → iv M9 74 j = iv Mc 74 j := fun j j0 j1 => by rw [j9 _ j0, if_neg (by omega), if_neg (by omega)]
      clear j9 e9 e6
      refine ⟨fun k2 => ?_, fun k2 => ⟨fun k3 => ?_, fun k3 => ⟨fun k4 => ?_, fun k4 => ⟨fun k22 => ?_, fun k22 => by omega⟩⟩⟩⟩
      · obtain ⟨M10, p10, c10, g10, q1, q2, q3⟩ := sp_words x ez z0 z1 g9 b1.1 b1.2
        refine ⟨M10, c10, fun k1 => ?_, fun k1 => ?_⟩
        · obtain ⟨M11, p11, c11, g11, t1, t2, t3⟩ := sp_saving x ez z0 z1 g10 q1.1 q1.2
          have eo : opE2 T s = th (df 1 T (oA T s)) (th (th (wde T (oB T s)) (w7 T (oB T s))) (svE T (oW T s))) := by unfold opE2; rw [if_neg hk, if_neg (by omega), if_pos k1]
          have wr := oW_r x.2.2 s0 s1
          have ss := sk_sk x.2.2 (p := oW T s) (by omega) (by omega)
          have e11 : th (th (df 1 T (oA T s)) (th (wde T p7) (w7 T p7))) (svE T p10) = opE2 T s := by
            rw [eo, th_a]
            refine th_c (fun h1 => ?_)
            rw [(b3 h1).1]
            refine th_c (fun h2 => ?_)
            have a := (q2 h1 (by rw [(b3 h1).1]; exact h2)).1
            rw [(b3 h1).1] at a
            have a : p10 = sk T (oW T s) := a
            refine svE_c ?_
            rw [a, ss]
          rw [e11] at g11
          obtain ⟨M12, c12, f12⟩ := fin M11 p11 g11 t1 (fun ok => by
            rw [← e11] at ok
            obtain ⟨o1, o2⟩ := th_e ok
            obtain ⟨o3', o4'⟩ := th_e o1
            obtain ⟨y1, y2⟩ := b3 o3'
            rw [y1] at o4' q2
            obtain ⟨u1, u2, u3⟩ := q2 o3' o4'
            have u1 : p10 = sk T (oW T s) := u1
            obtain ⟨w1, w2⟩ := t2 o1 o2
            have es : sk T p10 = sk T (oW T s) := by rw [u1, ss]
            refine ⟨?_, six ?_ ?_ ?_ ?_ ?_ ?_, fun k h0 h1 => ?_, fun j j0 j1 => by rw [t3 j j0 (by omega), q3 j j0 (by omega), vf j j0 j1]⟩
            · rw [w1]; unfold opN; rw [if_neg (by omega), if_pos k1, svN_c es]
            · rw [t3 _ (by omega) (by omega), q3 _ (by omega) (by omega), v0]; rfl
            · rw [t3 _ (by omega) (by omega), q3 _ (by omega) (by omega), v1, y2]; rfl
            · rw [t3 _ (by omega) (by omega), q3 _ (by omega) (by omega), vz _ (by omega) (by omega), opF_2, if_neg (by omega), if_neg (by omega)]
            · rw [t3 _ (by omega) (by omega), q3 _ (by omega) (by omega), vz _ (by omega) (by omega), opF_3, if_neg (by omega)]
            · rw [w2, q3 _ (by omega) (by omega), vz _ (by omega) (by omega), es, opF_4, if_pos (c := kd T s = 1) k1]; rfl
            · rw [t3 _ (by omega) (by omega), u2, opF_5, if_pos (by omega)]
            · rw [opF_5, if_pos (by omega)] at h1
              rw [t3 _ (by omega) (by omega), u3 k h0 h1, opF_6 T s h0])
          exact ⟨M11, c11, M12, c12, f12⟩
        · have k0 : kd T s = 0 := by omega
          have eo : opE2 T s = th (df 1 T (oA T s)) (th (wde T (oB T s)) (w7 T (oB T s))) := by unfold opE2; rw [if_neg hk, if_pos k0]
          have e10 : th (df 1 T (oA T s)) (th (wde T p7) (w7 T p7)) = opE2 T s := by
            rw [eo]
            refine th_c (fun h1 => ?_)
            rw [(b3 h1).1]
          rw [e10] at g10
          obtain ⟨M12, c12, f12⟩ := fin M10 p10 g10 q1 (fun ok => by
            rw [← e10] at ok
            obtain ⟨o3', o4'⟩ := th_e ok
            obtain ⟨y1, y2⟩ := b3 o3'
            rw [y1] at o4' q2
            obtain ⟨u1, u2, u3⟩ := q2 o3' o4'
            have wr := oW_r x.2.2 s0 s1
            have ss := sk_sk x.2.2 (p := oW T s) (by omega) (by omega)
            have u1 : p10 = sk T (oW T s) := u1
            refine ⟨?_, six ?_ ?_ ?_ ?_ ?_ ?_, fun k h0 h1 => ?_, fun j j0 j1 => by rw [q3 j j0 (by omega), vf j j0 j1]⟩
            · rw [u1, ss]; unfold opN; rw [if_pos k0]
            · rw [q3 _ (by omega) (by omega), v0]; rfl
            · rw [q3 _ (by omega) (by omega), v1, y2]; rfl
            · rw [q3 _ (by omega) (by omega), vz _ (by omega) (by omega), opF_2, if_neg (by omega), if_neg (by omega)]
            · rw [q3 _ (by omega) (by omega), vz _ (by omega) (by omega), opF_3, if_neg (by omega)]
            · rw [q3 _ (by omega) (by omega), vz _ (by omega) (by omega), opF_4, if_neg (by omega), if_neg (by omega), if_neg (by omega)]
            · rw [u2, opF_5, if_pos (by omega)]
            · rw [opF_5, if_pos (by omega)] at h1
              rw [u3 k h0 h1, opF_6 T s h0])
          exact ⟨M12, c12, f12⟩
      · have eo : opE2 T s = th (df 1 T (oA T s)) (th (xf5 T (oB T s)) (df 1 T (o3 T s))) := by unfold opE2; rw [if_neg hk, if_neg (by omega), if_neg (by omega), if_pos k3]
        obtain ⟨M16, p16, c16, d16, a1, a2⟩ := sp_needs5 (g9.x x) g9.b b1.1 b1.2
        have g16 := g9.s d16
        obtain ⟨M17, r18, p17, c17, d17, a3, a4, a5⟩ := sp_mnum (g16.x x) g16.b a1.1 a1.2
        have g17 := g16.s d17
        have e17 : th (th (df 1 T (oA T s)) (xf5 T p7)) (df 1 T (sk T p16)) = opE2 T s := by
          rw [eo, th_a]
          refine th_c (fun h1 => ?_)
          have y := (b3 h1).1
          rw [y]
          refine th_c (fun h2 => ?_)
          rw [a2 h1 (by rw [y]; exact h2), y]
          rfl
        rw [e17] at g17
        refine ⟨M16, c16, r18, M17, c17, ?_⟩
        rw [g17.z, ez]
        refine ⟨by omega, fun M19 e19 => ?_⟩
        have g19 := g17.w (M1 := M19) (fun a ha => by rw [e19, zupr _ ha])
        have j19 : ∀ j, 0 ≤ j → iv M19 74 j = if j = 12 * z + 2 then r18 else iv M9 74 j := fun j j0 => by
          rw [e19, ivs _ _ (by omega) j0 ⟨by omega, by omega⟩, iv_row (d17.1 74 (by decide)), iv_row (d16.1 74 (by decide))]
        exact fin M19 p17 g19 a3 (fun ok => by
          rw [← e17] at ok
          obtain ⟨o1, o2⟩ := th_e ok
          obtain ⟨o3', o4'⟩ := th_e o1
          obtain ⟨y1, y2⟩ := b3 o3'
          have e16 := a2 o3' o4'
          rw [y1] at e16
          have e3 : sk T p16 = o3 T s := by rw [e16]; rfl
          obtain ⟨w1, w2⟩ := a5 o1 o2
          rw [e3] at w1 w2
          refine ⟨?_, six ?_ ?_ ?_ ?_ ?_ ?_, fun k h0 h1 => ?_, fun j j0 j1 => by rw [j19 j j0, if_neg (by omega), vf j j0 j1]⟩
          · rw [w1]; unfold opN; rw [if_neg (by omega), if_neg (by omega), if_pos k3]
          · rw [j19 _ (by omega), if_neg (by omega), v0]; rfl
          · rw [j19 _ (by omega), if_neg (by omega), v1, y2]; rfl
          · rw [j19 _ (by omega), if_pos rfl, w2, opF_2, if_pos k3]
          · rw [j19 _ (by omega), if_neg (by omega), vz _ (by omega) (by omega), opF_3, if_neg (by omega)]
          · rw [j19 _ (by omega), if_neg (by omega), vz _ (by omega) (by omega), opF_4, if_neg (by omega), if_neg (by omega), if_neg (by omega)]
          · rw [j19 _ (by omega), if_neg (by omega), vz _ (by omega) (by omega), opF_5, if_neg (by omega)]
          · rw [opF_5, if_neg (by omega)] at h1; omega)
      · have eo : opE2 T s = th (df 1 T (oA T s)) (th (xf6 T (oB T s)) (th (df 0 T (o4 T s)) (th (xf7 T (de T (o4 T s))) (th (df 0 T (o5 T s)) (svE T (de T (o5 T s))))))) := by unfold opE2; rw [if_neg hk, if_neg (by omega), if_neg (by omega), if_neg k3, if_pos k4]
        obtain ⟨M22, p22, c22, d22, a1, a2⟩ := sp_needs6 (g9.x x) g9.b b1.1 b1.2
        have g22 := g9.s d22
        obtain ⟨M23, r24, p23, c23, d23, a3, a4, a5⟩ := sp_mplain (g22.x x) g22.b a1.1 a1.2
        have g23 := g22.s d23
        obtain ⟨M25, e25⟩ : ∃ M25, M25 = zup M23 74 (12 * z + 2) r24 := ⟨_, rfl⟩
        have g25 := g23.w (M1 := M25) (fun a ha => by rw [e25, zupr _ ha])
        have j25 : ∀ j, 0 ≤ j → iv M25 74 j = if j = 12 * z + 2 then r24 else iv M9 74 j := fun j j0 => by
          rw [e25, ivs _ _ (by omega) j0 ⟨by omega, by omega⟩, iv_row (d23.1 74 (by decide)), iv_row (d22.1 74 (by decide))]
        obtain ⟨M26, p26, c26, d26, a6, a7⟩ := sp_needs7 (g25.x x) g25.b a3.1 a3.2
        have g26 := g25.s d26
        obtain ⟨M27, r28, p27, c27, d27, a8, a9, a10⟩ := sp_mplain (g26.x x) g26.b a6.1 a6.2
        have g27 := g26.s d27
        obtain ⟨M29, e29⟩ : ∃ M29, M29 = zup M27 74 (12 * z + 3) r28 := ⟨_, rfl⟩
        have g29 := g27.w (M1 := M29) (fun a ha => by rw [e29, zupr _ ha])
        have j29 : ∀ j, 0 ≤ j → iv M29 74 j = if j = 12 * z + 3 then r28 else if j = 12 * z + 2 then r24 else iv M9 74 j := fun j j0 => by
          rw [e29, ivs _ _ (by omega) j0 ⟨by omega, by omega⟩, iv_row (d27.1 74 (by decide)), iv_row (d26.1 74 (by decide)), j25 j j0]
        obtain ⟨M30, p30, c30, g30, t1, t2, t3⟩ := sp_saving x ez z0 z1 g29 a8.1 a8.2
        have h22 : df 1 T (oA T s) = -1 → xf6 T (oB T s) = -1 → sk T p22 = o4 T s := fun h1 h2 => by
          have y := (b3 h1).1
          rw [a2 h1 (by rw [y]; exact h2), y]
          rfl
        have h23 : df 1 T (oA T s) = -1 → xf6 T (oB T s) = -1 → df 0 T (o4 T s) = -1 → p23 = de T (o4 T s) ∧ r24 = dv T (o4 T s) := fun h1 h2 h3 => by
          have y := (b3 h1).1
          have u := h22 h1 h2
          have := a5 (by rw [h1, y, th_o]; exact h2) (by rw [u]; exact h3)
          rw [u] at this
          exact this
        have h26 : df 1 T (oA T s) = -1 → xf6 T (oB T s) = -1 → df 0 T (o4 T s) = -1 → xf7 T (de T (o4 T s)) = -1 → sk T p26 = o5 T s := fun h1 h2 h3 h4 => by
          have y := (b3 h1).1
          have u := h22 h1 h2
          have w := (h23 h1 h2 h3).1
          rw [a7 (by rw [h1, y, th_o, h2, th_o, u]; exact h3) (by rw [w]; exact h4), w]
          rfl
        have h27 : df 1 T (oA T s) = -1 → xf6 T (oB T s) = -1 → df 0 T (o4 T s) = -1 → xf7 T (de T (o4 T s)) = -1 → df 0 T (o5 T s) = -1 → p27 = de T (o5 T s) ∧ r28 = dv T (o5 T s) := fun h1 h2 h3 h4 h5 => by
          have y := (b3 h1).1
          have u := h22 h1 h2
          have w := (h23 h1 h2 h3).1
          have v := h26 h1 h2 h3 h4
          have := a10 (by rw [h1, y, th_o, h2, th_o, u, h3, th_o, w]; exact h4) (by rw [v]; exact h5)
          rw [v] at this
          exact this
        have e30 : th (th (th (th (th (df 1 T (oA T s)) (xf6 T p7)) (df 0 T (sk T p22))) (xf7 T p23)) (df 0 T (sk T p26))) (svE T p27) = opE2 T s := by
          rw [eo, th_a, th_a, th_a, th_a]
          refine th_c (fun h1 => ?_)
          rw [(b3 h1).1]
          refine th_c (fun h2 => ?_)
          rw [h22 h1 h2]
          refine th_c (fun h3 => ?_)
          rw [(h23 h1 h2 h3).1]
          refine th_c (fun h4 => ?_)
          rw [h26 h1 h2 h3 h4]
          refine th_c (fun h5 => ?_)
          rw [(h27 h1 h2 h3 h4 h5).1]
        rw [e30] at g30
        refine ⟨M22, c22, r24, M23, c23, ?_⟩
        rw [g23.z, ez]
        refine ⟨by omega, fun M25' e25' => ?_⟩
        rw [← e25] at e25'
        subst e25'
        refine ⟨M26, c26, r28, M27, c27, ?_⟩
        rw [g27.z, ez]
        refine ⟨by omega, fun M29' e29' => ?_⟩
        rw [← e29] at e29'
        subst e29'
        obtain ⟨M31, c31, f31⟩ := fin M30 p30 g30 t1 (fun ok => by
          have ok2 := ok
          rw [eo] at ok
          obtain ⟨o1, ok⟩ := th_e ok
          obtain ⟨o2, ok⟩ := th_e ok
          obtain ⟨o3', ok⟩ := th_e ok
          obtain ⟨o4', ok⟩ := th_e ok
          obtain ⟨o5', o6⟩ := th_e ok
          obtain ⟨y1, y2⟩ := b3 o1
          have u := h22 o1 o2
          obtain ⟨w1, w2⟩ := h23 o1 o2 o3'
          have v := h26 o1 o2 o3' o4'
          obtain ⟨w3, w4⟩ := h27 o1 o2 o3' o4' o5'
          rw [← e30] at ok2
          obtain ⟨m1, m2⟩ := th_e ok2
          obtain ⟨n1, n2⟩ := t2 m1 m2
          rw [w3] at n1 n2
          refine ⟨?_, six ?_ ?_ ?_ ?_ ?_ ?_, fun k h0 h1 => ?_, fun j j0 j1 => by rw [t3 j j0 (by omega), j29 j j0, if_neg (by omega), if_neg (by omega), vf j j0 j1]⟩
          · rw [n1]; unfold opN; rw [if_neg (by omega), if_neg (by omega), if_neg k3, if_pos k4]
          · rw [t3 _ (by omega) (by omega), j29 _ (by omega), if_neg (by omega), if_neg (by omega), v0]; rfl
          · rw [t3 _ (by omega) (by omega), j29 _ (by omega), if_neg (by omega), if_neg (by omega), v1, y2]; rfl
          · rw [t3 _ (by omega) (by omega), j29 _ (by omega), if_neg (by omega), if_pos rfl, w2, opF_2, if_neg (by omega), if_pos k4]
          · rw [t3 _ (by omega) (by omega), j29 _ (by omega), if_pos rfl, w4, opF_3, if_pos k4]
          · rw [n2, j29 _ (by omega), if_neg (c := 12 * z + 4 = 12 * z + 3) (by omega), if_neg (c := 12 * z + 4 = 12 * z + 2) (by omega), vz _ (by omega) (by omega), opF_4, if_neg (c := kd T s = 1) (by omega), if_pos (c := kd T s = 4) k4]; rfl
          · rw [t3 _ (by omega) (by omega), j29 _ (by omega), if_neg (by omega), if_neg (by omega), vz _ (by omega) (by omega), opF_5, if_neg (by omega)]
          · rw [opF_5, if_neg (by omega)] at h1; omega)
        exact ⟨M30, c30, M31, c31, f31⟩
      · have eo : opE2 T s = th (df 1 T (oA T s)) (svE T (oB T s)) := by unfold opE2; rw [if_neg hk, if_neg (by omega), if_neg (by omega), if_neg k3, if_neg k4]
        obtain ⟨M11, p11, c11, g11, t1, t2, t3⟩ := sp_saving x ez z0 z1 g9 b1.1 b1.2
        have e11 : th (df 1 T (oA T s)) (svE T p7) = opE2 T s := by
          rw [eo]
          refine th_c (fun h1 => ?_)
          rw [(b3 h1).1]
        rw [e11] at g11
        obtain ⟨M12, c12, f12⟩ := fin M11 p11 g11 t1 (fun ok => by
          rw [← e11] at ok
          obtain ⟨o1, o2⟩ := th_e ok
          obtain ⟨y1, y2⟩ := b3 o1
          obtain ⟨w1, w2⟩ := t2 o1 o2
          rw [y1] at w1 w2
          refine ⟨?_, six ?_ ?_ ?_ ?_ ?_ ?_, fun k h0 h1 => ?_, fun j j0 j1 => by rw [t3 j j0 (by omega), vf j j0 j1]⟩
          · rw [w1]; unfold opN; rw [if_neg (by omega), if_neg (by omega), if_neg k3, if_neg k4]
          · rw [t3 _ (by omega) (by omega), v0]; rfl
          · rw [t3 _ (by omega) (by omega), v1, y2]; rfl
          · rw [t3 _ (by omega) (by omega), vz _ (by omega) (by omega), opF_2, if_neg k3, if_neg k4]
          · rw [t3 _ (by omega) (by omega), vz _ (by omega) (by omega), opF_3, if_neg k4]
          · rw [w2, vz _ (by omega) (by omega), opF_4, if_neg (c := kd T s = 1) (by omega), if_neg (c := kd T s = 4) k4, if_pos (c := kd T s = 2) k22]; rfl
          · rw [t3 _ (by omega) (by omega), vz _ (by omega) (by omega), opF_5, if_neg (by omega)]
          · rw [opF_5, if_neg (by omega)] at h1; omega)
        exact ⟨M11, c11, M12, c12, f12⟩
  · intro i m i0 i1 ⟨gm, zm, fm⟩ k
    refine vc_readsOperation_25 s i m _ ⟨⟨by omega, by omega⟩, fun _ => ?_, fun q => by omega⟩
    rw [gm.z, ez]
    refine ⟨by omega, fun M2 e2 => k M2 ⟨gm.w (fun a ha => by rw [e2, zupr _ ha]), fun w w0 w1 => ?_, fun j j0 j1 => ?_⟩⟩
    · rw [e2, ivs _ _ (by omega) (by omega) (by decide)]
      by_cases e : w = i
      · rw [if_pos (by omega)]
      · rw [if_neg (by omega)]; exact zm w w0 (by omega)
    · rw [e2, ivs _ _ (by omega) j0 (by decide), if_neg (by omega)]
      exact fm j j0 j1
theorem itE2 {T : Int → Int} {n p : Int} (x : TX T n) (p0 : 0 ≤ p) (p1 : p ≤ n) : itE T n p = th (opE2 T (sk T p)) (smE T n (opN T (sk T p))) := by
  have s := x.skr p0 p1
  unfold itE
  exact (it_eq x (by omega) (by omega)).symm
theorem sp_readsAll {T : Int → Int} {n : Int} {M : am_M} (x : XM T n M) : ∃ M', am_call t_Mo_readsAll [.ref 58] M none M' ∧ (∀ a, ¬ a = 58 → ¬ a = 74 → M' a = M a) ∧ (∀ j, ¬ j = 18 → ¬ j = 19 → ¬ j = 21 → M' 58 j = M 58 j) ∧ iv M' 58 19 = amE T n ∧ (amE T n = -1 → iv M' 58 21 = amC T n ∧ ∀ i, 0 ≤ i → i < amC T n → (∀ w, 0 ≤ w → w < 6 → iv M' 74 (12 * i + w) = opF T (sk T (oS T i)) w) ∧ ∀ k, 0 ≤ k → k < opF T (sk T (oS T i)) 5 → iv M' 74 (12 * i + (6 + k)) = opF T (sk T (oS T i)) (6 + k)) := by
  suffices hh : am_x t_Mo_readsAll (0, am_ent (am_mL t_Mo_readsAll) [.ref 58], [], M) (fun rv M' => rv = none ∧ (∀ a, ¬ a = 58 → ¬ a = 74 → M' a = M a) ∧ (∀ j, ¬ j = 18 → ¬ j = 19 → ¬ j = 21 → M' 58 j = M 58 j) ∧ iv M' 58 19 = amE T n ∧ (amE T n = -1 → iv M' 58 21 = amC T n ∧ ∀ i, 0 ≤ i → i < amC T n → (∀ w, 0 ≤ w → w < 6 → iv M' 74 (12 * i + w) = opF T (sk T (oS T i)) w) ∧ ∀ k, 0 ≤ k → k < opF T (sk T (oS T i)) 5 → iv M' 74 (12 * i + (6 + k)) = opF T (sk T (oS T i)) (6 + k))) by
    obtain ⟨rv, M', c1, c2, c3⟩ := am_call_ex (by exact ⟨Nat.le_of_ble_eq_true rfl, rfl⟩) hh
    subst c2
    exact ⟨M', c1, c3⟩
  have xn := x.2.2.1
  refine vc_readsAll M _ (fun M1 e1 M2 e2 M3 e3 => ?_)
  have f3 : ∀ a, ¬ a = 58 → M3 a = M a := fun a a1 => by rw [e3, zupr _ a1, e2, zupr _ a1, e1, zupr _ a1]
  have h3 : ∀ j, ¬ j = 18 → ¬ j = 19 → ¬ j = 21 → M3 58 j = M 58 j := fun j a b c => by rw [e3, zup58 _ (by decide) c, e2, zup58 _ (by decide) b, e1, zup58 _ (by decide) a]
  have p3 : iv M3 58 18 = 0 := by rw [e3, ivs _ _ (by decide) (by decide) (by decide), if_neg (by decide), e2, ivs _ _ (by decide) (by decide) (by decide), if_neg (by decide), e1, ivs _ _ (by decide) (by decide) (by decide), if_pos rfl]
  have q3 : iv M3 58 19 = -1 := by rw [e3, ivs _ _ (by decide) (by decide) (by decide), if_neg (by decide), e2, ivs _ _ (by decide) (by decide) (by decide), if_pos rfl]
  have z3 : iv M3 58 21 = 0 := by rw [e3, ivs _ _ (by decide) (by decide) (by decide), if_pos rfl]
  refine loop_up (fun i (s : am_M × Int) => (17, [.ref 58, .int (zi s.2)], [], s.1)) 41 (fun i s => ((∀ a, ¬ a = 58 → ¬ a = 74 → s.1 a = M a) ∧ (∀ j, ¬ j = 18 → ¬ j = 19 → ¬ j = 21 → s.1 58 j = M 58 j)) ∧
    ((s.2 = 1 ∧ i ≤ 40 ∧ iv s.1 58 19 = -1 ∧ iv s.1 58 18 = oS T i ∧ (0 ≤ oS T i ∧ oS T i ≤ n) ∧ iv s.1 58 21 = i ∧ amN T n (40 - i).toNat i = amN T n 40 0 ∧ ∀ j, 0 ≤ j → j < i → (∀ w, 0 ≤ w → w < 6 → iv s.1 74 (12 * j + w) = opF T (sk T (oS T j)) w) ∧ ∀ k, 0 ≤ k → k < opF T (sk T (oS T j)) 5 → iv s.1 74 (12 * j + (6 + k)) = opF T (sk T (oS T j)) (6 + k)) ∨
     ((s.2 = 0 ∨ s.2 = 1) ∧ iv s.1 58 19 = amE T n ∧ (amE T n = -1 → s.2 = 0 ∧ iv s.1 58 21 = amC T n ∧ ∀ j, 0 ≤ j → j < amC T n → (∀ w, 0 ≤ w → w < 6 → iv s.1 74 (12 * j + w) = opF T (sk T (oS T j)) w) ∧ ∀ k, 0 ≤ k → k < opF T (sk T (oS T j)) 5 → iv s.1 74 (12 * j + (6 + k)) = opF T (sk T (oS T j)) (6 + k))))) ?_ ?_ 0 (M3, 1) (by omega) (by omega) ⟨⟨fun a a1 _ => f3 a a1, h3⟩, Or.inl ⟨rfl, by omega, q3, p3, ⟨Int.le_refl _, xn.1⟩, z3, rfl, fun j j0 j1 => by omega⟩⟩
  · intro s ⟨fr, h⟩
    rcases h with ⟨_, h2, _⟩ | ⟨h1, h2, h3⟩
    · omega
    · refine vc_readsAll_17 _ s.1 _ ?_
      rw [h2]
      refine ⟨fun q => ⟨by rcases h1 with e | e <;> (rw [e]; decide), fun _ => ⟨rfl, fr.1, fr.2, rfl, fun z => (h3 z).2⟩, fun z => absurd (h3 q).1 z⟩, fun q => ⟨rfl, fr.1, fr.2, rfl, fun z => absurd z q⟩⟩
  · intro i s i0 i1 ⟨fr, h⟩ k
    rcases h with ⟨h1, h2, h3, h4, h5, h6, h8, h9⟩ | ⟨h1, h2, h3⟩
    · rw [h1]
      have xs : XM T n s.1 := x.row (fr.1 73 (by decide) (by decide)) (fr.2 17 (by decide) (by decide) (by decide))
      have gs : CRm s.1 (oS T i) (-1) s.1 := ⟨fun _ _ => rfl, fun _ _ _ => rfl, h4, h3⟩
      have sr := x.2.2.skr h5.1 h5.2
      obtain ⟨M2', c2, d2⟩ := sp_skips xs gs h5.1 h5.2
      have x2 := xs.rd d2
      have g2 : CRm M2' (sk T (oS T i)) (-1) M2' := ⟨fun _ _ => rfl, fun _ _ _ => rfl, d2.2.2.1, d2.2.2.2⟩
      have z2 : iv M2' 58 21 = i := by rw [iv1 (d2.2.1 21 (by decide) (by decide)), h6]
      refine vc_readsAll_17 _ s.1 _ ⟨fun _ => ⟨by decide, fun q => absurd q (by decide), fun _ => ⟨M2', c2, ?_⟩⟩, fun q => absurd h3 q⟩
      by_cases hi : i < 40
      · obtain ⟨M3', c3, o1, o2, o3', o4', o5'⟩ := sp_operation x2 g2 (by omega) (by omega) z2 i0 hi
        have x3 : XM T n M3' := x2.row (o1 73 (by decide) (by decide)) (o2 17 (by decide) (by decide) (by decide))
        have fr3 : (∀ a, ¬ a = 58 → ¬ a = 74 → M3' a = M a) ∧ (∀ j, ¬ j = 18 → ¬ j = 19 → ¬ j = 21 → M3' 58 j = M 58 j) := ⟨fun a a1 a2 => by rw [o1 a a1 a2, d2.1 a a1, fr.1 a a1 a2], fun j a b c => by rw [o2 j a b c, d2.2.1 j a b, fr.2 j a b c]⟩
        refine ⟨M3', c3, ?_⟩
        rw [o4', x3.2.1, x3.1 _ o3'.1]
        rw [amN_s T n hi] at h8
        have ei := itE2 x.2.2 h5.1 h5.2
        refine ⟨by omega, fun m => ⟨fun w M4 e4 => ?_, fun w M5 e5 => ?_⟩, fun m => ⟨fun w => ?_, fun w M9 e9 => ?_⟩⟩
        · obtain ⟨u1, u2, u3, u4, u5⟩ := o5' w
          rw [u1] at m e4
          have m' : isM T (oS T i) := m
          rw [w, th_o] at ei
          unfold smE at ei
          rw [if_pos m] at ei
          rw [if_neg (fun z => z ei), if_pos m'] at h8
          have d4 : CRm M3' (sk T (opN T (sk T (oS T i))) + 1) (-1) M4 := crm_p ⟨fun _ _ => rfl, fun _ _ _ => rfl, u1, by rw [o4', w]⟩ e4 ⟨by omega, by omega⟩
          refine k (M4, 1) ⟨⟨fun a a1 a2 => by show M4 a = _; rw [d4.1 a a1, fr3.1 a a1 a2], fun j a b c => by show M4 58 j = _; rw [d4.2.1 j a b, fr3.2 j a b c]⟩, Or.inl ⟨rfl, by omega, d4.2.2.2, by show iv M4 58 18 = _; rw [d4.2.2.1, oS_s T i0], oS_n x.2.2 i0 h5.1 h5.2 m', ?_, h8, fun j j0 j1 => ?_⟩⟩
          · show iv M4 58 21 = _
            rw [iv1 (d4.2.1 21 (by decide) (by decide)), u2]
          · show (∀ w, 0 ≤ w → w < 6 → iv M4 74 (12 * j + w) = opF T (sk T (oS T j)) w) ∧ ∀ k, 0 ≤ k → k < opF T (sk T (oS T j)) 5 → iv M4 74 (12 * j + (6 + k)) = opF T (sk T (oS T j)) (6 + k)
            rw [iv_row (d4.1 74 (by decide))]
            by_cases e : j = i
            · rw [e]; exact ⟨u3, u4⟩
            · have hj := h9 j j0 (by omega)
              have l5 := opF_5r T (sk T (oS T j))
              have r74 : iv M2' 74 = iv s.1 74 := iv_row (d2.1 74 (by decide))
              exact ⟨fun w' w0 w1 => by rw [u5 _ (by omega) (by omega), r74, hj.1 w' w0 w1], fun k' k0 k1 => by rw [u5 _ (by omega) (by omega), r74, hj.2 k' k0 k1]⟩
        · have ea : amE T n = opE2 T (sk T (oS T i)) := by
            rw [th_n _ w] at ei
            rw [if_pos (by rw [ei]; exact w)] at h8
            unfold amE
            rw [← h8, ei]
          have d5 : CRm M3' (iv M3' 58 18 + 1) (opE2 T (sk T (oS T i))) M5 := crm_p ⟨fun _ _ => rfl, fun _ _ _ => rfl, rfl, o4'⟩ e5 ⟨by omega, by omega⟩
          exact k (M5, 1) ⟨⟨fun a a1 a2 => by show M5 a = _; rw [d5.1 a a1, fr3.1 a a1 a2], fun j a b c => by show M5 58 j = _; rw [d5.2.1 j a b, fr3.2 j a b c]⟩, Or.inr ⟨Or.inr rfl, by show iv M5 58 19 = _; rw [d5.2.2.2, ea], fun z => absurd (ea.symm.trans z) w⟩⟩
        · obtain ⟨u1, u2, u3, u4, u5⟩ := o5' w
          rw [u1] at m ⊢
          have m' : ¬ isM T (oS T i) := m
          rw [w, th_o] at ei
          unfold smE at ei
          rw [if_neg m] at ei
          have g3 : CRm M3' (sk T (opN T (sk T (oS T i)))) (-1) M3' := ⟨fun _ _ => rfl, fun _ _ _ => rfl, u1, by rw [o4', w]⟩
          refine ⟨fun lt => ?_, fun ge M8 e8 => ?_⟩
          · rw [if_pos lt] at ei
            obtain ⟨M6, c6, d6⟩ := sp_fails g3 (k := sk T (opN T (sk T (oS T i)))) ⟨by omega, by omega⟩
            rw [th_o] at d6
            have ne1 : ¬ itE T n (oS T i) = -1 := by rw [ei]; omega
            rw [if_pos ne1] at h8
            have ea : amE T n = sk T (opN T (sk T (oS T i))) := by unfold amE; rw [← h8, ei]
            refine ⟨M6, c6, fun M7 e7 => ?_⟩
            rw [Int.add_zero, d6.2.2.1] at e7
            have d7 := crm_p d6 e7 ⟨by omega, by omega⟩
            exact k (M7, 0) ⟨⟨fun a a1 a2 => by show M7 a = _; rw [d7.1 a a1, fr3.1 a a1 a2], fun j a b c => by show M7 58 j = _; rw [d7.2.1 j a b, fr3.2 j a b c]⟩, Or.inr ⟨Or.inl rfl, by show iv M7 58 19 = _; rw [d7.2.2.2, ea], fun z => by rw [ea] at z; omega⟩⟩
          · rw [if_neg (by omega)] at ei
            rw [if_neg (fun z => z ei), if_neg m'] at h8
            have ea : amE T n = -1 := by unfold amE; rw [← h8]
            have ec : amC T n = i + 1 := by unfold amC; rw [← h8]
            rw [Int.add_zero] at e8
            have d8 := crm_p g3 e8 ⟨by omega, by omega⟩
            refine k (M8, 0) ⟨⟨fun a a1 a2 => by show M8 a = _; rw [d8.1 a a1, fr3.1 a a1 a2], fun j a b c => by show M8 58 j = _; rw [d8.2.1 j a b, fr3.2 j a b c]⟩, Or.inr ⟨Or.inl rfl, by show iv M8 58 19 = _; rw [d8.2.2.2, ea], fun _ => ⟨rfl, ?_, fun j j0 j1 => ?_⟩⟩⟩
            · show iv M8 58 21 = _
              rw [iv1 (d8.2.1 21 (by decide) (by decide)), u2, ec]
            · show (∀ w, 0 ≤ w → w < 6 → iv M8 74 (12 * j + w) = opF T (sk T (oS T j)) w) ∧ ∀ k, 0 ≤ k → k < opF T (sk T (oS T j)) 5 → iv M8 74 (12 * j + (6 + k)) = opF T (sk T (oS T j)) (6 + k)
              rw [iv_row (d8.1 74 (by decide))]
              rw [ec] at j1
              by_cases e : j = i
              · rw [e]; exact ⟨u3, u4⟩
              · have hj := h9 j j0 (by omega)
                have l5 := opF_5r T (sk T (oS T j))
                have r74 : iv M2' 74 = iv s.1 74 := iv_row (d2.1 74 (by decide))
                exact ⟨fun w' w0 w1 => by rw [u5 _ (by omega) (by omega), r74, hj.1 w' w0 w1], fun k' k0 k1 => by rw [u5 _ (by omega) (by omega), r74, hj.2 k' k0 k1]⟩
        · have ea : amE T n = opE2 T (sk T (oS T i)) := by
            rw [th_n _ w] at ei
            rw [if_pos (by rw [ei]; exact w)] at h8
            unfold amE
            rw [← h8, ei]
          rw [Int.add_zero] at e9
          have d5 : CRm M3' (iv M3' 58 18) (opE2 T (sk T (oS T i))) M9 := crm_p ⟨fun _ _ => rfl, fun _ _ _ => rfl, rfl, o4'⟩ e9 (iv_r _ _ _)
          exact k (M9, 0) ⟨⟨fun a a1 a2 => by show M9 a = _; rw [d5.1 a a1, fr3.1 a a1 a2], fun j a b c => by show M9 58 j = _; rw [d5.2.1 j a b, fr3.2 j a b c]⟩, Or.inr ⟨Or.inl rfl, by show iv M9 58 19 = _; rw [d5.2.2.2, ea], fun z => absurd (ea.symm.trans z) w⟩⟩
      · have ei : i = 40 := by omega
        subst ei
        have ea : amE T n = sk T (oS T 40) := by unfold amE; rw [← h8]; rfl
        obtain ⟨M3', c3, d3⟩ := sp_fails g2 (k := sk T (oS T 40)) ⟨by omega, by omega⟩
        rw [th_o] at d3
        have x3 := x2.rd d3
        have cop : am_call t_Mo_readsOperation [.ref 58] M2' none M3' := by
          refine am_call_of ⟨Nat.le_of_ble_eq_true rfl, rfl⟩ (vc_readsOperation M2' _ ⟨fun _ => ⟨M3', ?_, rfl, rfl⟩, fun q => absurd z2 q⟩)
          rw [d2.2.2.1]
          exact c3
        have fin : ∀ (Mx : am_M) (v b : Int), Mx = zup M3' 58 18 v → zr v → (b = 0 ∨ b = 1) → am_x t_Mo_readsAll (17, [.ref 58, .int (zi b)], [], Mx) (fun rv M' => rv = none ∧ (∀ a, ¬ a = 58 → ¬ a = 74 → M' a = M a) ∧ (∀ j, ¬ j = 18 → ¬ j = 19 → ¬ j = 21 → M' 58 j = M 58 j) ∧ iv M' 58 19 = amE T n ∧ (amE T n = -1 → iv M' 58 21 = amC T n ∧ ∀ i, 0 ≤ i → i < amC T n → (∀ w, 0 ≤ w → w < 6 → iv M' 74 (12 * i + w) = opF T (sk T (oS T i)) w) ∧ ∀ k, 0 ≤ k → k < opF T (sk T (oS T i)) 5 → iv M' 74 (12 * i + (6 + k)) = opF T (sk T (oS T i)) (6 + k))) := by
          intro Mx v b ex vz hb
          have dx := crm_p d3 ex vz
          exact k (Mx, b) ⟨⟨fun a a1 a2 => by show Mx a = _; rw [dx.1 a a1, d2.1 a a1, fr.1 a a1 a2], fun j a b c => by show Mx 58 j = _; rw [dx.2.1 j a b, d2.2.1 j a b, fr.2 j a b c]⟩, Or.inr ⟨hb, by show iv Mx 58 19 = _; rw [dx.2.2.2, ea], fun z => by rw [ea] at z; omega⟩⟩
        refine ⟨M3', cop, ?_⟩
        rw [d3.2.2.2, d3.2.2.1, x3.2.1, x3.1 _ (by omega)]
        exact ⟨by omega, fun m => ⟨fun w => by omega, fun w M5 e5 => fin M5 _ 1 e5 ⟨by omega, by omega⟩ (Or.inr rfl)⟩, fun m => ⟨fun w => by omega, fun w M9 e9 => fin M9 _ 0 e9 ⟨by omega, by omega⟩ (Or.inl rfl)⟩⟩
    · refine vc_readsAll_17 _ s.1 _ ?_
      rw [h2]
      refine ⟨fun q => ⟨by rcases h1 with e | e <;> (rw [e]; decide), fun _ => ⟨rfl, fr.1, fr.2, rfl, fun z => (h3 z).2⟩, fun z => absurd (h3 q).1 z⟩, fun q => ⟨rfl, fr.1, fr.2, rfl, fun z => absurd z q⟩⟩
