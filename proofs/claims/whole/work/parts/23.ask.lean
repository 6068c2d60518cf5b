/-! questions of the law: both programs answer alike -/
theorem tdiv_neg0 {v : Int} (h : v < 0) : Int.tdiv v 729 ≤ 0 := by
  obtain ⟨u, rfl⟩ : ∃ u, v = -u := ⟨-v, by omega⟩
  rw [Int.neg_tdiv, Int.tdiv_eq_ediv_of_nonneg (by omega)]
  omega
def CSt (M : am_M) : Prop := WB (iv M 59) ∧ CBR (iv M 11) (iv M 59)
def MSm (M M1 : am_M) : Prop := ∀ a, 58 ≤ a → M1 a = M a
def QRY (tc tm : am_T) (ca ma : List Value) (M : am_M) : Prop := ∃ r : Int, (∃ M1, am_call tc ca M (some (.int (zi r))) M1 ∧ CQ M M1) ∧ ∀ M1, MSm M M1 → ∃ M2, am_call tm ma M1 (some (.int (zi r))) M2 ∧ MqF M1 M2
theorem qry {tc tm : am_T} {ca ma : List Value} {M : am_M} (r : Int) (h0 : (am_sl1 ca).length ≤ am_mL tc ∧ ca.length = am_ar tc) (h1 : (am_sl1 ma).length ≤ am_mL tm ∧ ma.length = am_ar tm)
    (hc : am_x tc (0, am_ent (am_mL tc) ca, [], M) (fun rv M1 => rv = some (.int (zi r)) ∧ CQ M M1)) (hm : ∀ M1, MSm M M1 → am_x tm (0, am_ent (am_mL tm) ma, [], M1) (fun rv M2 => rv = some (.int (zi r)) ∧ MqF M1 M2)) : QRY tc tm ca ma M := by
  refine ⟨r, ?_, fun M1 hs => ?_⟩
  · obtain ⟨rv, M1, h, h2, h3⟩ := am_call_ex h0 hc
    subst h2
    exact ⟨M1, h, h3⟩
  · obtain ⟨rv, M2, h, h2, h3⟩ := am_call_ex h1 (hm M1 hs)
    subst h2
    exact ⟨M2, h, h3⟩
theorem MSm_w {M M1 : am_M} (h : MSm M M1) (w : WB (iv M 59)) : WB (iv M1 59) := by rw [iv_row (h 59 (by decide))]; exact w
theorem ms_laws {M M1 : am_M} (h : MSm M M1) (w : WB (iv M 59)) {day cas : Int} (dz : zr day) (ez : zr cas) : ∃ M', am_call t_Mo_laws [.ref 58, .int (zi day), .int (zi cas)] M1 none M' ∧ MLf M1 M' ∧ MLR (lw (iv M 59) day cas) M' := by
  have := sp_laws M1 (MSm_w h w) dz ez
  rwa [iv_row (h 59 (by decide))] at this
theorem ms_full {M M1 : am_M} (h : MSm M M1) (w : WB (iv M 59)) : ∃ M', am_call t_Mo_fullLaw [.ref 58] M1 none M' ∧ MLf M1 M' ∧ MLR (lw (iv M 59) 9999 (-1)) M' := by
  have := sp_fullLaw M1 (MSm_w h w)
  rwa [iv_row (h 59 (by decide))] at this
theorem frc40 (L : Lw) : 0 ≤ frc L 40 ∧ frc L 40 ≤ 40 := frc_rg L (by omega)
theorem rank_rg (L : Lw) (c : Int) : 0 ≤ rank L c ∧ rank L c ≤ 40 := by
  have a1 := sm_nn (fun k => if ¬ L.code k = 0 ∧ L.code k < L.code c then 1 else 0) 40 (fun i _ _ => by split <;> omega)
  have a2 := sm_le (fun k => if ¬ L.code k = 0 ∧ L.code k < L.code c then 1 else 0) (fun k => if k < 40 then 1 else 0) 40 (fun i _ h => by show (if _ then (1 : Int) else 0) ≤ if _ then (1 : Int) else 0; rw [if_pos h]; split <;> omega)
  rw [sm_lt 40 40 (by omega) (by omega)] at a2
  exact ⟨a1, a2⟩
set_option maxRecDepth 100000 in
theorem vc_isLaw (d : Int) (e : Int) (M : am_M) (Q : Option Value → am_M → Prop) (hv : (zr d ∧ zr (9999 : Int)) ∧ ((0 ≤ d ∧ d ≤ 9999 → zr e ∧ ((e = (-1) → Q (some (.int (zi 1))) M) ∧ (¬ e = (-1) → (zr e ∧ zr (9999 : Int)) ∧ ((0 ≤ e ∧ e ≤ 9999 → Q (some (.int (zi 1))) M) ∧ (¬ (0 ≤ e ∧ e ≤ 9999) → Q (some (.int (zi 0))) M))))) ∧ (¬ (0 ≤ d ∧ d ≤ 9999) → Q (some (.int (zi 0))) M))) : am_x t_SB_isLaw (0, am_ent (am_mL t_SB_isLaw) [.int (zi d), .int (zi e)], [], M) Q := by
  refine am_xn 0 (c1 := (0, [.int (zi d), .int (zi e)], [], M)) rfl ?_
  refine am_xn 2 (c1 := (4, [.int (zi d), .int (zi e)], [.int (zi 9999), .int (zi d)], M)) rfl ?_
  obtain ⟨g, hv⟩ := hv
  by_cases c3 : 0 ≤ d ∧ d ≤ 9999
  · replace hv := hv.1 c3
    refine am_xc t_SB_within (.invokestatic 56) 56 (av := [.int (zi d), .int (zi 9999)]) (rest := []) (rv := some (.int (zi 1))) (M' := M) rfl rfl rfl rfl (Nat.le_of_ble_eq_true rfl) (fun h => nomatch h) (by have q := sp_within M d 9999 g; rwa [if_pos c3] at q) ?_
    refine am_xn 0 (c1 := (7, [.int (zi d), .int (zi e)], [.int (zi 1)], M)) rfl ?_
    obtain ⟨r1, hv⟩ := hv
    refine am_xn 4 (c1 := (if zi e = zi (-1) then 25 else 15, [.int (zi d), .int (zi e)], [], M)) rfl (am_xeq r1 (by decide) (fun h => ?_) (fun h => ?_))
    · replace hv := hv.1 h
      refine am_xn 2 (c1 := (30, [.int (zi d), .int (zi e)], [.int (zi 1)], M)) rfl ?_
      exact am_xr (some (.int (zi 1))) ⟨rfl, rfl, .boolean, rfl, rfl⟩ hv
    · replace hv := hv.2 h
      refine am_xn 2 (c1 := (19, [.int (zi d), .int (zi e)], [.int (zi 9999), .int (zi e)], M)) rfl ?_
      obtain ⟨g, hv⟩ := hv
      by_cases c2 : 0 ≤ e ∧ e ≤ 9999
      · replace hv := hv.1 c2
        refine am_xc t_SB_within (.invokestatic 56) 56 (av := [.int (zi e), .int (zi 9999)]) (rest := []) (rv := some (.int (zi 1))) (M' := M) rfl rfl rfl rfl (Nat.le_of_ble_eq_true rfl) (fun h => nomatch h) (by have q := sp_within M e 9999 g; rwa [if_pos c2] at q) ?_
        refine am_xn 0 (c1 := (22, [.int (zi d), .int (zi e)], [.int (zi 1)], M)) rfl ?_
        refine am_xn 3 (c1 := (30, [.int (zi d), .int (zi e)], [.int (zi 1)], M)) rfl ?_
        exact am_xr (some (.int (zi 1))) ⟨rfl, rfl, .boolean, rfl, rfl⟩ hv
      · replace hv := hv.2 c2
        refine am_xc t_SB_within (.invokestatic 56) 56 (av := [.int (zi e), .int (zi 9999)]) (rest := []) (rv := some (.int (zi 0))) (M' := M) rfl rfl rfl rfl (Nat.le_of_ble_eq_true rfl) (fun h => nomatch h) (by have q := sp_within M e 9999 g; rwa [if_neg c2] at q) ?_
        refine am_xn 0 (c1 := (22, [.int (zi d), .int (zi e)], [.int (zi 0)], M)) rfl ?_
        refine am_xn 2 (c1 := (30, [.int (zi d), .int (zi e)], [.int (zi 0)], M)) rfl ?_
        exact am_xr (some (.int (zi 0))) ⟨rfl, rfl, .boolean, rfl, rfl⟩ hv
  · replace hv := hv.2 c3
    refine am_xc t_SB_within (.invokestatic 56) 56 (av := [.int (zi d), .int (zi 9999)]) (rest := []) (rv := some (.int (zi 0))) (M' := M) rfl rfl rfl rfl (Nat.le_of_ble_eq_true rfl) (fun h => nomatch h) (by have q := sp_within M d 9999 g; rwa [if_neg c3] at q) ?_
    refine am_xn 0 (c1 := (7, [.int (zi d), .int (zi e)], [.int (zi 0)], M)) rfl ?_
    refine am_xn 2 (c1 := (30, [.int (zi d), .int (zi e)], [.int (zi 0)], M)) rfl ?_
    exact am_xr (some (.int (zi 0))) ⟨rfl, rfl, .boolean, rfl, rfl⟩ hv
theorem sp_isLaw (M : am_M) (d : Int) (e : Int) (g : zr d ∧ zr e) : am_call t_SB_isLaw [.int (zi d), .int (zi e)] M (some (.int (zi (if (0 ≤ d ∧ d ≤ 9999) ∧ (e = -1 ∨ (0 ≤ e ∧ e ≤ 9999)) then 1 else 0)))) M := by
  refine am_call_of ⟨Nat.le_of_ble_eq_true rfl, rfl⟩ (vc_isLaw d e M _ ?_)
  obtain ⟨⟨_, _⟩, ⟨_, _⟩⟩ := g
  (repeat' (first | apply And.intro | intro _)) <;> (first | rfl | omega | (split <;> (first | rfl | omega)))
set_option maxRecDepth 100000 in
theorem vc_c_isCode (v : Int) (M : am_M) (Q : Option Value → am_M → Prop) (hv : zr v ∧ (((Int.tdiv v 729) < 1 → Q (some (.int (zi 0))) M) ∧ (1 ≤ (Int.tdiv v 729) → (999 < (Int.tdiv v 729) → Q (some (.int (zi 0))) M) ∧ ((Int.tdiv v 729) ≤ 999 → (0 < (Int.tdiv (Int.tmod v 729) 27) → Q (some (.int (zi 1))) M) ∧ ((Int.tdiv (Int.tmod v 729) 27) ≤ 0 → ((Int.tmod v 27) = 0 → Q (some (.int (zi 1))) M) ∧ (¬ (Int.tmod v 27) = 0 → Q (some (.int (zi 0))) M)))))) : am_x t_SB_isCode (0, am_ent (am_mL t_SB_isCode) [.int (zi v)], [], M) Q := by
  refine am_xn 0 (c1 := (0, [.int (zi v), .null, .null, .null], [], M)) rfl ?_
  obtain ⟨r1, hv⟩ := hv
  refine am_xn 2 (c1 := (4, [.int (zi v), .null, .null, .null], [.int (zi 729), .int (zi v)], M)) rfl ?_
  refine am_xtdiv rfl (by decide) r1 ?_
  refine am_xn 0 (c1 := (5, [.int (zi v), .null, .null, .null], [.int (zi (Int.tdiv v 729))], M)) rfl ?_
  refine am_xn 3 (c1 := (10, [.int (zi v), .int (zi (Int.tdiv v 729)), .null, .null], [.int (zi 729), .int (zi v)], M)) rfl ?_
  refine am_xtrem rfl (by decide) r1 ?_
  refine am_xn 0 (c1 := (11, [.int (zi v), .int (zi (Int.tdiv v 729)), .null, .null], [.int (zi (Int.tmod v 729))], M)) rfl ?_
  refine am_xn 1 (c1 := (13, [.int (zi v), .int (zi (Int.tdiv v 729)), .null, .null], [.int (zi 27), .int (zi (Int.tmod v 729))], M)) rfl ?_
  refine am_xtdiv rfl (by decide) (zr_trem (by decide) r1) ?_
  refine am_xn 0 (c1 := (14, [.int (zi v), .int (zi (Int.tdiv v 729)), .null, .null], [.int (zi (Int.tdiv (Int.tmod v 729) 27))], M)) rfl ?_
  refine am_xn 3 (c1 := (18, [.int (zi v), .int (zi (Int.tdiv v 729)), .int (zi (Int.tdiv (Int.tmod v 729) 27)), .null], [.int (zi 27), .int (zi v)], M)) rfl ?_
  refine am_xtrem rfl (by decide) r1 ?_
  refine am_xn 0 (c1 := (19, [.int (zi v), .int (zi (Int.tdiv v 729)), .int (zi (Int.tdiv (Int.tmod v 729) 27)), .null], [.int (zi (Int.tmod v 27))], M)) rfl ?_
  refine am_xn 4 (c1 := (if zi (Int.tdiv v 729) < zi 1 then 44 else 25, [.int (zi v), .int (zi (Int.tdiv v 729)), .int (zi (Int.tdiv (Int.tmod v 729) 27)), .int (zi (Int.tmod v 27))], [], M)) rfl (am_xlt (zr_tdiv (by decide) r1) (by decide) (fun h => ?_) (fun h => ?_))
  · replace hv := hv.1 h
    refine am_xn 1 (c1 := (45, [.int (zi v), .int (zi (Int.tdiv v 729)), .int (zi (Int.tdiv (Int.tmod v 729) 27)), .int (zi (Int.tmod v 27))], [.int (zi 0)], M)) rfl ?_
    exact am_xr (some (.int (zi 0))) ⟨rfl, rfl, .boolean, rfl, rfl⟩ hv
  · replace hv := hv.2 h
    refine am_xn 3 (c1 := (if zi 999 < zi (Int.tdiv v 729) then 44 else 32, [.int (zi v), .int (zi (Int.tdiv v 729)), .int (zi (Int.tdiv (Int.tmod v 729) 27)), .int (zi (Int.tmod v 27))], [], M)) rfl (am_xlt (by decide) (zr_tdiv (by decide) r1) (fun h => ?_) (fun h => ?_))
    · replace hv := hv.1 h
      refine am_xn 1 (c1 := (45, [.int (zi v), .int (zi (Int.tdiv v 729)), .int (zi (Int.tdiv (Int.tmod v 729) 27)), .int (zi (Int.tmod v 27))], [.int (zi 0)], M)) rfl ?_
      exact am_xr (some (.int (zi 0))) ⟨rfl, rfl, .boolean, rfl, rfl⟩ hv
    · replace hv := hv.2 h
      refine am_xn 2 (c1 := (if zi 0 < zi (Int.tdiv (Int.tmod v 729) 27) then 40 else 36, [.int (zi v), .int (zi (Int.tdiv v 729)), .int (zi (Int.tdiv (Int.tmod v 729) 27)), .int (zi (Int.tmod v 27))], [], M)) rfl (am_xlt (by decide) (zr_tdiv (by decide) (zr_trem (by decide) r1)) (fun h => ?_) (fun h => ?_))
      · replace hv := hv.1 h
        refine am_xn 2 (c1 := (45, [.int (zi v), .int (zi (Int.tdiv v 729)), .int (zi (Int.tdiv (Int.tmod v 729) 27)), .int (zi (Int.tmod v 27))], [.int (zi 1)], M)) rfl ?_
        exact am_xr (some (.int (zi 1))) ⟨rfl, rfl, .boolean, rfl, rfl⟩ hv
      · replace hv := hv.2 h
        refine am_xn 2 (c1 := (if zi (Int.tmod v 27) = zi 0 then 40 else 44, [.int (zi v), .int (zi (Int.tdiv v 729)), .int (zi (Int.tdiv (Int.tmod v 729) 27)), .int (zi (Int.tmod v 27))], [], M)) rfl (am_xeq (zr_trem (by decide) r1) (by decide) (fun h => ?_) (fun h => ?_))
        · replace hv := hv.1 h
          refine am_xn 2 (c1 := (45, [.int (zi v), .int (zi (Int.tdiv v 729)), .int (zi (Int.tdiv (Int.tmod v 729) 27)), .int (zi (Int.tmod v 27))], [.int (zi 1)], M)) rfl ?_
          exact am_xr (some (.int (zi 1))) ⟨rfl, rfl, .boolean, rfl, rfl⟩ hv
        · replace hv := hv.2 h
          refine am_xn 1 (c1 := (45, [.int (zi v), .int (zi (Int.tdiv v 729)), .int (zi (Int.tdiv (Int.tmod v 729) 27)), .int (zi (Int.tmod v 27))], [.int (zi 0)], M)) rfl ?_
          exact am_xr (some (.int (zi 0))) ⟨rfl, rfl, .boolean, rfl, rfl⟩ hv
theorem sp_c_isCode (M : am_M) (v : Int) (g : zr v) : am_call t_SB_isCode [.int (zi v)] M (some (.int (zi (if isCd v then 1 else 0)))) M := by
  refine am_call_of ⟨Nat.le_of_ble_eq_true rfl, rfl⟩ (vc_c_isCode v M _ ?_)
  obtain ⟨_, _⟩ := g
  have e : 0 ≤ v → Int.tdiv v 729 = v / 729 := fun h => Int.tdiv_eq_ediv_of_nonneg h
  have e0 : 0 ≤ v → Int.tmod v 729 = v % 729 := fun h => Int.tmod_eq_emod_of_nonneg h
  have e1 : 0 ≤ v → Int.tdiv (Int.tmod v 729) 27 = v % 729 / 27 := fun h => by rw [e0 h]; exact Int.tdiv_eq_ediv_of_nonneg (Int.emod_nonneg v (by decide))
  have e2 : 0 ≤ v → Int.tmod v 27 = v % 27 := fun h => Int.tmod_eq_emod_of_nonneg h
  have e3 : v < 0 → Int.tdiv v 729 ≤ 0 := tdiv_neg0
  (repeat' (first | apply And.intro | intro _)) <;> (first | rfl | omega | (split <;> (first | rfl | omega)))
set_option maxRecDepth 100000 in
theorem vc_c_isIdentity (v : Int) (M : am_M) (Q : Option Value → am_M → Prop) (hv : zr v ∧ ((v < 0 → Q (some (.int (zi 0))) M) ∧ (0 ≤ v → (v < (iv M 11 2) → Q (some (.int (zi 1))) M) ∧ ((iv M 11 2) ≤ v → Q (some (.int (zi 0))) M)))) : am_x t_SB_isIdentity (0, am_ent (am_mL t_SB_isIdentity) [.ref 0, .int (zi v)], [], M) Q := by
  refine am_xn 0 (c1 := (0, [.ref 0, .int (zi v)], [], M)) rfl ?_
  obtain ⟨r1, hv⟩ := hv
  refine am_xn 2 (c1 := (if zi v < zi 0 then 19 else 4, [.ref 0, .int (zi v)], [], M)) rfl (am_xlt r1 (by decide) (fun h => ?_) (fun h => ?_))
  · replace hv := hv.1 h
    refine am_xn 1 (c1 := (20, [.ref 0, .int (zi v)], [.int (zi 0)], M)) rfl ?_
    exact am_xr (some (.int (zi 0))) ⟨rfl, rfl, .boolean, rfl, rfl⟩ hv
  · replace hv := hv.2 h
    refine am_xn 3 (c1 := (9, [.ref 0, .int (zi v)], [.ref 9, .int (zi v)], M)) rfl ?_
    refine am_xc t_Amd_identities (.invokevirtual 304) 304 (av := [.ref 9]) (rest := [.int (zi v)]) (rv := some (.int (zi (iv M 11 2)))) (M' := M) rfl rfl rfl rfl (Nat.le_of_ble_eq_true rfl) (fun _ => rfl) (sp_c_identities M) ?_
    refine am_xn 0 (c1 := (12, [.ref 0, .int (zi v)], [.int (zi (iv M 11 2)), .int (zi v)], M)) rfl ?_
    refine am_xn 1 (c1 := (if zi v < zi (iv M 11 2) then 15 else 19, [.ref 0, .int (zi v)], [], M)) rfl (am_xlt r1 (iv_r _ _ _) (fun h => ?_) (fun h => ?_))
    · replace hv := hv.1 h
      refine am_xn 2 (c1 := (20, [.ref 0, .int (zi v)], [.int (zi 1)], M)) rfl ?_
      exact am_xr (some (.int (zi 1))) ⟨rfl, rfl, .boolean, rfl, rfl⟩ hv
    · replace hv := hv.2 h
      refine am_xn 1 (c1 := (20, [.ref 0, .int (zi v)], [.int (zi 0)], M)) rfl ?_
      exact am_xr (some (.int (zi 0))) ⟨rfl, rfl, .boolean, rfl, rfl⟩ hv
theorem sp_c_isIdentity (M : am_M) (v : Int) (g : zr v) : am_call t_SB_isIdentity [.ref 0, .int (zi v)] M (some (.int (zi (if 0 ≤ v ∧ v < iv M 11 2 then 1 else 0)))) M := by
  refine am_call_of ⟨Nat.le_of_ble_eq_true rfl, rfl⟩ (vc_c_isIdentity v M _ ?_)
  obtain ⟨_, _⟩ := g
  (repeat' (first | apply And.intro | intro _)) <;> (first | rfl | omega | (split <;> (first | rfl | omega)))
set_option maxRecDepth 100000 in
theorem vc_clausePart (c : Int) (w : Int) (M : am_M) (Q : Option Value → am_M → Prop) (hv : zr w ∧ ((w = 0 → (0 ≤ c ∧ c < 40) ∧ (Q (some (.int (zi (iv M 17 c)))) M)) ∧ (w = 1 → Q (some (.int (zi c))) M) ∧ (w = 2 → (0 ≤ c ∧ c < 40) ∧ (Q (some (.int (zi (iv M 21 c)))) M)) ∧ (¬ w = 0 → ¬ w = 1 → ¬ w = 2 → (0 ≤ c ∧ c < 40) ∧ (Q (some (.int (zi (iv M 19 c)))) M)))) : am_x t_SB_clausePart (0, am_ent (am_mL t_SB_clausePart) [.ref 0, .int (zi c), .int (zi w)], [], M) Q := by
  refine am_xn 0 (c1 := (0, [.ref 0, .int (zi c), .int (zi w)], [], M)) rfl ?_
  obtain ⟨r1, hv⟩ := hv
  refine am_xn 1 (c1 := (1, [.ref 0, .int (zi c), .int (zi w)], [.int (zi w)], M)) rfl ?_
  by_cases h0 : w = 0
  · replace hv := hv.1 h0
    refine am_xswt rfl 0 (by rw [h0]; rfl) 28 rfl ?_
    refine am_xn 3 (c1 := (33, [.ref 0, .int (zi c), .int (zi w)], [.int (zi c), .ref 15], M)) rfl ?_
    obtain ⟨g, hv⟩ := hv
    refine am_xc t_Law_code (.invokevirtual 172) 172 (av := [.ref 15, .int (zi c)]) (rest := []) (rv := some (.int (zi (iv M 17 c)))) (M' := M) rfl rfl rfl rfl (Nat.le_of_ble_eq_true rfl) (fun _ => rfl) (sp_l15_code M c g) ?_
    refine am_xn 0 (c1 := (36, [.ref 0, .int (zi c), .int (zi w)], [.int (zi (iv M 17 c))], M)) rfl ?_
    exact am_xr (some (.int (zi (iv M 17 c)))) ⟨rfl, rfl, .int, rfl, rfl⟩ hv
  replace hv := hv.2
  by_cases h1 : w = 1
  · replace hv := hv.1 h1
    refine am_xswt rfl 1 (by rw [h1]; rfl) 37 rfl ?_
    refine am_xn 1 (c1 := (38, [.ref 0, .int (zi c), .int (zi w)], [.int (zi c)], M)) rfl ?_
    exact am_xr (some (.int (zi c))) ⟨rfl, rfl, .int, rfl, rfl⟩ hv
  replace hv := hv.2
  by_cases h2 : w = 2
  · replace hv := hv.1 h2
    refine am_xswt rfl 2 (by rw [h2]; rfl) 39 rfl ?_
    refine am_xn 3 (c1 := (44, [.ref 0, .int (zi c), .int (zi w)], [.int (zi c), .ref 15], M)) rfl ?_
    obtain ⟨g, hv⟩ := hv
    refine am_xc t_Law_length (.invokevirtual 175) 175 (av := [.ref 15, .int (zi c)]) (rest := []) (rv := some (.int (zi (iv M 21 c)))) (M' := M) rfl rfl rfl rfl (Nat.le_of_ble_eq_true rfl) (fun _ => rfl) (sp_l15_length M c g) ?_
    refine am_xn 0 (c1 := (47, [.ref 0, .int (zi c), .int (zi w)], [.int (zi (iv M 21 c))], M)) rfl ?_
    exact am_xr (some (.int (zi (iv M 21 c)))) ⟨rfl, rfl, .int, rfl, rfl⟩ hv
  replace hv := hv.2
  replace hv := hv h0 h1 h2
  refine am_xswd rfl r1 (by omega) 48 rfl ?_
  refine am_xn 3 (c1 := (53, [.ref 0, .int (zi c), .int (zi w)], [.int (zi c), .ref 15], M)) rfl ?_
  obtain ⟨g, hv⟩ := hv
  refine am_xc t_Law_lastDay (.invokevirtual 178) 178 (av := [.ref 15, .int (zi c)]) (rest := []) (rv := some (.int (zi (iv M 19 c)))) (M' := M) rfl rfl rfl rfl (Nat.le_of_ble_eq_true rfl) (fun _ => rfl) (sp_l15_lastDay M c g) ?_
  refine am_xn 0 (c1 := (56, [.ref 0, .int (zi c), .int (zi w)], [.int (zi (iv M 19 c))], M)) rfl ?_
  exact am_xr (some (.int (zi (iv M 19 c)))) ⟨rfl, rfl, .int, rfl, rfl⟩ hv
set_option maxRecDepth 100000 in
theorem vc_about (c : Int) (w : Int) (M : am_M) (Q : Option Value → am_M → Prop) (hv : zr w ∧ ((w = 0 → (0 ≤ c ∧ c < 40) ∧ (Q (some (.int (zi (iv M 65 c)))) M)) ∧ (¬ w = 0 → (w = 1 → Q (some (.int (zi c))) M) ∧ (¬ w = 1 → (w = 2 → (0 ≤ c ∧ c < 40) ∧ (Q (some (.int (zi (iv M 66 c)))) M)) ∧ (¬ w = 2 → (0 ≤ c ∧ c < 40) ∧ (Q (some (.int (zi (iv M 68 c)))) M)))))) : am_x t_Mo_about (0, am_ent (am_mL t_Mo_about) [.ref 58, .int (zi c), .int (zi w)], [], M) Q := by
  refine am_xn 0 (c1 := (0, [.ref 58, .int (zi c), .int (zi w)], [], M)) rfl ?_
  obtain ⟨r1, hv⟩ := hv
  refine am_xn 2 (c1 := (if zi w = zi 0 then 4 else 13, [.ref 58, .int (zi c), .int (zi w)], [], M)) rfl (am_xeq r1 (by decide) (fun h => ?_) (fun h => ?_))
  · replace hv := hv.1 h
    obtain ⟨r2, hv⟩ := hv
    refine am_xn 3 (c1 := (9, [.ref 58, .int (zi c), .int (zi w)], [.int (zi c), .ref 65], M)) rfl ?_
    refine am_xald rfl rfl rfl r2 ?_
    refine am_xn 0 (c1 := (10, [.ref 58, .int (zi c), .int (zi w)], [.int (zi (iv M 65 c))], M)) rfl ?_
    refine am_xn 1 (c1 := (42, [.ref 58, .int (zi c), .int (zi w)], [.int (zi (iv M 65 c))], M)) rfl ?_
    exact am_xr (some (.int (zi (iv M 65 c)))) ⟨rfl, rfl, .int, rfl, rfl⟩ hv
  · replace hv := hv.2 h
    refine am_xn 3 (c1 := (if zi w = zi 1 then 18 else 22, [.ref 58, .int (zi c), .int (zi w)], [], M)) rfl (am_xeq r1 (by decide) (fun h => ?_) (fun h => ?_))
    · replace hv := hv.1 h
      refine am_xn 2 (c1 := (42, [.ref 58, .int (zi c), .int (zi w)], [.int (zi c)], M)) rfl ?_
      exact am_xr (some (.int (zi c))) ⟨rfl, rfl, .int, rfl, rfl⟩ hv
    · replace hv := hv.2 h
      refine am_xn 3 (c1 := (if zi w = zi 2 then 27 else 36, [.ref 58, .int (zi c), .int (zi w)], [], M)) rfl (am_xeq r1 (by decide) (fun h => ?_) (fun h => ?_))
      · replace hv := hv.1 h
        obtain ⟨r3, hv⟩ := hv
        refine am_xn 3 (c1 := (32, [.ref 58, .int (zi c), .int (zi w)], [.int (zi c), .ref 66], M)) rfl ?_
        refine am_xald rfl rfl rfl r3 ?_
        refine am_xn 0 (c1 := (33, [.ref 58, .int (zi c), .int (zi w)], [.int (zi (iv M 66 c))], M)) rfl ?_
        refine am_xn 1 (c1 := (42, [.ref 58, .int (zi c), .int (zi w)], [.int (zi (iv M 66 c))], M)) rfl ?_
        exact am_xr (some (.int (zi (iv M 66 c)))) ⟨rfl, rfl, .int, rfl, rfl⟩ hv
      · replace hv := hv.2 h
        obtain ⟨r4, hv⟩ := hv
        refine am_xn 3 (c1 := (41, [.ref 58, .int (zi c), .int (zi w)], [.int (zi c), .ref 68], M)) rfl ?_
        refine am_xald rfl rfl rfl r4 ?_
        refine am_xn 0 (c1 := (42, [.ref 58, .int (zi c), .int (zi w)], [.int (zi (iv M 68 c))], M)) rfl ?_
        exact am_xr (some (.int (zi (iv M 68 c)))) ⟨rfl, rfl, .int, rfl, rfl⟩ hv
set_option maxRecDepth 100000 in
theorem vc_presentWord (c : Int) (k : Int) (M : am_M) (Q : Option Value → am_M → Prop) (hv : (0 ≤ c ∧ c < 40 ∧ 0 ≤ k ∧ k < 6) ∧ (((iv M 23 (c * 6 + k)) < 1000 → Q (some (.int (zi (iv M 23 (c * 6 + k))))) M) ∧ (1000 ≤ (iv M 23 (c * 6 + k)) → (0 ≤ ((iv M 23 (c * 6 + k)) - 1000) ∧ ((iv M 23 (c * 6 + k)) - 1000) < 40) ∧ (((iv M 17 ((iv M 23 (c * 6 + k)) - 1000)) = 0 → Q (some (.int (zi (-5)))) M) ∧ (¬ (iv M 17 ((iv M 23 (c * 6 + k)) - 1000)) = 0 → Q (some (.int (zi (1000 + (iv M 17 ((iv M 23 (c * 6 + k)) - 1000)))))) M))))) : am_x t_SB_presentWord (0, am_ent (am_mL t_SB_presentWord) [.ref 0, .int (zi c), .int (zi k)], [], M) Q := by
  refine am_xn 0 (c1 := (0, [.ref 0, .int (zi c), .int (zi k), .null, .null], [], M)) rfl ?_
  refine am_xn 4 (c1 := (6, [.ref 0, .int (zi c), .int (zi k), .null, .null], [.int (zi k), .int (zi c), .ref 15], M)) rfl ?_
  obtain ⟨g, hv⟩ := hv
  refine am_xc t_Law_said (.invokevirtual 184) 184 (av := [.ref 15, .int (zi c), .int (zi k)]) (rest := []) (rv := some (.int (zi (iv M 23 (c * 6 + k))))) (M' := M) rfl rfl rfl rfl (Nat.le_of_ble_eq_true rfl) (fun _ => rfl) (sp_l15_said M c k g) ?_
  refine am_xn 0 (c1 := (9, [.ref 0, .int (zi c), .int (zi k), .null, .null], [.int (zi (iv M 23 (c * 6 + k)))], M)) rfl ?_
  refine am_xn 4 (c1 := (if zi (iv M 23 (c * 6 + k)) < zi 1000 then 17 else 19, [.ref 0, .int (zi c), .int (zi k), .int (zi (iv M 23 (c * 6 + k))), .null], [], M)) rfl (am_xlt (iv_r _ _ _) (by decide) (fun h => ?_) (fun h => ?_))
  · replace hv := hv.1 h
    refine am_xn 1 (c1 := (18, [.ref 0, .int (zi c), .int (zi k), .int (zi (iv M 23 (c * 6 + k))), .null], [.int (zi (iv M 23 (c * 6 + k)))], M)) rfl ?_
    exact am_xr (some (.int (zi (iv M 23 (c * 6 + k))))) ⟨rfl, rfl, .int, rfl, rfl⟩ hv
  · replace hv := hv.2 h
    refine am_xisub 5 (iv M 23 (c * 6 + k)) 1000 (pc := 28) (ls := [.ref 0, .int (zi c), .int (zi k), .int (zi (iv M 23 (c * 6 + k))), .null]) (st := [.ref 15]) rfl ?_
    obtain ⟨g, hv⟩ := hv
    refine am_xc t_Law_code (.invokevirtual 172) 172 (av := [.ref 15, .int (zi ((iv M 23 (c * 6 + k)) - 1000))]) (rest := []) (rv := some (.int (zi (iv M 17 ((iv M 23 (c * 6 + k)) - 1000))))) (M' := M) rfl rfl rfl rfl (Nat.le_of_ble_eq_true rfl) (fun _ => rfl) (sp_l15_code M ((iv M 23 (c * 6 + k)) - 1000) g) ?_
    refine am_xn 0 (c1 := (31, [.ref 0, .int (zi c), .int (zi k), .int (zi (iv M 23 (c * 6 + k))), .null], [.int (zi (iv M 17 ((iv M 23 (c * 6 + k)) - 1000)))], M)) rfl ?_
    refine am_xn 3 (c1 := (if zi (iv M 17 ((iv M 23 (c * 6 + k)) - 1000)) = zi 0 then 38 else 43, [.ref 0, .int (zi c), .int (zi k), .int (zi (iv M 23 (c * 6 + k))), .int (zi (iv M 17 ((iv M 23 (c * 6 + k)) - 1000)))], [], M)) rfl (am_xeq (iv_r _ _ _) (by decide) (fun h => ?_) (fun h => ?_))
    · replace hv := hv.1 h
      refine am_xn 2 (c1 := (49, [.ref 0, .int (zi c), .int (zi k), .int (zi (iv M 23 (c * 6 + k))), .int (zi (iv M 17 ((iv M 23 (c * 6 + k)) - 1000)))], [.int (zi (-5))], M)) rfl ?_
      exact am_xr (some (.int (zi (-5)))) ⟨rfl, rfl, .int, rfl, rfl⟩ hv
    · replace hv := hv.2 h
      refine am_xiadd 3 1000 (iv M 17 ((iv M 23 (c * 6 + k)) - 1000)) (pc := 49) (ls := [.ref 0, .int (zi c), .int (zi k), .int (zi (iv M 23 (c * 6 + k))), .int (zi (iv M 17 ((iv M 23 (c * 6 + k)) - 1000)))]) (st := []) rfl ?_
      exact am_xr (some (.int (zi (1000 + (iv M 17 ((iv M 23 (c * 6 + k)) - 1000)))))) ⟨rfl, rfl, .int, rfl, rfl⟩ hv
set_option maxRecDepth 100000 in
theorem vc_l15_indexOf (x : Int) (M : am_M) (Q : Option Value → am_M → Prop) (hv : am_x t_Law_indexOf (2, [.ref 15, .int (zi x), .int (zi 0)], [], M) Q) : am_x t_Law_indexOf (0, am_ent (am_mL t_Law_indexOf) [.ref 15, .int (zi x)], [], M) Q := by
  refine am_xn 0 (c1 := (0, [.ref 15, .int (zi x), .null], [], M)) rfl ?_
  refine am_xn 2 (c1 := (2, [.ref 15, .int (zi x), .int (zi 0)], [], M)) rfl ?_
  exact hv
set_option maxRecDepth 100000 in
theorem vc_l15_indexOf_2 (x1 : Int) (x2 : Int) (M : am_M) (Q : Option Value → am_M → Prop) (hv : zr x2 ∧ ((x2 < (iv M 15 9) → (0 ≤ x2 ∧ x2 < 40) ∧ ((0 ≤ (iv M 25 x2) ∧ (iv M 25 x2) < 40) ∧ (zr x1 ∧ (((iv M 17 (iv M 25 x2)) = x1 → Q (some (.int (zi x2))) M) ∧ (¬ (iv M 17 (iv M 25 x2)) = x1 → am_x t_Law_indexOf (2, [.ref 15, .int (zi x1), .int (zi (x2 + 1))], [], M) Q))))) ∧ ((iv M 15 9) ≤ x2 → Q (some (.int (zi (-1)))) M))) : am_x t_Law_indexOf (2, [.ref 15, .int (zi x1), .int (zi x2)], [], M) Q := by
  refine am_xrd 3 15 9 (pc := 7) (ls := [.ref 15, .int (zi x1), .int (zi x2)]) (st := [.int (zi x2)]) rfl ?_
  obtain ⟨r1, hv⟩ := hv
  refine am_xn 1 (c1 := (if zi x2 < zi (iv M 15 9) then 10 else 31, [.ref 15, .int (zi x1), .int (zi x2)], [], M)) rfl (am_xlt r1 (iv_r _ _ _) (fun h => ?_) (fun h => ?_))
  · replace hv := hv.1 h
    refine am_xn 3 (c1 := (13, [.ref 15, .int (zi x1), .int (zi x2)], [.int (zi x2), .ref 15, .ref 15], M)) rfl ?_
    obtain ⟨g, hv⟩ := hv
    refine am_xc t_Law_at (.invokevirtual 120) 120 (av := [.ref 15, .int (zi x2)]) (rest := [.ref 15]) (rv := some (.int (zi (iv M 25 x2)))) (M' := M) rfl rfl rfl rfl (Nat.le_of_ble_eq_true rfl) (fun _ => rfl) (sp_l15_at M x2 g) ?_
    refine am_xn 0 (c1 := (16, [.ref 15, .int (zi x1), .int (zi x2)], [.int (zi (iv M 25 x2)), .ref 15], M)) rfl ?_
    obtain ⟨g, hv⟩ := hv
    refine am_xc t_Law_code (.invokevirtual 123) 123 (av := [.ref 15, .int (zi (iv M 25 x2))]) (rest := []) (rv := some (.int (zi (iv M 17 (iv M 25 x2))))) (M' := M) rfl rfl rfl rfl (Nat.le_of_ble_eq_true rfl) (fun _ => rfl) (sp_l15_code M (iv M 25 x2) g) ?_
    refine am_xn 0 (c1 := (19, [.ref 15, .int (zi x1), .int (zi x2)], [.int (zi (iv M 17 (iv M 25 x2)))], M)) rfl ?_
    obtain ⟨r2, hv⟩ := hv
    refine am_xn 2 (c1 := (if zi (iv M 17 (iv M 25 x2)) = zi x1 then 23 else 25, [.ref 15, .int (zi x1), .int (zi x2)], [], M)) rfl (am_xeq (iv_r _ _ _) r2 (fun h => ?_) (fun h => ?_))
    · replace hv := hv.1 h
      refine am_xn 1 (c1 := (24, [.ref 15, .int (zi x1), .int (zi x2)], [.int (zi x2)], M)) rfl ?_
      exact am_xr (some (.int (zi x2))) ⟨rfl, rfl, .int, rfl, rfl⟩ hv
    · replace hv := hv.2 h
      refine am_xn 1 (c1 := (28, [.ref 15, .int (zi x1), .int (zi x2 + zi 1)], [], M)) rfl ?_
      rw [zi_add]
      refine am_xn 1 (c1 := (2, [.ref 15, .int (zi x1), .int (zi (x2 + 1))], [], M)) rfl ?_
      exact hv
  · replace hv := hv.2 h
    refine am_xn 1 (c1 := (32, [.ref 15, .int (zi x1), .int (zi x2)], [.int (zi (-1))], M)) rfl ?_
    exact am_xr (some (.int (zi (-1)))) ⟨rfl, rfl, .int, rfl, rfl⟩ hv
set_option maxRecDepth 100000 in
theorem vc_l15_clausesWith (x : Int) (M : am_M) (Q : Option Value → am_M → Prop) (hv : am_x t_Law_clausesWith (4, [.ref 15, .int (zi x), .int (zi 0), .int (zi 0)], [], M) Q) : am_x t_Law_clausesWith (0, am_ent (am_mL t_Law_clausesWith) [.ref 15, .int (zi x)], [], M) Q := by
  refine am_xn 0 (c1 := (0, [.ref 15, .int (zi x), .null, .null], [], M)) rfl ?_
  refine am_xn 4 (c1 := (4, [.ref 15, .int (zi x), .int (zi 0), .int (zi 0)], [], M)) rfl ?_
  exact hv
set_option maxRecDepth 100000 in
theorem vc_l15_clausesWith_4 (x1 : Int) (x2 : Int) (x3 : Int) (M : am_M) (Q : Option Value → am_M → Prop) (hv : zr x3 ∧ ((x3 < (iv M 15 9) → (0 ≤ x3 ∧ x3 < 40) ∧ (∃ (r3 : Int) (M2 : am_M), am_call t_Law_contains [.ref 15, .int (zi (iv M 25 x3)), .int (zi x1)] M (some (.int (zi r3))) M2 ∧ (zr r3 ∧ ((r3 = 0 → am_x t_Law_clausesWith (4, [.ref 15, .int (zi x1), .int (zi x2), .int (zi (x3 + 1))], [], M2) Q) ∧ (¬ r3 = 0 → am_x t_Law_clausesWith (4, [.ref 15, .int (zi x1), .int (zi (x2 + 1)), .int (zi (x3 + 1))], [], M2) Q))))) ∧ ((iv M 15 9) ≤ x3 → Q (some (.int (zi x2))) M))) : am_x t_Law_clausesWith (4, [.ref 15, .int (zi x1), .int (zi x2), .int (zi x3)], [], M) Q := by
  refine am_xrd 3 15 9 (pc := 9) (ls := [.ref 15, .int (zi x1), .int (zi x2), .int (zi x3)]) (st := [.int (zi x3)]) rfl ?_
  obtain ⟨r1, hv⟩ := hv
  refine am_xn 1 (c1 := (if zi x3 < zi (iv M 15 9) then 12 else 34, [.ref 15, .int (zi x1), .int (zi x2), .int (zi x3)], [], M)) rfl (am_xlt r1 (iv_r _ _ _) (fun h => ?_) (fun h => ?_))
  · replace hv := hv.1 h
    refine am_xn 3 (c1 := (15, [.ref 15, .int (zi x1), .int (zi x2), .int (zi x3)], [.int (zi x3), .ref 15, .ref 15], M)) rfl ?_
    obtain ⟨g, hv⟩ := hv
    refine am_xc t_Law_at (.invokevirtual 120) 120 (av := [.ref 15, .int (zi x3)]) (rest := [.ref 15]) (rv := some (.int (zi (iv M 25 x3)))) (M' := M) rfl rfl rfl rfl (Nat.le_of_ble_eq_true rfl) (fun _ => rfl) (sp_l15_at M x3 g) ?_
    refine am_xn 0 (c1 := (18, [.ref 15, .int (zi x1), .int (zi x2), .int (zi x3)], [.int (zi (iv M 25 x3)), .ref 15], M)) rfl ?_
    refine am_xn 1 (c1 := (19, [.ref 15, .int (zi x1), .int (zi x2), .int (zi x3)], [.int (zi x1), .int (zi (iv M 25 x3)), .ref 15], M)) rfl ?_
    obtain ⟨r3, M2, hc, hv⟩ := hv
    refine am_xc t_Law_contains (.invokevirtual 100) 100 (av := [.ref 15, .int (zi (iv M 25 x3)), .int (zi x1)]) (rest := []) (rv := some (.int (zi r3))) (M' := M2) rfl rfl rfl rfl (Nat.le_of_ble_eq_true rfl) (fun _ => rfl) (hc) ?_
    refine am_xn 0 (c1 := (22, [.ref 15, .int (zi x1), .int (zi x2), .int (zi x3)], [.int (zi r3)], M2)) rfl ?_
    obtain ⟨r4, hv⟩ := hv
    refine am_xn 1 (c1 := (if zi r3 = zi 0 then 28 else 25, [.ref 15, .int (zi x1), .int (zi x2), .int (zi x3)], [], M2)) rfl (am_xeq r4 (by decide) (fun h => ?_) (fun h => ?_))
    · replace hv := hv.1 h
      refine am_xn 1 (c1 := (31, [.ref 15, .int (zi x1), .int (zi x2), .int (zi x3 + zi 1)], [], M2)) rfl ?_
      rw [zi_add]
      refine am_xn 1 (c1 := (4, [.ref 15, .int (zi x1), .int (zi x2), .int (zi (x3 + 1))], [], M2)) rfl ?_
      exact hv
    · replace hv := hv.2 h
      refine am_xn 1 (c1 := (28, [.ref 15, .int (zi x1), .int (zi x2 + zi 1), .int (zi x3)], [], M2)) rfl ?_
      rw [zi_add]
      refine am_xn 1 (c1 := (31, [.ref 15, .int (zi x1), .int (zi (x2 + 1)), .int (zi x3 + zi 1)], [], M2)) rfl ?_
      rw [zi_add]
      refine am_xn 1 (c1 := (4, [.ref 15, .int (zi x1), .int (zi (x2 + 1)), .int (zi (x3 + 1))], [], M2)) rfl ?_
      exact hv
  · replace hv := hv.2 h
    refine am_xn 1 (c1 := (35, [.ref 15, .int (zi x1), .int (zi x2), .int (zi x3)], [.int (zi x2)], M)) rfl ?_
    exact am_xr (some (.int (zi x2))) ⟨rfl, rfl, .int, rfl, rfl⟩ hv
def abt (L : Lw) (c w : Int) : Int := if w = 0 then L.code c else if w = 1 then c else if w = 2 then L.len c else L.lst c
theorem sp_clausePart {L : Lw} {M : am_M} (r : CLR15 L M) {c w : Int} (c0 : 0 ≤ c) (c1 : c < 40) (n : ¬ L.code c = 0) (wz : zr w) : am_call t_SB_clausePart [.ref 0, .int (zi c), .int (zi w)] M (some (.int (zi (abt L c w)))) M := by
  obtain ⟨e2, e3, _⟩ := r.2.1 c c0 c1 n
  have e1 := r.1 c c0 c1
  refine am_call_of ⟨Nat.le_of_ble_eq_true rfl, rfl⟩ (vc_clausePart c w M _ ⟨wz, fun h => ⟨⟨c0, c1⟩, ?_, rfl⟩, fun h => ⟨?_, rfl⟩, fun h => ⟨⟨c0, c1⟩, ?_, rfl⟩, fun h h' h'' => ⟨⟨c0, c1⟩, ?_, rfl⟩⟩)
  · rw [e1, abt, if_pos h]
  · rw [abt, if_neg (by omega), if_pos h]
  · rw [e2, abt, if_neg (by omega), if_neg (by omega), if_pos h]
  · rw [e3, abt, if_neg h, if_neg h', if_neg h'']
theorem sp_about {L : Lw} {M : am_M} (r : MLR L M) {c w : Int} (c0 : 0 ≤ c) (c1 : c < 40) (n : ¬ L.code c = 0) (wz : zr w) : am_call t_Mo_about [.ref 58, .int (zi c), .int (zi w)] M (some (.int (zi (abt L c w)))) M := by
  obtain ⟨e1, e2, e3, _⟩ := r.2.1 c c0 c1 n
  refine am_call_of ⟨Nat.le_of_ble_eq_true rfl, rfl⟩ (vc_about c w M _ ⟨wz, fun h => ⟨⟨c0, c1⟩, ?_, rfl⟩, fun h => ⟨fun h' => ⟨?_, rfl⟩, fun h' => ⟨fun h'' => ⟨⟨c0, c1⟩, ?_, rfl⟩, fun h'' => ⟨⟨c0, c1⟩, ?_, rfl⟩⟩⟩⟩)
  · rw [e1, abt, if_pos h]
  · rw [abt, if_neg h, if_pos h']
  · rw [e2, abt, if_neg h, if_neg h', if_pos h'']
  · rw [e3, abt, if_neg h, if_neg h', if_neg h'']
theorem sp_presentWord {L : Lw} {M : am_M} (v : VL L) (r : CLR15 L M) {c k : Int} (c0 : 0 ≤ c) (c1 : c < 40) (n : ¬ L.code c = 0) (k0 : 0 ≤ k) (k1 : k < L.len c) : am_call t_SB_presentWord [.ref 0, .int (zi c), .int (zi k)] M (some (.int (zi (tw L c k)))) M := by
  have ln := v.ln c c0 c1 n
  have e := (r.2.1 c c0 c1 n).2.2 k k0 k1
  have wt := v.wt c k c0 c1 n k0 k1
  refine am_call_of ⟨Nat.le_of_ble_eq_true rfl, rfl⟩ (vc_presentWord c k M _ ⟨⟨c0, c1, k0, by omega⟩, ?_⟩)
  rw [e]
  refine ⟨fun q => ⟨by rw [tw, if_pos q], rfl⟩, fun q => ⟨⟨by omega, by omega⟩, ?_⟩⟩
  rw [r.1 _ (by omega) (by omega)]
  exact ⟨fun z => ⟨by rw [tw, if_neg (by omega), if_pos z], rfl⟩, fun z => ⟨by rw [tw, if_neg (by omega), if_neg z], rfl⟩⟩
theorem sp_l15_indexOf {L : Lw} {M : am_M} (v : VL L) (r : CLR15 L M) (od : ORD L (iv M 25) 40 (iv M 15 9)) {x : Int} (hx : ¬ x = 0) (xz : zr x) : am_call t_Law_indexOf [.ref 15, .int (zi x)] M (some (.int (zi (if hold L x = -1 then -1 else rank L (hold L x))))) M := by
  have n40 := frc40 L
  have en := od.1
  refine am_call_of ⟨Nat.le_of_ble_eq_true rfl, rfl⟩ (vc_l15_indexOf x M _ ?_)
  refine loop_up (fun i (s : Int) => (2, [.ref 15, .int (zi x), .int (zi i)], [], M)) (iv M 15 9) (fun i s => ∀ j, 0 ≤ j → j < i → ¬ L.code (iv M 25 j) = x) ?_ ?_ 0 0 (by omega) (by omega) (fun j j0 j1 => by omega)
  · intro s hs
    refine vc_l15_indexOf_2 _ _ M _ ⟨iv_r _ _ _, fun h => by omega, fun _ => ⟨?_, rfl⟩⟩
    have : hold L x = -1 := by
      by_cases q : hold L x = -1
      · exact q
      · have hc := hold_cd q
        obtain ⟨j, j0, j1, j2⟩ := od.2.2.2 _ hc.1 hc.2.1 (by rw [hc.2.2]; exact hx)
        exact absurd (by rw [j2]; exact hc.2.2) (hs j j0 j1)
    rw [if_pos this]
  · intro i s i0 i1 hs k
    have oi := od.2.1 i i0 i1
    refine vc_l15_indexOf_2 _ _ M _ ⟨⟨by omega, by omega⟩, fun _ => ⟨⟨i0, by omega⟩, ⟨oi.1, oi.2.1⟩, xz, ?_⟩, fun h => by omega⟩
    rw [r.1 _ oi.1 oi.2.1]
    refine ⟨fun q => ⟨?_, rfl⟩, fun q => k s (fun j j0 j1 => ?_)⟩
    · have e := hold_eq v hx (Or.inr ⟨oi.1, oi.2.1, q⟩)
      rw [← e, if_neg (by omega), rank_ord od i0 i1]
    · by_cases e : j = i
      · rw [e]; exact q
      · exact hs j j0 (by omega)
theorem sp_l15_clausesWith {L : Lw} {M : am_M} (v : VL L) (r : CLR15 L M) (od : ORD L (iv M 25) 40 (iv M 15 9)) {x : Int} (xz : zr x) : am_call t_Law_clausesWith [.ref 15, .int (zi x)] M (some (.int (zi (wwd L x)))) M := by
  have n40 := frc40 L
  have en := od.1
  have es : wwd L x = sm (fun j => bz (has L (iv M 25 j) x)) (iv M 15 9) := by
    unfold wwd
    rw [sum_ord od (by omega) _ (fun c _ _ q => if_pos q)]
    exact sm_congr (fun j j0 j1 => if_neg (od.2.1 j j0 j1).2.2)
  refine am_call_of ⟨Nat.le_of_ble_eq_true rfl, rfl⟩ (vc_l15_clausesWith x M _ ?_)
  refine loop_up (fun i (s : Int) => (4, [.ref 15, .int (zi x), .int (zi s), .int (zi i)], [], M)) (iv M 15 9) (fun i s => s = sm (fun j => bz (has L (iv M 25 j) x)) i) ?_ ?_ 0 0 (by omega) (by omega) rfl
  · intro s hs
    exact vc_l15_clausesWith_4 _ _ _ M _ ⟨iv_r _ _ _, fun h => by omega, fun _ => ⟨by rw [es, hs], rfl⟩⟩
  · intro i s i0 i1 hs k
    have oi := od.2.1 i i0 i1
    have e := sm_s (fun j => bz (has L (iv M 25 j) x)) i0
    refine vc_l15_clausesWith_4 _ _ _ M _ ⟨⟨by omega, by omega⟩, fun _ => ⟨⟨i0, by omega⟩, _, M, sp_l15_contains v r oi.1 oi.2.1 oi.2.2 xz, ?_, fun q => k _ ?_, fun q => k _ ?_⟩, fun h => by omega⟩
    · rcases bz_01 (has L (iv M 25 i) x) with q | q <;> (rw [q]; decide)
    · rw [e, hs, q]; omega
    · rcases bz_01 (has L (iv M 25 i) x) with q2 | q2
      · exact absurd q2 q
      · rw [e, hs, q2]
set_option maxRecDepth 100000 in
theorem vc_c_clauses (d : Int) (e : Int) (M : am_M) (Q : Option Value → am_M → Prop) (hv : (zr d ∧ zr e) ∧ (((0 ≤ d ∧ d ≤ 9999) ∧ (e = -1 ∨ (0 ≤ e ∧ e ≤ 9999)) → ∃ M1, am_call t_SB_consolidate [.ref 0, .int (zi d), .int (zi e)] M none M1 ∧ (Q (some (.int (zi (iv M1 15 9)))) M1)) ∧ (¬ ((0 ≤ d ∧ d ≤ 9999) ∧ (e = -1 ∨ (0 ≤ e ∧ e ≤ 9999))) → Q (some (.int (zi (-2)))) M))) : am_x t_SB_clauses (0, am_ent (am_mL t_SB_clauses) [.ref 0, .int (zi d), .int (zi e)], [], M) Q := by
  refine am_xn 0 (c1 := (0, [.ref 0, .int (zi d), .int (zi e)], [], M)) rfl ?_
  refine am_xn 2 (c1 := (2, [.ref 0, .int (zi d), .int (zi e)], [.int (zi e), .int (zi d)], M)) rfl ?_
  obtain ⟨g, hv⟩ := hv
  by_cases c2 : (0 ≤ d ∧ d ≤ 9999) ∧ (e = -1 ∨ (0 ≤ e ∧ e ≤ 9999))
  · replace hv := hv.1 c2
    refine am_xc t_SB_isLaw (.invokestatic 159) 159 (av := [.int (zi d), .int (zi e)]) (rest := []) (rv := some (.int (zi 1))) (M' := M) rfl rfl rfl rfl (Nat.le_of_ble_eq_true rfl) (fun h => nomatch h) (by have q := sp_isLaw M d e g; rwa [if_pos c2] at q) ?_
    refine am_xn 0 (c1 := (5, [.ref 0, .int (zi d), .int (zi e)], [.int (zi 1)], M)) rfl ?_
    refine am_xn 4 (c1 := (14, [.ref 0, .int (zi d), .int (zi e)], [.int (zi e), .int (zi d), .ref 0], M)) rfl ?_
    obtain ⟨M1, hc, hv⟩ := hv
    refine am_xc t_SB_consolidate (.invokevirtual 162) 162 (av := [.ref 0, .int (zi d), .int (zi e)]) (rest := []) (rv := none) (M' := M1) rfl rfl rfl rfl (Nat.le_of_ble_eq_true rfl) (fun _ => rfl) (hc) ?_
    refine am_xn 0 (c1 := (17, [.ref 0, .int (zi d), .int (zi e)], [], M1)) rfl ?_
    refine am_xn 2 (c1 := (21, [.ref 0, .int (zi d), .int (zi e)], [.ref 15], M1)) rfl ?_
    refine am_xc t_Law_size (.invokevirtual 165) 165 (av := [.ref 15]) (rest := []) (rv := some (.int (zi (iv M1 15 9)))) (M' := M1) rfl rfl rfl rfl (Nat.le_of_ble_eq_true rfl) (fun _ => rfl) (sp_l15_size M1) ?_
    refine am_xn 0 (c1 := (24, [.ref 0, .int (zi d), .int (zi e)], [.int (zi (iv M1 15 9))], M1)) rfl ?_
    exact am_xr (some (.int (zi (iv M1 15 9)))) ⟨rfl, rfl, .int, rfl, rfl⟩ hv
  · replace hv := hv.2 c2
    refine am_xc t_SB_isLaw (.invokestatic 159) 159 (av := [.int (zi d), .int (zi e)]) (rest := []) (rv := some (.int (zi 0))) (M' := M) rfl rfl rfl rfl (Nat.le_of_ble_eq_true rfl) (fun h => nomatch h) (by have q := sp_isLaw M d e g; rwa [if_neg c2] at q) ?_
    refine am_xn 0 (c1 := (5, [.ref 0, .int (zi d), .int (zi e)], [.int (zi 0)], M)) rfl ?_
    refine am_xn 2 (c1 := (10, [.ref 0, .int (zi d), .int (zi e)], [.int (zi (-2))], M)) rfl ?_
    exact am_xr (some (.int (zi (-2)))) ⟨rfl, rfl, .int, rfl, rfl⟩ hv
set_option maxRecDepth 100000 in
theorem vc_m_clauses (d : Int) (e : Int) (M : am_M) (Q : Option Value → am_M → Prop) (hv : (zr d) ∧ ((0 ≤ d ∧ d ≤ 9999 → (zr e) ∧ ((e = -1 ∨ (0 ≤ e ∧ e ≤ 9999) → ∃ M1, am_call t_Mo_laws [.ref 58, .int (zi d), .int (zi e)] M none M1 ∧ (∃ (r3 : Int) (M2 : am_M), am_call t_Mo_inForce [.ref 58] M1 (some (.int (zi r3))) M2 ∧ (Q (some (.int (zi r3))) M2))) ∧ (¬ (e = -1 ∨ (0 ≤ e ∧ e ≤ 9999)) → Q (some (.int (zi (-2)))) M))) ∧ (¬ (0 ≤ d ∧ d ≤ 9999) → Q (some (.int (zi (-2)))) M))) : am_x t_Mo_clauses (0, am_ent (am_mL t_Mo_clauses) [.ref 58, .int (zi d), .int (zi e)], [], M) Q := by
  refine am_xn 0 (c1 := (0, [.ref 58, .int (zi d), .int (zi e)], [], M)) rfl ?_
  refine am_xn 1 (c1 := (1, [.ref 58, .int (zi d), .int (zi e)], [.int (zi d)], M)) rfl ?_
  obtain ⟨g, hv⟩ := hv
  by_cases c5 : 0 ≤ d ∧ d ≤ 9999
  · replace hv := hv.1 c5
    refine am_xc t_Mo_isDay (.invokestatic 80) 80 (av := [.int (zi d)]) (rest := []) (rv := some (.int (zi 1))) (M' := M) rfl rfl rfl rfl (Nat.le_of_ble_eq_true rfl) (fun h => nomatch h) (by have q := sp_isDay M d g; rwa [if_pos c5] at q) ?_
    refine am_xn 0 (c1 := (4, [.ref 58, .int (zi d), .int (zi e)], [.int (zi 1)], M)) rfl ?_
    refine am_xn 2 (c1 := (8, [.ref 58, .int (zi d), .int (zi e)], [.int (zi e)], M)) rfl ?_
    obtain ⟨g, hv⟩ := hv
    by_cases c4 : e = -1 ∨ (0 ≤ e ∧ e ≤ 9999)
    · replace hv := hv.1 c4
      refine am_xc t_Mo_isCase (.invokestatic 254) 254 (av := [.int (zi e)]) (rest := []) (rv := some (.int (zi 1))) (M' := M) rfl rfl rfl rfl (Nat.le_of_ble_eq_true rfl) (fun h => nomatch h) (by have q := sp_isCase M e g; rwa [if_pos c4] at q) ?_
      refine am_xn 0 (c1 := (11, [.ref 58, .int (zi d), .int (zi e)], [.int (zi 1)], M)) rfl ?_
      refine am_xn 4 (c1 := (20, [.ref 58, .int (zi d), .int (zi e)], [.int (zi e), .int (zi d), .ref 58], M)) rfl ?_
      obtain ⟨M1, hc, hv⟩ := hv
      refine am_xc t_Mo_laws (.invokevirtual 140) 140 (av := [.ref 58, .int (zi d), .int (zi e)]) (rest := []) (rv := none) (M' := M1) rfl rfl rfl rfl (Nat.le_of_ble_eq_true rfl) (fun _ => rfl) (hc) ?_
      refine am_xn 0 (c1 := (23, [.ref 58, .int (zi d), .int (zi e)], [], M1)) rfl ?_
      refine am_xn 1 (c1 := (24, [.ref 58, .int (zi d), .int (zi e)], [.ref 58], M1)) rfl ?_
      obtain ⟨r3, M2, hc, hv⟩ := hv
      refine am_xc t_Mo_inForce (.invokevirtual 257) 257 (av := [.ref 58]) (rest := []) (rv := some (.int (zi r3))) (M' := M2) rfl rfl rfl rfl (Nat.le_of_ble_eq_true rfl) (fun _ => rfl) (hc) ?_
      refine am_xn 0 (c1 := (27, [.ref 58, .int (zi d), .int (zi e)], [.int (zi r3)], M2)) rfl ?_
      exact am_xr (some (.int (zi r3))) ⟨rfl, rfl, .int, rfl, rfl⟩ hv
    · replace hv := hv.2 c4
      refine am_xc t_Mo_isCase (.invokestatic 254) 254 (av := [.int (zi e)]) (rest := []) (rv := some (.int (zi 0))) (M' := M) rfl rfl rfl rfl (Nat.le_of_ble_eq_true rfl) (fun h => nomatch h) (by have q := sp_isCase M e g; rwa [if_neg c4] at q) ?_
      refine am_xn 0 (c1 := (11, [.ref 58, .int (zi d), .int (zi e)], [.int (zi 0)], M)) rfl ?_
      refine am_xn 2 (c1 := (16, [.ref 58, .int (zi d), .int (zi e)], [.int (zi (-2))], M)) rfl ?_
      exact am_xr (some (.int (zi (-2)))) ⟨rfl, rfl, .int, rfl, rfl⟩ hv
  · replace hv := hv.2 c5
    refine am_xc t_Mo_isDay (.invokestatic 80) 80 (av := [.int (zi d)]) (rest := []) (rv := some (.int (zi 0))) (M' := M) rfl rfl rfl rfl (Nat.le_of_ble_eq_true rfl) (fun h => nomatch h) (by have q := sp_isDay M d g; rwa [if_neg c5] at q) ?_
    refine am_xn 0 (c1 := (4, [.ref 58, .int (zi d), .int (zi e)], [.int (zi 0)], M)) rfl ?_
    refine am_xn 2 (c1 := (16, [.ref 58, .int (zi d), .int (zi e)], [.int (zi (-2))], M)) rfl ?_
    exact am_xr (some (.int (zi (-2)))) ⟨rfl, rfl, .int, rfl, rfl⟩ hv
set_option maxRecDepth 100000 in
theorem vc_c_clause (d : Int) (e : Int) (i : Int) (w : Int) (M : am_M) (Q : Option Value → am_M → Prop) (hv : (zr d ∧ zr e) ∧ (((0 ≤ d ∧ d ≤ 9999) ∧ (e = -1 ∨ (0 ≤ e ∧ e ≤ 9999)) → (zr w ∧ zr (3 : Int)) ∧ ((0 ≤ w ∧ w ≤ 3 → ∃ M1, am_call t_SB_consolidate [.ref 0, .int (zi d), .int (zi e)] M none M1 ∧ (zr i ∧ ((i < 0 → Q (some (.int (zi (-2)))) M1) ∧ (0 ≤ i → (i < (iv M1 15 9) → (0 ≤ i ∧ i < 40) ∧ (∃ (r4 : Int) (M3 : am_M), am_call t_SB_clausePart [.ref 0, .int (zi (iv M1 25 i)), .int (zi w)] M1 (some (.int (zi r4))) M3 ∧ (Q (some (.int (zi r4))) M3))) ∧ ((iv M1 15 9) ≤ i → Q (some (.int (zi (-2)))) M1))))) ∧ (¬ (0 ≤ w ∧ w ≤ 3) → Q (some (.int (zi (-2)))) M))) ∧ (¬ ((0 ≤ d ∧ d ≤ 9999) ∧ (e = -1 ∨ (0 ≤ e ∧ e ≤ 9999))) → Q (some (.int (zi (-2)))) M))) : am_x t_SB_clause (0, am_ent (am_mL t_SB_clause) [.ref 0, .int (zi d), .int (zi e), .int (zi i), .int (zi w)], [], M) Q := by
  refine am_xn 0 (c1 := (0, [.ref 0, .int (zi d), .int (zi e), .int (zi i), .int (zi w)], [], M)) rfl ?_
  refine am_xn 2 (c1 := (2, [.ref 0, .int (zi d), .int (zi e), .int (zi i), .int (zi w)], [.int (zi e), .int (zi d)], M)) rfl ?_
  obtain ⟨g, hv⟩ := hv
  by_cases c6 : (0 ≤ d ∧ d ≤ 9999) ∧ (e = -1 ∨ (0 ≤ e ∧ e ≤ 9999))
  · replace hv := hv.1 c6
    refine am_xc t_SB_isLaw (.invokestatic 159) 159 (av := [.int (zi d), .int (zi e)]) (rest := []) (rv := some (.int (zi 1))) (M' := M) rfl rfl rfl rfl (Nat.le_of_ble_eq_true rfl) (fun h => nomatch h) (by have q := sp_isLaw M d e g; rwa [if_pos c6] at q) ?_
    refine am_xn 0 (c1 := (5, [.ref 0, .int (zi d), .int (zi e), .int (zi i), .int (zi w)], [.int (zi 1)], M)) rfl ?_
    refine am_xn 3 (c1 := (11, [.ref 0, .int (zi d), .int (zi e), .int (zi i), .int (zi w)], [.int (zi 3), .int (zi w)], M)) rfl ?_
    obtain ⟨g, hv⟩ := hv
    by_cases c5 : 0 ≤ w ∧ w ≤ 3
    · replace hv := hv.1 c5
      refine am_xc t_SB_within (.invokestatic 56) 56 (av := [.int (zi w), .int (zi 3)]) (rest := []) (rv := some (.int (zi 1))) (M' := M) rfl rfl rfl rfl (Nat.le_of_ble_eq_true rfl) (fun h => nomatch h) (by have q := sp_within M w 3 g; rwa [if_pos c5] at q) ?_
      refine am_xn 0 (c1 := (14, [.ref 0, .int (zi d), .int (zi e), .int (zi i), .int (zi w)], [.int (zi 1)], M)) rfl ?_
      refine am_xn 4 (c1 := (23, [.ref 0, .int (zi d), .int (zi e), .int (zi i), .int (zi w)], [.int (zi e), .int (zi d), .ref 0], M)) rfl ?_
      obtain ⟨M1, hc, hv⟩ := hv
      refine am_xc t_SB_consolidate (.invokevirtual 162) 162 (av := [.ref 0, .int (zi d), .int (zi e)]) (rest := []) (rv := none) (M' := M1) rfl rfl rfl rfl (Nat.le_of_ble_eq_true rfl) (fun _ => rfl) (hc) ?_
      refine am_xn 0 (c1 := (26, [.ref 0, .int (zi d), .int (zi e), .int (zi i), .int (zi w)], [], M1)) rfl ?_
      obtain ⟨r2, hv⟩ := hv
      refine am_xn 2 (c1 := (if zi i < zi 0 then 41 else 30, [.ref 0, .int (zi d), .int (zi e), .int (zi i), .int (zi w)], [], M1)) rfl (am_xlt r2 (by decide) (fun h => ?_) (fun h => ?_))
      · replace hv := hv.1 h
        refine am_xn 2 (c1 := (60, [.ref 0, .int (zi d), .int (zi e), .int (zi i), .int (zi w)], [.int (zi (-2))], M1)) rfl ?_
        exact am_xr (some (.int (zi (-2)))) ⟨rfl, rfl, .int, rfl, rfl⟩ hv
      · replace hv := hv.2 h
        refine am_xn 3 (c1 := (35, [.ref 0, .int (zi d), .int (zi e), .int (zi i), .int (zi w)], [.ref 15, .int (zi i)], M1)) rfl ?_
        refine am_xc t_Law_size (.invokevirtual 165) 165 (av := [.ref 15]) (rest := [.int (zi i)]) (rv := some (.int (zi (iv M1 15 9)))) (M' := M1) rfl rfl rfl rfl (Nat.le_of_ble_eq_true rfl) (fun _ => rfl) (sp_l15_size M1) ?_
        refine am_xn 0 (c1 := (38, [.ref 0, .int (zi d), .int (zi e), .int (zi i), .int (zi w)], [.int (zi (iv M1 15 9)), .int (zi i)], M1)) rfl ?_
        refine am_xn 1 (c1 := (if zi i < zi (iv M1 15 9) then 46 else 41, [.ref 0, .int (zi d), .int (zi e), .int (zi i), .int (zi w)], [], M1)) rfl (am_xlt r2 (iv_r _ _ _) (fun h => ?_) (fun h => ?_))
        · replace hv := hv.1 h
          refine am_xn 4 (c1 := (52, [.ref 0, .int (zi d), .int (zi e), .int (zi i), .int (zi w)], [.int (zi i), .ref 15, .ref 0], M1)) rfl ?_
          obtain ⟨g, hv⟩ := hv
          refine am_xc t_Law_at (.invokevirtual 166) 166 (av := [.ref 15, .int (zi i)]) (rest := [.ref 0]) (rv := some (.int (zi (iv M1 25 i)))) (M' := M1) rfl rfl rfl rfl (Nat.le_of_ble_eq_true rfl) (fun _ => rfl) (sp_l15_at M1 i g) ?_
          refine am_xn 0 (c1 := (55, [.ref 0, .int (zi d), .int (zi e), .int (zi i), .int (zi w)], [.int (zi (iv M1 25 i)), .ref 0], M1)) rfl ?_
          refine am_xn 1 (c1 := (57, [.ref 0, .int (zi d), .int (zi e), .int (zi i), .int (zi w)], [.int (zi w), .int (zi (iv M1 25 i)), .ref 0], M1)) rfl ?_
          obtain ⟨r4, M3, hc, hv⟩ := hv
          refine am_xc t_SB_clausePart (.invokevirtual 169) 169 (av := [.ref 0, .int (zi (iv M1 25 i)), .int (zi w)]) (rest := []) (rv := some (.int (zi r4))) (M' := M3) rfl rfl rfl rfl (Nat.le_of_ble_eq_true rfl) (fun _ => rfl) (hc) ?_
          refine am_xn 0 (c1 := (60, [.ref 0, .int (zi d), .int (zi e), .int (zi i), .int (zi w)], [.int (zi r4)], M3)) rfl ?_
          exact am_xr (some (.int (zi r4))) ⟨rfl, rfl, .int, rfl, rfl⟩ hv
        · replace hv := hv.2 h
          refine am_xn 2 (c1 := (60, [.ref 0, .int (zi d), .int (zi e), .int (zi i), .int (zi w)], [.int (zi (-2))], M1)) rfl ?_
          exact am_xr (some (.int (zi (-2)))) ⟨rfl, rfl, .int, rfl, rfl⟩ hv
    · replace hv := hv.2 c5
      refine am_xc t_SB_within (.invokestatic 56) 56 (av := [.int (zi w), .int (zi 3)]) (rest := []) (rv := some (.int (zi 0))) (M' := M) rfl rfl rfl rfl (Nat.le_of_ble_eq_true rfl) (fun h => nomatch h) (by have q := sp_within M w 3 g; rwa [if_neg c5] at q) ?_
      refine am_xn 0 (c1 := (14, [.ref 0, .int (zi d), .int (zi e), .int (zi i), .int (zi w)], [.int (zi 0)], M)) rfl ?_
      refine am_xn 2 (c1 := (19, [.ref 0, .int (zi d), .int (zi e), .int (zi i), .int (zi w)], [.int (zi (-2))], M)) rfl ?_
      exact am_xr (some (.int (zi (-2)))) ⟨rfl, rfl, .int, rfl, rfl⟩ hv
  · replace hv := hv.2 c6
    refine am_xc t_SB_isLaw (.invokestatic 159) 159 (av := [.int (zi d), .int (zi e)]) (rest := []) (rv := some (.int (zi 0))) (M' := M) rfl rfl rfl rfl (Nat.le_of_ble_eq_true rfl) (fun h => nomatch h) (by have q := sp_isLaw M d e g; rwa [if_neg c6] at q) ?_
    refine am_xn 0 (c1 := (5, [.ref 0, .int (zi d), .int (zi e), .int (zi i), .int (zi w)], [.int (zi 0)], M)) rfl ?_
    refine am_xn 2 (c1 := (19, [.ref 0, .int (zi d), .int (zi e), .int (zi i), .int (zi w)], [.int (zi (-2))], M)) rfl ?_
    exact am_xr (some (.int (zi (-2)))) ⟨rfl, rfl, .int, rfl, rfl⟩ hv
set_option maxRecDepth 100000 in
theorem vc_m_clause (d : Int) (e : Int) (i : Int) (w : Int) (M : am_M) (Q : Option Value → am_M → Prop) (hv : (zr d) ∧ ((0 ≤ d ∧ d ≤ 9999 → (zr e) ∧ ((e = -1 ∨ (0 ≤ e ∧ e ≤ 9999) → (zr w ∧ zr (0 : Int) ∧ zr (3 : Int)) ∧ ((0 ≤ w ∧ w ≤ 3 → ∃ M1, am_call t_Mo_laws [.ref 58, .int (zi d), .int (zi e)] M none M1 ∧ (∃ (r3 : Int) (M2 : am_M), am_call t_Mo_atIndex [.ref 58, .int (zi i)] M1 (some (.int (zi r3))) M2 ∧ (zr r3 ∧ ((r3 = (-1) → Q (some (.int (zi (-2)))) M2) ∧ (¬ r3 = (-1) → ∃ (r6 : Int) (M5 : am_M), am_call t_Mo_about [.ref 58, .int (zi r3), .int (zi w)] M2 (some (.int (zi r6))) M5 ∧ (Q (some (.int (zi r6))) M5)))))) ∧ (¬ (0 ≤ w ∧ w ≤ 3) → Q (some (.int (zi (-2)))) M))) ∧ (¬ (e = -1 ∨ (0 ≤ e ∧ e ≤ 9999)) → Q (some (.int (zi (-2)))) M))) ∧ (¬ (0 ≤ d ∧ d ≤ 9999) → Q (some (.int (zi (-2)))) M))) : am_x t_Mo_clause (0, am_ent (am_mL t_Mo_clause) [.ref 58, .int (zi d), .int (zi e), .int (zi i), .int (zi w)], [], M) Q := by
  refine am_xn 0 (c1 := (0, [.ref 58, .int (zi d), .int (zi e), .int (zi i), .int (zi w), .null], [], M)) rfl ?_
  refine am_xn 1 (c1 := (1, [.ref 58, .int (zi d), .int (zi e), .int (zi i), .int (zi w), .null], [.int (zi d)], M)) rfl ?_
  obtain ⟨g, hv⟩ := hv
  by_cases c9 : 0 ≤ d ∧ d ≤ 9999
  · replace hv := hv.1 c9
    refine am_xc t_Mo_isDay (.invokestatic 80) 80 (av := [.int (zi d)]) (rest := []) (rv := some (.int (zi 1))) (M' := M) rfl rfl rfl rfl (Nat.le_of_ble_eq_true rfl) (fun h => nomatch h) (by have q := sp_isDay M d g; rwa [if_pos c9] at q) ?_
    refine am_xn 0 (c1 := (4, [.ref 58, .int (zi d), .int (zi e), .int (zi i), .int (zi w), .null], [.int (zi 1)], M)) rfl ?_
    refine am_xn 2 (c1 := (8, [.ref 58, .int (zi d), .int (zi e), .int (zi i), .int (zi w), .null], [.int (zi e)], M)) rfl ?_
    obtain ⟨g, hv⟩ := hv
    by_cases c8 : e = -1 ∨ (0 ≤ e ∧ e ≤ 9999)
    · replace hv := hv.1 c8
      refine am_xc t_Mo_isCase (.invokestatic 254) 254 (av := [.int (zi e)]) (rest := []) (rv := some (.int (zi 1))) (M' := M) rfl rfl rfl rfl (Nat.le_of_ble_eq_true rfl) (fun h => nomatch h) (by have q := sp_isCase M e g; rwa [if_pos c8] at q) ?_
      refine am_xn 0 (c1 := (11, [.ref 58, .int (zi d), .int (zi e), .int (zi i), .int (zi w), .null], [.int (zi 1)], M)) rfl ?_
      refine am_xn 4 (c1 := (18, [.ref 58, .int (zi d), .int (zi e), .int (zi i), .int (zi w), .null], [.int (zi 3), .int (zi 0), .int (zi w)], M)) rfl ?_
      obtain ⟨g, hv⟩ := hv
      by_cases c7 : 0 ≤ w ∧ w ≤ 3
      · replace hv := hv.1 c7
        refine am_xc t_Mo_in (.invokestatic 76) 76 (av := [.int (zi w), .int (zi 0), .int (zi 3)]) (rest := []) (rv := some (.int (zi 1))) (M' := M) rfl rfl rfl rfl (Nat.le_of_ble_eq_true rfl) (fun h => nomatch h) (by have q := sp_in M w 0 3 g; rwa [if_pos c7] at q) ?_
        refine am_xn 0 (c1 := (21, [.ref 58, .int (zi d), .int (zi e), .int (zi i), .int (zi w), .null], [.int (zi 1)], M)) rfl ?_
        refine am_xn 4 (c1 := (30, [.ref 58, .int (zi d), .int (zi e), .int (zi i), .int (zi w), .null], [.int (zi e), .int (zi d), .ref 58], M)) rfl ?_
        obtain ⟨M1, hc, hv⟩ := hv
        refine am_xc t_Mo_laws (.invokevirtual 140) 140 (av := [.ref 58, .int (zi d), .int (zi e)]) (rest := []) (rv := none) (M' := M1) rfl rfl rfl rfl (Nat.le_of_ble_eq_true rfl) (fun _ => rfl) (hc) ?_
        refine am_xn 0 (c1 := (33, [.ref 58, .int (zi d), .int (zi e), .int (zi i), .int (zi w), .null], [], M1)) rfl ?_
        refine am_xn 2 (c1 := (35, [.ref 58, .int (zi d), .int (zi e), .int (zi i), .int (zi w), .null], [.int (zi i), .ref 58], M1)) rfl ?_
        obtain ⟨r3, M2, hc, hv⟩ := hv
        refine am_xc t_Mo_atIndex (.invokevirtual 260) 260 (av := [.ref 58, .int (zi i)]) (rest := []) (rv := some (.int (zi r3))) (M' := M2) rfl rfl rfl rfl (Nat.le_of_ble_eq_true rfl) (fun _ => rfl) (hc) ?_
        refine am_xn 0 (c1 := (38, [.ref 58, .int (zi d), .int (zi e), .int (zi i), .int (zi w), .null], [.int (zi r3)], M2)) rfl ?_
        obtain ⟨r4, hv⟩ := hv
        refine am_xn 4 (c1 := (if zi r3 = zi (-1) then 46 else 51, [.ref 58, .int (zi d), .int (zi e), .int (zi i), .int (zi w), .int (zi r3)], [], M2)) rfl (am_xeq r4 (by decide) (fun h => ?_) (fun h => ?_))
        · replace hv := hv.1 h
          refine am_xn 2 (c1 := (59, [.ref 58, .int (zi d), .int (zi e), .int (zi i), .int (zi w), .int (zi r3)], [.int (zi (-2))], M2)) rfl ?_
          exact am_xr (some (.int (zi (-2)))) ⟨rfl, rfl, .int, rfl, rfl⟩ hv
        · replace hv := hv.2 h
          refine am_xn 3 (c1 := (56, [.ref 58, .int (zi d), .int (zi e), .int (zi i), .int (zi w), .int (zi r3)], [.int (zi w), .int (zi r3), .ref 58], M2)) rfl ?_
          obtain ⟨r6, M5, hc, hv⟩ := hv
          refine am_xc t_Mo_about (.invokevirtual 263) 263 (av := [.ref 58, .int (zi r3), .int (zi w)]) (rest := []) (rv := some (.int (zi r6))) (M' := M5) rfl rfl rfl rfl (Nat.le_of_ble_eq_true rfl) (fun _ => rfl) (hc) ?_
          refine am_xn 0 (c1 := (59, [.ref 58, .int (zi d), .int (zi e), .int (zi i), .int (zi w), .int (zi r3)], [.int (zi r6)], M5)) rfl ?_
          exact am_xr (some (.int (zi r6))) ⟨rfl, rfl, .int, rfl, rfl⟩ hv
      · replace hv := hv.2 c7
        refine am_xc t_Mo_in (.invokestatic 76) 76 (av := [.int (zi w), .int (zi 0), .int (zi 3)]) (rest := []) (rv := some (.int (zi 0))) (M' := M) rfl rfl rfl rfl (Nat.le_of_ble_eq_true rfl) (fun h => nomatch h) (by have q := sp_in M w 0 3 g; rwa [if_neg c7] at q) ?_
        refine am_xn 0 (c1 := (21, [.ref 58, .int (zi d), .int (zi e), .int (zi i), .int (zi w), .null], [.int (zi 0)], M)) rfl ?_
        refine am_xn 2 (c1 := (26, [.ref 58, .int (zi d), .int (zi e), .int (zi i), .int (zi w), .null], [.int (zi (-2))], M)) rfl ?_
        exact am_xr (some (.int (zi (-2)))) ⟨rfl, rfl, .int, rfl, rfl⟩ hv
    · replace hv := hv.2 c8
      refine am_xc t_Mo_isCase (.invokestatic 254) 254 (av := [.int (zi e)]) (rest := []) (rv := some (.int (zi 0))) (M' := M) rfl rfl rfl rfl (Nat.le_of_ble_eq_true rfl) (fun h => nomatch h) (by have q := sp_isCase M e g; rwa [if_neg c8] at q) ?_
      refine am_xn 0 (c1 := (11, [.ref 58, .int (zi d), .int (zi e), .int (zi i), .int (zi w), .null], [.int (zi 0)], M)) rfl ?_
      refine am_xn 2 (c1 := (26, [.ref 58, .int (zi d), .int (zi e), .int (zi i), .int (zi w), .null], [.int (zi (-2))], M)) rfl ?_
      exact am_xr (some (.int (zi (-2)))) ⟨rfl, rfl, .int, rfl, rfl⟩ hv
  · replace hv := hv.2 c9
    refine am_xc t_Mo_isDay (.invokestatic 80) 80 (av := [.int (zi d)]) (rest := []) (rv := some (.int (zi 0))) (M' := M) rfl rfl rfl rfl (Nat.le_of_ble_eq_true rfl) (fun h => nomatch h) (by have q := sp_isDay M d g; rwa [if_neg c9] at q) ?_
    refine am_xn 0 (c1 := (4, [.ref 58, .int (zi d), .int (zi e), .int (zi i), .int (zi w), .null], [.int (zi 0)], M)) rfl ?_
    refine am_xn 2 (c1 := (26, [.ref 58, .int (zi d), .int (zi e), .int (zi i), .int (zi w), .null], [.int (zi (-2))], M)) rfl ?_
    exact am_xr (some (.int (zi (-2)))) ⟨rfl, rfl, .int, rfl, rfl⟩ hv
set_option maxRecDepth 100000 in
theorem vc_c_textWord (d : Int) (e : Int) (i : Int) (k : Int) (M : am_M) (Q : Option Value → am_M → Prop) (hv : (zr d ∧ zr e) ∧ (((0 ≤ d ∧ d ≤ 9999) ∧ (e = -1 ∨ (0 ≤ e ∧ e ≤ 9999)) → ∃ M1, am_call t_SB_consolidate [.ref 0, .int (zi d), .int (zi e)] M none M1 ∧ (zr i ∧ ((i < 0 → Q (some (.int (zi (-2)))) M1) ∧ (0 ≤ i → (i < (iv M1 15 9) → zr k ∧ ((k < 0 → Q (some (.int (zi (-2)))) M1) ∧ (0 ≤ k → (0 ≤ i ∧ i < 40) ∧ ((0 ≤ (iv M1 25 i) ∧ (iv M1 25 i) < 40) ∧ ((k < (iv M1 21 (iv M1 25 i)) → (0 ≤ i ∧ i < 40) ∧ (∃ (r5 : Int) (M4 : am_M), am_call t_SB_presentWord [.ref 0, .int (zi (iv M1 25 i)), .int (zi k)] M1 (some (.int (zi r5))) M4 ∧ (Q (some (.int (zi r5))) M4))) ∧ ((iv M1 21 (iv M1 25 i)) ≤ k → Q (some (.int (zi (-2)))) M1)))))) ∧ ((iv M1 15 9) ≤ i → Q (some (.int (zi (-2)))) M1))))) ∧ (¬ ((0 ≤ d ∧ d ≤ 9999) ∧ (e = -1 ∨ (0 ≤ e ∧ e ≤ 9999))) → Q (some (.int (zi (-2)))) M))) : am_x t_SB_textWord (0, am_ent (am_mL t_SB_textWord) [.ref 0, .int (zi d), .int (zi e), .int (zi i), .int (zi k)], [], M) Q := by
  refine am_xn 0 (c1 := (0, [.ref 0, .int (zi d), .int (zi e), .int (zi i), .int (zi k)], [], M)) rfl ?_
  refine am_xn 2 (c1 := (2, [.ref 0, .int (zi d), .int (zi e), .int (zi i), .int (zi k)], [.int (zi e), .int (zi d)], M)) rfl ?_
  obtain ⟨g, hv⟩ := hv
  by_cases c6 : (0 ≤ d ∧ d ≤ 9999) ∧ (e = -1 ∨ (0 ≤ e ∧ e ≤ 9999))
  · replace hv := hv.1 c6
    refine am_xc t_SB_isLaw (.invokestatic 159) 159 (av := [.int (zi d), .int (zi e)]) (rest := []) (rv := some (.int (zi 1))) (M' := M) rfl rfl rfl rfl (Nat.le_of_ble_eq_true rfl) (fun h => nomatch h) (by have q := sp_isLaw M d e g; rwa [if_pos c6] at q) ?_
    refine am_xn 0 (c1 := (5, [.ref 0, .int (zi d), .int (zi e), .int (zi i), .int (zi k)], [.int (zi 1)], M)) rfl ?_
    refine am_xn 4 (c1 := (14, [.ref 0, .int (zi d), .int (zi e), .int (zi i), .int (zi k)], [.int (zi e), .int (zi d), .ref 0], M)) rfl ?_
    obtain ⟨M1, hc, hv⟩ := hv
    refine am_xc t_SB_consolidate (.invokevirtual 162) 162 (av := [.ref 0, .int (zi d), .int (zi e)]) (rest := []) (rv := none) (M' := M1) rfl rfl rfl rfl (Nat.le_of_ble_eq_true rfl) (fun _ => rfl) (hc) ?_
    refine am_xn 0 (c1 := (17, [.ref 0, .int (zi d), .int (zi e), .int (zi i), .int (zi k)], [], M1)) rfl ?_
    obtain ⟨r2, hv⟩ := hv
    refine am_xn 2 (c1 := (if zi i < zi 0 then 57 else 21, [.ref 0, .int (zi d), .int (zi e), .int (zi i), .int (zi k)], [], M1)) rfl (am_xlt r2 (by decide) (fun h => ?_) (fun h => ?_))
    · replace hv := hv.1 h
      refine am_xn 1 (c1 := (59, [.ref 0, .int (zi d), .int (zi e), .int (zi i), .int (zi k)], [.int (zi (-2))], M1)) rfl ?_
      exact am_xr (some (.int (zi (-2)))) ⟨rfl, rfl, .int, rfl, rfl⟩ hv
    · replace hv := hv.2 h
      refine am_xn 3 (c1 := (26, [.ref 0, .int (zi d), .int (zi e), .int (zi i), .int (zi k)], [.ref 15, .int (zi i)], M1)) rfl ?_
      refine am_xc t_Law_size (.invokevirtual 165) 165 (av := [.ref 15]) (rest := [.int (zi i)]) (rv := some (.int (zi (iv M1 15 9)))) (M' := M1) rfl rfl rfl rfl (Nat.le_of_ble_eq_true rfl) (fun _ => rfl) (sp_l15_size M1) ?_
      refine am_xn 0 (c1 := (29, [.ref 0, .int (zi d), .int (zi e), .int (zi i), .int (zi k)], [.int (zi (iv M1 15 9)), .int (zi i)], M1)) rfl ?_
      refine am_xn 1 (c1 := (if zi i < zi (iv M1 15 9) then 32 else 57, [.ref 0, .int (zi d), .int (zi e), .int (zi i), .int (zi k)], [], M1)) rfl (am_xlt r2 (iv_r _ _ _) (fun h => ?_) (fun h => ?_))
      · replace hv := hv.1 h
        obtain ⟨r3, hv⟩ := hv
        refine am_xn 2 (c1 := (if zi k < zi 0 then 57 else 37, [.ref 0, .int (zi d), .int (zi e), .int (zi i), .int (zi k)], [], M1)) rfl (am_xlt r3 (by decide) (fun h => ?_) (fun h => ?_))
        · replace hv := hv.1 h
          refine am_xn 1 (c1 := (59, [.ref 0, .int (zi d), .int (zi e), .int (zi i), .int (zi k)], [.int (zi (-2))], M1)) rfl ?_
          exact am_xr (some (.int (zi (-2)))) ⟨rfl, rfl, .int, rfl, rfl⟩ hv
        · replace hv := hv.2 h
          refine am_xn 6 (c1 := (48, [.ref 0, .int (zi d), .int (zi e), .int (zi i), .int (zi k)], [.int (zi i), .ref 15, .ref 15, .int (zi k)], M1)) rfl ?_
          obtain ⟨g, hv⟩ := hv
          refine am_xc t_Law_at (.invokevirtual 166) 166 (av := [.ref 15, .int (zi i)]) (rest := [.ref 15, .int (zi k)]) (rv := some (.int (zi (iv M1 25 i)))) (M' := M1) rfl rfl rfl rfl (Nat.le_of_ble_eq_true rfl) (fun _ => rfl) (sp_l15_at M1 i g) ?_
          refine am_xn 0 (c1 := (51, [.ref 0, .int (zi d), .int (zi e), .int (zi i), .int (zi k)], [.int (zi (iv M1 25 i)), .ref 15, .int (zi k)], M1)) rfl ?_
          obtain ⟨g, hv⟩ := hv
          refine am_xc t_Law_length (.invokevirtual 175) 175 (av := [.ref 15, .int (zi (iv M1 25 i))]) (rest := [.int (zi k)]) (rv := some (.int (zi (iv M1 21 (iv M1 25 i))))) (M' := M1) rfl rfl rfl rfl (Nat.le_of_ble_eq_true rfl) (fun _ => rfl) (sp_l15_length M1 (iv M1 25 i) g) ?_
          refine am_xn 0 (c1 := (54, [.ref 0, .int (zi d), .int (zi e), .int (zi i), .int (zi k)], [.int (zi (iv M1 21 (iv M1 25 i))), .int (zi k)], M1)) rfl ?_
          refine am_xn 1 (c1 := (if zi k < zi (iv M1 21 (iv M1 25 i)) then 60 else 57, [.ref 0, .int (zi d), .int (zi e), .int (zi i), .int (zi k)], [], M1)) rfl (am_xlt r3 (iv_r _ _ _) (fun h => ?_) (fun h => ?_))
          · replace hv := hv.1 h
            refine am_xn 4 (c1 := (66, [.ref 0, .int (zi d), .int (zi e), .int (zi i), .int (zi k)], [.int (zi i), .ref 15, .ref 0], M1)) rfl ?_
            obtain ⟨g, hv⟩ := hv
            refine am_xc t_Law_at (.invokevirtual 166) 166 (av := [.ref 15, .int (zi i)]) (rest := [.ref 0]) (rv := some (.int (zi (iv M1 25 i)))) (M' := M1) rfl rfl rfl rfl (Nat.le_of_ble_eq_true rfl) (fun _ => rfl) (sp_l15_at M1 i g) ?_
            refine am_xn 0 (c1 := (69, [.ref 0, .int (zi d), .int (zi e), .int (zi i), .int (zi k)], [.int (zi (iv M1 25 i)), .ref 0], M1)) rfl ?_
            refine am_xn 1 (c1 := (71, [.ref 0, .int (zi d), .int (zi e), .int (zi i), .int (zi k)], [.int (zi k), .int (zi (iv M1 25 i)), .ref 0], M1)) rfl ?_
            obtain ⟨r5, M4, hc, hv⟩ := hv
            refine am_xc t_SB_presentWord (.invokevirtual 181) 181 (av := [.ref 0, .int (zi (iv M1 25 i)), .int (zi k)]) (rest := []) (rv := some (.int (zi r5))) (M' := M4) rfl rfl rfl rfl (Nat.le_of_ble_eq_true rfl) (fun _ => rfl) (hc) ?_
            refine am_xn 0 (c1 := (74, [.ref 0, .int (zi d), .int (zi e), .int (zi i), .int (zi k)], [.int (zi r5)], M4)) rfl ?_
            exact am_xr (some (.int (zi r5))) ⟨rfl, rfl, .int, rfl, rfl⟩ hv
          · replace hv := hv.2 h
            refine am_xn 1 (c1 := (59, [.ref 0, .int (zi d), .int (zi e), .int (zi i), .int (zi k)], [.int (zi (-2))], M1)) rfl ?_
            exact am_xr (some (.int (zi (-2)))) ⟨rfl, rfl, .int, rfl, rfl⟩ hv
      · replace hv := hv.2 h
        refine am_xn 1 (c1 := (59, [.ref 0, .int (zi d), .int (zi e), .int (zi i), .int (zi k)], [.int (zi (-2))], M1)) rfl ?_
        exact am_xr (some (.int (zi (-2)))) ⟨rfl, rfl, .int, rfl, rfl⟩ hv
  · replace hv := hv.2 c6
    refine am_xc t_SB_isLaw (.invokestatic 159) 159 (av := [.int (zi d), .int (zi e)]) (rest := []) (rv := some (.int (zi 0))) (M' := M) rfl rfl rfl rfl (Nat.le_of_ble_eq_true rfl) (fun h => nomatch h) (by have q := sp_isLaw M d e g; rwa [if_neg c6] at q) ?_
    refine am_xn 0 (c1 := (5, [.ref 0, .int (zi d), .int (zi e), .int (zi i), .int (zi k)], [.int (zi 0)], M)) rfl ?_
    refine am_xn 2 (c1 := (10, [.ref 0, .int (zi d), .int (zi e), .int (zi i), .int (zi k)], [.int (zi (-2))], M)) rfl ?_
    exact am_xr (some (.int (zi (-2)))) ⟨rfl, rfl, .int, rfl, rfl⟩ hv
set_option maxRecDepth 100000 in
theorem vc_m_textWord (d : Int) (e : Int) (i : Int) (k : Int) (M : am_M) (Q : Option Value → am_M → Prop) (hv : (zr d) ∧ ((0 ≤ d ∧ d ≤ 9999 → (zr e) ∧ ((e = -1 ∨ (0 ≤ e ∧ e ≤ 9999) → ∃ M1, am_call t_Mo_laws [.ref 58, .int (zi d), .int (zi e)] M none M1 ∧ (∃ (r3 : Int) (M2 : am_M), am_call t_Mo_atIndex [.ref 58, .int (zi i)] M1 (some (.int (zi r3))) M2 ∧ (zr r3 ∧ ((r3 = (-1) → Q (some (.int (zi (-2)))) M2) ∧ (¬ r3 = (-1) → (0 ≤ r3 ∧ r3 < 40) ∧ ((zr k ∧ zr (0 : Int) ∧ zr ((iv M2 66 r3) - 1)) ∧ ((0 ≤ k ∧ k ≤ ((iv M2 66 r3) - 1) → ∃ (r7 : Int) (M6 : am_M), am_call t_Mo_toldWord [.ref 58, .int (zi r3), .int (zi k)] M2 (some (.int (zi r7))) M6 ∧ (Q (some (.int (zi r7))) M6)) ∧ (¬ (0 ≤ k ∧ k ≤ ((iv M2 66 r3) - 1)) → Q (some (.int (zi (-2)))) M2)))))))) ∧ (¬ (e = -1 ∨ (0 ≤ e ∧ e ≤ 9999)) → Q (some (.int (zi (-2)))) M))) ∧ (¬ (0 ≤ d ∧ d ≤ 9999) → Q (some (.int (zi (-2)))) M))) : am_x t_Mo_textWord (0, am_ent (am_mL t_Mo_textWord) [.ref 58, .int (zi d), .int (zi e), .int (zi i), .int (zi k)], [], M) Q := by
  refine am_xn 0 (c1 := (0, [.ref 58, .int (zi d), .int (zi e), .int (zi i), .int (zi k), .null], [], M)) rfl ?_
  refine am_xn 1 (c1 := (1, [.ref 58, .int (zi d), .int (zi e), .int (zi i), .int (zi k), .null], [.int (zi d)], M)) rfl ?_
  obtain ⟨g, hv⟩ := hv
  by_cases c10 : 0 ≤ d ∧ d ≤ 9999
  · replace hv := hv.1 c10
    refine am_xc t_Mo_isDay (.invokestatic 80) 80 (av := [.int (zi d)]) (rest := []) (rv := some (.int (zi 1))) (M' := M) rfl rfl rfl rfl (Nat.le_of_ble_eq_true rfl) (fun h => nomatch h) (by have q := sp_isDay M d g; rwa [if_pos c10] at q) ?_
    refine am_xn 0 (c1 := (4, [.ref 58, .int (zi d), .int (zi e), .int (zi i), .int (zi k), .null], [.int (zi 1)], M)) rfl ?_
    refine am_xn 2 (c1 := (8, [.ref 58, .int (zi d), .int (zi e), .int (zi i), .int (zi k), .null], [.int (zi e)], M)) rfl ?_
    obtain ⟨g, hv⟩ := hv
    by_cases c9 : e = -1 ∨ (0 ≤ e ∧ e ≤ 9999)
    · replace hv := hv.1 c9
      refine am_xc t_Mo_isCase (.invokestatic 254) 254 (av := [.int (zi e)]) (rest := []) (rv := some (.int (zi 1))) (M' := M) rfl rfl rfl rfl (Nat.le_of_ble_eq_true rfl) (fun h => nomatch h) (by have q := sp_isCase M e g; rwa [if_pos c9] at q) ?_
      refine am_xn 0 (c1 := (11, [.ref 58, .int (zi d), .int (zi e), .int (zi i), .int (zi k), .null], [.int (zi 1)], M)) rfl ?_
      refine am_xn 4 (c1 := (20, [.ref 58, .int (zi d), .int (zi e), .int (zi i), .int (zi k), .null], [.int (zi e), .int (zi d), .ref 58], M)) rfl ?_
      obtain ⟨M1, hc, hv⟩ := hv
      refine am_xc t_Mo_laws (.invokevirtual 140) 140 (av := [.ref 58, .int (zi d), .int (zi e)]) (rest := []) (rv := none) (M' := M1) rfl rfl rfl rfl (Nat.le_of_ble_eq_true rfl) (fun _ => rfl) (hc) ?_
      refine am_xn 0 (c1 := (23, [.ref 58, .int (zi d), .int (zi e), .int (zi i), .int (zi k), .null], [], M1)) rfl ?_
      refine am_xn 2 (c1 := (25, [.ref 58, .int (zi d), .int (zi e), .int (zi i), .int (zi k), .null], [.int (zi i), .ref 58], M1)) rfl ?_
      obtain ⟨r3, M2, hc, hv⟩ := hv
      refine am_xc t_Mo_atIndex (.invokevirtual 260) 260 (av := [.ref 58, .int (zi i)]) (rest := []) (rv := some (.int (zi r3))) (M' := M2) rfl rfl rfl rfl (Nat.le_of_ble_eq_true rfl) (fun _ => rfl) (hc) ?_
      refine am_xn 0 (c1 := (28, [.ref 58, .int (zi d), .int (zi e), .int (zi i), .int (zi k), .null], [.int (zi r3)], M2)) rfl ?_
      obtain ⟨r4, hv⟩ := hv
      refine am_xn 4 (c1 := (if zi r3 = zi (-1) then 54 else 36, [.ref 58, .int (zi d), .int (zi e), .int (zi i), .int (zi k), .int (zi r3)], [], M2)) rfl (am_xeq r4 (by decide) (fun h => ?_) (fun h => ?_))
      · replace hv := hv.1 h
        refine am_xn 2 (c1 := (67, [.ref 58, .int (zi d), .int (zi e), .int (zi i), .int (zi k), .int (zi r3)], [.int (zi (-2))], M2)) rfl ?_
        exact am_xr (some (.int (zi (-2)))) ⟨rfl, rfl, .int, rfl, rfl⟩ hv
      · replace hv := hv.2 h
        obtain ⟨r5, hv⟩ := hv
        refine am_xn 5 (c1 := (45, [.ref 58, .int (zi d), .int (zi e), .int (zi i), .int (zi k), .int (zi r3)], [.int (zi r3), .ref 66, .int (zi 0), .int (zi k)], M2)) rfl ?_
        refine am_xald rfl rfl rfl r5 ?_
        refine am_xn 0 (c1 := (46, [.ref 58, .int (zi d), .int (zi e), .int (zi i), .int (zi k), .int (zi r3)], [.int (zi (iv M2 66 r3)), .int (zi 0), .int (zi k)], M2)) rfl ?_
        refine am_xisub 2 (iv M2 66 r3) 1 (pc := 48) (ls := [.ref 58, .int (zi d), .int (zi e), .int (zi i), .int (zi k), .int (zi r3)]) (st := [.int (zi 0), .int (zi k)]) rfl ?_
        obtain ⟨g, hv⟩ := hv
        by_cases c8 : 0 ≤ k ∧ k ≤ ((iv M2 66 r3) - 1)
        · replace hv := hv.1 c8
          refine am_xc t_Mo_in (.invokestatic 76) 76 (av := [.int (zi k), .int (zi 0), .int (zi ((iv M2 66 r3) - 1))]) (rest := []) (rv := some (.int (zi 1))) (M' := M2) rfl rfl rfl rfl (Nat.le_of_ble_eq_true rfl) (fun h => nomatch h) (by have q := sp_in M2 k 0 ((iv M2 66 r3) - 1) g; rwa [if_pos c8] at q) ?_
          refine am_xn 0 (c1 := (51, [.ref 58, .int (zi d), .int (zi e), .int (zi i), .int (zi k), .int (zi r3)], [.int (zi 1)], M2)) rfl ?_
          refine am_xn 4 (c1 := (64, [.ref 58, .int (zi d), .int (zi e), .int (zi i), .int (zi k), .int (zi r3)], [.int (zi k), .int (zi r3), .ref 58], M2)) rfl ?_
          obtain ⟨r7, M6, hc, hv⟩ := hv
          refine am_xc t_Mo_toldWord (.invokevirtual 266) 266 (av := [.ref 58, .int (zi r3), .int (zi k)]) (rest := []) (rv := some (.int (zi r7))) (M' := M6) rfl rfl rfl rfl (Nat.le_of_ble_eq_true rfl) (fun _ => rfl) (hc) ?_
          refine am_xn 0 (c1 := (67, [.ref 58, .int (zi d), .int (zi e), .int (zi i), .int (zi k), .int (zi r3)], [.int (zi r7)], M6)) rfl ?_
          exact am_xr (some (.int (zi r7))) ⟨rfl, rfl, .int, rfl, rfl⟩ hv
        · replace hv := hv.2 c8
          refine am_xc t_Mo_in (.invokestatic 76) 76 (av := [.int (zi k), .int (zi 0), .int (zi ((iv M2 66 r3) - 1))]) (rest := []) (rv := some (.int (zi 0))) (M' := M2) rfl rfl rfl rfl (Nat.le_of_ble_eq_true rfl) (fun h => nomatch h) (by have q := sp_in M2 k 0 ((iv M2 66 r3) - 1) g; rwa [if_neg c8] at q) ?_
          refine am_xn 0 (c1 := (51, [.ref 58, .int (zi d), .int (zi e), .int (zi i), .int (zi k), .int (zi r3)], [.int (zi 0)], M2)) rfl ?_
          refine am_xn 3 (c1 := (67, [.ref 58, .int (zi d), .int (zi e), .int (zi i), .int (zi k), .int (zi r3)], [.int (zi (-2))], M2)) rfl ?_
          exact am_xr (some (.int (zi (-2)))) ⟨rfl, rfl, .int, rfl, rfl⟩ hv
    · replace hv := hv.2 c9
      refine am_xc t_Mo_isCase (.invokestatic 254) 254 (av := [.int (zi e)]) (rest := []) (rv := some (.int (zi 0))) (M' := M) rfl rfl rfl rfl (Nat.le_of_ble_eq_true rfl) (fun h => nomatch h) (by have q := sp_isCase M e g; rwa [if_neg c9] at q) ?_
      refine am_xn 0 (c1 := (11, [.ref 58, .int (zi d), .int (zi e), .int (zi i), .int (zi k), .null], [.int (zi 0)], M)) rfl ?_
      refine am_xn 2 (c1 := (16, [.ref 58, .int (zi d), .int (zi e), .int (zi i), .int (zi k), .null], [.int (zi (-2))], M)) rfl ?_
      exact am_xr (some (.int (zi (-2)))) ⟨rfl, rfl, .int, rfl, rfl⟩ hv
  · replace hv := hv.2 c10
    refine am_xc t_Mo_isDay (.invokestatic 80) 80 (av := [.int (zi d)]) (rest := []) (rv := some (.int (zi 0))) (M' := M) rfl rfl rfl rfl (Nat.le_of_ble_eq_true rfl) (fun h => nomatch h) (by have q := sp_isDay M d g; rwa [if_neg c10] at q) ?_
    refine am_xn 0 (c1 := (4, [.ref 58, .int (zi d), .int (zi e), .int (zi i), .int (zi k), .null], [.int (zi 0)], M)) rfl ?_
    refine am_xn 2 (c1 := (16, [.ref 58, .int (zi d), .int (zi e), .int (zi i), .int (zi k), .null], [.int (zi (-2))], M)) rfl ?_
    exact am_xr (some (.int (zi (-2)))) ⟨rfl, rfl, .int, rfl, rfl⟩ hv
set_option maxRecDepth 100000 in
theorem vc_c_find (d : Int) (e : Int) (x : Int) (M : am_M) (Q : Option Value → am_M → Prop) (hv : (zr d ∧ zr e) ∧ (((0 ≤ d ∧ d ≤ 9999) ∧ (e = -1 ∨ (0 ≤ e ∧ e ≤ 9999)) → (zr x) ∧ ((isCd x → ∃ M1, am_call t_SB_consolidate [.ref 0, .int (zi d), .int (zi e)] M none M1 ∧ (∃ (r3 : Int) (M2 : am_M), am_call t_Law_indexOf [.ref 15, .int (zi x)] M1 (some (.int (zi r3))) M2 ∧ (Q (some (.int (zi r3))) M2))) ∧ (¬ (isCd x) → Q (some (.int (zi (-2)))) M))) ∧ (¬ ((0 ≤ d ∧ d ≤ 9999) ∧ (e = -1 ∨ (0 ≤ e ∧ e ≤ 9999))) → Q (some (.int (zi (-2)))) M))) : am_x t_SB_find (0, am_ent (am_mL t_SB_find) [.ref 0, .int (zi d), .int (zi e), .int (zi x)], [], M) Q := by
  refine am_xn 0 (c1 := (0, [.ref 0, .int (zi d), .int (zi e), .int (zi x)], [], M)) rfl ?_
  refine am_xn 2 (c1 := (2, [.ref 0, .int (zi d), .int (zi e), .int (zi x)], [.int (zi e), .int (zi d)], M)) rfl ?_
  obtain ⟨g, hv⟩ := hv
  by_cases c5 : (0 ≤ d ∧ d ≤ 9999) ∧ (e = -1 ∨ (0 ≤ e ∧ e ≤ 9999))
  · replace hv := hv.1 c5
    refine am_xc t_SB_isLaw (.invokestatic 159) 159 (av := [.int (zi d), .int (zi e)]) (rest := []) (rv := some (.int (zi 1))) (M' := M) rfl rfl rfl rfl (Nat.le_of_ble_eq_true rfl) (fun h => nomatch h) (by have q := sp_isLaw M d e g; rwa [if_pos c5] at q) ?_
    refine am_xn 0 (c1 := (5, [.ref 0, .int (zi d), .int (zi e), .int (zi x)], [.int (zi 1)], M)) rfl ?_
    refine am_xn 2 (c1 := (9, [.ref 0, .int (zi d), .int (zi e), .int (zi x)], [.int (zi x)], M)) rfl ?_
    obtain ⟨g, hv⟩ := hv
    by_cases c4 : isCd x
    · replace hv := hv.1 c4
      refine am_xc t_SB_isCode (.invokestatic 187) 187 (av := [.int (zi x)]) (rest := []) (rv := some (.int (zi 1))) (M' := M) rfl rfl rfl rfl (Nat.le_of_ble_eq_true rfl) (fun h => nomatch h) (by have q := sp_c_isCode M x g; rwa [if_pos c4] at q) ?_
      refine am_xn 0 (c1 := (12, [.ref 0, .int (zi d), .int (zi e), .int (zi x)], [.int (zi 1)], M)) rfl ?_
      refine am_xn 4 (c1 := (21, [.ref 0, .int (zi d), .int (zi e), .int (zi x)], [.int (zi e), .int (zi d), .ref 0], M)) rfl ?_
      obtain ⟨M1, hc, hv⟩ := hv
      refine am_xc t_SB_consolidate (.invokevirtual 162) 162 (av := [.ref 0, .int (zi d), .int (zi e)]) (rest := []) (rv := none) (M' := M1) rfl rfl rfl rfl (Nat.le_of_ble_eq_true rfl) (fun _ => rfl) (hc) ?_
      refine am_xn 0 (c1 := (24, [.ref 0, .int (zi d), .int (zi e), .int (zi x)], [], M1)) rfl ?_
      refine am_xn 3 (c1 := (29, [.ref 0, .int (zi d), .int (zi e), .int (zi x)], [.int (zi x), .ref 15], M1)) rfl ?_
      obtain ⟨r3, M2, hc, hv⟩ := hv
      refine am_xc t_Law_indexOf (.invokevirtual 190) 190 (av := [.ref 15, .int (zi x)]) (rest := []) (rv := some (.int (zi r3))) (M' := M2) rfl rfl rfl rfl (Nat.le_of_ble_eq_true rfl) (fun _ => rfl) (hc) ?_
      refine am_xn 0 (c1 := (32, [.ref 0, .int (zi d), .int (zi e), .int (zi x)], [.int (zi r3)], M2)) rfl ?_
      exact am_xr (some (.int (zi r3))) ⟨rfl, rfl, .int, rfl, rfl⟩ hv
    · replace hv := hv.2 c4
      refine am_xc t_SB_isCode (.invokestatic 187) 187 (av := [.int (zi x)]) (rest := []) (rv := some (.int (zi 0))) (M' := M) rfl rfl rfl rfl (Nat.le_of_ble_eq_true rfl) (fun h => nomatch h) (by have q := sp_c_isCode M x g; rwa [if_neg c4] at q) ?_
      refine am_xn 0 (c1 := (12, [.ref 0, .int (zi d), .int (zi e), .int (zi x)], [.int (zi 0)], M)) rfl ?_
      refine am_xn 2 (c1 := (17, [.ref 0, .int (zi d), .int (zi e), .int (zi x)], [.int (zi (-2))], M)) rfl ?_
      exact am_xr (some (.int (zi (-2)))) ⟨rfl, rfl, .int, rfl, rfl⟩ hv
  · replace hv := hv.2 c5
    refine am_xc t_SB_isLaw (.invokestatic 159) 159 (av := [.int (zi d), .int (zi e)]) (rest := []) (rv := some (.int (zi 0))) (M' := M) rfl rfl rfl rfl (Nat.le_of_ble_eq_true rfl) (fun h => nomatch h) (by have q := sp_isLaw M d e g; rwa [if_neg c5] at q) ?_
    refine am_xn 0 (c1 := (5, [.ref 0, .int (zi d), .int (zi e), .int (zi x)], [.int (zi 0)], M)) rfl ?_
    refine am_xn 2 (c1 := (17, [.ref 0, .int (zi d), .int (zi e), .int (zi x)], [.int (zi (-2))], M)) rfl ?_
    exact am_xr (some (.int (zi (-2)))) ⟨rfl, rfl, .int, rfl, rfl⟩ hv
set_option maxRecDepth 100000 in
theorem vc_m_find (d : Int) (e : Int) (x : Int) (M : am_M) (Q : Option Value → am_M → Prop) (hv : (zr d) ∧ ((0 ≤ d ∧ d ≤ 9999 → (zr e) ∧ ((e = -1 ∨ (0 ≤ e ∧ e ≤ 9999) → (zr x) ∧ ((isCd x → ∃ M1, am_call t_Mo_laws [.ref 58, .int (zi d), .int (zi e)] M none M1 ∧ ((zr x) ∧ (((mwc M1 x) = (-1) → Q (some (.int (zi (-1)))) M1) ∧ (¬ (mwc M1 x) = (-1) → ∃ (r3 : Int) (M2 : am_M), am_call t_Mo_indexOf [.ref 58, .int (zi (mwc M1 x))] M1 (some (.int (zi r3))) M2 ∧ (Q (some (.int (zi r3))) M2))))) ∧ (¬ (isCd x) → Q (some (.int (zi (-2)))) M))) ∧ (¬ (e = -1 ∨ (0 ≤ e ∧ e ≤ 9999)) → Q (some (.int (zi (-2)))) M))) ∧ (¬ (0 ≤ d ∧ d ≤ 9999) → Q (some (.int (zi (-2)))) M))) : am_x t_Mo_find (0, am_ent (am_mL t_Mo_find) [.ref 58, .int (zi d), .int (zi e), .int (zi x)], [], M) Q := by
  refine am_xn 0 (c1 := (0, [.ref 58, .int (zi d), .int (zi e), .int (zi x), .null], [], M)) rfl ?_
  refine am_xn 1 (c1 := (1, [.ref 58, .int (zi d), .int (zi e), .int (zi x), .null], [.int (zi d)], M)) rfl ?_
  obtain ⟨g, hv⟩ := hv
  by_cases c6 : 0 ≤ d ∧ d ≤ 9999
  · replace hv := hv.1 c6
    refine am_xc t_Mo_isDay (.invokestatic 80) 80 (av := [.int (zi d)]) (rest := []) (rv := some (.int (zi 1))) (M' := M) rfl rfl rfl rfl (Nat.le_of_ble_eq_true rfl) (fun h => nomatch h) (by have q := sp_isDay M d g; rwa [if_pos c6] at q) ?_
    refine am_xn 0 (c1 := (4, [.ref 58, .int (zi d), .int (zi e), .int (zi x), .null], [.int (zi 1)], M)) rfl ?_
    refine am_xn 2 (c1 := (8, [.ref 58, .int (zi d), .int (zi e), .int (zi x), .null], [.int (zi e)], M)) rfl ?_
    obtain ⟨g, hv⟩ := hv
    by_cases c5 : e = -1 ∨ (0 ≤ e ∧ e ≤ 9999)
    · replace hv := hv.1 c5
      refine am_xc t_Mo_isCase (.invokestatic 254) 254 (av := [.int (zi e)]) (rest := []) (rv := some (.int (zi 1))) (M' := M) rfl rfl rfl rfl (Nat.le_of_ble_eq_true rfl) (fun h => nomatch h) (by have q := sp_isCase M e g; rwa [if_pos c5] at q) ?_
      refine am_xn 0 (c1 := (11, [.ref 58, .int (zi d), .int (zi e), .int (zi x), .null], [.int (zi 1)], M)) rfl ?_
      refine am_xn 2 (c1 := (15, [.ref 58, .int (zi d), .int (zi e), .int (zi x), .null], [.int (zi x)], M)) rfl ?_
      obtain ⟨g, hv⟩ := hv
      by_cases c4 : isCd x
      · replace hv := hv.1 c4
        refine am_xc t_Mo_isCode (.invokestatic 269) 269 (av := [.int (zi x)]) (rest := []) (rv := some (.int (zi 1))) (M' := M) rfl rfl rfl rfl (Nat.le_of_ble_eq_true rfl) (fun h => nomatch h) (by have q := sp_isCode M x g; rwa [if_pos c4] at q) ?_
        refine am_xn 0 (c1 := (18, [.ref 58, .int (zi d), .int (zi e), .int (zi x), .null], [.int (zi 1)], M)) rfl ?_
        refine am_xn 4 (c1 := (27, [.ref 58, .int (zi d), .int (zi e), .int (zi x), .null], [.int (zi e), .int (zi d), .ref 58], M)) rfl ?_
        obtain ⟨M1, hc, hv⟩ := hv
        refine am_xc t_Mo_laws (.invokevirtual 140) 140 (av := [.ref 58, .int (zi d), .int (zi e)]) (rest := []) (rv := none) (M' := M1) rfl rfl rfl rfl (Nat.le_of_ble_eq_true rfl) (fun _ => rfl) (hc) ?_
        refine am_xn 0 (c1 := (30, [.ref 58, .int (zi d), .int (zi e), .int (zi x), .null], [], M1)) rfl ?_
        refine am_xn 2 (c1 := (32, [.ref 58, .int (zi d), .int (zi e), .int (zi x), .null], [.int (zi x), .ref 58], M1)) rfl ?_
        obtain ⟨g, hv⟩ := hv
        refine am_xc t_Mo_withCode (.invokevirtual 104) 104 (av := [.ref 58, .int (zi x)]) (rest := []) (rv := some (.int (zi (mwc M1 x)))) (M' := M1) rfl rfl rfl rfl (Nat.le_of_ble_eq_true rfl) (fun _ => rfl) (sp_withCode M1 x g) ?_
        refine am_xn 0 (c1 := (35, [.ref 58, .int (zi d), .int (zi e), .int (zi x), .null], [.int (zi (mwc M1 x))], M1)) rfl ?_
        refine am_xn 4 (c1 := (if zi (mwc M1 x) = zi (-1) then 43 else 47, [.ref 58, .int (zi d), .int (zi e), .int (zi x), .int (zi (mwc M1 x))], [], M1)) rfl (am_xeq (mwc_zr _ _) (by decide) (fun h => ?_) (fun h => ?_))
        · replace hv := hv.1 h
          refine am_xn 2 (c1 := (53, [.ref 58, .int (zi d), .int (zi e), .int (zi x), .int (zi (mwc M1 x))], [.int (zi (-1))], M1)) rfl ?_
          exact am_xr (some (.int (zi (-1)))) ⟨rfl, rfl, .int, rfl, rfl⟩ hv
        · replace hv := hv.2 h
          refine am_xn 2 (c1 := (50, [.ref 58, .int (zi d), .int (zi e), .int (zi x), .int (zi (mwc M1 x))], [.int (zi (mwc M1 x)), .ref 58], M1)) rfl ?_
          obtain ⟨r3, M2, hc, hv⟩ := hv
          refine am_xc t_Mo_indexOf (.invokevirtual 146) 146 (av := [.ref 58, .int (zi (mwc M1 x))]) (rest := []) (rv := some (.int (zi r3))) (M' := M2) rfl rfl rfl rfl (Nat.le_of_ble_eq_true rfl) (fun _ => rfl) (hc) ?_
          refine am_xn 0 (c1 := (53, [.ref 58, .int (zi d), .int (zi e), .int (zi x), .int (zi (mwc M1 x))], [.int (zi r3)], M2)) rfl ?_
          exact am_xr (some (.int (zi r3))) ⟨rfl, rfl, .int, rfl, rfl⟩ hv
      · replace hv := hv.2 c4
        refine am_xc t_Mo_isCode (.invokestatic 269) 269 (av := [.int (zi x)]) (rest := []) (rv := some (.int (zi 0))) (M' := M) rfl rfl rfl rfl (Nat.le_of_ble_eq_true rfl) (fun h => nomatch h) (by have q := sp_isCode M x g; rwa [if_neg c4] at q) ?_
        refine am_xn 0 (c1 := (18, [.ref 58, .int (zi d), .int (zi e), .int (zi x), .null], [.int (zi 0)], M)) rfl ?_
        refine am_xn 2 (c1 := (23, [.ref 58, .int (zi d), .int (zi e), .int (zi x), .null], [.int (zi (-2))], M)) rfl ?_
        exact am_xr (some (.int (zi (-2)))) ⟨rfl, rfl, .int, rfl, rfl⟩ hv
    · replace hv := hv.2 c5
      refine am_xc t_Mo_isCase (.invokestatic 254) 254 (av := [.int (zi e)]) (rest := []) (rv := some (.int (zi 0))) (M' := M) rfl rfl rfl rfl (Nat.le_of_ble_eq_true rfl) (fun h => nomatch h) (by have q := sp_isCase M e g; rwa [if_neg c5] at q) ?_
      refine am_xn 0 (c1 := (11, [.ref 58, .int (zi d), .int (zi e), .int (zi x), .null], [.int (zi 0)], M)) rfl ?_
      refine am_xn 2 (c1 := (23, [.ref 58, .int (zi d), .int (zi e), .int (zi x), .null], [.int (zi (-2))], M)) rfl ?_
      exact am_xr (some (.int (zi (-2)))) ⟨rfl, rfl, .int, rfl, rfl⟩ hv
  · replace hv := hv.2 c6
    refine am_xc t_Mo_isDay (.invokestatic 80) 80 (av := [.int (zi d)]) (rest := []) (rv := some (.int (zi 0))) (M' := M) rfl rfl rfl rfl (Nat.le_of_ble_eq_true rfl) (fun h => nomatch h) (by have q := sp_isDay M d g; rwa [if_neg c6] at q) ?_
    refine am_xn 0 (c1 := (4, [.ref 58, .int (zi d), .int (zi e), .int (zi x), .null], [.int (zi 0)], M)) rfl ?_
    refine am_xn 2 (c1 := (23, [.ref 58, .int (zi d), .int (zi e), .int (zi x), .null], [.int (zi (-2))], M)) rfl ?_
    exact am_xr (some (.int (zi (-2)))) ⟨rfl, rfl, .int, rfl, rfl⟩ hv
set_option maxRecDepth 100000 in
theorem vc_c_containing (d : Int) (x : Int) (M : am_M) (Q : Option Value → am_M → Prop) (hv : (zr d ∧ zr (9999 : Int)) ∧ ((0 ≤ d ∧ d ≤ 9999 → (zr x ∧ zr (999 : Int)) ∧ ((0 ≤ x ∧ x ≤ 999 → ∃ M1, am_call t_SB_consolidate [.ref 0, .int (zi d), .int (zi (-1))] M none M1 ∧ (∃ (r3 : Int) (M2 : am_M), am_call t_Law_clausesWith [.ref 15, .int (zi x)] M1 (some (.int (zi r3))) M2 ∧ (Q (some (.int (zi r3))) M2))) ∧ (¬ (0 ≤ x ∧ x ≤ 999) → Q (some (.int (zi (-2)))) M))) ∧ (¬ (0 ≤ d ∧ d ≤ 9999) → Q (some (.int (zi (-2)))) M))) : am_x t_SB_containing (0, am_ent (am_mL t_SB_containing) [.ref 0, .int (zi d), .int (zi x)], [], M) Q := by
  refine am_xn 0 (c1 := (0, [.ref 0, .int (zi d), .int (zi x)], [], M)) rfl ?_
  refine am_xn 2 (c1 := (4, [.ref 0, .int (zi d), .int (zi x)], [.int (zi 9999), .int (zi d)], M)) rfl ?_
  obtain ⟨g, hv⟩ := hv
  by_cases c5 : 0 ≤ d ∧ d ≤ 9999
  · replace hv := hv.1 c5
    refine am_xc t_SB_within (.invokestatic 56) 56 (av := [.int (zi d), .int (zi 9999)]) (rest := []) (rv := some (.int (zi 1))) (M' := M) rfl rfl rfl rfl (Nat.le_of_ble_eq_true rfl) (fun h => nomatch h) (by have q := sp_within M d 9999 g; rwa [if_pos c5] at q) ?_
    refine am_xn 0 (c1 := (7, [.ref 0, .int (zi d), .int (zi x)], [.int (zi 1)], M)) rfl ?_
    refine am_xn 3 (c1 := (14, [.ref 0, .int (zi d), .int (zi x)], [.int (zi 999), .int (zi x)], M)) rfl ?_
    obtain ⟨g, hv⟩ := hv
    by_cases c4 : 0 ≤ x ∧ x ≤ 999
    · replace hv := hv.1 c4
      refine am_xc t_SB_within (.invokestatic 56) 56 (av := [.int (zi x), .int (zi 999)]) (rest := []) (rv := some (.int (zi 1))) (M' := M) rfl rfl rfl rfl (Nat.le_of_ble_eq_true rfl) (fun h => nomatch h) (by have q := sp_within M x 999 g; rwa [if_pos c4] at q) ?_
      refine am_xn 0 (c1 := (17, [.ref 0, .int (zi d), .int (zi x)], [.int (zi 1)], M)) rfl ?_
      refine am_xn 4 (c1 := (26, [.ref 0, .int (zi d), .int (zi x)], [.int (zi (-1)), .int (zi d), .ref 0], M)) rfl ?_
      obtain ⟨M1, hc, hv⟩ := hv
      refine am_xc t_SB_consolidate (.invokevirtual 162) 162 (av := [.ref 0, .int (zi d), .int (zi (-1))]) (rest := []) (rv := none) (M' := M1) rfl rfl rfl rfl (Nat.le_of_ble_eq_true rfl) (fun _ => rfl) (hc) ?_
      refine am_xn 0 (c1 := (29, [.ref 0, .int (zi d), .int (zi x)], [], M1)) rfl ?_
      refine am_xn 3 (c1 := (34, [.ref 0, .int (zi d), .int (zi x)], [.int (zi x), .ref 15], M1)) rfl ?_
      obtain ⟨r3, M2, hc, hv⟩ := hv
      refine am_xc t_Law_clausesWith (.invokevirtual 227) 227 (av := [.ref 15, .int (zi x)]) (rest := []) (rv := some (.int (zi r3))) (M' := M2) rfl rfl rfl rfl (Nat.le_of_ble_eq_true rfl) (fun _ => rfl) (hc) ?_
      refine am_xn 0 (c1 := (37, [.ref 0, .int (zi d), .int (zi x)], [.int (zi r3)], M2)) rfl ?_
      exact am_xr (some (.int (zi r3))) ⟨rfl, rfl, .int, rfl, rfl⟩ hv
    · replace hv := hv.2 c4
      refine am_xc t_SB_within (.invokestatic 56) 56 (av := [.int (zi x), .int (zi 999)]) (rest := []) (rv := some (.int (zi 0))) (M' := M) rfl rfl rfl rfl (Nat.le_of_ble_eq_true rfl) (fun h => nomatch h) (by have q := sp_within M x 999 g; rwa [if_neg c4] at q) ?_
      refine am_xn 0 (c1 := (17, [.ref 0, .int (zi d), .int (zi x)], [.int (zi 0)], M)) rfl ?_
      refine am_xn 2 (c1 := (22, [.ref 0, .int (zi d), .int (zi x)], [.int (zi (-2))], M)) rfl ?_
      exact am_xr (some (.int (zi (-2)))) ⟨rfl, rfl, .int, rfl, rfl⟩ hv
  · replace hv := hv.2 c5
    refine am_xc t_SB_within (.invokestatic 56) 56 (av := [.int (zi d), .int (zi 9999)]) (rest := []) (rv := some (.int (zi 0))) (M' := M) rfl rfl rfl rfl (Nat.le_of_ble_eq_true rfl) (fun h => nomatch h) (by have q := sp_within M d 9999 g; rwa [if_neg c5] at q) ?_
    refine am_xn 0 (c1 := (7, [.ref 0, .int (zi d), .int (zi x)], [.int (zi 0)], M)) rfl ?_
    refine am_xn 2 (c1 := (22, [.ref 0, .int (zi d), .int (zi x)], [.int (zi (-2))], M)) rfl ?_
    exact am_xr (some (.int (zi (-2)))) ⟨rfl, rfl, .int, rfl, rfl⟩ hv
set_option maxRecDepth 100000 in
theorem vc_m_containing (d : Int) (x : Int) (M : am_M) (Q : Option Value → am_M → Prop) (hv : (zr d) ∧ ((0 ≤ d ∧ d ≤ 9999 → (zr x ∧ zr (0 : Int) ∧ zr (999 : Int)) ∧ ((0 ≤ x ∧ x ≤ 999 → ∃ M1, am_call t_Mo_laws [.ref 58, .int (zi d), .int (zi (-1))] M none M1 ∧ (∃ (r3 : Int) (M2 : am_M), am_call t_Mo_withWord [.ref 58, .int (zi x)] M1 (some (.int (zi r3))) M2 ∧ (Q (some (.int (zi r3))) M2))) ∧ (¬ (0 ≤ x ∧ x ≤ 999) → Q (some (.int (zi (-2)))) M))) ∧ (¬ (0 ≤ d ∧ d ≤ 9999) → Q (some (.int (zi (-2)))) M))) : am_x t_Mo_containing (0, am_ent (am_mL t_Mo_containing) [.ref 58, .int (zi d), .int (zi x)], [], M) Q := by
  refine am_xn 0 (c1 := (0, [.ref 58, .int (zi d), .int (zi x)], [], M)) rfl ?_
  refine am_xn 1 (c1 := (1, [.ref 58, .int (zi d), .int (zi x)], [.int (zi d)], M)) rfl ?_
  obtain ⟨g, hv⟩ := hv
  by_cases c5 : 0 ≤ d ∧ d ≤ 9999
  · replace hv := hv.1 c5
    refine am_xc t_Mo_isDay (.invokestatic 80) 80 (av := [.int (zi d)]) (rest := []) (rv := some (.int (zi 1))) (M' := M) rfl rfl rfl rfl (Nat.le_of_ble_eq_true rfl) (fun h => nomatch h) (by have q := sp_isDay M d g; rwa [if_pos c5] at q) ?_
    refine am_xn 0 (c1 := (4, [.ref 58, .int (zi d), .int (zi x)], [.int (zi 1)], M)) rfl ?_
    refine am_xn 4 (c1 := (12, [.ref 58, .int (zi d), .int (zi x)], [.int (zi 999), .int (zi 0), .int (zi x)], M)) rfl ?_
    obtain ⟨g, hv⟩ := hv
    by_cases c4 : 0 ≤ x ∧ x ≤ 999
    · replace hv := hv.1 c4
      refine am_xc t_Mo_in (.invokestatic 76) 76 (av := [.int (zi x), .int (zi 0), .int (zi 999)]) (rest := []) (rv := some (.int (zi 1))) (M' := M) rfl rfl rfl rfl (Nat.le_of_ble_eq_true rfl) (fun h => nomatch h) (by have q := sp_in M x 0 999 g; rwa [if_pos c4] at q) ?_
      refine am_xn 0 (c1 := (15, [.ref 58, .int (zi d), .int (zi x)], [.int (zi 1)], M)) rfl ?_
      refine am_xn 4 (c1 := (24, [.ref 58, .int (zi d), .int (zi x)], [.int (zi (-1)), .int (zi d), .ref 58], M)) rfl ?_
      obtain ⟨M1, hc, hv⟩ := hv
      refine am_xc t_Mo_laws (.invokevirtual 140) 140 (av := [.ref 58, .int (zi d), .int (zi (-1))]) (rest := []) (rv := none) (M' := M1) rfl rfl rfl rfl (Nat.le_of_ble_eq_true rfl) (fun _ => rfl) (hc) ?_
      refine am_xn 0 (c1 := (27, [.ref 58, .int (zi d), .int (zi x)], [], M1)) rfl ?_
      refine am_xn 2 (c1 := (29, [.ref 58, .int (zi d), .int (zi x)], [.int (zi x), .ref 58], M1)) rfl ?_
      obtain ⟨r3, M2, hc, hv⟩ := hv
      refine am_xc t_Mo_withWord (.invokevirtual 296) 296 (av := [.ref 58, .int (zi x)]) (rest := []) (rv := some (.int (zi r3))) (M' := M2) rfl rfl rfl rfl (Nat.le_of_ble_eq_true rfl) (fun _ => rfl) (hc) ?_
      refine am_xn 0 (c1 := (32, [.ref 58, .int (zi d), .int (zi x)], [.int (zi r3)], M2)) rfl ?_
      exact am_xr (some (.int (zi r3))) ⟨rfl, rfl, .int, rfl, rfl⟩ hv
    · replace hv := hv.2 c4
      refine am_xc t_Mo_in (.invokestatic 76) 76 (av := [.int (zi x), .int (zi 0), .int (zi 999)]) (rest := []) (rv := some (.int (zi 0))) (M' := M) rfl rfl rfl rfl (Nat.le_of_ble_eq_true rfl) (fun h => nomatch h) (by have q := sp_in M x 0 999 g; rwa [if_neg c4] at q) ?_
      refine am_xn 0 (c1 := (15, [.ref 58, .int (zi d), .int (zi x)], [.int (zi 0)], M)) rfl ?_
      refine am_xn 2 (c1 := (20, [.ref 58, .int (zi d), .int (zi x)], [.int (zi (-2))], M)) rfl ?_
      exact am_xr (some (.int (zi (-2)))) ⟨rfl, rfl, .int, rfl, rfl⟩ hv
  · replace hv := hv.2 c5
    refine am_xc t_Mo_isDay (.invokestatic 80) 80 (av := [.int (zi d)]) (rest := []) (rv := some (.int (zi 0))) (M' := M) rfl rfl rfl rfl (Nat.le_of_ble_eq_true rfl) (fun h => nomatch h) (by have q := sp_isDay M d g; rwa [if_neg c5] at q) ?_
    refine am_xn 0 (c1 := (4, [.ref 58, .int (zi d), .int (zi x)], [.int (zi 0)], M)) rfl ?_
    refine am_xn 2 (c1 := (20, [.ref 58, .int (zi d), .int (zi x)], [.int (zi (-2))], M)) rfl ?_
    exact am_xr (some (.int (zi (-2)))) ⟨rfl, rfl, .int, rfl, rfl⟩ hv
theorem q_clauses {M : am_M} (s : CSt M) {d e : Int} (dz : zr d) (ez : zr e) : QRY t_SB_clauses t_Mo_clauses [.ref 0, .int (zi d), .int (zi e)] [.ref 58, .int (zi d), .int (zi e)] M := by
  obtain ⟨w, cb⟩ := s
  by_cases hl : (0 ≤ d ∧ d ≤ 9999) ∧ (e = -1 ∨ (0 ≤ e ∧ e ≤ 9999))
  · obtain ⟨M4, h4, fr, r4, od⟩ := sp_c_consolidate M w cb dz ez
    refine qry (frc (lw (iv M 59) d e) 40) ⟨Nat.le_of_ble_eq_true rfl, rfl⟩ ⟨Nat.le_of_ble_eq_true rfl, rfl⟩ (vc_c_clauses d e M _ ⟨⟨dz, ez⟩, fun _ => ⟨M4, h4, by rw [od.1], CQ_15 fr⟩, fun q => absurd hl q⟩) (fun M1 hs => ?_)
    obtain ⟨M', a1, a2, a3⟩ := ms_laws hs w dz ez
    exact vc_m_clauses d e M1 _ ⟨dz, fun _ => ⟨ez, fun _ => ⟨M', a1, _, M', sp_inForce a3, rfl, MqF_lf a2⟩, fun q => absurd hl.2 q⟩, fun q => absurd hl.1 q⟩
  · refine qry (-2) ⟨Nat.le_of_ble_eq_true rfl, rfl⟩ ⟨Nat.le_of_ble_eq_true rfl, rfl⟩ (vc_c_clauses d e M _ ⟨⟨dz, ez⟩, fun q => absurd q hl, fun _ => ⟨rfl, CQ_refl M⟩⟩) (fun M1 hs => vc_m_clauses d e M1 _ ⟨dz, fun q => ⟨ez, fun q2 => absurd ⟨q, q2⟩ hl, fun _ => ⟨rfl, MqF_refl M1⟩⟩, fun _ => ⟨rfl, MqF_refl M1⟩⟩)
theorem q_clause {M : am_M} (s : CSt M) {d e i x : Int} (dz : zr d) (ez : zr e) (iz : zr i) (xz : zr x) : QRY t_SB_clause t_Mo_clause [.ref 0, .int (zi d), .int (zi e), .int (zi i), .int (zi x)] [.ref 58, .int (zi d), .int (zi e), .int (zi i), .int (zi x)] M := by
  obtain ⟨w, cb⟩ := s
  by_cases hl : ((0 ≤ d ∧ d ≤ 9999) ∧ (e = -1 ∨ (0 ≤ e ∧ e ≤ 9999))) ∧ (0 ≤ x ∧ x ≤ 3)
  · obtain ⟨hl, hx⟩ := hl
    obtain ⟨M4, h4, fr, r4, od⟩ := sp_c_consolidate M w cb dz ez
    have v := lw_VL w d e
    have ea1 : 0 ≤ i → i < iv M4 15 9 → atx (lw (iv M 59) d e) i = iv M4 25 i := fun a b => (atx_ord v od i).trans (if_pos ⟨a, b⟩)
    have ea0 : ¬ (0 ≤ i ∧ i < iv M4 15 9) → atx (lw (iv M 59) d e) i = -1 := fun a => (atx_ord v od i).trans (if_neg a)
    have n40 := frc40 (lw (iv M 59) d e)
    have en := od.1
    refine qry (if atx (lw (iv M 59) d e) i = -1 then -2 else abt (lw (iv M 59) d e) (atx (lw (iv M 59) d e) i) x) ⟨Nat.le_of_ble_eq_true rfl, rfl⟩ ⟨Nat.le_of_ble_eq_true rfl, rfl⟩ (vc_c_clause d e i x M _ ⟨⟨dz, ez⟩, fun _ => ⟨⟨xz, by decide⟩, fun _ => ⟨M4, h4, iz, fun q => ⟨?_, CQ_15 fr⟩, fun q => ⟨fun q2 => ⟨⟨q, by omega⟩, ?_⟩, fun q2 => ⟨?_, CQ_15 fr⟩⟩⟩, fun q => absurd hx q⟩, fun q => absurd hl q⟩) (fun M1 hs => ?_)
    · rw [ea0 (by omega), if_pos rfl]
    · have oi := od.2.1 i q q2
      refine ⟨_, M4, sp_clausePart r4 oi.1 oi.2.1 oi.2.2 xz, ?_, CQ_15 fr⟩
      rw [ea1 q q2, if_neg (by omega)]
    · rw [ea0 (by omega), if_pos rfl]
    · obtain ⟨M', a1, a2, a3⟩ := ms_laws hs w dz ez
      have ar := atx_rg (lw (iv M 59) d e) i
      refine vc_m_clause d e i x M1 _ ⟨dz, fun _ => ⟨ez, fun _ => ⟨⟨xz, by decide, by decide⟩, fun _ => ⟨M', a1, _, M', sp_atIndex v a3 iz, ⟨by omega, by omega⟩, fun q => ⟨by rw [if_pos q], MqF_lf a2⟩, fun q => ?_⟩, fun q => absurd hx q⟩, fun q => absurd hl.2 q⟩, fun q => absurd hl.1 q⟩
      rcases atx_is (lw (iv M 59) d e) i with z | z
      · exact absurd z.1 q
      · exact ⟨_, M', sp_about a3 z.1 z.2.1 z.2.2.1 xz, by rw [if_neg q], MqF_lf a2⟩
  · refine qry (-2) ⟨Nat.le_of_ble_eq_true rfl, rfl⟩ ⟨Nat.le_of_ble_eq_true rfl, rfl⟩ (vc_c_clause d e i x M _ ⟨⟨dz, ez⟩, fun q => ⟨⟨xz, by decide⟩, fun q2 => absurd ⟨q, q2⟩ hl, fun _ => ⟨rfl, CQ_refl M⟩⟩, fun _ => ⟨rfl, CQ_refl M⟩⟩) (fun M1 hs => vc_m_clause d e i x M1 _ ⟨dz, fun q => ⟨ez, fun q2 => ⟨⟨xz, by decide, by decide⟩, fun q3 => absurd ⟨⟨q, q2⟩, q3⟩ hl, fun _ => ⟨rfl, MqF_refl M1⟩⟩, fun _ => ⟨rfl, MqF_refl M1⟩⟩, fun _ => ⟨rfl, MqF_refl M1⟩⟩)
theorem q_textWord {M : am_M} (s : CSt M) {d e i x : Int} (dz : zr d) (ez : zr e) (iz : zr i) (xz : zr x) : QRY t_SB_textWord t_Mo_textWord [.ref 0, .int (zi d), .int (zi e), .int (zi i), .int (zi x)] [.ref 58, .int (zi d), .int (zi e), .int (zi i), .int (zi x)] M := by
  obtain ⟨w, cb⟩ := s
  by_cases hl : (0 ≤ d ∧ d ≤ 9999) ∧ (e = -1 ∨ (0 ≤ e ∧ e ≤ 9999))
  · obtain ⟨M4, h4, fr, r4, od⟩ := sp_c_consolidate M w cb dz ez
    have v := lw_VL w d e
    have ea1 : 0 ≤ i → i < iv M4 15 9 → atx (lw (iv M 59) d e) i = iv M4 25 i := fun a b => (atx_ord v od i).trans (if_pos ⟨a, b⟩)
    have ea0 : ¬ (0 ≤ i ∧ i < iv M4 15 9) → atx (lw (iv M 59) d e) i = -1 := fun a => (atx_ord v od i).trans (if_neg a)
    have n40 := frc40 (lw (iv M 59) d e)
    have en := od.1
    refine qry (if atx (lw (iv M 59) d e) i = -1 ∨ ¬ (0 ≤ x ∧ x < (lw (iv M 59) d e).len (atx (lw (iv M 59) d e) i)) then -2 else tw (lw (iv M 59) d e) (atx (lw (iv M 59) d e) i) x) ⟨Nat.le_of_ble_eq_true rfl, rfl⟩ ⟨Nat.le_of_ble_eq_true rfl, rfl⟩ (vc_c_textWord d e i x M _ ⟨⟨dz, ez⟩, fun _ => ⟨M4, h4, iz, fun q => ⟨?_, CQ_15 fr⟩, fun q => ⟨fun q2 => ⟨xz, fun q3 => ⟨?_, CQ_15 fr⟩, fun q3 => ⟨⟨q, by omega⟩, ?_⟩⟩, fun q2 => ⟨?_, CQ_15 fr⟩⟩⟩, fun q => absurd hl q⟩) (fun M1 hs => ?_)
    · rw [ea0 (by omega), if_pos (Or.inl rfl)]
    · rw [if_pos (Or.inr (by omega))]
    · have oi := od.2.1 i q q2
      have el := (r4.2.1 _ oi.1 oi.2.1 oi.2.2).1
      rw [ea1 q q2, el]
      refine ⟨⟨oi.1, oi.2.1⟩, fun q4 => ⟨⟨q, by omega⟩, _, M4, sp_presentWord v r4 oi.1 oi.2.1 oi.2.2 q3 q4, ?_, CQ_15 fr⟩, fun q4 => ⟨?_, CQ_15 fr⟩⟩
      · rw [if_neg (by omega)]
      · rw [if_pos (Or.inr (by omega))]
    · rw [ea0 (by omega), if_pos (Or.inl rfl)]
    · obtain ⟨M', a1, a2, a3⟩ := ms_laws hs w dz ez
      have ar := atx_rg (lw (iv M 59) d e) i
      refine vc_m_textWord d e i x M1 _ ⟨dz, fun _ => ⟨ez, fun _ => ⟨M', a1, _, M', sp_atIndex v a3 iz, ⟨by omega, by omega⟩, fun q => ⟨by rw [if_pos (Or.inl q)], MqF_lf a2⟩, fun q => ?_⟩, fun q => absurd hl.2 q⟩, fun q => absurd hl.1 q⟩
      rcases atx_is (lw (iv M 59) d e) i with z | z
      · exact absurd z.1 q
      · have el := (a3.2.1 _ z.1 z.2.1 z.2.2.1).2.1
        have ln := v.ln _ z.1 z.2.1 z.2.2.1
        rw [el]
        exact ⟨⟨z.1, z.2.1⟩, ⟨xz, by decide, ⟨by omega, by omega⟩⟩, fun q2 => ⟨_, M', sp_toldWord v a3 z.1 z.2.1 z.2.2.1 q2.1 (by omega), by rw [if_neg (by omega)], MqF_lf a2⟩, fun q2 => ⟨by rw [if_pos (Or.inr (by omega))], MqF_lf a2⟩⟩
  · refine qry (-2) ⟨Nat.le_of_ble_eq_true rfl, rfl⟩ ⟨Nat.le_of_ble_eq_true rfl, rfl⟩ (vc_c_textWord d e i x M _ ⟨⟨dz, ez⟩, fun q => absurd q hl, fun _ => ⟨rfl, CQ_refl M⟩⟩) (fun M1 hs => vc_m_textWord d e i x M1 _ ⟨dz, fun q => ⟨ez, fun q2 => absurd ⟨q, q2⟩ hl, fun _ => ⟨rfl, MqF_refl M1⟩⟩, fun _ => ⟨rfl, MqF_refl M1⟩⟩)
theorem q_find {M : am_M} (s : CSt M) {d e x : Int} (dz : zr d) (ez : zr e) (xz : zr x) : QRY t_SB_find t_Mo_find [.ref 0, .int (zi d), .int (zi e), .int (zi x)] [.ref 58, .int (zi d), .int (zi e), .int (zi x)] M := by
  obtain ⟨w, cb⟩ := s
  by_cases hl : ((0 ≤ d ∧ d ≤ 9999) ∧ (e = -1 ∨ (0 ≤ e ∧ e ≤ 9999))) ∧ isCd x
  · obtain ⟨hl, hx⟩ := hl
    have x0 : ¬ x = 0 := by omega
    obtain ⟨M4, h4, fr, r4, od⟩ := sp_c_consolidate M w cb dz ez
    have v := lw_VL w d e
    refine qry (if hold (lw (iv M 59) d e) x = -1 then -1 else rank (lw (iv M 59) d e) (hold (lw (iv M 59) d e) x)) ⟨Nat.le_of_ble_eq_true rfl, rfl⟩ ⟨Nat.le_of_ble_eq_true rfl, rfl⟩ (vc_c_find d e x M _ ⟨⟨dz, ez⟩, fun _ => ⟨xz, fun _ => ⟨M4, h4, _, M4, sp_l15_indexOf v r4 od x0 xz, rfl, CQ_15 fr⟩, fun q => absurd hx q⟩, fun q => absurd hl q⟩) (fun M1 hs => ?_)
    obtain ⟨M', a1, a2, a3⟩ := ms_laws hs w dz ez
    refine vc_m_find d e x M1 _ ⟨dz, fun _ => ⟨ez, fun _ => ⟨xz, fun _ => ⟨M', a1, xz, ?_⟩, fun q => absurd hx q⟩, fun q => absurd hl.2 q⟩, fun q => absurd hl.1 q⟩
    rw [mwc_hold v a3 x0]
    refine ⟨fun q => ⟨by rw [if_pos q], MqF_lf a2⟩, fun q => ?_⟩
    have hc := hold_cd q
    exact ⟨_, M', sp_indexOf a3 hc.1 hc.2.1 (by rw [hc.2.2]; exact x0), by rw [if_neg q], MqF_lf a2⟩
  · refine qry (-2) ⟨Nat.le_of_ble_eq_true rfl, rfl⟩ ⟨Nat.le_of_ble_eq_true rfl, rfl⟩ (vc_c_find d e x M _ ⟨⟨dz, ez⟩, fun q => ⟨xz, fun q2 => absurd ⟨q, q2⟩ hl, fun _ => ⟨rfl, CQ_refl M⟩⟩, fun _ => ⟨rfl, CQ_refl M⟩⟩) (fun M1 hs => vc_m_find d e x M1 _ ⟨dz, fun q => ⟨ez, fun q2 => ⟨xz, fun q3 => absurd ⟨⟨q, q2⟩, q3⟩ hl, fun _ => ⟨rfl, MqF_refl M1⟩⟩, fun _ => ⟨rfl, MqF_refl M1⟩⟩, fun _ => ⟨rfl, MqF_refl M1⟩⟩)
theorem q_containing {M : am_M} (s : CSt M) {d x : Int} (dz : zr d) (xz : zr x) : QRY t_SB_containing t_Mo_containing [.ref 0, .int (zi d), .int (zi x)] [.ref 58, .int (zi d), .int (zi x)] M := by
  obtain ⟨w, cb⟩ := s
  by_cases hl : (0 ≤ d ∧ d ≤ 9999) ∧ (0 ≤ x ∧ x ≤ 999)
  · obtain ⟨M4, h4, fr, r4, od⟩ := sp_c_consolidate M w cb dz (cas := -1) (by decide)
    have v := lw_VL w d (-1)
    refine qry (wwd (lw (iv M 59) d (-1)) x) ⟨Nat.le_of_ble_eq_true rfl, rfl⟩ ⟨Nat.le_of_ble_eq_true rfl, rfl⟩ (vc_c_containing d x M _ ⟨⟨dz, by decide⟩, fun _ => ⟨⟨xz, by decide⟩, fun _ => ⟨M4, h4, _, M4, sp_l15_clausesWith v r4 od xz, rfl, CQ_15 fr⟩, fun q => absurd hl.2 q⟩, fun q => absurd hl.1 q⟩) (fun M1 hs => ?_)
    obtain ⟨M', a1, a2, a3⟩ := ms_laws hs w dz (cas := -1) (by decide)
    exact vc_m_containing d x M1 _ ⟨dz, fun _ => ⟨⟨xz, by decide, by decide⟩, fun _ => ⟨M', a1, _, M', sp_withWord v a3 xz, rfl, MqF_lf a2⟩, fun q => absurd hl.2 q⟩, fun q => absurd hl.1 q⟩
  · refine qry (-2) ⟨Nat.le_of_ble_eq_true rfl, rfl⟩ ⟨Nat.le_of_ble_eq_true rfl, rfl⟩ (vc_c_containing d x M _ ⟨⟨dz, by decide⟩, fun q => ⟨⟨xz, by decide⟩, fun q2 => absurd ⟨q, q2⟩ hl, fun _ => ⟨rfl, CQ_refl M⟩⟩, fun _ => ⟨rfl, CQ_refl M⟩⟩) (fun M1 hs => vc_m_containing d x M1 _ ⟨dz, fun q => ⟨⟨xz, by decide, by decide⟩, fun q2 => absurd ⟨q, q2⟩ hl, fun _ => ⟨rfl, MqF_refl M1⟩⟩, fun _ => ⟨rfl, MqF_refl M1⟩⟩)
