/-! both programs renumber everything -/
def tgo (q : Int → Int) (i w : Int) : Int := if w = 0 then 3 else if w = 1 then q i else if w = 2 then (i + 1) * 729 else 0
def tdn (q : Int → Int) (n : Int) : Nat → List Int
  | 0 => []
  | m + 1 => if q (n - 1 - m) < (n - 1 - m + 1) * 729 then tdn q n m ++ [n - 1 - m] else tdn q n m
def tup (q : Int → Int) (n : Int) : Nat → List Int
  | 0 => tdn q n n.toNat
  | k + 1 => if ((k : Int) + 1) * 729 < q k then tup q n k ++ [(k : Int)] else tup q n k
def s1_ (q : Int → Int) (i : Int) : Int := if q i < (i + 1) * 729 then 1 else 0
def s2_ (q : Int → Int) (i : Int) : Int := if (i + 1) * 729 < q i then 1 else 0
theorem tdn_len (q : Int → Int) (n : Int) : ∀ m : Nat, (m : Int) ≤ n → ((tdn q n m).length : Int) + sm (s1_ q) (n - m) = sm (s1_ q) n := by
  intro m
  induction m with
  | zero => intro _; rw [show n - ((0 : Nat) : Int) = n by omega]; show (0 : Int) + _ = _; omega
  | succ m ih =>
    intro h
    have a := ih (by omega)
    rw [show n - (m : Int) = n - 1 - m + 1 by omega, sm_s _ (by omega)] at a
    rw [show n - ((m + 1 : Nat) : Int) = n - 1 - m by omega]
    unfold tdn
    unfold s1_ at a ⊢
    by_cases z : q (n - 1 - m) < (n - 1 - m + 1) * 729
    · rw [if_pos z] at a
      rw [if_pos z, List.length_append]
      show ((((tdn q n m).length + 1 : Nat)) : Int) + _ = _
      omega
    · rw [if_neg z] at a
      rw [if_neg z]
      omega
theorem tdn_le (q : Int → Int) (n : Int) : ∀ m : Nat, (tdn q n m).length ≤ m := by
  intro m
  induction m with
  | zero => exact Nat.le_refl _
  | succ m ih =>
    unfold tdn
    split
    · rw [List.length_append]; show (tdn q n m).length + 1 ≤ m + 1; omega
    · omega
theorem tup_len (q : Int → Int) (n : Int) (h : 0 ≤ n) : ∀ k : Nat, ((tup q n k).length : Int) = sm (s1_ q) n + sm (s2_ q) k := by
  intro k
  induction k with
  | zero =>
    have a := tdn_len q n n.toNat (by omega)
    rw [show n - ((n.toNat : Nat) : Int) = 0 by omega, sm_0] at a
    show ((tdn q n n.toNat).length : Int) = _ + sm (s2_ q) 0
    rw [sm_0]
    omega
  | succ k ih =>
    rw [show ((k + 1 : Nat) : Int) = (k : Int) + 1 by omega, sm_s _ (by omega)]
    unfold tup
    unfold s2_ at ih ⊢
    by_cases z : ((k : Int) + 1) * 729 < q k
    · rw [if_pos z, if_pos z, List.length_append]
      show ((((tup q n k).length + 1 : Nat)) : Int) = _
      omega
    · rw [if_neg z, if_neg z]; omega
theorem tup_lt (q : Int → Int) (n : Int) (h : 0 ≤ n) {k : Nat} (hk : (k : Int) < n) (z : ((k : Int) + 1) * 729 < q k) : ((tup q n k).length : Int) < n := by
  have a := tup_len q n h (k + 1)
  have a0 := tup_len q n h k
  rw [show ((k + 1 : Nat) : Int) = (k : Int) + 1 by omega, sm_s _ (by omega)] at a
  have e : s2_ q k = 1 := if_pos z
  have b := sm_mono (s2_ q) (m := (k : Int) + 1) (n := n) (by omega) (by omega) (fun i _ _ => by unfold s2_; split <;> omega)
  rw [sm_s _ (by omega)] at b
  have c := sm_addf (s1_ q) (s2_ q) n
  have d := sm_le (fun i => s1_ q i + s2_ q i) (fun _ => 1) n (fun i _ _ => by
    show s1_ q i + s2_ q i ≤ 1
    unfold s1_ s2_
    split
    · rw [if_neg (by omega)]; omega
    · split <;> omega)
  have h2 : ∀ k : Nat, zsum (fun _ => 1) k = k := by
    intro k
    induction k with
    | zero => rfl
    | succ k ih => show zsum _ k + 1 = _; omega
  have h3 : sm (fun _ => 1) n = ((n.toNat : Nat) : Int) := h2 n.toNat
  omega
theorem tup_le (q : Int → Int) (n : Int) (h : 0 ≤ n) : ∀ k : Nat, (k : Int) ≤ n → ((tup q n k).length : Int) ≤ n := by
  intro k
  induction k with
  | zero =>
    intro _
    have := tdn_le q n n.toNat
    show ((tdn q n n.toNat).length : Int) ≤ n
    omega
  | succ k ih =>
    intro hk
    unfold tup
    by_cases z : ((k : Int) + 1) * 729 < q k
    · rw [if_pos z, List.length_append]
      have := tup_lt q n h (k := k) (by omega) z
      show ((((tup q n k).length + 1 : Nat)) : Int) ≤ n
      omega
    · rw [if_neg z]; exact ih (by omega)
theorem tdn_mem (q : Int → Int) (n : Int) : ∀ m : Nat, (m : Int) ≤ n → ∀ x ∈ tdn q n m, 0 ≤ x ∧ x < n := by
  intro m
  induction m with
  | zero => intro _ x hx; cases hx
  | succ m ih =>
    intro h x hx
    unfold tdn at hx
    by_cases z : q (n - 1 - m) < (n - 1 - m + 1) * 729
    · rw [if_pos z] at hx
      rcases List.mem_append.mp hx with y | y
      · exact ih (by omega) x y
      · have := List.mem_singleton.mp y; omega
    · rw [if_neg z] at hx
      exact ih (by omega) x hx
theorem tup_mem (q : Int → Int) (n : Int) (h0 : 0 ≤ n) : ∀ k : Nat, (k : Int) ≤ n → ∀ x ∈ tup q n k, 0 ≤ x ∧ x < n := by
  intro k
  induction k with
  | zero => intro _; exact tdn_mem q n n.toNat (by omega)
  | succ k ih =>
    intro h x hx
    unfold tup at hx
    by_cases z : ((k : Int) + 1) * 729 < q k
    · rw [if_pos z] at hx
      rcases List.mem_append.mp hx with y | y
      · exact ih (by omega) x y
      · have := List.mem_singleton.mp y; omega
    · rw [if_neg z] at hx
      exact ih (by omega) x hx
def TDc (q : Int → Int) (l : List Int) (s : am_M) : Prop := iv s 4 1 = l.length ∧ iv s 4 2 = 0 ∧ ∀ j : Nat, j < l.length → DO (fun w => iv s 6 (j * 13 + w)) (tgo q (l.getD j 0))
def TDm (q : Int → Int) (l : List Int) (s : am_M) : Prop := iv s 58 21 = l.length ∧ ∀ j : Nat, j < l.length → ∀ w, 0 ≤ w → w < 12 → iv s 74 (12 * j + w) = tgo q (l.getD j 0) w
set_option maxRecDepth 100000 in
theorem vc_c_tidy (d : Int) (M : am_M) (Q : Option Value → am_M → Prop) (hv : (zr d ∧ zr (9999 : Int)) ∧ ((0 ≤ d ∧ d ≤ 9999 → ∃ M1, am_call t_SB_consolidate [.ref 0, .int (zi d), .int (zi (-1))] M none M1 ∧ (∃ M2, am_call t_SB_draftTidying [.ref 0, .ref 4] M1 none M2 ∧ (((iv M2 4 1) = 0 → Q (some (.int (zi (-3)))) M2) ∧ (¬ (iv M2 4 1) = 0 → ∃ (r4 : Int) (M3 : am_M), am_call t_SB_addDraft [.ref 0, .int (zi d)] M2 (some (.int (zi r4))) M3 ∧ (Q (some (.int (zi r4))) M3))))) ∧ (¬ (0 ≤ d ∧ d ≤ 9999) → Q (some (.int (zi (-2)))) M))) : am_x t_SB_tidy (0, am_ent (am_mL t_SB_tidy) [.ref 0, .int (zi d)], [], M) Q := by
  refine am_xn 0 (c1 := (0, [.ref 0, .int (zi d)], [], M)) rfl ?_
  refine am_xn 2 (c1 := (4, [.ref 0, .int (zi d)], [.int (zi 9999), .int (zi d)], M)) rfl ?_
  obtain ⟨g, hv⟩ := hv
  by_cases c5 : 0 ≤ d ∧ d ≤ 9999
  · replace hv := hv.1 c5
    refine am_xc t_SB_within (.invokestatic 56) 56 (av := [.int (zi d), .int (zi 9999)]) (rest := []) (rv := some (.int (zi 1))) (M' := M) rfl rfl rfl rfl (Nat.le_of_ble_eq_true rfl) (fun h => nomatch h) (by have q := sp_within M d 9999 g; rwa [if_pos c5] at q) ?_
    refine am_xn 0 (c1 := (7, [.ref 0, .int (zi d)], [.int (zi 1)], M)) rfl ?_
    refine am_xn 4 (c1 := (16, [.ref 0, .int (zi d)], [.int (zi (-1)), .int (zi d), .ref 0], M)) rfl ?_
    obtain ⟨M1, hc, hv⟩ := hv
    refine am_xc t_SB_consolidate (.invokevirtual 162) 162 (av := [.ref 0, .int (zi d), .int (zi (-1))]) (rest := []) (rv := none) (M' := M1) rfl rfl rfl rfl (Nat.le_of_ble_eq_true rfl) (fun _ => rfl) (hc) ?_
    refine am_xn 0 (c1 := (19, [.ref 0, .int (zi d)], [], M1)) rfl ?_
    refine am_xn 4 (c1 := (27, [.ref 0, .int (zi d)], [.ref 4, .ref 0], M1)) rfl ?_
    obtain ⟨M2, hc, hv⟩ := hv
    refine am_xc t_SB_draftTidying (.invokevirtual 277) 277 (av := [.ref 0, .ref 4]) (rest := []) (rv := none) (M' := M2) rfl rfl rfl rfl (Nat.le_of_ble_eq_true rfl) (fun _ => rfl) (hc) ?_
    refine am_xn 0 (c1 := (30, [.ref 0, .int (zi d)], [], M2)) rfl ?_
    refine am_xn 3 (c1 := (37, [.ref 0, .int (zi d)], [.ref 4], M2)) rfl ?_
    refine am_xc t_Dra_size (.invokevirtual 281) 281 (av := [.ref 4]) (rest := []) (rv := some (.int (zi (iv M2 4 1)))) (M' := M2) rfl rfl rfl rfl (Nat.le_of_ble_eq_true rfl) (fun _ => rfl) (sp_d_size M2) ?_
    refine am_xn 0 (c1 := (40, [.ref 0, .int (zi d)], [.int (zi (iv M2 4 1))], M2)) rfl ?_
    refine am_xn 1 (c1 := (if zi (iv M2 4 1) = zi 0 then 43 else 48, [.ref 0, .int (zi d)], [], M2)) rfl (am_xeq (iv_r _ _ _) (by decide) (fun h => ?_) (fun h => ?_))
    · replace hv := hv.1 h
      refine am_xn 2 (c1 := (53, [.ref 0, .int (zi d)], [.int (zi (-3))], M2)) rfl ?_
      exact am_xr (some (.int (zi (-3)))) ⟨rfl, rfl, .int, rfl, rfl⟩ hv
    · replace hv := hv.2 h
      refine am_xn 2 (c1 := (50, [.ref 0, .int (zi d)], [.int (zi d), .ref 0], M2)) rfl ?_
      obtain ⟨r4, M3, hc, hv⟩ := hv
      refine am_xc t_SB_addDraft (.invokevirtual 76) 76 (av := [.ref 0, .int (zi d)]) (rest := []) (rv := some (.int (zi r4))) (M' := M3) rfl rfl rfl rfl (Nat.le_of_ble_eq_true rfl) (fun _ => rfl) (hc) ?_
      refine am_xn 0 (c1 := (53, [.ref 0, .int (zi d)], [.int (zi r4)], M3)) rfl ?_
      exact am_xr (some (.int (zi r4))) ⟨rfl, rfl, .int, rfl, rfl⟩ hv
  · replace hv := hv.2 c5
    refine am_xc t_SB_within (.invokestatic 56) 56 (av := [.int (zi d), .int (zi 9999)]) (rest := []) (rv := some (.int (zi 0))) (M' := M) rfl rfl rfl rfl (Nat.le_of_ble_eq_true rfl) (fun h => nomatch h) (by have q := sp_within M d 9999 g; rwa [if_neg c5] at q) ?_
    refine am_xn 0 (c1 := (7, [.ref 0, .int (zi d)], [.int (zi 0)], M)) rfl ?_
    refine am_xn 2 (c1 := (12, [.ref 0, .int (zi d)], [.int (zi (-2))], M)) rfl ?_
    exact am_xr (some (.int (zi (-2)))) ⟨rfl, rfl, .int, rfl, rfl⟩ hv
set_option maxRecDepth 100000 in
theorem vc_draftTidying  (M : am_M) (Q : Option Value → am_M → Prop) (hv : ∃ M1, am_call t_Dra_makeEmpty [.ref 4] M none M1 ∧ (am_x t_SB_draftTidying (14, [.ref 0, .ref 4, .int (zi ((iv M1 15 9) - 1)), .null], [], M1) Q)) : am_x t_SB_draftTidying (0, am_ent (am_mL t_SB_draftTidying) [.ref 0, .ref 4], [], M) Q := by
  refine am_xn 0 (c1 := (0, [.ref 0, .ref 4, .null, .null], [], M)) rfl ?_
  refine am_xn 1 (c1 := (1, [.ref 0, .ref 4, .null, .null], [.ref 4], M)) rfl ?_
  obtain ⟨M1, hc, hv⟩ := hv
  refine am_xc t_Dra_makeEmpty (.invokevirtual 284) 284 (av := [.ref 4]) (rest := []) (rv := none) (M' := M1) rfl rfl rfl rfl (Nat.le_of_ble_eq_true rfl) (fun _ => rfl) (hc) ?_
  refine am_xn 0 (c1 := (4, [.ref 0, .ref 4, .null, .null], [], M1)) rfl ?_
  refine am_xn 2 (c1 := (8, [.ref 0, .ref 4, .null, .null], [.ref 15], M1)) rfl ?_
  refine am_xc t_Law_size (.invokevirtual 165) 165 (av := [.ref 15]) (rest := []) (rv := some (.int (zi (iv M1 15 9)))) (M' := M1) rfl rfl rfl rfl (Nat.le_of_ble_eq_true rfl) (fun _ => rfl) (sp_l15_size M1) ?_
  refine am_xn 0 (c1 := (11, [.ref 0, .ref 4, .null, .null], [.int (zi (iv M1 15 9))], M1)) rfl ?_
  refine am_xisub 2 (iv M1 15 9) 1 (pc := 13) (ls := [.ref 0, .ref 4, .null, .null]) (st := []) rfl ?_
  refine am_xn 1 (c1 := (14, [.ref 0, .ref 4, .int (zi ((iv M1 15 9) - 1)), .null], [], M1)) rfl ?_
  exact hv
set_option maxRecDepth 100000 in
theorem vc_draftTidying_14 (x2 : Int) (M : am_M) (Q : Option Value → am_M → Prop) (hv : (zr x2) ∧ ((x2 < 0 → am_x t_SB_draftTidying (71, [.ref 0, .ref 4, .int (zi 0), .null], [], M) Q) ∧ (0 ≤ x2 → (0 ≤ x2 ∧ x2 < 40) ∧ ((0 ≤ (iv M 25 x2) ∧ (iv M 25 x2) < 40) ∧ ((zr ((x2 + 1) * 729)) ∧ (((iv M 17 (iv M 25 x2)) < ((x2 + 1) * 729) → ∃ M3, am_call t_Dra_begin [.ref 4, .int (zi 3), .int (zi (iv M 17 (iv M 25 x2)))] M none M3 ∧ ((0 ≤ (iv M3 4 1 - 1) * 13 + (2 : Int) ∧ (iv M3 4 1 - 1) * 13 + (2 : Int) < 520) ∧ (∀ M4, M4 = zup M3 6 ((iv M3 4 1 - 1) * 13 + 2) ((x2 + 1) * 729) → am_x t_SB_draftTidying (14, [.ref 0, .ref 4, .int (zi (x2 + (-1))), .null], [], M4) Q))) ∧ (((x2 + 1) * 729) ≤ (iv M 17 (iv M 25 x2)) → am_x t_SB_draftTidying (14, [.ref 0, .ref 4, .int (zi (x2 + (-1))), .null], [], M) Q))))))) : am_x t_SB_draftTidying (14, [.ref 0, .ref 4, .int (zi x2), .null], [], M) Q := by
  obtain ⟨r1, hv⟩ := hv
  refine am_xn 2 (c1 := (if zi x2 < zi 0 then 69 else 18, [.ref 0, .ref 4, .int (zi x2), .null], [], M)) rfl (am_xlt r1 (by decide) (fun h => ?_) (fun h => ?_))
  · replace hv := hv.1 h
    refine am_xn 2 (c1 := (71, [.ref 0, .ref 4, .int (zi 0), .null], [], M)) rfl ?_
    exact hv
  · replace hv := hv.2 h
    refine am_xn 5 (c1 := (27, [.ref 0, .ref 4, .int (zi x2), .null], [.int (zi x2), .ref 15, .ref 15], M)) rfl ?_
    obtain ⟨g, hv⟩ := hv
    refine am_xc t_Law_at (.invokevirtual 166) 166 (av := [.ref 15, .int (zi x2)]) (rest := [.ref 15]) (rv := some (.int (zi (iv M 25 x2)))) (M' := M) rfl rfl rfl rfl (Nat.le_of_ble_eq_true rfl) (fun _ => rfl) (sp_l15_at M x2 g) ?_
    refine am_xn 0 (c1 := (30, [.ref 0, .ref 4, .int (zi x2), .null], [.int (zi (iv M 25 x2)), .ref 15], M)) rfl ?_
    obtain ⟨g, hv⟩ := hv
    refine am_xc t_Law_code (.invokevirtual 172) 172 (av := [.ref 15, .int (zi (iv M 25 x2))]) (rest := []) (rv := some (.int (zi (iv M 17 (iv M 25 x2))))) (M' := M) rfl rfl rfl rfl (Nat.le_of_ble_eq_true rfl) (fun _ => rfl) (sp_l15_code M (iv M 25 x2) g) ?_
    refine am_xn 0 (c1 := (33, [.ref 0, .ref 4, .int (zi x2), .null], [.int (zi (iv M 17 (iv M 25 x2)))], M)) rfl ?_
    refine am_xiadd 4 x2 1 (pc := 37) (ls := [.ref 0, .ref 4, .int (zi x2), .int (zi (iv M 17 (iv M 25 x2)))]) (st := []) rfl ?_
    refine am_ximul 2 (x2 + 1) 729 (pc := 41) (ls := [.ref 0, .ref 4, .int (zi x2), .int (zi (iv M 17 (iv M 25 x2)))]) (st := []) rfl ?_
    obtain ⟨r2, hv⟩ := hv
    refine am_xn 2 (c1 := (if zi (iv M 17 (iv M 25 x2)) < zi ((x2 + 1) * 729) then 45 else 63, [.ref 0, .ref 4, .int (zi x2), .int (zi (iv M 17 (iv M 25 x2)))], [], M)) rfl (am_xlt (iv_r _ _ _) r2 (fun h => ?_) (fun h => ?_))
    · replace hv := hv.1 h
      refine am_xn 3 (c1 := (48, [.ref 0, .ref 4, .int (zi x2), .int (zi (iv M 17 (iv M 25 x2)))], [.int (zi (iv M 17 (iv M 25 x2))), .int (zi 3), .ref 4], M)) rfl ?_
      obtain ⟨M3, hc, hv⟩ := hv
      refine am_xc t_Dra_begin (.invokevirtual 285) 285 (av := [.ref 4, .int (zi 3), .int (zi (iv M 17 (iv M 25 x2)))]) (rest := []) (rv := none) (M' := M3) rfl rfl rfl rfl (Nat.le_of_ble_eq_true rfl) (fun _ => rfl) (hc) ?_
      refine am_xn 0 (c1 := (51, [.ref 0, .ref 4, .int (zi x2), .int (zi (iv M 17 (iv M 25 x2)))], [], M3)) rfl ?_
      refine am_xiadd 5 x2 1 (pc := 56) (ls := [.ref 0, .ref 4, .int (zi x2), .int (zi (iv M 17 (iv M 25 x2)))]) (st := [.int (zi 2), .ref 4]) rfl ?_
      refine am_ximul 2 (x2 + 1) 729 (pc := 60) (ls := [.ref 0, .ref 4, .int (zi x2), .int (zi (iv M 17 (iv M 25 x2)))]) (st := [.int (zi 2), .ref 4]) rfl ?_
      obtain ⟨g, hv⟩ := hv
      obtain ⟨M4, eM4⟩ : ∃ m, m = zup M3 6 ((iv M3 4 1 - 1) * 13 + 2) ((x2 + 1) * 729) := ⟨_, rfl⟩
      replace hv := hv M4 eM4
      refine am_xc t_Dra_put (.invokevirtual 288) 288 (av := [.ref 4, .int (zi 2), .int (zi ((x2 + 1) * 729))]) (rest := []) (rv := none) (M' := M4) rfl rfl rfl rfl (Nat.le_of_ble_eq_true rfl) (fun _ => rfl) (by rw [eM4]; exact sp_put M3 2 ((x2 + 1) * 729) g) ?_
      refine am_xn 0 (c1 := (63, [.ref 0, .ref 4, .int (zi x2), .int (zi (iv M 17 (iv M 25 x2)))], [], M4)) rfl ?_
      refine am_xn 1 (c1 := (66, [.ref 0, .ref 4, .int (zi x2 + zi (-1)), .int (zi (iv M 17 (iv M 25 x2)))], [], M4)) rfl ?_
      rw [zi_add]
      refine am_xn 1 (c1 := (14, [.ref 0, .ref 4, .int (zi (x2 + (-1))), .int (zi (iv M 17 (iv M 25 x2)))], [], M4)) rfl ?_
      refine am_xf 3 ?_
      exact hv
    · replace hv := hv.2 h
      refine am_xn 1 (c1 := (66, [.ref 0, .ref 4, .int (zi x2 + zi (-1)), .int (zi (iv M 17 (iv M 25 x2)))], [], M)) rfl ?_
      rw [zi_add]
      refine am_xn 1 (c1 := (14, [.ref 0, .ref 4, .int (zi (x2 + (-1))), .int (zi (iv M 17 (iv M 25 x2)))], [], M)) rfl ?_
      refine am_xf 3 ?_
      exact hv
set_option maxRecDepth 100000 in
theorem vc_draftTidying_71 (x2 : Int) (M : am_M) (Q : Option Value → am_M → Prop) (hv : (zr x2) ∧ ((x2 < (iv M 15 9) → (0 ≤ x2 ∧ x2 < 40) ∧ ((0 ≤ (iv M 25 x2) ∧ (iv M 25 x2) < 40) ∧ ((zr ((x2 + 1) * 729)) ∧ ((((x2 + 1) * 729) < (iv M 17 (iv M 25 x2)) → ∃ M3, am_call t_Dra_begin [.ref 4, .int (zi 3), .int (zi (iv M 17 (iv M 25 x2)))] M none M3 ∧ ((0 ≤ (iv M3 4 1 - 1) * 13 + (2 : Int) ∧ (iv M3 4 1 - 1) * 13 + (2 : Int) < 520) ∧ (∀ M4, M4 = zup M3 6 ((iv M3 4 1 - 1) * 13 + 2) ((x2 + 1) * 729) → am_x t_SB_draftTidying (71, [.ref 0, .ref 4, .int (zi (x2 + 1)), .null], [], M4) Q))) ∧ ((iv M 17 (iv M 25 x2)) ≤ ((x2 + 1) * 729) → am_x t_SB_draftTidying (71, [.ref 0, .ref 4, .int (zi (x2 + 1)), .null], [], M) Q))))) ∧ ((iv M 15 9) ≤ x2 → Q none M))) : am_x t_SB_draftTidying (71, [.ref 0, .ref 4, .int (zi x2), .null], [], M) Q := by
  refine am_xn 3 (c1 := (76, [.ref 0, .ref 4, .int (zi x2), .null], [.ref 15, .int (zi x2)], M)) rfl ?_
  refine am_xc t_Law_size (.invokevirtual 165) 165 (av := [.ref 15]) (rest := [.int (zi x2)]) (rv := some (.int (zi (iv M 15 9)))) (M' := M) rfl rfl rfl rfl (Nat.le_of_ble_eq_true rfl) (fun _ => rfl) (sp_l15_size M) ?_
  refine am_xn 0 (c1 := (79, [.ref 0, .ref 4, .int (zi x2), .null], [.int (zi (iv M 15 9)), .int (zi x2)], M)) rfl ?_
  obtain ⟨r1, hv⟩ := hv
  refine am_xn 1 (c1 := (if zi x2 < zi (iv M 15 9) then 82 else 133, [.ref 0, .ref 4, .int (zi x2), .null], [], M)) rfl (am_xlt r1 (iv_r _ _ _) (fun h => ?_) (fun h => ?_))
  · replace hv := hv.1 h
    refine am_xn 5 (c1 := (91, [.ref 0, .ref 4, .int (zi x2), .null], [.int (zi x2), .ref 15, .ref 15], M)) rfl ?_
    obtain ⟨g, hv⟩ := hv
    refine am_xc t_Law_at (.invokevirtual 166) 166 (av := [.ref 15, .int (zi x2)]) (rest := [.ref 15]) (rv := some (.int (zi (iv M 25 x2)))) (M' := M) rfl rfl rfl rfl (Nat.le_of_ble_eq_true rfl) (fun _ => rfl) (sp_l15_at M x2 g) ?_
    refine am_xn 0 (c1 := (94, [.ref 0, .ref 4, .int (zi x2), .null], [.int (zi (iv M 25 x2)), .ref 15], M)) rfl ?_
    obtain ⟨g, hv⟩ := hv
    refine am_xc t_Law_code (.invokevirtual 172) 172 (av := [.ref 15, .int (zi (iv M 25 x2))]) (rest := []) (rv := some (.int (zi (iv M 17 (iv M 25 x2))))) (M' := M) rfl rfl rfl rfl (Nat.le_of_ble_eq_true rfl) (fun _ => rfl) (sp_l15_code M (iv M 25 x2) g) ?_
    refine am_xn 0 (c1 := (97, [.ref 0, .ref 4, .int (zi x2), .null], [.int (zi (iv M 17 (iv M 25 x2)))], M)) rfl ?_
    refine am_xiadd 4 x2 1 (pc := 101) (ls := [.ref 0, .ref 4, .int (zi x2), .int (zi (iv M 17 (iv M 25 x2)))]) (st := []) rfl ?_
    refine am_ximul 2 (x2 + 1) 729 (pc := 105) (ls := [.ref 0, .ref 4, .int (zi x2), .int (zi (iv M 17 (iv M 25 x2)))]) (st := []) rfl ?_
    obtain ⟨r2, hv⟩ := hv
    refine am_xn 2 (c1 := (if zi ((x2 + 1) * 729) < zi (iv M 17 (iv M 25 x2)) then 109 else 127, [.ref 0, .ref 4, .int (zi x2), .int (zi (iv M 17 (iv M 25 x2)))], [], M)) rfl (am_xlt r2 (iv_r _ _ _) (fun h => ?_) (fun h => ?_))
    · replace hv := hv.1 h
      refine am_xn 3 (c1 := (112, [.ref 0, .ref 4, .int (zi x2), .int (zi (iv M 17 (iv M 25 x2)))], [.int (zi (iv M 17 (iv M 25 x2))), .int (zi 3), .ref 4], M)) rfl ?_
      obtain ⟨M3, hc, hv⟩ := hv
      refine am_xc t_Dra_begin (.invokevirtual 285) 285 (av := [.ref 4, .int (zi 3), .int (zi (iv M 17 (iv M 25 x2)))]) (rest := []) (rv := none) (M' := M3) rfl rfl rfl rfl (Nat.le_of_ble_eq_true rfl) (fun _ => rfl) (hc) ?_
      refine am_xn 0 (c1 := (115, [.ref 0, .ref 4, .int (zi x2), .int (zi (iv M 17 (iv M 25 x2)))], [], M3)) rfl ?_
      refine am_xiadd 5 x2 1 (pc := 120) (ls := [.ref 0, .ref 4, .int (zi x2), .int (zi (iv M 17 (iv M 25 x2)))]) (st := [.int (zi 2), .ref 4]) rfl ?_
      refine am_ximul 2 (x2 + 1) 729 (pc := 124) (ls := [.ref 0, .ref 4, .int (zi x2), .int (zi (iv M 17 (iv M 25 x2)))]) (st := [.int (zi 2), .ref 4]) rfl ?_
      obtain ⟨g, hv⟩ := hv
      obtain ⟨M4, eM4⟩ : ∃ m, m = zup M3 6 ((iv M3 4 1 - 1) * 13 + 2) ((x2 + 1) * 729) := ⟨_, rfl⟩
      replace hv := hv M4 eM4
      refine am_xc t_Dra_put (.invokevirtual 288) 288 (av := [.ref 4, .int (zi 2), .int (zi ((x2 + 1) * 729))]) (rest := []) (rv := none) (M' := M4) rfl rfl rfl rfl (Nat.le_of_ble_eq_true rfl) (fun _ => rfl) (by rw [eM4]; exact sp_put M3 2 ((x2 + 1) * 729) g) ?_
      refine am_xn 0 (c1 := (127, [.ref 0, .ref 4, .int (zi x2), .int (zi (iv M 17 (iv M 25 x2)))], [], M4)) rfl ?_
      refine am_xn 1 (c1 := (130, [.ref 0, .ref 4, .int (zi x2 + zi 1), .int (zi (iv M 17 (iv M 25 x2)))], [], M4)) rfl ?_
      rw [zi_add]
      refine am_xn 1 (c1 := (71, [.ref 0, .ref 4, .int (zi (x2 + 1)), .int (zi (iv M 17 (iv M 25 x2)))], [], M4)) rfl ?_
      refine am_xf 3 ?_
      exact hv
    · replace hv := hv.2 h
      refine am_xn 1 (c1 := (130, [.ref 0, .ref 4, .int (zi x2 + zi 1), .int (zi (iv M 17 (iv M 25 x2)))], [], M)) rfl ?_
      rw [zi_add]
      refine am_xn 1 (c1 := (71, [.ref 0, .ref 4, .int (zi (x2 + 1)), .int (zi (iv M 17 (iv M 25 x2)))], [], M)) rfl ?_
      refine am_xf 3 ?_
      exact hv
  · replace hv := hv.2 h
    exact am_xr none ⟨rfl, rfl, rfl⟩ hv
set_option maxRecDepth 100000 in
theorem vc_m_tidy (d : Int) (M : am_M) (Q : Option Value → am_M → Prop) (hv : (zr d) ∧ ((0 ≤ d ∧ d ≤ 9999 → ∃ M1, am_call t_Mo_laws [.ref 58, .int (zi d), .int (zi (-1))] M none M1 ∧ (∃ (r3 : Int) (M2 : am_M), am_call t_Mo_inForce [.ref 58] M1 (some (.int (zi r3))) M2 ∧ (∀ M4, M4 = zup M2 58 21 0 → am_x t_Mo_tidy (30, [.ref 58, .int (zi d), .int (zi r3), .int (zi (r3 - 1)), .null], [], M4) Q))) ∧ (¬ (0 ≤ d ∧ d ≤ 9999) → Q (some (.int (zi (-2)))) M))) : am_x t_Mo_tidy (0, am_ent (am_mL t_Mo_tidy) [.ref 58, .int (zi d)], [], M) Q := by
  refine am_xn 0 (c1 := (0, [.ref 58, .int (zi d), .null, .null, .null], [], M)) rfl ?_
  refine am_xn 1 (c1 := (1, [.ref 58, .int (zi d), .null, .null, .null], [.int (zi d)], M)) rfl ?_
  obtain ⟨g, hv⟩ := hv
  by_cases c5 : 0 ≤ d ∧ d ≤ 9999
  · replace hv := hv.1 c5
    refine am_xc t_Mo_isDay (.invokestatic 80) 80 (av := [.int (zi d)]) (rest := []) (rv := some (.int (zi 1))) (M' := M) rfl rfl rfl rfl (Nat.le_of_ble_eq_true rfl) (fun h => nomatch h) (by have q := sp_isDay M d g; rwa [if_pos c5] at q) ?_
    refine am_xn 0 (c1 := (4, [.ref 58, .int (zi d), .null, .null, .null], [.int (zi 1)], M)) rfl ?_
    refine am_xn 4 (c1 := (13, [.ref 58, .int (zi d), .null, .null, .null], [.int (zi (-1)), .int (zi d), .ref 58], M)) rfl ?_
    obtain ⟨M1, hc, hv⟩ := hv
    refine am_xc t_Mo_laws (.invokevirtual 140) 140 (av := [.ref 58, .int (zi d), .int (zi (-1))]) (rest := []) (rv := none) (M' := M1) rfl rfl rfl rfl (Nat.le_of_ble_eq_true rfl) (fun _ => rfl) (hc) ?_
    refine am_xn 0 (c1 := (16, [.ref 58, .int (zi d), .null, .null, .null], [], M1)) rfl ?_
    refine am_xn 1 (c1 := (17, [.ref 58, .int (zi d), .null, .null, .null], [.ref 58], M1)) rfl ?_
    obtain ⟨r3, M2, hc, hv⟩ := hv
    refine am_xc t_Mo_inForce (.invokevirtual 257) 257 (av := [.ref 58]) (rest := []) (rv := some (.int (zi r3))) (M' := M2) rfl rfl rfl rfl (Nat.le_of_ble_eq_true rfl) (fun _ => rfl) (hc) ?_
    refine am_xn 0 (c1 := (20, [.ref 58, .int (zi d), .null, .null, .null], [.int (zi r3)], M2)) rfl ?_
    refine am_xn 4 (c1 := (26, [.ref 58, .int (zi d), .int (zi r3), .null, .null], [], zup M2 58 21 0)) rfl ?_
    obtain ⟨M4, eM4⟩ : ∃ m, m = zup M2 58 21 0 := ⟨_, rfl⟩
    replace hv := hv M4 eM4
    rw [← eM4]
    refine am_xisub 3 r3 1 (pc := 29) (ls := [.ref 58, .int (zi d), .int (zi r3), .null, .null]) (st := []) rfl ?_
    refine am_xn 1 (c1 := (30, [.ref 58, .int (zi d), .int (zi r3), .int (zi (r3 - 1)), .null], [], M4)) rfl ?_
    exact hv
  · replace hv := hv.2 c5
    refine am_xc t_Mo_isDay (.invokestatic 80) 80 (av := [.int (zi d)]) (rest := []) (rv := some (.int (zi 0))) (M' := M) rfl rfl rfl rfl (Nat.le_of_ble_eq_true rfl) (fun h => nomatch h) (by have q := sp_isDay M d g; rwa [if_neg c5] at q) ?_
    refine am_xn 0 (c1 := (4, [.ref 58, .int (zi d), .null, .null, .null], [.int (zi 0)], M)) rfl ?_
    refine am_xn 2 (c1 := (9, [.ref 58, .int (zi d), .null, .null, .null], [.int (zi (-2))], M)) rfl ?_
    exact am_xr (some (.int (zi (-2)))) ⟨rfl, rfl, .int, rfl, rfl⟩ hv
set_option maxRecDepth 100000 in
theorem vc_m_tidy_30 (x1 : Int) (x2 : Int) (x3 : Int) (M : am_M) (Q : Option Value → am_M → Prop) (hv : (zr x3) ∧ ((x3 < 0 → am_x t_Mo_tidy (79, [.ref 58, .int (zi x1), .int (zi x2), .int (zi 0), .null], [], M) Q) ∧ (0 ≤ x3 → ∃ (r3 : Int) (M2 : am_M), am_call t_Mo_atIndex [.ref 58, .int (zi x3)] M (some (.int (zi r3))) M2 ∧ ((0 ≤ r3 ∧ r3 < 40) ∧ ((zr (729 * (x3 + 1))) ∧ (((iv M2 65 r3) < (729 * (x3 + 1)) → ∃ M6, am_call t_Mo_renumbers [.ref 58, .int (zi (iv M2 65 r3)), .int (zi (729 * (x3 + 1)))] M2 none M6 ∧ (am_x t_Mo_tidy (30, [.ref 58, .int (zi x1), .int (zi x2), .int (zi (x3 + (-1))), .null], [], M6) Q)) ∧ ((729 * (x3 + 1)) ≤ (iv M2 65 r3) → am_x t_Mo_tidy (30, [.ref 58, .int (zi x1), .int (zi x2), .int (zi (x3 + (-1))), .null], [], M2) Q))))))) : am_x t_Mo_tidy (30, [.ref 58, .int (zi x1), .int (zi x2), .int (zi x3), .null], [], M) Q := by
  obtain ⟨r1, hv⟩ := hv
  refine am_xn 2 (c1 := (if zi x3 < zi 0 then 77 else 34, [.ref 58, .int (zi x1), .int (zi x2), .int (zi x3), .null], [], M)) rfl (am_xlt r1 (by decide) (fun h => ?_) (fun h => ?_))
  · replace hv := hv.1 h
    refine am_xn 2 (c1 := (79, [.ref 58, .int (zi x1), .int (zi x2), .int (zi 0), .null], [], M)) rfl ?_
    exact hv
  · replace hv := hv.2 h
    refine am_xn 4 (c1 := (40, [.ref 58, .int (zi x1), .int (zi x2), .int (zi x3), .null], [.int (zi x3), .ref 58, .ref 65], M)) rfl ?_
    obtain ⟨r3, M2, hc, hv⟩ := hv
    refine am_xc t_Mo_atIndex (.invokevirtual 260) 260 (av := [.ref 58, .int (zi x3)]) (rest := [.ref 65]) (rv := some (.int (zi r3))) (M' := M2) rfl rfl rfl rfl (Nat.le_of_ble_eq_true rfl) (fun _ => rfl) (hc) ?_
    refine am_xn 0 (c1 := (43, [.ref 58, .int (zi x1), .int (zi x2), .int (zi x3), .null], [.int (zi r3), .ref 65], M2)) rfl ?_
    obtain ⟨r4, hv⟩ := hv
    refine am_xald rfl rfl rfl r4 ?_
    refine am_xn 0 (c1 := (44, [.ref 58, .int (zi x1), .int (zi x2), .int (zi x3), .null], [.int (zi (iv M2 65 r3))], M2)) rfl ?_
    refine am_xiadd 5 x3 1 (pc := 52) (ls := [.ref 58, .int (zi x1), .int (zi x2), .int (zi x3), .int (zi (iv M2 65 r3))]) (st := [.int (zi 729)]) rfl ?_
    refine am_ximul 1 729 (x3 + 1) (pc := 53) (ls := [.ref 58, .int (zi x1), .int (zi x2), .int (zi x3), .int (zi (iv M2 65 r3))]) (st := []) rfl ?_
    obtain ⟨r5, hv⟩ := hv
    refine am_xn 2 (c1 := (if zi (iv M2 65 r3) < zi (729 * (x3 + 1)) then 58 else 71, [.ref 58, .int (zi x1), .int (zi x2), .int (zi x3), .int (zi (iv M2 65 r3))], [], M2)) rfl (am_xlt (iv_r _ _ _) r5 (fun h => ?_) (fun h => ?_))
    · replace hv := hv.1 h
      refine am_xiadd 6 x3 1 (pc := 67) (ls := [.ref 58, .int (zi x1), .int (zi x2), .int (zi x3), .int (zi (iv M2 65 r3))]) (st := [.int (zi 729), .int (zi (iv M2 65 r3)), .ref 58]) rfl ?_
      refine am_ximul 1 729 (x3 + 1) (pc := 68) (ls := [.ref 58, .int (zi x1), .int (zi x2), .int (zi x3), .int (zi (iv M2 65 r3))]) (st := [.int (zi (iv M2 65 r3)), .ref 58]) rfl ?_
      obtain ⟨M6, hc, hv⟩ := hv
      refine am_xc t_Mo_renumbers (.invokevirtual 318) 318 (av := [.ref 58, .int (zi (iv M2 65 r3)), .int (zi (729 * (x3 + 1)))]) (rest := []) (rv := none) (M' := M6) rfl rfl rfl rfl (Nat.le_of_ble_eq_true rfl) (fun _ => rfl) (hc) ?_
      refine am_xn 0 (c1 := (71, [.ref 58, .int (zi x1), .int (zi x2), .int (zi x3), .int (zi (iv M2 65 r3))], [], M6)) rfl ?_
      refine am_xn 1 (c1 := (74, [.ref 58, .int (zi x1), .int (zi x2), .int (zi x3 + zi (-1)), .int (zi (iv M2 65 r3))], [], M6)) rfl ?_
      rw [zi_add]
      refine am_xn 1 (c1 := (30, [.ref 58, .int (zi x1), .int (zi x2), .int (zi (x3 + (-1))), .int (zi (iv M2 65 r3))], [], M6)) rfl ?_
      refine am_xf 4 ?_
      exact hv
    · replace hv := hv.2 h
      refine am_xn 1 (c1 := (74, [.ref 58, .int (zi x1), .int (zi x2), .int (zi x3 + zi (-1)), .int (zi (iv M2 65 r3))], [], M2)) rfl ?_
      rw [zi_add]
      refine am_xn 1 (c1 := (30, [.ref 58, .int (zi x1), .int (zi x2), .int (zi (x3 + (-1))), .int (zi (iv M2 65 r3))], [], M2)) rfl ?_
      refine am_xf 4 ?_
      exact hv
set_option maxRecDepth 100000 in
theorem vc_m_tidy_79 (x1 : Int) (x2 : Int) (x3 : Int) (M : am_M) (Q : Option Value → am_M → Prop) (hv : (zr x3) ∧ ((zr x2) ∧ ((x3 < x2 → ∃ (r4 : Int) (M3 : am_M), am_call t_Mo_atIndex [.ref 58, .int (zi x3)] M (some (.int (zi r4))) M3 ∧ ((0 ≤ r4 ∧ r4 < 40) ∧ ((zr (729 * (x3 + 1))) ∧ (((729 * (x3 + 1)) < (iv M3 65 r4) → ∃ M7, am_call t_Mo_renumbers [.ref 58, .int (zi (iv M3 65 r4)), .int (zi (729 * (x3 + 1)))] M3 none M7 ∧ (am_x t_Mo_tidy (79, [.ref 58, .int (zi x1), .int (zi x2), .int (zi (x3 + 1)), .null], [], M7) Q)) ∧ ((iv M3 65 r4) ≤ (729 * (x3 + 1)) → am_x t_Mo_tidy (79, [.ref 58, .int (zi x1), .int (zi x2), .int (zi (x3 + 1)), .null], [], M3) Q))))) ∧ (x2 ≤ x3 → ((iv M 58 21) = 0 → Q (some (.int (zi (-3)))) M) ∧ (¬ (iv M 58 21) = 0 → ∃ (r9 : Int) (M8 : am_M), am_call t_Mo_adds [.ref 58, .int (zi x1)] M (some (.int (zi r9))) M8 ∧ (Q (some (.int (zi r9))) M8)))))) : am_x t_Mo_tidy (79, [.ref 58, .int (zi x1), .int (zi x2), .int (zi x3), .null], [], M) Q := by
  obtain ⟨r1, hv⟩ := hv
  obtain ⟨r2, hv⟩ := hv
  refine am_xn 3 (c1 := (if zi x3 < zi x2 then 84 else 127, [.ref 58, .int (zi x1), .int (zi x2), .int (zi x3), .null], [], M)) rfl (am_xlt r1 r2 (fun h => ?_) (fun h => ?_))
  · replace hv := hv.1 h
    refine am_xn 4 (c1 := (90, [.ref 58, .int (zi x1), .int (zi x2), .int (zi x3), .null], [.int (zi x3), .ref 58, .ref 65], M)) rfl ?_
    obtain ⟨r4, M3, hc, hv⟩ := hv
    refine am_xc t_Mo_atIndex (.invokevirtual 260) 260 (av := [.ref 58, .int (zi x3)]) (rest := [.ref 65]) (rv := some (.int (zi r4))) (M' := M3) rfl rfl rfl rfl (Nat.le_of_ble_eq_true rfl) (fun _ => rfl) (hc) ?_
    refine am_xn 0 (c1 := (93, [.ref 58, .int (zi x1), .int (zi x2), .int (zi x3), .null], [.int (zi r4), .ref 65], M3)) rfl ?_
    obtain ⟨r5, hv⟩ := hv
    refine am_xald rfl rfl rfl r5 ?_
    refine am_xn 0 (c1 := (94, [.ref 58, .int (zi x1), .int (zi x2), .int (zi x3), .null], [.int (zi (iv M3 65 r4))], M3)) rfl ?_
    refine am_xiadd 5 x3 1 (pc := 102) (ls := [.ref 58, .int (zi x1), .int (zi x2), .int (zi x3), .int (zi (iv M3 65 r4))]) (st := [.int (zi 729)]) rfl ?_
    refine am_ximul 1 729 (x3 + 1) (pc := 103) (ls := [.ref 58, .int (zi x1), .int (zi x2), .int (zi x3), .int (zi (iv M3 65 r4))]) (st := []) rfl ?_
    obtain ⟨r6, hv⟩ := hv
    refine am_xn 2 (c1 := (if zi (729 * (x3 + 1)) < zi (iv M3 65 r4) then 108 else 121, [.ref 58, .int (zi x1), .int (zi x2), .int (zi x3), .int (zi (iv M3 65 r4))], [], M3)) rfl (am_xlt r6 (iv_r _ _ _) (fun h => ?_) (fun h => ?_))
    · replace hv := hv.1 h
      refine am_xiadd 6 x3 1 (pc := 117) (ls := [.ref 58, .int (zi x1), .int (zi x2), .int (zi x3), .int (zi (iv M3 65 r4))]) (st := [.int (zi 729), .int (zi (iv M3 65 r4)), .ref 58]) rfl ?_
      refine am_ximul 1 729 (x3 + 1) (pc := 118) (ls := [.ref 58, .int (zi x1), .int (zi x2), .int (zi x3), .int (zi (iv M3 65 r4))]) (st := [.int (zi (iv M3 65 r4)), .ref 58]) rfl ?_
      obtain ⟨M7, hc, hv⟩ := hv
      refine am_xc t_Mo_renumbers (.invokevirtual 318) 318 (av := [.ref 58, .int (zi (iv M3 65 r4)), .int (zi (729 * (x3 + 1)))]) (rest := []) (rv := none) (M' := M7) rfl rfl rfl rfl (Nat.le_of_ble_eq_true rfl) (fun _ => rfl) (hc) ?_
      refine am_xn 0 (c1 := (121, [.ref 58, .int (zi x1), .int (zi x2), .int (zi x3), .int (zi (iv M3 65 r4))], [], M7)) rfl ?_
      refine am_xn 1 (c1 := (124, [.ref 58, .int (zi x1), .int (zi x2), .int (zi x3 + zi 1), .int (zi (iv M3 65 r4))], [], M7)) rfl ?_
      rw [zi_add]
      refine am_xn 1 (c1 := (79, [.ref 58, .int (zi x1), .int (zi x2), .int (zi (x3 + 1)), .int (zi (iv M3 65 r4))], [], M7)) rfl ?_
      refine am_xf 4 ?_
      exact hv
    · replace hv := hv.2 h
      refine am_xn 1 (c1 := (124, [.ref 58, .int (zi x1), .int (zi x2), .int (zi x3 + zi 1), .int (zi (iv M3 65 r4))], [], M3)) rfl ?_
      rw [zi_add]
      refine am_xn 1 (c1 := (79, [.ref 58, .int (zi x1), .int (zi x2), .int (zi (x3 + 1)), .int (zi (iv M3 65 r4))], [], M3)) rfl ?_
      refine am_xf 4 ?_
      exact hv
  · replace hv := hv.2 h
    refine am_xrd 2 58 21 (pc := 131) (ls := [.ref 58, .int (zi x1), .int (zi x2), .int (zi x3), .null]) (st := []) rfl ?_
    refine am_xn 1 (c1 := (if zi (iv M 58 21) = zi 0 then 134 else 139, [.ref 58, .int (zi x1), .int (zi x2), .int (zi x3), .null], [], M)) rfl (am_xeq (iv_r _ _ _) (by decide) (fun h => ?_) (fun h => ?_))
    · replace hv := hv.1 h
      refine am_xn 2 (c1 := (144, [.ref 58, .int (zi x1), .int (zi x2), .int (zi x3), .null], [.int (zi (-3))], M)) rfl ?_
      exact am_xr (some (.int (zi (-3)))) ⟨rfl, rfl, .int, rfl, rfl⟩ hv
    · replace hv := hv.2 h
      refine am_xn 2 (c1 := (141, [.ref 58, .int (zi x1), .int (zi x2), .int (zi x3), .null], [.int (zi x1), .ref 58], M)) rfl ?_
      obtain ⟨r9, M8, hc, hv⟩ := hv
      refine am_xc t_Mo_adds (.invokevirtual 236) 236 (av := [.ref 58, .int (zi x1)]) (rest := []) (rv := some (.int (zi r9))) (M' := M8) rfl rfl rfl rfl (Nat.le_of_ble_eq_true rfl) (fun _ => rfl) (hc) ?_
      refine am_xn 0 (c1 := (144, [.ref 58, .int (zi x1), .int (zi x2), .int (zi x3), .null], [.int (zi r9)], M8)) rfl ?_
      exact am_xr (some (.int (zi r9))) ⟨rfl, rfl, .int, rfl, rfl⟩ hv
set_option maxRecDepth 100000 in
theorem vc_renumbers (x : Int) (y : Int) (M : am_M) (Q : Option Value → am_M → Prop) (hv : am_x t_Mo_renumbers (2, [.ref 58, .int (zi x), .int (zi y), .int (zi 0)], [], M) Q) : am_x t_Mo_renumbers (0, am_ent (am_mL t_Mo_renumbers) [.ref 58, .int (zi x), .int (zi y)], [], M) Q := by
  refine am_xn 0 (c1 := (0, [.ref 58, .int (zi x), .int (zi y), .null], [], M)) rfl ?_
  refine am_xn 2 (c1 := (2, [.ref 58, .int (zi x), .int (zi y), .int (zi 0)], [], M)) rfl ?_
  exact hv
set_option maxRecDepth 100000 in
theorem vc_renumbers_2 (x1 : Int) (x2 : Int) (x3 : Int) (M : am_M) (Q : Option Value → am_M → Prop) (hv : (zr x3) ∧ ((x3 < 12 → (0 ≤ 12 * iv M 58 21 + x3 ∧ 12 * iv M 58 21 + x3 < 492) ∧ (∀ M2, M2 = zup M 74 (12 * iv M 58 21 + x3) 0 → am_x t_Mo_renumbers (2, [.ref 58, .int (zi x1), .int (zi x2), .int (zi (x3 + 1))], [], M2) Q)) ∧ (12 ≤ x3 → (0 ≤ 12 * iv M 58 21 + (0 : Int) ∧ 12 * iv M 58 21 + (0 : Int) < 492) ∧ (∀ M3, M3 = zup M 74 (12 * iv M 58 21 + 0) 3 → (0 ≤ 12 * iv M3 58 21 + (1 : Int) ∧ 12 * iv M3 58 21 + (1 : Int) < 492) ∧ (∀ M4, M4 = zup M3 74 (12 * iv M3 58 21 + 1) x1 → (0 ≤ 12 * iv M4 58 21 + (2 : Int) ∧ 12 * iv M4 58 21 + (2 : Int) < 492) ∧ (∀ M5, M5 = zup M4 74 (12 * iv M4 58 21 + 2) x2 → ∀ M6, M6 = zup M5 58 21 ((iv M5 58 21) + 1) → Q none M6)))))) : am_x t_Mo_renumbers (2, [.ref 58, .int (zi x1), .int (zi x2), .int (zi x3)], [], M) Q := by
  obtain ⟨r1, hv⟩ := hv
  refine am_xn 3 (c1 := (if zi x3 < zi 12 then 8 else 20, [.ref 58, .int (zi x1), .int (zi x2), .int (zi x3)], [], M)) rfl (am_xlt r1 (by decide) (fun h => ?_) (fun h => ?_))
  · replace hv := hv.1 h
    refine am_xn 3 (c1 := (11, [.ref 58, .int (zi x1), .int (zi x2), .int (zi x3)], [.int (zi 0), .int (zi x3), .ref 58], M)) rfl ?_
    obtain ⟨g, hv⟩ := hv
    obtain ⟨M2, eM2⟩ : ∃ m, m = zup M 74 (12 * iv M 58 21 + x3) 0 := ⟨_, rfl⟩
    replace hv := hv M2 eM2
    refine am_xc t_Mo_puts (.invokevirtual 201) 201 (av := [.ref 58, .int (zi x3), .int (zi 0)]) (rest := []) (rv := none) (M' := M2) rfl rfl rfl rfl (Nat.le_of_ble_eq_true rfl) (fun _ => rfl) (by rw [eM2]; exact sp_puts M x3 0 g) ?_
    refine am_xn 0 (c1 := (14, [.ref 58, .int (zi x1), .int (zi x2), .int (zi x3)], [], M2)) rfl ?_
    refine am_xn 1 (c1 := (17, [.ref 58, .int (zi x1), .int (zi x2), .int (zi x3 + zi 1)], [], M2)) rfl ?_
    rw [zi_add]
    refine am_xn 1 (c1 := (2, [.ref 58, .int (zi x1), .int (zi x2), .int (zi (x3 + 1))], [], M2)) rfl ?_
    exact hv
  · replace hv := hv.2 h
    refine am_xn 3 (c1 := (23, [.ref 58, .int (zi x1), .int (zi x2), .int (zi x3)], [.int (zi 3), .int (zi 0), .ref 58], M)) rfl ?_
    obtain ⟨g, hv⟩ := hv
    obtain ⟨M3, eM3⟩ : ∃ m, m = zup M 74 (12 * iv M 58 21 + 0) 3 := ⟨_, rfl⟩
    replace hv := hv M3 eM3
    refine am_xc t_Mo_puts (.invokevirtual 201) 201 (av := [.ref 58, .int (zi 0), .int (zi 3)]) (rest := []) (rv := none) (M' := M3) rfl rfl rfl rfl (Nat.le_of_ble_eq_true rfl) (fun _ => rfl) (by rw [eM3]; exact sp_puts M 0 3 g) ?_
    refine am_xn 0 (c1 := (26, [.ref 58, .int (zi x1), .int (zi x2), .int (zi x3)], [], M3)) rfl ?_
    refine am_xn 3 (c1 := (29, [.ref 58, .int (zi x1), .int (zi x2), .int (zi x3)], [.int (zi x1), .int (zi 1), .ref 58], M3)) rfl ?_
    obtain ⟨g, hv⟩ := hv
    obtain ⟨M4, eM4⟩ : ∃ m, m = zup M3 74 (12 * iv M3 58 21 + 1) x1 := ⟨_, rfl⟩
    replace hv := hv M4 eM4
    refine am_xc t_Mo_puts (.invokevirtual 201) 201 (av := [.ref 58, .int (zi 1), .int (zi x1)]) (rest := []) (rv := none) (M' := M4) rfl rfl rfl rfl (Nat.le_of_ble_eq_true rfl) (fun _ => rfl) (by rw [eM4]; exact sp_puts M3 1 x1 g) ?_
    refine am_xn 0 (c1 := (32, [.ref 58, .int (zi x1), .int (zi x2), .int (zi x3)], [], M4)) rfl ?_
    refine am_xn 3 (c1 := (35, [.ref 58, .int (zi x1), .int (zi x2), .int (zi x3)], [.int (zi x2), .int (zi 2), .ref 58], M4)) rfl ?_
    obtain ⟨g, hv⟩ := hv
    obtain ⟨M5, eM5⟩ : ∃ m, m = zup M4 74 (12 * iv M4 58 21 + 2) x2 := ⟨_, rfl⟩
    replace hv := hv M5 eM5
    refine am_xc t_Mo_puts (.invokevirtual 201) 201 (av := [.ref 58, .int (zi 2), .int (zi x2)]) (rest := []) (rv := none) (M' := M5) rfl rfl rfl rfl (Nat.le_of_ble_eq_true rfl) (fun _ => rfl) (by rw [eM5]; exact sp_puts M4 2 x2 g) ?_
    refine am_xn 0 (c1 := (38, [.ref 58, .int (zi x1), .int (zi x2), .int (zi x3)], [], M5)) rfl ?_
    refine am_xrd 3 58 21 (pc := 43) (ls := [.ref 58, .int (zi x1), .int (zi x2), .int (zi x3)]) (st := [.ref 58]) rfl ?_
    refine am_xiadd 2 (iv M5 58 21) 1 (pc := 45) (ls := [.ref 58, .int (zi x1), .int (zi x2), .int (zi x3)]) (st := [.ref 58]) rfl ?_
    refine am_xn 1 (c1 := (48, [.ref 58, .int (zi x1), .int (zi x2), .int (zi x3)], [], zup M5 58 21 ((iv M5 58 21) + 1))) rfl ?_
    obtain ⟨M6, eM6⟩ : ∃ m, m = zup M5 58 21 ((iv M5 58 21) + 1) := ⟨_, rfl⟩
    replace hv := hv M6 eM6
    rw [← eM6]
    exact am_xr none ⟨rfl, rfl, rfl⟩ hv
theorem td_add {q : Int → Int} {l : List Int} {s : am_M} {i c : Int} (t : TDc q l s) (hl : l.length < 40) (hc : c = q i) (qr : 0 ≤ q i ∧ q i < 729000) (ir : 0 ≤ i ∧ i < 40) : ∃ M3, am_call t_Dra_begin [.ref 4, .int (zi 3), .int (zi c)] s none M3 ∧ ((0 ≤ (iv M3 4 1 - 1) * 13 + (2 : Int) ∧ (iv M3 4 1 - 1) * 13 + (2 : Int) < 520) ∧ ∀ M4, M4 = zup M3 6 ((iv M3 4 1 - 1) * 13 + 2) ((i + 1) * 729) → (∀ a, ¬ a = 4 → ¬ a = 6 → M4 a = s a) ∧ TDc q (l ++ [i]) M4) := by
  obtain ⟨t1, t2, t3⟩ := t
  subst hc
  obtain ⟨M3, c3, b1, b2, b3, ⟨d0, d1, d2, d3, d4, d5, d6⟩, b5⟩ := sp_begin (M := s) (z := l.length) (k := 3) (n := q i) t1 (by omega) (by omega) (by decide) ⟨by omega, by omega⟩ (by omega)
  refine ⟨M3, c3, ?_⟩
  rw [b2, show ((l.length : Int) + 1 - 1) * 13 = (l.length : Int) * 13 by omega]
  refine ⟨⟨by omega, by omega⟩, fun M4 e4 => ⟨fun a a4 a6 => by rw [e4, zupr _ a6, b1 a a4 a6], ?_, ?_, fun j hj => ?_⟩⟩
  · rw [e4, ivr _ (by decide), b2, List.length_append]; rfl
  · rw [e4, ivr _ (by decide), b3, t2]; rfl
  · have j4 : ∀ j', 0 ≤ j' → iv M4 6 j' = if j' = (l.length : Int) * 13 + 2 then (i + 1) * 729 else iv M3 6 j' := fun j' j0 => by rw [e4, ivs _ _ (by omega) j0 ⟨by omega, by omega⟩]
    rw [List.length_append] at hj
    have hj : j < l.length + 1 := hj
    rw [getD_app hj]
    by_cases e : j = l.length
    · rw [if_pos e, e]
      refine ⟨?_, ?_, ?_, ?_, ?_, ?_, ?_, fun k k0 k1 => ?_⟩
      · show iv M4 6 ((l.length : Int) * 13 + 0) = 3
        rw [j4 _ (by omega), if_neg (by omega), Int.add_zero, d0]
      · show iv M4 6 ((l.length : Int) * 13 + 1) = q i
        rw [j4 _ (by omega), if_neg (by omega), d1]
      · show iv M4 6 ((l.length : Int) * 13 + 2) = (i + 1) * 729
        rw [j4 _ (by omega), if_pos rfl]
      · show iv M4 6 ((l.length : Int) * 13 + 3) = -1
        rw [j4 _ (by omega), if_neg (by omega), d3]
      · show iv M4 6 ((l.length : Int) * 13 + 4) = 0
        rw [j4 _ (by omega), if_neg (by omega), d4]
      · show iv M4 6 ((l.length : Int) * 13 + 5) = 0
        rw [j4 _ (by omega), if_neg (by omega), d5]
      · show iv M4 6 ((l.length : Int) * 13 + 6) = -1
        rw [j4 _ (by omega), if_neg (by omega), d6]
      · have k1 : k < 0 := k1
        omega
    · rw [if_neg e]
      have wr : ∀ w, 0 ≤ w → w < 13 → iv M4 6 ((j : Int) * 13 + w) = iv s 6 ((j : Int) * 13 + w) := fun w w0 w1 => by
        rw [j4 _ (by omega), if_neg (by omega), b5 _ (by omega) (by omega)]
      obtain ⟨a0, a1, a2, a3, a4, a5, a6, a7⟩ := t3 j (by omega)
      exact ⟨(wr 0 (by omega) (by omega)).trans a0, (wr 1 (by omega) (by omega)).trans a1, (wr 2 (by omega) (by omega)).trans a2, (wr 3 (by omega) (by omega)).trans a3, (wr 4 (by omega) (by omega)).trans a4, (wr 5 (by omega) (by omega)).trans a5, (wr 6 (by omega) (by omega)).trans a6, fun k' k0 k1 => by have k1 : k' < 0 := k1; omega⟩
theorem sp_draftTidying {M : am_M} {q : Int → Int} {n : Int} (n0 : 0 ≤ n) (n1 : n ≤ 40) (e15 : iv M 15 9 = n) (hq : ∀ i, 0 ≤ i → i < n → (0 ≤ iv M 25 i ∧ iv M 25 i < 40) ∧ iv M 17 (iv M 25 i) = q i ∧ 0 ≤ q i ∧ q i < 729000) : ∃ M', am_call t_SB_draftTidying [.ref 0, .ref 4] M none M' ∧ (∀ a, ¬ a = 4 → ¬ a = 6 → M' a = M a) ∧ TDc q (tup q n n.toNat) M' := by
  suffices hh : am_x t_SB_draftTidying (0, am_ent (am_mL t_SB_draftTidying) [.ref 0, .ref 4], [], M) (fun rv M' => rv = none ∧ (∀ a, ¬ a = 4 → ¬ a = 6 → M' a = M a) ∧ TDc q (tup q n n.toNat) M') by
    obtain ⟨rv, M', c1, c2, c3⟩ := am_call_ex (by exact ⟨Nat.le_of_ble_eq_true rfl, rfl⟩) hh
    subst c2
    exact ⟨M', c1, c3⟩
  have ce : am_call t_Dra_makeEmpty [.ref 4] M none (zup (zup M 4 1 0) 4 2 0) := am_call_of ⟨Nat.le_of_ble_eq_true rfl, rfl⟩ (vc_d_makeEmpty M _ (fun M1 e1 M2 e2 => ⟨rfl, by rw [e2, e1]⟩))
  obtain ⟨M1, e1⟩ : ∃ M1, M1 = zup (zup M 4 1 0) 4 2 0 := ⟨_, rfl⟩
  rw [← e1] at ce
  have f1 : ∀ a, ¬ a = 4 → M1 a = M a := fun a ha => by rw [e1, zupr _ ha, zupr _ ha]
  have t1 : TDc q [] M1 := by
    refine ⟨?_, ?_, fun j hj => absurd hj (Nat.not_lt_zero j)⟩
    · rw [e1, ivs _ _ (by decide) (by decide) (by decide), if_neg (by decide), ivs _ _ (by decide) (by decide) (by decide), if_pos rfl]; rfl
    · rw [e1, ivs _ _ (by decide) (by decide) (by decide), if_pos rfl]
  refine vc_draftTidying M _ ⟨M1, ce, ?_⟩
  rw [iv_row (f1 15 (by decide)), e15]
  refine loop_dn (fun i (s : am_M) => (14, [.ref 0, .ref 4, .int (zi i), .null], [], s)) (fun i s => i < n ∧ (∀ a, ¬ a = 4 → ¬ a = 6 → s a = M a) ∧ TDc q (tdn q n (n - 1 - i).toNat) s) ?_ ?_ (n - 1) M1 (by omega) ⟨by omega, fun a h4 _ => f1 a h4, by rw [show (n - 1 - (n - 1)).toNat = 0 by omega]; exact t1⟩
  · intro s ⟨_, fs, ts⟩
    refine vc_draftTidying_14 _ s _ ⟨by decide, fun _ => ?_, fun z => absurd z (by decide)⟩
    rw [show (n - 1 - -1).toNat = n.toNat by omega] at ts
    refine loop_up (fun i (s : am_M) => (71, [.ref 0, .ref 4, .int (zi i), .null], [], s)) n (fun i s => (∀ a, ¬ a = 4 → ¬ a = 6 → s a = M a) ∧ TDc q (tup q n i.toNat) s) ?_ ?_ 0 s (by omega) n0 ⟨fs, ts⟩
    · intro s ⟨fs, ts⟩
      have s15 : iv s 15 9 = n := by rw [iv_row (fs 15 (by decide) (by decide)), e15]
      exact vc_draftTidying_71 _ s _ ⟨⟨by omega, by omega⟩, fun z => by rw [s15] at z; omega, fun _ => ⟨rfl, fs, ts⟩⟩
    · intro i s i0 i1 ⟨fs, ts⟩ k
      have s15 : iv s 15 9 = n := by rw [iv_row (fs 15 (by decide) (by decide)), e15]
      have s25 : iv s 25 = iv M 25 := iv_row (fs 25 (by decide) (by decide))
      have s17 : iv s 17 = iv M 17 := iv_row (fs 17 (by decide) (by decide))
      obtain ⟨h1, h2, h3⟩ := hq i i0 i1
      have up : tup q n (i + 1).toNat = if (i + 1) * 729 < q i then tup q n i.toNat ++ [i] else tup q n i.toNat := by
        rw [show (i + 1).toNat = i.toNat + 1 by omega]
        unfold tup
        rw [show ((i.toNat : Nat) : Int) = i by omega]
        cases i.toNat <;> rfl
      have k' := k
      refine vc_draftTidying_71 _ s _ ⟨⟨by omega, by omega⟩, fun _ => ?_, fun z => by rw [s15] at z; omega⟩
      rw [s25, s17, h2]
      refine ⟨by omega, h1, ⟨by omega, by omega⟩, fun z => ?_, fun z => ?_⟩
      · have lt := tup_lt q n n0 (k := i.toNat) (by omega) (by rw [show ((i.toNat : Nat) : Int) = i by omega]; exact z)
        obtain ⟨M3, c3, r3, g3⟩ := td_add (i := i) ts (by omega) rfl h3 ⟨i0, by omega⟩
        exact ⟨M3, c3, r3, fun M4 e4 => k' M4 ⟨fun a h4 h6 => by rw [(g3 M4 e4).1 a h4 h6, fs a h4 h6], by rw [up, if_pos z]; exact (g3 M4 e4).2⟩⟩
      · exact k' s ⟨fs, by rw [up, if_neg (by omega)]; exact ts⟩
  · intro i s i0 ⟨i1, fs, ts⟩ k
    have s25 : iv s 25 = iv M 25 := iv_row (fs 25 (by decide) (by decide))
    have s17 : iv s 17 = iv M 17 := iv_row (fs 17 (by decide) (by decide))
    obtain ⟨h1, h2, h3⟩ := hq i i0 i1
    have up : tdn q n (n - 1 - (i + -1)).toNat = if q i < (i + 1) * 729 then tdn q n (n - 1 - i).toNat ++ [i] else tdn q n (n - 1 - i).toNat := by
      rw [show (n - 1 - (i + -1)).toNat = (n - 1 - i).toNat + 1 by omega]
      have e : n - 1 - (((n - 1 - i).toNat : Nat) : Int) = i := by omega
      show (if q (n - 1 - (((n - 1 - i).toNat : Nat) : Int)) < (n - 1 - (((n - 1 - i).toNat : Nat) : Int) + 1) * 729 then tdn q n (n - 1 - i).toNat ++ [n - 1 - (((n - 1 - i).toNat : Nat) : Int)] else tdn q n (n - 1 - i).toNat) = _
      rw [e]
    refine vc_draftTidying_14 _ s _ ⟨⟨by omega, by omega⟩, fun z => by omega, fun _ => ?_⟩
    rw [s25, s17, h2]
    refine ⟨by omega, h1, ⟨by omega, by omega⟩, fun z => ?_, fun z => ?_⟩
    · have le := tdn_le q n (n - 1 - i).toNat
      obtain ⟨M3, c3, r3, g3⟩ := td_add (i := i) ts (by omega) rfl h3 ⟨i0, by omega⟩
      exact ⟨M3, c3, r3, fun M4 e4 => k M4 ⟨by omega, fun a h4 h6 => by rw [(g3 M4 e4).1 a h4 h6, fs a h4 h6], by rw [up, if_pos z]; exact (g3 M4 e4).2⟩⟩
    · exact k s ⟨by omega, fs, by rw [up, if_neg (by omega)]; exact ts⟩
theorem sp_renumbers {q : Int → Int} {l : List Int} {s : am_M} {i x y : Int} (t : TDm q l s) (hl : l.length < 40) (hx : x = q i) (hy : y = (i + 1) * 729) (qr : 0 ≤ q i ∧ q i < 729000) (ir : 0 ≤ i ∧ i < 40) : ∃ M', am_call t_Mo_renumbers [.ref 58, .int (zi x), .int (zi y)] s none M' ∧ (∀ a, ¬ a = 58 → ¬ a = 74 → M' a = s a) ∧ (∀ j, ¬ j = 21 → M' 58 j = s 58 j) ∧ TDm q (l ++ [i]) M' := by
  suffices hh : am_x t_Mo_renumbers (0, am_ent (am_mL t_Mo_renumbers) [.ref 58, .int (zi x), .int (zi y)], [], s) (fun rv M' => rv = none ∧ (∀ a, ¬ a = 58 → ¬ a = 74 → M' a = s a) ∧ (∀ j, ¬ j = 21 → M' 58 j = s 58 j) ∧ TDm q (l ++ [i]) M') by
    obtain ⟨rv, M', c1, c2, c3⟩ := am_call_ex (by exact ⟨Nat.le_of_ble_eq_true rfl, rfl⟩) hh
    subst c2
    exact ⟨M', c1, c3⟩
  obtain ⟨t1, t2⟩ := t
  obtain ⟨z, ez⟩ : ∃ z : Int, z = l.length := ⟨_, rfl⟩
  rw [← ez] at t1
  refine vc_renumbers x y s _ ?_
  refine loop_up (fun i (m : am_M) => (2, [.ref 58, .int (zi x), .int (zi y), .int (zi i)], [], m)) 12 (fun i m => (∀ a, ¬ a = 74 → m a = s a) ∧ ∀ j, 0 ≤ j → iv m 74 j = if 12 * z ≤ j ∧ j < 12 * z + i then 0 else iv s 74 j) ?_ ?_ 0 s (by omega) (by omega) ⟨fun _ _ => rfl, fun j _ => by rw [if_neg (by omega)]⟩
  · intro m ⟨fm, km⟩
    have m21 : iv m 58 21 = z := by rw [iv_row (fm 58 (by decide)), t1]
    refine vc_renumbers_2 x y _ m _ ⟨by decide, fun w => by omega, fun _ => ?_⟩
    rw [m21]
    refine ⟨by omega, fun M3 e3 => ?_⟩
    have a3 : iv M3 58 21 = z := by rw [e3, ivr _ (by decide), m21]
    rw [a3]
    refine ⟨by omega, fun M4 e4 => ?_⟩
    have a4 : iv M4 58 21 = z := by rw [e4, ivr _ (by decide), a3]
    rw [a4]
    refine ⟨by omega, fun M5 e5 M6 e6 => ?_⟩
    have a5 : iv M5 58 21 = z := by rw [e5, ivr _ (by decide), a4]
    rw [a5] at e6
    have j6 : ∀ j, 0 ≤ j → iv M6 74 j = if j = 12 * z + 2 then y else if j = 12 * z + 1 then x else if j = 12 * z + 0 then 3 else iv m 74 j := fun j j0 => by
      rw [e6, ivr _ (by decide), e5, ivs _ _ (by omega) j0 ⟨by omega, by omega⟩, e4, ivs _ _ (by omega) j0 ⟨by omega, by omega⟩, e3, ivs _ _ (by omega) j0 (by decide)]
    have r5 : ∀ a, ¬ a = 74 → M5 a = s a := fun a ha => by rw [e5, zupr _ ha, e4, zupr _ ha, e3, zupr _ ha, fm a ha]
    refine ⟨rfl, fun a h1 h2 => by rw [e6, zupr _ h1, r5 a h2], fun j hj => by rw [e6, zup58 _ (by decide) hj, r5 58 (by decide)], ?_, fun j hj w w0 w1 => ?_⟩
    · rw [e6, ivs _ _ (by decide) (by decide) ⟨by omega, by omega⟩, if_pos rfl, List.length_append, ez]; rfl
    · rw [List.length_append] at hj
      have hj : j < l.length + 1 := hj
      rw [getD_app hj, j6 _ (by omega)]
      by_cases e : j = l.length
      · rw [if_pos e]
        have ej : (j : Int) = z := by rw [ez, e]
        rw [ej]
        unfold tgo
        by_cases h0 : w = 0
        · rw [if_neg (by omega), if_neg (by omega), if_pos (by omega), if_pos h0]
        rw [if_neg (c := w = 0) h0]
        by_cases h1 : w = 1
        · rw [if_neg (by omega), if_pos (by omega), if_pos h1, hx]
        rw [if_neg (c := w = 1) h1]
        by_cases h2 : w = 2
        · rw [if_pos (by omega), if_pos h2, hy]
        rw [if_neg (c := w = 2) h2, if_neg (by omega), if_neg (by omega), if_neg (by omega), km _ (by omega), if_pos (by omega)]
      · rw [if_neg e, if_neg (by omega), if_neg (by omega), if_neg (by omega), km _ (by omega), if_neg (by omega)]
        exact t2 j (by omega) w w0 w1
  · intro i' m i0 i1 ⟨fm, km⟩ k
    have m21 : iv m 58 21 = z := by rw [iv_row (fm 58 (by decide)), t1]
    refine vc_renumbers_2 x y _ m _ ⟨⟨by omega, by omega⟩, fun _ => ?_, fun w => by omega⟩
    rw [m21]
    refine ⟨by omega, fun M2 e2 => k M2 ⟨fun a ha => by rw [e2, zupr _ ha, fm a ha], fun j j0 => ?_⟩⟩
    rw [e2, ivs _ _ (by omega) j0 (by decide), km j j0]
    by_cases h : j = 12 * z + i'
    · rw [if_pos h, if_pos (by omega)]
    · rw [if_neg h]
      by_cases g : 12 * z ≤ j ∧ j < 12 * z + i'
      · rw [if_pos g, if_pos (by omega)]
      · rw [if_neg g, if_neg (by omega)]
theorem mlr_rows {L : Lw} {s s' : am_M} (r : MLR L s) (h : ∀ a, 64 ≤ a → a ≤ 71 → s' a = s a) (h14 : s' 58 14 = s 58 14) : MLR L s' := by
  unfold MLR at r ⊢
  rw [iv_row (h 64 (by decide) (by decide)), iv_row (h 65 (by decide) (by decide)), iv_row (h 66 (by decide) (by decide)), iv_row (h 67 (by decide) (by decide)), iv_row (h 68 (by decide) (by decide)), iv_row (h 69 (by decide) (by decide)), iv_row (h 70 (by decide) (by decide)), iv_row (h 71 (by decide) (by decide)), iv1 (M' := s') (M := s) (a := 58) (k := 14) h14]
  exact r
noncomputable def qc (L : Lw) (i : Int) : Int := L.code (atx L i)
theorem m_tidy_x {M : am_M} {d : Int} {L : Lw} (w : WB (iv M 59)) (hL : L = lw (iv M 59) d (-1)) (dz : zr d) (hd : 0 ≤ d ∧ d ≤ 9999) (ha : ∀ i, 0 ≤ i → i < frc L 40 → (0 ≤ atx L i ∧ atx L i < 40) ∧ ¬ L.code (atx L i) = 0 ∧ 0 ≤ qc L i ∧ qc L i < 729000) (Q : Option Value → am_M → Prop) (h : ∀ s, (∀ a, ¬ a = 58 → ¬ a = 74 → ¬ (63 ≤ a ∧ a ≤ 72) → s a = M a) → (∀ j, ¬ j = 14 → ¬ j = 21 → s 58 j = M 58 j) → TDm (qc L) (tup (qc L) (frc L 40) (frc L 40).toNat) s → ((iv s 58 21 = 0 → Q (some (.int (zi (-3)))) s) ∧ (¬ iv s 58 21 = 0 → ∃ (r : Int) (M8 : am_M), am_call t_Mo_adds [.ref 58, .int (zi d)] s (some (.int (zi r))) M8 ∧ Q (some (.int (zi r))) M8))) : am_x t_Mo_tidy (0, am_ent (am_mL t_Mo_tidy) [.ref 58, .int (zi d)], [], M) Q := by
  have v : VL L := by rw [hL]; exact lw_VL w d (-1)
  obtain ⟨M1, a1, a2, a3⟩ := sp_laws M w dz (cas := -1) (by decide)
  rw [← hL] at a3
  have f40 := frc40 L
  obtain ⟨n, en⟩ : ∃ n, n = frc L 40 := ⟨_, rfl⟩
  rw [← en] at f40 ha h
  refine vc_m_tidy d M Q ⟨dz, fun _ => ⟨M1, a1, frc L 40, M1, sp_inForce a3, fun M4 e4 => ?_⟩, fun z => absurd hd z⟩
  rw [← en]
  have f4 : ∀ a, ¬ a = 58 → M4 a = M1 a := fun a h1 => by rw [e4, zupr _ h1]
  have g4 : ∀ j, ¬ j = 21 → M4 58 j = M1 58 j := fun j hj => by rw [e4, zup58 _ (by decide) hj]
  have t4 : TDm (qc L) [] M4 := ⟨by rw [e4, ivs _ _ (by decide) (by decide) (by decide), if_pos rfl]; rfl, fun j hj => absurd hj (Nat.not_lt_zero j)⟩
  have ml : ∀ s, (∀ a, ¬ a = 58 → ¬ a = 74 → s a = M1 a) → (∀ j, ¬ j = 21 → s 58 j = M1 58 j) → MLR L s := fun s h1 h2 => mlr_rows a3 (fun a x1 x2 => h1 a (by omega) (by omega)) (h2 14 (by decide))
  refine loop_dn (fun i (s : am_M) => (30, [.ref 58, .int (zi d), .int (zi n), .int (zi i), .null], [], s)) (fun i s => i < n ∧ (∀ a, ¬ a = 58 → ¬ a = 74 → s a = M1 a) ∧ (∀ j, ¬ j = 21 → s 58 j = M1 58 j) ∧ TDm (qc L) (tdn (qc L) n (n - 1 - i).toNat) s) ?_ ?_ (n - 1) M4 (by omega) ⟨by omega, fun a h1 _ => f4 a h1, g4, by rw [show (n - 1 - (n - 1)).toNat = 0 by omega]; exact t4⟩
  · intro s ⟨_, fs, gs, ts⟩
    refine vc_m_tidy_30 _ _ _ s _ ⟨by decide, fun _ => ?_, fun z => absurd z (by decide)⟩
    rw [show (n - 1 - -1).toNat = n.toNat by omega] at ts
    refine loop_up (fun i (s : am_M) => (79, [.ref 58, .int (zi d), .int (zi n), .int (zi i), .null], [], s)) n (fun i s => (∀ a, ¬ a = 58 → ¬ a = 74 → s a = M1 a) ∧ (∀ j, ¬ j = 21 → s 58 j = M1 58 j) ∧ TDm (qc L) (tup (qc L) n i.toNat) s) ?_ ?_ 0 s (by omega) f40.1 ⟨fs, gs, ts⟩
    · intro s ⟨fs, gs, ts⟩
      exact vc_m_tidy_79 _ _ _ s _ ⟨⟨by omega, by omega⟩, ⟨by omega, by omega⟩, fun z => by omega, fun _ => h s (fun a x1 x2 x3 => by rw [fs a x1 x2, a2.1 a x1 x3]) (fun j x1 x2 => by rw [gs j x2, a2.2 j x1]) ts⟩
    · intro i s i0 i1 ⟨fs, gs, ts⟩ k
      obtain ⟨h1, h2, h3⟩ := ha i i0 i1
      have ms := ml s fs gs
      have ai := sp_atIndex v ms (i := i) ⟨by omega, by omega⟩
      have up : tup (qc L) n (i + 1).toNat = if (i + 1) * 729 < qc L i then tup (qc L) n i.toNat ++ [i] else tup (qc L) n i.toNat := by
        rw [show (i + 1).toNat = i.toNat + 1 by omega]
        unfold tup
        rw [show ((i.toNat : Nat) : Int) = i by omega]
        cases i.toNat <;> rfl
      refine vc_m_tidy_79 _ _ _ s _ ⟨⟨by omega, by omega⟩, ⟨by omega, by omega⟩, fun _ => ⟨_, s, ai, ?_⟩, fun z => by omega⟩
      rw [(ms.2.1 _ h1.1 h1.2 h2).1]
      have eq : L.code (atx L i) = qc L i := rfl
      rw [eq]
      refine ⟨h1, ⟨by omega, by omega⟩, fun z => ?_, fun z => ?_⟩
      · have lt := tup_lt (qc L) n f40.1 (k := i.toNat) (by omega) (by rw [show ((i.toNat : Nat) : Int) = i by omega]; omega)
        obtain ⟨M7, c7, r7, g7, t7⟩ := sp_renumbers (i := i) ts (by omega) rfl (y := 729 * (i + 1)) (by omega) h3 ⟨i0, by omega⟩
        exact ⟨M7, c7, k M7 ⟨fun a x1 x2 => by rw [r7 a x1 x2, fs a x1 x2], fun j hj => by rw [g7 j hj, gs j hj], by rw [up, if_pos (by omega)]; exact t7⟩⟩
      · exact k s ⟨fs, gs, by rw [up, if_neg (by omega)]; exact ts⟩
  · intro i s i0 ⟨i1, fs, gs, ts⟩ k
    obtain ⟨h1, h2, h3⟩ := ha i i0 i1
    have ms := ml s fs gs
    have ai := sp_atIndex v ms (i := i) ⟨by omega, by omega⟩
    have up : tdn (qc L) n (n - 1 - (i + -1)).toNat = if qc L i < (i + 1) * 729 then tdn (qc L) n (n - 1 - i).toNat ++ [i] else tdn (qc L) n (n - 1 - i).toNat := by
      rw [show (n - 1 - (i + -1)).toNat = (n - 1 - i).toNat + 1 by omega]
      have e : n - 1 - (((n - 1 - i).toNat : Nat) : Int) = i := by omega
      show (if qc L (n - 1 - (((n - 1 - i).toNat : Nat) : Int)) < (n - 1 - (((n - 1 - i).toNat : Nat) : Int) + 1) * 729 then tdn (qc L) n (n - 1 - i).toNat ++ [n - 1 - (((n - 1 - i).toNat : Nat) : Int)] else tdn (qc L) n (n - 1 - i).toNat) = _
      rw [e]
    refine vc_m_tidy_30 _ _ _ s _ ⟨⟨by omega, by omega⟩, fun z => by omega, fun _ => ⟨_, s, ai, ?_⟩⟩
    rw [(ms.2.1 _ h1.1 h1.2 h2).1]
    have eq : L.code (atx L i) = qc L i := rfl
    rw [eq]
    refine ⟨h1, ⟨by omega, by omega⟩, fun z => ?_, fun z => ?_⟩
    · have le := tdn_le (qc L) n (n - 1 - i).toNat
      obtain ⟨M7, c7, r7, g7, t7⟩ := sp_renumbers (i := i) ts (by omega) rfl (y := 729 * (i + 1)) (by omega) h3 ⟨i0, by omega⟩
      exact ⟨M7, c7, k M7 ⟨by omega, fun a x1 x2 => by rw [r7 a x1 x2, fs a x1 x2], fun j hj => by rw [g7 j hj, gs j hj], by rw [up, if_pos (by omega)]; exact t7⟩⟩
    · exact k s ⟨by omega, fs, gs, by rw [up, if_neg (by omega)]; exact ts⟩
theorem WO_tgo {q : Int → Int} {i : Int} (h : 729 ≤ q i ∧ q i < 729000) (i0 : 0 ≤ i) (i1 : i < 40) : WO (tgo q i) := by
  refine ⟨⟨?_, ?_⟩, h, ?_, fun _ => ?_, fun z => ?_, ?_, Or.inl rfl, ?_, fun _ => rfl, fun k k0 k1 => ?_⟩
  · show (0 : Int) ≤ 3; omega
  · show (3 : Int) ≤ 4; omega
  · show 0 ≤ (i + 1) * 729 ∧ (i + 1) * 729 < 729000; omega
  · show 729 ≤ (i + 1) * 729; omega
  · have z : (3 : Int) = 4 := z
    omega
  · show (0 : Int) ≤ 0 ∧ (0 : Int) ≤ 999; omega
  · show (0 : Int) ≤ 0 ∧ (0 : Int) ≤ 6; omega
  · have k1 : k < 0 := k1
    omega
theorem nin_z {D : Int → Int} : ∀ k : Nat, (∀ i, 0 ≤ i → i < (k : Int) → ¬ D (i * 13) = 0) → nin D k = 0 := by
  intro k
  induction k with
  | zero => intro _; rfl
  | succ k ih =>
    intro h
    rw [show ((k + 1 : Nat) : Int) = (k : Int) + 1 by omega, nin_s D (by omega), ih (fun i i0 i1 => h i i0 (by omega)), if_neg (h k (by omega) (by omega))]
    rfl
theorem st_tidy {M : am_M} (rr : RR M) {d : Int} (dz : zr d) : STEP t_SB_tidy t_Mo_tidy [.ref 0, .int (zi d)] [.ref 58, .int (zi d)] M := by
  by_cases hd : 0 ≤ d ∧ d ≤ 9999
  · have w := rr.1.1
    have cb := rr.1.2
    obtain ⟨L, hL⟩ : ∃ L, L = lw (iv M 59) d (-1) := ⟨_, rfl⟩
    have v : VL L := by rw [hL]; exact lw_VL w d (-1)
    obtain ⟨M1, h1, fr, r1, od⟩ := sp_c_consolidate M w cb dz (cas := -1) (by decide)
    rw [← hL] at r1 od
    have e15 := od.1
    have f40 := frc40 L
    have at_ : ∀ i, 0 ≤ i → i < frc L 40 → atx L i = iv M1 25 i := fun i i0 i1 => (atx_ord v od i).trans (if_pos ⟨i0, by omega⟩)
    have qr : ∀ i, 0 ≤ i → i < frc L 40 → (0 ≤ iv M1 25 i ∧ iv M1 25 i < 40) ∧ ¬ L.code (iv M1 25 i) = 0 ∧ iv M1 17 (iv M1 25 i) = qc L i ∧ 729 ≤ qc L i ∧ qc L i < 729000 := fun i i0 i1 => by
      have a := od.2.1 i i0 (by omega)
      have b := v.rg _ a.1 a.2.1
      have e : qc L i = L.code (iv M1 25 i) := by unfold qc; rw [at_ i i0 i1]
      rw [e, r1.1 _ a.1 a.2.1]
      exact ⟨⟨a.1, a.2.1⟩, a.2.2, rfl, by rcases b with b | b; exact absurd b a.2.2; exact b.1, by rcases b with b | b; exact absurd b a.2.2; exact b.2⟩
    have rr1 := rr_cq rr (CQ_15 fr)
    obtain ⟨M2, c2, f2, t2⟩ := sp_draftTidying (M := M1) (q := qc L) f40.1 f40.2 e15 (fun i i0 i1 => by
      have a := qr i i0 i1
      exact ⟨a.1, a.2.2.1, by omega, a.2.2.2.2⟩)
    have rr2 : RR M2 := rr_rows rr1 (fun a ha => f2 a (by omega) (by omega)) (fun j _ => by rw [f2 58 (by decide) (by decide)])
    have x59 : iv M2 59 = iv M 59 := by rw [iv_row (f2 59 (by decide) (by decide)), iv_row ((CQ_15 fr) 59 (by decide))]
    have mem := tup_mem (qc L) (frc L 40) f40.1 (frc L 40).toNat (by omega)
    have len := tup_le (qc L) (frc L 40) f40.1 (frc L 40).toNat (by omega)
    have row5 : ∀ a, a = 5000 ∨ a = 5001 → M2 a = M a := fun a ha => by rw [f2 a (by omega) (by omega), (CQ_15 fr) a (by omega)]
    have xa : ∀ i, 0 ≤ i → i < frc L 40 → (0 ≤ atx L i ∧ atx L i < 40) ∧ ¬ L.code (atx L i) = 0 ∧ 0 ≤ qc L i ∧ qc L i < 729000 := fun i i0 i1 => by
      have a := qr i i0 i1
      rw [at_ i i0 i1]
      exact ⟨a.1, a.2.1, by omega, a.2.2.2.2⟩
    obtain ⟨l, el⟩ : ∃ l, l = tup (qc L) (frc L 40) (frc L 40).toNat := ⟨_, rfl⟩
    rw [← el] at t2 mem len
    by_cases hN : l.length = 0
    · have mm : ∃ M3, am_call t_Mo_tidy [.ref 58, .int (zi d)] M2 (some (.int (zi (-3)))) M3 ∧ RR M3 ∧ M3 5000 = M2 5000 ∧ M3 5001 = M2 5001 := by
        suffices hh : am_x t_Mo_tidy (0, am_ent (am_mL t_Mo_tidy) [.ref 58, .int (zi d)], [], M2) (fun rv M3 => rv = some (.int (zi (-3))) ∧ RR M3 ∧ M3 5000 = M2 5000 ∧ M3 5001 = M2 5001) by
          obtain ⟨rv, M', c1, c2, c3⟩ := am_call_ex (by exact ⟨Nat.le_of_ble_eq_true rfl, rfl⟩) hh
          subst c2
          exact ⟨M', c1, c3⟩
        refine m_tidy_x (L := L) rr2.1.1 (by rw [x59]; exact hL) dz hd xa _ (fun s fs gs ts => ⟨fun _ => ⟨rfl, rr_rows rr2 (fun a ha => fs a (by omega) (by omega) (by omega)) (fun j hj => gs j (by omega) (by omega)), fs 5000 (by decide) (by decide) (by decide), fs 5001 (by decide) (by decide) (by decide)⟩, fun z => absurd (by rw [ts.1, ← el]; omega) z⟩)
      obtain ⟨M3, m1, m2, m3, m4⟩ := mm
      refine ⟨-3, M2, M3, am_call_of ⟨Nat.le_of_ble_eq_true rfl, rfl⟩ (vc_c_tidy d M _ ⟨⟨dz, by decide⟩, fun _ => ⟨M1, h1, M2, c2, fun _ => ⟨rfl, rfl⟩, fun z => absurd (by rw [t2.1]; omega) z⟩, fun z => absurd hd z⟩), m1, m2, by rw [m3, row5 5000 (Or.inl rfl)], by rw [m4, row5 5001 (Or.inr rfl)]⟩
    · have rel : ∀ s, TDm (qc L) l s → (∀ i, 0 ≤ i → i < (l.length : Int) → DO (fun w => iv M2 6 (i * 13 + w)) (fun w => iv s 74 (12 * i + w))) ∧ ∀ i, 0 ≤ i → i < (l.length : Int) → WO (fun w => iv s 74 (12 * i + w)) := fun s ts => by
        have key : ∀ i, 0 ≤ i → i < (l.length : Int) → DO (fun w => iv M2 6 (i * 13 + w)) (fun w => iv s 74 (12 * i + w)) ∧ WO (fun w => iv s 74 (12 * i + w)) := fun i i0 i1 => by
          obtain ⟨j, ej⟩ : ∃ j : Nat, i = j := ⟨i.toNat, by omega⟩
          subst ej
          have hj : j < l.length := by omega
          have hm := mem _ (getD_mem hj)
          have a := qr _ hm.1 hm.2
          have c := ts.2 j hj
          exact ⟨DO_c2 (fun w w0 w1 => c w w0 (by omega)) (fun k k0 k1 => by have k1 : k < 0 := k1; omega) (t2.2.2 j hj), WO_c2 (fun w w0 w1 => c w w0 (by omega)) (fun k k0 k1 => by have k1 : k < 0 := k1; omega) (WO_tgo ⟨a.2.2.2.1, a.2.2.2.2⟩ hm.1 (by omega))⟩
        exact ⟨fun i i0 i1 => (key i i0 i1).1, fun i i0 i1 => (key i i0 i1).2⟩
      have n3 : ∀ i, 0 ≤ i → i < (l.length : Int) → ¬ iv M2 6 (i * 13) = 0 := fun i i0 i1 => by
        obtain ⟨j, ej⟩ : ∃ j : Nat, i = j := ⟨i.toNat, by omega⟩
        subst ej
        have b := (t2.2.2 j (by omega)).1
        have e : iv M2 6 ((j : Int) * 13 + 0) = 3 := b
        rw [Int.add_zero] at e
        omega
      have nz : nin (iv M2 6) (l.length : Int) = 0 := nin_z l.length n3
      have eI : iv M2 4 2 = nin (iv M2 6) (l.length : Int) := by rw [nz]; exact t2.2.1
      by_cases hc : iv M2 11 0 < 20 ∧ iv M2 11 1 + (l.length : Int) ≤ 120 ∧ iv M2 11 2 + iv M2 4 2 ≤ 40
      · obtain ⟨Ma, a1, a2, a3⟩ := both_yes rr2 t2.1 (by omega) (by omega) hd eI hc
        have mm : ∃ M3, am_call t_Mo_tidy [.ref 58, .int (zi d)] Ma (some (.int (zi (iv M2 59 0)))) M3 ∧ RR M3 ∧ M3 5000 = M2 5000 ∧ M3 5001 = M2 5001 := by
          suffices hh : am_x t_Mo_tidy (0, am_ent (am_mL t_Mo_tidy) [.ref 58, .int (zi d)], [], Ma) (fun rv M3 => rv = some (.int (zi (iv M2 59 0))) ∧ RR M3 ∧ M3 5000 = M2 5000 ∧ M3 5001 = M2 5001) by
            obtain ⟨rv, M', c1, c2, c3⟩ := am_call_ex (by exact ⟨Nat.le_of_ble_eq_true rfl, rfl⟩) hh
            subst c2
            exact ⟨M', c1, c3⟩
          have y59 : iv Ma 59 = iv M 59 := by rw [iv_row (a2 59 (by decide) (by decide) (by decide)), x59]
          refine m_tidy_x (L := L) (by rw [y59]; exact w) (by rw [y59]; exact hL) dz hd xa _ (fun s fs gs ts => ⟨fun z => absurd z (by rw [ts.1, ← el]; omega), fun _ => ?_⟩)
          rw [← el] at ts
          obtain ⟨k1, k2⟩ := rel s ts
          have sr : ∀ a, ¬ a = 11 → ¬ a = 12 → ¬ a = 14 → ¬ a = 58 → ¬ a = 74 → ¬ (63 ≤ a ∧ a ≤ 72) → s a = M2 a := fun a x1 x2 x3 x4 x5 x6 => by rw [fs a x4 x5 x6, a2 a x1 x2 x3]
          have sg : ∀ j, ¬ j = 14 → ¬ j = 21 → s 58 j = M2 58 j := fun j x1 x2 => by rw [gs j x1 x2, a2 58 (by decide) (by decide) (by decide)]
          obtain ⟨M3, m1, m2, m3, m4, m5⟩ := a3 s (fs 12 (by decide) (by decide) (by decide)) (fs 14 (by decide) (by decide) (by decide)) (sr 59 (by decide) (by decide) (by decide) (by decide) (by decide) (by decide)) (sr 60 (by decide) (by decide) (by decide) (by decide) (by decide) (by decide)) (sr 61 (by decide) (by decide) (by decide) (by decide) (by decide) (by decide)) (sr 62 (by decide) (by decide) (by decide) (by decide) (by decide) (by decide)) (sg 2 (by decide) (by decide)) ts.1 k1 k2
          have row : ∀ a, ¬ a = 11 → ¬ a = 12 → ¬ a = 14 → ¬ a = 58 → ¬ a = 59 → ¬ a = 60 → ¬ a = 74 → ¬ (63 ≤ a ∧ a ≤ 72) → M3 a = M2 a := fun a x1 x2 x3 x4 x5 x6 x7 x8 => by rw [m2 a x4 x5 x6, sr a x1 x2 x3 x4 x7 x8]
          have fl : ∀ j, ¬ j = 2 → ¬ j = 14 → ¬ j = 21 → M3 58 j = M2 58 j := fun j y1 y2 y3 => by rw [m3 j y1, sg j y2 y3]
          refine ⟨_, M3, m1, rfl, ⟨?_, ?_, ?_, m4⟩, row 5000 (by decide) (by decide) (by decide) (by decide) (by decide) (by decide) (by decide) (by decide), row 5001 (by decide) (by decide) (by decide) (by decide) (by decide) (by decide) (by decide) (by decide)⟩
          · unfold CSt
            have x11 : iv M3 11 = iv Ma 11 := by rw [iv_row (m2 11 (by decide) (by decide) (by decide)), iv_row (fs 11 (by decide) (by decide) (by decide))]
            rw [x11]
            exact m5
          · exact txt_rows rr2.2.1 (row 2 (by decide) (by decide) (by decide) (by decide) (by decide) (by decide) (by decide) (by decide)) (row 3 (by decide) (by decide) (by decide) (by decide) (by decide) (by decide) (by decide) (by decide)) (row 73 (by decide) (by decide) (by decide) (by decide) (by decide) (by decide) (by decide) (by decide)) (fl 17 (by decide) (by decide) (by decide))
          · exact out_rows rr2.2.2.1 (row 7 (by decide) (by decide) (by decide) (by decide) (by decide) (by decide) (by decide) (by decide)) (row 8 (by decide) (by decide) (by decide) (by decide) (by decide) (by decide) (by decide) (by decide)) (row 75 (by decide) (by decide) (by decide) (by decide) (by decide) (by decide) (by decide) (by decide)) (fl 23 (by decide) (by decide) (by decide)) (fl 24 (by decide) (by decide) (by decide))
        obtain ⟨M3, m1, m2, m3, m4⟩ := mm
        exact ⟨iv M2 59 0, Ma, M3, am_call_of ⟨Nat.le_of_ble_eq_true rfl, rfl⟩ (vc_c_tidy d M _ ⟨⟨dz, by decide⟩, fun _ => ⟨M1, h1, M2, c2, fun z => absurd z (by rw [t2.1]; omega), fun _ => ⟨_, Ma, a1, rfl, rfl⟩⟩, fun z => absurd hd z⟩), m1, m2, by rw [m3, row5 5000 (Or.inl rfl)], by rw [m4, row5 5001 (Or.inr rfl)]⟩
      · have an := sp_addDraft_no (d := d) rr2.1 (by rw [t2.1]; omega) (by rw [t2.2.1]; omega) (by rw [t2.1]; exact hc)
        have mm : ∃ M3, am_call t_Mo_tidy [.ref 58, .int (zi d)] M2 (some (.int (zi (-4)))) M3 ∧ RR M3 ∧ M3 5000 = M2 5000 ∧ M3 5001 = M2 5001 := by
          suffices hh : am_x t_Mo_tidy (0, am_ent (am_mL t_Mo_tidy) [.ref 58, .int (zi d)], [], M2) (fun rv M3 => rv = some (.int (zi (-4))) ∧ RR M3 ∧ M3 5000 = M2 5000 ∧ M3 5001 = M2 5001) by
            obtain ⟨rv, M', c1, c2, c3⟩ := am_call_ex (by exact ⟨Nat.le_of_ble_eq_true rfl, rfl⟩) hh
            subst c2
            exact ⟨M', c1, c3⟩
          refine m_tidy_x (L := L) rr2.1.1 (by rw [x59]; exact hL) dz hd xa _ (fun s fs gs ts => ⟨fun z => absurd z (by rw [ts.1, ← el]; omega), fun _ => ?_⟩)
          rw [← el] at ts
          obtain ⟨k1, k2⟩ := rel s ts
          have ri := rins_nin (M := M2) ts.1 k1
          have e59 : iv s 59 = iv M2 59 := iv_row (fs 59 (by decide) (by decide) (by decide))
          have cb2 := rr2.1.2.1
          have mn := sp_adds_no (M := s) (d := d) (by rw [e59]; exact rr2.1.1) ts.1 (by omega) (by omega) (by rw [ri, nz]; omega) (by rw [e59, ri, ← eI, ← cb2.2.2.1, ← cb2.2.1, ← cb2.1]; exact hc)
          exact ⟨_, s, mn, rfl, rr_rows rr2 (fun a ha => fs a (by omega) (by omega) (by omega)) (fun j hj => gs j (by omega) (by omega)), fs 5000 (by decide) (by decide) (by decide), fs 5001 (by decide) (by decide) (by decide)⟩
        obtain ⟨M3, m1, m2, m3, m4⟩ := mm
        exact ⟨-4, M2, M3, am_call_of ⟨Nat.le_of_ble_eq_true rfl, rfl⟩ (vc_c_tidy d M _ ⟨⟨dz, by decide⟩, fun _ => ⟨M1, h1, M2, c2, fun z => absurd z (by rw [t2.1]; omega), fun _ => ⟨_, M2, an, rfl, rfl⟩⟩, fun z => absurd hd z⟩), m1, m2, by rw [m3, row5 5000 (Or.inl rfl)], by rw [m4, row5 5001 (Or.inr rfl)]⟩
  · exact step_same rr (-2) ⟨Nat.le_of_ble_eq_true rfl, rfl⟩ ⟨Nat.le_of_ble_eq_true rfl, rfl⟩ (vc_c_tidy d M _ ⟨⟨dz, by decide⟩, fun q => absurd q hd, fun _ => ⟨rfl, rfl⟩⟩) (vc_m_tidy d M _ ⟨dz, fun q => absurd q hd, fun _ => ⟨rfl, rfl⟩⟩)
