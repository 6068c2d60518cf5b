/-! the reference: a byte of the text, a fault -/
def mtb (M : am_M) (k : Int) : Int := if k < iv M 58 17 then iv M 73 k else -1
theorem mtb_r (M : am_M) (k : Int) : zr (mtb M k) := by
  unfold mtb
  split
  · exact iv_r _ _ _
  · decide
set_option maxRecDepth 100000 in
theorem vc_m_byteAt (k : Int) (M : am_M) (Q : Option Value → am_M → Prop) (hv : (zr k) ∧ ((k < (iv M 58 17) → (0 ≤ k ∧ k < 120) ∧ (Q (some (.int (zi (iv M 73 k)))) M)) ∧ ((iv M 58 17) ≤ k → Q (some (.int (zi (-1)))) M))) : am_x t_Mo_byteAt (0, am_ent (am_mL t_Mo_byteAt) [.ref 58, .int (zi k)], [], M) Q := by
  refine am_xn 0 (c1 := (0, [.ref 58, .int (zi k)], [], M)) rfl ?_
  refine am_xrd 3 58 17 (pc := 5) (ls := [.ref 58, .int (zi k)]) (st := [.int (zi k)]) rfl ?_
  obtain ⟨r1, hv⟩ := hv
  refine am_xn 1 (c1 := (if zi k < zi (iv M 58 17) then 8 else 17, [.ref 58, .int (zi k)], [], M)) rfl (am_xlt r1 (iv_r _ _ _) (fun h => ?_) (fun h => ?_))
  · replace hv := hv.1 h
    obtain ⟨r2, hv⟩ := hv
    refine am_xn 3 (c1 := (13, [.ref 58, .int (zi k)], [.int (zi k), .ref 73], M)) rfl ?_
    refine am_xald rfl rfl rfl r2 ?_
    refine am_xn 0 (c1 := (14, [.ref 58, .int (zi k)], [.int (zi (iv M 73 k))], M)) rfl ?_
    refine am_xn 1 (c1 := (18, [.ref 58, .int (zi k)], [.int (zi (iv M 73 k))], M)) rfl ?_
    exact am_xr (some (.int (zi (iv M 73 k)))) ⟨rfl, rfl, .int, rfl, rfl⟩ hv
  · replace hv := hv.2 h
    refine am_xn 1 (c1 := (18, [.ref 58, .int (zi k)], [.int (zi (-1))], M)) rfl ?_
    exact am_xr (some (.int (zi (-1)))) ⟨rfl, rfl, .int, rfl, rfl⟩ hv
theorem sp_m_byteAt (M : am_M) (k : Int) (g : 0 ≤ k ∧ k ≤ 1000 ∧ iv M 58 17 ≤ 120) : am_call t_Mo_byteAt [.ref 58, .int (zi k)] M (some (.int (zi (mtb M k)))) M := by
  refine am_call_of ⟨Nat.le_of_ble_eq_true rfl, rfl⟩ (vc_m_byteAt k M _ ⟨⟨by omega, by omega⟩, fun h => ⟨⟨by omega, by omega⟩, ?_, rfl⟩, fun h => ⟨?_, rfl⟩⟩)
  · unfold mtb; rw [if_pos h]
  · unfold mtb; rw [if_neg (by omega)]
set_option maxRecDepth 100000 in
theorem vc_isDigit (k : Int) (M : am_M) (Q : Option Value → am_M → Prop) (hv : (0 ≤ k ∧ k ≤ 1000 ∧ iv M 58 17 ≤ 120) ∧ ((zr (mtb M k) ∧ zr (48 : Int) ∧ zr (57 : Int)) ∧ ((48 ≤ (mtb M k) ∧ (mtb M k) ≤ 57 → Q (some (.int (zi 1))) M) ∧ (¬ (48 ≤ (mtb M k) ∧ (mtb M k) ≤ 57) → Q (some (.int (zi 0))) M)))) : am_x t_Mo_isDigit (0, am_ent (am_mL t_Mo_isDigit) [.ref 58, .int (zi k)], [], M) Q := by
  refine am_xn 0 (c1 := (0, [.ref 58, .int (zi k)], [], M)) rfl ?_
  refine am_xn 2 (c1 := (2, [.ref 58, .int (zi k)], [.int (zi k), .ref 58], M)) rfl ?_
  obtain ⟨g, hv⟩ := hv
  refine am_xc t_Mo_byteAt (.invokevirtual 152) 152 (av := [.ref 58, .int (zi k)]) (rest := []) (rv := some (.int (zi (mtb M k)))) (M' := M) rfl rfl rfl rfl (Nat.le_of_ble_eq_true rfl) (fun _ => rfl) (sp_m_byteAt M k g) ?_
  refine am_xn 0 (c1 := (5, [.ref 58, .int (zi k)], [.int (zi (mtb M k))], M)) rfl ?_
  refine am_xn 2 (c1 := (9, [.ref 58, .int (zi k)], [.int (zi 57), .int (zi 48), .int (zi (mtb M k))], M)) rfl ?_
  obtain ⟨g, hv⟩ := hv
  by_cases c1 : 48 ≤ (mtb M k) ∧ (mtb M k) ≤ 57
  · replace hv := hv.1 c1
    refine am_xc t_Mo_in (.invokestatic 76) 76 (av := [.int (zi (mtb M k)), .int (zi 48), .int (zi 57)]) (rest := []) (rv := some (.int (zi 1))) (M' := M) rfl rfl rfl rfl (Nat.le_of_ble_eq_true rfl) (fun h => nomatch h) (by have q := sp_in M (mtb M k) 48 57 g; rwa [if_pos c1] at q) ?_
    refine am_xn 0 (c1 := (12, [.ref 58, .int (zi k)], [.int (zi 1)], M)) rfl ?_
    exact am_xr (some (.int (zi 1))) ⟨rfl, rfl, .boolean, rfl, rfl⟩ hv
  · replace hv := hv.2 c1
    refine am_xc t_Mo_in (.invokestatic 76) 76 (av := [.int (zi (mtb M k)), .int (zi 48), .int (zi 57)]) (rest := []) (rv := some (.int (zi 0))) (M' := M) rfl rfl rfl rfl (Nat.le_of_ble_eq_true rfl) (fun h => nomatch h) (by have q := sp_in M (mtb M k) 48 57 g; rwa [if_neg c1] at q) ?_
    refine am_xn 0 (c1 := (12, [.ref 58, .int (zi k)], [.int (zi 0)], M)) rfl ?_
    exact am_xr (some (.int (zi 0))) ⟨rfl, rfl, .boolean, rfl, rfl⟩ hv
theorem sp_isDigit (M : am_M) (k : Int) (g : 0 ≤ k ∧ k ≤ 1000 ∧ iv M 58 17 ≤ 120) : am_call t_Mo_isDigit [.ref 58, .int (zi k)] M (some (.int (zi (if isg (mtb M k) then 1 else 0)))) M := by
  refine am_call_of ⟨Nat.le_of_ble_eq_true rfl, rfl⟩ (vc_isDigit k M _ ⟨g, ⟨mtb_r M k, by decide, by decide⟩, fun h => ⟨by rw [if_pos h], rfl⟩, fun h => ⟨by rw [if_neg h], rfl⟩⟩)
set_option maxRecDepth 100000 in
theorem vc_isSmall (k : Int) (M : am_M) (Q : Option Value → am_M → Prop) (hv : (0 ≤ k ∧ k ≤ 1000 ∧ iv M 58 17 ≤ 120) ∧ ((zr (mtb M k) ∧ zr (97 : Int) ∧ zr (122 : Int)) ∧ ((97 ≤ (mtb M k) ∧ (mtb M k) ≤ 122 → Q (some (.int (zi 1))) M) ∧ (¬ (97 ≤ (mtb M k) ∧ (mtb M k) ≤ 122) → Q (some (.int (zi 0))) M)))) : am_x t_Mo_isSmall (0, am_ent (am_mL t_Mo_isSmall) [.ref 58, .int (zi k)], [], M) Q := by
  refine am_xn 0 (c1 := (0, [.ref 58, .int (zi k)], [], M)) rfl ?_
  refine am_xn 2 (c1 := (2, [.ref 58, .int (zi k)], [.int (zi k), .ref 58], M)) rfl ?_
  obtain ⟨g, hv⟩ := hv
  refine am_xc t_Mo_byteAt (.invokevirtual 152) 152 (av := [.ref 58, .int (zi k)]) (rest := []) (rv := some (.int (zi (mtb M k)))) (M' := M) rfl rfl rfl rfl (Nat.le_of_ble_eq_true rfl) (fun _ => rfl) (sp_m_byteAt M k g) ?_
  refine am_xn 0 (c1 := (5, [.ref 58, .int (zi k)], [.int (zi (mtb M k))], M)) rfl ?_
  refine am_xn 2 (c1 := (9, [.ref 58, .int (zi k)], [.int (zi 122), .int (zi 97), .int (zi (mtb M k))], M)) rfl ?_
  obtain ⟨g, hv⟩ := hv
  by_cases c1 : 97 ≤ (mtb M k) ∧ (mtb M k) ≤ 122
  · replace hv := hv.1 c1
    refine am_xc t_Mo_in (.invokestatic 76) 76 (av := [.int (zi (mtb M k)), .int (zi 97), .int (zi 122)]) (rest := []) (rv := some (.int (zi 1))) (M' := M) rfl rfl rfl rfl (Nat.le_of_ble_eq_true rfl) (fun h => nomatch h) (by have q := sp_in M (mtb M k) 97 122 g; rwa [if_pos c1] at q) ?_
    refine am_xn 0 (c1 := (12, [.ref 58, .int (zi k)], [.int (zi 1)], M)) rfl ?_
    exact am_xr (some (.int (zi 1))) ⟨rfl, rfl, .boolean, rfl, rfl⟩ hv
  · replace hv := hv.2 c1
    refine am_xc t_Mo_in (.invokestatic 76) 76 (av := [.int (zi (mtb M k)), .int (zi 97), .int (zi 122)]) (rest := []) (rv := some (.int (zi 0))) (M' := M) rfl rfl rfl rfl (Nat.le_of_ble_eq_true rfl) (fun h => nomatch h) (by have q := sp_in M (mtb M k) 97 122 g; rwa [if_neg c1] at q) ?_
    refine am_xn 0 (c1 := (12, [.ref 58, .int (zi k)], [.int (zi 0)], M)) rfl ?_
    exact am_xr (some (.int (zi 0))) ⟨rfl, rfl, .boolean, rfl, rfl⟩ hv
theorem sp_isSmall (M : am_M) (k : Int) (g : 0 ≤ k ∧ k ≤ 1000 ∧ iv M 58 17 ≤ 120) : am_call t_Mo_isSmall [.ref 58, .int (zi k)] M (some (.int (zi (if isl (mtb M k) then 1 else 0)))) M := by
  refine am_call_of ⟨Nat.le_of_ble_eq_true rfl, rfl⟩ (vc_isSmall k M _ ⟨g, ⟨mtb_r M k, by decide, by decide⟩, fun h => ⟨by rw [if_pos h], rfl⟩, fun h => ⟨by rw [if_neg h], rfl⟩⟩)
set_option maxRecDepth 100000 in
theorem vc_puts (w : Int) (v : Int) (M : am_M) (Q : Option Value → am_M → Prop) (hv : (0 ≤ ((12 * (iv M 58 21)) + w) ∧ ((12 * (iv M 58 21)) + w) < 492) ∧ (∀ M1, M1 = zup M 74 ((12 * (iv M 58 21)) + w) v → Q none M1)) : am_x t_Mo_puts (0, am_ent (am_mL t_Mo_puts) [.ref 58, .int (zi w), .int (zi v)], [], M) Q := by
  refine am_xn 0 (c1 := (0, [.ref 58, .int (zi w), .int (zi v)], [], M)) rfl ?_
  refine am_xrd 5 58 21 (pc := 10) (ls := [.ref 58, .int (zi w), .int (zi v)]) (st := [.int (zi 12), .ref 74]) rfl ?_
  refine am_ximul 1 12 (iv M 58 21) (pc := 11) (ls := [.ref 58, .int (zi w), .int (zi v)]) (st := [.ref 74]) rfl ?_
  refine am_xiadd 2 (12 * (iv M 58 21)) w (pc := 13) (ls := [.ref 58, .int (zi w), .int (zi v)]) (st := [.ref 74]) rfl ?_
  obtain ⟨r2, hv⟩ := hv
  refine am_xn 1 (c1 := (14, [.ref 58, .int (zi w), .int (zi v)], [.int (zi v), .int (zi ((12 * (iv M 58 21)) + w)), .ref 74], M)) rfl ?_
  refine am_xast rfl rfl rfl r2 ?_
  refine am_xn 0 (c1 := (15, [.ref 58, .int (zi w), .int (zi v)], [], zup M 74 ((12 * (iv M 58 21)) + w) v)) rfl ?_
  obtain ⟨M1, eM1⟩ : ∃ m, m = zup M 74 ((12 * (iv M 58 21)) + w) v := ⟨_, rfl⟩
  replace hv := hv M1 eM1
  rw [← eM1]
  exact am_xr none ⟨rfl, rfl, rfl⟩ hv
theorem sp_puts (M : am_M) (w : Int) (v : Int) (g : 0 ≤ 12 * iv M 58 21 + w ∧ 12 * iv M 58 21 + w < 492) : am_call t_Mo_puts [.ref 58, .int (zi w), .int (zi v)] M (none) (zup M 74 (12 * iv M 58 21 + w) v) := by
  exact am_call_of ⟨Nat.le_of_ble_eq_true rfl, rfl⟩ (vc_puts w v M _ ⟨g, fun M1 e1 => ⟨rfl, e1⟩⟩)
set_option maxRecDepth 100000 in
theorem vc_letters0  (M : am_M) (Q : Option Value → am_M → Prop) (hv : Q (some (.long (zl (((32 * (((32 * (((32 * (((32 * (((32 * (((32 * 0) + 105) - 96)) + 110) - 96)) + 115) - 96)) + 101) - 96)) + 114) - 96)) + 116) - 96)))) M) : am_x t_Mo_lettersOf (0, am_ent (am_mL t_Mo_lettersOf) [.int (zi 105), .int (zi 110), .int (zi 115), .int (zi 101), .int (zi 114), .int (zi 116), .int (zi 0), .int (zi 0)], [], M) Q := by
  refine am_xn 0 (c1 := (0, [.int (zi 105), .int (zi 110), .int (zi 115), .int (zi 101), .int (zi 114), .int (zi 116), .int (zi 0), .int (zi 0), .null, .null], [], M)) rfl ?_
  refine am_xlmul 7 32 0 (pc := 13) (ls := [.int (zi 105), .int (zi 110), .int (zi 115), .int (zi 101), .int (zi 114), .int (zi 116), .int (zi 0), .int (zi 0), .long (zl 0), .null]) (st := []) rfl ?_
  refine am_xladd 3 (32 * 0) 105 (pc := 16) (ls := [.int (zi 105), .int (zi 110), .int (zi 115), .int (zi 101), .int (zi 114), .int (zi 116), .int (zi 0), .int (zi 0), .long (zl 0), .null]) (st := []) rfl ?_
  refine am_xlsub 2 ((32 * 0) + 105) 96 (pc := 20) (ls := [.int (zi 105), .int (zi 110), .int (zi 115), .int (zi 101), .int (zi 114), .int (zi 116), .int (zi 0), .int (zi 0), .long (zl 0), .null]) (st := []) rfl ?_
  refine am_xlmul 7 32 (((32 * 0) + 105) - 96) (pc := 37) (ls := [.int (zi 105), .int (zi 110), .int (zi 115), .int (zi 101), .int (zi 114), .int (zi 116), .int (zi 0), .int (zi 0), .long (zl (((32 * 0) + 105) - 96)), .null]) (st := []) rfl ?_
  refine am_xladd 3 (32 * (((32 * 0) + 105) - 96)) 110 (pc := 40) (ls := [.int (zi 105), .int (zi 110), .int (zi 115), .int (zi 101), .int (zi 114), .int (zi 116), .int (zi 0), .int (zi 0), .long (zl (((32 * 0) + 105) - 96)), .null]) (st := []) rfl ?_
  refine am_xlsub 2 ((32 * (((32 * 0) + 105) - 96)) + 110) 96 (pc := 44) (ls := [.int (zi 105), .int (zi 110), .int (zi 115), .int (zi 101), .int (zi 114), .int (zi 116), .int (zi 0), .int (zi 0), .long (zl (((32 * 0) + 105) - 96)), .null]) (st := []) rfl ?_
  refine am_xlmul 7 32 (((32 * (((32 * 0) + 105) - 96)) + 110) - 96) (pc := 61) (ls := [.int (zi 105), .int (zi 110), .int (zi 115), .int (zi 101), .int (zi 114), .int (zi 116), .int (zi 0), .int (zi 0), .long (zl (((32 * (((32 * 0) + 105) - 96)) + 110) - 96)), .null]) (st := []) rfl ?_
  refine am_xladd 3 (32 * (((32 * (((32 * 0) + 105) - 96)) + 110) - 96)) 115 (pc := 64) (ls := [.int (zi 105), .int (zi 110), .int (zi 115), .int (zi 101), .int (zi 114), .int (zi 116), .int (zi 0), .int (zi 0), .long (zl (((32 * (((32 * 0) + 105) - 96)) + 110) - 96)), .null]) (st := []) rfl ?_
  refine am_xlsub 2 ((32 * (((32 * (((32 * 0) + 105) - 96)) + 110) - 96)) + 115) 96 (pc := 68) (ls := [.int (zi 105), .int (zi 110), .int (zi 115), .int (zi 101), .int (zi 114), .int (zi 116), .int (zi 0), .int (zi 0), .long (zl (((32 * (((32 * 0) + 105) - 96)) + 110) - 96)), .null]) (st := []) rfl ?_
  refine am_xlmul 7 32 (((32 * (((32 * (((32 * 0) + 105) - 96)) + 110) - 96)) + 115) - 96) (pc := 85) (ls := [.int (zi 105), .int (zi 110), .int (zi 115), .int (zi 101), .int (zi 114), .int (zi 116), .int (zi 0), .int (zi 0), .long (zl (((32 * (((32 * (((32 * 0) + 105) - 96)) + 110) - 96)) + 115) - 96)), .null]) (st := []) rfl ?_
  refine am_xladd 3 (32 * (((32 * (((32 * (((32 * 0) + 105) - 96)) + 110) - 96)) + 115) - 96)) 101 (pc := 88) (ls := [.int (zi 105), .int (zi 110), .int (zi 115), .int (zi 101), .int (zi 114), .int (zi 116), .int (zi 0), .int (zi 0), .long (zl (((32 * (((32 * (((32 * 0) + 105) - 96)) + 110) - 96)) + 115) - 96)), .null]) (st := []) rfl ?_
  refine am_xlsub 2 ((32 * (((32 * (((32 * (((32 * 0) + 105) - 96)) + 110) - 96)) + 115) - 96)) + 101) 96 (pc := 92) (ls := [.int (zi 105), .int (zi 110), .int (zi 115), .int (zi 101), .int (zi 114), .int (zi 116), .int (zi 0), .int (zi 0), .long (zl (((32 * (((32 * (((32 * 0) + 105) - 96)) + 110) - 96)) + 115) - 96)), .null]) (st := []) rfl ?_
  refine am_xlmul 7 32 (((32 * (((32 * (((32 * (((32 * 0) + 105) - 96)) + 110) - 96)) + 115) - 96)) + 101) - 96) (pc := 110) (ls := [.int (zi 105), .int (zi 110), .int (zi 115), .int (zi 101), .int (zi 114), .int (zi 116), .int (zi 0), .int (zi 0), .long (zl (((32 * (((32 * (((32 * (((32 * 0) + 105) - 96)) + 110) - 96)) + 115) - 96)) + 101) - 96)), .null]) (st := []) rfl ?_
  refine am_xladd 3 (32 * (((32 * (((32 * (((32 * (((32 * 0) + 105) - 96)) + 110) - 96)) + 115) - 96)) + 101) - 96)) 114 (pc := 114) (ls := [.int (zi 105), .int (zi 110), .int (zi 115), .int (zi 101), .int (zi 114), .int (zi 116), .int (zi 0), .int (zi 0), .long (zl (((32 * (((32 * (((32 * (((32 * 0) + 105) - 96)) + 110) - 96)) + 115) - 96)) + 101) - 96)), .null]) (st := []) rfl ?_
  refine am_xlsub 2 ((32 * (((32 * (((32 * (((32 * (((32 * 0) + 105) - 96)) + 110) - 96)) + 115) - 96)) + 101) - 96)) + 114) 96 (pc := 118) (ls := [.int (zi 105), .int (zi 110), .int (zi 115), .int (zi 101), .int (zi 114), .int (zi 116), .int (zi 0), .int (zi 0), .long (zl (((32 * (((32 * (((32 * (((32 * 0) + 105) - 96)) + 110) - 96)) + 115) - 96)) + 101) - 96)), .null]) (st := []) rfl ?_
  refine am_xlmul 7 32 (((32 * (((32 * (((32 * (((32 * (((32 * 0) + 105) - 96)) + 110) - 96)) + 115) - 96)) + 101) - 96)) + 114) - 96) (pc := 136) (ls := [.int (zi 105), .int (zi 110), .int (zi 115), .int (zi 101), .int (zi 114), .int (zi 116), .int (zi 0), .int (zi 0), .long (zl (((32 * (((32 * (((32 * (((32 * (((32 * 0) + 105) - 96)) + 110) - 96)) + 115) - 96)) + 101) - 96)) + 114) - 96)), .null]) (st := []) rfl ?_
  refine am_xladd 3 (32 * (((32 * (((32 * (((32 * (((32 * (((32 * 0) + 105) - 96)) + 110) - 96)) + 115) - 96)) + 101) - 96)) + 114) - 96)) 116 (pc := 140) (ls := [.int (zi 105), .int (zi 110), .int (zi 115), .int (zi 101), .int (zi 114), .int (zi 116), .int (zi 0), .int (zi 0), .long (zl (((32 * (((32 * (((32 * (((32 * (((32 * 0) + 105) - 96)) + 110) - 96)) + 115) - 96)) + 101) - 96)) + 114) - 96)), .null]) (st := []) rfl ?_
  refine am_xlsub 2 ((32 * (((32 * (((32 * (((32 * (((32 * (((32 * 0) + 105) - 96)) + 110) - 96)) + 115) - 96)) + 101) - 96)) + 114) - 96)) + 116) 96 (pc := 144) (ls := [.int (zi 105), .int (zi 110), .int (zi 115), .int (zi 101), .int (zi 114), .int (zi 116), .int (zi 0), .int (zi 0), .long (zl (((32 * (((32 * (((32 * (((32 * (((32 * 0) + 105) - 96)) + 110) - 96)) + 115) - 96)) + 101) - 96)) + 114) - 96)), .null]) (st := []) rfl ?_
  refine am_xn 9 (c1 := (201, [.int (zi 105), .int (zi 110), .int (zi 115), .int (zi 101), .int (zi 114), .int (zi 116), .int (zi 0), .int (zi 0), .long (zl (((32 * (((32 * (((32 * (((32 * (((32 * (((32 * 0) + 105) - 96)) + 110) - 96)) + 115) - 96)) + 101) - 96)) + 114) - 96)) + 116) - 96)), .null], [.long (zl (((32 * (((32 * (((32 * (((32 * (((32 * (((32 * 0) + 105) - 96)) + 110) - 96)) + 115) - 96)) + 101) - 96)) + 114) - 96)) + 116) - 96))], M)) rfl ?_
  exact am_xr (some (.long (zl (((32 * (((32 * (((32 * (((32 * (((32 * (((32 * 0) + 105) - 96)) + 110) - 96)) + 115) - 96)) + 101) - 96)) + 114) - 96)) + 116) - 96)))) ⟨rfl, rfl, rfl⟩ hv
theorem sp_letters0 (M : am_M) : am_call t_Mo_lettersOf [.int (zi 105), .int (zi 110), .int (zi 115), .int (zi 101), .int (zi 114), .int (zi 116), .int (zi 0), .int (zi 0)] M (some (.long (zl 317298260))) M := am_call_of ⟨Nat.le_of_ble_eq_true rfl, rfl⟩ (vc_letters0 M _ ⟨by rw [show ((((32 * (((32 * (((32 * (((32 * (((32 * (((32 * 0) + 105) - 96)) + 110) - 96)) + 115) - 96)) + 101) - 96)) + 114) - 96)) + 116) - 96) : Int) = 317298260 from by decide], rfl⟩)
set_option maxRecDepth 100000 in
theorem vc_letters1  (M : am_M) (Q : Option Value → am_M → Prop) (hv : Q (some (.long (zl (((32 * (((32 * (((32 * (((32 * (((32 * (((32 * (((32 * 0) + 114) - 96)) + 101) - 96)) + 112) - 96)) + 108) - 96)) + 97) - 96)) + 99) - 96)) + 101) - 96)))) M) : am_x t_Mo_lettersOf (0, am_ent (am_mL t_Mo_lettersOf) [.int (zi 114), .int (zi 101), .int (zi 112), .int (zi 108), .int (zi 97), .int (zi 99), .int (zi 101), .int (zi 0)], [], M) Q := by
  refine am_xn 0 (c1 := (0, [.int (zi 114), .int (zi 101), .int (zi 112), .int (zi 108), .int (zi 97), .int (zi 99), .int (zi 101), .int (zi 0), .null, .null], [], M)) rfl ?_
  refine am_xlmul 7 32 0 (pc := 13) (ls := [.int (zi 114), .int (zi 101), .int (zi 112), .int (zi 108), .int (zi 97), .int (zi 99), .int (zi 101), .int (zi 0), .long (zl 0), .null]) (st := []) rfl ?_
  refine am_xladd 3 (32 * 0) 114 (pc := 16) (ls := [.int (zi 114), .int (zi 101), .int (zi 112), .int (zi 108), .int (zi 97), .int (zi 99), .int (zi 101), .int (zi 0), .long (zl 0), .null]) (st := []) rfl ?_
  refine am_xlsub 2 ((32 * 0) + 114) 96 (pc := 20) (ls := [.int (zi 114), .int (zi 101), .int (zi 112), .int (zi 108), .int (zi 97), .int (zi 99), .int (zi 101), .int (zi 0), .long (zl 0), .null]) (st := []) rfl ?_
  refine am_xlmul 7 32 (((32 * 0) + 114) - 96) (pc := 37) (ls := [.int (zi 114), .int (zi 101), .int (zi 112), .int (zi 108), .int (zi 97), .int (zi 99), .int (zi 101), .int (zi 0), .long (zl (((32 * 0) + 114) - 96)), .null]) (st := []) rfl ?_
  refine am_xladd 3 (32 * (((32 * 0) + 114) - 96)) 101 (pc := 40) (ls := [.int (zi 114), .int (zi 101), .int (zi 112), .int (zi 108), .int (zi 97), .int (zi 99), .int (zi 101), .int (zi 0), .long (zl (((32 * 0) + 114) - 96)), .null]) (st := []) rfl ?_
  refine am_xlsub 2 ((32 * (((32 * 0) + 114) - 96)) + 101) 96 (pc := 44) (ls := [.int (zi 114), .int (zi 101), .int (zi 112), .int (zi 108), .int (zi 97), .int (zi 99), .int (zi 101), .int (zi 0), .long (zl (((32 * 0) + 114) - 96)), .null]) (st := []) rfl ?_
  refine am_xlmul 7 32 (((32 * (((32 * 0) + 114) - 96)) + 101) - 96) (pc := 61) (ls := [.int (zi 114), .int (zi 101), .int (zi 112), .int (zi 108), .int (zi 97), .int (zi 99), .int (zi 101), .int (zi 0), .long (zl (((32 * (((32 * 0) + 114) - 96)) + 101) - 96)), .null]) (st := []) rfl ?_
  refine am_xladd 3 (32 * (((32 * (((32 * 0) + 114) - 96)) + 101) - 96)) 112 (pc := 64) (ls := [.int (zi 114), .int (zi 101), .int (zi 112), .int (zi 108), .int (zi 97), .int (zi 99), .int (zi 101), .int (zi 0), .long (zl (((32 * (((32 * 0) + 114) - 96)) + 101) - 96)), .null]) (st := []) rfl ?_
  refine am_xlsub 2 ((32 * (((32 * (((32 * 0) + 114) - 96)) + 101) - 96)) + 112) 96 (pc := 68) (ls := [.int (zi 114), .int (zi 101), .int (zi 112), .int (zi 108), .int (zi 97), .int (zi 99), .int (zi 101), .int (zi 0), .long (zl (((32 * (((32 * 0) + 114) - 96)) + 101) - 96)), .null]) (st := []) rfl ?_
  refine am_xlmul 7 32 (((32 * (((32 * (((32 * 0) + 114) - 96)) + 101) - 96)) + 112) - 96) (pc := 85) (ls := [.int (zi 114), .int (zi 101), .int (zi 112), .int (zi 108), .int (zi 97), .int (zi 99), .int (zi 101), .int (zi 0), .long (zl (((32 * (((32 * (((32 * 0) + 114) - 96)) + 101) - 96)) + 112) - 96)), .null]) (st := []) rfl ?_
  refine am_xladd 3 (32 * (((32 * (((32 * (((32 * 0) + 114) - 96)) + 101) - 96)) + 112) - 96)) 108 (pc := 88) (ls := [.int (zi 114), .int (zi 101), .int (zi 112), .int (zi 108), .int (zi 97), .int (zi 99), .int (zi 101), .int (zi 0), .long (zl (((32 * (((32 * (((32 * 0) + 114) - 96)) + 101) - 96)) + 112) - 96)), .null]) (st := []) rfl ?_
  refine am_xlsub 2 ((32 * (((32 * (((32 * (((32 * 0) + 114) - 96)) + 101) - 96)) + 112) - 96)) + 108) 96 (pc := 92) (ls := [.int (zi 114), .int (zi 101), .int (zi 112), .int (zi 108), .int (zi 97), .int (zi 99), .int (zi 101), .int (zi 0), .long (zl (((32 * (((32 * (((32 * 0) + 114) - 96)) + 101) - 96)) + 112) - 96)), .null]) (st := []) rfl ?_
  refine am_xlmul 7 32 (((32 * (((32 * (((32 * (((32 * 0) + 114) - 96)) + 101) - 96)) + 112) - 96)) + 108) - 96) (pc := 110) (ls := [.int (zi 114), .int (zi 101), .int (zi 112), .int (zi 108), .int (zi 97), .int (zi 99), .int (zi 101), .int (zi 0), .long (zl (((32 * (((32 * (((32 * (((32 * 0) + 114) - 96)) + 101) - 96)) + 112) - 96)) + 108) - 96)), .null]) (st := []) rfl ?_
  refine am_xladd 3 (32 * (((32 * (((32 * (((32 * (((32 * 0) + 114) - 96)) + 101) - 96)) + 112) - 96)) + 108) - 96)) 97 (pc := 114) (ls := [.int (zi 114), .int (zi 101), .int (zi 112), .int (zi 108), .int (zi 97), .int (zi 99), .int (zi 101), .int (zi 0), .long (zl (((32 * (((32 * (((32 * (((32 * 0) + 114) - 96)) + 101) - 96)) + 112) - 96)) + 108) - 96)), .null]) (st := []) rfl ?_
  refine am_xlsub 2 ((32 * (((32 * (((32 * (((32 * (((32 * 0) + 114) - 96)) + 101) - 96)) + 112) - 96)) + 108) - 96)) + 97) 96 (pc := 118) (ls := [.int (zi 114), .int (zi 101), .int (zi 112), .int (zi 108), .int (zi 97), .int (zi 99), .int (zi 101), .int (zi 0), .long (zl (((32 * (((32 * (((32 * (((32 * 0) + 114) - 96)) + 101) - 96)) + 112) - 96)) + 108) - 96)), .null]) (st := []) rfl ?_
  refine am_xlmul 7 32 (((32 * (((32 * (((32 * (((32 * (((32 * 0) + 114) - 96)) + 101) - 96)) + 112) - 96)) + 108) - 96)) + 97) - 96) (pc := 136) (ls := [.int (zi 114), .int (zi 101), .int (zi 112), .int (zi 108), .int (zi 97), .int (zi 99), .int (zi 101), .int (zi 0), .long (zl (((32 * (((32 * (((32 * (((32 * (((32 * 0) + 114) - 96)) + 101) - 96)) + 112) - 96)) + 108) - 96)) + 97) - 96)), .null]) (st := []) rfl ?_
  refine am_xladd 3 (32 * (((32 * (((32 * (((32 * (((32 * (((32 * 0) + 114) - 96)) + 101) - 96)) + 112) - 96)) + 108) - 96)) + 97) - 96)) 99 (pc := 140) (ls := [.int (zi 114), .int (zi 101), .int (zi 112), .int (zi 108), .int (zi 97), .int (zi 99), .int (zi 101), .int (zi 0), .long (zl (((32 * (((32 * (((32 * (((32 * (((32 * 0) + 114) - 96)) + 101) - 96)) + 112) - 96)) + 108) - 96)) + 97) - 96)), .null]) (st := []) rfl ?_
  refine am_xlsub 2 ((32 * (((32 * (((32 * (((32 * (((32 * (((32 * 0) + 114) - 96)) + 101) - 96)) + 112) - 96)) + 108) - 96)) + 97) - 96)) + 99) 96 (pc := 144) (ls := [.int (zi 114), .int (zi 101), .int (zi 112), .int (zi 108), .int (zi 97), .int (zi 99), .int (zi 101), .int (zi 0), .long (zl (((32 * (((32 * (((32 * (((32 * (((32 * 0) + 114) - 96)) + 101) - 96)) + 112) - 96)) + 108) - 96)) + 97) - 96)), .null]) (st := []) rfl ?_
  refine am_xlmul 7 32 (((32 * (((32 * (((32 * (((32 * (((32 * (((32 * 0) + 114) - 96)) + 101) - 96)) + 112) - 96)) + 108) - 96)) + 97) - 96)) + 99) - 96) (pc := 162) (ls := [.int (zi 114), .int (zi 101), .int (zi 112), .int (zi 108), .int (zi 97), .int (zi 99), .int (zi 101), .int (zi 0), .long (zl (((32 * (((32 * (((32 * (((32 * (((32 * (((32 * 0) + 114) - 96)) + 101) - 96)) + 112) - 96)) + 108) - 96)) + 97) - 96)) + 99) - 96)), .null]) (st := []) rfl ?_
  refine am_xladd 3 (32 * (((32 * (((32 * (((32 * (((32 * (((32 * (((32 * 0) + 114) - 96)) + 101) - 96)) + 112) - 96)) + 108) - 96)) + 97) - 96)) + 99) - 96)) 101 (pc := 166) (ls := [.int (zi 114), .int (zi 101), .int (zi 112), .int (zi 108), .int (zi 97), .int (zi 99), .int (zi 101), .int (zi 0), .long (zl (((32 * (((32 * (((32 * (((32 * (((32 * (((32 * 0) + 114) - 96)) + 101) - 96)) + 112) - 96)) + 108) - 96)) + 97) - 96)) + 99) - 96)), .null]) (st := []) rfl ?_
  refine am_xlsub 2 ((32 * (((32 * (((32 * (((32 * (((32 * (((32 * (((32 * 0) + 114) - 96)) + 101) - 96)) + 112) - 96)) + 108) - 96)) + 97) - 96)) + 99) - 96)) + 101) 96 (pc := 170) (ls := [.int (zi 114), .int (zi 101), .int (zi 112), .int (zi 108), .int (zi 97), .int (zi 99), .int (zi 101), .int (zi 0), .long (zl (((32 * (((32 * (((32 * (((32 * (((32 * (((32 * 0) + 114) - 96)) + 101) - 96)) + 112) - 96)) + 108) - 96)) + 97) - 96)) + 99) - 96)), .null]) (st := []) rfl ?_
  refine am_xn 5 (c1 := (201, [.int (zi 114), .int (zi 101), .int (zi 112), .int (zi 108), .int (zi 97), .int (zi 99), .int (zi 101), .int (zi 0), .long (zl (((32 * (((32 * (((32 * (((32 * (((32 * (((32 * (((32 * 0) + 114) - 96)) + 101) - 96)) + 112) - 96)) + 108) - 96)) + 97) - 96)) + 99) - 96)) + 101) - 96)), .null], [.long (zl (((32 * (((32 * (((32 * (((32 * (((32 * (((32 * (((32 * 0) + 114) - 96)) + 101) - 96)) + 112) - 96)) + 108) - 96)) + 97) - 96)) + 99) - 96)) + 101) - 96))], M)) rfl ?_
  exact am_xr (some (.long (zl (((32 * (((32 * (((32 * (((32 * (((32 * (((32 * (((32 * 0) + 114) - 96)) + 101) - 96)) + 112) - 96)) + 108) - 96)) + 97) - 96)) + 99) - 96)) + 101) - 96)))) ⟨rfl, rfl, rfl⟩ hv
theorem sp_letters1 (M : am_M) : am_call t_Mo_lettersOf [.int (zi 114), .int (zi 101), .int (zi 112), .int (zi 108), .int (zi 97), .int (zi 99), .int (zi 101), .int (zi 0)] M (some (.long (zl 19512296549))) M := am_call_of ⟨Nat.le_of_ble_eq_true rfl, rfl⟩ (vc_letters1 M _ ⟨by rw [show ((((32 * (((32 * (((32 * (((32 * (((32 * (((32 * (((32 * 0) + 114) - 96)) + 101) - 96)) + 112) - 96)) + 108) - 96)) + 97) - 96)) + 99) - 96)) + 101) - 96) : Int) = 19512296549 from by decide], rfl⟩)
set_option maxRecDepth 100000 in
theorem vc_letters2  (M : am_M) (Q : Option Value → am_M → Prop) (hv : Q (some (.long (zl (((32 * (((32 * (((32 * (((32 * (((32 * (((32 * 0) + 114) - 96)) + 101) - 96)) + 112) - 96)) + 101) - 96)) + 97) - 96)) + 108) - 96)))) M) : am_x t_Mo_lettersOf (0, am_ent (am_mL t_Mo_lettersOf) [.int (zi 114), .int (zi 101), .int (zi 112), .int (zi 101), .int (zi 97), .int (zi 108), .int (zi 0), .int (zi 0)], [], M) Q := by
  refine am_xn 0 (c1 := (0, [.int (zi 114), .int (zi 101), .int (zi 112), .int (zi 101), .int (zi 97), .int (zi 108), .int (zi 0), .int (zi 0), .null, .null], [], M)) rfl ?_
  refine am_xlmul 7 32 0 (pc := 13) (ls := [.int (zi 114), .int (zi 101), .int (zi 112), .int (zi 101), .int (zi 97), .int (zi 108), .int (zi 0), .int (zi 0), .long (zl 0), .null]) (st := []) rfl ?_
  refine am_xladd 3 (32 * 0) 114 (pc := 16) (ls := [.int (zi 114), .int (zi 101), .int (zi 112), .int (zi 101), .int (zi 97), .int (zi 108), .int (zi 0), .int (zi 0), .long (zl 0), .null]) (st := []) rfl ?_
  refine am_xlsub 2 ((32 * 0) + 114) 96 (pc := 20) (ls := [.int (zi 114), .int (zi 101), .int (zi 112), .int (zi 101), .int (zi 97), .int (zi 108), .int (zi 0), .int (zi 0), .long (zl 0), .null]) (st := []) rfl ?_
  refine am_xlmul 7 32 (((32 * 0) + 114) - 96) (pc := 37) (ls := [.int (zi 114), .int (zi 101), .int (zi 112), .int (zi 101), .int (zi 97), .int (zi 108), .int (zi 0), .int (zi 0), .long (zl (((32 * 0) + 114) - 96)), .null]) (st := []) rfl ?_
  refine am_xladd 3 (32 * (((32 * 0) + 114) - 96)) 101 (pc := 40) (ls := [.int (zi 114), .int (zi 101), .int (zi 112), .int (zi 101), .int (zi 97), .int (zi 108), .int (zi 0), .int (zi 0), .long (zl (((32 * 0) + 114) - 96)), .null]) (st := []) rfl ?_
  refine am_xlsub 2 ((32 * (((32 * 0) + 114) - 96)) + 101) 96 (pc := 44) (ls := [.int (zi 114), .int (zi 101), .int (zi 112), .int (zi 101), .int (zi 97), .int (zi 108), .int (zi 0), .int (zi 0), .long (zl (((32 * 0) + 114) - 96)), .null]) (st := []) rfl ?_
  refine am_xlmul 7 32 (((32 * (((32 * 0) + 114) - 96)) + 101) - 96) (pc := 61) (ls := [.int (zi 114), .int (zi 101), .int (zi 112), .int (zi 101), .int (zi 97), .int (zi 108), .int (zi 0), .int (zi 0), .long (zl (((32 * (((32 * 0) + 114) - 96)) + 101) - 96)), .null]) (st := []) rfl ?_
  refine am_xladd 3 (32 * (((32 * (((32 * 0) + 114) - 96)) + 101) - 96)) 112 (pc := 64) (ls := [.int (zi 114), .int (zi 101), .int (zi 112), .int (zi 101), .int (zi 97), .int (zi 108), .int (zi 0), .int (zi 0), .long (zl (((32 * (((32 * 0) + 114) - 96)) + 101) - 96)), .null]) (st := []) rfl ?_
  refine am_xlsub 2 ((32 * (((32 * (((32 * 0) + 114) - 96)) + 101) - 96)) + 112) 96 (pc := 68) (ls := [.int (zi 114), .int (zi 101), .int (zi 112), .int (zi 101), .int (zi 97), .int (zi 108), .int (zi 0), .int (zi 0), .long (zl (((32 * (((32 * 0) + 114) - 96)) + 101) - 96)), .null]) (st := []) rfl ?_
  refine am_xlmul 7 32 (((32 * (((32 * (((32 * 0) + 114) - 96)) + 101) - 96)) + 112) - 96) (pc := 85) (ls := [.int (zi 114), .int (zi 101), .int (zi 112), .int (zi 101), .int (zi 97), .int (zi 108), .int (zi 0), .int (zi 0), .long (zl (((32 * (((32 * (((32 * 0) + 114) - 96)) + 101) - 96)) + 112) - 96)), .null]) (st := []) rfl ?_
  refine am_xladd 3 (32 * (((32 * (((32 * (((32 * 0) + 114) - 96)) + 101) - 96)) + 112) - 96)) 101 (pc := 88) (ls := [.int (zi 114), .int (zi 101), .int (zi 112), .int (zi 101), .int (zi 97), .int (zi 108), .int (zi 0), .int (zi 0), .long (zl (((32 * (((32 * (((32 * 0) + 114) - 96)) + 101) - 96)) + 112) - 96)), .null]) (st := []) rfl ?_
  refine am_xlsub 2 ((32 * (((32 * (((32 * (((32 * 0) + 114) - 96)) + 101) - 96)) + 112) - 96)) + 101) 96 (pc := 92) (ls := [.int (zi 114), .int (zi 101), .int (zi 112), .int (zi 101), .int (zi 97), .int (zi 108), .int (zi 0), .int (zi 0), .long (zl (((32 * (((32 * (((32 * 0) + 114) - 96)) + 101) - 96)) + 112) - 96)), .null]) (st := []) rfl ?_
  refine am_xlmul 7 32 (((32 * (((32 * (((32 * (((32 * 0) + 114) - 96)) + 101) - 96)) + 112) - 96)) + 101) - 96) (pc := 110) (ls := [.int (zi 114), .int (zi 101), .int (zi 112), .int (zi 101), .int (zi 97), .int (zi 108), .int (zi 0), .int (zi 0), .long (zl (((32 * (((32 * (((32 * (((32 * 0) + 114) - 96)) + 101) - 96)) + 112) - 96)) + 101) - 96)), .null]) (st := []) rfl ?_
  refine am_xladd 3 (32 * (((32 * (((32 * (((32 * (((32 * 0) + 114) - 96)) + 101) - 96)) + 112) - 96)) + 101) - 96)) 97 (pc := 114) (ls := [.int (zi 114), .int (zi 101), .int (zi 112), .int (zi 101), .int (zi 97), .int (zi 108), .int (zi 0), .int (zi 0), .long (zl (((32 * (((32 * (((32 * (((32 * 0) + 114) - 96)) + 101) - 96)) + 112) - 96)) + 101) - 96)), .null]) (st := []) rfl ?_
  refine am_xlsub 2 ((32 * (((32 * (((32 * (((32 * (((32 * 0) + 114) - 96)) + 101) - 96)) + 112) - 96)) + 101) - 96)) + 97) 96 (pc := 118) (ls := [.int (zi 114), .int (zi 101), .int (zi 112), .int (zi 101), .int (zi 97), .int (zi 108), .int (zi 0), .int (zi 0), .long (zl (((32 * (((32 * (((32 * (((32 * 0) + 114) - 96)) + 101) - 96)) + 112) - 96)) + 101) - 96)), .null]) (st := []) rfl ?_
  refine am_xlmul 7 32 (((32 * (((32 * (((32 * (((32 * (((32 * 0) + 114) - 96)) + 101) - 96)) + 112) - 96)) + 101) - 96)) + 97) - 96) (pc := 136) (ls := [.int (zi 114), .int (zi 101), .int (zi 112), .int (zi 101), .int (zi 97), .int (zi 108), .int (zi 0), .int (zi 0), .long (zl (((32 * (((32 * (((32 * (((32 * (((32 * 0) + 114) - 96)) + 101) - 96)) + 112) - 96)) + 101) - 96)) + 97) - 96)), .null]) (st := []) rfl ?_
  refine am_xladd 3 (32 * (((32 * (((32 * (((32 * (((32 * (((32 * 0) + 114) - 96)) + 101) - 96)) + 112) - 96)) + 101) - 96)) + 97) - 96)) 108 (pc := 140) (ls := [.int (zi 114), .int (zi 101), .int (zi 112), .int (zi 101), .int (zi 97), .int (zi 108), .int (zi 0), .int (zi 0), .long (zl (((32 * (((32 * (((32 * (((32 * (((32 * 0) + 114) - 96)) + 101) - 96)) + 112) - 96)) + 101) - 96)) + 97) - 96)), .null]) (st := []) rfl ?_
  refine am_xlsub 2 ((32 * (((32 * (((32 * (((32 * (((32 * (((32 * 0) + 114) - 96)) + 101) - 96)) + 112) - 96)) + 101) - 96)) + 97) - 96)) + 108) 96 (pc := 144) (ls := [.int (zi 114), .int (zi 101), .int (zi 112), .int (zi 101), .int (zi 97), .int (zi 108), .int (zi 0), .int (zi 0), .long (zl (((32 * (((32 * (((32 * (((32 * (((32 * 0) + 114) - 96)) + 101) - 96)) + 112) - 96)) + 101) - 96)) + 97) - 96)), .null]) (st := []) rfl ?_
  refine am_xn 9 (c1 := (201, [.int (zi 114), .int (zi 101), .int (zi 112), .int (zi 101), .int (zi 97), .int (zi 108), .int (zi 0), .int (zi 0), .long (zl (((32 * (((32 * (((32 * (((32 * (((32 * (((32 * 0) + 114) - 96)) + 101) - 96)) + 112) - 96)) + 101) - 96)) + 97) - 96)) + 108) - 96)), .null], [.long (zl (((32 * (((32 * (((32 * (((32 * (((32 * (((32 * 0) + 114) - 96)) + 101) - 96)) + 112) - 96)) + 101) - 96)) + 97) - 96)) + 108) - 96))], M)) rfl ?_
  exact am_xr (some (.long (zl (((32 * (((32 * (((32 * (((32 * (((32 * (((32 * 0) + 114) - 96)) + 101) - 96)) + 112) - 96)) + 101) - 96)) + 97) - 96)) + 108) - 96)))) ⟨rfl, rfl, rfl⟩ hv
theorem sp_letters2 (M : am_M) : am_call t_Mo_lettersOf [.int (zi 114), .int (zi 101), .int (zi 112), .int (zi 101), .int (zi 97), .int (zi 108), .int (zi 0), .int (zi 0)] M (some (.long (zl 609752108))) M := am_call_of ⟨Nat.le_of_ble_eq_true rfl, rfl⟩ (vc_letters2 M _ ⟨by rw [show ((((32 * (((32 * (((32 * (((32 * (((32 * (((32 * 0) + 114) - 96)) + 101) - 96)) + 112) - 96)) + 101) - 96)) + 97) - 96)) + 108) - 96) : Int) = 609752108 from by decide], rfl⟩)
set_option maxRecDepth 100000 in
theorem vc_letters3  (M : am_M) (Q : Option Value → am_M → Prop) (hv : Q (some (.long (zl (((32 * (((32 * (((32 * (((32 * (((32 * (((32 * (((32 * (((32 * 0) + 114) - 96)) + 101) - 96)) + 110) - 96)) + 117) - 96)) + 109) - 96)) + 98) - 96)) + 101) - 96)) + 114) - 96)))) M) : am_x t_Mo_lettersOf (0, am_ent (am_mL t_Mo_lettersOf) [.int (zi 114), .int (zi 101), .int (zi 110), .int (zi 117), .int (zi 109), .int (zi 98), .int (zi 101), .int (zi 114)], [], M) Q := by
  refine am_xn 0 (c1 := (0, [.int (zi 114), .int (zi 101), .int (zi 110), .int (zi 117), .int (zi 109), .int (zi 98), .int (zi 101), .int (zi 114), .null, .null], [], M)) rfl ?_
  refine am_xlmul 7 32 0 (pc := 13) (ls := [.int (zi 114), .int (zi 101), .int (zi 110), .int (zi 117), .int (zi 109), .int (zi 98), .int (zi 101), .int (zi 114), .long (zl 0), .null]) (st := []) rfl ?_
  refine am_xladd 3 (32 * 0) 114 (pc := 16) (ls := [.int (zi 114), .int (zi 101), .int (zi 110), .int (zi 117), .int (zi 109), .int (zi 98), .int (zi 101), .int (zi 114), .long (zl 0), .null]) (st := []) rfl ?_
  refine am_xlsub 2 ((32 * 0) + 114) 96 (pc := 20) (ls := [.int (zi 114), .int (zi 101), .int (zi 110), .int (zi 117), .int (zi 109), .int (zi 98), .int (zi 101), .int (zi 114), .long (zl 0), .null]) (st := []) rfl ?_
  refine am_xlmul 7 32 (((32 * 0) + 114) - 96) (pc := 37) (ls := [.int (zi 114), .int (zi 101), .int (zi 110), .int (zi 117), .int (zi 109), .int (zi 98), .int (zi 101), .int (zi 114), .long (zl (((32 * 0) + 114) - 96)), .null]) (st := []) rfl ?_
  refine am_xladd 3 (32 * (((32 * 0) + 114) - 96)) 101 (pc := 40) (ls := [.int (zi 114), .int (zi 101), .int (zi 110), .int (zi 117), .int (zi 109), .int (zi 98), .int (zi 101), .int (zi 114), .long (zl (((32 * 0) + 114) - 96)), .null]) (st := []) rfl ?_
  refine am_xlsub 2 ((32 * (((32 * 0) + 114) - 96)) + 101) 96 (pc := 44) (ls := [.int (zi 114), .int (zi 101), .int (zi 110), .int (zi 117), .int (zi 109), .int (zi 98), .int (zi 101), .int (zi 114), .long (zl (((32 * 0) + 114) - 96)), .null]) (st := []) rfl ?_
  refine am_xlmul 7 32 (((32 * (((32 * 0) + 114) - 96)) + 101) - 96) (pc := 61) (ls := [.int (zi 114), .int (zi 101), .int (zi 110), .int (zi 117), .int (zi 109), .int (zi 98), .int (zi 101), .int (zi 114), .long (zl (((32 * (((32 * 0) + 114) - 96)) + 101) - 96)), .null]) (st := []) rfl ?_
  refine am_xladd 3 (32 * (((32 * (((32 * 0) + 114) - 96)) + 101) - 96)) 110 (pc := 64) (ls := [.int (zi 114), .int (zi 101), .int (zi 110), .int (zi 117), .int (zi 109), .int (zi 98), .int (zi 101), .int (zi 114), .long (zl (((32 * (((32 * 0) + 114) - 96)) + 101) - 96)), .null]) (st := []) rfl ?_
  refine am_xlsub 2 ((32 * (((32 * (((32 * 0) + 114) - 96)) + 101) - 96)) + 110) 96 (pc := 68) (ls := [.int (zi 114), .int (zi 101), .int (zi 110), .int (zi 117), .int (zi 109), .int (zi 98), .int (zi 101), .int (zi 114), .long (zl (((32 * (((32 * 0) + 114) - 96)) + 101) - 96)), .null]) (st := []) rfl ?_
  refine am_xlmul 7 32 (((32 * (((32 * (((32 * 0) + 114) - 96)) + 101) - 96)) + 110) - 96) (pc := 85) (ls := [.int (zi 114), .int (zi 101), .int (zi 110), .int (zi 117), .int (zi 109), .int (zi 98), .int (zi 101), .int (zi 114), .long (zl (((32 * (((32 * (((32 * 0) + 114) - 96)) + 101) - 96)) + 110) - 96)), .null]) (st := []) rfl ?_
  refine am_xladd 3 (32 * (((32 * (((32 * (((32 * 0) + 114) - 96)) + 101) - 96)) + 110) - 96)) 117 (pc := 88) (ls := [.int (zi 114), .int (zi 101), .int (zi 110), .int (zi 117), .int (zi 109), .int (zi 98), .int (zi 101), .int (zi 114), .long (zl (((32 * (((32 * (((32 * 0) + 114) - 96)) + 101) - 96)) + 110) - 96)), .null]) (st := []) rfl ?_
  refine am_xlsub 2 ((32 * (((32 * (((32 * (((32 * 0) + 114) - 96)) + 101) - 96)) + 110) - 96)) + 117) 96 (pc := 92) (ls := [.int (zi 114), .int (zi 101), .int (zi 110), .int (zi 117), .int (zi 109), .int (zi 98), .int (zi 101), .int (zi 114), .long (zl (((32 * (((32 * (((32 * 0) + 114) - 96)) + 101) - 96)) + 110) - 96)), .null]) (st := []) rfl ?_
  refine am_xlmul 7 32 (((32 * (((32 * (((32 * (((32 * 0) + 114) - 96)) + 101) - 96)) + 110) - 96)) + 117) - 96) (pc := 110) (ls := [.int (zi 114), .int (zi 101), .int (zi 110), .int (zi 117), .int (zi 109), .int (zi 98), .int (zi 101), .int (zi 114), .long (zl (((32 * (((32 * (((32 * (((32 * 0) + 114) - 96)) + 101) - 96)) + 110) - 96)) + 117) - 96)), .null]) (st := []) rfl ?_
  refine am_xladd 3 (32 * (((32 * (((32 * (((32 * (((32 * 0) + 114) - 96)) + 101) - 96)) + 110) - 96)) + 117) - 96)) 109 (pc := 114) (ls := [.int (zi 114), .int (zi 101), .int (zi 110), .int (zi 117), .int (zi 109), .int (zi 98), .int (zi 101), .int (zi 114), .long (zl (((32 * (((32 * (((32 * (((32 * 0) + 114) - 96)) + 101) - 96)) + 110) - 96)) + 117) - 96)), .null]) (st := []) rfl ?_
  refine am_xlsub 2 ((32 * (((32 * (((32 * (((32 * (((32 * 0) + 114) - 96)) + 101) - 96)) + 110) - 96)) + 117) - 96)) + 109) 96 (pc := 118) (ls := [.int (zi 114), .int (zi 101), .int (zi 110), .int (zi 117), .int (zi 109), .int (zi 98), .int (zi 101), .int (zi 114), .long (zl (((32 * (((32 * (((32 * (((32 * 0) + 114) - 96)) + 101) - 96)) + 110) - 96)) + 117) - 96)), .null]) (st := []) rfl ?_
  refine am_xlmul 7 32 (((32 * (((32 * (((32 * (((32 * (((32 * 0) + 114) - 96)) + 101) - 96)) + 110) - 96)) + 117) - 96)) + 109) - 96) (pc := 136) (ls := [.int (zi 114), .int (zi 101), .int (zi 110), .int (zi 117), .int (zi 109), .int (zi 98), .int (zi 101), .int (zi 114), .long (zl (((32 * (((32 * (((32 * (((32 * (((32 * 0) + 114) - 96)) + 101) - 96)) + 110) - 96)) + 117) - 96)) + 109) - 96)), .null]) (st := []) rfl ?_
  refine am_xladd 3 (32 * (((32 * (((32 * (((32 * (((32 * (((32 * 0) + 114) - 96)) + 101) - 96)) + 110) - 96)) + 117) - 96)) + 109) - 96)) 98 (pc := 140) (ls := [.int (zi 114), .int (zi 101), .int (zi 110), .int (zi 117), .int (zi 109), .int (zi 98), .int (zi 101), .int (zi 114), .long (zl (((32 * (((32 * (((32 * (((32 * (((32 * 0) + 114) - 96)) + 101) - 96)) + 110) - 96)) + 117) - 96)) + 109) - 96)), .null]) (st := []) rfl ?_
  refine am_xlsub 2 ((32 * (((32 * (((32 * (((32 * (((32 * (((32 * 0) + 114) - 96)) + 101) - 96)) + 110) - 96)) + 117) - 96)) + 109) - 96)) + 98) 96 (pc := 144) (ls := [.int (zi 114), .int (zi 101), .int (zi 110), .int (zi 117), .int (zi 109), .int (zi 98), .int (zi 101), .int (zi 114), .long (zl (((32 * (((32 * (((32 * (((32 * (((32 * 0) + 114) - 96)) + 101) - 96)) + 110) - 96)) + 117) - 96)) + 109) - 96)), .null]) (st := []) rfl ?_
  refine am_xlmul 7 32 (((32 * (((32 * (((32 * (((32 * (((32 * (((32 * 0) + 114) - 96)) + 101) - 96)) + 110) - 96)) + 117) - 96)) + 109) - 96)) + 98) - 96) (pc := 162) (ls := [.int (zi 114), .int (zi 101), .int (zi 110), .int (zi 117), .int (zi 109), .int (zi 98), .int (zi 101), .int (zi 114), .long (zl (((32 * (((32 * (((32 * (((32 * (((32 * (((32 * 0) + 114) - 96)) + 101) - 96)) + 110) - 96)) + 117) - 96)) + 109) - 96)) + 98) - 96)), .null]) (st := []) rfl ?_
  refine am_xladd 3 (32 * (((32 * (((32 * (((32 * (((32 * (((32 * (((32 * 0) + 114) - 96)) + 101) - 96)) + 110) - 96)) + 117) - 96)) + 109) - 96)) + 98) - 96)) 101 (pc := 166) (ls := [.int (zi 114), .int (zi 101), .int (zi 110), .int (zi 117), .int (zi 109), .int (zi 98), .int (zi 101), .int (zi 114), .long (zl (((32 * (((32 * (((32 * (((32 * (((32 * (((32 * 0) + 114) - 96)) + 101) - 96)) + 110) - 96)) + 117) - 96)) + 109) - 96)) + 98) - 96)), .null]) (st := []) rfl ?_
  refine am_xlsub 2 ((32 * (((32 * (((32 * (((32 * (((32 * (((32 * (((32 * 0) + 114) - 96)) + 101) - 96)) + 110) - 96)) + 117) - 96)) + 109) - 96)) + 98) - 96)) + 101) 96 (pc := 170) (ls := [.int (zi 114), .int (zi 101), .int (zi 110), .int (zi 117), .int (zi 109), .int (zi 98), .int (zi 101), .int (zi 114), .long (zl (((32 * (((32 * (((32 * (((32 * (((32 * (((32 * 0) + 114) - 96)) + 101) - 96)) + 110) - 96)) + 117) - 96)) + 109) - 96)) + 98) - 96)), .null]) (st := []) rfl ?_
  refine am_xlmul 7 32 (((32 * (((32 * (((32 * (((32 * (((32 * (((32 * (((32 * 0) + 114) - 96)) + 101) - 96)) + 110) - 96)) + 117) - 96)) + 109) - 96)) + 98) - 96)) + 101) - 96) (pc := 188) (ls := [.int (zi 114), .int (zi 101), .int (zi 110), .int (zi 117), .int (zi 109), .int (zi 98), .int (zi 101), .int (zi 114), .long (zl (((32 * (((32 * (((32 * (((32 * (((32 * (((32 * (((32 * 0) + 114) - 96)) + 101) - 96)) + 110) - 96)) + 117) - 96)) + 109) - 96)) + 98) - 96)) + 101) - 96)), .null]) (st := []) rfl ?_
  refine am_xladd 3 (32 * (((32 * (((32 * (((32 * (((32 * (((32 * (((32 * (((32 * 0) + 114) - 96)) + 101) - 96)) + 110) - 96)) + 117) - 96)) + 109) - 96)) + 98) - 96)) + 101) - 96)) 114 (pc := 192) (ls := [.int (zi 114), .int (zi 101), .int (zi 110), .int (zi 117), .int (zi 109), .int (zi 98), .int (zi 101), .int (zi 114), .long (zl (((32 * (((32 * (((32 * (((32 * (((32 * (((32 * (((32 * 0) + 114) - 96)) + 101) - 96)) + 110) - 96)) + 117) - 96)) + 109) - 96)) + 98) - 96)) + 101) - 96)), .null]) (st := []) rfl ?_
  refine am_xlsub 2 ((32 * (((32 * (((32 * (((32 * (((32 * (((32 * (((32 * (((32 * 0) + 114) - 96)) + 101) - 96)) + 110) - 96)) + 117) - 96)) + 109) - 96)) + 98) - 96)) + 101) - 96)) + 114) 96 (pc := 196) (ls := [.int (zi 114), .int (zi 101), .int (zi 110), .int (zi 117), .int (zi 109), .int (zi 98), .int (zi 101), .int (zi 114), .long (zl (((32 * (((32 * (((32 * (((32 * (((32 * (((32 * (((32 * 0) + 114) - 96)) + 101) - 96)) + 110) - 96)) + 117) - 96)) + 109) - 96)) + 98) - 96)) + 101) - 96)), .null]) (st := []) rfl ?_
  refine am_xn 1 (c1 := (201, [.int (zi 114), .int (zi 101), .int (zi 110), .int (zi 117), .int (zi 109), .int (zi 98), .int (zi 101), .int (zi 114), .long (zl (((32 * (((32 * (((32 * (((32 * (((32 * (((32 * (((32 * 0) + 114) - 96)) + 101) - 96)) + 110) - 96)) + 117) - 96)) + 109) - 96)) + 98) - 96)) + 101) - 96)), .null], [.long (zl (((32 * (((32 * (((32 * (((32 * (((32 * (((32 * (((32 * (((32 * 0) + 114) - 96)) + 101) - 96)) + 110) - 96)) + 117) - 96)) + 109) - 96)) + 98) - 96)) + 101) - 96)) + 114) - 96))], M)) rfl ?_
  exact am_xr (some (.long (zl (((32 * (((32 * (((32 * (((32 * (((32 * (((32 * (((32 * (((32 * 0) + 114) - 96)) + 101) - 96)) + 110) - 96)) + 117) - 96)) + 109) - 96)) + 98) - 96)) + 101) - 96)) + 114) - 96)))) ⟨rfl, rfl, rfl⟩ hv
theorem sp_letters3 (M : am_M) : am_call t_Mo_lettersOf [.int (zi 114), .int (zi 101), .int (zi 110), .int (zi 117), .int (zi 109), .int (zi 98), .int (zi 101), .int (zi 114)] M (some (.long (zl 624336210098))) M := am_call_of ⟨Nat.le_of_ble_eq_true rfl, rfl⟩ (vc_letters3 M _ ⟨by rw [show ((((32 * (((32 * (((32 * (((32 * (((32 * (((32 * (((32 * (((32 * 0) + 114) - 96)) + 101) - 96)) + 110) - 96)) + 117) - 96)) + 109) - 96)) + 98) - 96)) + 101) - 96)) + 114) - 96) : Int) = 624336210098 from by decide], rfl⟩)
set_option maxRecDepth 100000 in
theorem vc_letters4  (M : am_M) (Q : Option Value → am_M → Prop) (hv : Q (some (.long (zl (((32 * (((32 * 0) + 105) - 96)) + 110) - 96)))) M) : am_x t_Mo_lettersOf (0, am_ent (am_mL t_Mo_lettersOf) [.int (zi 105), .int (zi 110), .int (zi 0), .int (zi 0), .int (zi 0), .int (zi 0), .int (zi 0), .int (zi 0)], [], M) Q := by
  refine am_xn 0 (c1 := (0, [.int (zi 105), .int (zi 110), .int (zi 0), .int (zi 0), .int (zi 0), .int (zi 0), .int (zi 0), .int (zi 0), .null, .null], [], M)) rfl ?_
  refine am_xlmul 7 32 0 (pc := 13) (ls := [.int (zi 105), .int (zi 110), .int (zi 0), .int (zi 0), .int (zi 0), .int (zi 0), .int (zi 0), .int (zi 0), .long (zl 0), .null]) (st := []) rfl ?_
  refine am_xladd 3 (32 * 0) 105 (pc := 16) (ls := [.int (zi 105), .int (zi 110), .int (zi 0), .int (zi 0), .int (zi 0), .int (zi 0), .int (zi 0), .int (zi 0), .long (zl 0), .null]) (st := []) rfl ?_
  refine am_xlsub 2 ((32 * 0) + 105) 96 (pc := 20) (ls := [.int (zi 105), .int (zi 110), .int (zi 0), .int (zi 0), .int (zi 0), .int (zi 0), .int (zi 0), .int (zi 0), .long (zl 0), .null]) (st := []) rfl ?_
  refine am_xlmul 7 32 (((32 * 0) + 105) - 96) (pc := 37) (ls := [.int (zi 105), .int (zi 110), .int (zi 0), .int (zi 0), .int (zi 0), .int (zi 0), .int (zi 0), .int (zi 0), .long (zl (((32 * 0) + 105) - 96)), .null]) (st := []) rfl ?_
  refine am_xladd 3 (32 * (((32 * 0) + 105) - 96)) 110 (pc := 40) (ls := [.int (zi 105), .int (zi 110), .int (zi 0), .int (zi 0), .int (zi 0), .int (zi 0), .int (zi 0), .int (zi 0), .long (zl (((32 * 0) + 105) - 96)), .null]) (st := []) rfl ?_
  refine am_xlsub 2 ((32 * (((32 * 0) + 105) - 96)) + 110) 96 (pc := 44) (ls := [.int (zi 105), .int (zi 110), .int (zi 0), .int (zi 0), .int (zi 0), .int (zi 0), .int (zi 0), .int (zi 0), .long (zl (((32 * 0) + 105) - 96)), .null]) (st := []) rfl ?_
  refine am_xn 25 (c1 := (201, [.int (zi 105), .int (zi 110), .int (zi 0), .int (zi 0), .int (zi 0), .int (zi 0), .int (zi 0), .int (zi 0), .long (zl (((32 * (((32 * 0) + 105) - 96)) + 110) - 96)), .null], [.long (zl (((32 * (((32 * 0) + 105) - 96)) + 110) - 96))], M)) rfl ?_
  exact am_xr (some (.long (zl (((32 * (((32 * 0) + 105) - 96)) + 110) - 96)))) ⟨rfl, rfl, rfl⟩ hv
theorem sp_letters4 (M : am_M) : am_call t_Mo_lettersOf [.int (zi 105), .int (zi 110), .int (zi 0), .int (zi 0), .int (zi 0), .int (zi 0), .int (zi 0), .int (zi 0)] M (some (.long (zl 302))) M := am_call_of ⟨Nat.le_of_ble_eq_true rfl, rfl⟩ (vc_letters4 M _ ⟨by rw [show ((((32 * (((32 * 0) + 105) - 96)) + 110) - 96) : Int) = 302 from by decide], rfl⟩)
set_option maxRecDepth 100000 in
theorem vc_letters5  (M : am_M) (Q : Option Value → am_M → Prop) (hv : Q (some (.long (zl (((32 * (((32 * 0) + 116) - 96)) + 111) - 96)))) M) : am_x t_Mo_lettersOf (0, am_ent (am_mL t_Mo_lettersOf) [.int (zi 116), .int (zi 111), .int (zi 0), .int (zi 0), .int (zi 0), .int (zi 0), .int (zi 0), .int (zi 0)], [], M) Q := by
  refine am_xn 0 (c1 := (0, [.int (zi 116), .int (zi 111), .int (zi 0), .int (zi 0), .int (zi 0), .int (zi 0), .int (zi 0), .int (zi 0), .null, .null], [], M)) rfl ?_
  refine am_xlmul 7 32 0 (pc := 13) (ls := [.int (zi 116), .int (zi 111), .int (zi 0), .int (zi 0), .int (zi 0), .int (zi 0), .int (zi 0), .int (zi 0), .long (zl 0), .null]) (st := []) rfl ?_
  refine am_xladd 3 (32 * 0) 116 (pc := 16) (ls := [.int (zi 116), .int (zi 111), .int (zi 0), .int (zi 0), .int (zi 0), .int (zi 0), .int (zi 0), .int (zi 0), .long (zl 0), .null]) (st := []) rfl ?_
  refine am_xlsub 2 ((32 * 0) + 116) 96 (pc := 20) (ls := [.int (zi 116), .int (zi 111), .int (zi 0), .int (zi 0), .int (zi 0), .int (zi 0), .int (zi 0), .int (zi 0), .long (zl 0), .null]) (st := []) rfl ?_
  refine am_xlmul 7 32 (((32 * 0) + 116) - 96) (pc := 37) (ls := [.int (zi 116), .int (zi 111), .int (zi 0), .int (zi 0), .int (zi 0), .int (zi 0), .int (zi 0), .int (zi 0), .long (zl (((32 * 0) + 116) - 96)), .null]) (st := []) rfl ?_
  refine am_xladd 3 (32 * (((32 * 0) + 116) - 96)) 111 (pc := 40) (ls := [.int (zi 116), .int (zi 111), .int (zi 0), .int (zi 0), .int (zi 0), .int (zi 0), .int (zi 0), .int (zi 0), .long (zl (((32 * 0) + 116) - 96)), .null]) (st := []) rfl ?_
  refine am_xlsub 2 ((32 * (((32 * 0) + 116) - 96)) + 111) 96 (pc := 44) (ls := [.int (zi 116), .int (zi 111), .int (zi 0), .int (zi 0), .int (zi 0), .int (zi 0), .int (zi 0), .int (zi 0), .long (zl (((32 * 0) + 116) - 96)), .null]) (st := []) rfl ?_
  refine am_xn 25 (c1 := (201, [.int (zi 116), .int (zi 111), .int (zi 0), .int (zi 0), .int (zi 0), .int (zi 0), .int (zi 0), .int (zi 0), .long (zl (((32 * (((32 * 0) + 116) - 96)) + 111) - 96)), .null], [.long (zl (((32 * (((32 * 0) + 116) - 96)) + 111) - 96))], M)) rfl ?_
  exact am_xr (some (.long (zl (((32 * (((32 * 0) + 116) - 96)) + 111) - 96)))) ⟨rfl, rfl, rfl⟩ hv
theorem sp_letters5 (M : am_M) : am_call t_Mo_lettersOf [.int (zi 116), .int (zi 111), .int (zi 0), .int (zi 0), .int (zi 0), .int (zi 0), .int (zi 0), .int (zi 0)] M (some (.long (zl 655))) M := am_call_of ⟨Nat.le_of_ble_eq_true rfl, rfl⟩ (vc_letters5 M _ ⟨by rw [show ((((32 * (((32 * 0) + 116) - 96)) + 111) - 96) : Int) = 655 from by decide], rfl⟩)
set_option maxRecDepth 100000 in
theorem vc_letters6  (M : am_M) (Q : Option Value → am_M → Prop) (hv : Q (some (.long (zl (((32 * (((32 * (((32 * 0) + 102) - 96)) + 111) - 96)) + 114) - 96)))) M) : am_x t_Mo_lettersOf (0, am_ent (am_mL t_Mo_lettersOf) [.int (zi 102), .int (zi 111), .int (zi 114), .int (zi 0), .int (zi 0), .int (zi 0), .int (zi 0), .int (zi 0)], [], M) Q := by
  refine am_xn 0 (c1 := (0, [.int (zi 102), .int (zi 111), .int (zi 114), .int (zi 0), .int (zi 0), .int (zi 0), .int (zi 0), .int (zi 0), .null, .null], [], M)) rfl ?_
  refine am_xlmul 7 32 0 (pc := 13) (ls := [.int (zi 102), .int (zi 111), .int (zi 114), .int (zi 0), .int (zi 0), .int (zi 0), .int (zi 0), .int (zi 0), .long (zl 0), .null]) (st := []) rfl ?_
  refine am_xladd 3 (32 * 0) 102 (pc := 16) (ls := [.int (zi 102), .int (zi 111), .int (zi 114), .int (zi 0), .int (zi 0), .int (zi 0), .int (zi 0), .int (zi 0), .long (zl 0), .null]) (st := []) rfl ?_
  refine am_xlsub 2 ((32 * 0) + 102) 96 (pc := 20) (ls := [.int (zi 102), .int (zi 111), .int (zi 114), .int (zi 0), .int (zi 0), .int (zi 0), .int (zi 0), .int (zi 0), .long (zl 0), .null]) (st := []) rfl ?_
  refine am_xlmul 7 32 (((32 * 0) + 102) - 96) (pc := 37) (ls := [.int (zi 102), .int (zi 111), .int (zi 114), .int (zi 0), .int (zi 0), .int (zi 0), .int (zi 0), .int (zi 0), .long (zl (((32 * 0) + 102) - 96)), .null]) (st := []) rfl ?_
  refine am_xladd 3 (32 * (((32 * 0) + 102) - 96)) 111 (pc := 40) (ls := [.int (zi 102), .int (zi 111), .int (zi 114), .int (zi 0), .int (zi 0), .int (zi 0), .int (zi 0), .int (zi 0), .long (zl (((32 * 0) + 102) - 96)), .null]) (st := []) rfl ?_
  refine am_xlsub 2 ((32 * (((32 * 0) + 102) - 96)) + 111) 96 (pc := 44) (ls := [.int (zi 102), .int (zi 111), .int (zi 114), .int (zi 0), .int (zi 0), .int (zi 0), .int (zi 0), .int (zi 0), .long (zl (((32 * 0) + 102) - 96)), .null]) (st := []) rfl ?_
  refine am_xlmul 7 32 (((32 * (((32 * 0) + 102) - 96)) + 111) - 96) (pc := 61) (ls := [.int (zi 102), .int (zi 111), .int (zi 114), .int (zi 0), .int (zi 0), .int (zi 0), .int (zi 0), .int (zi 0), .long (zl (((32 * (((32 * 0) + 102) - 96)) + 111) - 96)), .null]) (st := []) rfl ?_
  refine am_xladd 3 (32 * (((32 * (((32 * 0) + 102) - 96)) + 111) - 96)) 114 (pc := 64) (ls := [.int (zi 102), .int (zi 111), .int (zi 114), .int (zi 0), .int (zi 0), .int (zi 0), .int (zi 0), .int (zi 0), .long (zl (((32 * (((32 * 0) + 102) - 96)) + 111) - 96)), .null]) (st := []) rfl ?_
  refine am_xlsub 2 ((32 * (((32 * (((32 * 0) + 102) - 96)) + 111) - 96)) + 114) 96 (pc := 68) (ls := [.int (zi 102), .int (zi 111), .int (zi 114), .int (zi 0), .int (zi 0), .int (zi 0), .int (zi 0), .int (zi 0), .long (zl (((32 * (((32 * 0) + 102) - 96)) + 111) - 96)), .null]) (st := []) rfl ?_
  refine am_xn 21 (c1 := (201, [.int (zi 102), .int (zi 111), .int (zi 114), .int (zi 0), .int (zi 0), .int (zi 0), .int (zi 0), .int (zi 0), .long (zl (((32 * (((32 * (((32 * 0) + 102) - 96)) + 111) - 96)) + 114) - 96)), .null], [.long (zl (((32 * (((32 * (((32 * 0) + 102) - 96)) + 111) - 96)) + 114) - 96))], M)) rfl ?_
  exact am_xr (some (.long (zl (((32 * (((32 * (((32 * 0) + 102) - 96)) + 111) - 96)) + 114) - 96)))) ⟨rfl, rfl, rfl⟩ hv
theorem sp_letters6 (M : am_M) : am_call t_Mo_lettersOf [.int (zi 102), .int (zi 111), .int (zi 114), .int (zi 0), .int (zi 0), .int (zi 0), .int (zi 0), .int (zi 0)] M (some (.long (zl 6642))) M := am_call_of ⟨Nat.le_of_ble_eq_true rfl, rfl⟩ (vc_letters6 M _ ⟨by rw [show ((((32 * (((32 * (((32 * 0) + 102) - 96)) + 111) - 96)) + 114) - 96) : Int) = 6642 from by decide], rfl⟩)
set_option maxRecDepth 100000 in
theorem vc_letters7  (M : am_M) (Q : Option Value → am_M → Prop) (hv : Q (some (.long (zl (((32 * (((32 * (((32 * 0) + 112) - 96)) + 117) - 96)) + 116) - 96)))) M) : am_x t_Mo_lettersOf (0, am_ent (am_mL t_Mo_lettersOf) [.int (zi 112), .int (zi 117), .int (zi 116), .int (zi 0), .int (zi 0), .int (zi 0), .int (zi 0), .int (zi 0)], [], M) Q := by
  refine am_xn 0 (c1 := (0, [.int (zi 112), .int (zi 117), .int (zi 116), .int (zi 0), .int (zi 0), .int (zi 0), .int (zi 0), .int (zi 0), .null, .null], [], M)) rfl ?_
  refine am_xlmul 7 32 0 (pc := 13) (ls := [.int (zi 112), .int (zi 117), .int (zi 116), .int (zi 0), .int (zi 0), .int (zi 0), .int (zi 0), .int (zi 0), .long (zl 0), .null]) (st := []) rfl ?_
  refine am_xladd 3 (32 * 0) 112 (pc := 16) (ls := [.int (zi 112), .int (zi 117), .int (zi 116), .int (zi 0), .int (zi 0), .int (zi 0), .int (zi 0), .int (zi 0), .long (zl 0), .null]) (st := []) rfl ?_
  refine am_xlsub 2 ((32 * 0) + 112) 96 (pc := 20) (ls := [.int (zi 112), .int (zi 117), .int (zi 116), .int (zi 0), .int (zi 0), .int (zi 0), .int (zi 0), .int (zi 0), .long (zl 0), .null]) (st := []) rfl ?_
  refine am_xlmul 7 32 (((32 * 0) + 112) - 96) (pc := 37) (ls := [.int (zi 112), .int (zi 117), .int (zi 116), .int (zi 0), .int (zi 0), .int (zi 0), .int (zi 0), .int (zi 0), .long (zl (((32 * 0) + 112) - 96)), .null]) (st := []) rfl ?_
  refine am_xladd 3 (32 * (((32 * 0) + 112) - 96)) 117 (pc := 40) (ls := [.int (zi 112), .int (zi 117), .int (zi 116), .int (zi 0), .int (zi 0), .int (zi 0), .int (zi 0), .int (zi 0), .long (zl (((32 * 0) + 112) - 96)), .null]) (st := []) rfl ?_
  refine am_xlsub 2 ((32 * (((32 * 0) + 112) - 96)) + 117) 96 (pc := 44) (ls := [.int (zi 112), .int (zi 117), .int (zi 116), .int (zi 0), .int (zi 0), .int (zi 0), .int (zi 0), .int (zi 0), .long (zl (((32 * 0) + 112) - 96)), .null]) (st := []) rfl ?_
  refine am_xlmul 7 32 (((32 * (((32 * 0) + 112) - 96)) + 117) - 96) (pc := 61) (ls := [.int (zi 112), .int (zi 117), .int (zi 116), .int (zi 0), .int (zi 0), .int (zi 0), .int (zi 0), .int (zi 0), .long (zl (((32 * (((32 * 0) + 112) - 96)) + 117) - 96)), .null]) (st := []) rfl ?_
  refine am_xladd 3 (32 * (((32 * (((32 * 0) + 112) - 96)) + 117) - 96)) 116 (pc := 64) (ls := [.int (zi 112), .int (zi 117), .int (zi 116), .int (zi 0), .int (zi 0), .int (zi 0), .int (zi 0), .int (zi 0), .long (zl (((32 * (((32 * 0) + 112) - 96)) + 117) - 96)), .null]) (st := []) rfl ?_
  refine am_xlsub 2 ((32 * (((32 * (((32 * 0) + 112) - 96)) + 117) - 96)) + 116) 96 (pc := 68) (ls := [.int (zi 112), .int (zi 117), .int (zi 116), .int (zi 0), .int (zi 0), .int (zi 0), .int (zi 0), .int (zi 0), .long (zl (((32 * (((32 * 0) + 112) - 96)) + 117) - 96)), .null]) (st := []) rfl ?_
  refine am_xn 21 (c1 := (201, [.int (zi 112), .int (zi 117), .int (zi 116), .int (zi 0), .int (zi 0), .int (zi 0), .int (zi 0), .int (zi 0), .long (zl (((32 * (((32 * (((32 * 0) + 112) - 96)) + 117) - 96)) + 116) - 96)), .null], [.long (zl (((32 * (((32 * (((32 * 0) + 112) - 96)) + 117) - 96)) + 116) - 96))], M)) rfl ?_
  exact am_xr (some (.long (zl (((32 * (((32 * (((32 * 0) + 112) - 96)) + 117) - 96)) + 116) - 96)))) ⟨rfl, rfl, rfl⟩ hv
theorem sp_letters7 (M : am_M) : am_call t_Mo_lettersOf [.int (zi 112), .int (zi 117), .int (zi 116), .int (zi 0), .int (zi 0), .int (zi 0), .int (zi 0), .int (zi 0)] M (some (.long (zl 17076))) M := am_call_of ⟨Nat.le_of_ble_eq_true rfl, rfl⟩ (vc_letters7 M _ ⟨by rw [show ((((32 * (((32 * (((32 * 0) + 112) - 96)) + 117) - 96)) + 116) - 96) : Int) = 17076 from by decide], rfl⟩)
set_option maxRecDepth 100000 in
theorem vc_letters8  (M : am_M) (Q : Option Value → am_M → Prop) (hv : Q (some (.long (zl (((32 * (((32 * (((32 * (((32 * (((32 * (((32 * 0) + 115) - 96)) + 97) - 96)) + 118) - 96)) + 105) - 96)) + 110) - 96)) + 103) - 96)))) M) : am_x t_Mo_lettersOf (0, am_ent (am_mL t_Mo_lettersOf) [.int (zi 115), .int (zi 97), .int (zi 118), .int (zi 105), .int (zi 110), .int (zi 103), .int (zi 0), .int (zi 0)], [], M) Q := by
  refine am_xn 0 (c1 := (0, [.int (zi 115), .int (zi 97), .int (zi 118), .int (zi 105), .int (zi 110), .int (zi 103), .int (zi 0), .int (zi 0), .null, .null], [], M)) rfl ?_
  refine am_xlmul 7 32 0 (pc := 13) (ls := [.int (zi 115), .int (zi 97), .int (zi 118), .int (zi 105), .int (zi 110), .int (zi 103), .int (zi 0), .int (zi 0), .long (zl 0), .null]) (st := []) rfl ?_
  refine am_xladd 3 (32 * 0) 115 (pc := 16) (ls := [.int (zi 115), .int (zi 97), .int (zi 118), .int (zi 105), .int (zi 110), .int (zi 103), .int (zi 0), .int (zi 0), .long (zl 0), .null]) (st := []) rfl ?_
  refine am_xlsub 2 ((32 * 0) + 115) 96 (pc := 20) (ls := [.int (zi 115), .int (zi 97), .int (zi 118), .int (zi 105), .int (zi 110), .int (zi 103), .int (zi 0), .int (zi 0), .long (zl 0), .null]) (st := []) rfl ?_
  refine am_xlmul 7 32 (((32 * 0) + 115) - 96) (pc := 37) (ls := [.int (zi 115), .int (zi 97), .int (zi 118), .int (zi 105), .int (zi 110), .int (zi 103), .int (zi 0), .int (zi 0), .long (zl (((32 * 0) + 115) - 96)), .null]) (st := []) rfl ?_
  refine am_xladd 3 (32 * (((32 * 0) + 115) - 96)) 97 (pc := 40) (ls := [.int (zi 115), .int (zi 97), .int (zi 118), .int (zi 105), .int (zi 110), .int (zi 103), .int (zi 0), .int (zi 0), .long (zl (((32 * 0) + 115) - 96)), .null]) (st := []) rfl ?_
  refine am_xlsub 2 ((32 * (((32 * 0) + 115) - 96)) + 97) 96 (pc := 44) (ls := [.int (zi 115), .int (zi 97), .int (zi 118), .int (zi 105), .int (zi 110), .int (zi 103), .int (zi 0), .int (zi 0), .long (zl (((32 * 0) + 115) - 96)), .null]) (st := []) rfl ?_
  refine am_xlmul 7 32 (((32 * (((32 * 0) + 115) - 96)) + 97) - 96) (pc := 61) (ls := [.int (zi 115), .int (zi 97), .int (zi 118), .int (zi 105), .int (zi 110), .int (zi 103), .int (zi 0), .int (zi 0), .long (zl (((32 * (((32 * 0) + 115) - 96)) + 97) - 96)), .null]) (st := []) rfl ?_
  refine am_xladd 3 (32 * (((32 * (((32 * 0) + 115) - 96)) + 97) - 96)) 118 (pc := 64) (ls := [.int (zi 115), .int (zi 97), .int (zi 118), .int (zi 105), .int (zi 110), .int (zi 103), .int (zi 0), .int (zi 0), .long (zl (((32 * (((32 * 0) + 115) - 96)) + 97) - 96)), .null]) (st := []) rfl ?_
  refine am_xlsub 2 ((32 * (((32 * (((32 * 0) + 115) - 96)) + 97) - 96)) + 118) 96 (pc := 68) (ls := [.int (zi 115), .int (zi 97), .int (zi 118), .int (zi 105), .int (zi 110), .int (zi 103), .int (zi 0), .int (zi 0), .long (zl (((32 * (((32 * 0) + 115) - 96)) + 97) - 96)), .null]) (st := []) rfl ?_
  refine am_xlmul 7 32 (((32 * (((32 * (((32 * 0) + 115) - 96)) + 97) - 96)) + 118) - 96) (pc := 85) (ls := [.int (zi 115), .int (zi 97), .int (zi 118), .int (zi 105), .int (zi 110), .int (zi 103), .int (zi 0), .int (zi 0), .long (zl (((32 * (((32 * (((32 * 0) + 115) - 96)) + 97) - 96)) + 118) - 96)), .null]) (st := []) rfl ?_
  refine am_xladd 3 (32 * (((32 * (((32 * (((32 * 0) + 115) - 96)) + 97) - 96)) + 118) - 96)) 105 (pc := 88) (ls := [.int (zi 115), .int (zi 97), .int (zi 118), .int (zi 105), .int (zi 110), .int (zi 103), .int (zi 0), .int (zi 0), .long (zl (((32 * (((32 * (((32 * 0) + 115) - 96)) + 97) - 96)) + 118) - 96)), .null]) (st := []) rfl ?_
  refine am_xlsub 2 ((32 * (((32 * (((32 * (((32 * 0) + 115) - 96)) + 97) - 96)) + 118) - 96)) + 105) 96 (pc := 92) (ls := [.int (zi 115), .int (zi 97), .int (zi 118), .int (zi 105), .int (zi 110), .int (zi 103), .int (zi 0), .int (zi 0), .long (zl (((32 * (((32 * (((32 * 0) + 115) - 96)) + 97) - 96)) + 118) - 96)), .null]) (st := []) rfl ?_
  refine am_xlmul 7 32 (((32 * (((32 * (((32 * (((32 * 0) + 115) - 96)) + 97) - 96)) + 118) - 96)) + 105) - 96) (pc := 110) (ls := [.int (zi 115), .int (zi 97), .int (zi 118), .int (zi 105), .int (zi 110), .int (zi 103), .int (zi 0), .int (zi 0), .long (zl (((32 * (((32 * (((32 * (((32 * 0) + 115) - 96)) + 97) - 96)) + 118) - 96)) + 105) - 96)), .null]) (st := []) rfl ?_
  refine am_xladd 3 (32 * (((32 * (((32 * (((32 * (((32 * 0) + 115) - 96)) + 97) - 96)) + 118) - 96)) + 105) - 96)) 110 (pc := 114) (ls := [.int (zi 115), .int (zi 97), .int (zi 118), .int (zi 105), .int (zi 110), .int (zi 103), .int (zi 0), .int (zi 0), .long (zl (((32 * (((32 * (((32 * (((32 * 0) + 115) - 96)) + 97) - 96)) + 118) - 96)) + 105) - 96)), .null]) (st := []) rfl ?_
  refine am_xlsub 2 ((32 * (((32 * (((32 * (((32 * (((32 * 0) + 115) - 96)) + 97) - 96)) + 118) - 96)) + 105) - 96)) + 110) 96 (pc := 118) (ls := [.int (zi 115), .int (zi 97), .int (zi 118), .int (zi 105), .int (zi 110), .int (zi 103), .int (zi 0), .int (zi 0), .long (zl (((32 * (((32 * (((32 * (((32 * 0) + 115) - 96)) + 97) - 96)) + 118) - 96)) + 105) - 96)), .null]) (st := []) rfl ?_
  refine am_xlmul 7 32 (((32 * (((32 * (((32 * (((32 * (((32 * 0) + 115) - 96)) + 97) - 96)) + 118) - 96)) + 105) - 96)) + 110) - 96) (pc := 136) (ls := [.int (zi 115), .int (zi 97), .int (zi 118), .int (zi 105), .int (zi 110), .int (zi 103), .int (zi 0), .int (zi 0), .long (zl (((32 * (((32 * (((32 * (((32 * (((32 * 0) + 115) - 96)) + 97) - 96)) + 118) - 96)) + 105) - 96)) + 110) - 96)), .null]) (st := []) rfl ?_
  refine am_xladd 3 (32 * (((32 * (((32 * (((32 * (((32 * (((32 * 0) + 115) - 96)) + 97) - 96)) + 118) - 96)) + 105) - 96)) + 110) - 96)) 103 (pc := 140) (ls := [.int (zi 115), .int (zi 97), .int (zi 118), .int (zi 105), .int (zi 110), .int (zi 103), .int (zi 0), .int (zi 0), .long (zl (((32 * (((32 * (((32 * (((32 * (((32 * 0) + 115) - 96)) + 97) - 96)) + 118) - 96)) + 105) - 96)) + 110) - 96)), .null]) (st := []) rfl ?_
  refine am_xlsub 2 ((32 * (((32 * (((32 * (((32 * (((32 * (((32 * 0) + 115) - 96)) + 97) - 96)) + 118) - 96)) + 105) - 96)) + 110) - 96)) + 103) 96 (pc := 144) (ls := [.int (zi 115), .int (zi 97), .int (zi 118), .int (zi 105), .int (zi 110), .int (zi 103), .int (zi 0), .int (zi 0), .long (zl (((32 * (((32 * (((32 * (((32 * (((32 * 0) + 115) - 96)) + 97) - 96)) + 118) - 96)) + 105) - 96)) + 110) - 96)), .null]) (st := []) rfl ?_
  refine am_xn 9 (c1 := (201, [.int (zi 115), .int (zi 97), .int (zi 118), .int (zi 105), .int (zi 110), .int (zi 103), .int (zi 0), .int (zi 0), .long (zl (((32 * (((32 * (((32 * (((32 * (((32 * (((32 * 0) + 115) - 96)) + 97) - 96)) + 118) - 96)) + 105) - 96)) + 110) - 96)) + 103) - 96)), .null], [.long (zl (((32 * (((32 * (((32 * (((32 * (((32 * (((32 * 0) + 115) - 96)) + 97) - 96)) + 118) - 96)) + 105) - 96)) + 110) - 96)) + 103) - 96))], M)) rfl ?_
  exact am_xr (some (.long (zl (((32 * (((32 * (((32 * (((32 * (((32 * (((32 * 0) + 115) - 96)) + 97) - 96)) + 118) - 96)) + 105) - 96)) + 110) - 96)) + 103) - 96)))) ⟨rfl, rfl, rfl⟩ hv
theorem sp_letters8 (M : am_M) : am_call t_Mo_lettersOf [.int (zi 115), .int (zi 97), .int (zi 118), .int (zi 105), .int (zi 110), .int (zi 103), .int (zi 0), .int (zi 0)] M (some (.long (zl 639313351))) M := am_call_of ⟨Nat.le_of_ble_eq_true rfl, rfl⟩ (vc_letters8 M _ ⟨by rw [show ((((32 * (((32 * (((32 * (((32 * (((32 * (((32 * 0) + 115) - 96)) + 97) - 96)) + 118) - 96)) + 105) - 96)) + 110) - 96)) + 103) - 96) : Int) = 639313351 from by decide], rfl⟩)
def kof (v : Int) : Int := if v = 317298260 then 0 else if v = 19512296549 then 1 else if v = 609752108 then 2 else if v = 624336210098 then 3 else if v = 302 then 4 else -1
theorem kof_r (v : Int) : zr (kof v) := by
  unfold kof
  repeat' split
  all_goals decide
theorem zcmp_0 (a b : Int) : zcmp a b = 0 ↔ a = b := by
  unfold zcmp
  split
  · omega
  · split <;> omega
theorem zcmp_p (a b : Int) : 0 < zcmp a b ↔ b < a := by
  unfold zcmp
  split
  · omega
  · split <;> omega
set_option maxRecDepth 100000 in
theorem vc_kindOf (v : Int) (M : am_M) (Q : Option Value → am_M → Prop) (hv : (zlr v) ∧ (((zcmp v 317298260) = 0 → Q (some (.int (zi 0))) M) ∧ (¬ (zcmp v 317298260) = 0 → ((zcmp v 19512296549) = 0 → Q (some (.int (zi 1))) M) ∧ (¬ (zcmp v 19512296549) = 0 → ((zcmp v 609752108) = 0 → Q (some (.int (zi 2))) M) ∧ (¬ (zcmp v 609752108) = 0 → ((zcmp v 624336210098) = 0 → Q (some (.int (zi 3))) M) ∧ (¬ (zcmp v 624336210098) = 0 → ((zcmp v 302) = 0 → Q (some (.int (zi 4))) M) ∧ (¬ (zcmp v 302) = 0 → Q (some (.int (zi (-1)))) M))))))) : am_x t_Mo_kindOf (0, am_ent (am_mL t_Mo_kindOf) [.long (zl v)], [], M) Q := by
  refine am_xn 0 (c1 := (0, [.long (zl v), .null], [], M)) rfl ?_
  refine am_xn 9 (c1 := (15, [.long (zl v), .null], [.int (zi 0), .int (zi 0), .int (zi 116), .int (zi 114), .int (zi 101), .int (zi 115), .int (zi 110), .int (zi 105), .long (zl v)], M)) rfl ?_
  refine am_xc t_Mo_lettersOf (.invokestatic 170) 170 (av := [.int (zi 105), .int (zi 110), .int (zi 115), .int (zi 101), .int (zi 114), .int (zi 116), .int (zi 0), .int (zi 0)]) (rest := [.long (zl v)]) (rv := some (.long (zl 317298260))) (M' := M) rfl rfl rfl rfl (Nat.le_of_ble_eq_true rfl) (fun h => nomatch h) (sp_letters0 M) ?_
  refine am_xn 0 (c1 := (18, [.long (zl v), .null], [.long (zl 317298260), .long (zl v)], M)) rfl ?_
  obtain ⟨r1, hv⟩ := hv
  refine am_xlcmp 1 v 317298260 r1 (by decide) (pc := 19) (ls := [.long (zl v), .null]) (st := []) rfl ?_
  refine am_xn 1 (c1 := (if zi (zcmp v 317298260) = zi 0 then 22 else 24, [.long (zl v), .null], [], M)) rfl (am_xeq (zr_zcmp _ _) (by decide) (fun h => ?_) (fun h => ?_))
  · replace hv := hv.1 h
    refine am_xn 1 (c1 := (23, [.long (zl v), .null], [.int (zi 0)], M)) rfl ?_
    exact am_xr (some (.int (zi 0))) ⟨rfl, rfl, .int, rfl, rfl⟩ hv
  · replace hv := hv.2 h
    refine am_xn 9 (c1 := (40, [.long (zl v), .null], [.int (zi 0), .int (zi 101), .int (zi 99), .int (zi 97), .int (zi 108), .int (zi 112), .int (zi 101), .int (zi 114), .long (zl v)], M)) rfl ?_
    refine am_xc t_Mo_lettersOf (.invokestatic 170) 170 (av := [.int (zi 114), .int (zi 101), .int (zi 112), .int (zi 108), .int (zi 97), .int (zi 99), .int (zi 101), .int (zi 0)]) (rest := [.long (zl v)]) (rv := some (.long (zl 19512296549))) (M' := M) rfl rfl rfl rfl (Nat.le_of_ble_eq_true rfl) (fun h => nomatch h) (sp_letters1 M) ?_
    refine am_xn 0 (c1 := (43, [.long (zl v), .null], [.long (zl 19512296549), .long (zl v)], M)) rfl ?_
    refine am_xlcmp 1 v 19512296549 r1 (by decide) (pc := 44) (ls := [.long (zl v), .null]) (st := []) rfl ?_
    refine am_xn 1 (c1 := (if zi (zcmp v 19512296549) = zi 0 then 47 else 49, [.long (zl v), .null], [], M)) rfl (am_xeq (zr_zcmp _ _) (by decide) (fun h => ?_) (fun h => ?_))
    · replace hv := hv.1 h
      refine am_xn 1 (c1 := (48, [.long (zl v), .null], [.int (zi 1)], M)) rfl ?_
      exact am_xr (some (.int (zi 1))) ⟨rfl, rfl, .int, rfl, rfl⟩ hv
    · replace hv := hv.2 h
      refine am_xn 9 (c1 := (64, [.long (zl v), .null], [.int (zi 0), .int (zi 0), .int (zi 108), .int (zi 97), .int (zi 101), .int (zi 112), .int (zi 101), .int (zi 114), .long (zl v)], M)) rfl ?_
      refine am_xc t_Mo_lettersOf (.invokestatic 170) 170 (av := [.int (zi 114), .int (zi 101), .int (zi 112), .int (zi 101), .int (zi 97), .int (zi 108), .int (zi 0), .int (zi 0)]) (rest := [.long (zl v)]) (rv := some (.long (zl 609752108))) (M' := M) rfl rfl rfl rfl (Nat.le_of_ble_eq_true rfl) (fun h => nomatch h) (sp_letters2 M) ?_
      refine am_xn 0 (c1 := (67, [.long (zl v), .null], [.long (zl 609752108), .long (zl v)], M)) rfl ?_
      refine am_xlcmp 1 v 609752108 r1 (by decide) (pc := 68) (ls := [.long (zl v), .null]) (st := []) rfl ?_
      refine am_xn 1 (c1 := (if zi (zcmp v 609752108) = zi 0 then 71 else 73, [.long (zl v), .null], [], M)) rfl (am_xeq (zr_zcmp _ _) (by decide) (fun h => ?_) (fun h => ?_))
      · replace hv := hv.1 h
        refine am_xn 1 (c1 := (72, [.long (zl v), .null], [.int (zi 2)], M)) rfl ?_
        exact am_xr (some (.int (zi 2))) ⟨rfl, rfl, .int, rfl, rfl⟩ hv
      · replace hv := hv.2 h
        refine am_xn 9 (c1 := (90, [.long (zl v), .null], [.int (zi 114), .int (zi 101), .int (zi 98), .int (zi 109), .int (zi 117), .int (zi 110), .int (zi 101), .int (zi 114), .long (zl v)], M)) rfl ?_
        refine am_xc t_Mo_lettersOf (.invokestatic 170) 170 (av := [.int (zi 114), .int (zi 101), .int (zi 110), .int (zi 117), .int (zi 109), .int (zi 98), .int (zi 101), .int (zi 114)]) (rest := [.long (zl v)]) (rv := some (.long (zl 624336210098))) (M' := M) rfl rfl rfl rfl (Nat.le_of_ble_eq_true rfl) (fun h => nomatch h) (sp_letters3 M) ?_
        refine am_xn 0 (c1 := (93, [.long (zl v), .null], [.long (zl 624336210098), .long (zl v)], M)) rfl ?_
        refine am_xlcmp 1 v 624336210098 r1 (by decide) (pc := 94) (ls := [.long (zl v), .null]) (st := []) rfl ?_
        refine am_xn 1 (c1 := (if zi (zcmp v 624336210098) = zi 0 then 97 else 99, [.long (zl v), .null], [], M)) rfl (am_xeq (zr_zcmp _ _) (by decide) (fun h => ?_) (fun h => ?_))
        · replace hv := hv.1 h
          refine am_xn 1 (c1 := (98, [.long (zl v), .null], [.int (zi 3)], M)) rfl ?_
          exact am_xr (some (.int (zi 3))) ⟨rfl, rfl, .int, rfl, rfl⟩ hv
        · replace hv := hv.2 h
          refine am_xn 9 (c1 := (110, [.long (zl v), .null], [.int (zi 0), .int (zi 0), .int (zi 0), .int (zi 0), .int (zi 0), .int (zi 0), .int (zi 110), .int (zi 105), .long (zl v)], M)) rfl ?_
          refine am_xc t_Mo_lettersOf (.invokestatic 170) 170 (av := [.int (zi 105), .int (zi 110), .int (zi 0), .int (zi 0), .int (zi 0), .int (zi 0), .int (zi 0), .int (zi 0)]) (rest := [.long (zl v)]) (rv := some (.long (zl 302))) (M' := M) rfl rfl rfl rfl (Nat.le_of_ble_eq_true rfl) (fun h => nomatch h) (sp_letters4 M) ?_
          refine am_xn 0 (c1 := (113, [.long (zl v), .null], [.long (zl 302), .long (zl v)], M)) rfl ?_
          refine am_xlcmp 1 v 302 r1 (by decide) (pc := 114) (ls := [.long (zl v), .null]) (st := []) rfl ?_
          refine am_xn 1 (c1 := (if zi (zcmp v 302) = zi 0 then 117 else 121, [.long (zl v), .null], [], M)) rfl (am_xeq (zr_zcmp _ _) (by decide) (fun h => ?_) (fun h => ?_))
          · replace hv := hv.1 h
            refine am_xn 2 (c1 := (122, [.long (zl v), .null], [.int (zi 4)], M)) rfl ?_
            exact am_xr (some (.int (zi 4))) ⟨rfl, rfl, .int, rfl, rfl⟩ hv
          · replace hv := hv.2 h
            refine am_xn 1 (c1 := (122, [.long (zl v), .null], [.int (zi (-1))], M)) rfl ?_
            exact am_xr (some (.int (zi (-1)))) ⟨rfl, rfl, .int, rfl, rfl⟩ hv
theorem sp_kindOf (M : am_M) (v : Int) (g : zlr v) : am_call t_Mo_kindOf [.long (zl v)] M (some (.int (zi (kof v)))) M := by
  refine am_call_of ⟨Nat.le_of_ble_eq_true rfl, rfl⟩ (vc_kindOf v M _ ?_)
  unfold kof
  simp only [zcmp_0]
  exact ⟨g, fun h0 => ⟨by rw [if_pos h0], trivial⟩, fun h0 => ⟨fun h1 => ⟨by rw [if_neg h0, if_pos h1], trivial⟩, fun h1 => ⟨fun h2 => ⟨by rw [if_neg h0, if_neg h1, if_pos h2], trivial⟩, fun h2 => ⟨fun h3 => ⟨by rw [if_neg h0, if_neg h1, if_neg h2, if_pos h3], trivial⟩, fun h3 => ⟨fun h4 => ⟨by rw [if_neg h0, if_neg h1, if_neg h2, if_neg h3, if_pos h4], trivial⟩, fun h4 => ⟨by rw [if_neg h0, if_neg h1, if_neg h2, if_neg h3, if_neg h4], trivial⟩⟩⟩⟩⟩⟩
/-! a run of letters as a number -/
def rlN (T : Int → Int) : Nat → Int → Int → Int × Int
  | 0, p, v => (p, v)
  | k + 1, p, v => if isl (T p) then rlN T k (p + 1) (if 1125899906842624 < v then v else 32 * v + T p - 96) else (p, v)
def re (T : Int → Int) (p : Int) : Int := (rlN T (121 - p).toNat p 0).1
def rv (T : Int → Int) (p : Int) : Int := (rlN T (121 - p).toNat p 0).2
theorem rlN_s (T : Int → Int) {p : Int} (v : Int) (h : p ≤ 120) : rlN T (121 - p).toNat p v = if isl (T p) then rlN T (121 - (p + 1)).toNat (p + 1) (if 1125899906842624 < v then v else 32 * v + T p - 96) else (p, v) := by
  rw [show (121 - p).toNat = (121 - (p + 1)).toNat + 1 by omega]
  rfl
def rlv (T : Int → Int) (p : Int) : Nat → Int
  | 0 => 0
  | k + 1 => if 1125899906842624 < rlv T p k then rlv T p k else 32 * rlv T p k + T (p + k) - 96
theorem rl_is {T : Int → Int} {n p : Int} (x : TX T n) (p0 : 0 ≤ p) : ∀ (m k : Nat), n - (p + k) ≤ m → p + k ≤ n → (∀ i : Nat, i < k → isl (T (p + i))) → ∃ L : Nat, rlN T (121 - (p + k)).toNat (p + k) (rlv T p k) = (p + L, rlv T p L) ∧ (∀ i : Nat, i < L → isl (T (p + i))) ∧ ¬ isl (T (p + L)) ∧ p + L ≤ n := by
  intro m
  induction m with
  | zero =>
    intro k h h1 hl
    have := x.1
    have e : T (p + k) = -1 := x.2.2 _ (by omega)
    have q : ¬ isl (T (p + k)) := by rw [e]; decide
    exact ⟨k, by rw [rlN_s T _ (by omega), if_neg q], hl, q, h1⟩
  | succ m ih =>
    intro k h h1 hl
    have := x.1
    rw [rlN_s T _ (by omega)]
    by_cases q : isl (T (p + k))
    · rw [if_pos q]
      have lt := x.lt (k := p + k) (by omega)
      have := ih (k + 1) (by omega) (by omega) (fun i hi => by
        by_cases e : i = k
        · rw [e]; exact q
        · exact hl i (by omega))
      rw [show p + ((k + 1 : Nat) : Int) = p + k + 1 by omega] at this
      exact this
    · rw [if_neg q]
      exact ⟨k, rfl, hl, q, h1⟩
theorem re_is {T : Int → Int} {n p : Int} (x : TX T n) (p0 : 0 ≤ p) (p1 : p ≤ n) : ∃ L : Nat, re T p = p + L ∧ rv T p = rlv T p L ∧ (∀ i : Nat, i < L → isl (T (p + i))) ∧ ¬ isl (T (p + L)) ∧ p + L ≤ n := by
  obtain ⟨L, h1, h2, h3, h4⟩ := rl_is x p0 (n - p).toNat 0 (by omega) (by omega) (fun i hi => absurd hi (Nat.not_lt_zero i))
  rw [show p + ((0 : Nat) : Int) = p by omega] at h1
  have h1 : rlN T (121 - p).toNat p 0 = (p + L, rlv T p L) := h1
  refine ⟨L, ?_, ?_, h2, h3, h4⟩
  · unfold re; rw [h1]
  · unfold rv; rw [h1]
theorem rlv_r {T : Int → Int} {p : Int} : ∀ k : Nat, (∀ i : Nat, i < k → isl (T (p + i))) → 0 ≤ rlv T p k ∧ rlv T p k ≤ 36028797018963994 ∧ (0 < k → 0 < rlv T p k) := by
  intro k
  induction k with
  | zero => intro _; exact ⟨Int.le_refl _, by show (0 : Int) ≤ _; omega, fun q => absurd q (by decide)⟩
  | succ k ih =>
    intro h
    have := ih (fun i hi => h i (by omega))
    have hk := h k (by omega)
    unfold rlv
    split <;> omega
theorem rl_inv {T : Int → Int} {p c : Int} {L : Nat} (h : rlv T p L = c) (c0 : 0 < c) (c1 : c ≤ 1125899906842624) (hl : ∀ i : Nat, i < L → isl (T (p + i))) : ∃ j : Nat, L = j + 1 ∧ rlv T p j = c / 32 ∧ T (p + j) = 96 + c % 32 := by
  cases L with
  | zero => exact absurd h (by show ¬ (0 : Int) = c; omega)
  | succ j =>
    have hj := hl j (by omega)
    have r := rlv_r (T := T) (p := p) j (fun i hi => hl i (by omega))
    refine ⟨j, rfl, ?_⟩
    unfold rlv at h
    by_cases q : 1125899906842624 < rlv T p j
    · rw [if_pos q] at h; omega
    · rw [if_neg q] at h; omega
theorem rl_0 {T : Int → Int} {p : Int} {L : Nat} (h : rlv T p L = 0) (hl : ∀ i : Nat, i < L → isl (T (p + i))) : L = 0 := by
  have r := rlv_r (T := T) (p := p) L hl
  by_cases q : 0 < L
  · have := r.2.2 q; omega
  · omega
theorem rlv_s {T : Int → Int} {p v c w : Int} {k : Nat} (h : rlv T p k = v) (h1 : ¬ 1125899906842624 < v) (hc : T (p + k) = c) (e : 32 * v + c - 96 = w) : rlv T p (k + 1) = w := by
  unfold rlv
  rw [h, if_neg h1, hc, e]
theorem rv_0 {T : Int → Int} {n p : Int} (x : TX T n) (p0 : 0 ≤ p) (p1 : p ≤ n) : rv T p = 317298260 ↔ mt0 T p := by
  obtain ⟨L, _, e2, hl, hn, _⟩ := re_is x p0 p1
  rw [e2]
  constructor
  · intro h
    obtain ⟨j0, ej0, h0, t0⟩ := rl_inv h (by decide) (by decide) hl
    subst ej0
    have hl0 : ∀ i : Nat, i < j0 → isl (T (p + i)) := fun i hi => hl i (by omega)
    obtain ⟨j1, ej1, h1, t1⟩ := rl_inv h0 (by decide) (by decide) hl0
    subst ej1
    have hl1 : ∀ i : Nat, i < j1 → isl (T (p + i)) := fun i hi => hl i (by omega)
    obtain ⟨j2, ej2, h2, t2⟩ := rl_inv h1 (by decide) (by decide) hl1
    subst ej2
    have hl2 : ∀ i : Nat, i < j2 → isl (T (p + i)) := fun i hi => hl i (by omega)
    obtain ⟨j3, ej3, h3, t3⟩ := rl_inv h2 (by decide) (by decide) hl2
    subst ej3
    have hl3 : ∀ i : Nat, i < j3 → isl (T (p + i)) := fun i hi => hl i (by omega)
    obtain ⟨j4, ej4, h4, t4⟩ := rl_inv h3 (by decide) (by decide) hl3
    subst ej4
    have hl4 : ∀ i : Nat, i < j4 → isl (T (p + i)) := fun i hi => hl i (by omega)
    obtain ⟨j5, ej5, h5, t5⟩ := rl_inv h4 (by decide) (by decide) hl4
    subst ej5
    have hl5 : ∀ i : Nat, i < j5 → isl (T (p + i)) := fun i hi => hl i (by omega)
    have z := rl_0 h5 hl5
    subst z
    exact ⟨t5, t4, t3, t2, t1, t0, hn⟩
  · intro m
    have e : L = 6 := by
      by_cases a : L < 6
      · have : L = 0 ∨ L = 1 ∨ L = 2 ∨ L = 3 ∨ L = 4 ∨ L = 5 := by omega
        rcases this with e | e | e | e | e | e <;> subst e
        · exact absurd (show isl (T (p + ((0 : Nat) : Int))) by rw [show T (p + ((0 : Nat) : Int)) = 105 from m.1]; decide) hn
        · exact absurd (show isl (T (p + ((1 : Nat) : Int))) by rw [show T (p + ((1 : Nat) : Int)) = 110 from m.2.1]; decide) hn
        · exact absurd (show isl (T (p + ((2 : Nat) : Int))) by rw [show T (p + ((2 : Nat) : Int)) = 115 from m.2.2.1]; decide) hn
        · exact absurd (show isl (T (p + ((3 : Nat) : Int))) by rw [show T (p + ((3 : Nat) : Int)) = 101 from m.2.2.2.1]; decide) hn
        · exact absurd (show isl (T (p + ((4 : Nat) : Int))) by rw [show T (p + ((4 : Nat) : Int)) = 114 from m.2.2.2.2.1]; decide) hn
        · exact absurd (show isl (T (p + ((5 : Nat) : Int))) by rw [show T (p + ((5 : Nat) : Int)) = 116 from m.2.2.2.2.2.1]; decide) hn
      · by_cases b : 6 < L
        · exact absurd (hl 6 b) m.2.2.2.2.2.2
        · omega
    subst e
    have v0 : rlv T p 0 = 0 := rfl
    have v1 : rlv T p 1 = 9 := rlv_s v0 (by decide) m.1 (by decide)
    have v2 : rlv T p 2 = 302 := rlv_s v1 (by decide) m.2.1 (by decide)
    have v3 : rlv T p 3 = 9683 := rlv_s v2 (by decide) m.2.2.1 (by decide)
    have v4 : rlv T p 4 = 309861 := rlv_s v3 (by decide) m.2.2.2.1 (by decide)
    have v5 : rlv T p 5 = 9915570 := rlv_s v4 (by decide) m.2.2.2.2.1 (by decide)
    have v6 : rlv T p 6 = 317298260 := rlv_s v5 (by decide) m.2.2.2.2.2.1 (by decide)
    exact v6
theorem re_0 {T : Int → Int} {n p : Int} (x : TX T n) (p0 : 0 ≤ p) (p1 : p ≤ n) (m : mt0 T p) : re T p = p + 6 := by
  obtain ⟨L, e1, _, hl, hn, _⟩ := re_is x p0 p1
  have e : L = 6 := by
    by_cases a : L < 6
    · have : L = 0 ∨ L = 1 ∨ L = 2 ∨ L = 3 ∨ L = 4 ∨ L = 5 := by omega
      rcases this with e | e | e | e | e | e <;> subst e
      · exact absurd (show isl (T (p + ((0 : Nat) : Int))) by rw [show T (p + ((0 : Nat) : Int)) = 105 from m.1]; decide) hn
      · exact absurd (show isl (T (p + ((1 : Nat) : Int))) by rw [show T (p + ((1 : Nat) : Int)) = 110 from m.2.1]; decide) hn
      · exact absurd (show isl (T (p + ((2 : Nat) : Int))) by rw [show T (p + ((2 : Nat) : Int)) = 115 from m.2.2.1]; decide) hn
      · exact absurd (show isl (T (p + ((3 : Nat) : Int))) by rw [show T (p + ((3 : Nat) : Int)) = 101 from m.2.2.2.1]; decide) hn
      · exact absurd (show isl (T (p + ((4 : Nat) : Int))) by rw [show T (p + ((4 : Nat) : Int)) = 114 from m.2.2.2.2.1]; decide) hn
      · exact absurd (show isl (T (p + ((5 : Nat) : Int))) by rw [show T (p + ((5 : Nat) : Int)) = 116 from m.2.2.2.2.2.1]; decide) hn
    · by_cases b : 6 < L
      · exact absurd (hl 6 b) m.2.2.2.2.2.2
      · omega
  rw [e1, e]; rfl
theorem rv_1 {T : Int → Int} {n p : Int} (x : TX T n) (p0 : 0 ≤ p) (p1 : p ≤ n) : rv T p = 19512296549 ↔ mt1 T p := by
  obtain ⟨L, _, e2, hl, hn, _⟩ := re_is x p0 p1
  rw [e2]
  constructor
  · intro h
    obtain ⟨j0, ej0, h0, t0⟩ := rl_inv h (by decide) (by decide) hl
    subst ej0
    have hl0 : ∀ i : Nat, i < j0 → isl (T (p + i)) := fun i hi => hl i (by omega)
    obtain ⟨j1, ej1, h1, t1⟩ := rl_inv h0 (by decide) (by decide) hl0
    subst ej1
    have hl1 : ∀ i : Nat, i < j1 → isl (T (p + i)) := fun i hi => hl i (by omega)
    obtain ⟨j2, ej2, h2, t2⟩ := rl_inv h1 (by decide) (by decide) hl1
    subst ej2
    have hl2 : ∀ i : Nat, i < j2 → isl (T (p + i)) := fun i hi => hl i (by omega)
    obtain ⟨j3, ej3, h3, t3⟩ := rl_inv h2 (by decide) (by decide) hl2
    subst ej3
    have hl3 : ∀ i : Nat, i < j3 → isl (T (p + i)) := fun i hi => hl i (by omega)
    obtain ⟨j4, ej4, h4, t4⟩ := rl_inv h3 (by decide) (by decide) hl3
    subst ej4
    have hl4 : ∀ i : Nat, i < j4 → isl (T (p + i)) := fun i hi => hl i (by omega)
    obtain ⟨j5, ej5, h5, t5⟩ := rl_inv h4 (by decide) (by decide) hl4
    subst ej5
    have hl5 : ∀ i : Nat, i < j5 → isl (T (p + i)) := fun i hi => hl i (by omega)
    obtain ⟨j6, ej6, h6, t6⟩ := rl_inv h5 (by decide) (by decide) hl5
    subst ej6
    have hl6 : ∀ i : Nat, i < j6 → isl (T (p + i)) := fun i hi => hl i (by omega)
    have z := rl_0 h6 hl6
    subst z
    exact ⟨t6, t5, t4, t3, t2, t1, t0, hn⟩
  · intro m
    have e : L = 7 := by
      by_cases a : L < 7
      · have : L = 0 ∨ L = 1 ∨ L = 2 ∨ L = 3 ∨ L = 4 ∨ L = 5 ∨ L = 6 := by omega
        rcases this with e | e | e | e | e | e | e <;> subst e
        · exact absurd (show isl (T (p + ((0 : Nat) : Int))) by rw [show T (p + ((0 : Nat) : Int)) = 114 from m.1]; decide) hn
        · exact absurd (show isl (T (p + ((1 : Nat) : Int))) by rw [show T (p + ((1 : Nat) : Int)) = 101 from m.2.1]; decide) hn
        · exact absurd (show isl (T (p + ((2 : Nat) : Int))) by rw [show T (p + ((2 : Nat) : Int)) = 112 from m.2.2.1]; decide) hn
        · exact absurd (show isl (T (p + ((3 : Nat) : Int))) by rw [show T (p + ((3 : Nat) : Int)) = 108 from m.2.2.2.1]; decide) hn
        · exact absurd (show isl (T (p + ((4 : Nat) : Int))) by rw [show T (p + ((4 : Nat) : Int)) = 97 from m.2.2.2.2.1]; decide) hn
        · exact absurd (show isl (T (p + ((5 : Nat) : Int))) by rw [show T (p + ((5 : Nat) : Int)) = 99 from m.2.2.2.2.2.1]; decide) hn
        · exact absurd (show isl (T (p + ((6 : Nat) : Int))) by rw [show T (p + ((6 : Nat) : Int)) = 101 from m.2.2.2.2.2.2.1]; decide) hn
      · by_cases b : 7 < L
        · exact absurd (hl 7 b) m.2.2.2.2.2.2.2
        · omega
    subst e
    have v0 : rlv T p 0 = 0 := rfl
    have v1 : rlv T p 1 = 18 := rlv_s v0 (by decide) m.1 (by decide)
    have v2 : rlv T p 2 = 581 := rlv_s v1 (by decide) m.2.1 (by decide)
    have v3 : rlv T p 3 = 18608 := rlv_s v2 (by decide) m.2.2.1 (by decide)
    have v4 : rlv T p 4 = 595468 := rlv_s v3 (by decide) m.2.2.2.1 (by decide)
    have v5 : rlv T p 5 = 19054977 := rlv_s v4 (by decide) m.2.2.2.2.1 (by decide)
    have v6 : rlv T p 6 = 609759267 := rlv_s v5 (by decide) m.2.2.2.2.2.1 (by decide)
    have v7 : rlv T p 7 = 19512296549 := rlv_s v6 (by decide) m.2.2.2.2.2.2.1 (by decide)
    exact v7
theorem re_1 {T : Int → Int} {n p : Int} (x : TX T n) (p0 : 0 ≤ p) (p1 : p ≤ n) (m : mt1 T p) : re T p = p + 7 := by
  obtain ⟨L, e1, _, hl, hn, _⟩ := re_is x p0 p1
  have e : L = 7 := by
    by_cases a : L < 7
    · have : L = 0 ∨ L = 1 ∨ L = 2 ∨ L = 3 ∨ L = 4 ∨ L = 5 ∨ L = 6 := by omega
      rcases this with e | e | e | e | e | e | e <;> subst e
      · exact absurd (show isl (T (p + ((0 : Nat) : Int))) by rw [show T (p + ((0 : Nat) : Int)) = 114 from m.1]; decide) hn
      · exact absurd (show isl (T (p + ((1 : Nat) : Int))) by rw [show T (p + ((1 : Nat) : Int)) = 101 from m.2.1]; decide) hn
      · exact absurd (show isl (T (p + ((2 : Nat) : Int))) by rw [show T (p + ((2 : Nat) : Int)) = 112 from m.2.2.1]; decide) hn
      · exact absurd (show isl (T (p + ((3 : Nat) : Int))) by rw [show T (p + ((3 : Nat) : Int)) = 108 from m.2.2.2.1]; decide) hn
      · exact absurd (show isl (T (p + ((4 : Nat) : Int))) by rw [show T (p + ((4 : Nat) : Int)) = 97 from m.2.2.2.2.1]; decide) hn
      · exact absurd (show isl (T (p + ((5 : Nat) : Int))) by rw [show T (p + ((5 : Nat) : Int)) = 99 from m.2.2.2.2.2.1]; decide) hn
      · exact absurd (show isl (T (p + ((6 : Nat) : Int))) by rw [show T (p + ((6 : Nat) : Int)) = 101 from m.2.2.2.2.2.2.1]; decide) hn
    · by_cases b : 7 < L
      · exact absurd (hl 7 b) m.2.2.2.2.2.2.2
      · omega
  rw [e1, e]; rfl
theorem rv_2 {T : Int → Int} {n p : Int} (x : TX T n) (p0 : 0 ≤ p) (p1 : p ≤ n) : rv T p = 609752108 ↔ mt2 T p := by
  obtain ⟨L, _, e2, hl, hn, _⟩ := re_is x p0 p1
  rw [e2]
  constructor
  · intro h
    obtain ⟨j0, ej0, h0, t0⟩ := rl_inv h (by decide) (by decide) hl
    subst ej0
    have hl0 : ∀ i : Nat, i < j0 → isl (T (p + i)) := fun i hi => hl i (by omega)
    obtain ⟨j1, ej1, h1, t1⟩ := rl_inv h0 (by decide) (by decide) hl0
    subst ej1
    have hl1 : ∀ i : Nat, i < j1 → isl (T (p + i)) := fun i hi => hl i (by omega)
    obtain ⟨j2, ej2, h2, t2⟩ := rl_inv h1 (by decide) (by decide) hl1
    subst ej2
    have hl2 : ∀ i : Nat, i < j2 → isl (T (p + i)) := fun i hi => hl i (by omega)
    obtain ⟨j3, ej3, h3, t3⟩ := rl_inv h2 (by decide) (by decide) hl2
    subst ej3
    have hl3 : ∀ i : Nat, i < j3 → isl (T (p + i)) := fun i hi => hl i (by omega)
    obtain ⟨j4, ej4, h4, t4⟩ := rl_inv h3 (by decide) (by decide) hl3
    subst ej4
    have hl4 : ∀ i : Nat, i < j4 → isl (T (p + i)) := fun i hi => hl i (by omega)
    obtain ⟨j5, ej5, h5, t5⟩ := rl_inv h4 (by decide) (by decide) hl4
    subst ej5
    have hl5 : ∀ i : Nat, i < j5 → isl (T (p + i)) := fun i hi => hl i (by omega)
    have z := rl_0 h5 hl5
    subst z
    exact ⟨t5, t4, t3, t2, t1, t0, hn⟩
  · intro m
    have e : L = 6 := by
      by_cases a : L < 6
      · have : L = 0 ∨ L = 1 ∨ L = 2 ∨ L = 3 ∨ L = 4 ∨ L = 5 := by omega
        rcases this with e | e | e | e | e | e <;> subst e
        · exact absurd (show isl (T (p + ((0 : Nat) : Int))) by rw [show T (p + ((0 : Nat) : Int)) = 114 from m.1]; decide) hn
        · exact absurd (show isl (T (p + ((1 : Nat) : Int))) by rw [show T (p + ((1 : Nat) : Int)) = 101 from m.2.1]; decide) hn
        · exact absurd (show isl (T (p + ((2 : Nat) : Int))) by rw [show T (p + ((2 : Nat) : Int)) = 112 from m.2.2.1]; decide) hn
        · exact absurd (show isl (T (p + ((3 : Nat) : Int))) by rw [show T (p + ((3 : Nat) : Int)) = 101 from m.2.2.2.1]; decide) hn
        · exact absurd (show isl (T (p + ((4 : Nat) : Int))) by rw [show T (p + ((4 : Nat) : Int)) = 97 from m.2.2.2.2.1]; decide) hn
        · exact absurd (show isl (T (p + ((5 : Nat) : Int))) by rw [show T (p + ((5 : Nat) : Int)) = 108 from m.2.2.2.2.2.1]; decide) hn
      · by_cases b : 6 < L
        · exact absurd (hl 6 b) m.2.2.2.2.2.2
        · omega
    subst e
    have v0 : rlv T p 0 = 0 := rfl
    have v1 : rlv T p 1 = 18 := rlv_s v0 (by decide) m.1 (by decide)
    have v2 : rlv T p 2 = 581 := rlv_s v1 (by decide) m.2.1 (by decide)
    have v3 : rlv T p 3 = 18608 := rlv_s v2 (by decide) m.2.2.1 (by decide)
    have v4 : rlv T p 4 = 595461 := rlv_s v3 (by decide) m.2.2.2.1 (by decide)
    have v5 : rlv T p 5 = 19054753 := rlv_s v4 (by decide) m.2.2.2.2.1 (by decide)
    have v6 : rlv T p 6 = 609752108 := rlv_s v5 (by decide) m.2.2.2.2.2.1 (by decide)
    exact v6
theorem re_2 {T : Int → Int} {n p : Int} (x : TX T n) (p0 : 0 ≤ p) (p1 : p ≤ n) (m : mt2 T p) : re T p = p + 6 := by
  obtain ⟨L, e1, _, hl, hn, _⟩ := re_is x p0 p1
  have e : L = 6 := by
    by_cases a : L < 6
    · have : L = 0 ∨ L = 1 ∨ L = 2 ∨ L = 3 ∨ L = 4 ∨ L = 5 := by omega
      rcases this with e | e | e | e | e | e <;> subst e
      · exact absurd (show isl (T (p + ((0 : Nat) : Int))) by rw [show T (p + ((0 : Nat) : Int)) = 114 from m.1]; decide) hn
      · exact absurd (show isl (T (p + ((1 : Nat) : Int))) by rw [show T (p + ((1 : Nat) : Int)) = 101 from m.2.1]; decide) hn
      · exact absurd (show isl (T (p + ((2 : Nat) : Int))) by rw [show T (p + ((2 : Nat) : Int)) = 112 from m.2.2.1]; decide) hn
      · exact absurd (show isl (T (p + ((3 : Nat) : Int))) by rw [show T (p + ((3 : Nat) : Int)) = 101 from m.2.2.2.1]; decide) hn
      · exact absurd (show isl (T (p + ((4 : Nat) : Int))) by rw [show T (p + ((4 : Nat) : Int)) = 97 from m.2.2.2.2.1]; decide) hn
      · exact absurd (show isl (T (p + ((5 : Nat) : Int))) by rw [show T (p + ((5 : Nat) : Int)) = 108 from m.2.2.2.2.2.1]; decide) hn
    · by_cases b : 6 < L
      · exact absurd (hl 6 b) m.2.2.2.2.2.2
      · omega
  rw [e1, e]; rfl
theorem rv_3 {T : Int → Int} {n p : Int} (x : TX T n) (p0 : 0 ≤ p) (p1 : p ≤ n) : rv T p = 624336210098 ↔ mt3 T p := by
  obtain ⟨L, _, e2, hl, hn, _⟩ := re_is x p0 p1
  rw [e2]
  constructor
  · intro h
    obtain ⟨j0, ej0, h0, t0⟩ := rl_inv h (by decide) (by decide) hl
    subst ej0
    have hl0 : ∀ i : Nat, i < j0 → isl (T (p + i)) := fun i hi => hl i (by omega)
    obtain ⟨j1, ej1, h1, t1⟩ := rl_inv h0 (by decide) (by decide) hl0
    subst ej1
    have hl1 : ∀ i : Nat, i < j1 → isl (T (p + i)) := fun i hi => hl i (by omega)
    obtain ⟨j2, ej2, h2, t2⟩ := rl_inv h1 (by decide) (by decide) hl1
    subst ej2
    have hl2 : ∀ i : Nat, i < j2 → isl (T (p + i)) := fun i hi => hl i (by omega)
    obtain ⟨j3, ej3, h3, t3⟩ := rl_inv h2 (by decide) (by decide) hl2
    subst ej3
    have hl3 : ∀ i : Nat, i < j3 → isl (T (p + i)) := fun i hi => hl i (by omega)
    obtain ⟨j4, ej4, h4, t4⟩ := rl_inv h3 (by decide) (by decide) hl3
    subst ej4
    have hl4 : ∀ i : Nat, i < j4 → isl (T (p + i)) := fun i hi => hl i (by omega)
    obtain ⟨j5, ej5, h5, t5⟩ := rl_inv h4 (by decide) (by decide) hl4
    subst ej5
    have hl5 : ∀ i : Nat, i < j5 → isl (T (p + i)) := fun i hi => hl i (by omega)
    obtain ⟨j6, ej6, h6, t6⟩ := rl_inv h5 (by decide) (by decide) hl5
    subst ej6
    have hl6 : ∀ i : Nat, i < j6 → isl (T (p + i)) := fun i hi => hl i (by omega)
    obtain ⟨j7, ej7, h7, t7⟩ := rl_inv h6 (by decide) (by decide) hl6
    subst ej7
    have hl7 : ∀ i : Nat, i < j7 → isl (T (p + i)) := fun i hi => hl i (by omega)
    have z := rl_0 h7 hl7
    subst z
    exact ⟨t7, t6, t5, t4, t3, t2, t1, t0, hn⟩
  · intro m
    have e : L = 8 := by
      by_cases a : L < 8
      · have : L = 0 ∨ L = 1 ∨ L = 2 ∨ L = 3 ∨ L = 4 ∨ L = 5 ∨ L = 6 ∨ L = 7 := by omega
        rcases this with e | e | e | e | e | e | e | e <;> subst e
        · exact absurd (show isl (T (p + ((0 : Nat) : Int))) by rw [show T (p + ((0 : Nat) : Int)) = 114 from m.1]; decide) hn
        · exact absurd (show isl (T (p + ((1 : Nat) : Int))) by rw [show T (p + ((1 : Nat) : Int)) = 101 from m.2.1]; decide) hn
        · exact absurd (show isl (T (p + ((2 : Nat) : Int))) by rw [show T (p + ((2 : Nat) : Int)) = 110 from m.2.2.1]; decide) hn
        · exact absurd (show isl (T (p + ((3 : Nat) : Int))) by rw [show T (p + ((3 : Nat) : Int)) = 117 from m.2.2.2.1]; decide) hn
        · exact absurd (show isl (T (p + ((4 : Nat) : Int))) by rw [show T (p + ((4 : Nat) : Int)) = 109 from m.2.2.2.2.1]; decide) hn
        · exact absurd (show isl (T (p + ((5 : Nat) : Int))) by rw [show T (p + ((5 : Nat) : Int)) = 98 from m.2.2.2.2.2.1]; decide) hn
        · exact absurd (show isl (T (p + ((6 : Nat) : Int))) by rw [show T (p + ((6 : Nat) : Int)) = 101 from m.2.2.2.2.2.2.1]; decide) hn
        · exact absurd (show isl (T (p + ((7 : Nat) : Int))) by rw [show T (p + ((7 : Nat) : Int)) = 114 from m.2.2.2.2.2.2.2.1]; decide) hn
      · by_cases b : 8 < L
        · exact absurd (hl 8 b) m.2.2.2.2.2.2.2.2
        · omega
    subst e
    have v0 : rlv T p 0 = 0 := rfl
    have v1 : rlv T p 1 = 18 := rlv_s v0 (by decide) m.1 (by decide)
    have v2 : rlv T p 2 = 581 := rlv_s v1 (by decide) m.2.1 (by decide)
    have v3 : rlv T p 3 = 18606 := rlv_s v2 (by decide) m.2.2.1 (by decide)
    have v4 : rlv T p 4 = 595413 := rlv_s v3 (by decide) m.2.2.2.1 (by decide)
    have v5 : rlv T p 5 = 19053229 := rlv_s v4 (by decide) m.2.2.2.2.1 (by decide)
    have v6 : rlv T p 6 = 609703330 := rlv_s v5 (by decide) m.2.2.2.2.2.1 (by decide)
    have v7 : rlv T p 7 = 19510506565 := rlv_s v6 (by decide) m.2.2.2.2.2.2.1 (by decide)
    have v8 : rlv T p 8 = 624336210098 := rlv_s v7 (by decide) m.2.2.2.2.2.2.2.1 (by decide)
    exact v8
theorem re_3 {T : Int → Int} {n p : Int} (x : TX T n) (p0 : 0 ≤ p) (p1 : p ≤ n) (m : mt3 T p) : re T p = p + 8 := by
  obtain ⟨L, e1, _, hl, hn, _⟩ := re_is x p0 p1
  have e : L = 8 := by
    by_cases a : L < 8
    · have : L = 0 ∨ L = 1 ∨ L = 2 ∨ L = 3 ∨ L = 4 ∨ L = 5 ∨ L = 6 ∨ L = 7 := by omega
      rcases this with e | e | e | e | e | e | e | e <;> subst e
      · exact absurd (show isl (T (p + ((0 : Nat) : Int))) by rw [show T (p + ((0 : Nat) : Int)) = 114 from m.1]; decide) hn
      · exact absurd (show isl (T (p + ((1 : Nat) : Int))) by rw [show T (p + ((1 : Nat) : Int)) = 101 from m.2.1]; decide) hn
      · exact absurd (show isl (T (p + ((2 : Nat) : Int))) by rw [show T (p + ((2 : Nat) : Int)) = 110 from m.2.2.1]; decide) hn
      · exact absurd (show isl (T (p + ((3 : Nat) : Int))) by rw [show T (p + ((3 : Nat) : Int)) = 117 from m.2.2.2.1]; decide) hn
      · exact absurd (show isl (T (p + ((4 : Nat) : Int))) by rw [show T (p + ((4 : Nat) : Int)) = 109 from m.2.2.2.2.1]; decide) hn
      · exact absurd (show isl (T (p + ((5 : Nat) : Int))) by rw [show T (p + ((5 : Nat) : Int)) = 98 from m.2.2.2.2.2.1]; decide) hn
      · exact absurd (show isl (T (p + ((6 : Nat) : Int))) by rw [show T (p + ((6 : Nat) : Int)) = 101 from m.2.2.2.2.2.2.1]; decide) hn
      · exact absurd (show isl (T (p + ((7 : Nat) : Int))) by rw [show T (p + ((7 : Nat) : Int)) = 114 from m.2.2.2.2.2.2.2.1]; decide) hn
    · by_cases b : 8 < L
      · exact absurd (hl 8 b) m.2.2.2.2.2.2.2.2
      · omega
  rw [e1, e]; rfl
theorem rv_4 {T : Int → Int} {n p : Int} (x : TX T n) (p0 : 0 ≤ p) (p1 : p ≤ n) : rv T p = 302 ↔ mt4 T p := by
  obtain ⟨L, _, e2, hl, hn, _⟩ := re_is x p0 p1
  rw [e2]
  constructor
  · intro h
    obtain ⟨j0, ej0, h0, t0⟩ := rl_inv h (by decide) (by decide) hl
    subst ej0
    have hl0 : ∀ i : Nat, i < j0 → isl (T (p + i)) := fun i hi => hl i (by omega)
    obtain ⟨j1, ej1, h1, t1⟩ := rl_inv h0 (by decide) (by decide) hl0
    subst ej1
    have hl1 : ∀ i : Nat, i < j1 → isl (T (p + i)) := fun i hi => hl i (by omega)
    have z := rl_0 h1 hl1
    subst z
    exact ⟨t1, t0, hn⟩
  · intro m
    have e : L = 2 := by
      by_cases a : L < 2
      · have : L = 0 ∨ L = 1 := by omega
        rcases this with e | e <;> subst e
        · exact absurd (show isl (T (p + ((0 : Nat) : Int))) by rw [show T (p + ((0 : Nat) : Int)) = 105 from m.1]; decide) hn
        · exact absurd (show isl (T (p + ((1 : Nat) : Int))) by rw [show T (p + ((1 : Nat) : Int)) = 110 from m.2.1]; decide) hn
      · by_cases b : 2 < L
        · exact absurd (hl 2 b) m.2.2
        · omega
    subst e
    have v0 : rlv T p 0 = 0 := rfl
    have v1 : rlv T p 1 = 9 := rlv_s v0 (by decide) m.1 (by decide)
    have v2 : rlv T p 2 = 302 := rlv_s v1 (by decide) m.2.1 (by decide)
    exact v2
theorem re_4 {T : Int → Int} {n p : Int} (x : TX T n) (p0 : 0 ≤ p) (p1 : p ≤ n) (m : mt4 T p) : re T p = p + 2 := by
  obtain ⟨L, e1, _, hl, hn, _⟩ := re_is x p0 p1
  have e : L = 2 := by
    by_cases a : L < 2
    · have : L = 0 ∨ L = 1 := by omega
      rcases this with e | e <;> subst e
      · exact absurd (show isl (T (p + ((0 : Nat) : Int))) by rw [show T (p + ((0 : Nat) : Int)) = 105 from m.1]; decide) hn
      · exact absurd (show isl (T (p + ((1 : Nat) : Int))) by rw [show T (p + ((1 : Nat) : Int)) = 110 from m.2.1]; decide) hn
    · by_cases b : 2 < L
      · exact absurd (hl 2 b) m.2.2
      · omega
  rw [e1, e]; rfl
theorem rv_5 {T : Int → Int} {n p : Int} (x : TX T n) (p0 : 0 ≤ p) (p1 : p ≤ n) : rv T p = 655 ↔ mt5 T p := by
  obtain ⟨L, _, e2, hl, hn, _⟩ := re_is x p0 p1
  rw [e2]
  constructor
  · intro h
    obtain ⟨j0, ej0, h0, t0⟩ := rl_inv h (by decide) (by decide) hl
    subst ej0
    have hl0 : ∀ i : Nat, i < j0 → isl (T (p + i)) := fun i hi => hl i (by omega)
    obtain ⟨j1, ej1, h1, t1⟩ := rl_inv h0 (by decide) (by decide) hl0
    subst ej1
    have hl1 : ∀ i : Nat, i < j1 → isl (T (p + i)) := fun i hi => hl i (by omega)
    have z := rl_0 h1 hl1
    subst z
    exact ⟨t1, t0, hn⟩
  · intro m
    have e : L = 2 := by
      by_cases a : L < 2
      · have : L = 0 ∨ L = 1 := by omega
        rcases this with e | e <;> subst e
        · exact absurd (show isl (T (p + ((0 : Nat) : Int))) by rw [show T (p + ((0 : Nat) : Int)) = 116 from m.1]; decide) hn
        · exact absurd (show isl (T (p + ((1 : Nat) : Int))) by rw [show T (p + ((1 : Nat) : Int)) = 111 from m.2.1]; decide) hn
      · by_cases b : 2 < L
        · exact absurd (hl 2 b) m.2.2
        · omega
    subst e
    have v0 : rlv T p 0 = 0 := rfl
    have v1 : rlv T p 1 = 20 := rlv_s v0 (by decide) m.1 (by decide)
    have v2 : rlv T p 2 = 655 := rlv_s v1 (by decide) m.2.1 (by decide)
    exact v2
theorem re_5 {T : Int → Int} {n p : Int} (x : TX T n) (p0 : 0 ≤ p) (p1 : p ≤ n) (m : mt5 T p) : re T p = p + 2 := by
  obtain ⟨L, e1, _, hl, hn, _⟩ := re_is x p0 p1
  have e : L = 2 := by
    by_cases a : L < 2
    · have : L = 0 ∨ L = 1 := by omega
      rcases this with e | e <;> subst e
      · exact absurd (show isl (T (p + ((0 : Nat) : Int))) by rw [show T (p + ((0 : Nat) : Int)) = 116 from m.1]; decide) hn
      · exact absurd (show isl (T (p + ((1 : Nat) : Int))) by rw [show T (p + ((1 : Nat) : Int)) = 111 from m.2.1]; decide) hn
    · by_cases b : 2 < L
      · exact absurd (hl 2 b) m.2.2
      · omega
  rw [e1, e]; rfl
theorem rv_6 {T : Int → Int} {n p : Int} (x : TX T n) (p0 : 0 ≤ p) (p1 : p ≤ n) : rv T p = 6642 ↔ mt6 T p := by
  obtain ⟨L, _, e2, hl, hn, _⟩ := re_is x p0 p1
  rw [e2]
  constructor
  · intro h
    obtain ⟨j0, ej0, h0, t0⟩ := rl_inv h (by decide) (by decide) hl
    subst ej0
    have hl0 : ∀ i : Nat, i < j0 → isl (T (p + i)) := fun i hi => hl i (by omega)
    obtain ⟨j1, ej1, h1, t1⟩ := rl_inv h0 (by decide) (by decide) hl0
    subst ej1
    have hl1 : ∀ i : Nat, i < j1 → isl (T (p + i)) := fun i hi => hl i (by omega)
    obtain ⟨j2, ej2, h2, t2⟩ := rl_inv h1 (by decide) (by decide) hl1
    subst ej2
    have hl2 : ∀ i : Nat, i < j2 → isl (T (p + i)) := fun i hi => hl i (by omega)
    have z := rl_0 h2 hl2
    subst z
    exact ⟨t2, t1, t0, hn⟩
  · intro m
    have e : L = 3 := by
      by_cases a : L < 3
      · have : L = 0 ∨ L = 1 ∨ L = 2 := by omega
        rcases this with e | e | e <;> subst e
        · exact absurd (show isl (T (p + ((0 : Nat) : Int))) by rw [show T (p + ((0 : Nat) : Int)) = 102 from m.1]; decide) hn
        · exact absurd (show isl (T (p + ((1 : Nat) : Int))) by rw [show T (p + ((1 : Nat) : Int)) = 111 from m.2.1]; decide) hn
        · exact absurd (show isl (T (p + ((2 : Nat) : Int))) by rw [show T (p + ((2 : Nat) : Int)) = 114 from m.2.2.1]; decide) hn
      · by_cases b : 3 < L
        · exact absurd (hl 3 b) m.2.2.2
        · omega
    subst e
    have v0 : rlv T p 0 = 0 := rfl
    have v1 : rlv T p 1 = 6 := rlv_s v0 (by decide) m.1 (by decide)
    have v2 : rlv T p 2 = 207 := rlv_s v1 (by decide) m.2.1 (by decide)
    have v3 : rlv T p 3 = 6642 := rlv_s v2 (by decide) m.2.2.1 (by decide)
    exact v3
theorem re_6 {T : Int → Int} {n p : Int} (x : TX T n) (p0 : 0 ≤ p) (p1 : p ≤ n) (m : mt6 T p) : re T p = p + 3 := by
  obtain ⟨L, e1, _, hl, hn, _⟩ := re_is x p0 p1
  have e : L = 3 := by
    by_cases a : L < 3
    · have : L = 0 ∨ L = 1 ∨ L = 2 := by omega
      rcases this with e | e | e <;> subst e
      · exact absurd (show isl (T (p + ((0 : Nat) : Int))) by rw [show T (p + ((0 : Nat) : Int)) = 102 from m.1]; decide) hn
      · exact absurd (show isl (T (p + ((1 : Nat) : Int))) by rw [show T (p + ((1 : Nat) : Int)) = 111 from m.2.1]; decide) hn
      · exact absurd (show isl (T (p + ((2 : Nat) : Int))) by rw [show T (p + ((2 : Nat) : Int)) = 114 from m.2.2.1]; decide) hn
    · by_cases b : 3 < L
      · exact absurd (hl 3 b) m.2.2.2
      · omega
  rw [e1, e]; rfl
theorem rv_7 {T : Int → Int} {n p : Int} (x : TX T n) (p0 : 0 ≤ p) (p1 : p ≤ n) : rv T p = 17076 ↔ mt7 T p := by
  obtain ⟨L, _, e2, hl, hn, _⟩ := re_is x p0 p1
  rw [e2]
  constructor
  · intro h
    obtain ⟨j0, ej0, h0, t0⟩ := rl_inv h (by decide) (by decide) hl
    subst ej0
    have hl0 : ∀ i : Nat, i < j0 → isl (T (p + i)) := fun i hi => hl i (by omega)
    obtain ⟨j1, ej1, h1, t1⟩ := rl_inv h0 (by decide) (by decide) hl0
    subst ej1
    have hl1 : ∀ i : Nat, i < j1 → isl (T (p + i)) := fun i hi => hl i (by omega)
    obtain ⟨j2, ej2, h2, t2⟩ := rl_inv h1 (by decide) (by decide) hl1
    subst ej2
    have hl2 : ∀ i : Nat, i < j2 → isl (T (p + i)) := fun i hi => hl i (by omega)
    have z := rl_0 h2 hl2
    subst z
    exact ⟨t2, t1, t0, hn⟩
  · intro m
    have e : L = 3 := by
      by_cases a : L < 3
      · have : L = 0 ∨ L = 1 ∨ L = 2 := by omega
        rcases this with e | e | e <;> subst e
        · exact absurd (show isl (T (p + ((0 : Nat) : Int))) by rw [show T (p + ((0 : Nat) : Int)) = 112 from m.1]; decide) hn
        · exact absurd (show isl (T (p + ((1 : Nat) : Int))) by rw [show T (p + ((1 : Nat) : Int)) = 117 from m.2.1]; decide) hn
        · exact absurd (show isl (T (p + ((2 : Nat) : Int))) by rw [show T (p + ((2 : Nat) : Int)) = 116 from m.2.2.1]; decide) hn
      · by_cases b : 3 < L
        · exact absurd (hl 3 b) m.2.2.2
        · omega
    subst e
    have v0 : rlv T p 0 = 0 := rfl
    have v1 : rlv T p 1 = 16 := rlv_s v0 (by decide) m.1 (by decide)
    have v2 : rlv T p 2 = 533 := rlv_s v1 (by decide) m.2.1 (by decide)
    have v3 : rlv T p 3 = 17076 := rlv_s v2 (by decide) m.2.2.1 (by decide)
    exact v3
theorem re_7 {T : Int → Int} {n p : Int} (x : TX T n) (p0 : 0 ≤ p) (p1 : p ≤ n) (m : mt7 T p) : re T p = p + 3 := by
  obtain ⟨L, e1, _, hl, hn, _⟩ := re_is x p0 p1
  have e : L = 3 := by
    by_cases a : L < 3
    · have : L = 0 ∨ L = 1 ∨ L = 2 := by omega
      rcases this with e | e | e <;> subst e
      · exact absurd (show isl (T (p + ((0 : Nat) : Int))) by rw [show T (p + ((0 : Nat) : Int)) = 112 from m.1]; decide) hn
      · exact absurd (show isl (T (p + ((1 : Nat) : Int))) by rw [show T (p + ((1 : Nat) : Int)) = 117 from m.2.1]; decide) hn
      · exact absurd (show isl (T (p + ((2 : Nat) : Int))) by rw [show T (p + ((2 : Nat) : Int)) = 116 from m.2.2.1]; decide) hn
    · by_cases b : 3 < L
      · exact absurd (hl 3 b) m.2.2.2
      · omega
  rw [e1, e]; rfl
theorem rv_8 {T : Int → Int} {n p : Int} (x : TX T n) (p0 : 0 ≤ p) (p1 : p ≤ n) : rv T p = 639313351 ↔ mt8 T p := by
  obtain ⟨L, _, e2, hl, hn, _⟩ := re_is x p0 p1
  rw [e2]
  constructor
  · intro h
    obtain ⟨j0, ej0, h0, t0⟩ := rl_inv h (by decide) (by decide) hl
    subst ej0
    have hl0 : ∀ i : Nat, i < j0 → isl (T (p + i)) := fun i hi => hl i (by omega)
    obtain ⟨j1, ej1, h1, t1⟩ := rl_inv h0 (by decide) (by decide) hl0
    subst ej1
    have hl1 : ∀ i : Nat, i < j1 → isl (T (p + i)) := fun i hi => hl i (by omega)
    obtain ⟨j2, ej2, h2, t2⟩ := rl_inv h1 (by decide) (by decide) hl1
    subst ej2
    have hl2 : ∀ i : Nat, i < j2 → isl (T (p + i)) := fun i hi => hl i (by omega)
    obtain ⟨j3, ej3, h3, t3⟩ := rl_inv h2 (by decide) (by decide) hl2
    subst ej3
    have hl3 : ∀ i : Nat, i < j3 → isl (T (p + i)) := fun i hi => hl i (by omega)
    obtain ⟨j4, ej4, h4, t4⟩ := rl_inv h3 (by decide) (by decide) hl3
    subst ej4
    have hl4 : ∀ i : Nat, i < j4 → isl (T (p + i)) := fun i hi => hl i (by omega)
    obtain ⟨j5, ej5, h5, t5⟩ := rl_inv h4 (by decide) (by decide) hl4
    subst ej5
    have hl5 : ∀ i : Nat, i < j5 → isl (T (p + i)) := fun i hi => hl i (by omega)
    have z := rl_0 h5 hl5
    subst z
    exact ⟨t5, t4, t3, t2, t1, t0, hn⟩
  · intro m
    have e : L = 6 := by
      by_cases a : L < 6
      · have : L = 0 ∨ L = 1 ∨ L = 2 ∨ L = 3 ∨ L = 4 ∨ L = 5 := by omega
        rcases this with e | e | e | e | e | e <;> subst e
        · exact absurd (show isl (T (p + ((0 : Nat) : Int))) by rw [show T (p + ((0 : Nat) : Int)) = 115 from m.1]; decide) hn
        · exact absurd (show isl (T (p + ((1 : Nat) : Int))) by rw [show T (p + ((1 : Nat) : Int)) = 97 from m.2.1]; decide) hn
        · exact absurd (show isl (T (p + ((2 : Nat) : Int))) by rw [show T (p + ((2 : Nat) : Int)) = 118 from m.2.2.1]; decide) hn
        · exact absurd (show isl (T (p + ((3 : Nat) : Int))) by rw [show T (p + ((3 : Nat) : Int)) = 105 from m.2.2.2.1]; decide) hn
        · exact absurd (show isl (T (p + ((4 : Nat) : Int))) by rw [show T (p + ((4 : Nat) : Int)) = 110 from m.2.2.2.2.1]; decide) hn
        · exact absurd (show isl (T (p + ((5 : Nat) : Int))) by rw [show T (p + ((5 : Nat) : Int)) = 103 from m.2.2.2.2.2.1]; decide) hn
      · by_cases b : 6 < L
        · exact absurd (hl 6 b) m.2.2.2.2.2.2
        · omega
    subst e
    have v0 : rlv T p 0 = 0 := rfl
    have v1 : rlv T p 1 = 19 := rlv_s v0 (by decide) m.1 (by decide)
    have v2 : rlv T p 2 = 609 := rlv_s v1 (by decide) m.2.1 (by decide)
    have v3 : rlv T p 3 = 19510 := rlv_s v2 (by decide) m.2.2.1 (by decide)
    have v4 : rlv T p 4 = 624329 := rlv_s v3 (by decide) m.2.2.2.1 (by decide)
    have v5 : rlv T p 5 = 19978542 := rlv_s v4 (by decide) m.2.2.2.2.1 (by decide)
    have v6 : rlv T p 6 = 639313351 := rlv_s v5 (by decide) m.2.2.2.2.2.1 (by decide)
    exact v6
theorem re_8 {T : Int → Int} {n p : Int} (x : TX T n) (p0 : 0 ≤ p) (p1 : p ≤ n) (m : mt8 T p) : re T p = p + 6 := by
  obtain ⟨L, e1, _, hl, hn, _⟩ := re_is x p0 p1
  have e : L = 6 := by
    by_cases a : L < 6
    · have : L = 0 ∨ L = 1 ∨ L = 2 ∨ L = 3 ∨ L = 4 ∨ L = 5 := by omega
      rcases this with e | e | e | e | e | e <;> subst e
      · exact absurd (show isl (T (p + ((0 : Nat) : Int))) by rw [show T (p + ((0 : Nat) : Int)) = 115 from m.1]; decide) hn
      · exact absurd (show isl (T (p + ((1 : Nat) : Int))) by rw [show T (p + ((1 : Nat) : Int)) = 97 from m.2.1]; decide) hn
      · exact absurd (show isl (T (p + ((2 : Nat) : Int))) by rw [show T (p + ((2 : Nat) : Int)) = 118 from m.2.2.1]; decide) hn
      · exact absurd (show isl (T (p + ((3 : Nat) : Int))) by rw [show T (p + ((3 : Nat) : Int)) = 105 from m.2.2.2.1]; decide) hn
      · exact absurd (show isl (T (p + ((4 : Nat) : Int))) by rw [show T (p + ((4 : Nat) : Int)) = 110 from m.2.2.2.2.1]; decide) hn
      · exact absurd (show isl (T (p + ((5 : Nat) : Int))) by rw [show T (p + ((5 : Nat) : Int)) = 103 from m.2.2.2.2.2.1]; decide) hn
    · by_cases b : 6 < L
      · exact absurd (hl 6 b) m.2.2.2.2.2.2
      · omega
  rw [e1, e]; rfl
theorem kof_kd {T : Int → Int} {n p : Int} (x : TX T n) (p0 : 0 ≤ p) (p1 : p ≤ n) : kof (rv T p) = kd T p := by
  unfold kof kd
  simp only [rv_0 x p0 p1, rv_1 x p0 p1, rv_2 x p0 p1, rv_3 x p0 p1, rv_4 x p0 p1]
theorem re_ke {T : Int → Int} {n p : Int} (x : TX T n) (p0 : 0 ≤ p) (p1 : p ≤ n) (h : ¬ kd T p = -1) : re T p = ke T p := by
  unfold kd at h
  unfold ke
  by_cases m0 : mt0 T p
  · rw [if_pos m0, re_0 x p0 p1 m0]
  rw [if_neg m0] at h ⊢
  by_cases m1 : mt1 T p
  · rw [if_pos m1, re_1 x p0 p1 m1]
  rw [if_neg m1] at h ⊢
  by_cases m2 : mt2 T p
  · rw [if_pos m2, re_2 x p0 p1 m2]
  rw [if_neg m2] at h ⊢
  by_cases m3 : mt3 T p
  · rw [if_pos m3, re_3 x p0 p1 m3]
  rw [if_neg m3] at h ⊢
  by_cases m4 : mt4 T p
  · rw [if_pos m4, re_4 x p0 p1 m4]
  rw [if_neg m4] at h
  exact absurd rfl h
theorem rv_zl {T : Int → Int} {n p : Int} (x : TX T n) (p0 : 0 ≤ p) (p1 : p ≤ n) : zlr (rv T p) ∧ p ≤ re T p ∧ re T p ≤ n := by
  obtain ⟨L, e1, e2, hl, hn, e3⟩ := re_is x p0 p1
  have r := rlv_r (T := T) (p := p) L hl
  rw [e1, e2]
  exact ⟨⟨by omega, by omega⟩, by omega, e3⟩
/-! the reference's small readers -/
/-- the reference at a place, with a fault, and all else as it was -/
def CRm (M0 : am_M) (p f : Int) (M : am_M) : Prop := (∀ a, ¬ a = 58 → M a = M0 a) ∧ (∀ j, ¬ j = 18 → ¬ j = 19 → M 58 j = M0 58 j) ∧ iv M 58 18 = p ∧ iv M 58 19 = f
def XM (T : Int → Int) (n : Int) (M : am_M) : Prop := (∀ k, 0 ≤ k → mtb M k = T k) ∧ iv M 58 17 = n ∧ TX T n
theorem XM.row {T : Int → Int} {n : Int} {M M0 : am_M} (x : XM T n M0) (h73 : M 73 = M0 73) (h17 : M 58 17 = M0 58 17) : XM T n M := by
  have e : iv M 58 17 = iv M0 58 17 := iv1 h17
  refine ⟨fun k k0 => ?_, by rw [e, x.2.1], x.2.2⟩
  rw [← x.1 k k0]
  unfold mtb
  rw [e, iv_row h73]
theorem XM.rd {T : Int → Int} {n : Int} {M M0 : am_M} (x : XM T n M0) {p f : Int} (g : CRm M0 p f M) : XM T n M := x.row (g.1 73 (by decide)) (g.2.1 17 (by decide) (by decide))
theorem crm_p {M0 M M' : am_M} {p f v : Int} (g : CRm M0 p f M) (e : M' = zup M 58 18 v) (hv : zr v) : CRm M0 v f M' := by
  refine ⟨fun a ha => by rw [e, zupr _ ha, g.1 a ha], fun j j1 j2 => by rw [e, zup58 _ (by decide) j1, g.2.1 j j1 j2], ?_, ?_⟩
  · rw [e, ivs _ _ (by decide) (by decide) hv, if_pos rfl]
  · rw [e, ivs _ _ (by decide) (by decide) hv, if_neg (by decide), g.2.2.2]
theorem crm_f {M0 M M' : am_M} {p f v : Int} (g : CRm M0 p f M) (e : M' = zup M 58 19 v) (hv : zr v) : CRm M0 p v M' := by
  refine ⟨fun a ha => by rw [e, zupr _ ha, g.1 a ha], fun j j1 j2 => by rw [e, zup58 _ (by decide) j2, g.2.1 j j1 j2], ?_, ?_⟩
  · rw [e, ivs _ _ (by decide) (by decide) hv, if_neg (by decide), g.2.2.1]
  · rw [e, ivs _ _ (by decide) (by decide) hv, if_pos rfl]
set_option maxRecDepth 100000 in
theorem vc_skips  (M : am_M) (Q : Option Value → am_M → Prop) (hv : (0 ≤ (iv M 58 18) ∧ (iv M 58 18) ≤ 1000 ∧ iv M 58 17 ≤ 120) ∧ (((mtb M (iv M 58 18)) = 32 → ∀ M1, M1 = zup M 58 18 ((iv M 58 18) + 1) → am_x t_Mo_skips (0, [.ref 58], [], M1) Q) ∧ (¬ (mtb M (iv M 58 18)) = 32 → Q none M))) : am_x t_Mo_skips (0, am_ent (am_mL t_Mo_skips) [.ref 58], [], M) Q := by
  refine am_xn 0 (c1 := (0, [.ref 58], [], M)) rfl ?_
  refine am_xrd 3 58 18 (pc := 5) (ls := [.ref 58]) (st := [.ref 58]) rfl ?_
  obtain ⟨g, hv⟩ := hv
  refine am_xc t_Mo_byteAt (.invokevirtual 152) 152 (av := [.ref 58, .int (zi (iv M 58 18))]) (rest := []) (rv := some (.int (zi (mtb M (iv M 58 18))))) (M' := M) rfl rfl rfl rfl (Nat.le_of_ble_eq_true rfl) (fun _ => rfl) (sp_m_byteAt M (iv M 58 18) g) ?_
  refine am_xn 0 (c1 := (8, [.ref 58], [.int (zi (mtb M (iv M 58 18)))], M)) rfl ?_
  refine am_xn 2 (c1 := (if zi (mtb M (iv M 58 18)) = zi 32 then 13 else 26, [.ref 58], [], M)) rfl (am_xeq (mtb_r M (iv M 58 18)) (by decide) (fun h => ?_) (fun h => ?_))
  · replace hv := hv.1 h
    refine am_xrd 3 58 18 (pc := 18) (ls := [.ref 58]) (st := [.ref 58]) rfl ?_
    refine am_xiadd 2 (iv M 58 18) 1 (pc := 20) (ls := [.ref 58]) (st := [.ref 58]) rfl ?_
    refine am_xn 1 (c1 := (23, [.ref 58], [], zup M 58 18 ((iv M 58 18) + 1))) rfl ?_
    obtain ⟨M1, eM1⟩ : ∃ m, m = zup M 58 18 ((iv M 58 18) + 1) := ⟨_, rfl⟩
    replace hv := hv M1 eM1
    rw [← eM1]
    refine am_xn 1 (c1 := (0, [.ref 58], [], M1)) rfl ?_
    exact hv
  · replace hv := hv.2 h
    exact am_xr none ⟨rfl, rfl, rfl⟩ hv
set_option maxRecDepth 100000 in
theorem vc_skips_0  (M : am_M) (Q : Option Value → am_M → Prop) (hv : (0 ≤ (iv M 58 18) ∧ (iv M 58 18) ≤ 1000 ∧ iv M 58 17 ≤ 120) ∧ (((mtb M (iv M 58 18)) = 32 → ∀ M1, M1 = zup M 58 18 ((iv M 58 18) + 1) → am_x t_Mo_skips (0, [.ref 58], [], M1) Q) ∧ (¬ (mtb M (iv M 58 18)) = 32 → Q none M))) : am_x t_Mo_skips (0, [.ref 58], [], M) Q := by
  refine am_xrd 3 58 18 (pc := 5) (ls := [.ref 58]) (st := [.ref 58]) rfl ?_
  obtain ⟨g, hv⟩ := hv
  refine am_xc t_Mo_byteAt (.invokevirtual 152) 152 (av := [.ref 58, .int (zi (iv M 58 18))]) (rest := []) (rv := some (.int (zi (mtb M (iv M 58 18))))) (M' := M) rfl rfl rfl rfl (Nat.le_of_ble_eq_true rfl) (fun _ => rfl) (sp_m_byteAt M (iv M 58 18) g) ?_
  refine am_xn 0 (c1 := (8, [.ref 58], [.int (zi (mtb M (iv M 58 18)))], M)) rfl ?_
  refine am_xn 2 (c1 := (if zi (mtb M (iv M 58 18)) = zi 32 then 13 else 26, [.ref 58], [], M)) rfl (am_xeq (mtb_r M (iv M 58 18)) (by decide) (fun h => ?_) (fun h => ?_))
  · replace hv := hv.1 h
    refine am_xrd 3 58 18 (pc := 18) (ls := [.ref 58]) (st := [.ref 58]) rfl ?_
    refine am_xiadd 2 (iv M 58 18) 1 (pc := 20) (ls := [.ref 58]) (st := [.ref 58]) rfl ?_
    refine am_xn 1 (c1 := (23, [.ref 58], [], zup M 58 18 ((iv M 58 18) + 1))) rfl ?_
    obtain ⟨M1, eM1⟩ : ∃ m, m = zup M 58 18 ((iv M 58 18) + 1) := ⟨_, rfl⟩
    replace hv := hv M1 eM1
    rw [← eM1]
    refine am_xn 1 (c1 := (0, [.ref 58], [], M1)) rfl ?_
    exact hv
  · replace hv := hv.2 h
    exact am_xr none ⟨rfl, rfl, rfl⟩ hv
set_option maxRecDepth 100000 in
theorem vc_fails (k : Int) (M : am_M) (Q : Option Value → am_M → Prop) (hv : ((iv M 58 19) = (-1) → ∀ M1, M1 = zup M 58 19 k → Q none M1) ∧ (¬ (iv M 58 19) = (-1) → ∀ M2, M2 = zup M 58 19 (iv M 58 19) → Q none M2)) : am_x t_Mo_fails (0, am_ent (am_mL t_Mo_fails) [.ref 58, .int (zi k)], [], M) Q := by
  refine am_xn 0 (c1 := (0, [.ref 58, .int (zi k)], [], M)) rfl ?_
  refine am_xrd 3 58 19 (pc := 5) (ls := [.ref 58, .int (zi k)]) (st := [.ref 58]) rfl ?_
  refine am_xn 2 (c1 := (if zi (iv M 58 19) = zi (-1) then 9 else 13, [.ref 58, .int (zi k)], [.ref 58], M)) rfl (am_xeq (iv_r _ _ _) (by decide) (fun h => ?_) (fun h => ?_))
  · replace hv := hv.1 h
    refine am_xn 3 (c1 := (20, [.ref 58, .int (zi k)], [], zup M 58 19 k)) rfl ?_
    obtain ⟨M1, eM1⟩ : ∃ m, m = zup M 58 19 k := ⟨_, rfl⟩
    replace hv := hv M1 eM1
    rw [← eM1]
    exact am_xr none ⟨rfl, rfl, rfl⟩ hv
  · replace hv := hv.2 h
    refine am_xrd 2 58 19 (pc := 17) (ls := [.ref 58, .int (zi k)]) (st := [.ref 58]) rfl ?_
    refine am_xn 1 (c1 := (20, [.ref 58, .int (zi k)], [], zup M 58 19 (iv M 58 19))) rfl ?_
    obtain ⟨M2, eM2⟩ : ∃ m, m = zup M 58 19 (iv M 58 19) := ⟨_, rfl⟩
    replace hv := hv M2 eM2
    rw [← eM2]
    exact am_xr none ⟨rfl, rfl, rfl⟩ hv
set_option maxRecDepth 100000 in
theorem vc_readsLetters  (M : am_M) (Q : Option Value → am_M → Prop) (hv : am_x t_Mo_readsLetters (2, [.ref 58, .long (zl 0), .null], [], M) Q) : am_x t_Mo_readsLetters (0, am_ent (am_mL t_Mo_readsLetters) [.ref 58], [], M) Q := by
  refine am_xn 0 (c1 := (0, [.ref 58, .null, .null], [], M)) rfl ?_
  refine am_xn 2 (c1 := (2, [.ref 58, .long (zl 0), .null], [], M)) rfl ?_
  exact hv
set_option maxRecDepth 100000 in
theorem vc_readsLetters_2 (x1 : Int) (M : am_M) (Q : Option Value → am_M → Prop) (hv : (0 ≤ (iv M 58 18) ∧ (iv M 58 18) ≤ 1000 ∧ iv M 58 17 ≤ 120) ∧ ((isl (mtb M (iv M 58 18)) → (zlr x1) ∧ ((0 < (zcmp x1 1125899906842624) → ∀ M2, M2 = zup M 58 18 ((iv M 58 18) + 1) → am_x t_Mo_readsLetters (2, [.ref 58, .long (zl x1), .null], [], M2) Q) ∧ ((zcmp x1 1125899906842624) ≤ 0 → (0 ≤ (iv M 58 18) ∧ (iv M 58 18) ≤ 1000 ∧ iv M 58 17 ≤ 120) ∧ (∀ M3, M3 = zup M 58 18 ((iv M 58 18) + 1) → am_x t_Mo_readsLetters (2, [.ref 58, .long (zl (((32 * x1) + (mtb M (iv M 58 18))) - 96)), .null], [], M3) Q)))) ∧ (¬ (isl (mtb M (iv M 58 18))) → Q (some (.long (zl x1))) M))) : am_x t_Mo_readsLetters (2, [.ref 58, .long (zl x1), .null], [], M) Q := by
  refine am_xrd 3 58 18 (pc := 7) (ls := [.ref 58, .long (zl x1), .null]) (st := [.ref 58]) rfl ?_
  obtain ⟨g, hv⟩ := hv
  by_cases c4 : isl (mtb M (iv M 58 18))
  · replace hv := hv.1 c4
    refine am_xc t_Mo_isSmall (.invokevirtual 161) 161 (av := [.ref 58, .int (zi (iv M 58 18))]) (rest := []) (rv := some (.int (zi 1))) (M' := M) rfl rfl rfl rfl (Nat.le_of_ble_eq_true rfl) (fun _ => rfl) (by have q := sp_isSmall M (iv M 58 18) g; rwa [if_pos c4] at q) ?_
    refine am_xn 0 (c1 := (10, [.ref 58, .long (zl x1), .null], [.int (zi 1)], M)) rfl ?_
    obtain ⟨r1, hv⟩ := hv
    refine am_xlcmp 4 x1 1125899906842624 r1 (by decide) (pc := 18) (ls := [.ref 58, .long (zl x1), .null]) (st := []) rfl ?_
    refine am_xn 1 (c1 := (if zi 0 < zi (zcmp x1 1125899906842624) then 21 else 25, [.ref 58, .long (zl x1), .null], [], M)) rfl (am_xlt (by decide) (zr_zcmp _ _) (fun h => ?_) (fun h => ?_))
    · replace hv := hv.1 h
      refine am_xrd 6 58 18 (pc := 50) (ls := [.ref 58, .long (zl x1), .null]) (st := [.ref 58]) rfl ?_
      refine am_xiadd 2 (iv M 58 18) 1 (pc := 52) (ls := [.ref 58, .long (zl x1), .null]) (st := [.ref 58]) rfl ?_
      refine am_xn 1 (c1 := (55, [.ref 58, .long (zl x1), .null], [], zup M 58 18 ((iv M 58 18) + 1))) rfl ?_
      obtain ⟨M2, eM2⟩ : ∃ m, m = zup M 58 18 ((iv M 58 18) + 1) := ⟨_, rfl⟩
      replace hv := hv M2 eM2
      rw [← eM2]
      refine am_xn 1 (c1 := (2, [.ref 58, .long (zl x1), .null], [], M2)) rfl ?_
      exact hv
    · replace hv := hv.2 h
      refine am_xlmul 3 32 x1 (pc := 30) (ls := [.ref 58, .long (zl x1), .null]) (st := []) rfl ?_
      refine am_xrd 3 58 18 (pc := 35) (ls := [.ref 58, .long (zl x1), .null]) (st := [.ref 58, .long (zl (32 * x1))]) rfl ?_
      obtain ⟨g, hv⟩ := hv
      refine am_xc t_Mo_byteAt (.invokevirtual 152) 152 (av := [.ref 58, .int (zi (iv M 58 18))]) (rest := [.long (zl (32 * x1))]) (rv := some (.int (zi (mtb M (iv M 58 18))))) (M' := M) rfl rfl rfl rfl (Nat.le_of_ble_eq_true rfl) (fun _ => rfl) (sp_m_byteAt M (iv M 58 18) g) ?_
      refine am_xn 0 (c1 := (38, [.ref 58, .long (zl x1), .null], [.int (zi (mtb M (iv M 58 18))), .long (zl (32 * x1))], M)) rfl ?_
      refine am_xi2l 1 (mtb M (iv M 58 18)) (mtb_r M (iv M 58 18)) (pc := 39) (ls := [.ref 58, .long (zl x1), .null]) (st := [.long (zl (32 * x1))]) rfl ?_
      refine am_xladd 1 (32 * x1) (mtb M (iv M 58 18)) (pc := 40) (ls := [.ref 58, .long (zl x1), .null]) (st := []) rfl ?_
      refine am_xlsub 2 ((32 * x1) + (mtb M (iv M 58 18))) 96 (pc := 44) (ls := [.ref 58, .long (zl x1), .null]) (st := []) rfl ?_
      refine am_xrd 4 58 18 (pc := 50) (ls := [.ref 58, .long (zl (((32 * x1) + (mtb M (iv M 58 18))) - 96)), .null]) (st := [.ref 58]) rfl ?_
      refine am_xiadd 2 (iv M 58 18) 1 (pc := 52) (ls := [.ref 58, .long (zl (((32 * x1) + (mtb M (iv M 58 18))) - 96)), .null]) (st := [.ref 58]) rfl ?_
      refine am_xn 1 (c1 := (55, [.ref 58, .long (zl (((32 * x1) + (mtb M (iv M 58 18))) - 96)), .null], [], zup M 58 18 ((iv M 58 18) + 1))) rfl ?_
      obtain ⟨M3, eM3⟩ : ∃ m, m = zup M 58 18 ((iv M 58 18) + 1) := ⟨_, rfl⟩
      replace hv := hv M3 eM3
      rw [← eM3]
      refine am_xn 1 (c1 := (2, [.ref 58, .long (zl (((32 * x1) + (mtb M (iv M 58 18))) - 96)), .null], [], M3)) rfl ?_
      exact hv
  · replace hv := hv.2 c4
    refine am_xc t_Mo_isSmall (.invokevirtual 161) 161 (av := [.ref 58, .int (zi (iv M 58 18))]) (rest := []) (rv := some (.int (zi 0))) (M' := M) rfl rfl rfl rfl (Nat.le_of_ble_eq_true rfl) (fun _ => rfl) (by have q := sp_isSmall M (iv M 58 18) g; rwa [if_neg c4] at q) ?_
    refine am_xn 0 (c1 := (10, [.ref 58, .long (zl x1), .null], [.int (zi 0)], M)) rfl ?_
    refine am_xn 2 (c1 := (59, [.ref 58, .long (zl x1), .null], [.long (zl x1)], M)) rfl ?_
    exact am_xr (some (.long (zl x1))) ⟨rfl, rfl, rfl⟩ hv
set_option maxRecDepth 100000 in
theorem vc_needsWord (v : Int) (M : am_M) (Q : Option Value → am_M → Prop) (hv : ∃ M1, am_call t_Mo_skips [.ref 58] M none M1 ∧ (((iv M1 58 19) = (-1) → ∃ (r3 : Int) (M2 : am_M), am_call t_Mo_readsLetters [.ref 58] M1 (some (.long (zl r3))) M2 ∧ ((zlr r3) ∧ ((zlr v) ∧ (((zcmp r3 v) = 0 → Q none M2) ∧ (¬ (zcmp r3 v) = 0 → ∃ M6, am_call t_Mo_fails [.ref 58, .int (zi (iv M1 58 18))] M2 none M6 ∧ (Q none M6)))))) ∧ (¬ (iv M1 58 19) = (-1) → Q none M1))) : am_x t_Mo_needsWord (0, am_ent (am_mL t_Mo_needsWord) [.ref 58, .long (zl v)], [], M) Q := by
  refine am_xn 0 (c1 := (0, [.ref 58, .long (zl v), .null, .null], [], M)) rfl ?_
  refine am_xn 1 (c1 := (1, [.ref 58, .long (zl v), .null, .null], [.ref 58], M)) rfl ?_
  obtain ⟨M1, hc, hv⟩ := hv
  refine am_xc t_Mo_skips (.invokevirtual 174) 174 (av := [.ref 58]) (rest := []) (rv := none) (M' := M1) rfl rfl rfl rfl (Nat.le_of_ble_eq_true rfl) (fun _ => rfl) (hc) ?_
  refine am_xn 0 (c1 := (4, [.ref 58, .long (zl v), .null, .null], [], M1)) rfl ?_
  refine am_xrd 2 58 18 (pc := 8) (ls := [.ref 58, .long (zl v), .null, .null]) (st := []) rfl ?_
  refine am_xrd 3 58 19 (pc := 13) (ls := [.ref 58, .long (zl v), .null, .int (zi (iv M1 58 18))]) (st := []) rfl ?_
  refine am_xn 2 (c1 := (if zi (iv M1 58 19) = zi (-1) then 17 else 31, [.ref 58, .long (zl v), .null, .int (zi (iv M1 58 18))], [], M1)) rfl (am_xeq (iv_r _ _ _) (by decide) (fun h => ?_) (fun h => ?_))
  · replace hv := hv.1 h
    refine am_xn 1 (c1 := (18, [.ref 58, .long (zl v), .null, .int (zi (iv M1 58 18))], [.ref 58], M1)) rfl ?_
    obtain ⟨r3, M2, hc, hv⟩ := hv
    refine am_xc t_Mo_readsLetters (.invokevirtual 177) 177 (av := [.ref 58]) (rest := []) (rv := some (.long (zl r3))) (M' := M2) rfl rfl rfl rfl (Nat.le_of_ble_eq_true rfl) (fun _ => rfl) (hc) ?_
    refine am_xn 0 (c1 := (21, [.ref 58, .long (zl v), .null, .int (zi (iv M1 58 18))], [.long (zl r3)], M2)) rfl ?_
    obtain ⟨r4, hv⟩ := hv
    obtain ⟨r5, hv⟩ := hv
    refine am_xlcmp 2 r3 v r4 r5 (pc := 23) (ls := [.ref 58, .long (zl v), .null, .int (zi (iv M1 58 18))]) (st := []) rfl ?_
    refine am_xn 1 (c1 := (if zi (zcmp r3 v) = zi 0 then 31 else 26, [.ref 58, .long (zl v), .null, .int (zi (iv M1 58 18))], [], M2)) rfl (am_xeq (zr_zcmp _ _) (by decide) (fun h => ?_) (fun h => ?_))
    · replace hv := hv.1 h
      exact am_xr none ⟨rfl, rfl, rfl⟩ hv
    · replace hv := hv.2 h
      refine am_xn 2 (c1 := (28, [.ref 58, .long (zl v), .null, .int (zi (iv M1 58 18))], [.int (zi (iv M1 58 18)), .ref 58], M2)) rfl ?_
      obtain ⟨M6, hc, hv⟩ := hv
      refine am_xc t_Mo_fails (.invokevirtual 181) 181 (av := [.ref 58, .int (zi (iv M1 58 18))]) (rest := []) (rv := none) (M' := M6) rfl rfl rfl rfl (Nat.le_of_ble_eq_true rfl) (fun _ => rfl) (hc) ?_
      refine am_xn 0 (c1 := (31, [.ref 58, .long (zl v), .null, .int (zi (iv M1 58 18))], [], M6)) rfl ?_
      exact am_xr none ⟨rfl, rfl, rfl⟩ hv
  · replace hv := hv.2 h
    exact am_xr none ⟨rfl, rfl, rfl⟩ hv
set_option maxRecDepth 100000 in
theorem vc_readsDigits (b : Int) (M : am_M) (Q : Option Value → am_M → Prop) (hv : am_x t_Mo_readsDigits (7, [.ref 58, .int (zi b), .int (zi (iv M 58 18)), .int (zi 0)], [], M) Q) : am_x t_Mo_readsDigits (0, am_ent (am_mL t_Mo_readsDigits) [.ref 58, .int (zi b)], [], M) Q := by
  refine am_xn 0 (c1 := (0, [.ref 58, .int (zi b), .null, .null], [], M)) rfl ?_
  refine am_xrd 2 58 18 (pc := 4) (ls := [.ref 58, .int (zi b), .null, .null]) (st := []) rfl ?_
  refine am_xn 3 (c1 := (7, [.ref 58, .int (zi b), .int (zi (iv M 58 18)), .int (zi 0)], [], M)) rfl ?_
  exact hv
set_option maxRecDepth 100000 in
theorem vc_readsDigits_7 (x1 : Int) (x2 : Int) (x3 : Int) (M : am_M) (Q : Option Value → am_M → Prop) (hv : (0 ≤ (iv M 58 18) ∧ (iv M 58 18) ≤ 1000 ∧ iv M 58 17 ≤ 120) ∧ ((isg (mtb M (iv M 58 18)) → (zr (x2 + 3)) ∧ (((iv M 58 18) < (x2 + 3) → (0 ≤ (iv M 58 18) ∧ (iv M 58 18) ≤ 1000 ∧ iv M 58 17 ≤ 120) ∧ (∀ M2, M2 = zup M 58 18 ((iv M 58 18) + 1) → am_x t_Mo_readsDigits (7, [.ref 58, .int (zi x1), .int (zi x2), .int (zi (((10 * x3) + (mtb M (iv M 58 18))) - 48))], [], M2) Q)) ∧ ((x2 + 3) ≤ (iv M 58 18) → (zr x2) ∧ (((iv M 58 18) = x2 → ∃ M4, am_call t_Mo_fails [.ref 58, .int (zi x2)] M none M4 ∧ ((0 ≤ (iv M4 58 18) ∧ (iv M4 58 18) ≤ 1000 ∧ iv M4 58 17 ≤ 120) ∧ ((isg (mtb M4 (iv M4 58 18)) → ∃ M5, am_call t_Mo_fails [.ref 58, .int (zi (iv M4 58 18))] M4 none M5 ∧ (Q (some (.int (zi x3))) M5)) ∧ (¬ (isg (mtb M4 (iv M4 58 18))) → Q (some (.int (zi x3))) M4)))) ∧ (¬ (iv M 58 18) = x2 → (zr x1) ∧ ((x1 = 0 → (0 ≤ (iv M 58 18) ∧ (iv M 58 18) ≤ 1000 ∧ iv M 58 17 ≤ 120) ∧ ((isg (mtb M (iv M 58 18)) → ∃ M8, am_call t_Mo_fails [.ref 58, .int (zi (iv M 58 18))] M none M8 ∧ (Q (some (.int (zi x3))) M8)) ∧ (¬ (isg (mtb M (iv M 58 18))) → Q (some (.int (zi x3))) M))) ∧ (¬ x1 = 0 → (zr x3) ∧ ((x3 = 0 → ∃ M11, am_call t_Mo_fails [.ref 58, .int (zi x2)] M none M11 ∧ ((0 ≤ (iv M11 58 18) ∧ (iv M11 58 18) ≤ 1000 ∧ iv M11 58 17 ≤ 120) ∧ ((isg (mtb M11 (iv M11 58 18)) → ∃ M12, am_call t_Mo_fails [.ref 58, .int (zi (iv M11 58 18))] M11 none M12 ∧ (Q (some (.int (zi x3))) M12)) ∧ (¬ (isg (mtb M11 (iv M11 58 18))) → Q (some (.int (zi x3))) M11)))) ∧ (¬ x3 = 0 → (0 ≤ (iv M 58 18) ∧ (iv M 58 18) ≤ 1000 ∧ iv M 58 17 ≤ 120) ∧ ((isg (mtb M (iv M 58 18)) → ∃ M14, am_call t_Mo_fails [.ref 58, .int (zi (iv M 58 18))] M none M14 ∧ (Q (some (.int (zi x3))) M14)) ∧ (¬ (isg (mtb M (iv M 58 18))) → Q (some (.int (zi x3))) M))))))))))) ∧ (¬ (isg (mtb M (iv M 58 18))) → (zr x2) ∧ (((iv M 58 18) = x2 → ∃ M17, am_call t_Mo_fails [.ref 58, .int (zi x2)] M none M17 ∧ ((0 ≤ (iv M17 58 18) ∧ (iv M17 58 18) ≤ 1000 ∧ iv M17 58 17 ≤ 120) ∧ ((isg (mtb M17 (iv M17 58 18)) → ∃ M18, am_call t_Mo_fails [.ref 58, .int (zi (iv M17 58 18))] M17 none M18 ∧ (Q (some (.int (zi x3))) M18)) ∧ (¬ (isg (mtb M17 (iv M17 58 18))) → Q (some (.int (zi x3))) M17)))) ∧ (¬ (iv M 58 18) = x2 → (zr x1) ∧ ((x1 = 0 → (0 ≤ (iv M 58 18) ∧ (iv M 58 18) ≤ 1000 ∧ iv M 58 17 ≤ 120) ∧ ((isg (mtb M (iv M 58 18)) → ∃ M21, am_call t_Mo_fails [.ref 58, .int (zi (iv M 58 18))] M none M21 ∧ (Q (some (.int (zi x3))) M21)) ∧ (¬ (isg (mtb M (iv M 58 18))) → Q (some (.int (zi x3))) M))) ∧ (¬ x1 = 0 → (zr x3) ∧ ((x3 = 0 → ∃ M24, am_call t_Mo_fails [.ref 58, .int (zi x2)] M none M24 ∧ ((0 ≤ (iv M24 58 18) ∧ (iv M24 58 18) ≤ 1000 ∧ iv M24 58 17 ≤ 120) ∧ ((isg (mtb M24 (iv M24 58 18)) → ∃ M25, am_call t_Mo_fails [.ref 58, .int (zi (iv M24 58 18))] M24 none M25 ∧ (Q (some (.int (zi x3))) M25)) ∧ (¬ (isg (mtb M24 (iv M24 58 18))) → Q (some (.int (zi x3))) M24)))) ∧ (¬ x3 = 0 → (0 ≤ (iv M 58 18) ∧ (iv M 58 18) ≤ 1000 ∧ iv M 58 17 ≤ 120) ∧ ((isg (mtb M (iv M 58 18)) → ∃ M27, am_call t_Mo_fails [.ref 58, .int (zi (iv M 58 18))] M none M27 ∧ (Q (some (.int (zi x3))) M27)) ∧ (¬ (isg (mtb M (iv M 58 18))) → Q (some (.int (zi x3))) M))))))))))) : am_x t_Mo_readsDigits (7, [.ref 58, .int (zi x1), .int (zi x2), .int (zi x3)], [], M) Q := by
  refine am_xrd 3 58 18 (pc := 12) (ls := [.ref 58, .int (zi x1), .int (zi x2), .int (zi x3)]) (st := [.ref 58]) rfl ?_
  obtain ⟨g, hv⟩ := hv
  by_cases c29 : isg (mtb M (iv M 58 18))
  · replace hv := hv.1 c29
    refine am_xc t_Mo_isDigit (.invokevirtual 185) 185 (av := [.ref 58, .int (zi (iv M 58 18))]) (rest := []) (rv := some (.int (zi 1))) (M' := M) rfl rfl rfl rfl (Nat.le_of_ble_eq_true rfl) (fun _ => rfl) (by have q := sp_isDigit M (iv M 58 18) g; rwa [if_pos c29] at q) ?_
    refine am_xn 0 (c1 := (15, [.ref 58, .int (zi x1), .int (zi x2), .int (zi x3)], [.int (zi 1)], M)) rfl ?_
    refine am_xrd 3 58 18 (pc := 22) (ls := [.ref 58, .int (zi x1), .int (zi x2), .int (zi x3)]) (st := []) rfl ?_
    refine am_xiadd 3 x2 3 (pc := 25) (ls := [.ref 58, .int (zi x1), .int (zi x2), .int (zi x3)]) (st := [.int (zi (iv M 58 18))]) rfl ?_
    obtain ⟨r1, hv⟩ := hv
    refine am_xn 1 (c1 := (if zi (iv M 58 18) < zi (x2 + 3) then 28 else 58, [.ref 58, .int (zi x1), .int (zi x2), .int (zi x3)], [], M)) rfl (am_xlt (iv_r _ _ _) r1 (fun h => ?_) (fun h => ?_))
    · replace hv := hv.1 h
      refine am_ximul 3 10 x3 (pc := 32) (ls := [.ref 58, .int (zi x1), .int (zi x2), .int (zi x3)]) (st := []) rfl ?_
      refine am_xrd 3 58 18 (pc := 37) (ls := [.ref 58, .int (zi x1), .int (zi x2), .int (zi x3)]) (st := [.ref 58, .int (zi (10 * x3))]) rfl ?_
      obtain ⟨g, hv⟩ := hv
      refine am_xc t_Mo_byteAt (.invokevirtual 152) 152 (av := [.ref 58, .int (zi (iv M 58 18))]) (rest := [.int (zi (10 * x3))]) (rv := some (.int (zi (mtb M (iv M 58 18))))) (M' := M) rfl rfl rfl rfl (Nat.le_of_ble_eq_true rfl) (fun _ => rfl) (sp_m_byteAt M (iv M 58 18) g) ?_
      refine am_xn 0 (c1 := (40, [.ref 58, .int (zi x1), .int (zi x2), .int (zi x3)], [.int (zi (mtb M (iv M 58 18))), .int (zi (10 * x3))], M)) rfl ?_
      refine am_xiadd 1 (10 * x3) (mtb M (iv M 58 18)) (pc := 41) (ls := [.ref 58, .int (zi x1), .int (zi x2), .int (zi x3)]) (st := []) rfl ?_
      refine am_xisub 2 ((10 * x3) + (mtb M (iv M 58 18))) 48 (pc := 44) (ls := [.ref 58, .int (zi x1), .int (zi x2), .int (zi x3)]) (st := []) rfl ?_
      refine am_xrd 4 58 18 (pc := 50) (ls := [.ref 58, .int (zi x1), .int (zi x2), .int (zi (((10 * x3) + (mtb M (iv M 58 18))) - 48))]) (st := [.ref 58]) rfl ?_
      refine am_xiadd 2 (iv M 58 18) 1 (pc := 52) (ls := [.ref 58, .int (zi x1), .int (zi x2), .int (zi (((10 * x3) + (mtb M (iv M 58 18))) - 48))]) (st := [.ref 58]) rfl ?_
      refine am_xn 1 (c1 := (55, [.ref 58, .int (zi x1), .int (zi x2), .int (zi (((10 * x3) + (mtb M (iv M 58 18))) - 48))], [], zup M 58 18 ((iv M 58 18) + 1))) rfl ?_
      obtain ⟨M2, eM2⟩ : ∃ m, m = zup M 58 18 ((iv M 58 18) + 1) := ⟨_, rfl⟩
      replace hv := hv M2 eM2
      rw [← eM2]
      refine am_xn 1 (c1 := (7, [.ref 58, .int (zi x1), .int (zi x2), .int (zi (((10 * x3) + (mtb M (iv M 58 18))) - 48))], [], M2)) rfl ?_
      exact hv
    · replace hv := hv.2 h
      refine am_xrd 2 58 18 (pc := 62) (ls := [.ref 58, .int (zi x1), .int (zi x2), .int (zi x3)]) (st := []) rfl ?_
      obtain ⟨r3, hv⟩ := hv
      refine am_xn 2 (c1 := (if zi (iv M 58 18) = zi x2 then 74 else 66, [.ref 58, .int (zi x1), .int (zi x2), .int (zi x3)], [], M)) rfl (am_xeq (iv_r _ _ _) r3 (fun h => ?_) (fun h => ?_))
      · replace hv := hv.1 h
        refine am_xn 2 (c1 := (76, [.ref 58, .int (zi x1), .int (zi x2), .int (zi x3)], [.int (zi x2), .ref 58], M)) rfl ?_
        obtain ⟨M4, hc, hv⟩ := hv
        refine am_xc t_Mo_fails (.invokevirtual 181) 181 (av := [.ref 58, .int (zi x2)]) (rest := []) (rv := none) (M' := M4) rfl rfl rfl rfl (Nat.le_of_ble_eq_true rfl) (fun _ => rfl) (hc) ?_
        refine am_xn 0 (c1 := (79, [.ref 58, .int (zi x1), .int (zi x2), .int (zi x3)], [], M4)) rfl ?_
        refine am_xrd 3 58 18 (pc := 84) (ls := [.ref 58, .int (zi x1), .int (zi x2), .int (zi x3)]) (st := [.ref 58]) rfl ?_
        obtain ⟨g, hv⟩ := hv
        by_cases c6 : isg (mtb M4 (iv M4 58 18))
        · replace hv := hv.1 c6
          refine am_xc t_Mo_isDigit (.invokevirtual 185) 185 (av := [.ref 58, .int (zi (iv M4 58 18))]) (rest := []) (rv := some (.int (zi 1))) (M' := M4) rfl rfl rfl rfl (Nat.le_of_ble_eq_true rfl) (fun _ => rfl) (by have q := sp_isDigit M4 (iv M4 58 18) g; rwa [if_pos c6] at q) ?_
          refine am_xn 0 (c1 := (87, [.ref 58, .int (zi x1), .int (zi x2), .int (zi x3)], [.int (zi 1)], M4)) rfl ?_
          refine am_xrd 4 58 18 (pc := 95) (ls := [.ref 58, .int (zi x1), .int (zi x2), .int (zi x3)]) (st := [.ref 58]) rfl ?_
          obtain ⟨M5, hc, hv⟩ := hv
          refine am_xc t_Mo_fails (.invokevirtual 181) 181 (av := [.ref 58, .int (zi (iv M4 58 18))]) (rest := []) (rv := none) (M' := M5) rfl rfl rfl rfl (Nat.le_of_ble_eq_true rfl) (fun _ => rfl) (hc) ?_
          refine am_xn 0 (c1 := (98, [.ref 58, .int (zi x1), .int (zi x2), .int (zi x3)], [], M5)) rfl ?_
          refine am_xn 1 (c1 := (99, [.ref 58, .int (zi x1), .int (zi x2), .int (zi x3)], [.int (zi x3)], M5)) rfl ?_
          exact am_xr (some (.int (zi x3))) ⟨rfl, rfl, .int, rfl, rfl⟩ hv
        · replace hv := hv.2 c6
          refine am_xc t_Mo_isDigit (.invokevirtual 185) 185 (av := [.ref 58, .int (zi (iv M4 58 18))]) (rest := []) (rv := some (.int (zi 0))) (M' := M4) rfl rfl rfl rfl (Nat.le_of_ble_eq_true rfl) (fun _ => rfl) (by have q := sp_isDigit M4 (iv M4 58 18) g; rwa [if_neg c6] at q) ?_
          refine am_xn 0 (c1 := (87, [.ref 58, .int (zi x1), .int (zi x2), .int (zi x3)], [.int (zi 0)], M4)) rfl ?_
          refine am_xn 2 (c1 := (99, [.ref 58, .int (zi x1), .int (zi x2), .int (zi x3)], [.int (zi x3)], M4)) rfl ?_
          exact am_xr (some (.int (zi x3))) ⟨rfl, rfl, .int, rfl, rfl⟩ hv
      · replace hv := hv.2 h
        obtain ⟨r7, hv⟩ := hv
        refine am_xn 2 (c1 := (if zi x1 = zi 0 then 79 else 70, [.ref 58, .int (zi x1), .int (zi x2), .int (zi x3)], [], M)) rfl (am_xeq r7 (by decide) (fun h => ?_) (fun h => ?_))
        · replace hv := hv.1 h
          refine am_xrd 3 58 18 (pc := 84) (ls := [.ref 58, .int (zi x1), .int (zi x2), .int (zi x3)]) (st := [.ref 58]) rfl ?_
          obtain ⟨g, hv⟩ := hv
          by_cases c9 : isg (mtb M (iv M 58 18))
          · replace hv := hv.1 c9
            refine am_xc t_Mo_isDigit (.invokevirtual 185) 185 (av := [.ref 58, .int (zi (iv M 58 18))]) (rest := []) (rv := some (.int (zi 1))) (M' := M) rfl rfl rfl rfl (Nat.le_of_ble_eq_true rfl) (fun _ => rfl) (by have q := sp_isDigit M (iv M 58 18) g; rwa [if_pos c9] at q) ?_
            refine am_xn 0 (c1 := (87, [.ref 58, .int (zi x1), .int (zi x2), .int (zi x3)], [.int (zi 1)], M)) rfl ?_
            refine am_xrd 4 58 18 (pc := 95) (ls := [.ref 58, .int (zi x1), .int (zi x2), .int (zi x3)]) (st := [.ref 58]) rfl ?_
            obtain ⟨M8, hc, hv⟩ := hv
            refine am_xc t_Mo_fails (.invokevirtual 181) 181 (av := [.ref 58, .int (zi (iv M 58 18))]) (rest := []) (rv := none) (M' := M8) rfl rfl rfl rfl (Nat.le_of_ble_eq_true rfl) (fun _ => rfl) (hc) ?_
            refine am_xn 0 (c1 := (98, [.ref 58, .int (zi x1), .int (zi x2), .int (zi x3)], [], M8)) rfl ?_
            refine am_xn 1 (c1 := (99, [.ref 58, .int (zi x1), .int (zi x2), .int (zi x3)], [.int (zi x3)], M8)) rfl ?_
            exact am_xr (some (.int (zi x3))) ⟨rfl, rfl, .int, rfl, rfl⟩ hv
          · replace hv := hv.2 c9
            refine am_xc t_Mo_isDigit (.invokevirtual 185) 185 (av := [.ref 58, .int (zi (iv M 58 18))]) (rest := []) (rv := some (.int (zi 0))) (M' := M) rfl rfl rfl rfl (Nat.le_of_ble_eq_true rfl) (fun _ => rfl) (by have q := sp_isDigit M (iv M 58 18) g; rwa [if_neg c9] at q) ?_
            refine am_xn 0 (c1 := (87, [.ref 58, .int (zi x1), .int (zi x2), .int (zi x3)], [.int (zi 0)], M)) rfl ?_
            refine am_xn 2 (c1 := (99, [.ref 58, .int (zi x1), .int (zi x2), .int (zi x3)], [.int (zi x3)], M)) rfl ?_
            exact am_xr (some (.int (zi x3))) ⟨rfl, rfl, .int, rfl, rfl⟩ hv
        · replace hv := hv.2 h
          obtain ⟨r10, hv⟩ := hv
          refine am_xn 2 (c1 := (if zi x3 = zi 0 then 74 else 79, [.ref 58, .int (zi x1), .int (zi x2), .int (zi x3)], [], M)) rfl (am_xeq r10 (by decide) (fun h => ?_) (fun h => ?_))
          · replace hv := hv.1 h
            refine am_xn 2 (c1 := (76, [.ref 58, .int (zi x1), .int (zi x2), .int (zi x3)], [.int (zi x2), .ref 58], M)) rfl ?_
            obtain ⟨M11, hc, hv⟩ := hv
            refine am_xc t_Mo_fails (.invokevirtual 181) 181 (av := [.ref 58, .int (zi x2)]) (rest := []) (rv := none) (M' := M11) rfl rfl rfl rfl (Nat.le_of_ble_eq_true rfl) (fun _ => rfl) (hc) ?_
            refine am_xn 0 (c1 := (79, [.ref 58, .int (zi x1), .int (zi x2), .int (zi x3)], [], M11)) rfl ?_
            refine am_xrd 3 58 18 (pc := 84) (ls := [.ref 58, .int (zi x1), .int (zi x2), .int (zi x3)]) (st := [.ref 58]) rfl ?_
            obtain ⟨g, hv⟩ := hv
            by_cases c13 : isg (mtb M11 (iv M11 58 18))
            · replace hv := hv.1 c13
              refine am_xc t_Mo_isDigit (.invokevirtual 185) 185 (av := [.ref 58, .int (zi (iv M11 58 18))]) (rest := []) (rv := some (.int (zi 1))) (M' := M11) rfl rfl rfl rfl (Nat.le_of_ble_eq_true rfl) (fun _ => rfl) (by have q := sp_isDigit M11 (iv M11 58 18) g; rwa [if_pos c13] at q) ?_
              refine am_xn 0 (c1 := (87, [.ref 58, .int (zi x1), .int (zi x2), .int (zi x3)], [.int (zi 1)], M11)) rfl ?_
              refine am_xrd 4 58 18 (pc := 95) (ls := [.ref 58, .int (zi x1), .int (zi x2), .int (zi x3)]) (st := [.ref 58]) rfl ?_
              obtain ⟨M12, hc, hv⟩ := hv
              refine am_xc t_Mo_fails (.invokevirtual 181) 181 (av := [.ref 58, .int (zi (iv M11 58 18))]) (rest := []) (rv := none) (M' := M12) rfl rfl rfl rfl (Nat.le_of_ble_eq_true rfl) (fun _ => rfl) (hc) ?_
              refine am_xn 0 (c1 := (98, [.ref 58, .int (zi x1), .int (zi x2), .int (zi x3)], [], M12)) rfl ?_
              refine am_xn 1 (c1 := (99, [.ref 58, .int (zi x1), .int (zi x2), .int (zi x3)], [.int (zi x3)], M12)) rfl ?_
              exact am_xr (some (.int (zi x3))) ⟨rfl, rfl, .int, rfl, rfl⟩ hv
            · replace hv := hv.2 c13
              refine am_xc t_Mo_isDigit (.invokevirtual 185) 185 (av := [.ref 58, .int (zi (iv M11 58 18))]) (rest := []) (rv := some (.int (zi 0))) (M' := M11) rfl rfl rfl rfl (Nat.le_of_ble_eq_true rfl) (fun _ => rfl) (by have q := sp_isDigit M11 (iv M11 58 18) g; rwa [if_neg c13] at q) ?_
              refine am_xn 0 (c1 := (87, [.ref 58, .int (zi x1), .int (zi x2), .int (zi x3)], [.int (zi 0)], M11)) rfl ?_
              refine am_xn 2 (c1 := (99, [.ref 58, .int (zi x1), .int (zi x2), .int (zi x3)], [.int (zi x3)], M11)) rfl ?_
              exact am_xr (some (.int (zi x3))) ⟨rfl, rfl, .int, rfl, rfl⟩ hv
          · replace hv := hv.2 h
            refine am_xrd 3 58 18 (pc := 84) (ls := [.ref 58, .int (zi x1), .int (zi x2), .int (zi x3)]) (st := [.ref 58]) rfl ?_
            obtain ⟨g, hv⟩ := hv
            by_cases c15 : isg (mtb M (iv M 58 18))
            · replace hv := hv.1 c15
              refine am_xc t_Mo_isDigit (.invokevirtual 185) 185 (av := [.ref 58, .int (zi (iv M 58 18))]) (rest := []) (rv := some (.int (zi 1))) (M' := M) rfl rfl rfl rfl (Nat.le_of_ble_eq_true rfl) (fun _ => rfl) (by have q := sp_isDigit M (iv M 58 18) g; rwa [if_pos c15] at q) ?_
              refine am_xn 0 (c1 := (87, [.ref 58, .int (zi x1), .int (zi x2), .int (zi x3)], [.int (zi 1)], M)) rfl ?_
              refine am_xrd 4 58 18 (pc := 95) (ls := [.ref 58, .int (zi x1), .int (zi x2), .int (zi x3)]) (st := [.ref 58]) rfl ?_
              obtain ⟨M14, hc, hv⟩ := hv
              refine am_xc t_Mo_fails (.invokevirtual 181) 181 (av := [.ref 58, .int (zi (iv M 58 18))]) (rest := []) (rv := none) (M' := M14) rfl rfl rfl rfl (Nat.le_of_ble_eq_true rfl) (fun _ => rfl) (hc) ?_
              refine am_xn 0 (c1 := (98, [.ref 58, .int (zi x1), .int (zi x2), .int (zi x3)], [], M14)) rfl ?_
              refine am_xn 1 (c1 := (99, [.ref 58, .int (zi x1), .int (zi x2), .int (zi x3)], [.int (zi x3)], M14)) rfl ?_
              exact am_xr (some (.int (zi x3))) ⟨rfl, rfl, .int, rfl, rfl⟩ hv
            · replace hv := hv.2 c15
              refine am_xc t_Mo_isDigit (.invokevirtual 185) 185 (av := [.ref 58, .int (zi (iv M 58 18))]) (rest := []) (rv := some (.int (zi 0))) (M' := M) rfl rfl rfl rfl (Nat.le_of_ble_eq_true rfl) (fun _ => rfl) (by have q := sp_isDigit M (iv M 58 18) g; rwa [if_neg c15] at q) ?_
              refine am_xn 0 (c1 := (87, [.ref 58, .int (zi x1), .int (zi x2), .int (zi x3)], [.int (zi 0)], M)) rfl ?_
              refine am_xn 2 (c1 := (99, [.ref 58, .int (zi x1), .int (zi x2), .int (zi x3)], [.int (zi x3)], M)) rfl ?_
              exact am_xr (some (.int (zi x3))) ⟨rfl, rfl, .int, rfl, rfl⟩ hv
  · replace hv := hv.2 c29
    refine am_xc t_Mo_isDigit (.invokevirtual 185) 185 (av := [.ref 58, .int (zi (iv M 58 18))]) (rest := []) (rv := some (.int (zi 0))) (M' := M) rfl rfl rfl rfl (Nat.le_of_ble_eq_true rfl) (fun _ => rfl) (by have q := sp_isDigit M (iv M 58 18) g; rwa [if_neg c29] at q) ?_
    refine am_xn 0 (c1 := (15, [.ref 58, .int (zi x1), .int (zi x2), .int (zi x3)], [.int (zi 0)], M)) rfl ?_
    refine am_xrd 3 58 18 (pc := 62) (ls := [.ref 58, .int (zi x1), .int (zi x2), .int (zi x3)]) (st := []) rfl ?_
    obtain ⟨r16, hv⟩ := hv
    refine am_xn 2 (c1 := (if zi (iv M 58 18) = zi x2 then 74 else 66, [.ref 58, .int (zi x1), .int (zi x2), .int (zi x3)], [], M)) rfl (am_xeq (iv_r _ _ _) r16 (fun h => ?_) (fun h => ?_))
    · replace hv := hv.1 h
      refine am_xn 2 (c1 := (76, [.ref 58, .int (zi x1), .int (zi x2), .int (zi x3)], [.int (zi x2), .ref 58], M)) rfl ?_
      obtain ⟨M17, hc, hv⟩ := hv
      refine am_xc t_Mo_fails (.invokevirtual 181) 181 (av := [.ref 58, .int (zi x2)]) (rest := []) (rv := none) (M' := M17) rfl rfl rfl rfl (Nat.le_of_ble_eq_true rfl) (fun _ => rfl) (hc) ?_
      refine am_xn 0 (c1 := (79, [.ref 58, .int (zi x1), .int (zi x2), .int (zi x3)], [], M17)) rfl ?_
      refine am_xrd 3 58 18 (pc := 84) (ls := [.ref 58, .int (zi x1), .int (zi x2), .int (zi x3)]) (st := [.ref 58]) rfl ?_
      obtain ⟨g, hv⟩ := hv
      by_cases c19 : isg (mtb M17 (iv M17 58 18))
      · replace hv := hv.1 c19
        refine am_xc t_Mo_isDigit (.invokevirtual 185) 185 (av := [.ref 58, .int (zi (iv M17 58 18))]) (rest := []) (rv := some (.int (zi 1))) (M' := M17) rfl rfl rfl rfl (Nat.le_of_ble_eq_true rfl) (fun _ => rfl) (by have q := sp_isDigit M17 (iv M17 58 18) g; rwa [if_pos c19] at q) ?_
        refine am_xn 0 (c1 := (87, [.ref 58, .int (zi x1), .int (zi x2), .int (zi x3)], [.int (zi 1)], M17)) rfl ?_
        refine am_xrd 4 58 18 (pc := 95) (ls := [.ref 58, .int (zi x1), .int (zi x2), .int (zi x3)]) (st := [.ref 58]) rfl ?_
        obtain ⟨M18, hc, hv⟩ := hv
        refine am_xc t_Mo_fails (.invokevirtual 181) 181 (av := [.ref 58, .int (zi (iv M17 58 18))]) (rest := []) (rv := none) (M' := M18) rfl rfl rfl rfl (Nat.le_of_ble_eq_true rfl) (fun _ => rfl) (hc) ?_
        refine am_xn 0 (c1 := (98, [.ref 58, .int (zi x1), .int (zi x2), .int (zi x3)], [], M18)) rfl ?_
        refine am_xn 1 (c1 := (99, [.ref 58, .int (zi x1), .int (zi x2), .int (zi x3)], [.int (zi x3)], M18)) rfl ?_
        exact am_xr (some (.int (zi x3))) ⟨rfl, rfl, .int, rfl, rfl⟩ hv
      · replace hv := hv.2 c19
        refine am_xc t_Mo_isDigit (.invokevirtual 185) 185 (av := [.ref 58, .int (zi (iv M17 58 18))]) (rest := []) (rv := some (.int (zi 0))) (M' := M17) rfl rfl rfl rfl (Nat.le_of_ble_eq_true rfl) (fun _ => rfl) (by have q := sp_isDigit M17 (iv M17 58 18) g; rwa [if_neg c19] at q) ?_
        refine am_xn 0 (c1 := (87, [.ref 58, .int (zi x1), .int (zi x2), .int (zi x3)], [.int (zi 0)], M17)) rfl ?_
        refine am_xn 2 (c1 := (99, [.ref 58, .int (zi x1), .int (zi x2), .int (zi x3)], [.int (zi x3)], M17)) rfl ?_
        exact am_xr (some (.int (zi x3))) ⟨rfl, rfl, .int, rfl, rfl⟩ hv
    · replace hv := hv.2 h
      obtain ⟨r20, hv⟩ := hv
      refine am_xn 2 (c1 := (if zi x1 = zi 0 then 79 else 70, [.ref 58, .int (zi x1), .int (zi x2), .int (zi x3)], [], M)) rfl (am_xeq r20 (by decide) (fun h => ?_) (fun h => ?_))
      · replace hv := hv.1 h
        refine am_xrd 3 58 18 (pc := 84) (ls := [.ref 58, .int (zi x1), .int (zi x2), .int (zi x3)]) (st := [.ref 58]) rfl ?_
        obtain ⟨g, hv⟩ := hv
        by_cases c22 : isg (mtb M (iv M 58 18))
        · replace hv := hv.1 c22
          refine am_xc t_Mo_isDigit (.invokevirtual 185) 185 (av := [.ref 58, .int (zi (iv M 58 18))]) (rest := []) (rv := some (.int (zi 1))) (M' := M) rfl rfl rfl rfl (Nat.le_of_ble_eq_true rfl) (fun _ => rfl) (by have q := sp_isDigit M (iv M 58 18) g; rwa [if_pos c22] at q) ?_
          refine am_xn 0 (c1 := (87, [.ref 58, .int (zi x1), .int (zi x2), .int (zi x3)], [.int (zi 1)], M)) rfl ?_
          refine am_xrd 4 58 18 (pc := 95) (ls := [.ref 58, .int (zi x1), .int (zi x2), .int (zi x3)]) (st := [.ref 58]) rfl ?_
          obtain ⟨M21, hc, hv⟩ := hv
          refine am_xc t_Mo_fails (.invokevirtual 181) 181 (av := [.ref 58, .int (zi (iv M 58 18))]) (rest := []) (rv := none) (M' := M21) rfl rfl rfl rfl (Nat.le_of_ble_eq_true rfl) (fun _ => rfl) (hc) ?_
          refine am_xn 0 (c1 := (98, [.ref 58, .int (zi x1), .int (zi x2), .int (zi x3)], [], M21)) rfl ?_
          refine am_xn 1 (c1 := (99, [.ref 58, .int (zi x1), .int (zi x2), .int (zi x3)], [.int (zi x3)], M21)) rfl ?_
          exact am_xr (some (.int (zi x3))) ⟨rfl, rfl, .int, rfl, rfl⟩ hv
        · replace hv := hv.2 c22
          refine am_xc t_Mo_isDigit (.invokevirtual 185) 185 (av := [.ref 58, .int (zi (iv M 58 18))]) (rest := []) (rv := some (.int (zi 0))) (M' := M) rfl rfl rfl rfl (Nat.le_of_ble_eq_true rfl) (fun _ => rfl) (by have q := sp_isDigit M (iv M 58 18) g; rwa [if_neg c22] at q) ?_
          refine am_xn 0 (c1 := (87, [.ref 58, .int (zi x1), .int (zi x2), .int (zi x3)], [.int (zi 0)], M)) rfl ?_
          refine am_xn 2 (c1 := (99, [.ref 58, .int (zi x1), .int (zi x2), .int (zi x3)], [.int (zi x3)], M)) rfl ?_
          exact am_xr (some (.int (zi x3))) ⟨rfl, rfl, .int, rfl, rfl⟩ hv
      · replace hv := hv.2 h
        obtain ⟨r23, hv⟩ := hv
        refine am_xn 2 (c1 := (if zi x3 = zi 0 then 74 else 79, [.ref 58, .int (zi x1), .int (zi x2), .int (zi x3)], [], M)) rfl (am_xeq r23 (by decide) (fun h => ?_) (fun h => ?_))
        · replace hv := hv.1 h
          refine am_xn 2 (c1 := (76, [.ref 58, .int (zi x1), .int (zi x2), .int (zi x3)], [.int (zi x2), .ref 58], M)) rfl ?_
          obtain ⟨M24, hc, hv⟩ := hv
          refine am_xc t_Mo_fails (.invokevirtual 181) 181 (av := [.ref 58, .int (zi x2)]) (rest := []) (rv := none) (M' := M24) rfl rfl rfl rfl (Nat.le_of_ble_eq_true rfl) (fun _ => rfl) (hc) ?_
          refine am_xn 0 (c1 := (79, [.ref 58, .int (zi x1), .int (zi x2), .int (zi x3)], [], M24)) rfl ?_
          refine am_xrd 3 58 18 (pc := 84) (ls := [.ref 58, .int (zi x1), .int (zi x2), .int (zi x3)]) (st := [.ref 58]) rfl ?_
          obtain ⟨g, hv⟩ := hv
          by_cases c26 : isg (mtb M24 (iv M24 58 18))
          · replace hv := hv.1 c26
            refine am_xc t_Mo_isDigit (.invokevirtual 185) 185 (av := [.ref 58, .int (zi (iv M24 58 18))]) (rest := []) (rv := some (.int (zi 1))) (M' := M24) rfl rfl rfl rfl (Nat.le_of_ble_eq_true rfl) (fun _ => rfl) (by have q := sp_isDigit M24 (iv M24 58 18) g; rwa [if_pos c26] at q) ?_
            refine am_xn 0 (c1 := (87, [.ref 58, .int (zi x1), .int (zi x2), .int (zi x3)], [.int (zi 1)], M24)) rfl ?_
            refine am_xrd 4 58 18 (pc := 95) (ls := [.ref 58, .int (zi x1), .int (zi x2), .int (zi x3)]) (st := [.ref 58]) rfl ?_
            obtain ⟨M25, hc, hv⟩ := hv
            refine am_xc t_Mo_fails (.invokevirtual 181) 181 (av := [.ref 58, .int (zi (iv M24 58 18))]) (rest := []) (rv := none) (M' := M25) rfl rfl rfl rfl (Nat.le_of_ble_eq_true rfl) (fun _ => rfl) (hc) ?_
            refine am_xn 0 (c1 := (98, [.ref 58, .int (zi x1), .int (zi x2), .int (zi x3)], [], M25)) rfl ?_
            refine am_xn 1 (c1 := (99, [.ref 58, .int (zi x1), .int (zi x2), .int (zi x3)], [.int (zi x3)], M25)) rfl ?_
            exact am_xr (some (.int (zi x3))) ⟨rfl, rfl, .int, rfl, rfl⟩ hv
          · replace hv := hv.2 c26
            refine am_xc t_Mo_isDigit (.invokevirtual 185) 185 (av := [.ref 58, .int (zi (iv M24 58 18))]) (rest := []) (rv := some (.int (zi 0))) (M' := M24) rfl rfl rfl rfl (Nat.le_of_ble_eq_true rfl) (fun _ => rfl) (by have q := sp_isDigit M24 (iv M24 58 18) g; rwa [if_neg c26] at q) ?_
            refine am_xn 0 (c1 := (87, [.ref 58, .int (zi x1), .int (zi x2), .int (zi x3)], [.int (zi 0)], M24)) rfl ?_
            refine am_xn 2 (c1 := (99, [.ref 58, .int (zi x1), .int (zi x2), .int (zi x3)], [.int (zi x3)], M24)) rfl ?_
            exact am_xr (some (.int (zi x3))) ⟨rfl, rfl, .int, rfl, rfl⟩ hv
        · replace hv := hv.2 h
          refine am_xrd 3 58 18 (pc := 84) (ls := [.ref 58, .int (zi x1), .int (zi x2), .int (zi x3)]) (st := [.ref 58]) rfl ?_
          obtain ⟨g, hv⟩ := hv
          by_cases c28 : isg (mtb M (iv M 58 18))
          · replace hv := hv.1 c28
            refine am_xc t_Mo_isDigit (.invokevirtual 185) 185 (av := [.ref 58, .int (zi (iv M 58 18))]) (rest := []) (rv := some (.int (zi 1))) (M' := M) rfl rfl rfl rfl (Nat.le_of_ble_eq_true rfl) (fun _ => rfl) (by have q := sp_isDigit M (iv M 58 18) g; rwa [if_pos c28] at q) ?_
            refine am_xn 0 (c1 := (87, [.ref 58, .int (zi x1), .int (zi x2), .int (zi x3)], [.int (zi 1)], M)) rfl ?_
            refine am_xrd 4 58 18 (pc := 95) (ls := [.ref 58, .int (zi x1), .int (zi x2), .int (zi x3)]) (st := [.ref 58]) rfl ?_
            obtain ⟨M27, hc, hv⟩ := hv
            refine am_xc t_Mo_fails (.invokevirtual 181) 181 (av := [.ref 58, .int (zi (iv M 58 18))]) (rest := []) (rv := none) (M' := M27) rfl rfl rfl rfl (Nat.le_of_ble_eq_true rfl) (fun _ => rfl) (hc) ?_
            refine am_xn 0 (c1 := (98, [.ref 58, .int (zi x1), .int (zi x2), .int (zi x3)], [], M27)) rfl ?_
            refine am_xn 1 (c1 := (99, [.ref 58, .int (zi x1), .int (zi x2), .int (zi x3)], [.int (zi x3)], M27)) rfl ?_
            exact am_xr (some (.int (zi x3))) ⟨rfl, rfl, .int, rfl, rfl⟩ hv
          · replace hv := hv.2 c28
            refine am_xc t_Mo_isDigit (.invokevirtual 185) 185 (av := [.ref 58, .int (zi (iv M 58 18))]) (rest := []) (rv := some (.int (zi 0))) (M' := M) rfl rfl rfl rfl (Nat.le_of_ble_eq_true rfl) (fun _ => rfl) (by have q := sp_isDigit M (iv M 58 18) g; rwa [if_neg c28] at q) ?_
            refine am_xn 0 (c1 := (87, [.ref 58, .int (zi x1), .int (zi x2), .int (zi x3)], [.int (zi 0)], M)) rfl ?_
            refine am_xn 2 (c1 := (99, [.ref 58, .int (zi x1), .int (zi x2), .int (zi x3)], [.int (zi x3)], M)) rfl ?_
            exact am_xr (some (.int (zi x3))) ⟨rfl, rfl, .int, rfl, rfl⟩ hv
set_option maxRecDepth 100000 in
theorem vc_letter  (M : am_M) (Q : Option Value → am_M → Prop) (hv : (0 ≤ (iv M 58 18) ∧ (iv M 58 18) ≤ 1000 ∧ iv M 58 17 ≤ 120) ∧ ((zr (mtb M (iv M 58 18)) ∧ zr (65 : Int) ∧ zr (90 : Int)) ∧ ((65 ≤ (mtb M (iv M 58 18)) ∧ (mtb M (iv M 58 18)) ≤ 90 → ∀ M1, M1 = zup M 58 18 ((iv M 58 18) + 1) → (0 ≤ ((iv M1 58 18) - 1) ∧ ((iv M1 58 18) - 1) < 120) ∧ (Q (some (.int (zi (((iv M1 73 ((iv M1 58 18) - 1)) - 65) + 1)))) M1)) ∧ (¬ (65 ≤ (mtb M (iv M 58 18)) ∧ (mtb M (iv M 58 18)) ≤ 90) → Q (some (.int (zi 0))) M)))) : am_x t_Mo_letter (0, am_ent (am_mL t_Mo_letter) [.ref 58], [], M) Q := by
  refine am_xn 0 (c1 := (0, [.ref 58], [], M)) rfl ?_
  refine am_xrd 3 58 18 (pc := 5) (ls := [.ref 58]) (st := [.ref 58]) rfl ?_
  obtain ⟨g, hv⟩ := hv
  refine am_xc t_Mo_byteAt (.invokevirtual 152) 152 (av := [.ref 58, .int (zi (iv M 58 18))]) (rest := []) (rv := some (.int (zi (mtb M (iv M 58 18))))) (M' := M) rfl rfl rfl rfl (Nat.le_of_ble_eq_true rfl) (fun _ => rfl) (sp_m_byteAt M (iv M 58 18) g) ?_
  refine am_xn 0 (c1 := (8, [.ref 58], [.int (zi (mtb M (iv M 58 18)))], M)) rfl ?_
  refine am_xn 2 (c1 := (12, [.ref 58], [.int (zi 90), .int (zi 65), .int (zi (mtb M (iv M 58 18)))], M)) rfl ?_
  obtain ⟨g, hv⟩ := hv
  by_cases c3 : 65 ≤ (mtb M (iv M 58 18)) ∧ (mtb M (iv M 58 18)) ≤ 90
  · replace hv := hv.1 c3
    refine am_xc t_Mo_in (.invokestatic 76) 76 (av := [.int (zi (mtb M (iv M 58 18))), .int (zi 65), .int (zi 90)]) (rest := []) (rv := some (.int (zi 1))) (M' := M) rfl rfl rfl rfl (Nat.le_of_ble_eq_true rfl) (fun h => nomatch h) (by have q := sp_in M (mtb M (iv M 58 18)) 65 90 g; rwa [if_pos c3] at q) ?_
    refine am_xn 0 (c1 := (15, [.ref 58], [.int (zi 1)], M)) rfl ?_
    refine am_xrd 4 58 18 (pc := 23) (ls := [.ref 58]) (st := [.ref 58]) rfl ?_
    refine am_xiadd 2 (iv M 58 18) 1 (pc := 25) (ls := [.ref 58]) (st := [.ref 58]) rfl ?_
    refine am_xn 1 (c1 := (28, [.ref 58], [], zup M 58 18 ((iv M 58 18) + 1))) rfl ?_
    obtain ⟨M1, eM1⟩ : ∃ m, m = zup M 58 18 ((iv M 58 18) + 1) := ⟨_, rfl⟩
    replace hv := hv M1 eM1
    rw [← eM1]
    refine am_xrd 4 58 18 (pc := 36) (ls := [.ref 58]) (st := [.ref 73]) rfl ?_
    refine am_xisub 2 (iv M1 58 18) 1 (pc := 38) (ls := [.ref 58]) (st := [.ref 73]) rfl ?_
    obtain ⟨r2, hv⟩ := hv
    refine am_xald rfl rfl rfl r2 ?_
    refine am_xn 0 (c1 := (39, [.ref 58], [.int (zi (iv M1 73 ((iv M1 58 18) - 1)))], M1)) rfl ?_
    refine am_xisub 2 (iv M1 73 ((iv M1 58 18) - 1)) 65 (pc := 42) (ls := [.ref 58]) (st := []) rfl ?_
    refine am_xiadd 2 ((iv M1 73 ((iv M1 58 18) - 1)) - 65) 1 (pc := 44) (ls := [.ref 58]) (st := []) rfl ?_
    exact am_xr (some (.int (zi (((iv M1 73 ((iv M1 58 18) - 1)) - 65) + 1)))) ⟨rfl, rfl, .int, rfl, rfl⟩ hv
  · replace hv := hv.2 c3
    refine am_xc t_Mo_in (.invokestatic 76) 76 (av := [.int (zi (mtb M (iv M 58 18))), .int (zi 65), .int (zi 90)]) (rest := []) (rv := some (.int (zi 0))) (M' := M) rfl rfl rfl rfl (Nat.le_of_ble_eq_true rfl) (fun h => nomatch h) (by have q := sp_in M (mtb M (iv M 58 18)) 65 90 g; rwa [if_neg c3] at q) ?_
    refine am_xn 0 (c1 := (15, [.ref 58], [.int (zi 0)], M)) rfl ?_
    refine am_xn 2 (c1 := (46, [.ref 58], [.int (zi 0)], M)) rfl ?_
    exact am_xr (some (.int (zi 0))) ⟨rfl, rfl, .int, rfl, rfl⟩ hv
set_option maxRecDepth 100000 in
theorem vc_readsNumber  (M : am_M) (Q : Option Value → am_M → Prop) (hv : ∃ (r2 : Int) (M1 : am_M), am_call t_Mo_readsDigits [.ref 58, .int (zi 1)] M (some (.int (zi r2))) M1 ∧ (((iv M1 58 19) = (-1) → ∃ (r4 : Int) (M3 : am_M), am_call t_Mo_letter [.ref 58] M1 (some (.int (zi r4))) M3 ∧ ((zr r4) ∧ ((0 < r4 → ∃ (r7 : Int) (M6 : am_M), am_call t_Mo_letter [.ref 58] M3 (some (.int (zi r7))) M6 ∧ (Q (some (.int (zi (((729 * r2) + (27 * r4)) + r7)))) M6)) ∧ (r4 ≤ 0 → Q (some (.int (zi (((729 * r2) + (27 * r4)) + 0)))) M3)))) ∧ (¬ (iv M1 58 19) = (-1) → Q (some (.int (zi 0))) M1))) : am_x t_Mo_readsNumber (0, am_ent (am_mL t_Mo_readsNumber) [.ref 58], [], M) Q := by
  refine am_xn 0 (c1 := (0, [.ref 58, .null, .null, .null], [], M)) rfl ?_
  refine am_xn 3 (c1 := (5, [.ref 58, .null, .null, .null], [.int (zi 1), .ref 58, .int (zi 729)], M)) rfl ?_
  obtain ⟨r2, M1, hc, hv⟩ := hv
  refine am_xc t_Mo_readsDigits (.invokevirtual 188) 188 (av := [.ref 58, .int (zi 1)]) (rest := [.int (zi 729)]) (rv := some (.int (zi r2))) (M' := M1) rfl rfl rfl rfl (Nat.le_of_ble_eq_true rfl) (fun _ => rfl) (hc) ?_
  refine am_xn 0 (c1 := (8, [.ref 58, .null, .null, .null], [.int (zi r2), .int (zi 729)], M1)) rfl ?_
  refine am_ximul 1 729 r2 (pc := 9) (ls := [.ref 58, .null, .null, .null]) (st := []) rfl ?_
  refine am_xrd 3 58 19 (pc := 14) (ls := [.ref 58, .int (zi (729 * r2)), .null, .null]) (st := []) rfl ?_
  refine am_xn 2 (c1 := (if zi (iv M1 58 19) = zi (-1) then 20 else 18, [.ref 58, .int (zi (729 * r2)), .null, .null], [], M1)) rfl (am_xeq (iv_r _ _ _) (by decide) (fun h => ?_) (fun h => ?_))
  · replace hv := hv.1 h
    refine am_xn 1 (c1 := (21, [.ref 58, .int (zi (729 * r2)), .null, .null], [.ref 58], M1)) rfl ?_
    obtain ⟨r4, M3, hc, hv⟩ := hv
    refine am_xc t_Mo_letter (.invokevirtual 192) 192 (av := [.ref 58]) (rest := []) (rv := some (.int (zi r4))) (M' := M3) rfl rfl rfl rfl (Nat.le_of_ble_eq_true rfl) (fun _ => rfl) (hc) ?_
    refine am_xn 0 (c1 := (24, [.ref 58, .int (zi (729 * r2)), .null, .null], [.int (zi r4)], M3)) rfl ?_
    obtain ⟨r5, hv⟩ := hv
    refine am_xn 3 (c1 := (if zi 0 < zi r4 then 29 else 36, [.ref 58, .int (zi (729 * r2)), .int (zi r4), .null], [], M3)) rfl (am_xlt (by decide) r5 (fun h => ?_) (fun h => ?_))
    · replace hv := hv.1 h
      refine am_xn 1 (c1 := (30, [.ref 58, .int (zi (729 * r2)), .int (zi r4), .null], [.ref 58], M3)) rfl ?_
      obtain ⟨r7, M6, hc, hv⟩ := hv
      refine am_xc t_Mo_letter (.invokevirtual 192) 192 (av := [.ref 58]) (rest := []) (rv := some (.int (zi r7))) (M' := M6) rfl rfl rfl rfl (Nat.le_of_ble_eq_true rfl) (fun _ => rfl) (hc) ?_
      refine am_xn 0 (c1 := (33, [.ref 58, .int (zi (729 * r2)), .int (zi r4), .null], [.int (zi r7)], M6)) rfl ?_
      refine am_ximul 6 27 r4 (pc := 43) (ls := [.ref 58, .int (zi (729 * r2)), .int (zi r4), .int (zi r7)]) (st := [.int (zi (729 * r2))]) rfl ?_
      refine am_xiadd 1 (729 * r2) (27 * r4) (pc := 44) (ls := [.ref 58, .int (zi (729 * r2)), .int (zi r4), .int (zi r7)]) (st := []) rfl ?_
      refine am_xiadd 2 ((729 * r2) + (27 * r4)) r7 (pc := 46) (ls := [.ref 58, .int (zi (729 * r2)), .int (zi r4), .int (zi r7)]) (st := []) rfl ?_
      exact am_xr (some (.int (zi (((729 * r2) + (27 * r4)) + r7)))) ⟨rfl, rfl, .int, rfl, rfl⟩ hv
    · replace hv := hv.2 h
      refine am_ximul 6 27 r4 (pc := 43) (ls := [.ref 58, .int (zi (729 * r2)), .int (zi r4), .int (zi 0)]) (st := [.int (zi (729 * r2))]) rfl ?_
      refine am_xiadd 1 (729 * r2) (27 * r4) (pc := 44) (ls := [.ref 58, .int (zi (729 * r2)), .int (zi r4), .int (zi 0)]) (st := []) rfl ?_
      refine am_xiadd 2 ((729 * r2) + (27 * r4)) 0 (pc := 46) (ls := [.ref 58, .int (zi (729 * r2)), .int (zi r4), .int (zi 0)]) (st := []) rfl ?_
      exact am_xr (some (.int (zi (((729 * r2) + (27 * r4)) + 0)))) ⟨rfl, rfl, .int, rfl, rfl⟩ hv
  · replace hv := hv.2 h
    refine am_xn 1 (c1 := (19, [.ref 58, .int (zi (729 * r2)), .null, .null], [.int (zi 0)], M1)) rfl ?_
    exact am_xr (some (.int (zi 0))) ⟨rfl, rfl, .int, rfl, rfl⟩ hv
set_option maxRecDepth 100000 in
theorem vc_numberBehindBlanks  (M : am_M) (Q : Option Value → am_M → Prop) (hv : ∃ M1, am_call t_Mo_skips [.ref 58] M none M1 ∧ (((iv M1 58 19) = (-1) → ∃ (r3 : Int) (M2 : am_M), am_call t_Mo_readsNumber [.ref 58] M1 (some (.int (zi r3))) M2 ∧ (Q (some (.int (zi r3))) M2)) ∧ (¬ (iv M1 58 19) = (-1) → Q (some (.int (zi 0))) M1))) : am_x t_Mo_numberBehindBlanks (0, am_ent (am_mL t_Mo_numberBehindBlanks) [.ref 58], [], M) Q := by
  refine am_xn 0 (c1 := (0, [.ref 58], [], M)) rfl ?_
  refine am_xn 1 (c1 := (1, [.ref 58], [.ref 58], M)) rfl ?_
  obtain ⟨M1, hc, hv⟩ := hv
  refine am_xc t_Mo_skips (.invokevirtual 174) 174 (av := [.ref 58]) (rest := []) (rv := none) (M' := M1) rfl rfl rfl rfl (Nat.le_of_ble_eq_true rfl) (fun _ => rfl) (hc) ?_
  refine am_xn 0 (c1 := (4, [.ref 58], [], M1)) rfl ?_
  refine am_xrd 2 58 19 (pc := 8) (ls := [.ref 58]) (st := []) rfl ?_
  refine am_xn 2 (c1 := (if zi (iv M1 58 19) = zi (-1) then 12 else 19, [.ref 58], [], M1)) rfl (am_xeq (iv_r _ _ _) (by decide) (fun h => ?_) (fun h => ?_))
  · replace hv := hv.1 h
    refine am_xn 1 (c1 := (13, [.ref 58], [.ref 58], M1)) rfl ?_
    obtain ⟨r3, M2, hc, hv⟩ := hv
    refine am_xc t_Mo_readsNumber (.invokevirtual 195) 195 (av := [.ref 58]) (rest := []) (rv := some (.int (zi r3))) (M' := M2) rfl rfl rfl rfl (Nat.le_of_ble_eq_true rfl) (fun _ => rfl) (hc) ?_
    refine am_xn 0 (c1 := (16, [.ref 58], [.int (zi r3)], M2)) rfl ?_
    refine am_xn 1 (c1 := (20, [.ref 58], [.int (zi r3)], M2)) rfl ?_
    exact am_xr (some (.int (zi r3))) ⟨rfl, rfl, .int, rfl, rfl⟩ hv
  · replace hv := hv.2 h
    refine am_xn 1 (c1 := (20, [.ref 58], [.int (zi 0)], M1)) rfl ?_
    exact am_xr (some (.int (zi 0))) ⟨rfl, rfl, .int, rfl, rfl⟩ hv
set_option maxRecDepth 100000 in
theorem vc_plainBehindBlanks  (M : am_M) (Q : Option Value → am_M → Prop) (hv : ∃ M1, am_call t_Mo_skips [.ref 58] M none M1 ∧ (((iv M1 58 19) = (-1) → ∃ (r3 : Int) (M2 : am_M), am_call t_Mo_readsDigits [.ref 58, .int (zi 0)] M1 (some (.int (zi r3))) M2 ∧ (Q (some (.int (zi r3))) M2)) ∧ (¬ (iv M1 58 19) = (-1) → Q (some (.int (zi 0))) M1))) : am_x t_Mo_plainBehindBlanks (0, am_ent (am_mL t_Mo_plainBehindBlanks) [.ref 58], [], M) Q := by
  refine am_xn 0 (c1 := (0, [.ref 58], [], M)) rfl ?_
  refine am_xn 1 (c1 := (1, [.ref 58], [.ref 58], M)) rfl ?_
  obtain ⟨M1, hc, hv⟩ := hv
  refine am_xc t_Mo_skips (.invokevirtual 174) 174 (av := [.ref 58]) (rest := []) (rv := none) (M' := M1) rfl rfl rfl rfl (Nat.le_of_ble_eq_true rfl) (fun _ => rfl) (hc) ?_
  refine am_xn 0 (c1 := (4, [.ref 58], [], M1)) rfl ?_
  refine am_xrd 2 58 19 (pc := 8) (ls := [.ref 58]) (st := []) rfl ?_
  refine am_xn 2 (c1 := (if zi (iv M1 58 19) = zi (-1) then 12 else 20, [.ref 58], [], M1)) rfl (am_xeq (iv_r _ _ _) (by decide) (fun h => ?_) (fun h => ?_))
  · replace hv := hv.1 h
    refine am_xn 2 (c1 := (14, [.ref 58], [.int (zi 0), .ref 58], M1)) rfl ?_
    obtain ⟨r3, M2, hc, hv⟩ := hv
    refine am_xc t_Mo_readsDigits (.invokevirtual 188) 188 (av := [.ref 58, .int (zi 0)]) (rest := []) (rv := some (.int (zi r3))) (M' := M2) rfl rfl rfl rfl (Nat.le_of_ble_eq_true rfl) (fun _ => rfl) (hc) ?_
    refine am_xn 0 (c1 := (17, [.ref 58], [.int (zi r3)], M2)) rfl ?_
    refine am_xn 1 (c1 := (21, [.ref 58], [.int (zi r3)], M2)) rfl ?_
    exact am_xr (some (.int (zi r3))) ⟨rfl, rfl, .int, rfl, rfl⟩ hv
  · replace hv := hv.2 h
    refine am_xn 1 (c1 := (21, [.ref 58], [.int (zi 0)], M1)) rfl ?_
    exact am_xr (some (.int (zi 0))) ⟨rfl, rfl, .int, rfl, rfl⟩ hv
theorem sp_fails {M0 M : am_M} {p f k : Int} (g : CRm M0 p f M) (kz : zr k) : ∃ M', am_call t_Mo_fails [.ref 58, .int (zi k)] M none M' ∧ CRm M0 p (th f k) M' := by
  suffices hh : am_x t_Mo_fails (0, am_ent (am_mL t_Mo_fails) [.ref 58, .int (zi k)], [], M) (fun rv M' => rv = none ∧ CRm M0 p (th f k) M') by
    obtain ⟨rv, M', c1, c2, c3⟩ := am_call_ex (by exact ⟨Nat.le_of_ble_eq_true rfl, rfl⟩) hh
    subst c2
    exact ⟨M', c1, c3⟩
  refine vc_fails k M _ ⟨fun q M1 e1 => ⟨rfl, ?_⟩, fun q M2 e2 => ⟨rfl, ?_⟩⟩
  · rw [show f = -1 from g.2.2.2.symm.trans q, th_o]
    exact crm_f g e1 kz
  · rw [g.2.2.2] at q e2
    rw [th_n _ q]
    exact crm_f g e2 (by rw [← g.2.2.2]; exact iv_r _ _ _)
theorem sp_skips {T : Int → Int} {n : Int} {M0 M : am_M} {p f : Int} (x : XM T n M0) (g : CRm M0 p f M) (p0 : 0 ≤ p) (p1 : p ≤ n) : ∃ M', am_call t_Mo_skips [.ref 58] M none M' ∧ CRm M0 (sk T p) f M' := by
  suffices hh : am_x t_Mo_skips (0, am_ent (am_mL t_Mo_skips) [.ref 58], [], M) (fun rv M' => rv = none ∧ CRm M0 (sk T p) f M') by
    obtain ⟨rv, M', c1, c2, c3⟩ := am_call_ex (by exact ⟨Nat.le_of_ble_eq_true rfl, rfl⟩) hh
    subst c2
    exact ⟨M', c1, c3⟩
  refine am_xn 0 (c1 := (0, [.ref 58], [], M)) rfl ?_
  have xn := x.2.2.1
  refine loop_up (fun i (s : am_M) => (0, [.ref 58], [], s)) n (fun i s => CRm M0 i f s ∧ sk T i = sk T p) ?_ ?_ p M p0 p1 ⟨g, rfl⟩
  · intro s ⟨hs, h⟩
    have xs := x.rd hs
    have en : T n = -1 := x.2.2.2.2 n (Int.le_refl _)
    refine vc_skips_0 s _ ?_
    rw [xs.2.1, hs.2.2.1, xs.1 n xn.1, en]
    refine ⟨by omega, fun q => absurd q (by decide), fun _ => ⟨rfl, ?_⟩⟩
    rw [← h, sk_n (by omega) (by rw [en]; decide)]
    exact hs
  · intro i s i0 i1 ⟨hs, h⟩ k
    have xs := x.rd hs
    refine vc_skips_0 s _ ?_
    rw [xs.2.1, hs.2.2.1, xs.1 i i0]
    exact ⟨by omega, fun q M1 e1 => k M1 ⟨crm_p hs e1 ⟨by omega, by omega⟩, by rw [sk_y (by omega) q, h]⟩, fun q => ⟨rfl, by rw [← h, sk_n (by omega) q]; exact hs⟩⟩
theorem sp_letters {T : Int → Int} {n : Int} {M0 M : am_M} {p f : Int} (x : XM T n M0) (g : CRm M0 p f M) (p0 : 0 ≤ p) (p1 : p ≤ n) : ∃ M', am_call t_Mo_readsLetters [.ref 58] M (some (.long (zl (rv T p)))) M' ∧ CRm M0 (re T p) f M' := by
  suffices hh : am_x t_Mo_readsLetters (0, am_ent (am_mL t_Mo_readsLetters) [.ref 58], [], M) (fun ra M' => ra = some (.long (zl (rv T p))) ∧ CRm M0 (re T p) f M') by
    obtain ⟨rv, M', c1, c2, c3⟩ := am_call_ex (by exact ⟨Nat.le_of_ble_eq_true rfl, rfl⟩) hh
    subst c2
    exact ⟨M', c1, c3⟩
  have xn := x.2.2.1
  refine vc_readsLetters M _ ?_
  refine loop_up (fun i (s : am_M × Int) => (2, [.ref 58, .long (zl s.2), .null], [], s.1)) n (fun i s => CRm M0 i f s.1 ∧ rlN T (121 - i).toNat i s.2 = rlN T (121 - p).toNat p 0 ∧ 0 ≤ s.2 ∧ s.2 ≤ 36028797018963994) ?_ ?_ p (M, 0) p0 p1 ⟨g, rfl, Int.le_refl _, by show (0 : Int) ≤ _; omega⟩
  · intro s ⟨hs, h, v0, v1⟩
    have xs := x.rd hs
    have en : T n = -1 := x.2.2.2.2 n (Int.le_refl _)
    refine vc_readsLetters_2 s.2 s.1 _ ?_
    rw [xs.2.1, hs.2.2.1, xs.1 n xn.1, en]
    rw [rlN_s T _ (by omega), en, if_neg (by decide)] at h
    refine ⟨by omega, fun q => absurd q (by decide), fun _ => ⟨?_, ?_⟩⟩
    · unfold rv; rw [← h]
    · unfold re; rw [← h]; exact hs
  · intro i s i0 i1 ⟨hs, h, v0, v1⟩ k
    have xs := x.rd hs
    refine vc_readsLetters_2 s.2 s.1 _ ?_
    rw [xs.2.1, hs.2.2.1, xs.1 i i0, zcmp_p]
    rw [rlN_s T _ (by omega)] at h
    refine ⟨by omega, fun q => ⟨⟨by omega, by omega⟩, fun c M2 e2 => ?_, fun c => ⟨by omega, fun M3 e3 => ?_⟩⟩, fun q => ?_⟩
    · rw [if_pos q, if_pos c] at h
      exact k (M2, s.2) ⟨crm_p hs e2 ⟨by omega, by omega⟩, h, v0, v1⟩
    · have c : ¬ 1125899906842624 < s.2 := fun z => by have := (zcmp_p s.2 1125899906842624).mpr z; omega
      rw [if_pos q, if_neg c] at h
      exact k (M3, _) ⟨crm_p hs e3 ⟨by omega, by omega⟩, h, by show 0 ≤ 32 * s.2 + T i - 96; omega, by show 32 * s.2 + T i - 96 ≤ _; omega⟩
    · rw [if_neg q] at h
      refine ⟨?_, ?_⟩
      · unfold rv; rw [← h]
      · unfold re; rw [← h]; exact hs
theorem sp_needs5 {T : Int → Int} {n : Int} {M0 M : am_M} {p f : Int} (x : XM T n M0) (g : CRm M0 p f M) (p0 : 0 ≤ p) (p1 : p ≤ n) : ∃ M' p', am_call t_Mo_needsWord [.ref 58, .long (zl 655)] M none M' ∧ CRm M0 p' (th f (xf5 T p)) M' ∧ (0 ≤ p' ∧ p' ≤ n) ∧ (f = -1 → xf5 T p = -1 → p' = xe5 T p) := by
  suffices hh : am_x t_Mo_needsWord (0, am_ent (am_mL t_Mo_needsWord) [.ref 58, .long (zl 655)], [], M) (fun ra M' => ra = none ∧ ∃ p', CRm M0 p' (th f (xf5 T p)) M' ∧ (0 ≤ p' ∧ p' ≤ n) ∧ (f = -1 → xf5 T p = -1 → p' = xe5 T p)) by
    obtain ⟨ra, M', c1, c2, p', c3⟩ := am_call_ex (by exact ⟨Nat.le_of_ble_eq_true rfl, rfl⟩) hh
    subst c2
    exact ⟨M', p', c1, c3⟩
  have xn := x.2.2.1
  have r := x.2.2.skr p0 p1
  obtain ⟨M1, c1, g1⟩ := sp_skips x g p0 p1
  refine vc_needsWord 655 M _ ⟨M1, c1, fun q => ?_, fun q => ⟨rfl, sk T p, ?_, by omega, fun z => ?_⟩⟩
  · rw [g1.2.2.2] at q
    subst q
    obtain ⟨M2, c2, g2⟩ := sp_letters x g1 (by omega) (by omega)
    have rz := rv_zl x.2.2 (p := sk T p) (by omega) (by omega)
    refine ⟨rv T (sk T p), M2, c2, rz.1, by decide, fun z => ?_, fun z => ?_⟩
    · rw [zcmp_0] at z
      have m := (rv_5 x.2.2 (by omega) (by omega)).mp z
      have e := re_5 x.2.2 (p := sk T p) (by omega) (by omega) m
      refine ⟨rfl, re T (sk T p), ?_, by omega, fun _ _ => ?_⟩
      · unfold xf5; rw [if_pos m, th_1]; exact g2
      · unfold xe5; rw [if_pos m]; exact e
    · rw [zcmp_0] at z
      have m : ¬ mt5 T (sk T p) := fun m => z ((rv_5 x.2.2 (by omega) (by omega)).mpr m)
      rw [g1.2.2.1]
      obtain ⟨M6, c6, g6⟩ := sp_fails g2 (k := sk T p) ⟨by omega, by omega⟩
      refine ⟨M6, c6, rfl, re T (sk T p), ?_, by omega, fun _ y => ?_⟩
      · unfold xf5; rw [if_neg m]; exact g6
      · unfold xf5 at y; rw [if_neg m] at y; omega
  · rw [g1.2.2.2] at q
    rw [th_n _ q]; exact g1
  · rw [g1.2.2.2] at q
    exact absurd z q
theorem sp_needs6 {T : Int → Int} {n : Int} {M0 M : am_M} {p f : Int} (x : XM T n M0) (g : CRm M0 p f M) (p0 : 0 ≤ p) (p1 : p ≤ n) : ∃ M' p', am_call t_Mo_needsWord [.ref 58, .long (zl 6642)] M none M' ∧ CRm M0 p' (th f (xf6 T p)) M' ∧ (0 ≤ p' ∧ p' ≤ n) ∧ (f = -1 → xf6 T p = -1 → p' = xe6 T p) := by
  suffices hh : am_x t_Mo_needsWord (0, am_ent (am_mL t_Mo_needsWord) [.ref 58, .long (zl 6642)], [], M) (fun ra M' => ra = none ∧ ∃ p', CRm M0 p' (th f (xf6 T p)) M' ∧ (0 ≤ p' ∧ p' ≤ n) ∧ (f = -1 → xf6 T p = -1 → p' = xe6 T p)) by
    obtain ⟨ra, M', c1, c2, p', c3⟩ := am_call_ex (by exact ⟨Nat.le_of_ble_eq_true rfl, rfl⟩) hh
    subst c2
    exact ⟨M', p', c1, c3⟩
  have xn := x.2.2.1
  have r := x.2.2.skr p0 p1
  obtain ⟨M1, c1, g1⟩ := sp_skips x g p0 p1
  refine vc_needsWord 6642 M _ ⟨M1, c1, fun q => ?_, fun q => ⟨rfl, sk T p, ?_, by omega, fun z => ?_⟩⟩
  · rw [g1.2.2.2] at q
    subst q
    obtain ⟨M2, c2, g2⟩ := sp_letters x g1 (by omega) (by omega)
    have rz := rv_zl x.2.2 (p := sk T p) (by omega) (by omega)
    refine ⟨rv T (sk T p), M2, c2, rz.1, by decide, fun z => ?_, fun z => ?_⟩
    · rw [zcmp_0] at z
      have m := (rv_6 x.2.2 (by omega) (by omega)).mp z
      have e := re_6 x.2.2 (p := sk T p) (by omega) (by omega) m
      refine ⟨rfl, re T (sk T p), ?_, by omega, fun _ _ => ?_⟩
      · unfold xf6; rw [if_pos m, th_1]; exact g2
      · unfold xe6; rw [if_pos m]; exact e
    · rw [zcmp_0] at z
      have m : ¬ mt6 T (sk T p) := fun m => z ((rv_6 x.2.2 (by omega) (by omega)).mpr m)
      rw [g1.2.2.1]
      obtain ⟨M6, c6, g6⟩ := sp_fails g2 (k := sk T p) ⟨by omega, by omega⟩
      refine ⟨M6, c6, rfl, re T (sk T p), ?_, by omega, fun _ y => ?_⟩
      · unfold xf6; rw [if_neg m]; exact g6
      · unfold xf6 at y; rw [if_neg m] at y; omega
  · rw [g1.2.2.2] at q
    rw [th_n _ q]; exact g1
  · rw [g1.2.2.2] at q
    exact absurd z q
theorem sp_needs7 {T : Int → Int} {n : Int} {M0 M : am_M} {p f : Int} (x : XM T n M0) (g : CRm M0 p f M) (p0 : 0 ≤ p) (p1 : p ≤ n) : ∃ M' p', am_call t_Mo_needsWord [.ref 58, .long (zl 17076)] M none M' ∧ CRm M0 p' (th f (xf7 T p)) M' ∧ (0 ≤ p' ∧ p' ≤ n) ∧ (f = -1 → xf7 T p = -1 → p' = xe7 T p) := by
  suffices hh : am_x t_Mo_needsWord (0, am_ent (am_mL t_Mo_needsWord) [.ref 58, .long (zl 17076)], [], M) (fun ra M' => ra = none ∧ ∃ p', CRm M0 p' (th f (xf7 T p)) M' ∧ (0 ≤ p' ∧ p' ≤ n) ∧ (f = -1 → xf7 T p = -1 → p' = xe7 T p)) by
    obtain ⟨ra, M', c1, c2, p', c3⟩ := am_call_ex (by exact ⟨Nat.le_of_ble_eq_true rfl, rfl⟩) hh
    subst c2
    exact ⟨M', p', c1, c3⟩
  have xn := x.2.2.1
  have r := x.2.2.skr p0 p1
  obtain ⟨M1, c1, g1⟩ := sp_skips x g p0 p1
  refine vc_needsWord 17076 M _ ⟨M1, c1, fun q => ?_, fun q => ⟨rfl, sk T p, ?_, by omega, fun z => ?_⟩⟩
  · rw [g1.2.2.2] at q
    subst q
    obtain ⟨M2, c2, g2⟩ := sp_letters x g1 (by omega) (by omega)
    have rz := rv_zl x.2.2 (p := sk T p) (by omega) (by omega)
    refine ⟨rv T (sk T p), M2, c2, rz.1, by decide, fun z => ?_, fun z => ?_⟩
    · rw [zcmp_0] at z
      have m := (rv_7 x.2.2 (by omega) (by omega)).mp z
      have e := re_7 x.2.2 (p := sk T p) (by omega) (by omega) m
      refine ⟨rfl, re T (sk T p), ?_, by omega, fun _ _ => ?_⟩
      · unfold xf7; rw [if_pos m, th_1]; exact g2
      · unfold xe7; rw [if_pos m]; exact e
    · rw [zcmp_0] at z
      have m : ¬ mt7 T (sk T p) := fun m => z ((rv_7 x.2.2 (by omega) (by omega)).mpr m)
      rw [g1.2.2.1]
      obtain ⟨M6, c6, g6⟩ := sp_fails g2 (k := sk T p) ⟨by omega, by omega⟩
      refine ⟨M6, c6, rfl, re T (sk T p), ?_, by omega, fun _ y => ?_⟩
      · unfold xf7; rw [if_neg m]; exact g6
      · unfold xf7 at y; rw [if_neg m] at y; omega
  · rw [g1.2.2.2] at q
    rw [th_n _ q]; exact g1
  · rw [g1.2.2.2] at q
    exact absurd z q
theorem mdig_a {T : Int → Int} {n : Int} {M0 s : am_M} {p q : Int} (x : XM T n M0) (g : CRm M0 q (-1) s) (p0 : 0 ≤ p) (p1 : p ≤ n) (q0 : 0 ≤ q) (q1 : q ≤ n) (R : am_M → Prop) (h : ∀ M', CRm M0 q p M' → R M') : ∃ M4, am_call t_Mo_fails [.ref 58, .int (zi p)] s none M4 ∧ ((0 ≤ iv M4 58 18 ∧ iv M4 58 18 ≤ 1000 ∧ iv M4 58 17 ≤ 120) ∧ ((isg (mtb M4 (iv M4 58 18)) → ∃ M5, am_call t_Mo_fails [.ref 58, .int (zi (iv M4 58 18))] M4 none M5 ∧ R M5) ∧ (¬ isg (mtb M4 (iv M4 58 18)) → R M4))) := by
  have xn := x.2.2.1
  obtain ⟨M4, c4, g4⟩ := sp_fails g (k := p) ⟨by omega, by omega⟩
  rw [th_o] at g4
  have x4 := x.rd g4
  refine ⟨M4, c4, ?_⟩
  rw [g4.2.2.1, x4.2.1]
  refine ⟨by omega, fun _ => ?_, fun _ => h M4 g4⟩
  obtain ⟨M5, c5, g5⟩ := sp_fails g4 (k := q) ⟨by omega, by omega⟩
  rw [th_n _ (by omega)] at g5
  exact ⟨M5, c5, h M5 g5⟩
theorem mdig_b {T : Int → Int} {n : Int} {M0 s : am_M} {q : Int} (x : XM T n M0) (g : CRm M0 q (-1) s) (q0 : 0 ≤ q) (q1 : q ≤ n) (R : am_M → Prop) (h1 : isg (T q) → ∀ M', CRm M0 q q M' → R M') (h2 : ¬ isg (T q) → R s) : (0 ≤ iv s 58 18 ∧ iv s 58 18 ≤ 1000 ∧ iv s 58 17 ≤ 120) ∧ ((isg (mtb s (iv s 58 18)) → ∃ M8, am_call t_Mo_fails [.ref 58, .int (zi (iv s 58 18))] s none M8 ∧ R M8) ∧ (¬ isg (mtb s (iv s 58 18)) → R s)) := by
  have xn := x.2.2.1
  have xs := x.rd g
  rw [g.2.2.1, xs.2.1, xs.1 q q0]
  refine ⟨by omega, fun z => ?_, h2⟩
  obtain ⟨M5, c5, g5⟩ := sp_fails g (k := q) ⟨by omega, by omega⟩
  rw [th_o] at g5
  exact ⟨M5, c5, h1 z M5 g5⟩
theorem sp_digits {T : Int → Int} {n : Int} {M0 M : am_M} {p b : Int} (x : XM T n M0) (g : CRm M0 p (-1) M) (p0 : 0 ≤ p) (p1 : p ≤ n) (hb : b = 0 ∨ b = 1) : ∃ M', am_call t_Mo_readsDigits [.ref 58, .int (zi b)] M (some (.int (zi (dv T p)))) M' ∧ CRm M0 (de T p) (df b T p) M' := by
  suffices hh : am_x t_Mo_readsDigits (0, am_ent (am_mL t_Mo_readsDigits) [.ref 58, .int (zi b)], [], M) (fun rv M' => rv = some (.int (zi (dv T p))) ∧ CRm M0 (de T p) (df b T p) M') by
    obtain ⟨rv, M', c1, c2, c3⟩ := am_call_ex (by exact ⟨Nat.le_of_ble_eq_true rfl, rfl⟩) hh
    subst c2
    exact ⟨M', c1, c3⟩
  refine vc_readsDigits b M _ ?_
  rw [g.2.2.1]
  have xn := x.2.2.1
  have hd := dg_is T p
  have dn := x.2.2.der p0 p1
  have dfp : (dv T p < b ∨ de T p = p) → df b T p = p := fun h => by unfold df; rw [if_pos h]
  have dfd : ¬ (dv T p < b ∨ de T p = p) → isg (T (de T p)) → df b T p = de T p := fun h y => by unfold df; rw [if_neg h, if_pos y]
  have dfn : ¬ (dv T p < b ∨ de T p = p) → ¬ isg (T (de T p)) → df b T p = -1 := fun h y => by unfold df; rw [if_neg h, if_neg y]
  refine loop_up (fun i (s : am_M × Int) => (7, [.ref 58, .int (zi b), .int (zi p), .int (zi s.2)], [], s.1)) 3 (fun i s => CRm M0 (p + i) (-1) s.1 ∧ dgN T (3 - i).toNat (p + i) s.2 = dgN T 3 p 0 ∧ p + i ≤ n) ?_ ?_ 0 (M, 0) (by omega) (by omega) ⟨by rw [Int.add_zero]; exact g, by rw [Int.add_zero]; rfl, by omega⟩
  · intro s ⟨hs, h, hn⟩
    have e1 : de T p = p + 3 := by unfold de; rw [← h]; rfl
    have e2 : dv T p = s.2 := by unfold dv; rw [← h]; rfl
    rw [← e1] at hs
    have xs := x.rd hs
    have e18 : iv s.1 58 18 = de T p := hs.2.2.1
    have e17 := xs.2.1
    have em := xs.1 (de T p) (by omega)
    refine vc_readsDigits_7 b p s.2 s.1 _ ?_
    rw [← e2]
    exact ⟨by omega, fun _ => ⟨⟨by omega, by omega⟩, fun z => by omega, fun _ => ⟨⟨by omega, by omega⟩, fun z => mdig_a x hs p0 p1 (by omega) dn.2.1 (fun M' => some (Value.int (zi (dv T p))) = some (Value.int (zi (dv T p))) ∧ CRm M0 (de T p) (df b T p) M') (fun M' h' => ⟨rfl, by rw [dfp (Or.inr (e18.symm.trans z))]; exact h'⟩), fun z => ⟨⟨by omega, by omega⟩, fun b0 => mdig_b x hs (by omega) dn.2.1 (fun M' => some (Value.int (zi (dv T p))) = some (Value.int (zi (dv T p))) ∧ CRm M0 (de T p) (df b T p) M') (fun y M' h' => ⟨rfl, by rw [dfd (fun o => o.elim (fun o => by omega) (fun o => z (e18.trans o))) y]; exact h'⟩) (fun y => ⟨rfl, by rw [dfn (fun o => o.elim (fun o => by omega) (fun o => z (e18.trans o))) y]; exact hs⟩), fun b0 => ⟨⟨by omega, by omega⟩, fun v0 => mdig_a x hs p0 p1 (by omega) dn.2.1 (fun M' => some (Value.int (zi (dv T p))) = some (Value.int (zi (dv T p))) ∧ CRm M0 (de T p) (df b T p) M') (fun M' h' => ⟨rfl, by rw [dfp (Or.inl (by omega))]; exact h'⟩), fun v0 => mdig_b x hs (by omega) dn.2.1 (fun M' => some (Value.int (zi (dv T p))) = some (Value.int (zi (dv T p))) ∧ CRm M0 (de T p) (df b T p) M') (fun y M' h' => ⟨rfl, by rw [dfd (fun o => o.elim (fun o => by omega) (fun o => z (e18.trans o))) y]; exact h'⟩) (fun y => ⟨rfl, by rw [dfn (fun o => o.elim (fun o => by omega) (fun o => z (e18.trans o))) y]; exact hs⟩)⟩⟩⟩⟩, fun q => ⟨⟨by omega, by omega⟩, fun z => mdig_a x hs p0 p1 (by omega) dn.2.1 (fun M' => some (Value.int (zi (dv T p))) = some (Value.int (zi (dv T p))) ∧ CRm M0 (de T p) (df b T p) M') (fun M' h' => ⟨rfl, by rw [dfp (Or.inr (e18.symm.trans z))]; exact h'⟩), fun z => ⟨⟨by omega, by omega⟩, fun b0 => mdig_b x hs (by omega) dn.2.1 (fun M' => some (Value.int (zi (dv T p))) = some (Value.int (zi (dv T p))) ∧ CRm M0 (de T p) (df b T p) M') (fun y M' h' => ⟨rfl, by rw [dfd (fun o => o.elim (fun o => by omega) (fun o => z (e18.trans o))) y]; exact h'⟩) (fun y => ⟨rfl, by rw [dfn (fun o => o.elim (fun o => by omega) (fun o => z (e18.trans o))) y]; exact hs⟩), fun b0 => ⟨⟨by omega, by omega⟩, fun v0 => mdig_a x hs p0 p1 (by omega) dn.2.1 (fun M' => some (Value.int (zi (dv T p))) = some (Value.int (zi (dv T p))) ∧ CRm M0 (de T p) (df b T p) M') (fun M' h' => ⟨rfl, by rw [dfp (Or.inl (by omega))]; exact h'⟩), fun v0 => mdig_b x hs (by omega) dn.2.1 (fun M' => some (Value.int (zi (dv T p))) = some (Value.int (zi (dv T p))) ∧ CRm M0 (de T p) (df b T p) M') (fun y M' h' => ⟨rfl, by rw [dfd (fun o => o.elim (fun o => by omega) (fun o => z (e18.trans o))) y]; exact h'⟩) (fun y => ⟨rfl, by rw [dfn (fun o => o.elim (fun o => by omega) (fun o => z (e18.trans o))) y]; exact hs⟩)⟩⟩⟩⟩
  · intro i s i0 i1 ⟨hs, h, hn⟩ k
    have xs := x.rd hs
    have e18 : iv s.1 58 18 = p + i := hs.2.2.1
    have e17 := xs.2.1
    have em := xs.1 (p + i) (by omega)
    rw [show (3 - i).toNat = (3 - (i + 1)).toNat + 1 by omega, dgN_s] at h
    refine vc_readsDigits_7 b p s.2 s.1 _ ⟨by omega, fun q => ⟨⟨by omega, by omega⟩, fun _ => ⟨by omega, fun M2 e2 => ?_⟩, fun z => by omega⟩, fun q => ?_⟩
    · rw [e18, em] at q
      rw [if_pos q] at h
      have lt := x.2.2.lt (k := p + i) (by omega)
      rw [e18] at e2 ⊢
      rw [em]
      exact k (M2, _) ⟨by rw [← Int.add_assoc]; exact crm_p hs e2 ⟨by omega, by omega⟩, by rw [← Int.add_assoc, ← h]; congr 1; omega, by omega⟩
    · rw [e18, em] at q
      rw [if_neg q] at h
      have e1 : de T p = p + i := by unfold de; rw [← h]
      have e2 : dv T p = s.2 := by unfold dv; rw [← h]
      rw [← e1] at hs e18 q
      rw [← e2]
      exact ⟨⟨by omega, by omega⟩, fun z => mdig_a x hs p0 p1 (by omega) dn.2.1 (fun M' => some (Value.int (zi (dv T p))) = some (Value.int (zi (dv T p))) ∧ CRm M0 (de T p) (df b T p) M') (fun M' h' => ⟨rfl, by rw [dfp (Or.inr (e18.symm.trans z))]; exact h'⟩), fun z => ⟨⟨by omega, by omega⟩, fun b0 => mdig_b x hs (by omega) dn.2.1 (fun M' => some (Value.int (zi (dv T p))) = some (Value.int (zi (dv T p))) ∧ CRm M0 (de T p) (df b T p) M') (fun y M' h' => ⟨rfl, by rw [dfd (fun o => o.elim (fun o => by omega) (fun o => z (e18.trans o))) y]; exact h'⟩) (fun y => ⟨rfl, by rw [dfn (fun o => o.elim (fun o => by omega) (fun o => z (e18.trans o))) y]; exact hs⟩), fun b0 => ⟨⟨by omega, by omega⟩, fun v0 => mdig_a x hs p0 p1 (by omega) dn.2.1 (fun M' => some (Value.int (zi (dv T p))) = some (Value.int (zi (dv T p))) ∧ CRm M0 (de T p) (df b T p) M') (fun M' h' => ⟨rfl, by rw [dfp (Or.inl (by omega))]; exact h'⟩), fun v0 => mdig_b x hs (by omega) dn.2.1 (fun M' => some (Value.int (zi (dv T p))) = some (Value.int (zi (dv T p))) ∧ CRm M0 (de T p) (df b T p) M') (fun y M' h' => ⟨rfl, by rw [dfd (fun o => o.elim (fun o => by omega) (fun o => z (e18.trans o))) y]; exact h'⟩) (fun y => ⟨rfl, by rw [dfn (fun o => o.elim (fun o => by omega) (fun o => z (e18.trans o))) y]; exact hs⟩)⟩⟩⟩
theorem sp_letter {T : Int → Int} {n : Int} {M0 M : am_M} {p f : Int} (x : XM T n M0) (g : CRm M0 p f M) (p0 : 0 ≤ p) (p1 : p ≤ n) : ∃ M', am_call t_Mo_letter [.ref 58] M (some (.int (zi (if isu (T p) then T p - 65 + 1 else 0)))) M' ∧ CRm M0 (if isu (T p) then p + 1 else p) f M' := by
  suffices hh : am_x t_Mo_letter (0, am_ent (am_mL t_Mo_letter) [.ref 58], [], M) (fun rv M' => rv = some (.int (zi (if isu (T p) then T p - 65 + 1 else 0))) ∧ CRm M0 (if isu (T p) then p + 1 else p) f M') by
    obtain ⟨rv, M', c1, c2, c3⟩ := am_call_ex (by exact ⟨Nat.le_of_ble_eq_true rfl, rfl⟩) hh
    subst c2
    exact ⟨M', c1, c3⟩
  have xn := x.2.2.1
  have xs := x.rd g
  have em := xs.1 p p0
  have tr := x.2.2.r (k := p) p0
  refine vc_letter M _ ?_
  rw [g.2.2.1, xs.2.1, em]
  refine ⟨by omega, ⟨⟨by omega, by omega⟩, by decide, by decide⟩, fun u M1 e1 => ?_, fun u => ⟨by rw [if_neg u], by rw [if_neg u]; exact g⟩⟩
  have g1 := crm_p g e1 ⟨by omega, by omega⟩
  have lt := x.2.2.lt (k := p) (by omega)
  have e73 : iv M1 73 p = T p := by
    have := (x.rd g1).1 p p0
    unfold mtb at this
    rw [if_pos (by rw [(x.rd g1).2.1]; exact lt)] at this
    exact this
  rw [g1.2.2.1, show p + 1 - 1 = p by omega, e73, if_pos u, if_pos u]
  exact ⟨by omega, rfl, g1⟩
theorem sp_number {T : Int → Int} {n : Int} {M0 M : am_M} {p : Int} (x : XM T n M0) (g : CRm M0 p (-1) M) (p0 : 0 ≤ p) (p1 : p ≤ n) : ∃ M' r p', am_call t_Mo_readsNumber [.ref 58] M (some (.int (zi r))) M' ∧ CRm M0 p' (df 1 T p) M' ∧ (0 ≤ p' ∧ p' ≤ n) ∧ (0 ≤ r ∧ r < 729000) ∧ (df 1 T p = -1 → p' = ne T p ∧ r = nv T p) := by
  suffices hh : am_x t_Mo_readsNumber (0, am_ent (am_mL t_Mo_readsNumber) [.ref 58], [], M) (fun ra M' => ∃ r p', ra = some (.int (zi r)) ∧ CRm M0 p' (df 1 T p) M' ∧ (0 ≤ p' ∧ p' ≤ n) ∧ (0 ≤ r ∧ r < 729000) ∧ (df 1 T p = -1 → p' = ne T p ∧ r = nv T p)) by
    obtain ⟨ra, M', c1, r, p', c2, c3⟩ := am_call_ex (by exact ⟨Nat.le_of_ble_eq_true rfl, rfl⟩) hh
    subst c2
    exact ⟨M', r, p', c1, c3⟩
  have xn := x.2.2.1
  have dr := x.2.2.der p0 p1
  have nr := x.2.2.ner p0 p1
  have vr := nv_r (T := T) (p := p)
  obtain ⟨M1, c1, g1⟩ := sp_digits x g p0 p1 (Or.inr rfl)
  refine vc_readsNumber M _ ⟨dv T p, M1, c1, fun q => ?_, fun q => ⟨0, de T p, rfl, g1, by omega, by decide, fun z => absurd (g1.2.2.2.trans z) q⟩⟩
  obtain ⟨M3, c3, g3⟩ := sp_letter x g1 (by omega) (by omega)
  have tr := x.2.2.r (k := de T p) (by omega)
  by_cases u : isu (T (de T p))
  · rw [if_pos u] at c3 g3
    have lt := x.2.2.lt (k := de T p) (by omega)
    obtain ⟨M6, c6, g6⟩ := sp_letter x g3 (by omega) (by omega)
    refine ⟨_, M3, c3, ⟨by omega, by omega⟩, fun _ => ⟨_, M6, c6, nv T p, ne T p, ?_, ?_, by omega, by omega, fun _ => ⟨rfl, rfl⟩⟩, fun z => by omega⟩
    · unfold nv
      rw [if_pos u]
      split
      · congr 3; omega
      · congr 3; omega
    · unfold ne
      rw [if_pos u]
      exact g6
  · rw [if_neg u] at c3 g3
    refine ⟨_, M3, c3, by decide, fun z => by omega, fun _ => ⟨nv T p, ne T p, ?_, ?_, by omega, by omega, fun _ => ⟨rfl, rfl⟩⟩⟩
    · unfold nv
      rw [if_neg u]
      congr 3; omega
    · unfold ne
      rw [if_neg u]
      exact g3
theorem sp_mnum {T : Int → Int} {n : Int} {M0 M : am_M} {p f : Int} (x : XM T n M0) (g : CRm M0 p f M) (p0 : 0 ≤ p) (p1 : p ≤ n) : ∃ M' r p', am_call t_Mo_numberBehindBlanks [.ref 58] M (some (.int (zi r))) M' ∧ CRm M0 p' (th f (df 1 T (sk T p))) M' ∧ (0 ≤ p' ∧ p' ≤ n) ∧ (0 ≤ r ∧ r < 729000) ∧ (f = -1 → df 1 T (sk T p) = -1 → p' = ne T (sk T p) ∧ r = nv T (sk T p)) := by
  suffices hh : am_x t_Mo_numberBehindBlanks (0, am_ent (am_mL t_Mo_numberBehindBlanks) [.ref 58], [], M) (fun ra M' => ∃ r p', ra = some (.int (zi r)) ∧ CRm M0 p' (th f (df 1 T (sk T p))) M' ∧ (0 ≤ p' ∧ p' ≤ n) ∧ (0 ≤ r ∧ r < 729000) ∧ (f = -1 → df 1 T (sk T p) = -1 → p' = ne T (sk T p) ∧ r = nv T (sk T p))) by
    obtain ⟨ra, M', c1, r, p', c2, c3⟩ := am_call_ex (by exact ⟨Nat.le_of_ble_eq_true rfl, rfl⟩) hh
    subst c2
    exact ⟨M', r, p', c1, c3⟩
  have r := x.2.2.skr p0 p1
  obtain ⟨M1, c1, g1⟩ := sp_skips x g p0 p1
  refine vc_numberBehindBlanks M _ ⟨M1, c1, fun q => ?_, fun q => ⟨0, sk T p, rfl, ?_, by omega, by decide, fun z => ?_⟩⟩
  · rw [g1.2.2.2] at q
    subst q
    obtain ⟨M2, r2, p2, c2, g2, h1, h2, h3⟩ := sp_number x g1 (by omega) (by omega)
    exact ⟨r2, M2, c2, r2, p2, rfl, by rw [th_o]; exact g2, h1, h2, fun _ => h3⟩
  · rw [g1.2.2.2] at q
    rw [th_n _ q]; exact g1
  · rw [g1.2.2.2] at q
    exact absurd z q
theorem sp_mplain {T : Int → Int} {n : Int} {M0 M : am_M} {p f : Int} (x : XM T n M0) (g : CRm M0 p f M) (p0 : 0 ≤ p) (p1 : p ≤ n) : ∃ M' r p', am_call t_Mo_plainBehindBlanks [.ref 58] M (some (.int (zi r))) M' ∧ CRm M0 p' (th f (df 0 T (sk T p))) M' ∧ (0 ≤ p' ∧ p' ≤ n) ∧ (0 ≤ r ∧ r ≤ 999) ∧ (f = -1 → df 0 T (sk T p) = -1 → p' = de T (sk T p) ∧ r = dv T (sk T p)) := by
  suffices hh : am_x t_Mo_plainBehindBlanks (0, am_ent (am_mL t_Mo_plainBehindBlanks) [.ref 58], [], M) (fun ra M' => ∃ r p', ra = some (.int (zi r)) ∧ CRm M0 p' (th f (df 0 T (sk T p))) M' ∧ (0 ≤ p' ∧ p' ≤ n) ∧ (0 ≤ r ∧ r ≤ 999) ∧ (f = -1 → df 0 T (sk T p) = -1 → p' = de T (sk T p) ∧ r = dv T (sk T p))) by
    obtain ⟨ra, M', c1, r, p', c2, c3⟩ := am_call_ex (by exact ⟨Nat.le_of_ble_eq_true rfl, rfl⟩) hh
    subst c2
    exact ⟨M', r, p', c1, c3⟩
  have r := x.2.2.skr p0 p1
  obtain ⟨M1, c1, g1⟩ := sp_skips x g p0 p1
  refine vc_plainBehindBlanks M _ ⟨M1, c1, fun q => ?_, fun q => ⟨0, sk T p, rfl, ?_, by omega, by decide, fun z => ?_⟩⟩
  · rw [g1.2.2.2] at q
    subst q
    have dr := x.2.2.der (p := sk T p) (by omega) (by omega)
    have vr := dg_is T (sk T p)
    obtain ⟨M2, c2, g2⟩ := sp_digits x g1 (by omega) (by omega) (Or.inl rfl)
    exact ⟨_, M2, c2, _, de T (sk T p), rfl, by rw [th_o]; exact g2, by omega, vr.2.1, fun _ _ => ⟨rfl, rfl⟩⟩
  · rw [g1.2.2.2] at q
    rw [th_n _ q]; exact g1
  · rw [g1.2.2.2] at q
    exact absurd z q
