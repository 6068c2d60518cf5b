/-! the law carries out an operation, from its beginning -/
theorem WO.l2 {f : Int → Int} (w : WO f) : 2 ≤ f 0 → f 5 = 0 := w.2.2.2.2.2.2.2.2.1
theorem WO.sv {f : Int → Int} (w : WO f) : f 4 = 0 ∨ f 4 = 1 := w.2.2.2.2.2.2.1
theorem rsn_1 {b : Int → Int} {L : Lw} {o : Int} (h : ¬ pt b o 0 = 0 ∧ hold L (pt b o 1) = -1) : rsn b L o = 1 := by
  unfold rsn
  rw [if_pos h]
theorem rsn_2 {b : Int → Int} {L : Lw} {o : Int} (h1 : ¬ (¬ pt b o 0 = 0 ∧ hold L (pt b o 1) = -1)) (h : (pt b o 0 = 0 ∧ ¬ hold L (pt b o 1) = -1) ∨ (pt b o 0 = 3 ∧ ¬ hold L (pt b o 2) = -1)) : rsn b L o = 2 := by
  unfold rsn
  rw [if_neg h1, if_pos h]
def N12 (b : Int → Int) (L : Lw) (o : Int) : Prop := ¬ (¬ pt b o 0 = 0 ∧ hold L (pt b o 1) = -1) ∧ ¬ ((pt b o 0 = 0 ∧ ¬ hold L (pt b o 1) = -1) ∨ (pt b o 0 = 3 ∧ ¬ hold L (pt b o 2) = -1))
theorem rsn_3 {b : Int → Int} {L : Lw} {o : Int} (n : N12 b L o) (h : pt b o 0 = 4 ∧ ¬ has L (hold L (pt b o 1)) (pt b o 2)) : rsn b L o = 3 := by
  unfold rsn
  rw [if_neg n.1, if_neg n.2, if_pos h]
theorem rsn_4 {b : Int → Int} {L : Lw} {o : Int} (n : N12 b L o) (n3 : ¬ (pt b o 0 = 4 ∧ ¬ has L (hold L (pt b o 1)) (pt b o 2))) (h : ¬ rfd b L o) : rsn b L o = 4 := by
  unfold rsn
  rw [if_neg n.1, if_neg n.2, if_neg n3, if_pos h]
theorem rsn_00 {b : Int → Int} {L : Lw} {o : Int} (n : N12 b L o) (n3 : ¬ (pt b o 0 = 4 ∧ ¬ has L (hold L (pt b o 1)) (pt b o 2))) (h : rfd b L o) : rsn b L o = 0 := by
  unfold rsn
  rw [if_neg n.1, if_neg n.2, if_neg n3, if_neg (fun q => q h)]
def W0 (b : Int → Int) (o : Int) : Int := if 0 < pt b o 5 then pt b o 6 else 0
def W1 (b : Int → Int) (o : Int) : Int := if 1 < pt b o 5 then pt b o 7 else 0
abbrev okw (L : Lw) (x : Int) : Prop := x < 1000 ∨ ¬ hold L (x - 1000) = -1
theorem rfd_2 {b : Int → Int} {L : Lw} {o : Int} (h : pt b o 5 ≤ 2) : rfd b L o ↔ okw L (W0 b o) ∧ okw L (W1 b o) := by
  unfold rfd okw W0 W1
  constructor
  · intro f
    constructor
    · by_cases q : 0 < pt b o 5
      · rw [if_pos q]; have := f 0 (by omega) q; simpa using this
      · rw [if_neg q]; exact Or.inl (by omega)
    · by_cases q : 1 < pt b o 5
      · rw [if_pos q]; have := f 1 (by omega) q; simpa using this
      · rw [if_neg q]; exact Or.inl (by omega)
  · rintro ⟨f0, f1⟩ k k0 k1
    by_cases q : k = 0
    · subst q
      rw [if_pos k1] at f0
      simpa using f0
    · have q1 : k = 1 := by omega
      subst q1
      rw [if_pos k1] at f1
      simpa using f1
theorem Ww_r {b : Int → Int} {o : Int} (wo : WO (pt b o)) : (0 ≤ W0 b o ∧ (W0 b o ≤ 999 ∨ (1729 ≤ W0 b o ∧ W0 b o < 730000))) ∧ (0 ≤ W1 b o ∧ (W1 b o ≤ 999 ∨ (1729 ≤ W1 b o ∧ W1 b o < 730000))) := by
  have w := wo.wd
  unfold W0 W1
  constructor
  · by_cases q : 0 < pt b o 5
    · have := w 0 (by omega) q
      rw [show (6 : Int) + 0 = 6 by omega] at this
      rw [if_pos q]; omega
    · rw [if_neg q]; omega
  · by_cases q : 1 < pt b o 5
    · have := w 1 (by omega) q
      rw [show (6 : Int) + 1 = 7 by omega] at this
      rw [if_pos q]; omega
    · rw [if_neg q]; omega
noncomputable def ew (L : Lw) (x : Int) : Int := if x < 1000 then x else 2000000 + hold L (x - 1000)
theorem ew_r {L : Lw} {x : Int} (h : -1 ≤ x) : zr (ew L x) := by
  unfold ew
  have := hold_rg L (x - 1000)
  split
  · exact ⟨by omega, by omega⟩
  · exact ⟨by omega, by omega⟩
theorem ew_en {b : Int → Int} {L : Lw} {M : am_M} {o k : Int} (lr : LR L M) (wo : WO (pt b o)) (k0 : 0 ≤ k) (k1 : k < pt b o 5) (h : okw L (pt b o (6 + k))) : en (wd b L o k) = ew L (pt b o (6 + k)) ∧ wd b L o k < 1012 := by
  have w := wo.wd k k0 k1
  unfold wd ew en
  by_cases q : pt b o (6 + k) < 1000
  · rw [if_pos q, if_pos q, if_pos q]; exact ⟨rfl, by omega⟩
  · rw [if_neg q, if_neg q]
    have h1 := hold_cd (h.resolve_left q)
    have h2 := LR_hold lr (x := pt b o (6 + k) - 1000) (by omega)
    rw [if_neg (by omega)]
    exact ⟨by omega, by omega⟩
theorem hd_x (L : Lw) (x : Int) : zr (hold L x) := by have := hold_rg L x; exact ⟨by omega, by omega⟩
section CR
variable {b : Int → Int} {L : Lw} {o day : Int} {M0 : am_M}
theorem cr_290 {x7 : Int} (w : WB b) (ob : OB M0 b) (v : VL L) (lr : LR L M0) (o0 : 0 ≤ o) (o1 : o < nops b) (o2 : o < 16) (hia : ia b (nops b) ≤ 12) (dz : zr day) (k2 : pt b o 0 < 2) (hr : rsn b L o = 0) (h7 : ¬ pt b o 0 = 0 → x7 = hold L (pt b o 1)) :
    am_x t_LAW_carries (290, [.ref 61, .ref 58, .null, .int (zi o), .ref 63, .ref 64, .int (zi day), .int (zi x7), .int (zi (pt b o 0)), .int (zi (pt b o 5)), .int (zi (ew L (W0 b o))), .int (zi (ew L (W1 b o))), .null, .null], [], M0) (Q62 b L o day M0) := by
  have wo := w.op o o0 o1
  have wk := wo.kd
  have wl := wo.ln
  obtain ⟨r1, r2⟩ := Ww_r wo
  obtain ⟨⟨b0, b1⟩, b2, b3, b4, b5, b6, b7, b8⟩ := ob o o0 o1
  have rf := (rfd_2 b6).mp (rsn_0 hr).2.2.2.2
  have fin : ∀ c, 0 ≤ c → c < 12 → (c = if pt b o 0 = 0 then ia b o else hold L (pt b o 1)) → am_x t_LAW_carries (337, [.ref 61, .ref 58, .null, .int (zi o), .ref 63, .ref 64, .int (zi day), .int (zi c), .int (zi (pt b o 0)), .null, .null, .null, .null, .null], [], zup (zup (zup M0 61 (5 * c + 2) (pt b o 5)) 61 (5 * c + 3) (ew L (W0 b o))) 61 (5 * c + 4) (ew L (W1 b o))) (Q62 b L o day M0) := by
    intro c c0 c1 ce
    have z5 : zr (pt b o 5) := ⟨by omega, by omega⟩
    have z0 := ew_r (L := L) (x := W0 b o) (by omega)
    have z1 := ew_r (L := L) (x := W1 b o) (by omega)
    have r61 : ∀ j, 0 ≤ j → iv (zup (zup (zup M0 61 (5 * c + 2) (pt b o 5)) 61 (5 * c + 3) (ew L (W0 b o))) 61 (5 * c + 4) (ew L (W1 b o))) 61 j = if j = 5 * c + 4 then ew L (W1 b o) else if j = 5 * c + 3 then ew L (W0 b o) else if j = 5 * c + 2 then pt b o 5 else iv M0 61 j := fun j j0 => by
      rw [ivs _ _ (by omega) j0 z1, ivs _ _ (by omega) j0 z0, ivs _ _ (by omega) j0 z5]
    refine cr_337 w ob v lr o0 o1 o2 dz c0 c1 ce hr ⟨fun a ha => by rw [zupr _ ha, zupr _ ha, zupr _ ha], fun j j0 j1 nj => ?_, fun k0 => ?_, fun _ => ⟨?_, ?_, fun k k0 k1 => ?_⟩⟩
    · rw [r61 j j0, if_neg (by omega), if_neg (by omega), if_neg (by omega)]
    · rw [r61 _ (by omega), if_neg (by omega), if_neg (by omega), if_neg (by omega)]
      rw [if_neg k0] at ce
      have h1 := hold_cd ((rsn_0 hr).1 k0)
      rw [← ce] at h1
      have := wo.cd
      exact (lr.2.1 c c0 c1 (by rw [h1.2.2]; omega)).1
    · rw [r61 _ (by omega), if_neg (by omega), if_neg (by omega), if_pos rfl, eff_len, if_pos ⟨rfl, k2⟩]
    · rw [eff_len, if_pos ⟨rfl, k2⟩]; exact b6
    · rw [eff_len, if_pos ⟨rfl, k2⟩] at k1
      rw [r61 _ (by omega), eff_tx, if_pos rfl, if_pos k2]
      by_cases q : k = 0
      · subst q
        have e0 : W0 b o = pt b o 6 := if_pos k1
        have := ew_en lr wo (k := 0) (by omega) k1 (by rw [show (6 : Int) + 0 = 6 by omega, ← e0]; exact rf.1)
        rw [if_neg (by omega), if_pos (by omega), this.1, e0]
        exact ⟨rfl, this.2⟩
      · have q1 : k = 1 := by omega
        subst q1
        have e1 : W1 b o = pt b o 7 := if_pos k1
        have := ew_en lr wo (k := 1) (by omega) k1 (by rw [show (6 : Int) + 1 = 7 by omega, ← e1]; exact rf.2)
        rw [if_pos (by omega), this.1, e1]
        exact ⟨rfl, this.2⟩
  refine vc_w_carries_290 o day x7 (pt b o 0) (pt b o 5) (ew L (W0 b o)) (ew L (W1 b o)) M0 _ ⟨⟨by omega, by omega⟩, fun k0 => ?_, fun k0 => ?_⟩
  · have i1 := ia_s b o0
    rw [if_pos k0] at i1
    have i2 := ia_mono b (m := o + 1) (n := nops b) (by omega) (by omega)
    have i3 := ia_nn b o
    exact ⟨_, M0, sp_w_identity ob o0 (by omega) (by omega), ⟨by omega, by omega⟩, fun M4 e4 => ⟨⟨by omega, by omega⟩, fun M6 e6 => ⟨⟨by omega, by omega⟩, fun M8 e8 => by
      rw [e8, e6, e4]
      exact fin _ i3 (by omega) (if_pos k0).symm⟩⟩⟩
  · have h1 := hold_cd ((rsn_0 hr).1 k0)
    have := wo.cd
    have h2 := LR_hold lr (x := pt b o 1) (by omega)
    rw [h7 k0]
    exact ⟨⟨by omega, by omega⟩, fun M4 e4 => ⟨⟨by omega, by omega⟩, fun M6 e6 => ⟨⟨by omega, by omega⟩, fun M8 e8 => by
      rw [e8, e6, e4]
      exact fin _ h1.1 h2 (if_neg k0).symm⟩⟩⟩
theorem cr_234 {x7 : Int} (w : WB b) (ob : OB M0 b) (v : VL L) (lr : LR L M0) (o0 : 0 ≤ o) (o1 : o < nops b) (o2 : o < 16) (hia : ia b (nops b) ≤ 12) (dz : zr day) (k2 : pt b o 0 < 2) (hr : rsn b L o = 0) (h7 : ¬ pt b o 0 = 0 → x7 = hold L (pt b o 1)) :
    am_x t_LAW_carries (234, [.ref 61, .ref 58, .null, .int (zi o), .ref 63, .ref 64, .int (zi day), .int (zi x7), .int (zi (pt b o 0)), .int (zi (pt b o 5)), .int (zi (W0 b o)), .int (zi (W1 b o)), .null, .null], [], M0) (Q62 b L o day M0) := by
  have nx := cr_290 w ob v lr o0 o1 o2 hia dz k2 hr h7
  obtain ⟨⟨r1, r2⟩, ⟨r3, r4⟩⟩ := Ww_r (w.op o o0 o1)
  have z0 : zr (W0 b o) := ⟨by omega, by omega⟩
  have z1 : zr (W1 b o) := ⟨by omega, by omega⟩
  unfold ew at nx
  refine vc_w_carries_234 o day x7 (pt b o 0) (pt b o 5) (W0 b o) (W1 b o) M0 _ ⟨z0, fun q0 => ?_, fun q0 => ?_⟩
  · rw [if_pos q0] at nx
    refine ⟨z1, fun q1 => ?_, fun q1 => ?_⟩
    · rw [if_pos q1] at nx; exact nx
    · rw [if_neg (by omega)] at nx
      exact ⟨_, M0, sp_w_at v lr (by omega) ⟨by omega, by omega⟩, nx⟩
  · rw [if_neg (c := W0 b o < 1000) (by omega)] at nx
    refine ⟨_, M0, sp_w_at v lr (by omega) ⟨by omega, by omega⟩, z1, fun q1 => ?_, fun q1 => ?_⟩
    · rw [if_pos q1] at nx; exact nx
    · rw [if_neg (by omega)] at nx
      exact ⟨_, M0, sp_w_at v lr (by omega) ⟨by omega, by omega⟩, nx⟩
theorem cr_182 {x7 : Int} (w : WB b) (ob : OB M0 b) (v : VL L) (lr : LR L M0) (o0 : 0 ≤ o) (o1 : o < nops b) (o2 : o < 16) (hia : ia b (nops b) ≤ 12) (dz : zr day) (k2 : pt b o 0 < 2) (n : N12 b L o) (h7 : ¬ pt b o 0 = 0 → x7 = hold L (pt b o 1)) :
    am_x t_LAW_carries (182, [.ref 61, .ref 58, .null, .int (zi o), .ref 63, .ref 64, .int (zi day), .int (zi x7), .int (zi (pt b o 0)), .int (zi (pt b o 5)), .int (zi (W0 b o)), .int (zi (W1 b o)), .null, .null], [], M0) (Q62 b L o day M0) := by
  have wk := (w.op o o0 o1).kd
  obtain ⟨⟨r1, r2⟩, ⟨r3, r4⟩⟩ := Ww_r (w.op o o0 o1)
  have z0 : zr (W0 b o) := ⟨by omega, by omega⟩
  have z1 : zr (W1 b o) := ⟨by omega, by omega⟩
  have rf := rfd_2 (L := L) (ob o o0 o1).2.2.2.2.2.1
  have n3 : ¬ (pt b o 0 = 4 ∧ ¬ has L (hold L (pt b o 1)) (pt b o 2)) := fun q => by omega
  have yes : okw L (W0 b o) → okw L (W1 b o) → am_x t_LAW_carries (234, [.ref 61, .ref 58, .null, .int (zi o), .ref 63, .ref 64, .int (zi day), .int (zi x7), .int (zi (pt b o 0)), .int (zi (pt b o 5)), .int (zi (W0 b o)), .int (zi (W1 b o)), .null, .null], [], M0) (Q62 b L o day M0) := fun q0 q1 => cr_234 w ob v lr o0 o1 o2 hia dz k2 (rsn_00 n n3 (rf.mpr ⟨q0, q1⟩)) h7
  have no : ¬ (okw L (W0 b o) ∧ okw L (W1 b o)) → Q62 b L o day M0 (some (.int (zi 4))) M0 := fun q => cr_no lr (fun _ _ _ _ => rfl) (rsn_4 n n3 (fun z => q (rf.mp z))) (by omega)
  refine vc_w_carries_182 o day x7 (pt b o 0) (pt b o 5) (W0 b o) (W1 b o) M0 _ ⟨⟨by omega, by omega⟩, fun _ => ⟨z0, fun q0 => ⟨z1, fun q1 => yes (Or.inl q0) (Or.inl q1), fun q1 => ⟨_, M0, sp_w_at v lr (by omega) ⟨by omega, by omega⟩, hd_x _ _, fun e => no (fun z => (z.2.resolve_left (by omega)) e), fun e => yes (Or.inl q0) (Or.inr e)⟩⟩, fun q0 => ⟨_, M0, sp_w_at v lr (by omega) ⟨by omega, by omega⟩, hd_x _ _, fun e => no (fun z => (z.1.resolve_left (by omega)) e), fun e0 => ⟨z1, fun q1 => yes (Or.inr e0) (Or.inl q1), fun q1 => ⟨_, M0, sp_w_at v lr (by omega) ⟨by omega, by omega⟩, hd_x _ _, fun e => no (fun z => (z.2.resolve_left (by omega)) e), fun e => yes (Or.inr e0) (Or.inr e)⟩⟩⟩⟩, fun q => by omega⟩
/-- repeal, renumber and change come here with their words changed -/
theorem cr_182b {M : am_M} (w : WB b) (ob : OB M0 b) (v : VL L) (lr : LR L M0) (o0 : 0 ≤ o) (o1 : o < nops b) (o2 : o < 16) (hia : ia b (nops b) ≤ 12) (dz : zr day) (k2 : 2 ≤ pt b o 0) (hr : rsn b L o = 0) (p : P62 b L o day (hold L (pt b o 1)) M0 M) :
    am_x t_LAW_carries (182, [.ref 61, .ref 58, .null, .int (zi o), .ref 63, .ref 64, .int (zi day), .int (zi (hold L (pt b o 1))), .int (zi (pt b o 0)), .int (zi (pt b o 5)), .int (zi (W0 b o)), .int (zi (W1 b o)), .null, .null], [], M) (Q62 b L o day M0) := by
  have wk := (w.op o o0 o1).kd
  have wc := (w.op o o0 o1).cd
  have h1 := hold_cd ((rsn_0 hr).1 (by omega))
  have h2 := LR_hold lr (x := pt b o 1) (by omega)
  exact vc_w_carries_182 o day _ (pt b o 0) (pt b o 5) (W0 b o) (W1 b o) M _ ⟨⟨by omega, by omega⟩, fun q => by omega, fun _ => cr_337 w ob v lr o0 o1 o2 dz h1.1 h2 (if_neg (by omega)).symm hr p⟩
/-- the words of a clause are changed -/
theorem cr_118 (w : WB b) (ob : OB M0 b) (v : VL L) (lr : LR L M0) (o0 : 0 ≤ o) (o1 : o < nops b) (o2 : o < 16) (hia : ia b (nops b) ≤ 12) (dz : zr day) (k4 : pt b o 0 = 4) (n : N12 b L o) : am_x t_LAW_carries (118, [.ref 61, .ref 58, .null, .int (zi o), .ref 63, .ref 64, .int (zi day), .int (zi (hold L (pt b o 1))), .int (zi (pt b o 0)), .int (zi (pt b o 5)), .int (zi (W0 b o)), .int (zi (W1 b o)), .int (zi 0), .int (zi 0)], [], M0) (Q62 b L o day M0) := by
  have wo := w.op o o0 o1
  have wc := wo.cd
  have w4 := wo.f4 k4
  have ws := wo.sc
  have wl := wo.l2 (by omega)
  have wf := wo.fs
  have hn : ¬ hold L (pt b o 1) = -1 := fun q => n.1 ⟨by omega, q⟩
  obtain ⟨c0, c1, c2⟩ := hold_cd hn
  have c12 := LR_hold lr (x := pt b o 1) (by omega)
  obtain ⟨⟨b0, b1⟩, b2, b3, b4, b5, b6, b7, b8⟩ := ob o o0 o1
  have b2 := b2 (by omega)
  have b3 := b3 k4
  have rf : rfd b L o := fun k k0 k1 => by omega
  have eE : ∀ k, (eff b L o day (hold L (pt b o 1))).tx (hold L (pt b o 1)) k = if L.tx (hold L (pt b o 1)) k = pt b o 2 then pt b o 3 else L.tx (hold L (pt b o 1)) k := fun k => by
    rw [eff_tx, if_pos rfl, if_neg (by omega)]
    by_cases q : L.tx (hold L (pt b o 1)) k = pt b o 2
    · rw [if_pos ⟨k4, q⟩, if_pos q]
    · rw [if_neg (fun z => q z.2), if_neg q]
  have eL : (eff b L o day (hold L (pt b o 1))).len (hold L (pt b o 1)) = L.len (hold L (pt b o 1)) := by rw [eff_len, if_neg (fun z => by omega)]
  obtain ⟨f1, f2, f3, f4, f5⟩ := lr.2.1 _ c0 c12 (by rw [c2]; omega)
  have hs := fun (k : Int) (k0 : 0 ≤ k) (k1 : k < L.len (hold L (pt b o 1))) => (f5 k k0 k1).1
  have hb := fun (k : Int) (k0 : 0 ≤ k) (k1 : k < L.len (hold L (pt b o 1))) => (f5 k k0 k1).2
  have hdef : has L (hold L (pt b o 1)) (pt b o 2) ↔ ∃ k, 0 ≤ k ∧ k < L.len (hold L (pt b o 1)) ∧ L.tx (hold L (pt b o 1)) k = pt b o 2 := Iff.rfl
  have v5 := (v.ln _ c0 c1 (by rw [c2]; omega)).1
  generalize hc : hold L (pt b o 1) = c at *
  refine loop_up (fun i (s : Int × am_M) => (118, [.ref 61, .ref 58, .null, .int (zi o), .ref 63, .ref 64, .int (zi day), .int (zi c), .int (zi (pt b o 0)), .int (zi (pt b o 5)), .int (zi (W0 b o)), .int (zi (W1 b o)), .int (zi s.1), .int (zi i)], [], s.2)) (L.len c) (fun i s => (0 ≤ s.1 ∧ s.1 ≤ i) ∧ (s.1 = 0 ↔ ∀ k, 0 ≤ k → k < i → ¬ L.tx c k = pt b o 2) ∧ (∀ a, ¬ a = 61 → s.2 a = M0 a) ∧ (∀ j, 0 ≤ j → j < 64 → ¬ (5 * c + 3 ≤ j ∧ j < 5 * c + 3 + i) → iv s.2 61 j = iv M0 61 j) ∧ ∀ k, 0 ≤ k → k < i → iv s.2 61 (5 * c + 3 + k) = en (if L.tx c k = pt b o 2 then pt b o 3 else L.tx c k)) ?_ ?_ 0 (0, M0) (by omega) v5 ⟨⟨Int.le_refl _, Int.le_refl _⟩, ⟨fun _ k k0 k1 => by omega, fun _ => rfl⟩, fun _ _ => rfl, fun _ _ _ _ => rfl, fun k k0 k1 => by omega⟩
  · rintro ⟨s, M⟩ ⟨i0, i1, i2, i3, i4⟩
    dsimp only at i0 i1 i2 i3 i4 ⊢
    have e2 : iv M 61 (5 * c + 2) = L.len c := by rw [i3 _ (by omega) (by omega) (by omega), f2]
    refine vc_w_carries_118 o day c (pt b o 0) (pt b o 5) (W0 b o) (W1 b o) s (L.len c) M _ ⟨⟨by omega, by omega⟩, ⟨by omega, by omega⟩, fun q => by omega, fun _ => ⟨⟨by omega, by omega⟩, fun q => ?_, fun q => ?_⟩⟩
    · have nh : ¬ has L c (pt b o 2) := fun z => by
        obtain ⟨k, k0, k1, k2⟩ := hdef.mp z
        exact i1.mp q k k0 k1 k2
      have lr' : LR L M := LR_cells lr (fun j j0 j1 => by
        by_cases z : 5 * c + 3 ≤ j ∧ j < 5 * c + 3 + L.len c
        · have h1 := i4 (j - (5 * c + 3)) (by omega) (by omega)
          have h2 := hs (j - (5 * c + 3)) (by omega) (by omega)
          rw [if_neg (i1.mp q _ (by omega) (by omega)), ← h2, show 5 * c + 3 + (j - (5 * c + 3)) = j by omega] at h1
          exact h1
        · exact i3 j j0 j1 z) (i2 64 (by decide))
      exact cr_no lr' (fun a a1 _ _ => i2 a a1) (rsn_3 n ⟨k4, by rw [hc]; exact nh⟩) (by omega)
    · have hh : has L c (pt b o 2) := hdef.mpr (Classical.byContradiction fun z => q (i1.mpr fun k k0 k1 k2 => z ⟨k, k0, k1, k2⟩))
      have hr : rsn b L o = 0 := rsn_00 n (fun z => z.2 (by rw [hc]; exact hh)) rf
      have := cr_182b (M := M) w ob v lr o0 o1 o2 hia dz (by omega) hr (by
        rw [hc]
        refine ⟨i2, fun j j0 j1 nj => i3 j j0 j1 (by omega), fun _ => by rw [i3 _ (by omega) (by omega) (by omega), f1], fun _ => ⟨by rw [eL]; exact e2, by rw [eL]; exact f3, fun k k0 k1 => ?_⟩⟩
        rw [eL] at k1
        rw [eE, i4 k k0 k1]
        refine ⟨rfl, ?_⟩
        have := hb k k0 k1
        split <;> omega)
      rw [hc] at this
      exact this
  · rintro i ⟨s, M⟩ i0 i1 ⟨j0, j1, j2, j3, j4⟩ kk
    dsimp only at j0 j1 j2 j3 j4 kk ⊢
    have e2 : iv M 61 (5 * c + 2) = L.len c := by rw [j3 _ (by omega) (by omega) (by omega), f2]
    have ei : iv M 61 (5 * c + 3 + i) = en (L.tx c i) := by rw [j3 _ (by omega) (by omega) (by omega), hs i i0 i1]
    have eo := oX_row (j2 58 (by decide)) o
    have zT : zr (oT M o) := zr_zl2i _
    refine vc_w_carries_118 o day c (pt b o 0) (pt b o 5) (W0 b o) (W1 b o) s i M _ ⟨⟨by omega, by omega⟩, ⟨by omega, by omega⟩, fun _ => ⟨⟨by omega, by omega⟩, ⟨o0, o2⟩, fun q => ⟨⟨o0, o2⟩, ⟨by omega, by omega⟩, fun M4 e4 => ?_⟩, fun q => ?_⟩, fun q => by omega⟩
    · rw [ei, eo.2.2.1, ← b2] at q
      have q := en_inj (by omega) q
      refine kk (s + 1, M4) ⟨by dsimp only; omega, ⟨fun z => by dsimp only at z; omega, fun z => absurd q (z i i0 (by omega))⟩, fun a ha => ?_, fun j k0 k1 nj => ?_, fun k k0 k1 => ?_⟩
      · dsimp only; rw [e4, zupr _ ha, j2 a ha]
      · dsimp only; rw [e4, ivs _ _ (by omega) k0 zT, if_neg (by omega), j3 j k0 k1 (by omega)]
      · dsimp only
        rw [e4, ivs _ _ (by omega) (by omega) zT]
        by_cases z : k = i
        · subst z
          rw [if_pos rfl, if_pos q, eo.2.2.2, ← b3, en_pl (by omega)]
        · rw [if_neg (by omega)]
          exact j4 k k0 (by omega)
    · rw [ei, eo.2.2.1, ← b2] at q
      have q : ¬ L.tx c i = pt b o 2 := fun z => q (by rw [z, en_pl (by omega)])
      refine kk (s, M) ⟨by dsimp only; omega, ⟨fun z k k0 k1 => ?_, fun z => j1.mpr fun k k0 k1 => z k k0 (by omega)⟩, j2, fun j k0 k1 nj => j3 j k0 k1 (by omega), fun k k0 k1 => ?_⟩
      · by_cases y : k = i
        · rw [y]; exact q
        · exact j1.mp z k k0 (by omega)
      · dsimp only
        by_cases y : k = i
        · subst y
          rw [if_neg q]; exact ei
        · exact j4 k k0 (by omega)
theorem cr_106 {x7 : Int} (w : WB b) (ob : OB M0 b) (v : VL L) (lr : LR L M0) (o0 : 0 ≤ o) (o1 : o < nops b) (o2 : o < 16) (hia : ia b (nops b) ≤ 12) (dz : zr day) (n : N12 b L o) (h7 : ¬ pt b o 0 = 0 → x7 = hold L (pt b o 1)) :
    am_x t_LAW_carries (106, [.ref 61, .ref 58, .null, .int (zi o), .ref 63, .ref 64, .int (zi day), .int (zi x7), .int (zi (pt b o 0)), .int (zi (pt b o 5)), .int (zi (W0 b o)), .int (zi (W1 b o)), .null, .null], [], M0) (Q62 b L o day M0) := by
  have wo := w.op o o0 o1
  have wk := wo.kd
  have wc := wo.cd
  refine vc_w_carries_106 o day x7 (pt b o 0) (pt b o 5) (W0 b o) (W1 b o) M0 _ ⟨⟨by omega, by omega⟩, fun k4 => ?_, fun k4 => ?_⟩
  · rw [h7 (by omega)]
    exact cr_118 w ob v lr o0 o1 o2 hia dz k4 n
  · by_cases k2 : pt b o 0 < 2
    · exact cr_182 w ob v lr o0 o1 o2 hia dz k2 n h7
    · have l2 := wo.l2 (by omega)
      have hr : rsn b L o = 0 := rsn_00 n (fun z => k4 z.1) (fun k k0 k1 => by omega)
      obtain ⟨c0, c1, c2⟩ := hold_cd ((rsn_0 hr).1 (by omega))
      have c12 := LR_hold lr (x := pt b o 1) (by omega)
      obtain ⟨f1, f2, f3, f4, f5⟩ := lr.2.1 _ c0 c12 (by rw [c2]; omega)
      rw [h7 (by omega)]
      refine cr_182b w ob v lr o0 o1 o2 hia dz (by omega) hr ⟨fun _ _ => rfl, fun _ _ _ _ => rfl, fun _ => f1, fun _ => ?_⟩
      rw [eff_len, if_neg (fun z => by omega)]
      refine ⟨f2, f3, fun k k0 k1 => ?_⟩
      rw [eff_tx, if_pos rfl, if_neg (by omega), if_neg (fun z => k4 z.1)]
      exact f5 k k0 k1
theorem cr_61 (w : WB b) (ob : OB M0 b) (v : VL L) (lr : LR L M0) (o0 : 0 ≤ o) (o1 : o < nops b) (o2 : o < 16) (hia : ia b (nops b) ≤ 12) (dz : zr day) : am_x t_LAW_carries (61, [.ref 61, .ref 58, .null, .int (zi o), .ref 63, .ref 64, .int (zi day), .int (zi (hold L (pt b o 1))), .int (zi (pt b o 0)), .int (zi (pt b o 5)), .int (zi (W0 b o)), .int (zi (W1 b o)), .null, .null], [], M0) (Q62 b L o day M0) := by
  have wo := w.op o o0 o1
  have wk := wo.kd
  have wc := wo.cd
  have ws := wo.fs
  have w3 := wo.f3
  have nx := fun n => cr_106 (x7 := hold L (pt b o 1)) w ob v lr o0 o1 o2 hia dz n (fun _ => rfl)
  have b2 := (ob o o0 o1).2.1
  have no : ∀ r, rsn b L o = r → ¬ r = 0 → Q62 b L o day M0 (some (.int (zi r))) M0 := fun r h1 h2 => cr_no lr (fun _ _ _ _ => rfl) h1 h2
  refine vc_w_carries_61 o day (hold L (pt b o 1)) (pt b o 0) (pt b o 5) (W0 b o) (W1 b o) M0 _ ⟨⟨by omega, by omega⟩, fun k0 => ⟨hd_x _ _, fun q => no 1 (rsn_1 ⟨by omega, q⟩) (by omega), fun q => ⟨fun k3 => ⟨⟨o0, o2⟩, hold L (pt b o 2), M0, ?_, hd_x _ _, fun e => nx ⟨fun z => q z.2, fun z => ?_⟩, fun e => no 2 (rsn_2 (fun z => q z.2) (Or.inr ⟨k3, e⟩)) (by omega)⟩, fun k3 => nx ⟨fun z => q z.2, fun z => ?_⟩⟩⟩, fun k0 => ⟨fun k0 => ⟨hd_x _ _, fun q => nx ⟨fun z => z.1 k0, fun z => ?_⟩, fun q => no 2 (rsn_2 (fun z => z.1 k0) (Or.inl ⟨k0, q⟩)) (by omega)⟩, fun q => by omega⟩⟩
  · rw [← b2 (by omega)]
    have := w3 k3
    exact sp_w_at v lr (by omega) ⟨by omega, by omega⟩
  · rcases z with z | z
    · omega
    · exact z.2 e
  · rcases z with z | z
    · omega
    · exact k3 z.1
  · rcases z with z | z
    · exact z.2 q
    · omega
theorem sp_w_carries (w : WB b) (ob : OB M0 b) (v : VL L) (lr : LR L M0) (o0 : 0 ≤ o) (o1 : o < nops b) (o2 : o < 16) (hia : ia b (nops b) ≤ 12) (dz : zr day) : ∃ (r : Int) (M' : am_M), am_call t_LAW_carries [.ref 61, .ref 58, .ref 59, .int (zi o), .ref 63, .ref 64, .int (zi day)] M0 (some (.int (zi r))) M' ∧ LR (ops b L o day) M' ∧ ∀ a, ¬ a = 61 → ¬ a = 63 → ¬ a = 64 → M' a = M0 a := by
  have nx := cr_61 w ob v lr o0 o1 o2 hia dz
  have wo := w.op o o0 o1
  have wc := wo.cd
  obtain ⟨⟨b0, b1⟩, b2, b3, b4, b5, b6, b7, b8⟩ := ob o o0 o1
  have key : am_x t_LAW_carries (0, am_ent (am_mL t_LAW_carries) [.ref 61, .ref 58, .ref 59, .int (zi o), .ref 63, .ref 64, .int (zi day)], [], M0) (Q62 b L o day M0) := by
    refine vc_w_carries o day M0 _ ⟨⟨o0, o2⟩, hold L (pt b o 1), M0, by rw [← b1]; exact sp_w_at v lr (by omega) ⟨by omega, by omega⟩, ⟨o0, o2⟩, ⟨o0, o2⟩, ?_⟩
    rw [b5, ← b0]
    unfold W0 W1 at nx
    refine ⟨fun q0 => ⟨⟨o0, o2⟩, fun q1 => ⟨⟨o0, o2⟩, ?_⟩, fun q1 => ?_⟩, fun q0 => ?_⟩
    · rw [if_pos q0, if_pos q1, b7 q0, b8 q1] at nx
      exact nx
    · rw [if_pos q0, if_neg (by omega), b7 q0] at nx
      exact nx
    · rw [if_neg (by omega), if_neg (by omega)] at nx
      exact nx
  obtain ⟨rv, M', h1, ⟨r, h2⟩, h3, h4⟩ := am_call_ex ⟨Nat.le_of_ble_eq_true rfl, rfl⟩ key
  subst h2
  exact ⟨r, M', h1, h3, h4⟩
end CR
