/-! out of the proof of whole: text -/
abbrev isg (c : Int) : Prop := 48 ≤ c ∧ c ≤ 57
abbrev isu (c : Int) : Prop := 65 ≤ c ∧ c ≤ 90
abbrev isl (c : Int) : Prop := 97 ≤ c ∧ c ≤ 122
def TX (T : Int → Int) (n : Int) : Prop := (0 ≤ n ∧ n ≤ 120) ∧ (∀ k, 0 ≤ k → k < n → 0 ≤ T k ∧ T k ≤ 127) ∧ ∀ k, n ≤ k → T k = -1
theorem TX.r {T : Int → Int} {n : Int} (x : TX T n) {k : Int} (k0 : 0 ≤ k) : -1 ≤ T k ∧ T k ≤ 127 := by
  by_cases h : k < n
  · have := x.2.1 k k0 h; omega
  · rw [x.2.2 k (by omega)]; omega
theorem TX.lt {T : Int → Int} {n : Int} (x : TX T n) {k : Int} (h : ¬ T k = -1) : k < n := by
  by_cases q : k < n
  · exact q
  · exact absurd (x.2.2 k (by omega)) h
def th (f e : Int) : Int := if f = -1 then e else f
theorem th_o (e : Int) : th (-1) e = e := if_pos rfl
theorem th_n {f : Int} (e : Int) (h : ¬ f = -1) : th f e = f := if_neg h
theorem th_1 (f : Int) : th f (-1) = f := by
  unfold th
  split
  · exact Eq.symm ‹_›
  · rfl
theorem th_th (f : Int) {p : Int} (x : Int) (h : 0 ≤ p) : th (th f p) x = th f p := by
  by_cases q : f = -1
  · rw [q, th_o, th_n _ (by omega)]
  · rw [th_n _ q, th_n _ q]
def skN (T : Int → Int) : Nat → Int → Int
  | 0, p => p
  | k + 1, p => if T p = 32 then skN T k (p + 1) else p
def sk (T : Int → Int) (p : Int) : Int := skN T (121 - p).toNat p
theorem sk_s (T : Int → Int) {p : Int} (h : p ≤ 120) : sk T p = if T p = 32 then sk T (p + 1) else p := by
  unfold sk
  rw [show (121 - p).toNat = (121 - (p + 1)).toNat + 1 by omega]
  rfl
theorem sk_y {T : Int → Int} {p : Int} (h : p ≤ 120) (q : T p = 32) : sk T (p + 1) = sk T p := by rw [sk_s T h, if_pos q]
theorem sk_n {T : Int → Int} {p : Int} (h : p ≤ 120) (q : ¬ T p = 32) : sk T p = p := by rw [sk_s T h, if_neg q]
theorem sk_r {T : Int → Int} {n : Int} (x : TX T n) : ∀ (k : Nat) (p : Int), n - p ≤ k → 0 ≤ p → p ≤ n → p ≤ sk T p ∧ sk T p ≤ n ∧ ¬ T (sk T p) = 32 := by
  intro k
  induction k with
  | zero =>
    intro p h h0 h1
    have := x.1
    have e : T p = -1 := x.2.2 p (by omega)
    rw [sk_n (by omega) (by rw [e]; decide), e]
    exact ⟨by omega, by omega, by decide⟩
  | succ k ih =>
    intro p h h0 h1
    have := x.1
    by_cases q : T p = 32
    · have lt := x.lt (k := p) (by omega)
      have := ih (p + 1) (by omega) (by omega) (by omega)
      rw [sk_y (by omega) q] at this
      exact ⟨by omega, this.2.1, this.2.2⟩
    · rw [sk_n (by omega) q]
      exact ⟨by omega, h1, q⟩
theorem TX.skr {T : Int → Int} {n : Int} (x : TX T n) {p : Int} (h0 : 0 ≤ p) (h1 : p ≤ n) : p ≤ sk T p ∧ sk T p ≤ n ∧ ¬ T (sk T p) = 32 := sk_r x (n - p).toNat p (by omega) h0 h1
theorem sk_sk {T : Int → Int} {n : Int} (x : TX T n) {p : Int} (h0 : 0 ≤ p) (h1 : p ≤ n) : sk T (sk T p) = sk T p := by
  have := x.skr h0 h1
  have := x.1
  exact sk_n (by omega) (x.skr h0 h1).2.2
def dgN (T : Int → Int) : Nat → Int → Int → Int × Int
  | 0, p, v => (p, v)
  | k + 1, p, v => if isg (T p) then dgN T k (p + 1) (v * 10 + T p - 48) else (p, v)
theorem dgN_s (T : Int → Int) (k : Nat) (p v : Int) : dgN T (k + 1) p v = if isg (T p) then dgN T k (p + 1) (v * 10 + T p - 48) else (p, v) := rfl
def de (T : Int → Int) (p : Int) : Int := (dgN T 3 p 0).1
def dv (T : Int → Int) (p : Int) : Int := (dgN T 3 p 0).2
def df (b : Int) (T : Int → Int) (p : Int) : Int := if dv T p < b ∨ de T p = p then p else if isg (T (de T p)) then de T p else -1
theorem dg_is (T : Int → Int) (p : Int) : (p ≤ de T p ∧ de T p ≤ p + 3) ∧ (0 ≤ dv T p ∧ dv T p ≤ 999) ∧ (de T p = p → dv T p = 0) ∧ ∀ k, p ≤ k → k < de T p → isg (T k) := by
  unfold de dv
  unfold dgN dgN dgN dgN
  by_cases h0 : isg (T p)
  · rw [if_pos h0]
    by_cases h1 : isg (T (p + 1))
    · rw [if_pos h1]
      by_cases h2 : isg (T (p + 1 + 1))
      · rw [if_pos h2]
        dsimp only
        refine ⟨by omega, by omega, by omega, fun k k0 k1 => ?_⟩
        have : k = p ∨ k = p + 1 ∨ k = p + 1 + 1 := by omega
        rcases this with e | e | e <;> (rw [e]; assumption)
      · rw [if_neg h2]
        dsimp only
        refine ⟨by omega, by omega, by omega, fun k k0 k1 => ?_⟩
        have : k = p ∨ k = p + 1 := by omega
        rcases this with e | e <;> (rw [e]; assumption)
    · rw [if_neg h1]
      dsimp only
      refine ⟨by omega, by omega, by omega, fun k k0 k1 => ?_⟩
      have : k = p := by omega
      rw [this]; exact h0
  · rw [if_neg h0]
    dsimp only
    exact ⟨by omega, by omega, by omega, fun k k0 k1 => by omega⟩
theorem TX.der {T : Int → Int} {n : Int} (x : TX T n) {p : Int} (_ : 0 ≤ p) (h1 : p ≤ n) : p ≤ de T p ∧ de T p ≤ n ∧ de T p ≤ p + 3 := by
  have h := dg_is T p
  refine ⟨h.1.1, ?_, h.1.2⟩
  by_cases q : de T p = p
  · omega
  · have := h.2.2.2 (de T p - 1) (by omega) (by omega)
    have := x.lt (k := de T p - 1) (by omega)
    omega
def ne (T : Int → Int) (p : Int) : Int := if isu (T (de T p)) then (if isu (T (de T p + 1)) then de T p + 1 + 1 else de T p + 1) else de T p
def nv (T : Int → Int) (p : Int) : Int := if isu (T (de T p)) then (if isu (T (de T p + 1)) then dv T p * 729 + (T (de T p) - 65 + 1) * 27 + (T (de T p + 1) - 65 + 1) else dv T p * 729 + (T (de T p) - 65 + 1) * 27) else dv T p * 729
theorem TX.ner {T : Int → Int} {n : Int} (x : TX T n) {p : Int} (h0 : 0 ≤ p) (h1 : p ≤ n) : p ≤ ne T p ∧ ne T p ≤ n := by
  have h := x.der h0 h1
  unfold ne
  split
  · rename_i q
    have := x.lt (k := de T p) (by omega)
    split
    · rename_i q2
      have := x.lt (k := de T p + 1) (by omega)
      omega
    · omega
  · omega
theorem nv_r {T : Int → Int} {p : Int} : 0 ≤ nv T p ∧ nv T p < 729000 ∧ (¬ dv T p = 0 → 729 ≤ nv T p) := by
  have h := dg_is T p
  unfold nv
  split
  · split <;> omega
  · omega
theorem df_o {T : Int → Int} {b p : Int} (h : df b T p = -1) (h0 : 0 ≤ p) : ¬ dv T p < b ∧ ¬ de T p = p ∧ ¬ isg (T (de T p)) := by
  have := dg_is T p
  unfold df at h
  by_cases q : dv T p < b ∨ de T p = p
  · rw [if_pos q] at h; omega
  · rw [if_neg q] at h
    by_cases q2 : isg (T (de T p))
    · rw [if_pos q2] at h; omega
    · exact ⟨fun z => q (Or.inl z), fun z => q (Or.inr z), q2⟩
abbrev mt0 (T : Int → Int) (p : Int) : Prop := T (p + 0) = 105 ∧ T (p + 1) = 110 ∧ T (p + 2) = 115 ∧ T (p + 3) = 101 ∧ T (p + 4) = 114 ∧ T (p + 5) = 116 ∧ ¬ isl (T (p + 6))
theorem mt0_r {T : Int → Int} {n : Int} (x : TX T n) {p : Int} (m : mt0 T p) : p + 6 ≤ n := by
  have := x.lt (k := p + 5) (by rw [m.2.2.2.2.2.1]; decide)
  omega
abbrev mt1 (T : Int → Int) (p : Int) : Prop := T (p + 0) = 114 ∧ T (p + 1) = 101 ∧ T (p + 2) = 112 ∧ T (p + 3) = 108 ∧ T (p + 4) = 97 ∧ T (p + 5) = 99 ∧ T (p + 6) = 101 ∧ ¬ isl (T (p + 7))
theorem mt1_r {T : Int → Int} {n : Int} (x : TX T n) {p : Int} (m : mt1 T p) : p + 7 ≤ n := by
  have := x.lt (k := p + 6) (by rw [m.2.2.2.2.2.2.1]; decide)
  omega
abbrev mt2 (T : Int → Int) (p : Int) : Prop := T (p + 0) = 114 ∧ T (p + 1) = 101 ∧ T (p + 2) = 112 ∧ T (p + 3) = 101 ∧ T (p + 4) = 97 ∧ T (p + 5) = 108 ∧ ¬ isl (T (p + 6))
theorem mt2_r {T : Int → Int} {n : Int} (x : TX T n) {p : Int} (m : mt2 T p) : p + 6 ≤ n := by
  have := x.lt (k := p + 5) (by rw [m.2.2.2.2.2.1]; decide)
  omega
abbrev mt3 (T : Int → Int) (p : Int) : Prop := T (p + 0) = 114 ∧ T (p + 1) = 101 ∧ T (p + 2) = 110 ∧ T (p + 3) = 117 ∧ T (p + 4) = 109 ∧ T (p + 5) = 98 ∧ T (p + 6) = 101 ∧ T (p + 7) = 114 ∧ ¬ isl (T (p + 8))
theorem mt3_r {T : Int → Int} {n : Int} (x : TX T n) {p : Int} (m : mt3 T p) : p + 8 ≤ n := by
  have := x.lt (k := p + 7) (by rw [m.2.2.2.2.2.2.2.1]; decide)
  omega
abbrev mt4 (T : Int → Int) (p : Int) : Prop := T (p + 0) = 105 ∧ T (p + 1) = 110 ∧ ¬ isl (T (p + 2))
theorem mt4_r {T : Int → Int} {n : Int} (x : TX T n) {p : Int} (m : mt4 T p) : p + 2 ≤ n := by
  have := x.lt (k := p + 1) (by rw [m.2.1]; decide)
  omega
abbrev mt5 (T : Int → Int) (p : Int) : Prop := T (p + 0) = 116 ∧ T (p + 1) = 111 ∧ ¬ isl (T (p + 2))
theorem mt5_r {T : Int → Int} {n : Int} (x : TX T n) {p : Int} (m : mt5 T p) : p + 2 ≤ n := by
  have := x.lt (k := p + 1) (by rw [m.2.1]; decide)
  omega
abbrev mt6 (T : Int → Int) (p : Int) : Prop := T (p + 0) = 102 ∧ T (p + 1) = 111 ∧ T (p + 2) = 114 ∧ ¬ isl (T (p + 3))
theorem mt6_r {T : Int → Int} {n : Int} (x : TX T n) {p : Int} (m : mt6 T p) : p + 3 ≤ n := by
  have := x.lt (k := p + 2) (by rw [m.2.2.1]; decide)
  omega
abbrev mt7 (T : Int → Int) (p : Int) : Prop := T (p + 0) = 112 ∧ T (p + 1) = 117 ∧ T (p + 2) = 116 ∧ ¬ isl (T (p + 3))
theorem mt7_r {T : Int → Int} {n : Int} (x : TX T n) {p : Int} (m : mt7 T p) : p + 3 ≤ n := by
  have := x.lt (k := p + 2) (by rw [m.2.2.1]; decide)
  omega
abbrev mt8 (T : Int → Int) (p : Int) : Prop := T (p + 0) = 115 ∧ T (p + 1) = 97 ∧ T (p + 2) = 118 ∧ T (p + 3) = 105 ∧ T (p + 4) = 110 ∧ T (p + 5) = 103 ∧ ¬ isl (T (p + 6))
theorem mt8_r {T : Int → Int} {n : Int} (x : TX T n) {p : Int} (m : mt8 T p) : p + 6 ≤ n := by
  have := x.lt (k := p + 5) (by rw [m.2.2.2.2.2.1]; decide)
  omega
def xe5 (T : Int → Int) (p : Int) : Int := if mt5 T (sk T p) then sk T p + 2 else sk T p
def xf5 (T : Int → Int) (p : Int) : Int := if mt5 T (sk T p) then -1 else sk T p
theorem xe5_r {T : Int → Int} {n : Int} (x : TX T n) {p : Int} (h0 : 0 ≤ p) (h1 : p ≤ n) : p ≤ xe5 T p ∧ xe5 T p ≤ n := by
  have h := x.skr h0 h1
  unfold xe5
  split
  · have := mt5_r x ‹mt5 T (sk T p)›
    omega
  · omega
def xe6 (T : Int → Int) (p : Int) : Int := if mt6 T (sk T p) then sk T p + 3 else sk T p
def xf6 (T : Int → Int) (p : Int) : Int := if mt6 T (sk T p) then -1 else sk T p
theorem xe6_r {T : Int → Int} {n : Int} (x : TX T n) {p : Int} (h0 : 0 ≤ p) (h1 : p ≤ n) : p ≤ xe6 T p ∧ xe6 T p ≤ n := by
  have h := x.skr h0 h1
  unfold xe6
  split
  · have := mt6_r x ‹mt6 T (sk T p)›
    omega
  · omega
def xe7 (T : Int → Int) (p : Int) : Int := if mt7 T (sk T p) then sk T p + 3 else sk T p
def xf7 (T : Int → Int) (p : Int) : Int := if mt7 T (sk T p) then -1 else sk T p
theorem xe7_r {T : Int → Int} {n : Int} (x : TX T n) {p : Int} (h0 : 0 ≤ p) (h1 : p ≤ n) : p ≤ xe7 T p ∧ xe7 T p ≤ n := by
  have h := x.skr h0 h1
  unfold xe7
  split
  · have := mt7_r x ‹mt7 T (sk T p)›
    omega
  · omega
def xe8 (T : Int → Int) (p : Int) : Int := if mt8 T (sk T p) then sk T p + 6 else sk T p
def xf8 (T : Int → Int) (p : Int) : Int := if mt8 T (sk T p) then -1 else sk T p
theorem xe8_r {T : Int → Int} {n : Int} (x : TX T n) {p : Int} (h0 : 0 ≤ p) (h1 : p ≤ n) : p ≤ xe8 T p ∧ xe8 T p ≤ n := by
  have h := x.skr h0 h1
  unfold xe8
  split
  · have := mt8_r x ‹mt8 T (sk T p)›
    omega
  · omega
def kd (T : Int → Int) (p : Int) : Int := if mt0 T p then 0 else if mt1 T p then 1 else if mt2 T p then 2 else if mt3 T p then 3 else if mt4 T p then 4 else -1
def ke (T : Int → Int) (p : Int) : Int := if mt0 T p then p + 6 else if mt1 T p then p + 7 else if mt2 T p then p + 6 else if mt3 T p then p + 8 else if mt4 T p then p + 2 else p
theorem kd_r (T : Int → Int) (p : Int) : -1 ≤ kd T p ∧ kd T p ≤ 4 := by
  unfold kd
  repeat' split
  all_goals omega
theorem ke_r {T : Int → Int} {n : Int} (x : TX T n) {p : Int} (h0 : 0 ≤ p) (h1 : p ≤ n) : p ≤ ke T p ∧ ke T p ≤ n := by
  unfold ke
  split
  · have := mt0_r x ‹_›; omega
  · split
    · have := mt1_r x ‹_›; omega
    · split
      · have := mt2_r x ‹_›; omega
      · split
        · have := mt3_r x ‹_›; omega
        · split
          · have := mt4_r x ‹_›; omega
          · omega
set_option maxRecDepth 100000 in
theorem vc_coder0  (M : am_M) (Q : Option Value → am_M → Prop) (hv : Q (some (.int (zi 0))) M) : am_x t_Str_coder (0, am_ent (am_mL t_Str_coder) [.ref 6000], [], M) Q := by
  refine am_xn 0 (c1 := (0, [.ref 6000], [], M)) rfl ?_
  refine am_xn 5 (c1 := (14, [.ref 6000], [.int (zi 0)], M)) rfl ?_
  exact am_xr (some (.int (zi 0))) ⟨rfl, rfl, .byte, rfl, rfl⟩ hv
theorem sp_coder0 (M : am_M) : am_call t_Str_coder [.ref 6000] M (some (.int (zi 0))) M := am_call_of ⟨Nat.le_of_ble_eq_true rfl, rfl⟩ (vc_coder0 M _ ⟨rfl, rfl⟩)
set_option maxRecDepth 100000 in
theorem vc_strlen0  (M : am_M) (Q : Option Value → am_M → Prop) (hv : Q (some (.int (zi (zshr 6 0)))) M) : am_x t_Str_length (0, am_ent (am_mL t_Str_length) [.ref 6000], [], M) Q := by
  refine am_xn 0 (c1 := (0, [.ref 6000], [], M)) rfl ?_
  refine am_xn 4 (c1 := (6, [.ref 6000], [.ref 6000, .int (zi 6)], M)) rfl ?_
  refine am_xc t_Str_coder (.invokevirtual 335) 335 (av := [.ref 6000]) (rest := [.int (zi 6)]) (rv := some (.int (zi 0))) (M' := M) rfl rfl rfl rfl (Nat.le_of_ble_eq_true rfl) (fun _ => rfl) (sp_coder0 M) ?_
  refine am_xn 0 (c1 := (9, [.ref 6000], [.int (zi 0), .int (zi 6)], M)) rfl ?_
  refine am_xbit 1 (zi 6 >>> (zi 0 &&& 31)) (pc := 10) (ls := [.ref 6000]) (st := []) rfl ?_
  refine am_xn 0 (c1 := (10, [.ref 6000], [.int (zi (zshr 6 0))], M)) rfl ?_
  exact am_xr (some (.int (zi (zshr 6 0)))) ⟨rfl, rfl, .int, rfl, rfl⟩ hv
theorem sp_strlen_0 (M : am_M) : am_call t_Str_length [.ref 6000] M (some (.int (zi 6))) M := am_call_of ⟨Nat.le_of_ble_eq_true rfl, rfl⟩ (vc_strlen0 M _ ⟨rfl, rfl⟩)
set_option maxRecDepth 100000 in
theorem vc_isLatin0  (M : am_M) (Q : Option Value → am_M → Prop) (hv : Q (some (.int (zi 1))) M) : am_x t_Str_isLatin1 (0, am_ent (am_mL t_Str_isLatin1) [.ref 6000], [], M) Q := by
  refine am_xn 0 (c1 := (0, [.ref 6000], [], M)) rfl ?_
  refine am_xn 7 (c1 := (18, [.ref 6000], [.int (zi 1)], M)) rfl ?_
  exact am_xr (some (.int (zi 1))) ⟨rfl, rfl, .boolean, rfl, rfl⟩ hv
theorem sp_isLatin0 (M : am_M) : am_call t_Str_isLatin1 [.ref 6000] M (some (.int (zi 1))) M := am_call_of ⟨Nat.le_of_ble_eq_true rfl, rfl⟩ (vc_isLatin0 M _ ⟨rfl, rfl⟩)
set_option maxRecDepth 100000 in
theorem vc_coder1  (M : am_M) (Q : Option Value → am_M → Prop) (hv : Q (some (.int (zi 0))) M) : am_x t_Str_coder (0, am_ent (am_mL t_Str_coder) [.ref 6001], [], M) Q := by
  refine am_xn 0 (c1 := (0, [.ref 6001], [], M)) rfl ?_
  refine am_xn 5 (c1 := (14, [.ref 6001], [.int (zi 0)], M)) rfl ?_
  exact am_xr (some (.int (zi 0))) ⟨rfl, rfl, .byte, rfl, rfl⟩ hv
theorem sp_coder1 (M : am_M) : am_call t_Str_coder [.ref 6001] M (some (.int (zi 0))) M := am_call_of ⟨Nat.le_of_ble_eq_true rfl, rfl⟩ (vc_coder1 M _ ⟨rfl, rfl⟩)
set_option maxRecDepth 100000 in
theorem vc_strlen1  (M : am_M) (Q : Option Value → am_M → Prop) (hv : Q (some (.int (zi (zshr 7 0)))) M) : am_x t_Str_length (0, am_ent (am_mL t_Str_length) [.ref 6001], [], M) Q := by
  refine am_xn 0 (c1 := (0, [.ref 6001], [], M)) rfl ?_
  refine am_xn 4 (c1 := (6, [.ref 6001], [.ref 6001, .int (zi 7)], M)) rfl ?_
  refine am_xc t_Str_coder (.invokevirtual 335) 335 (av := [.ref 6001]) (rest := [.int (zi 7)]) (rv := some (.int (zi 0))) (M' := M) rfl rfl rfl rfl (Nat.le_of_ble_eq_true rfl) (fun _ => rfl) (sp_coder1 M) ?_
  refine am_xn 0 (c1 := (9, [.ref 6001], [.int (zi 0), .int (zi 7)], M)) rfl ?_
  refine am_xbit 1 (zi 7 >>> (zi 0 &&& 31)) (pc := 10) (ls := [.ref 6001]) (st := []) rfl ?_
  refine am_xn 0 (c1 := (10, [.ref 6001], [.int (zi (zshr 7 0))], M)) rfl ?_
  exact am_xr (some (.int (zi (zshr 7 0)))) ⟨rfl, rfl, .int, rfl, rfl⟩ hv
theorem sp_strlen_1 (M : am_M) : am_call t_Str_length [.ref 6001] M (some (.int (zi 7))) M := am_call_of ⟨Nat.le_of_ble_eq_true rfl, rfl⟩ (vc_strlen1 M _ ⟨rfl, rfl⟩)
set_option maxRecDepth 100000 in
theorem vc_isLatin1  (M : am_M) (Q : Option Value → am_M → Prop) (hv : Q (some (.int (zi 1))) M) : am_x t_Str_isLatin1 (0, am_ent (am_mL t_Str_isLatin1) [.ref 6001], [], M) Q := by
  refine am_xn 0 (c1 := (0, [.ref 6001], [], M)) rfl ?_
  refine am_xn 7 (c1 := (18, [.ref 6001], [.int (zi 1)], M)) rfl ?_
  exact am_xr (some (.int (zi 1))) ⟨rfl, rfl, .boolean, rfl, rfl⟩ hv
theorem sp_isLatin1 (M : am_M) : am_call t_Str_isLatin1 [.ref 6001] M (some (.int (zi 1))) M := am_call_of ⟨Nat.le_of_ble_eq_true rfl, rfl⟩ (vc_isLatin1 M _ ⟨rfl, rfl⟩)
set_option maxRecDepth 100000 in
theorem vc_coder2  (M : am_M) (Q : Option Value → am_M → Prop) (hv : Q (some (.int (zi 0))) M) : am_x t_Str_coder (0, am_ent (am_mL t_Str_coder) [.ref 6002], [], M) Q := by
  refine am_xn 0 (c1 := (0, [.ref 6002], [], M)) rfl ?_
  refine am_xn 5 (c1 := (14, [.ref 6002], [.int (zi 0)], M)) rfl ?_
  exact am_xr (some (.int (zi 0))) ⟨rfl, rfl, .byte, rfl, rfl⟩ hv
theorem sp_coder2 (M : am_M) : am_call t_Str_coder [.ref 6002] M (some (.int (zi 0))) M := am_call_of ⟨Nat.le_of_ble_eq_true rfl, rfl⟩ (vc_coder2 M _ ⟨rfl, rfl⟩)
set_option maxRecDepth 100000 in
theorem vc_strlen2  (M : am_M) (Q : Option Value → am_M → Prop) (hv : Q (some (.int (zi (zshr 6 0)))) M) : am_x t_Str_length (0, am_ent (am_mL t_Str_length) [.ref 6002], [], M) Q := by
  refine am_xn 0 (c1 := (0, [.ref 6002], [], M)) rfl ?_
  refine am_xn 4 (c1 := (6, [.ref 6002], [.ref 6002, .int (zi 6)], M)) rfl ?_
  refine am_xc t_Str_coder (.invokevirtual 335) 335 (av := [.ref 6002]) (rest := [.int (zi 6)]) (rv := some (.int (zi 0))) (M' := M) rfl rfl rfl rfl (Nat.le_of_ble_eq_true rfl) (fun _ => rfl) (sp_coder2 M) ?_
  refine am_xn 0 (c1 := (9, [.ref 6002], [.int (zi 0), .int (zi 6)], M)) rfl ?_
  refine am_xbit 1 (zi 6 >>> (zi 0 &&& 31)) (pc := 10) (ls := [.ref 6002]) (st := []) rfl ?_
  refine am_xn 0 (c1 := (10, [.ref 6002], [.int (zi (zshr 6 0))], M)) rfl ?_
  exact am_xr (some (.int (zi (zshr 6 0)))) ⟨rfl, rfl, .int, rfl, rfl⟩ hv
theorem sp_strlen_2 (M : am_M) : am_call t_Str_length [.ref 6002] M (some (.int (zi 6))) M := am_call_of ⟨Nat.le_of_ble_eq_true rfl, rfl⟩ (vc_strlen2 M _ ⟨rfl, rfl⟩)
set_option maxRecDepth 100000 in
theorem vc_isLatin2  (M : am_M) (Q : Option Value → am_M → Prop) (hv : Q (some (.int (zi 1))) M) : am_x t_Str_isLatin1 (0, am_ent (am_mL t_Str_isLatin1) [.ref 6002], [], M) Q := by
  refine am_xn 0 (c1 := (0, [.ref 6002], [], M)) rfl ?_
  refine am_xn 7 (c1 := (18, [.ref 6002], [.int (zi 1)], M)) rfl ?_
  exact am_xr (some (.int (zi 1))) ⟨rfl, rfl, .boolean, rfl, rfl⟩ hv
theorem sp_isLatin2 (M : am_M) : am_call t_Str_isLatin1 [.ref 6002] M (some (.int (zi 1))) M := am_call_of ⟨Nat.le_of_ble_eq_true rfl, rfl⟩ (vc_isLatin2 M _ ⟨rfl, rfl⟩)
set_option maxRecDepth 100000 in
theorem vc_coder3  (M : am_M) (Q : Option Value → am_M → Prop) (hv : Q (some (.int (zi 0))) M) : am_x t_Str_coder (0, am_ent (am_mL t_Str_coder) [.ref 6003], [], M) Q := by
  refine am_xn 0 (c1 := (0, [.ref 6003], [], M)) rfl ?_
  refine am_xn 5 (c1 := (14, [.ref 6003], [.int (zi 0)], M)) rfl ?_
  exact am_xr (some (.int (zi 0))) ⟨rfl, rfl, .byte, rfl, rfl⟩ hv
theorem sp_coder3 (M : am_M) : am_call t_Str_coder [.ref 6003] M (some (.int (zi 0))) M := am_call_of ⟨Nat.le_of_ble_eq_true rfl, rfl⟩ (vc_coder3 M _ ⟨rfl, rfl⟩)
set_option maxRecDepth 100000 in
theorem vc_strlen3  (M : am_M) (Q : Option Value → am_M → Prop) (hv : Q (some (.int (zi (zshr 8 0)))) M) : am_x t_Str_length (0, am_ent (am_mL t_Str_length) [.ref 6003], [], M) Q := by
  refine am_xn 0 (c1 := (0, [.ref 6003], [], M)) rfl ?_
  refine am_xn 4 (c1 := (6, [.ref 6003], [.ref 6003, .int (zi 8)], M)) rfl ?_
  refine am_xc t_Str_coder (.invokevirtual 335) 335 (av := [.ref 6003]) (rest := [.int (zi 8)]) (rv := some (.int (zi 0))) (M' := M) rfl rfl rfl rfl (Nat.le_of_ble_eq_true rfl) (fun _ => rfl) (sp_coder3 M) ?_
  refine am_xn 0 (c1 := (9, [.ref 6003], [.int (zi 0), .int (zi 8)], M)) rfl ?_
  refine am_xbit 1 (zi 8 >>> (zi 0 &&& 31)) (pc := 10) (ls := [.ref 6003]) (st := []) rfl ?_
  refine am_xn 0 (c1 := (10, [.ref 6003], [.int (zi (zshr 8 0))], M)) rfl ?_
  exact am_xr (some (.int (zi (zshr 8 0)))) ⟨rfl, rfl, .int, rfl, rfl⟩ hv
theorem sp_strlen_3 (M : am_M) : am_call t_Str_length [.ref 6003] M (some (.int (zi 8))) M := am_call_of ⟨Nat.le_of_ble_eq_true rfl, rfl⟩ (vc_strlen3 M _ ⟨rfl, rfl⟩)
set_option maxRecDepth 100000 in
theorem vc_isLatin3  (M : am_M) (Q : Option Value → am_M → Prop) (hv : Q (some (.int (zi 1))) M) : am_x t_Str_isLatin1 (0, am_ent (am_mL t_Str_isLatin1) [.ref 6003], [], M) Q := by
  refine am_xn 0 (c1 := (0, [.ref 6003], [], M)) rfl ?_
  refine am_xn 7 (c1 := (18, [.ref 6003], [.int (zi 1)], M)) rfl ?_
  exact am_xr (some (.int (zi 1))) ⟨rfl, rfl, .boolean, rfl, rfl⟩ hv
theorem sp_isLatin3 (M : am_M) : am_call t_Str_isLatin1 [.ref 6003] M (some (.int (zi 1))) M := am_call_of ⟨Nat.le_of_ble_eq_true rfl, rfl⟩ (vc_isLatin3 M _ ⟨rfl, rfl⟩)
set_option maxRecDepth 100000 in
theorem vc_coder4  (M : am_M) (Q : Option Value → am_M → Prop) (hv : Q (some (.int (zi 0))) M) : am_x t_Str_coder (0, am_ent (am_mL t_Str_coder) [.ref 6004], [], M) Q := by
  refine am_xn 0 (c1 := (0, [.ref 6004], [], M)) rfl ?_
  refine am_xn 5 (c1 := (14, [.ref 6004], [.int (zi 0)], M)) rfl ?_
  exact am_xr (some (.int (zi 0))) ⟨rfl, rfl, .byte, rfl, rfl⟩ hv
theorem sp_coder4 (M : am_M) : am_call t_Str_coder [.ref 6004] M (some (.int (zi 0))) M := am_call_of ⟨Nat.le_of_ble_eq_true rfl, rfl⟩ (vc_coder4 M _ ⟨rfl, rfl⟩)
set_option maxRecDepth 100000 in
theorem vc_strlen4  (M : am_M) (Q : Option Value → am_M → Prop) (hv : Q (some (.int (zi (zshr 2 0)))) M) : am_x t_Str_length (0, am_ent (am_mL t_Str_length) [.ref 6004], [], M) Q := by
  refine am_xn 0 (c1 := (0, [.ref 6004], [], M)) rfl ?_
  refine am_xn 4 (c1 := (6, [.ref 6004], [.ref 6004, .int (zi 2)], M)) rfl ?_
  refine am_xc t_Str_coder (.invokevirtual 335) 335 (av := [.ref 6004]) (rest := [.int (zi 2)]) (rv := some (.int (zi 0))) (M' := M) rfl rfl rfl rfl (Nat.le_of_ble_eq_true rfl) (fun _ => rfl) (sp_coder4 M) ?_
  refine am_xn 0 (c1 := (9, [.ref 6004], [.int (zi 0), .int (zi 2)], M)) rfl ?_
  refine am_xbit 1 (zi 2 >>> (zi 0 &&& 31)) (pc := 10) (ls := [.ref 6004]) (st := []) rfl ?_
  refine am_xn 0 (c1 := (10, [.ref 6004], [.int (zi (zshr 2 0))], M)) rfl ?_
  exact am_xr (some (.int (zi (zshr 2 0)))) ⟨rfl, rfl, .int, rfl, rfl⟩ hv
theorem sp_strlen_4 (M : am_M) : am_call t_Str_length [.ref 6004] M (some (.int (zi 2))) M := am_call_of ⟨Nat.le_of_ble_eq_true rfl, rfl⟩ (vc_strlen4 M _ ⟨rfl, rfl⟩)
set_option maxRecDepth 100000 in
theorem vc_isLatin4  (M : am_M) (Q : Option Value → am_M → Prop) (hv : Q (some (.int (zi 1))) M) : am_x t_Str_isLatin1 (0, am_ent (am_mL t_Str_isLatin1) [.ref 6004], [], M) Q := by
  refine am_xn 0 (c1 := (0, [.ref 6004], [], M)) rfl ?_
  refine am_xn 7 (c1 := (18, [.ref 6004], [.int (zi 1)], M)) rfl ?_
  exact am_xr (some (.int (zi 1))) ⟨rfl, rfl, .boolean, rfl, rfl⟩ hv
theorem sp_isLatin4 (M : am_M) : am_call t_Str_isLatin1 [.ref 6004] M (some (.int (zi 1))) M := am_call_of ⟨Nat.le_of_ble_eq_true rfl, rfl⟩ (vc_isLatin4 M _ ⟨rfl, rfl⟩)
set_option maxRecDepth 100000 in
theorem vc_coder5  (M : am_M) (Q : Option Value → am_M → Prop) (hv : Q (some (.int (zi 0))) M) : am_x t_Str_coder (0, am_ent (am_mL t_Str_coder) [.ref 6005], [], M) Q := by
  refine am_xn 0 (c1 := (0, [.ref 6005], [], M)) rfl ?_
  refine am_xn 5 (c1 := (14, [.ref 6005], [.int (zi 0)], M)) rfl ?_
  exact am_xr (some (.int (zi 0))) ⟨rfl, rfl, .byte, rfl, rfl⟩ hv
theorem sp_coder5 (M : am_M) : am_call t_Str_coder [.ref 6005] M (some (.int (zi 0))) M := am_call_of ⟨Nat.le_of_ble_eq_true rfl, rfl⟩ (vc_coder5 M _ ⟨rfl, rfl⟩)
set_option maxRecDepth 100000 in
theorem vc_strlen5  (M : am_M) (Q : Option Value → am_M → Prop) (hv : Q (some (.int (zi (zshr 2 0)))) M) : am_x t_Str_length (0, am_ent (am_mL t_Str_length) [.ref 6005], [], M) Q := by
  refine am_xn 0 (c1 := (0, [.ref 6005], [], M)) rfl ?_
  refine am_xn 4 (c1 := (6, [.ref 6005], [.ref 6005, .int (zi 2)], M)) rfl ?_
  refine am_xc t_Str_coder (.invokevirtual 335) 335 (av := [.ref 6005]) (rest := [.int (zi 2)]) (rv := some (.int (zi 0))) (M' := M) rfl rfl rfl rfl (Nat.le_of_ble_eq_true rfl) (fun _ => rfl) (sp_coder5 M) ?_
  refine am_xn 0 (c1 := (9, [.ref 6005], [.int (zi 0), .int (zi 2)], M)) rfl ?_
  refine am_xbit 1 (zi 2 >>> (zi 0 &&& 31)) (pc := 10) (ls := [.ref 6005]) (st := []) rfl ?_
  refine am_xn 0 (c1 := (10, [.ref 6005], [.int (zi (zshr 2 0))], M)) rfl ?_
  exact am_xr (some (.int (zi (zshr 2 0)))) ⟨rfl, rfl, .int, rfl, rfl⟩ hv
theorem sp_strlen_5 (M : am_M) : am_call t_Str_length [.ref 6005] M (some (.int (zi 2))) M := am_call_of ⟨Nat.le_of_ble_eq_true rfl, rfl⟩ (vc_strlen5 M _ ⟨rfl, rfl⟩)
set_option maxRecDepth 100000 in
theorem vc_isLatin5  (M : am_M) (Q : Option Value → am_M → Prop) (hv : Q (some (.int (zi 1))) M) : am_x t_Str_isLatin1 (0, am_ent (am_mL t_Str_isLatin1) [.ref 6005], [], M) Q := by
  refine am_xn 0 (c1 := (0, [.ref 6005], [], M)) rfl ?_
  refine am_xn 7 (c1 := (18, [.ref 6005], [.int (zi 1)], M)) rfl ?_
  exact am_xr (some (.int (zi 1))) ⟨rfl, rfl, .boolean, rfl, rfl⟩ hv
theorem sp_isLatin5 (M : am_M) : am_call t_Str_isLatin1 [.ref 6005] M (some (.int (zi 1))) M := am_call_of ⟨Nat.le_of_ble_eq_true rfl, rfl⟩ (vc_isLatin5 M _ ⟨rfl, rfl⟩)
set_option maxRecDepth 100000 in
theorem vc_coder6  (M : am_M) (Q : Option Value → am_M → Prop) (hv : Q (some (.int (zi 0))) M) : am_x t_Str_coder (0, am_ent (am_mL t_Str_coder) [.ref 6006], [], M) Q := by
  refine am_xn 0 (c1 := (0, [.ref 6006], [], M)) rfl ?_
  refine am_xn 5 (c1 := (14, [.ref 6006], [.int (zi 0)], M)) rfl ?_
  exact am_xr (some (.int (zi 0))) ⟨rfl, rfl, .byte, rfl, rfl⟩ hv
theorem sp_coder6 (M : am_M) : am_call t_Str_coder [.ref 6006] M (some (.int (zi 0))) M := am_call_of ⟨Nat.le_of_ble_eq_true rfl, rfl⟩ (vc_coder6 M _ ⟨rfl, rfl⟩)
set_option maxRecDepth 100000 in
theorem vc_strlen6  (M : am_M) (Q : Option Value → am_M → Prop) (hv : Q (some (.int (zi (zshr 3 0)))) M) : am_x t_Str_length (0, am_ent (am_mL t_Str_length) [.ref 6006], [], M) Q := by
  refine am_xn 0 (c1 := (0, [.ref 6006], [], M)) rfl ?_
  refine am_xn 4 (c1 := (6, [.ref 6006], [.ref 6006, .int (zi 3)], M)) rfl ?_
  refine am_xc t_Str_coder (.invokevirtual 335) 335 (av := [.ref 6006]) (rest := [.int (zi 3)]) (rv := some (.int (zi 0))) (M' := M) rfl rfl rfl rfl (Nat.le_of_ble_eq_true rfl) (fun _ => rfl) (sp_coder6 M) ?_
  refine am_xn 0 (c1 := (9, [.ref 6006], [.int (zi 0), .int (zi 3)], M)) rfl ?_
  refine am_xbit 1 (zi 3 >>> (zi 0 &&& 31)) (pc := 10) (ls := [.ref 6006]) (st := []) rfl ?_
  refine am_xn 0 (c1 := (10, [.ref 6006], [.int (zi (zshr 3 0))], M)) rfl ?_
  exact am_xr (some (.int (zi (zshr 3 0)))) ⟨rfl, rfl, .int, rfl, rfl⟩ hv
theorem sp_strlen_6 (M : am_M) : am_call t_Str_length [.ref 6006] M (some (.int (zi 3))) M := am_call_of ⟨Nat.le_of_ble_eq_true rfl, rfl⟩ (vc_strlen6 M _ ⟨rfl, rfl⟩)
set_option maxRecDepth 100000 in
theorem vc_isLatin6  (M : am_M) (Q : Option Value → am_M → Prop) (hv : Q (some (.int (zi 1))) M) : am_x t_Str_isLatin1 (0, am_ent (am_mL t_Str_isLatin1) [.ref 6006], [], M) Q := by
  refine am_xn 0 (c1 := (0, [.ref 6006], [], M)) rfl ?_
  refine am_xn 7 (c1 := (18, [.ref 6006], [.int (zi 1)], M)) rfl ?_
  exact am_xr (some (.int (zi 1))) ⟨rfl, rfl, .boolean, rfl, rfl⟩ hv
theorem sp_isLatin6 (M : am_M) : am_call t_Str_isLatin1 [.ref 6006] M (some (.int (zi 1))) M := am_call_of ⟨Nat.le_of_ble_eq_true rfl, rfl⟩ (vc_isLatin6 M _ ⟨rfl, rfl⟩)
set_option maxRecDepth 100000 in
theorem vc_coder7  (M : am_M) (Q : Option Value → am_M → Prop) (hv : Q (some (.int (zi 0))) M) : am_x t_Str_coder (0, am_ent (am_mL t_Str_coder) [.ref 6007], [], M) Q := by
  refine am_xn 0 (c1 := (0, [.ref 6007], [], M)) rfl ?_
  refine am_xn 5 (c1 := (14, [.ref 6007], [.int (zi 0)], M)) rfl ?_
  exact am_xr (some (.int (zi 0))) ⟨rfl, rfl, .byte, rfl, rfl⟩ hv
theorem sp_coder7 (M : am_M) : am_call t_Str_coder [.ref 6007] M (some (.int (zi 0))) M := am_call_of ⟨Nat.le_of_ble_eq_true rfl, rfl⟩ (vc_coder7 M _ ⟨rfl, rfl⟩)
set_option maxRecDepth 100000 in
theorem vc_strlen7  (M : am_M) (Q : Option Value → am_M → Prop) (hv : Q (some (.int (zi (zshr 3 0)))) M) : am_x t_Str_length (0, am_ent (am_mL t_Str_length) [.ref 6007], [], M) Q := by
  refine am_xn 0 (c1 := (0, [.ref 6007], [], M)) rfl ?_
  refine am_xn 4 (c1 := (6, [.ref 6007], [.ref 6007, .int (zi 3)], M)) rfl ?_
  refine am_xc t_Str_coder (.invokevirtual 335) 335 (av := [.ref 6007]) (rest := [.int (zi 3)]) (rv := some (.int (zi 0))) (M' := M) rfl rfl rfl rfl (Nat.le_of_ble_eq_true rfl) (fun _ => rfl) (sp_coder7 M) ?_
  refine am_xn 0 (c1 := (9, [.ref 6007], [.int (zi 0), .int (zi 3)], M)) rfl ?_
  refine am_xbit 1 (zi 3 >>> (zi 0 &&& 31)) (pc := 10) (ls := [.ref 6007]) (st := []) rfl ?_
  refine am_xn 0 (c1 := (10, [.ref 6007], [.int (zi (zshr 3 0))], M)) rfl ?_
  exact am_xr (some (.int (zi (zshr 3 0)))) ⟨rfl, rfl, .int, rfl, rfl⟩ hv
theorem sp_strlen_7 (M : am_M) : am_call t_Str_length [.ref 6007] M (some (.int (zi 3))) M := am_call_of ⟨Nat.le_of_ble_eq_true rfl, rfl⟩ (vc_strlen7 M _ ⟨rfl, rfl⟩)
set_option maxRecDepth 100000 in
theorem vc_isLatin7  (M : am_M) (Q : Option Value → am_M → Prop) (hv : Q (some (.int (zi 1))) M) : am_x t_Str_isLatin1 (0, am_ent (am_mL t_Str_isLatin1) [.ref 6007], [], M) Q := by
  refine am_xn 0 (c1 := (0, [.ref 6007], [], M)) rfl ?_
  refine am_xn 7 (c1 := (18, [.ref 6007], [.int (zi 1)], M)) rfl ?_
  exact am_xr (some (.int (zi 1))) ⟨rfl, rfl, .boolean, rfl, rfl⟩ hv
theorem sp_isLatin7 (M : am_M) : am_call t_Str_isLatin1 [.ref 6007] M (some (.int (zi 1))) M := am_call_of ⟨Nat.le_of_ble_eq_true rfl, rfl⟩ (vc_isLatin7 M _ ⟨rfl, rfl⟩)
set_option maxRecDepth 100000 in
theorem vc_coder8  (M : am_M) (Q : Option Value → am_M → Prop) (hv : Q (some (.int (zi 0))) M) : am_x t_Str_coder (0, am_ent (am_mL t_Str_coder) [.ref 6008], [], M) Q := by
  refine am_xn 0 (c1 := (0, [.ref 6008], [], M)) rfl ?_
  refine am_xn 5 (c1 := (14, [.ref 6008], [.int (zi 0)], M)) rfl ?_
  exact am_xr (some (.int (zi 0))) ⟨rfl, rfl, .byte, rfl, rfl⟩ hv
theorem sp_coder8 (M : am_M) : am_call t_Str_coder [.ref 6008] M (some (.int (zi 0))) M := am_call_of ⟨Nat.le_of_ble_eq_true rfl, rfl⟩ (vc_coder8 M _ ⟨rfl, rfl⟩)
set_option maxRecDepth 100000 in
theorem vc_strlen8  (M : am_M) (Q : Option Value → am_M → Prop) (hv : Q (some (.int (zi (zshr 6 0)))) M) : am_x t_Str_length (0, am_ent (am_mL t_Str_length) [.ref 6008], [], M) Q := by
  refine am_xn 0 (c1 := (0, [.ref 6008], [], M)) rfl ?_
  refine am_xn 4 (c1 := (6, [.ref 6008], [.ref 6008, .int (zi 6)], M)) rfl ?_
  refine am_xc t_Str_coder (.invokevirtual 335) 335 (av := [.ref 6008]) (rest := [.int (zi 6)]) (rv := some (.int (zi 0))) (M' := M) rfl rfl rfl rfl (Nat.le_of_ble_eq_true rfl) (fun _ => rfl) (sp_coder8 M) ?_
  refine am_xn 0 (c1 := (9, [.ref 6008], [.int (zi 0), .int (zi 6)], M)) rfl ?_
  refine am_xbit 1 (zi 6 >>> (zi 0 &&& 31)) (pc := 10) (ls := [.ref 6008]) (st := []) rfl ?_
  refine am_xn 0 (c1 := (10, [.ref 6008], [.int (zi (zshr 6 0))], M)) rfl ?_
  exact am_xr (some (.int (zi (zshr 6 0)))) ⟨rfl, rfl, .int, rfl, rfl⟩ hv
theorem sp_strlen_8 (M : am_M) : am_call t_Str_length [.ref 6008] M (some (.int (zi 6))) M := am_call_of ⟨Nat.le_of_ble_eq_true rfl, rfl⟩ (vc_strlen8 M _ ⟨rfl, rfl⟩)
set_option maxRecDepth 100000 in
theorem vc_isLatin8  (M : am_M) (Q : Option Value → am_M → Prop) (hv : Q (some (.int (zi 1))) M) : am_x t_Str_isLatin1 (0, am_ent (am_mL t_Str_isLatin1) [.ref 6008], [], M) Q := by
  refine am_xn 0 (c1 := (0, [.ref 6008], [], M)) rfl ?_
  refine am_xn 7 (c1 := (18, [.ref 6008], [.int (zi 1)], M)) rfl ?_
  exact am_xr (some (.int (zi 1))) ⟨rfl, rfl, .boolean, rfl, rfl⟩ hv
theorem sp_isLatin8 (M : am_M) : am_call t_Str_isLatin1 [.ref 6008] M (some (.int (zi 1))) M := am_call_of ⟨Nat.le_of_ble_eq_true rfl, rfl⟩ (vc_isLatin8 M _ ⟨rfl, rfl⟩)
set_option maxRecDepth 100000 in
theorem vc_pci2 (i : Int) (M : am_M) (Q : Option Value → am_M → Prop) (hv : (zr i) ∧ ((i < 0 → False) ∧ (0 ≤ i → (i < 2 → Q (some (.int (zi i))) M) ∧ (2 ≤ i → False)))) : am_x t_Pre_checkIndex (0, am_ent (am_mL t_Pre_checkIndex) [.int (zi i), .int (zi 2), .ref 7000], [], M) Q := by
  refine am_xn 0 (c1 := (0, [.int (zi i), .int (zi 2), .ref 7000], [], M)) rfl ?_
  obtain ⟨r1, hv⟩ := hv
  refine am_xn 2 (c1 := (if zi i < zi 0 then 9 else 4, [.int (zi i), .int (zi 2), .ref 7000], [], M)) rfl (am_xlt r1 (by decide) (fun h => ?_) (fun h => ?_))
  · replace hv := hv.1 h
    exact hv.elim
  · replace hv := hv.2 h
    refine am_xn 3 (c1 := (if zi i < zi 2 then 16 else 9, [.int (zi i), .int (zi 2), .ref 7000], [], M)) rfl (am_xlt r1 (by decide) (fun h => ?_) (fun h => ?_))
    · replace hv := hv.1 h
      refine am_xn 1 (c1 := (17, [.int (zi i), .int (zi 2), .ref 7000], [.int (zi i)], M)) rfl ?_
      exact am_xr (some (.int (zi i))) ⟨rfl, rfl, .int, rfl, rfl⟩ hv
    · replace hv := hv.2 h
      exact hv.elim
set_option maxRecDepth 100000 in
theorem vc_sci2 (i : Int) (M : am_M) (Q : Option Value → am_M → Prop) (hv : ∃ (r2 : Int) (M1 : am_M), am_call t_Pre_checkIndex [.int (zi i), .int (zi 2), .ref 7000] M (some (.int (zi r2))) M1 ∧ (Q none M1)) : am_x t_Str_checkIndex (0, am_ent (am_mL t_Str_checkIndex) [.int (zi i), .int (zi 2)], [], M) Q := by
  refine am_xn 0 (c1 := (0, [.int (zi i), .int (zi 2)], [], M)) rfl ?_
  refine am_xn 3 (c1 := (5, [.int (zi i), .int (zi 2)], [.ref 7000, .int (zi 2), .int (zi i)], M)) rfl ?_
  obtain ⟨r2, M1, hc, hv⟩ := hv
  refine am_xc t_Pre_checkIndex (.invokestatic 1059) 1059 (av := [.int (zi i), .int (zi 2), .ref 7000]) (rest := []) (rv := some (.int (zi r2))) (M' := M1) rfl rfl rfl rfl (Nat.le_of_ble_eq_true rfl) (fun h => nomatch h) (hc) ?_
  refine am_xn 0 (c1 := (8, [.int (zi i), .int (zi 2)], [.int (zi r2)], M1)) rfl ?_
  refine am_xn 1 (c1 := (9, [.int (zi i), .int (zi 2)], [], M1)) rfl ?_
  exact am_xr none ⟨rfl, rfl, rfl⟩ hv
theorem sp_sci2 (M : am_M) {i : Int} (h : 0 ≤ i ∧ i < 2) : am_call t_Str_checkIndex [.int (zi i), .int (zi 2)] M none M :=
  am_call_of ⟨Nat.le_of_ble_eq_true rfl, rfl⟩ (vc_sci2 i M _ ⟨i, M, am_call_of ⟨Nat.le_of_ble_eq_true rfl, rfl⟩ (vc_pci2 i M _ ⟨⟨by omega, by omega⟩, fun q => by omega, fun _ => ⟨fun _ => ⟨rfl, rfl⟩, fun q => by omega⟩⟩), rfl, rfl⟩)
set_option maxRecDepth 100000 in
theorem vc_pci3 (i : Int) (M : am_M) (Q : Option Value → am_M → Prop) (hv : (zr i) ∧ ((i < 0 → False) ∧ (0 ≤ i → (i < 3 → Q (some (.int (zi i))) M) ∧ (3 ≤ i → False)))) : am_x t_Pre_checkIndex (0, am_ent (am_mL t_Pre_checkIndex) [.int (zi i), .int (zi 3), .ref 7000], [], M) Q := by
  refine am_xn 0 (c1 := (0, [.int (zi i), .int (zi 3), .ref 7000], [], M)) rfl ?_
  obtain ⟨r1, hv⟩ := hv
  refine am_xn 2 (c1 := (if zi i < zi 0 then 9 else 4, [.int (zi i), .int (zi 3), .ref 7000], [], M)) rfl (am_xlt r1 (by decide) (fun h => ?_) (fun h => ?_))
  · replace hv := hv.1 h
    exact hv.elim
  · replace hv := hv.2 h
    refine am_xn 3 (c1 := (if zi i < zi 3 then 16 else 9, [.int (zi i), .int (zi 3), .ref 7000], [], M)) rfl (am_xlt r1 (by decide) (fun h => ?_) (fun h => ?_))
    · replace hv := hv.1 h
      refine am_xn 1 (c1 := (17, [.int (zi i), .int (zi 3), .ref 7000], [.int (zi i)], M)) rfl ?_
      exact am_xr (some (.int (zi i))) ⟨rfl, rfl, .int, rfl, rfl⟩ hv
    · replace hv := hv.2 h
      exact hv.elim
set_option maxRecDepth 100000 in
theorem vc_sci3 (i : Int) (M : am_M) (Q : Option Value → am_M → Prop) (hv : ∃ (r2 : Int) (M1 : am_M), am_call t_Pre_checkIndex [.int (zi i), .int (zi 3), .ref 7000] M (some (.int (zi r2))) M1 ∧ (Q none M1)) : am_x t_Str_checkIndex (0, am_ent (am_mL t_Str_checkIndex) [.int (zi i), .int (zi 3)], [], M) Q := by
  refine am_xn 0 (c1 := (0, [.int (zi i), .int (zi 3)], [], M)) rfl ?_
  refine am_xn 3 (c1 := (5, [.int (zi i), .int (zi 3)], [.ref 7000, .int (zi 3), .int (zi i)], M)) rfl ?_
  obtain ⟨r2, M1, hc, hv⟩ := hv
  refine am_xc t_Pre_checkIndex (.invokestatic 1059) 1059 (av := [.int (zi i), .int (zi 3), .ref 7000]) (rest := []) (rv := some (.int (zi r2))) (M' := M1) rfl rfl rfl rfl (Nat.le_of_ble_eq_true rfl) (fun h => nomatch h) (hc) ?_
  refine am_xn 0 (c1 := (8, [.int (zi i), .int (zi 3)], [.int (zi r2)], M1)) rfl ?_
  refine am_xn 1 (c1 := (9, [.int (zi i), .int (zi 3)], [], M1)) rfl ?_
  exact am_xr none ⟨rfl, rfl, rfl⟩ hv
theorem sp_sci3 (M : am_M) {i : Int} (h : 0 ≤ i ∧ i < 3) : am_call t_Str_checkIndex [.int (zi i), .int (zi 3)] M none M :=
  am_call_of ⟨Nat.le_of_ble_eq_true rfl, rfl⟩ (vc_sci3 i M _ ⟨i, M, am_call_of ⟨Nat.le_of_ble_eq_true rfl, rfl⟩ (vc_pci3 i M _ ⟨⟨by omega, by omega⟩, fun q => by omega, fun _ => ⟨fun _ => ⟨rfl, rfl⟩, fun q => by omega⟩⟩), rfl, rfl⟩)
set_option maxRecDepth 100000 in
theorem vc_pci6 (i : Int) (M : am_M) (Q : Option Value → am_M → Prop) (hv : (zr i) ∧ ((i < 0 → False) ∧ (0 ≤ i → (i < 6 → Q (some (.int (zi i))) M) ∧ (6 ≤ i → False)))) : am_x t_Pre_checkIndex (0, am_ent (am_mL t_Pre_checkIndex) [.int (zi i), .int (zi 6), .ref 7000], [], M) Q := by
  refine am_xn 0 (c1 := (0, [.int (zi i), .int (zi 6), .ref 7000], [], M)) rfl ?_
  obtain ⟨r1, hv⟩ := hv
  refine am_xn 2 (c1 := (if zi i < zi 0 then 9 else 4, [.int (zi i), .int (zi 6), .ref 7000], [], M)) rfl (am_xlt r1 (by decide) (fun h => ?_) (fun h => ?_))
  · replace hv := hv.1 h
    exact hv.elim
  · replace hv := hv.2 h
    refine am_xn 3 (c1 := (if zi i < zi 6 then 16 else 9, [.int (zi i), .int (zi 6), .ref 7000], [], M)) rfl (am_xlt r1 (by decide) (fun h => ?_) (fun h => ?_))
    · replace hv := hv.1 h
      refine am_xn 1 (c1 := (17, [.int (zi i), .int (zi 6), .ref 7000], [.int (zi i)], M)) rfl ?_
      exact am_xr (some (.int (zi i))) ⟨rfl, rfl, .int, rfl, rfl⟩ hv
    · replace hv := hv.2 h
      exact hv.elim
set_option maxRecDepth 100000 in
theorem vc_sci6 (i : Int) (M : am_M) (Q : Option Value → am_M → Prop) (hv : ∃ (r2 : Int) (M1 : am_M), am_call t_Pre_checkIndex [.int (zi i), .int (zi 6), .ref 7000] M (some (.int (zi r2))) M1 ∧ (Q none M1)) : am_x t_Str_checkIndex (0, am_ent (am_mL t_Str_checkIndex) [.int (zi i), .int (zi 6)], [], M) Q := by
  refine am_xn 0 (c1 := (0, [.int (zi i), .int (zi 6)], [], M)) rfl ?_
  refine am_xn 3 (c1 := (5, [.int (zi i), .int (zi 6)], [.ref 7000, .int (zi 6), .int (zi i)], M)) rfl ?_
  obtain ⟨r2, M1, hc, hv⟩ := hv
  refine am_xc t_Pre_checkIndex (.invokestatic 1059) 1059 (av := [.int (zi i), .int (zi 6), .ref 7000]) (rest := []) (rv := some (.int (zi r2))) (M' := M1) rfl rfl rfl rfl (Nat.le_of_ble_eq_true rfl) (fun h => nomatch h) (hc) ?_
  refine am_xn 0 (c1 := (8, [.int (zi i), .int (zi 6)], [.int (zi r2)], M1)) rfl ?_
  refine am_xn 1 (c1 := (9, [.int (zi i), .int (zi 6)], [], M1)) rfl ?_
  exact am_xr none ⟨rfl, rfl, rfl⟩ hv
theorem sp_sci6 (M : am_M) {i : Int} (h : 0 ≤ i ∧ i < 6) : am_call t_Str_checkIndex [.int (zi i), .int (zi 6)] M none M :=
  am_call_of ⟨Nat.le_of_ble_eq_true rfl, rfl⟩ (vc_sci6 i M _ ⟨i, M, am_call_of ⟨Nat.le_of_ble_eq_true rfl, rfl⟩ (vc_pci6 i M _ ⟨⟨by omega, by omega⟩, fun q => by omega, fun _ => ⟨fun _ => ⟨rfl, rfl⟩, fun q => by omega⟩⟩), rfl, rfl⟩)
set_option maxRecDepth 100000 in
theorem vc_pci7 (i : Int) (M : am_M) (Q : Option Value → am_M → Prop) (hv : (zr i) ∧ ((i < 0 → False) ∧ (0 ≤ i → (i < 7 → Q (some (.int (zi i))) M) ∧ (7 ≤ i → False)))) : am_x t_Pre_checkIndex (0, am_ent (am_mL t_Pre_checkIndex) [.int (zi i), .int (zi 7), .ref 7000], [], M) Q := by
  refine am_xn 0 (c1 := (0, [.int (zi i), .int (zi 7), .ref 7000], [], M)) rfl ?_
  obtain ⟨r1, hv⟩ := hv
  refine am_xn 2 (c1 := (if zi i < zi 0 then 9 else 4, [.int (zi i), .int (zi 7), .ref 7000], [], M)) rfl (am_xlt r1 (by decide) (fun h => ?_) (fun h => ?_))
  · replace hv := hv.1 h
    exact hv.elim
  · replace hv := hv.2 h
    refine am_xn 3 (c1 := (if zi i < zi 7 then 16 else 9, [.int (zi i), .int (zi 7), .ref 7000], [], M)) rfl (am_xlt r1 (by decide) (fun h => ?_) (fun h => ?_))
    · replace hv := hv.1 h
      refine am_xn 1 (c1 := (17, [.int (zi i), .int (zi 7), .ref 7000], [.int (zi i)], M)) rfl ?_
      exact am_xr (some (.int (zi i))) ⟨rfl, rfl, .int, rfl, rfl⟩ hv
    · replace hv := hv.2 h
      exact hv.elim
set_option maxRecDepth 100000 in
theorem vc_sci7 (i : Int) (M : am_M) (Q : Option Value → am_M → Prop) (hv : ∃ (r2 : Int) (M1 : am_M), am_call t_Pre_checkIndex [.int (zi i), .int (zi 7), .ref 7000] M (some (.int (zi r2))) M1 ∧ (Q none M1)) : am_x t_Str_checkIndex (0, am_ent (am_mL t_Str_checkIndex) [.int (zi i), .int (zi 7)], [], M) Q := by
  refine am_xn 0 (c1 := (0, [.int (zi i), .int (zi 7)], [], M)) rfl ?_
  refine am_xn 3 (c1 := (5, [.int (zi i), .int (zi 7)], [.ref 7000, .int (zi 7), .int (zi i)], M)) rfl ?_
  obtain ⟨r2, M1, hc, hv⟩ := hv
  refine am_xc t_Pre_checkIndex (.invokestatic 1059) 1059 (av := [.int (zi i), .int (zi 7), .ref 7000]) (rest := []) (rv := some (.int (zi r2))) (M' := M1) rfl rfl rfl rfl (Nat.le_of_ble_eq_true rfl) (fun h => nomatch h) (hc) ?_
  refine am_xn 0 (c1 := (8, [.int (zi i), .int (zi 7)], [.int (zi r2)], M1)) rfl ?_
  refine am_xn 1 (c1 := (9, [.int (zi i), .int (zi 7)], [], M1)) rfl ?_
  exact am_xr none ⟨rfl, rfl, rfl⟩ hv
theorem sp_sci7 (M : am_M) {i : Int} (h : 0 ≤ i ∧ i < 7) : am_call t_Str_checkIndex [.int (zi i), .int (zi 7)] M none M :=
  am_call_of ⟨Nat.le_of_ble_eq_true rfl, rfl⟩ (vc_sci7 i M _ ⟨i, M, am_call_of ⟨Nat.le_of_ble_eq_true rfl, rfl⟩ (vc_pci7 i M _ ⟨⟨by omega, by omega⟩, fun q => by omega, fun _ => ⟨fun _ => ⟨rfl, rfl⟩, fun q => by omega⟩⟩), rfl, rfl⟩)
set_option maxRecDepth 100000 in
theorem vc_pci8 (i : Int) (M : am_M) (Q : Option Value → am_M → Prop) (hv : (zr i) ∧ ((i < 0 → False) ∧ (0 ≤ i → (i < 8 → Q (some (.int (zi i))) M) ∧ (8 ≤ i → False)))) : am_x t_Pre_checkIndex (0, am_ent (am_mL t_Pre_checkIndex) [.int (zi i), .int (zi 8), .ref 7000], [], M) Q := by
  refine am_xn 0 (c1 := (0, [.int (zi i), .int (zi 8), .ref 7000], [], M)) rfl ?_
  obtain ⟨r1, hv⟩ := hv
  refine am_xn 2 (c1 := (if zi i < zi 0 then 9 else 4, [.int (zi i), .int (zi 8), .ref 7000], [], M)) rfl (am_xlt r1 (by decide) (fun h => ?_) (fun h => ?_))
  · replace hv := hv.1 h
    exact hv.elim
  · replace hv := hv.2 h
    refine am_xn 3 (c1 := (if zi i < zi 8 then 16 else 9, [.int (zi i), .int (zi 8), .ref 7000], [], M)) rfl (am_xlt r1 (by decide) (fun h => ?_) (fun h => ?_))
    · replace hv := hv.1 h
      refine am_xn 1 (c1 := (17, [.int (zi i), .int (zi 8), .ref 7000], [.int (zi i)], M)) rfl ?_
      exact am_xr (some (.int (zi i))) ⟨rfl, rfl, .int, rfl, rfl⟩ hv
    · replace hv := hv.2 h
      exact hv.elim
set_option maxRecDepth 100000 in
theorem vc_sci8 (i : Int) (M : am_M) (Q : Option Value → am_M → Prop) (hv : ∃ (r2 : Int) (M1 : am_M), am_call t_Pre_checkIndex [.int (zi i), .int (zi 8), .ref 7000] M (some (.int (zi r2))) M1 ∧ (Q none M1)) : am_x t_Str_checkIndex (0, am_ent (am_mL t_Str_checkIndex) [.int (zi i), .int (zi 8)], [], M) Q := by
  refine am_xn 0 (c1 := (0, [.int (zi i), .int (zi 8)], [], M)) rfl ?_
  refine am_xn 3 (c1 := (5, [.int (zi i), .int (zi 8)], [.ref 7000, .int (zi 8), .int (zi i)], M)) rfl ?_
  obtain ⟨r2, M1, hc, hv⟩ := hv
  refine am_xc t_Pre_checkIndex (.invokestatic 1059) 1059 (av := [.int (zi i), .int (zi 8), .ref 7000]) (rest := []) (rv := some (.int (zi r2))) (M' := M1) rfl rfl rfl rfl (Nat.le_of_ble_eq_true rfl) (fun h => nomatch h) (hc) ?_
  refine am_xn 0 (c1 := (8, [.int (zi i), .int (zi 8)], [.int (zi r2)], M1)) rfl ?_
  refine am_xn 1 (c1 := (9, [.int (zi i), .int (zi 8)], [], M1)) rfl ?_
  exact am_xr none ⟨rfl, rfl, rfl⟩ hv
theorem sp_sci8 (M : am_M) {i : Int} (h : 0 ≤ i ∧ i < 8) : am_call t_Str_checkIndex [.int (zi i), .int (zi 8)] M none M :=
  am_call_of ⟨Nat.le_of_ble_eq_true rfl, rfl⟩ (vc_sci8 i M _ ⟨i, M, am_call_of ⟨Nat.le_of_ble_eq_true rfl, rfl⟩ (vc_pci8 i M _ ⟨⟨by omega, by omega⟩, fun q => by omega, fun _ => ⟨fun _ => ⟨rfl, rfl⟩, fun q => by omega⟩⟩), rfl, rfl⟩)
set_option maxRecDepth 100000 in
theorem vc_lat0 (i : Int) (M : am_M) (Q : Option Value → am_M → Prop) (hv : ∃ M1, am_call t_Str_checkIndex [.int (zi i), .int (zi 6)] M none M1 ∧ ((0 ≤ i ∧ i < 6) ∧ (narrow .char (.int (zi (zi2c (zand (zbyte 0 i) 255)))) = .int (zi (zi2c (zand (zbyte 0 i) 255))) ∧ Q (some (.int (zi (zi2c (zand (zbyte 0 i) 255))))) M1))) : am_x t_SL1_charAt (0, am_ent (am_mL t_SL1_charAt) [.ref 6100, .int (zi i)], [], M) Q := by
  refine am_xn 0 (c1 := (0, [.ref 6100, .int (zi i)], [], M)) rfl ?_
  refine am_xn 3 (c1 := (3, [.ref 6100, .int (zi i)], [.int (zi 6), .int (zi i)], M)) rfl ?_
  obtain ⟨M1, hc, hv⟩ := hv
  refine am_xc t_Str_checkIndex (.invokestatic 9) 9 (av := [.int (zi i), .int (zi 6)]) (rest := []) (rv := none) (M' := M1) rfl rfl rfl rfl (Nat.le_of_ble_eq_true rfl) (fun h => nomatch h) (hc) ?_
  refine am_xn 0 (c1 := (6, [.ref 6100, .int (zi i)], [], M1)) rfl ?_
  obtain ⟨r2, hv⟩ := hv
  refine am_xn 2 (c1 := (8, [.ref 6100, .int (zi i)], [.int (zi i), .ref 6100], M1)) rfl ?_
  refine am_xbald (q := 0) rfl rfl rfl r2 ?_
  refine am_xn 0 (c1 := (9, [.ref 6100, .int (zi i)], [.int (zi (zbyte 0 i))], M1)) rfl ?_
  refine am_xbit 2 (zi (zbyte 0 i) &&& zi 255) (pc := 13) (ls := [.ref 6100, .int (zi i)]) (st := []) rfl ?_
  refine am_xn 0 (c1 := (13, [.ref 6100, .int (zi i)], [.int (zi (zand (zbyte 0 i) 255))], M1)) rfl ?_
  refine am_xbit 1 (((zi (zand (zbyte 0 i) 255)).toUInt32 % 65536).toInt32) (pc := 14) (ls := [.ref 6100, .int (zi i)]) (st := []) rfl ?_
  refine am_xn 0 (c1 := (14, [.ref 6100, .int (zi i)], [.int (zi (zi2c (zand (zbyte 0 i) 255)))], M1)) rfl ?_
  exact am_xr (some (.int (zi (zi2c (zand (zbyte 0 i) 255))))) ⟨rfl, rfl, .char, rfl, hv.1⟩ hv.2
set_option maxRecDepth 100000 in
theorem vc_sat0 (i : Int) (M : am_M) (Q : Option Value → am_M → Prop) (hv : ∃ (r2 : Int) (M1 : am_M), am_call t_SL1_charAt [.ref 6100, .int (zi i)] M (some (.int (zi r2))) M1 ∧ (narrow .char (.int (zi r2)) = .int (zi r2) ∧ Q (some (.int (zi r2))) M1)) : am_x t_Str_charAt (0, am_ent (am_mL t_Str_charAt) [.ref 6000, .int (zi i)], [], M) Q := by
  refine am_xn 0 (c1 := (0, [.ref 6000, .int (zi i)], [], M)) rfl ?_
  refine am_xn 1 (c1 := (1, [.ref 6000, .int (zi i)], [.ref 6000], M)) rfl ?_
  refine am_xc t_Str_isLatin1 (.invokevirtual 492) 492 (av := [.ref 6000]) (rest := []) (rv := some (.int (zi 1))) (M' := M) rfl rfl rfl rfl (Nat.le_of_ble_eq_true rfl) (fun _ => rfl) (sp_isLatin0 M) ?_
  refine am_xn 0 (c1 := (4, [.ref 6000, .int (zi i)], [.int (zi 1)], M)) rfl ?_
  refine am_xn 4 (c1 := (12, [.ref 6000, .int (zi i)], [.int (zi i), .ref 6100], M)) rfl ?_
  obtain ⟨r2, M1, hc, hv⟩ := hv
  refine am_xc t_SL1_charAt (.invokestatic 495) 495 (av := [.ref 6100, .int (zi i)]) (rest := []) (rv := some (.int (zi r2))) (M' := M1) rfl rfl rfl rfl (Nat.le_of_ble_eq_true rfl) (fun h => nomatch h) (hc) ?_
  refine am_xn 0 (c1 := (15, [.ref 6000, .int (zi i)], [.int (zi r2)], M1)) rfl ?_
  exact am_xr (some (.int (zi r2))) ⟨rfl, rfl, .char, rfl, hv.1⟩ hv.2
theorem sp_strat_0_0 (M : am_M) : am_call t_Str_charAt [.ref 6000, .int (zi 0)] M (some (.int (zi 105))) M := by
  have e : zi2c (zand (zbyte 0 0) 255) = 105 := by decide +kernel
  exact am_call_of ⟨Nat.le_of_ble_eq_true rfl, rfl⟩ (vc_sat0 0 M _ ⟨105, M, am_call_of ⟨Nat.le_of_ble_eq_true rfl, rfl⟩ (vc_lat0 0 M _ ⟨M, sp_sci6 M ⟨by decide, by decide⟩, ⟨by decide, by decide⟩, by rw [e]; rfl, by rw [e], rfl⟩), rfl, rfl, rfl⟩)
theorem sp_strat_0_1 (M : am_M) : am_call t_Str_charAt [.ref 6000, .int (zi 1)] M (some (.int (zi 110))) M := by
  have e : zi2c (zand (zbyte 0 1) 255) = 110 := by decide +kernel
  exact am_call_of ⟨Nat.le_of_ble_eq_true rfl, rfl⟩ (vc_sat0 1 M _ ⟨110, M, am_call_of ⟨Nat.le_of_ble_eq_true rfl, rfl⟩ (vc_lat0 1 M _ ⟨M, sp_sci6 M ⟨by decide, by decide⟩, ⟨by decide, by decide⟩, by rw [e]; rfl, by rw [e], rfl⟩), rfl, rfl, rfl⟩)
theorem sp_strat_0_2 (M : am_M) : am_call t_Str_charAt [.ref 6000, .int (zi 2)] M (some (.int (zi 115))) M := by
  have e : zi2c (zand (zbyte 0 2) 255) = 115 := by decide +kernel
  exact am_call_of ⟨Nat.le_of_ble_eq_true rfl, rfl⟩ (vc_sat0 2 M _ ⟨115, M, am_call_of ⟨Nat.le_of_ble_eq_true rfl, rfl⟩ (vc_lat0 2 M _ ⟨M, sp_sci6 M ⟨by decide, by decide⟩, ⟨by decide, by decide⟩, by rw [e]; rfl, by rw [e], rfl⟩), rfl, rfl, rfl⟩)
theorem sp_strat_0_3 (M : am_M) : am_call t_Str_charAt [.ref 6000, .int (zi 3)] M (some (.int (zi 101))) M := by
  have e : zi2c (zand (zbyte 0 3) 255) = 101 := by decide +kernel
  exact am_call_of ⟨Nat.le_of_ble_eq_true rfl, rfl⟩ (vc_sat0 3 M _ ⟨101, M, am_call_of ⟨Nat.le_of_ble_eq_true rfl, rfl⟩ (vc_lat0 3 M _ ⟨M, sp_sci6 M ⟨by decide, by decide⟩, ⟨by decide, by decide⟩, by rw [e]; rfl, by rw [e], rfl⟩), rfl, rfl, rfl⟩)
theorem sp_strat_0_4 (M : am_M) : am_call t_Str_charAt [.ref 6000, .int (zi 4)] M (some (.int (zi 114))) M := by
  have e : zi2c (zand (zbyte 0 4) 255) = 114 := by decide +kernel
  exact am_call_of ⟨Nat.le_of_ble_eq_true rfl, rfl⟩ (vc_sat0 4 M _ ⟨114, M, am_call_of ⟨Nat.le_of_ble_eq_true rfl, rfl⟩ (vc_lat0 4 M _ ⟨M, sp_sci6 M ⟨by decide, by decide⟩, ⟨by decide, by decide⟩, by rw [e]; rfl, by rw [e], rfl⟩), rfl, rfl, rfl⟩)
theorem sp_strat_0_5 (M : am_M) : am_call t_Str_charAt [.ref 6000, .int (zi 5)] M (some (.int (zi 116))) M := by
  have e : zi2c (zand (zbyte 0 5) 255) = 116 := by decide +kernel
  exact am_call_of ⟨Nat.le_of_ble_eq_true rfl, rfl⟩ (vc_sat0 5 M _ ⟨116, M, am_call_of ⟨Nat.le_of_ble_eq_true rfl, rfl⟩ (vc_lat0 5 M _ ⟨M, sp_sci6 M ⟨by decide, by decide⟩, ⟨by decide, by decide⟩, by rw [e]; rfl, by rw [e], rfl⟩), rfl, rfl, rfl⟩)
set_option maxRecDepth 100000 in
theorem vc_lat1 (i : Int) (M : am_M) (Q : Option Value → am_M → Prop) (hv : ∃ M1, am_call t_Str_checkIndex [.int (zi i), .int (zi 7)] M none M1 ∧ ((0 ≤ i ∧ i < 7) ∧ (narrow .char (.int (zi (zi2c (zand (zbyte 1 i) 255)))) = .int (zi (zi2c (zand (zbyte 1 i) 255))) ∧ Q (some (.int (zi (zi2c (zand (zbyte 1 i) 255))))) M1))) : am_x t_SL1_charAt (0, am_ent (am_mL t_SL1_charAt) [.ref 6101, .int (zi i)], [], M) Q := by
  refine am_xn 0 (c1 := (0, [.ref 6101, .int (zi i)], [], M)) rfl ?_
  refine am_xn 3 (c1 := (3, [.ref 6101, .int (zi i)], [.int (zi 7), .int (zi i)], M)) rfl ?_
  obtain ⟨M1, hc, hv⟩ := hv
  refine am_xc t_Str_checkIndex (.invokestatic 9) 9 (av := [.int (zi i), .int (zi 7)]) (rest := []) (rv := none) (M' := M1) rfl rfl rfl rfl (Nat.le_of_ble_eq_true rfl) (fun h => nomatch h) (hc) ?_
  refine am_xn 0 (c1 := (6, [.ref 6101, .int (zi i)], [], M1)) rfl ?_
  obtain ⟨r2, hv⟩ := hv
  refine am_xn 2 (c1 := (8, [.ref 6101, .int (zi i)], [.int (zi i), .ref 6101], M1)) rfl ?_
  refine am_xbald (q := 1) rfl rfl rfl r2 ?_
  refine am_xn 0 (c1 := (9, [.ref 6101, .int (zi i)], [.int (zi (zbyte 1 i))], M1)) rfl ?_
  refine am_xbit 2 (zi (zbyte 1 i) &&& zi 255) (pc := 13) (ls := [.ref 6101, .int (zi i)]) (st := []) rfl ?_
  refine am_xn 0 (c1 := (13, [.ref 6101, .int (zi i)], [.int (zi (zand (zbyte 1 i) 255))], M1)) rfl ?_
  refine am_xbit 1 (((zi (zand (zbyte 1 i) 255)).toUInt32 % 65536).toInt32) (pc := 14) (ls := [.ref 6101, .int (zi i)]) (st := []) rfl ?_
  refine am_xn 0 (c1 := (14, [.ref 6101, .int (zi i)], [.int (zi (zi2c (zand (zbyte 1 i) 255)))], M1)) rfl ?_
  exact am_xr (some (.int (zi (zi2c (zand (zbyte 1 i) 255))))) ⟨rfl, rfl, .char, rfl, hv.1⟩ hv.2
set_option maxRecDepth 100000 in
theorem vc_sat1 (i : Int) (M : am_M) (Q : Option Value → am_M → Prop) (hv : ∃ (r2 : Int) (M1 : am_M), am_call t_SL1_charAt [.ref 6101, .int (zi i)] M (some (.int (zi r2))) M1 ∧ (narrow .char (.int (zi r2)) = .int (zi r2) ∧ Q (some (.int (zi r2))) M1)) : am_x t_Str_charAt (0, am_ent (am_mL t_Str_charAt) [.ref 6001, .int (zi i)], [], M) Q := by
  refine am_xn 0 (c1 := (0, [.ref 6001, .int (zi i)], [], M)) rfl ?_
  refine am_xn 1 (c1 := (1, [.ref 6001, .int (zi i)], [.ref 6001], M)) rfl ?_
  refine am_xc t_Str_isLatin1 (.invokevirtual 492) 492 (av := [.ref 6001]) (rest := []) (rv := some (.int (zi 1))) (M' := M) rfl rfl rfl rfl (Nat.le_of_ble_eq_true rfl) (fun _ => rfl) (sp_isLatin1 M) ?_
  refine am_xn 0 (c1 := (4, [.ref 6001, .int (zi i)], [.int (zi 1)], M)) rfl ?_
  refine am_xn 4 (c1 := (12, [.ref 6001, .int (zi i)], [.int (zi i), .ref 6101], M)) rfl ?_
  obtain ⟨r2, M1, hc, hv⟩ := hv
  refine am_xc t_SL1_charAt (.invokestatic 495) 495 (av := [.ref 6101, .int (zi i)]) (rest := []) (rv := some (.int (zi r2))) (M' := M1) rfl rfl rfl rfl (Nat.le_of_ble_eq_true rfl) (fun h => nomatch h) (hc) ?_
  refine am_xn 0 (c1 := (15, [.ref 6001, .int (zi i)], [.int (zi r2)], M1)) rfl ?_
  exact am_xr (some (.int (zi r2))) ⟨rfl, rfl, .char, rfl, hv.1⟩ hv.2
theorem sp_strat_1_0 (M : am_M) : am_call t_Str_charAt [.ref 6001, .int (zi 0)] M (some (.int (zi 114))) M := by
  have e : zi2c (zand (zbyte 1 0) 255) = 114 := by decide +kernel
  exact am_call_of ⟨Nat.le_of_ble_eq_true rfl, rfl⟩ (vc_sat1 0 M _ ⟨114, M, am_call_of ⟨Nat.le_of_ble_eq_true rfl, rfl⟩ (vc_lat1 0 M _ ⟨M, sp_sci7 M ⟨by decide, by decide⟩, ⟨by decide, by decide⟩, by rw [e]; rfl, by rw [e], rfl⟩), rfl, rfl, rfl⟩)
theorem sp_strat_1_1 (M : am_M) : am_call t_Str_charAt [.ref 6001, .int (zi 1)] M (some (.int (zi 101))) M := by
  have e : zi2c (zand (zbyte 1 1) 255) = 101 := by decide +kernel
  exact am_call_of ⟨Nat.le_of_ble_eq_true rfl, rfl⟩ (vc_sat1 1 M _ ⟨101, M, am_call_of ⟨Nat.le_of_ble_eq_true rfl, rfl⟩ (vc_lat1 1 M _ ⟨M, sp_sci7 M ⟨by decide, by decide⟩, ⟨by decide, by decide⟩, by rw [e]; rfl, by rw [e], rfl⟩), rfl, rfl, rfl⟩)
theorem sp_strat_1_2 (M : am_M) : am_call t_Str_charAt [.ref 6001, .int (zi 2)] M (some (.int (zi 112))) M := by
  have e : zi2c (zand (zbyte 1 2) 255) = 112 := by decide +kernel
  exact am_call_of ⟨Nat.le_of_ble_eq_true rfl, rfl⟩ (vc_sat1 2 M _ ⟨112, M, am_call_of ⟨Nat.le_of_ble_eq_true rfl, rfl⟩ (vc_lat1 2 M _ ⟨M, sp_sci7 M ⟨by decide, by decide⟩, ⟨by decide, by decide⟩, by rw [e]; rfl, by rw [e], rfl⟩), rfl, rfl, rfl⟩)
theorem sp_strat_1_3 (M : am_M) : am_call t_Str_charAt [.ref 6001, .int (zi 3)] M (some (.int (zi 108))) M := by
  have e : zi2c (zand (zbyte 1 3) 255) = 108 := by decide +kernel
  exact am_call_of ⟨Nat.le_of_ble_eq_true rfl, rfl⟩ (vc_sat1 3 M _ ⟨108, M, am_call_of ⟨Nat.le_of_ble_eq_true rfl, rfl⟩ (vc_lat1 3 M _ ⟨M, sp_sci7 M ⟨by decide, by decide⟩, ⟨by decide, by decide⟩, by rw [e]; rfl, by rw [e], rfl⟩), rfl, rfl, rfl⟩)
theorem sp_strat_1_4 (M : am_M) : am_call t_Str_charAt [.ref 6001, .int (zi 4)] M (some (.int (zi 97))) M := by
  have e : zi2c (zand (zbyte 1 4) 255) = 97 := by decide +kernel
  exact am_call_of ⟨Nat.le_of_ble_eq_true rfl, rfl⟩ (vc_sat1 4 M _ ⟨97, M, am_call_of ⟨Nat.le_of_ble_eq_true rfl, rfl⟩ (vc_lat1 4 M _ ⟨M, sp_sci7 M ⟨by decide, by decide⟩, ⟨by decide, by decide⟩, by rw [e]; rfl, by rw [e], rfl⟩), rfl, rfl, rfl⟩)
theorem sp_strat_1_5 (M : am_M) : am_call t_Str_charAt [.ref 6001, .int (zi 5)] M (some (.int (zi 99))) M := by
  have e : zi2c (zand (zbyte 1 5) 255) = 99 := by decide +kernel
  exact am_call_of ⟨Nat.le_of_ble_eq_true rfl, rfl⟩ (vc_sat1 5 M _ ⟨99, M, am_call_of ⟨Nat.le_of_ble_eq_true rfl, rfl⟩ (vc_lat1 5 M _ ⟨M, sp_sci7 M ⟨by decide, by decide⟩, ⟨by decide, by decide⟩, by rw [e]; rfl, by rw [e], rfl⟩), rfl, rfl, rfl⟩)
theorem sp_strat_1_6 (M : am_M) : am_call t_Str_charAt [.ref 6001, .int (zi 6)] M (some (.int (zi 101))) M := by
  have e : zi2c (zand (zbyte 1 6) 255) = 101 := by decide +kernel
  exact am_call_of ⟨Nat.le_of_ble_eq_true rfl, rfl⟩ (vc_sat1 6 M _ ⟨101, M, am_call_of ⟨Nat.le_of_ble_eq_true rfl, rfl⟩ (vc_lat1 6 M _ ⟨M, sp_sci7 M ⟨by decide, by decide⟩, ⟨by decide, by decide⟩, by rw [e]; rfl, by rw [e], rfl⟩), rfl, rfl, rfl⟩)
set_option maxRecDepth 100000 in
theorem vc_lat2 (i : Int) (M : am_M) (Q : Option Value → am_M → Prop) (hv : ∃ M1, am_call t_Str_checkIndex [.int (zi i), .int (zi 6)] M none M1 ∧ ((0 ≤ i ∧ i < 6) ∧ (narrow .char (.int (zi (zi2c (zand (zbyte 2 i) 255)))) = .int (zi (zi2c (zand (zbyte 2 i) 255))) ∧ Q (some (.int (zi (zi2c (zand (zbyte 2 i) 255))))) M1))) : am_x t_SL1_charAt (0, am_ent (am_mL t_SL1_charAt) [.ref 6102, .int (zi i)], [], M) Q := by
  refine am_xn 0 (c1 := (0, [.ref 6102, .int (zi i)], [], M)) rfl ?_
  refine am_xn 3 (c1 := (3, [.ref 6102, .int (zi i)], [.int (zi 6), .int (zi i)], M)) rfl ?_
  obtain ⟨M1, hc, hv⟩ := hv
  refine am_xc t_Str_checkIndex (.invokestatic 9) 9 (av := [.int (zi i), .int (zi 6)]) (rest := []) (rv := none) (M' := M1) rfl rfl rfl rfl (Nat.le_of_ble_eq_true rfl) (fun h => nomatch h) (hc) ?_
  refine am_xn 0 (c1 := (6, [.ref 6102, .int (zi i)], [], M1)) rfl ?_
  obtain ⟨r2, hv⟩ := hv
  refine am_xn 2 (c1 := (8, [.ref 6102, .int (zi i)], [.int (zi i), .ref 6102], M1)) rfl ?_
  refine am_xbald (q := 2) rfl rfl rfl r2 ?_
  refine am_xn 0 (c1 := (9, [.ref 6102, .int (zi i)], [.int (zi (zbyte 2 i))], M1)) rfl ?_
  refine am_xbit 2 (zi (zbyte 2 i) &&& zi 255) (pc := 13) (ls := [.ref 6102, .int (zi i)]) (st := []) rfl ?_
  refine am_xn 0 (c1 := (13, [.ref 6102, .int (zi i)], [.int (zi (zand (zbyte 2 i) 255))], M1)) rfl ?_
  refine am_xbit 1 (((zi (zand (zbyte 2 i) 255)).toUInt32 % 65536).toInt32) (pc := 14) (ls := [.ref 6102, .int (zi i)]) (st := []) rfl ?_
  refine am_xn 0 (c1 := (14, [.ref 6102, .int (zi i)], [.int (zi (zi2c (zand (zbyte 2 i) 255)))], M1)) rfl ?_
  exact am_xr (some (.int (zi (zi2c (zand (zbyte 2 i) 255))))) ⟨rfl, rfl, .char, rfl, hv.1⟩ hv.2
set_option maxRecDepth 100000 in
theorem vc_sat2 (i : Int) (M : am_M) (Q : Option Value → am_M → Prop) (hv : ∃ (r2 : Int) (M1 : am_M), am_call t_SL1_charAt [.ref 6102, .int (zi i)] M (some (.int (zi r2))) M1 ∧ (narrow .char (.int (zi r2)) = .int (zi r2) ∧ Q (some (.int (zi r2))) M1)) : am_x t_Str_charAt (0, am_ent (am_mL t_Str_charAt) [.ref 6002, .int (zi i)], [], M) Q := by
  refine am_xn 0 (c1 := (0, [.ref 6002, .int (zi i)], [], M)) rfl ?_
  refine am_xn 1 (c1 := (1, [.ref 6002, .int (zi i)], [.ref 6002], M)) rfl ?_
  refine am_xc t_Str_isLatin1 (.invokevirtual 492) 492 (av := [.ref 6002]) (rest := []) (rv := some (.int (zi 1))) (M' := M) rfl rfl rfl rfl (Nat.le_of_ble_eq_true rfl) (fun _ => rfl) (sp_isLatin2 M) ?_
  refine am_xn 0 (c1 := (4, [.ref 6002, .int (zi i)], [.int (zi 1)], M)) rfl ?_
  refine am_xn 4 (c1 := (12, [.ref 6002, .int (zi i)], [.int (zi i), .ref 6102], M)) rfl ?_
  obtain ⟨r2, M1, hc, hv⟩ := hv
  refine am_xc t_SL1_charAt (.invokestatic 495) 495 (av := [.ref 6102, .int (zi i)]) (rest := []) (rv := some (.int (zi r2))) (M' := M1) rfl rfl rfl rfl (Nat.le_of_ble_eq_true rfl) (fun h => nomatch h) (hc) ?_
  refine am_xn 0 (c1 := (15, [.ref 6002, .int (zi i)], [.int (zi r2)], M1)) rfl ?_
  exact am_xr (some (.int (zi r2))) ⟨rfl, rfl, .char, rfl, hv.1⟩ hv.2
theorem sp_strat_2_0 (M : am_M) : am_call t_Str_charAt [.ref 6002, .int (zi 0)] M (some (.int (zi 114))) M := by
  have e : zi2c (zand (zbyte 2 0) 255) = 114 := by decide +kernel
  exact am_call_of ⟨Nat.le_of_ble_eq_true rfl, rfl⟩ (vc_sat2 0 M _ ⟨114, M, am_call_of ⟨Nat.le_of_ble_eq_true rfl, rfl⟩ (vc_lat2 0 M _ ⟨M, sp_sci6 M ⟨by decide, by decide⟩, ⟨by decide, by decide⟩, by rw [e]; rfl, by rw [e], rfl⟩), rfl, rfl, rfl⟩)
theorem sp_strat_2_1 (M : am_M) : am_call t_Str_charAt [.ref 6002, .int (zi 1)] M (some (.int (zi 101))) M := by
  have e : zi2c (zand (zbyte 2 1) 255) = 101 := by decide +kernel
  exact am_call_of ⟨Nat.le_of_ble_eq_true rfl, rfl⟩ (vc_sat2 1 M _ ⟨101, M, am_call_of ⟨Nat.le_of_ble_eq_true rfl, rfl⟩ (vc_lat2 1 M _ ⟨M, sp_sci6 M ⟨by decide, by decide⟩, ⟨by decide, by decide⟩, by rw [e]; rfl, by rw [e], rfl⟩), rfl, rfl, rfl⟩)
theorem sp_strat_2_2 (M : am_M) : am_call t_Str_charAt [.ref 6002, .int (zi 2)] M (some (.int (zi 112))) M := by
  have e : zi2c (zand (zbyte 2 2) 255) = 112 := by decide +kernel
  exact am_call_of ⟨Nat.le_of_ble_eq_true rfl, rfl⟩ (vc_sat2 2 M _ ⟨112, M, am_call_of ⟨Nat.le_of_ble_eq_true rfl, rfl⟩ (vc_lat2 2 M _ ⟨M, sp_sci6 M ⟨by decide, by decide⟩, ⟨by decide, by decide⟩, by rw [e]; rfl, by rw [e], rfl⟩), rfl, rfl, rfl⟩)
theorem sp_strat_2_3 (M : am_M) : am_call t_Str_charAt [.ref 6002, .int (zi 3)] M (some (.int (zi 101))) M := by
  have e : zi2c (zand (zbyte 2 3) 255) = 101 := by decide +kernel
  exact am_call_of ⟨Nat.le_of_ble_eq_true rfl, rfl⟩ (vc_sat2 3 M _ ⟨101, M, am_call_of ⟨Nat.le_of_ble_eq_true rfl, rfl⟩ (vc_lat2 3 M _ ⟨M, sp_sci6 M ⟨by decide, by decide⟩, ⟨by decide, by decide⟩, by rw [e]; rfl, by rw [e], rfl⟩), rfl, rfl, rfl⟩)
theorem sp_strat_2_4 (M : am_M) : am_call t_Str_charAt [.ref 6002, .int (zi 4)] M (some (.int (zi 97))) M := by
  have e : zi2c (zand (zbyte 2 4) 255) = 97 := by decide +kernel
  exact am_call_of ⟨Nat.le_of_ble_eq_true rfl, rfl⟩ (vc_sat2 4 M _ ⟨97, M, am_call_of ⟨Nat.le_of_ble_eq_true rfl, rfl⟩ (vc_lat2 4 M _ ⟨M, sp_sci6 M ⟨by decide, by decide⟩, ⟨by decide, by decide⟩, by rw [e]; rfl, by rw [e], rfl⟩), rfl, rfl, rfl⟩)
theorem sp_strat_2_5 (M : am_M) : am_call t_Str_charAt [.ref 6002, .int (zi 5)] M (some (.int (zi 108))) M := by
  have e : zi2c (zand (zbyte 2 5) 255) = 108 := by decide +kernel
  exact am_call_of ⟨Nat.le_of_ble_eq_true rfl, rfl⟩ (vc_sat2 5 M _ ⟨108, M, am_call_of ⟨Nat.le_of_ble_eq_true rfl, rfl⟩ (vc_lat2 5 M _ ⟨M, sp_sci6 M ⟨by decide, by decide⟩, ⟨by decide, by decide⟩, by rw [e]; rfl, by rw [e], rfl⟩), rfl, rfl, rfl⟩)
set_option maxRecDepth 100000 in
theorem vc_lat3 (i : Int) (M : am_M) (Q : Option Value → am_M → Prop) (hv : ∃ M1, am_call t_Str_checkIndex [.int (zi i), .int (zi 8)] M none M1 ∧ ((0 ≤ i ∧ i < 8) ∧ (narrow .char (.int (zi (zi2c (zand (zbyte 3 i) 255)))) = .int (zi (zi2c (zand (zbyte 3 i) 255))) ∧ Q (some (.int (zi (zi2c (zand (zbyte 3 i) 255))))) M1))) : am_x t_SL1_charAt (0, am_ent (am_mL t_SL1_charAt) [.ref 6103, .int (zi i)], [], M) Q := by
  refine am_xn 0 (c1 := (0, [.ref 6103, .int (zi i)], [], M)) rfl ?_
  refine am_xn 3 (c1 := (3, [.ref 6103, .int (zi i)], [.int (zi 8), .int (zi i)], M)) rfl ?_
  obtain ⟨M1, hc, hv⟩ := hv
  refine am_xc t_Str_checkIndex (.invokestatic 9) 9 (av := [.int (zi i), .int (zi 8)]) (rest := []) (rv := none) (M' := M1) rfl rfl rfl rfl (Nat.le_of_ble_eq_true rfl) (fun h => nomatch h) (hc) ?_
  refine am_xn 0 (c1 := (6, [.ref 6103, .int (zi i)], [], M1)) rfl ?_
  obtain ⟨r2, hv⟩ := hv
  refine am_xn 2 (c1 := (8, [.ref 6103, .int (zi i)], [.int (zi i), .ref 6103], M1)) rfl ?_
  refine am_xbald (q := 3) rfl rfl rfl r2 ?_
  refine am_xn 0 (c1 := (9, [.ref 6103, .int (zi i)], [.int (zi (zbyte 3 i))], M1)) rfl ?_
  refine am_xbit 2 (zi (zbyte 3 i) &&& zi 255) (pc := 13) (ls := [.ref 6103, .int (zi i)]) (st := []) rfl ?_
  refine am_xn 0 (c1 := (13, [.ref 6103, .int (zi i)], [.int (zi (zand (zbyte 3 i) 255))], M1)) rfl ?_
  refine am_xbit 1 (((zi (zand (zbyte 3 i) 255)).toUInt32 % 65536).toInt32) (pc := 14) (ls := [.ref 6103, .int (zi i)]) (st := []) rfl ?_
  refine am_xn 0 (c1 := (14, [.ref 6103, .int (zi i)], [.int (zi (zi2c (zand (zbyte 3 i) 255)))], M1)) rfl ?_
  exact am_xr (some (.int (zi (zi2c (zand (zbyte 3 i) 255))))) ⟨rfl, rfl, .char, rfl, hv.1⟩ hv.2
set_option maxRecDepth 100000 in
theorem vc_sat3 (i : Int) (M : am_M) (Q : Option Value → am_M → Prop) (hv : ∃ (r2 : Int) (M1 : am_M), am_call t_SL1_charAt [.ref 6103, .int (zi i)] M (some (.int (zi r2))) M1 ∧ (narrow .char (.int (zi r2)) = .int (zi r2) ∧ Q (some (.int (zi r2))) M1)) : am_x t_Str_charAt (0, am_ent (am_mL t_Str_charAt) [.ref 6003, .int (zi i)], [], M) Q := by
  refine am_xn 0 (c1 := (0, [.ref 6003, .int (zi i)], [], M)) rfl ?_
  refine am_xn 1 (c1 := (1, [.ref 6003, .int (zi i)], [.ref 6003], M)) rfl ?_
  refine am_xc t_Str_isLatin1 (.invokevirtual 492) 492 (av := [.ref 6003]) (rest := []) (rv := some (.int (zi 1))) (M' := M) rfl rfl rfl rfl (Nat.le_of_ble_eq_true rfl) (fun _ => rfl) (sp_isLatin3 M) ?_
  refine am_xn 0 (c1 := (4, [.ref 6003, .int (zi i)], [.int (zi 1)], M)) rfl ?_
  refine am_xn 4 (c1 := (12, [.ref 6003, .int (zi i)], [.int (zi i), .ref 6103], M)) rfl ?_
  obtain ⟨r2, M1, hc, hv⟩ := hv
  refine am_xc t_SL1_charAt (.invokestatic 495) 495 (av := [.ref 6103, .int (zi i)]) (rest := []) (rv := some (.int (zi r2))) (M' := M1) rfl rfl rfl rfl (Nat.le_of_ble_eq_true rfl) (fun h => nomatch h) (hc) ?_
  refine am_xn 0 (c1 := (15, [.ref 6003, .int (zi i)], [.int (zi r2)], M1)) rfl ?_
  exact am_xr (some (.int (zi r2))) ⟨rfl, rfl, .char, rfl, hv.1⟩ hv.2
theorem sp_strat_3_0 (M : am_M) : am_call t_Str_charAt [.ref 6003, .int (zi 0)] M (some (.int (zi 114))) M := by
  have e : zi2c (zand (zbyte 3 0) 255) = 114 := by decide +kernel
  exact am_call_of ⟨Nat.le_of_ble_eq_true rfl, rfl⟩ (vc_sat3 0 M _ ⟨114, M, am_call_of ⟨Nat.le_of_ble_eq_true rfl, rfl⟩ (vc_lat3 0 M _ ⟨M, sp_sci8 M ⟨by decide, by decide⟩, ⟨by decide, by decide⟩, by rw [e]; rfl, by rw [e], rfl⟩), rfl, rfl, rfl⟩)
theorem sp_strat_3_1 (M : am_M) : am_call t_Str_charAt [.ref 6003, .int (zi 1)] M (some (.int (zi 101))) M := by
  have e : zi2c (zand (zbyte 3 1) 255) = 101 := by decide +kernel
  exact am_call_of ⟨Nat.le_of_ble_eq_true rfl, rfl⟩ (vc_sat3 1 M _ ⟨101, M, am_call_of ⟨Nat.le_of_ble_eq_true rfl, rfl⟩ (vc_lat3 1 M _ ⟨M, sp_sci8 M ⟨by decide, by decide⟩, ⟨by decide, by decide⟩, by rw [e]; rfl, by rw [e], rfl⟩), rfl, rfl, rfl⟩)
theorem sp_strat_3_2 (M : am_M) : am_call t_Str_charAt [.ref 6003, .int (zi 2)] M (some (.int (zi 110))) M := by
  have e : zi2c (zand (zbyte 3 2) 255) = 110 := by decide +kernel
  exact am_call_of ⟨Nat.le_of_ble_eq_true rfl, rfl⟩ (vc_sat3 2 M _ ⟨110, M, am_call_of ⟨Nat.le_of_ble_eq_true rfl, rfl⟩ (vc_lat3 2 M _ ⟨M, sp_sci8 M ⟨by decide, by decide⟩, ⟨by decide, by decide⟩, by rw [e]; rfl, by rw [e], rfl⟩), rfl, rfl, rfl⟩)
theorem sp_strat_3_3 (M : am_M) : am_call t_Str_charAt [.ref 6003, .int (zi 3)] M (some (.int (zi 117))) M := by
  have e : zi2c (zand (zbyte 3 3) 255) = 117 := by decide +kernel
  exact am_call_of ⟨Nat.le_of_ble_eq_true rfl, rfl⟩ (vc_sat3 3 M _ ⟨117, M, am_call_of ⟨Nat.le_of_ble_eq_true rfl, rfl⟩ (vc_lat3 3 M _ ⟨M, sp_sci8 M ⟨by decide, by decide⟩, ⟨by decide, by decide⟩, by rw [e]; rfl, by rw [e], rfl⟩), rfl, rfl, rfl⟩)
theorem sp_strat_3_4 (M : am_M) : am_call t_Str_charAt [.ref 6003, .int (zi 4)] M (some (.int (zi 109))) M := by
  have e : zi2c (zand (zbyte 3 4) 255) = 109 := by decide +kernel
  exact am_call_of ⟨Nat.le_of_ble_eq_true rfl, rfl⟩ (vc_sat3 4 M _ ⟨109, M, am_call_of ⟨Nat.le_of_ble_eq_true rfl, rfl⟩ (vc_lat3 4 M _ ⟨M, sp_sci8 M ⟨by decide, by decide⟩, ⟨by decide, by decide⟩, by rw [e]; rfl, by rw [e], rfl⟩), rfl, rfl, rfl⟩)
theorem sp_strat_3_5 (M : am_M) : am_call t_Str_charAt [.ref 6003, .int (zi 5)] M (some (.int (zi 98))) M := by
  have e : zi2c (zand (zbyte 3 5) 255) = 98 := by decide +kernel
  exact am_call_of ⟨Nat.le_of_ble_eq_true rfl, rfl⟩ (vc_sat3 5 M _ ⟨98, M, am_call_of ⟨Nat.le_of_ble_eq_true rfl, rfl⟩ (vc_lat3 5 M _ ⟨M, sp_sci8 M ⟨by decide, by decide⟩, ⟨by decide, by decide⟩, by rw [e]; rfl, by rw [e], rfl⟩), rfl, rfl, rfl⟩)
theorem sp_strat_3_6 (M : am_M) : am_call t_Str_charAt [.ref 6003, .int (zi 6)] M (some (.int (zi 101))) M := by
  have e : zi2c (zand (zbyte 3 6) 255) = 101 := by decide +kernel
  exact am_call_of ⟨Nat.le_of_ble_eq_true rfl, rfl⟩ (vc_sat3 6 M _ ⟨101, M, am_call_of ⟨Nat.le_of_ble_eq_true rfl, rfl⟩ (vc_lat3 6 M _ ⟨M, sp_sci8 M ⟨by decide, by decide⟩, ⟨by decide, by decide⟩, by rw [e]; rfl, by rw [e], rfl⟩), rfl, rfl, rfl⟩)
theorem sp_strat_3_7 (M : am_M) : am_call t_Str_charAt [.ref 6003, .int (zi 7)] M (some (.int (zi 114))) M := by
  have e : zi2c (zand (zbyte 3 7) 255) = 114 := by decide +kernel
  exact am_call_of ⟨Nat.le_of_ble_eq_true rfl, rfl⟩ (vc_sat3 7 M _ ⟨114, M, am_call_of ⟨Nat.le_of_ble_eq_true rfl, rfl⟩ (vc_lat3 7 M _ ⟨M, sp_sci8 M ⟨by decide, by decide⟩, ⟨by decide, by decide⟩, by rw [e]; rfl, by rw [e], rfl⟩), rfl, rfl, rfl⟩)
set_option maxRecDepth 100000 in
theorem vc_lat4 (i : Int) (M : am_M) (Q : Option Value → am_M → Prop) (hv : ∃ M1, am_call t_Str_checkIndex [.int (zi i), .int (zi 2)] M none M1 ∧ ((0 ≤ i ∧ i < 2) ∧ (narrow .char (.int (zi (zi2c (zand (zbyte 4 i) 255)))) = .int (zi (zi2c (zand (zbyte 4 i) 255))) ∧ Q (some (.int (zi (zi2c (zand (zbyte 4 i) 255))))) M1))) : am_x t_SL1_charAt (0, am_ent (am_mL t_SL1_charAt) [.ref 6104, .int (zi i)], [], M) Q := by
  refine am_xn 0 (c1 := (0, [.ref 6104, .int (zi i)], [], M)) rfl ?_
  refine am_xn 3 (c1 := (3, [.ref 6104, .int (zi i)], [.int (zi 2), .int (zi i)], M)) rfl ?_
  obtain ⟨M1, hc, hv⟩ := hv
  refine am_xc t_Str_checkIndex (.invokestatic 9) 9 (av := [.int (zi i), .int (zi 2)]) (rest := []) (rv := none) (M' := M1) rfl rfl rfl rfl (Nat.le_of_ble_eq_true rfl) (fun h => nomatch h) (hc) ?_
  refine am_xn 0 (c1 := (6, [.ref 6104, .int (zi i)], [], M1)) rfl ?_
  obtain ⟨r2, hv⟩ := hv
  refine am_xn 2 (c1 := (8, [.ref 6104, .int (zi i)], [.int (zi i), .ref 6104], M1)) rfl ?_
  refine am_xbald (q := 4) rfl rfl rfl r2 ?_
  refine am_xn 0 (c1 := (9, [.ref 6104, .int (zi i)], [.int (zi (zbyte 4 i))], M1)) rfl ?_
  refine am_xbit 2 (zi (zbyte 4 i) &&& zi 255) (pc := 13) (ls := [.ref 6104, .int (zi i)]) (st := []) rfl ?_
  refine am_xn 0 (c1 := (13, [.ref 6104, .int (zi i)], [.int (zi (zand (zbyte 4 i) 255))], M1)) rfl ?_
  refine am_xbit 1 (((zi (zand (zbyte 4 i) 255)).toUInt32 % 65536).toInt32) (pc := 14) (ls := [.ref 6104, .int (zi i)]) (st := []) rfl ?_
  refine am_xn 0 (c1 := (14, [.ref 6104, .int (zi i)], [.int (zi (zi2c (zand (zbyte 4 i) 255)))], M1)) rfl ?_
  exact am_xr (some (.int (zi (zi2c (zand (zbyte 4 i) 255))))) ⟨rfl, rfl, .char, rfl, hv.1⟩ hv.2
set_option maxRecDepth 100000 in
theorem vc_sat4 (i : Int) (M : am_M) (Q : Option Value → am_M → Prop) (hv : ∃ (r2 : Int) (M1 : am_M), am_call t_SL1_charAt [.ref 6104, .int (zi i)] M (some (.int (zi r2))) M1 ∧ (narrow .char (.int (zi r2)) = .int (zi r2) ∧ Q (some (.int (zi r2))) M1)) : am_x t_Str_charAt (0, am_ent (am_mL t_Str_charAt) [.ref 6004, .int (zi i)], [], M) Q := by
  refine am_xn 0 (c1 := (0, [.ref 6004, .int (zi i)], [], M)) rfl ?_
  refine am_xn 1 (c1 := (1, [.ref 6004, .int (zi i)], [.ref 6004], M)) rfl ?_
  refine am_xc t_Str_isLatin1 (.invokevirtual 492) 492 (av := [.ref 6004]) (rest := []) (rv := some (.int (zi 1))) (M' := M) rfl rfl rfl rfl (Nat.le_of_ble_eq_true rfl) (fun _ => rfl) (sp_isLatin4 M) ?_
  refine am_xn 0 (c1 := (4, [.ref 6004, .int (zi i)], [.int (zi 1)], M)) rfl ?_
  refine am_xn 4 (c1 := (12, [.ref 6004, .int (zi i)], [.int (zi i), .ref 6104], M)) rfl ?_
  obtain ⟨r2, M1, hc, hv⟩ := hv
  refine am_xc t_SL1_charAt (.invokestatic 495) 495 (av := [.ref 6104, .int (zi i)]) (rest := []) (rv := some (.int (zi r2))) (M' := M1) rfl rfl rfl rfl (Nat.le_of_ble_eq_true rfl) (fun h => nomatch h) (hc) ?_
  refine am_xn 0 (c1 := (15, [.ref 6004, .int (zi i)], [.int (zi r2)], M1)) rfl ?_
  exact am_xr (some (.int (zi r2))) ⟨rfl, rfl, .char, rfl, hv.1⟩ hv.2
theorem sp_strat_4_0 (M : am_M) : am_call t_Str_charAt [.ref 6004, .int (zi 0)] M (some (.int (zi 105))) M := by
  have e : zi2c (zand (zbyte 4 0) 255) = 105 := by decide +kernel
  exact am_call_of ⟨Nat.le_of_ble_eq_true rfl, rfl⟩ (vc_sat4 0 M _ ⟨105, M, am_call_of ⟨Nat.le_of_ble_eq_true rfl, rfl⟩ (vc_lat4 0 M _ ⟨M, sp_sci2 M ⟨by decide, by decide⟩, ⟨by decide, by decide⟩, by rw [e]; rfl, by rw [e], rfl⟩), rfl, rfl, rfl⟩)
theorem sp_strat_4_1 (M : am_M) : am_call t_Str_charAt [.ref 6004, .int (zi 1)] M (some (.int (zi 110))) M := by
  have e : zi2c (zand (zbyte 4 1) 255) = 110 := by decide +kernel
  exact am_call_of ⟨Nat.le_of_ble_eq_true rfl, rfl⟩ (vc_sat4 1 M _ ⟨110, M, am_call_of ⟨Nat.le_of_ble_eq_true rfl, rfl⟩ (vc_lat4 1 M _ ⟨M, sp_sci2 M ⟨by decide, by decide⟩, ⟨by decide, by decide⟩, by rw [e]; rfl, by rw [e], rfl⟩), rfl, rfl, rfl⟩)
set_option maxRecDepth 100000 in
theorem vc_lat5 (i : Int) (M : am_M) (Q : Option Value → am_M → Prop) (hv : ∃ M1, am_call t_Str_checkIndex [.int (zi i), .int (zi 2)] M none M1 ∧ ((0 ≤ i ∧ i < 2) ∧ (narrow .char (.int (zi (zi2c (zand (zbyte 5 i) 255)))) = .int (zi (zi2c (zand (zbyte 5 i) 255))) ∧ Q (some (.int (zi (zi2c (zand (zbyte 5 i) 255))))) M1))) : am_x t_SL1_charAt (0, am_ent (am_mL t_SL1_charAt) [.ref 6105, .int (zi i)], [], M) Q := by
  refine am_xn 0 (c1 := (0, [.ref 6105, .int (zi i)], [], M)) rfl ?_
  refine am_xn 3 (c1 := (3, [.ref 6105, .int (zi i)], [.int (zi 2), .int (zi i)], M)) rfl ?_
  obtain ⟨M1, hc, hv⟩ := hv
  refine am_xc t_Str_checkIndex (.invokestatic 9) 9 (av := [.int (zi i), .int (zi 2)]) (rest := []) (rv := none) (M' := M1) rfl rfl rfl rfl (Nat.le_of_ble_eq_true rfl) (fun h => nomatch h) (hc) ?_
  refine am_xn 0 (c1 := (6, [.ref 6105, .int (zi i)], [], M1)) rfl ?_
  obtain ⟨r2, hv⟩ := hv
  refine am_xn 2 (c1 := (8, [.ref 6105, .int (zi i)], [.int (zi i), .ref 6105], M1)) rfl ?_
  refine am_xbald (q := 5) rfl rfl rfl r2 ?_
  refine am_xn 0 (c1 := (9, [.ref 6105, .int (zi i)], [.int (zi (zbyte 5 i))], M1)) rfl ?_
  refine am_xbit 2 (zi (zbyte 5 i) &&& zi 255) (pc := 13) (ls := [.ref 6105, .int (zi i)]) (st := []) rfl ?_
  refine am_xn 0 (c1 := (13, [.ref 6105, .int (zi i)], [.int (zi (zand (zbyte 5 i) 255))], M1)) rfl ?_
  refine am_xbit 1 (((zi (zand (zbyte 5 i) 255)).toUInt32 % 65536).toInt32) (pc := 14) (ls := [.ref 6105, .int (zi i)]) (st := []) rfl ?_
  refine am_xn 0 (c1 := (14, [.ref 6105, .int (zi i)], [.int (zi (zi2c (zand (zbyte 5 i) 255)))], M1)) rfl ?_
  exact am_xr (some (.int (zi (zi2c (zand (zbyte 5 i) 255))))) ⟨rfl, rfl, .char, rfl, hv.1⟩ hv.2
set_option maxRecDepth 100000 in
theorem vc_sat5 (i : Int) (M : am_M) (Q : Option Value → am_M → Prop) (hv : ∃ (r2 : Int) (M1 : am_M), am_call t_SL1_charAt [.ref 6105, .int (zi i)] M (some (.int (zi r2))) M1 ∧ (narrow .char (.int (zi r2)) = .int (zi r2) ∧ Q (some (.int (zi r2))) M1)) : am_x t_Str_charAt (0, am_ent (am_mL t_Str_charAt) [.ref 6005, .int (zi i)], [], M) Q := by
  refine am_xn 0 (c1 := (0, [.ref 6005, .int (zi i)], [], M)) rfl ?_
  refine am_xn 1 (c1 := (1, [.ref 6005, .int (zi i)], [.ref 6005], M)) rfl ?_
  refine am_xc t_Str_isLatin1 (.invokevirtual 492) 492 (av := [.ref 6005]) (rest := []) (rv := some (.int (zi 1))) (M' := M) rfl rfl rfl rfl (Nat.le_of_ble_eq_true rfl) (fun _ => rfl) (sp_isLatin5 M) ?_
  refine am_xn 0 (c1 := (4, [.ref 6005, .int (zi i)], [.int (zi 1)], M)) rfl ?_
  refine am_xn 4 (c1 := (12, [.ref 6005, .int (zi i)], [.int (zi i), .ref 6105], M)) rfl ?_
  obtain ⟨r2, M1, hc, hv⟩ := hv
  refine am_xc t_SL1_charAt (.invokestatic 495) 495 (av := [.ref 6105, .int (zi i)]) (rest := []) (rv := some (.int (zi r2))) (M' := M1) rfl rfl rfl rfl (Nat.le_of_ble_eq_true rfl) (fun h => nomatch h) (hc) ?_
  refine am_xn 0 (c1 := (15, [.ref 6005, .int (zi i)], [.int (zi r2)], M1)) rfl ?_
  exact am_xr (some (.int (zi r2))) ⟨rfl, rfl, .char, rfl, hv.1⟩ hv.2
theorem sp_strat_5_0 (M : am_M) : am_call t_Str_charAt [.ref 6005, .int (zi 0)] M (some (.int (zi 116))) M := by
  have e : zi2c (zand (zbyte 5 0) 255) = 116 := by decide +kernel
  exact am_call_of ⟨Nat.le_of_ble_eq_true rfl, rfl⟩ (vc_sat5 0 M _ ⟨116, M, am_call_of ⟨Nat.le_of_ble_eq_true rfl, rfl⟩ (vc_lat5 0 M _ ⟨M, sp_sci2 M ⟨by decide, by decide⟩, ⟨by decide, by decide⟩, by rw [e]; rfl, by rw [e], rfl⟩), rfl, rfl, rfl⟩)
theorem sp_strat_5_1 (M : am_M) : am_call t_Str_charAt [.ref 6005, .int (zi 1)] M (some (.int (zi 111))) M := by
  have e : zi2c (zand (zbyte 5 1) 255) = 111 := by decide +kernel
  exact am_call_of ⟨Nat.le_of_ble_eq_true rfl, rfl⟩ (vc_sat5 1 M _ ⟨111, M, am_call_of ⟨Nat.le_of_ble_eq_true rfl, rfl⟩ (vc_lat5 1 M _ ⟨M, sp_sci2 M ⟨by decide, by decide⟩, ⟨by decide, by decide⟩, by rw [e]; rfl, by rw [e], rfl⟩), rfl, rfl, rfl⟩)
set_option maxRecDepth 100000 in
theorem vc_lat6 (i : Int) (M : am_M) (Q : Option Value → am_M → Prop) (hv : ∃ M1, am_call t_Str_checkIndex [.int (zi i), .int (zi 3)] M none M1 ∧ ((0 ≤ i ∧ i < 3) ∧ (narrow .char (.int (zi (zi2c (zand (zbyte 6 i) 255)))) = .int (zi (zi2c (zand (zbyte 6 i) 255))) ∧ Q (some (.int (zi (zi2c (zand (zbyte 6 i) 255))))) M1))) : am_x t_SL1_charAt (0, am_ent (am_mL t_SL1_charAt) [.ref 6106, .int (zi i)], [], M) Q := by
  refine am_xn 0 (c1 := (0, [.ref 6106, .int (zi i)], [], M)) rfl ?_
  refine am_xn 3 (c1 := (3, [.ref 6106, .int (zi i)], [.int (zi 3), .int (zi i)], M)) rfl ?_
  obtain ⟨M1, hc, hv⟩ := hv
  refine am_xc t_Str_checkIndex (.invokestatic 9) 9 (av := [.int (zi i), .int (zi 3)]) (rest := []) (rv := none) (M' := M1) rfl rfl rfl rfl (Nat.le_of_ble_eq_true rfl) (fun h => nomatch h) (hc) ?_
  refine am_xn 0 (c1 := (6, [.ref 6106, .int (zi i)], [], M1)) rfl ?_
  obtain ⟨r2, hv⟩ := hv
  refine am_xn 2 (c1 := (8, [.ref 6106, .int (zi i)], [.int (zi i), .ref 6106], M1)) rfl ?_
  refine am_xbald (q := 6) rfl rfl rfl r2 ?_
  refine am_xn 0 (c1 := (9, [.ref 6106, .int (zi i)], [.int (zi (zbyte 6 i))], M1)) rfl ?_
  refine am_xbit 2 (zi (zbyte 6 i) &&& zi 255) (pc := 13) (ls := [.ref 6106, .int (zi i)]) (st := []) rfl ?_
  refine am_xn 0 (c1 := (13, [.ref 6106, .int (zi i)], [.int (zi (zand (zbyte 6 i) 255))], M1)) rfl ?_
  refine am_xbit 1 (((zi (zand (zbyte 6 i) 255)).toUInt32 % 65536).toInt32) (pc := 14) (ls := [.ref 6106, .int (zi i)]) (st := []) rfl ?_
  refine am_xn 0 (c1 := (14, [.ref 6106, .int (zi i)], [.int (zi (zi2c (zand (zbyte 6 i) 255)))], M1)) rfl ?_
  exact am_xr (some (.int (zi (zi2c (zand (zbyte 6 i) 255))))) ⟨rfl, rfl, .char, rfl, hv.1⟩ hv.2
set_option maxRecDepth 100000 in
theorem vc_sat6 (i : Int) (M : am_M) (Q : Option Value → am_M → Prop) (hv : ∃ (r2 : Int) (M1 : am_M), am_call t_SL1_charAt [.ref 6106, .int (zi i)] M (some (.int (zi r2))) M1 ∧ (narrow .char (.int (zi r2)) = .int (zi r2) ∧ Q (some (.int (zi r2))) M1)) : am_x t_Str_charAt (0, am_ent (am_mL t_Str_charAt) [.ref 6006, .int (zi i)], [], M) Q := by
  refine am_xn 0 (c1 := (0, [.ref 6006, .int (zi i)], [], M)) rfl ?_
  refine am_xn 1 (c1 := (1, [.ref 6006, .int (zi i)], [.ref 6006], M)) rfl ?_
  refine am_xc t_Str_isLatin1 (.invokevirtual 492) 492 (av := [.ref 6006]) (rest := []) (rv := some (.int (zi 1))) (M' := M) rfl rfl rfl rfl (Nat.le_of_ble_eq_true rfl) (fun _ => rfl) (sp_isLatin6 M) ?_
  refine am_xn 0 (c1 := (4, [.ref 6006, .int (zi i)], [.int (zi 1)], M)) rfl ?_
  refine am_xn 4 (c1 := (12, [.ref 6006, .int (zi i)], [.int (zi i), .ref 6106], M)) rfl ?_
  obtain ⟨r2, M1, hc, hv⟩ := hv
  refine am_xc t_SL1_charAt (.invokestatic 495) 495 (av := [.ref 6106, .int (zi i)]) (rest := []) (rv := some (.int (zi r2))) (M' := M1) rfl rfl rfl rfl (Nat.le_of_ble_eq_true rfl) (fun h => nomatch h) (hc) ?_
  refine am_xn 0 (c1 := (15, [.ref 6006, .int (zi i)], [.int (zi r2)], M1)) rfl ?_
  exact am_xr (some (.int (zi r2))) ⟨rfl, rfl, .char, rfl, hv.1⟩ hv.2
theorem sp_strat_6_0 (M : am_M) : am_call t_Str_charAt [.ref 6006, .int (zi 0)] M (some (.int (zi 102))) M := by
  have e : zi2c (zand (zbyte 6 0) 255) = 102 := by decide +kernel
  exact am_call_of ⟨Nat.le_of_ble_eq_true rfl, rfl⟩ (vc_sat6 0 M _ ⟨102, M, am_call_of ⟨Nat.le_of_ble_eq_true rfl, rfl⟩ (vc_lat6 0 M _ ⟨M, sp_sci3 M ⟨by decide, by decide⟩, ⟨by decide, by decide⟩, by rw [e]; rfl, by rw [e], rfl⟩), rfl, rfl, rfl⟩)
theorem sp_strat_6_1 (M : am_M) : am_call t_Str_charAt [.ref 6006, .int (zi 1)] M (some (.int (zi 111))) M := by
  have e : zi2c (zand (zbyte 6 1) 255) = 111 := by decide +kernel
  exact am_call_of ⟨Nat.le_of_ble_eq_true rfl, rfl⟩ (vc_sat6 1 M _ ⟨111, M, am_call_of ⟨Nat.le_of_ble_eq_true rfl, rfl⟩ (vc_lat6 1 M _ ⟨M, sp_sci3 M ⟨by decide, by decide⟩, ⟨by decide, by decide⟩, by rw [e]; rfl, by rw [e], rfl⟩), rfl, rfl, rfl⟩)
theorem sp_strat_6_2 (M : am_M) : am_call t_Str_charAt [.ref 6006, .int (zi 2)] M (some (.int (zi 114))) M := by
  have e : zi2c (zand (zbyte 6 2) 255) = 114 := by decide +kernel
  exact am_call_of ⟨Nat.le_of_ble_eq_true rfl, rfl⟩ (vc_sat6 2 M _ ⟨114, M, am_call_of ⟨Nat.le_of_ble_eq_true rfl, rfl⟩ (vc_lat6 2 M _ ⟨M, sp_sci3 M ⟨by decide, by decide⟩, ⟨by decide, by decide⟩, by rw [e]; rfl, by rw [e], rfl⟩), rfl, rfl, rfl⟩)
set_option maxRecDepth 100000 in
theorem vc_lat7 (i : Int) (M : am_M) (Q : Option Value → am_M → Prop) (hv : ∃ M1, am_call t_Str_checkIndex [.int (zi i), .int (zi 3)] M none M1 ∧ ((0 ≤ i ∧ i < 3) ∧ (narrow .char (.int (zi (zi2c (zand (zbyte 7 i) 255)))) = .int (zi (zi2c (zand (zbyte 7 i) 255))) ∧ Q (some (.int (zi (zi2c (zand (zbyte 7 i) 255))))) M1))) : am_x t_SL1_charAt (0, am_ent (am_mL t_SL1_charAt) [.ref 6107, .int (zi i)], [], M) Q := by
  refine am_xn 0 (c1 := (0, [.ref 6107, .int (zi i)], [], M)) rfl ?_
  refine am_xn 3 (c1 := (3, [.ref 6107, .int (zi i)], [.int (zi 3), .int (zi i)], M)) rfl ?_
  obtain ⟨M1, hc, hv⟩ := hv
  refine am_xc t_Str_checkIndex (.invokestatic 9) 9 (av := [.int (zi i), .int (zi 3)]) (rest := []) (rv := none) (M' := M1) rfl rfl rfl rfl (Nat.le_of_ble_eq_true rfl) (fun h => nomatch h) (hc) ?_
  refine am_xn 0 (c1 := (6, [.ref 6107, .int (zi i)], [], M1)) rfl ?_
  obtain ⟨r2, hv⟩ := hv
  refine am_xn 2 (c1 := (8, [.ref 6107, .int (zi i)], [.int (zi i), .ref 6107], M1)) rfl ?_
  refine am_xbald (q := 7) rfl rfl rfl r2 ?_
  refine am_xn 0 (c1 := (9, [.ref 6107, .int (zi i)], [.int (zi (zbyte 7 i))], M1)) rfl ?_
  refine am_xbit 2 (zi (zbyte 7 i) &&& zi 255) (pc := 13) (ls := [.ref 6107, .int (zi i)]) (st := []) rfl ?_
  refine am_xn 0 (c1 := (13, [.ref 6107, .int (zi i)], [.int (zi (zand (zbyte 7 i) 255))], M1)) rfl ?_
  refine am_xbit 1 (((zi (zand (zbyte 7 i) 255)).toUInt32 % 65536).toInt32) (pc := 14) (ls := [.ref 6107, .int (zi i)]) (st := []) rfl ?_
  refine am_xn 0 (c1 := (14, [.ref 6107, .int (zi i)], [.int (zi (zi2c (zand (zbyte 7 i) 255)))], M1)) rfl ?_
  exact am_xr (some (.int (zi (zi2c (zand (zbyte 7 i) 255))))) ⟨rfl, rfl, .char, rfl, hv.1⟩ hv.2
set_option maxRecDepth 100000 in
theorem vc_sat7 (i : Int) (M : am_M) (Q : Option Value → am_M → Prop) (hv : ∃ (r2 : Int) (M1 : am_M), am_call t_SL1_charAt [.ref 6107, .int (zi i)] M (some (.int (zi r2))) M1 ∧ (narrow .char (.int (zi r2)) = .int (zi r2) ∧ Q (some (.int (zi r2))) M1)) : am_x t_Str_charAt (0, am_ent (am_mL t_Str_charAt) [.ref 6007, .int (zi i)], [], M) Q := by
  refine am_xn 0 (c1 := (0, [.ref 6007, .int (zi i)], [], M)) rfl ?_
  refine am_xn 1 (c1 := (1, [.ref 6007, .int (zi i)], [.ref 6007], M)) rfl ?_
  refine am_xc t_Str_isLatin1 (.invokevirtual 492) 492 (av := [.ref 6007]) (rest := []) (rv := some (.int (zi 1))) (M' := M) rfl rfl rfl rfl (Nat.le_of_ble_eq_true rfl) (fun _ => rfl) (sp_isLatin7 M) ?_
  refine am_xn 0 (c1 := (4, [.ref 6007, .int (zi i)], [.int (zi 1)], M)) rfl ?_
  refine am_xn 4 (c1 := (12, [.ref 6007, .int (zi i)], [.int (zi i), .ref 6107], M)) rfl ?_
  obtain ⟨r2, M1, hc, hv⟩ := hv
  refine am_xc t_SL1_charAt (.invokestatic 495) 495 (av := [.ref 6107, .int (zi i)]) (rest := []) (rv := some (.int (zi r2))) (M' := M1) rfl rfl rfl rfl (Nat.le_of_ble_eq_true rfl) (fun h => nomatch h) (hc) ?_
  refine am_xn 0 (c1 := (15, [.ref 6007, .int (zi i)], [.int (zi r2)], M1)) rfl ?_
  exact am_xr (some (.int (zi r2))) ⟨rfl, rfl, .char, rfl, hv.1⟩ hv.2
theorem sp_strat_7_0 (M : am_M) : am_call t_Str_charAt [.ref 6007, .int (zi 0)] M (some (.int (zi 112))) M := by
  have e : zi2c (zand (zbyte 7 0) 255) = 112 := by decide +kernel
  exact am_call_of ⟨Nat.le_of_ble_eq_true rfl, rfl⟩ (vc_sat7 0 M _ ⟨112, M, am_call_of ⟨Nat.le_of_ble_eq_true rfl, rfl⟩ (vc_lat7 0 M _ ⟨M, sp_sci3 M ⟨by decide, by decide⟩, ⟨by decide, by decide⟩, by rw [e]; rfl, by rw [e], rfl⟩), rfl, rfl, rfl⟩)
theorem sp_strat_7_1 (M : am_M) : am_call t_Str_charAt [.ref 6007, .int (zi 1)] M (some (.int (zi 117))) M := by
  have e : zi2c (zand (zbyte 7 1) 255) = 117 := by decide +kernel
  exact am_call_of ⟨Nat.le_of_ble_eq_true rfl, rfl⟩ (vc_sat7 1 M _ ⟨117, M, am_call_of ⟨Nat.le_of_ble_eq_true rfl, rfl⟩ (vc_lat7 1 M _ ⟨M, sp_sci3 M ⟨by decide, by decide⟩, ⟨by decide, by decide⟩, by rw [e]; rfl, by rw [e], rfl⟩), rfl, rfl, rfl⟩)
theorem sp_strat_7_2 (M : am_M) : am_call t_Str_charAt [.ref 6007, .int (zi 2)] M (some (.int (zi 116))) M := by
  have e : zi2c (zand (zbyte 7 2) 255) = 116 := by decide +kernel
  exact am_call_of ⟨Nat.le_of_ble_eq_true rfl, rfl⟩ (vc_sat7 2 M _ ⟨116, M, am_call_of ⟨Nat.le_of_ble_eq_true rfl, rfl⟩ (vc_lat7 2 M _ ⟨M, sp_sci3 M ⟨by decide, by decide⟩, ⟨by decide, by decide⟩, by rw [e]; rfl, by rw [e], rfl⟩), rfl, rfl, rfl⟩)
set_option maxRecDepth 100000 in
theorem vc_lat8 (i : Int) (M : am_M) (Q : Option Value → am_M → Prop) (hv : ∃ M1, am_call t_Str_checkIndex [.int (zi i), .int (zi 6)] M none M1 ∧ ((0 ≤ i ∧ i < 6) ∧ (narrow .char (.int (zi (zi2c (zand (zbyte 8 i) 255)))) = .int (zi (zi2c (zand (zbyte 8 i) 255))) ∧ Q (some (.int (zi (zi2c (zand (zbyte 8 i) 255))))) M1))) : am_x t_SL1_charAt (0, am_ent (am_mL t_SL1_charAt) [.ref 6108, .int (zi i)], [], M) Q := by
  refine am_xn 0 (c1 := (0, [.ref 6108, .int (zi i)], [], M)) rfl ?_
  refine am_xn 3 (c1 := (3, [.ref 6108, .int (zi i)], [.int (zi 6), .int (zi i)], M)) rfl ?_
  obtain ⟨M1, hc, hv⟩ := hv
  refine am_xc t_Str_checkIndex (.invokestatic 9) 9 (av := [.int (zi i), .int (zi 6)]) (rest := []) (rv := none) (M' := M1) rfl rfl rfl rfl (Nat.le_of_ble_eq_true rfl) (fun h => nomatch h) (hc) ?_
  refine am_xn 0 (c1 := (6, [.ref 6108, .int (zi i)], [], M1)) rfl ?_
  obtain ⟨r2, hv⟩ := hv
  refine am_xn 2 (c1 := (8, [.ref 6108, .int (zi i)], [.int (zi i), .ref 6108], M1)) rfl ?_
  refine am_xbald (q := 8) rfl rfl rfl r2 ?_
  refine am_xn 0 (c1 := (9, [.ref 6108, .int (zi i)], [.int (zi (zbyte 8 i))], M1)) rfl ?_
  refine am_xbit 2 (zi (zbyte 8 i) &&& zi 255) (pc := 13) (ls := [.ref 6108, .int (zi i)]) (st := []) rfl ?_
  refine am_xn 0 (c1 := (13, [.ref 6108, .int (zi i)], [.int (zi (zand (zbyte 8 i) 255))], M1)) rfl ?_
  refine am_xbit 1 (((zi (zand (zbyte 8 i) 255)).toUInt32 % 65536).toInt32) (pc := 14) (ls := [.ref 6108, .int (zi i)]) (st := []) rfl ?_
  refine am_xn 0 (c1 := (14, [.ref 6108, .int (zi i)], [.int (zi (zi2c (zand (zbyte 8 i) 255)))], M1)) rfl ?_
  exact am_xr (some (.int (zi (zi2c (zand (zbyte 8 i) 255))))) ⟨rfl, rfl, .char, rfl, hv.1⟩ hv.2
set_option maxRecDepth 100000 in
theorem vc_sat8 (i : Int) (M : am_M) (Q : Option Value → am_M → Prop) (hv : ∃ (r2 : Int) (M1 : am_M), am_call t_SL1_charAt [.ref 6108, .int (zi i)] M (some (.int (zi r2))) M1 ∧ (narrow .char (.int (zi r2)) = .int (zi r2) ∧ Q (some (.int (zi r2))) M1)) : am_x t_Str_charAt (0, am_ent (am_mL t_Str_charAt) [.ref 6008, .int (zi i)], [], M) Q := by
  refine am_xn 0 (c1 := (0, [.ref 6008, .int (zi i)], [], M)) rfl ?_
  refine am_xn 1 (c1 := (1, [.ref 6008, .int (zi i)], [.ref 6008], M)) rfl ?_
  refine am_xc t_Str_isLatin1 (.invokevirtual 492) 492 (av := [.ref 6008]) (rest := []) (rv := some (.int (zi 1))) (M' := M) rfl rfl rfl rfl (Nat.le_of_ble_eq_true rfl) (fun _ => rfl) (sp_isLatin8 M) ?_
  refine am_xn 0 (c1 := (4, [.ref 6008, .int (zi i)], [.int (zi 1)], M)) rfl ?_
  refine am_xn 4 (c1 := (12, [.ref 6008, .int (zi i)], [.int (zi i), .ref 6108], M)) rfl ?_
  obtain ⟨r2, M1, hc, hv⟩ := hv
  refine am_xc t_SL1_charAt (.invokestatic 495) 495 (av := [.ref 6108, .int (zi i)]) (rest := []) (rv := some (.int (zi r2))) (M' := M1) rfl rfl rfl rfl (Nat.le_of_ble_eq_true rfl) (fun h => nomatch h) (hc) ?_
  refine am_xn 0 (c1 := (15, [.ref 6008, .int (zi i)], [.int (zi r2)], M1)) rfl ?_
  exact am_xr (some (.int (zi r2))) ⟨rfl, rfl, .char, rfl, hv.1⟩ hv.2
theorem sp_strat_8_0 (M : am_M) : am_call t_Str_charAt [.ref 6008, .int (zi 0)] M (some (.int (zi 115))) M := by
  have e : zi2c (zand (zbyte 8 0) 255) = 115 := by decide +kernel
  exact am_call_of ⟨Nat.le_of_ble_eq_true rfl, rfl⟩ (vc_sat8 0 M _ ⟨115, M, am_call_of ⟨Nat.le_of_ble_eq_true rfl, rfl⟩ (vc_lat8 0 M _ ⟨M, sp_sci6 M ⟨by decide, by decide⟩, ⟨by decide, by decide⟩, by rw [e]; rfl, by rw [e], rfl⟩), rfl, rfl, rfl⟩)
theorem sp_strat_8_1 (M : am_M) : am_call t_Str_charAt [.ref 6008, .int (zi 1)] M (some (.int (zi 97))) M := by
  have e : zi2c (zand (zbyte 8 1) 255) = 97 := by decide +kernel
  exact am_call_of ⟨Nat.le_of_ble_eq_true rfl, rfl⟩ (vc_sat8 1 M _ ⟨97, M, am_call_of ⟨Nat.le_of_ble_eq_true rfl, rfl⟩ (vc_lat8 1 M _ ⟨M, sp_sci6 M ⟨by decide, by decide⟩, ⟨by decide, by decide⟩, by rw [e]; rfl, by rw [e], rfl⟩), rfl, rfl, rfl⟩)
theorem sp_strat_8_2 (M : am_M) : am_call t_Str_charAt [.ref 6008, .int (zi 2)] M (some (.int (zi 118))) M := by
  have e : zi2c (zand (zbyte 8 2) 255) = 118 := by decide +kernel
  exact am_call_of ⟨Nat.le_of_ble_eq_true rfl, rfl⟩ (vc_sat8 2 M _ ⟨118, M, am_call_of ⟨Nat.le_of_ble_eq_true rfl, rfl⟩ (vc_lat8 2 M _ ⟨M, sp_sci6 M ⟨by decide, by decide⟩, ⟨by decide, by decide⟩, by rw [e]; rfl, by rw [e], rfl⟩), rfl, rfl, rfl⟩)
theorem sp_strat_8_3 (M : am_M) : am_call t_Str_charAt [.ref 6008, .int (zi 3)] M (some (.int (zi 105))) M := by
  have e : zi2c (zand (zbyte 8 3) 255) = 105 := by decide +kernel
  exact am_call_of ⟨Nat.le_of_ble_eq_true rfl, rfl⟩ (vc_sat8 3 M _ ⟨105, M, am_call_of ⟨Nat.le_of_ble_eq_true rfl, rfl⟩ (vc_lat8 3 M _ ⟨M, sp_sci6 M ⟨by decide, by decide⟩, ⟨by decide, by decide⟩, by rw [e]; rfl, by rw [e], rfl⟩), rfl, rfl, rfl⟩)
theorem sp_strat_8_4 (M : am_M) : am_call t_Str_charAt [.ref 6008, .int (zi 4)] M (some (.int (zi 110))) M := by
  have e : zi2c (zand (zbyte 8 4) 255) = 110 := by decide +kernel
  exact am_call_of ⟨Nat.le_of_ble_eq_true rfl, rfl⟩ (vc_sat8 4 M _ ⟨110, M, am_call_of ⟨Nat.le_of_ble_eq_true rfl, rfl⟩ (vc_lat8 4 M _ ⟨M, sp_sci6 M ⟨by decide, by decide⟩, ⟨by decide, by decide⟩, by rw [e]; rfl, by rw [e], rfl⟩), rfl, rfl, rfl⟩)
theorem sp_strat_8_5 (M : am_M) : am_call t_Str_charAt [.ref 6008, .int (zi 5)] M (some (.int (zi 103))) M := by
  have e : zi2c (zand (zbyte 8 5) 255) = 103 := by decide +kernel
  exact am_call_of ⟨Nat.le_of_ble_eq_true rfl, rfl⟩ (vc_sat8 5 M _ ⟨103, M, am_call_of ⟨Nat.le_of_ble_eq_true rfl, rfl⟩ (vc_lat8 5 M _ ⟨M, sp_sci6 M ⟨by decide, by decide⟩, ⟨by decide, by decide⟩, by rw [e]; rfl, by rw [e], rfl⟩), rfl, rfl, rfl⟩)
def tb (M : am_M) (k : Int) : Int := if (0 ≤ k ∧ k < 120) ∧ k < iv M 2 1 then iv M 3 k else -1
theorem tb_r (M : am_M) (k : Int) : zr (tb M k) := by
  unfold tb
  split
  · exact iv_r _ _ _
  · decide
theorem sp_p2_byteAt (M : am_M) (k : Int) (g : zr k) : am_call t_Pag_byteAt [.ref 2, .int (zi k)] M (some (.int (zi (tb M k)))) M := by
  refine am_call_of ⟨Nat.le_of_ble_eq_true rfl, rfl⟩ (vc_p2_byteAt k M _ ⟨g, fun h => ⟨?_, rfl⟩, fun h0 => ⟨fun h1 => ⟨fun h2 => ⟨⟨h0, h2⟩, ?_, rfl⟩, fun h2 => ⟨?_, rfl⟩⟩, fun h1 => ⟨?_, rfl⟩⟩⟩)
  · unfold tb; rw [if_neg (by omega)]
  · unfold tb; rw [if_pos ⟨⟨h0, h2⟩, h1⟩]
  · unfold tb; rw [if_neg (by omega)]
  · unfold tb; rw [if_neg (by omega)]
theorem sp_p2k (M : am_M) : am_call t_Pag_kept [.ref 2] M (some (.int (zi (min (iv M 2 1) 120)))) M := am_call_of ⟨Nat.le_of_ble_eq_true rfl, rfl⟩ (vc_p2_kept M _ ⟨rfl, rfl⟩)
set_option maxRecDepth 100000 in
theorem vc_isBetween (l : Int) (f : Int) (z : Int) (M : am_M) (Q : Option Value → am_M → Prop) (hv : (zr l) ∧ ((zr f) ∧ ((l < f → Q (some (.int (zi 0))) M) ∧ (f ≤ l → (zr z) ∧ ((z < l → Q (some (.int (zi 0))) M) ∧ (l ≤ z → Q (some (.int (zi 1))) M)))))) : am_x t_Rea_isBetween (0, am_ent (am_mL t_Rea_isBetween) [.int (zi l), .int (zi f), .int (zi z)], [], M) Q := by
  refine am_xn 0 (c1 := (0, [.int (zi l), .int (zi f), .int (zi z)], [], M)) rfl ?_
  obtain ⟨r1, hv⟩ := hv
  obtain ⟨r2, hv⟩ := hv
  refine am_xn 3 (c1 := (if zi l < zi f then 14 else 5, [.int (zi l), .int (zi f), .int (zi z)], [], M)) rfl (am_xlt r1 r2 (fun h => ?_) (fun h => ?_))
  · replace hv := hv.1 h
    refine am_xn 1 (c1 := (15, [.int (zi l), .int (zi f), .int (zi z)], [.int (zi 0)], M)) rfl ?_
    exact am_xr (some (.int (zi 0))) ⟨rfl, rfl, .boolean, rfl, rfl⟩ hv
  · replace hv := hv.2 h
    obtain ⟨r3, hv⟩ := hv
    refine am_xn 3 (c1 := (if zi z < zi l then 14 else 10, [.int (zi l), .int (zi f), .int (zi z)], [], M)) rfl (am_xlt r3 r1 (fun h => ?_) (fun h => ?_))
    · replace hv := hv.1 h
      refine am_xn 1 (c1 := (15, [.int (zi l), .int (zi f), .int (zi z)], [.int (zi 0)], M)) rfl ?_
      exact am_xr (some (.int (zi 0))) ⟨rfl, rfl, .boolean, rfl, rfl⟩ hv
    · replace hv := hv.2 h
      refine am_xn 2 (c1 := (15, [.int (zi l), .int (zi f), .int (zi z)], [.int (zi 1)], M)) rfl ?_
      exact am_xr (some (.int (zi 1))) ⟨rfl, rfl, .boolean, rfl, rfl⟩ hv
theorem sp_isBetween (M : am_M) (l : Int) (f : Int) (z : Int) (g : zr l ∧ zr f ∧ zr z) : am_call t_Rea_isBetween [.int (zi l), .int (zi f), .int (zi z)] M (some (.int (zi (if f ≤ l ∧ l ≤ z then 1 else 0)))) M := by
  refine am_call_of ⟨Nat.le_of_ble_eq_true rfl, rfl⟩ (vc_isBetween l f z M _ ?_)
  obtain ⟨⟨_, _⟩, ⟨_, _⟩, ⟨_, _⟩⟩ := g
  (repeat' (first | apply And.intro | intro _)) <;> (first | rfl | omega | (split <;> (first | rfl | omega)))
/-- a reader at a place, with a fault, and all else as it was -/
def CRd (M0 : am_M) (p f : Int) (M : am_M) : Prop := (∀ a, ¬ a = 1 → M a = M0 a) ∧ iv M 1 2 = p ∧ iv M 1 3 = f
def XT (T : Int → Int) (n : Int) (M : am_M) : Prop := tb M = T ∧ iv M 2 1 = n ∧ TX T n
theorem tb_row {M M0 : am_M} (h2 : M 2 = M0 2) (h3 : M 3 = M0 3) : tb M = tb M0 := by
  funext k
  unfold tb
  rw [iv_row h2, iv_row h3]
theorem XT.row {T : Int → Int} {n : Int} {M M0 : am_M} (x : XT T n M0) (h2 : M 2 = M0 2) (h3 : M 3 = M0 3) : XT T n M := ⟨by rw [tb_row h2 h3, x.1], by rw [iv_row h2, x.2.1], x.2.2⟩
theorem XT.rd {T : Int → Int} {n : Int} {M M0 : am_M} (x : XT T n M0) {p f : Int} (g : CRd M0 p f M) : XT T n M := x.row (g.1 2 (by decide)) (g.1 3 (by decide))
theorem crd_p {M0 M M' : am_M} {p f v : Int} (g : CRd M0 p f M) (e : M' = zup M 1 2 v) (hv : zr v) : CRd M0 v f M' := by
  refine ⟨fun a ha => by rw [e, zupr _ ha, g.1 a ha], ?_, ?_⟩
  · rw [e, ivs _ _ (by decide) (by decide) hv, if_pos rfl]
  · rw [e, ivs _ _ (by decide) (by decide) hv, if_neg (by decide), g.2.2]
theorem crd_f {M0 M M' : am_M} {p f v : Int} (g : CRd M0 p f M) (e : M' = zup M 1 3 v) (hv : zr v) : CRd M0 p v M' := by
  refine ⟨fun a ha => by rw [e, zupr _ ha, g.1 a ha], ?_, ?_⟩
  · rw [e, ivs _ _ (by decide) (by decide) hv, if_neg (by decide), g.2.1]
  · rw [e, ivs _ _ (by decide) (by decide) hv, if_pos rfl]
set_option maxRecDepth 100000 in
theorem vc_c_fail (x : Int) (M : am_M) (Q : Option Value → am_M → Prop) (hv : ((iv M 1 3) = (-1) → ∀ M1, M1 = zup M 1 3 x → Q none M1) ∧ (¬ (iv M 1 3) = (-1) → Q none M)) : am_x t_Rea_fail (0, am_ent (am_mL t_Rea_fail) [.ref 1, .int (zi x)], [], M) Q := by
  refine am_xn 0 (c1 := (0, [.ref 1, .int (zi x)], [], M)) rfl ?_
  refine am_xrd 2 1 3 (pc := 4) (ls := [.ref 1, .int (zi x)]) (st := []) rfl ?_
  refine am_xn 2 (c1 := (if zi (iv M 1 3) = zi (-1) then 8 else 13, [.ref 1, .int (zi x)], [], M)) rfl (am_xeq (iv_r _ _ _) (by decide) (fun h => ?_) (fun h => ?_))
  · replace hv := hv.1 h
    refine am_xn 3 (c1 := (13, [.ref 1, .int (zi x)], [], zup M 1 3 x)) rfl ?_
    obtain ⟨M1, eM1⟩ : ∃ m, m = zup M 1 3 x := ⟨_, rfl⟩
    replace hv := hv M1 eM1
    rw [← eM1]
    exact am_xr none ⟨rfl, rfl, rfl⟩ hv
  · replace hv := hv.2 h
    exact am_xr none ⟨rfl, rfl, rfl⟩ hv
set_option maxRecDepth 100000 in
theorem vc_skipBlanks_0  (M : am_M) (Q : Option Value → am_M → Prop) (hv : ((iv M 1 2) < (min (iv M 2 1) 120) → (zr (iv M 1 2)) ∧ (((tb M (iv M 1 2)) = 32 → ∀ M1, M1 = zup M 1 2 ((iv M 1 2) + 1) → am_x t_Rea_skipBlanks (0, [.ref 1], [], M1) Q) ∧ (¬ (tb M (iv M 1 2)) = 32 → Q none M))) ∧ ((min (iv M 2 1) 120) ≤ (iv M 1 2) → Q none M)) : am_x t_Rea_skipBlanks (0, [.ref 1], [], M) Q := by
  refine am_xrd 2 1 2 (pc := 4) (ls := [.ref 1]) (st := []) rfl ?_
  refine am_xn 2 (c1 := (8, [.ref 1], [.ref 2, .int (zi (iv M 1 2))], M)) rfl ?_
  refine am_xc t_Pag_kept (.invokevirtual 118) 118 (av := [.ref 2]) (rest := [.int (zi (iv M 1 2))]) (rv := some (.int (zi (min (iv M 2 1) 120)))) (M' := M) rfl rfl rfl rfl (Nat.le_of_ble_eq_true rfl) (fun _ => rfl) (sp_p2k M) ?_
  refine am_xn 0 (c1 := (11, [.ref 1], [.int (zi (min (iv M 2 1) 120)), .int (zi (iv M 1 2))], M)) rfl ?_
  refine am_xn 1 (c1 := (if zi (iv M 1 2) < zi (min (iv M 2 1) 120) then 14 else 43, [.ref 1], [], M)) rfl (am_xlt (iv_r _ _ _) (zr_min (iv_r _ _ _) (by decide)) (fun h => ?_) (fun h => ?_))
  · replace hv := hv.1 h
    refine am_xrd 4 1 2 (pc := 22) (ls := [.ref 1]) (st := [.ref 2]) rfl ?_
    obtain ⟨g, hv⟩ := hv
    refine am_xc t_Pag_byteAt (.invokevirtual 102) 102 (av := [.ref 2, .int (zi (iv M 1 2))]) (rest := []) (rv := some (.int (zi (tb M (iv M 1 2))))) (M' := M) rfl rfl rfl rfl (Nat.le_of_ble_eq_true rfl) (fun _ => rfl) (sp_p2_byteAt M (iv M 1 2) g) ?_
    refine am_xn 0 (c1 := (25, [.ref 1], [.int (zi (tb M (iv M 1 2)))], M)) rfl ?_
    refine am_xn 2 (c1 := (if zi (tb M (iv M 1 2)) = zi 32 then 30 else 43, [.ref 1], [], M)) rfl (am_xeq (tb_r M (iv M 1 2)) (by decide) (fun h => ?_) (fun h => ?_))
    · replace hv := hv.1 h
      refine am_xrd 3 1 2 (pc := 35) (ls := [.ref 1]) (st := [.ref 1]) rfl ?_
      refine am_xiadd 2 (iv M 1 2) 1 (pc := 37) (ls := [.ref 1]) (st := [.ref 1]) rfl ?_
      refine am_xn 1 (c1 := (40, [.ref 1], [], zup M 1 2 ((iv M 1 2) + 1))) rfl ?_
      obtain ⟨M1, eM1⟩ : ∃ m, m = zup M 1 2 ((iv M 1 2) + 1) := ⟨_, rfl⟩
      replace hv := hv M1 eM1
      rw [← eM1]
      refine am_xn 1 (c1 := (0, [.ref 1], [], M1)) rfl ?_
      exact hv
    · replace hv := hv.2 h
      exact am_xr none ⟨rfl, rfl, rfl⟩ hv
  · replace hv := hv.2 h
    exact am_xr none ⟨rfl, rfl, rfl⟩ hv
set_option maxRecDepth 100000 in
theorem vc_c_readDigits (l : Int) (M : am_M) (Q : Option Value → am_M → Prop) (hv : am_x t_Rea_readDigits (7, [.ref 1, .int (zi l), .int (zi (iv M 1 2)), .int (zi 0)], [], M) Q) : am_x t_Rea_readDigits (0, am_ent (am_mL t_Rea_readDigits) [.ref 1, .int (zi l)], [], M) Q := by
  refine am_xn 0 (c1 := (0, [.ref 1, .int (zi l), .null, .null], [], M)) rfl ?_
  refine am_xrd 2 1 2 (pc := 4) (ls := [.ref 1, .int (zi l), .null, .null]) (st := []) rfl ?_
  refine am_xn 3 (c1 := (7, [.ref 1, .int (zi l), .int (zi (iv M 1 2)), .int (zi 0)], [], M)) rfl ?_
  exact hv
set_option maxRecDepth 100000 in
theorem vc_c_readDigits_7 (x1 : Int) (x2 : Int) (x3 : Int) (M : am_M) (Q : Option Value → am_M → Prop) (hv : (zr (x2 + 3)) ∧ (((iv M 1 2) < (x2 + 3) → (zr (iv M 1 2)) ∧ ((zr (tb M (iv M 1 2)) ∧ zr (48 : Int) ∧ zr (57 : Int)) ∧ ((48 ≤ (tb M (iv M 1 2)) ∧ (tb M (iv M 1 2)) ≤ 57 → (zr (iv M 1 2)) ∧ (∀ M2, M2 = zup M 1 2 ((iv M 1 2) + 1) → am_x t_Rea_readDigits (7, [.ref 1, .int (zi x1), .int (zi x2), .int (zi (((x3 * 10) + (tb M (iv M 1 2))) - 48))], [], M2) Q)) ∧ (¬ (48 ≤ (tb M (iv M 1 2)) ∧ (tb M (iv M 1 2)) ≤ 57) → (zr x3) ∧ ((zr x1) ∧ ((x3 < x1 → ∃ M5, am_call t_Rea_fail [.ref 1, .int (zi x2)] M none M5 ∧ ((zr x2) ∧ (((iv M5 1 2) = x2 → ∃ M7, am_call t_Rea_fail [.ref 1, .int (zi (iv M5 1 2))] M5 none M7 ∧ (Q (some (.int (zi x3))) M7)) ∧ (¬ (iv M5 1 2) = x2 → (zr (iv M5 1 2)) ∧ ((zr (tb M5 (iv M5 1 2)) ∧ zr (48 : Int) ∧ zr (57 : Int)) ∧ ((48 ≤ (tb M5 (iv M5 1 2)) ∧ (tb M5 (iv M5 1 2)) ≤ 57 → ∃ M8, am_call t_Rea_fail [.ref 1, .int (zi (iv M5 1 2))] M5 none M8 ∧ (Q (some (.int (zi x3))) M8)) ∧ (¬ (48 ≤ (tb M5 (iv M5 1 2)) ∧ (tb M5 (iv M5 1 2)) ≤ 57) → Q (some (.int (zi x3))) M5))))))) ∧ (x1 ≤ x3 → (zr x2) ∧ (((iv M 1 2) = x2 → ∃ M11, am_call t_Rea_fail [.ref 1, .int (zi (iv M 1 2))] M none M11 ∧ (Q (some (.int (zi x3))) M11)) ∧ (¬ (iv M 1 2) = x2 → (zr (iv M 1 2)) ∧ ((zr (tb M (iv M 1 2)) ∧ zr (48 : Int) ∧ zr (57 : Int)) ∧ ((48 ≤ (tb M (iv M 1 2)) ∧ (tb M (iv M 1 2)) ≤ 57 → ∃ M12, am_call t_Rea_fail [.ref 1, .int (zi (iv M 1 2))] M none M12 ∧ (Q (some (.int (zi x3))) M12)) ∧ (¬ (48 ≤ (tb M (iv M 1 2)) ∧ (tb M (iv M 1 2)) ≤ 57) → Q (some (.int (zi x3))) M)))))))))))) ∧ ((x2 + 3) ≤ (iv M 1 2) → (zr x3) ∧ ((zr x1) ∧ ((x3 < x1 → ∃ M17, am_call t_Rea_fail [.ref 1, .int (zi x2)] M none M17 ∧ ((zr x2) ∧ (((iv M17 1 2) = x2 → ∃ M19, am_call t_Rea_fail [.ref 1, .int (zi (iv M17 1 2))] M17 none M19 ∧ (Q (some (.int (zi x3))) M19)) ∧ (¬ (iv M17 1 2) = x2 → (zr (iv M17 1 2)) ∧ ((zr (tb M17 (iv M17 1 2)) ∧ zr (48 : Int) ∧ zr (57 : Int)) ∧ ((48 ≤ (tb M17 (iv M17 1 2)) ∧ (tb M17 (iv M17 1 2)) ≤ 57 → ∃ M20, am_call t_Rea_fail [.ref 1, .int (zi (iv M17 1 2))] M17 none M20 ∧ (Q (some (.int (zi x3))) M20)) ∧ (¬ (48 ≤ (tb M17 (iv M17 1 2)) ∧ (tb M17 (iv M17 1 2)) ≤ 57) → Q (some (.int (zi x3))) M17))))))) ∧ (x1 ≤ x3 → (zr x2) ∧ (((iv M 1 2) = x2 → ∃ M23, am_call t_Rea_fail [.ref 1, .int (zi (iv M 1 2))] M none M23 ∧ (Q (some (.int (zi x3))) M23)) ∧ (¬ (iv M 1 2) = x2 → (zr (iv M 1 2)) ∧ ((zr (tb M (iv M 1 2)) ∧ zr (48 : Int) ∧ zr (57 : Int)) ∧ ((48 ≤ (tb M (iv M 1 2)) ∧ (tb M (iv M 1 2)) ≤ 57 → ∃ M24, am_call t_Rea_fail [.ref 1, .int (zi (iv M 1 2))] M none M24 ∧ (Q (some (.int (zi x3))) M24)) ∧ (¬ (48 ≤ (tb M (iv M 1 2)) ∧ (tb M (iv M 1 2)) ≤ 57) → Q (some (.int (zi x3))) M))))))))))) : am_x t_Rea_readDigits (7, [.ref 1, .int (zi x1), .int (zi x2), .int (zi x3)], [], M) Q := by
  refine am_xrd 2 1 2 (pc := 11) (ls := [.ref 1, .int (zi x1), .int (zi x2), .int (zi x3)]) (st := []) rfl ?_
  refine am_xiadd 3 x2 3 (pc := 14) (ls := [.ref 1, .int (zi x1), .int (zi x2), .int (zi x3)]) (st := [.int (zi (iv M 1 2))]) rfl ?_
  obtain ⟨r1, hv⟩ := hv
  refine am_xn 1 (c1 := (if zi (iv M 1 2) < zi (x2 + 3) then 17 else 71, [.ref 1, .int (zi x1), .int (zi x2), .int (zi x3)], [], M)) rfl (am_xlt (iv_r _ _ _) r1 (fun h => ?_) (fun h => ?_))
  · replace hv := hv.1 h
    refine am_xrd 4 1 2 (pc := 25) (ls := [.ref 1, .int (zi x1), .int (zi x2), .int (zi x3)]) (st := [.ref 2]) rfl ?_
    obtain ⟨g, hv⟩ := hv
    refine am_xc t_Pag_byteAt (.invokevirtual 102) 102 (av := [.ref 2, .int (zi (iv M 1 2))]) (rest := []) (rv := some (.int (zi (tb M (iv M 1 2))))) (M' := M) rfl rfl rfl rfl (Nat.le_of_ble_eq_true rfl) (fun _ => rfl) (sp_p2_byteAt M (iv M 1 2) g) ?_
    refine am_xn 0 (c1 := (28, [.ref 1, .int (zi x1), .int (zi x2), .int (zi x3)], [.int (zi (tb M (iv M 1 2)))], M)) rfl ?_
    refine am_xn 2 (c1 := (32, [.ref 1, .int (zi x1), .int (zi x2), .int (zi x3)], [.int (zi 57), .int (zi 48), .int (zi (tb M (iv M 1 2)))], M)) rfl ?_
    obtain ⟨g, hv⟩ := hv
    by_cases c14 : 48 ≤ (tb M (iv M 1 2)) ∧ (tb M (iv M 1 2)) ≤ 57
    · replace hv := hv.1 c14
      refine am_xc t_Rea_isBetween (.invokestatic 112) 112 (av := [.int (zi (tb M (iv M 1 2))), .int (zi 48), .int (zi 57)]) (rest := []) (rv := some (.int (zi 1))) (M' := M) rfl rfl rfl rfl (Nat.le_of_ble_eq_true rfl) (fun h => nomatch h) (by have q := sp_isBetween M (tb M (iv M 1 2)) 48 57 g; rwa [if_pos c14] at q) ?_
      refine am_xn 0 (c1 := (35, [.ref 1, .int (zi x1), .int (zi x2), .int (zi x3)], [.int (zi 1)], M)) rfl ?_
      refine am_ximul 4 x3 10 (pc := 42) (ls := [.ref 1, .int (zi x1), .int (zi x2), .int (zi x3)]) (st := []) rfl ?_
      refine am_xrd 4 1 2 (pc := 50) (ls := [.ref 1, .int (zi x1), .int (zi x2), .int (zi x3)]) (st := [.ref 2, .int (zi (x3 * 10))]) rfl ?_
      obtain ⟨g, hv⟩ := hv
      refine am_xc t_Pag_byteAt (.invokevirtual 102) 102 (av := [.ref 2, .int (zi (iv M 1 2))]) (rest := [.int (zi (x3 * 10))]) (rv := some (.int (zi (tb M (iv M 1 2))))) (M' := M) rfl rfl rfl rfl (Nat.le_of_ble_eq_true rfl) (fun _ => rfl) (sp_p2_byteAt M (iv M 1 2) g) ?_
      refine am_xn 0 (c1 := (53, [.ref 1, .int (zi x1), .int (zi x2), .int (zi x3)], [.int (zi (tb M (iv M 1 2))), .int (zi (x3 * 10))], M)) rfl ?_
      refine am_xiadd 1 (x3 * 10) (tb M (iv M 1 2)) (pc := 54) (ls := [.ref 1, .int (zi x1), .int (zi x2), .int (zi x3)]) (st := []) rfl ?_
      refine am_xisub 2 ((x3 * 10) + (tb M (iv M 1 2))) 48 (pc := 57) (ls := [.ref 1, .int (zi x1), .int (zi x2), .int (zi x3)]) (st := []) rfl ?_
      refine am_xrd 4 1 2 (pc := 63) (ls := [.ref 1, .int (zi x1), .int (zi x2), .int (zi (((x3 * 10) + (tb M (iv M 1 2))) - 48))]) (st := [.ref 1]) rfl ?_
      refine am_xiadd 2 (iv M 1 2) 1 (pc := 65) (ls := [.ref 1, .int (zi x1), .int (zi x2), .int (zi (((x3 * 10) + (tb M (iv M 1 2))) - 48))]) (st := [.ref 1]) rfl ?_
      refine am_xn 1 (c1 := (68, [.ref 1, .int (zi x1), .int (zi x2), .int (zi (((x3 * 10) + (tb M (iv M 1 2))) - 48))], [], zup M 1 2 ((iv M 1 2) + 1))) rfl ?_
      obtain ⟨M2, eM2⟩ : ∃ m, m = zup M 1 2 ((iv M 1 2) + 1) := ⟨_, rfl⟩
      replace hv := hv M2 eM2
      rw [← eM2]
      refine am_xn 1 (c1 := (7, [.ref 1, .int (zi x1), .int (zi x2), .int (zi (((x3 * 10) + (tb M (iv M 1 2))) - 48))], [], M2)) rfl ?_
      exact hv
    · replace hv := hv.2 c14
      refine am_xc t_Rea_isBetween (.invokestatic 112) 112 (av := [.int (zi (tb M (iv M 1 2))), .int (zi 48), .int (zi 57)]) (rest := []) (rv := some (.int (zi 0))) (M' := M) rfl rfl rfl rfl (Nat.le_of_ble_eq_true rfl) (fun h => nomatch h) (by have q := sp_isBetween M (tb M (iv M 1 2)) 48 57 g; rwa [if_neg c14] at q) ?_
      refine am_xn 0 (c1 := (35, [.ref 1, .int (zi x1), .int (zi x2), .int (zi x3)], [.int (zi 0)], M)) rfl ?_
      obtain ⟨r3, hv⟩ := hv
      obtain ⟨r4, hv⟩ := hv
      refine am_xn 4 (c1 := (if zi x3 < zi x1 then 76 else 81, [.ref 1, .int (zi x1), .int (zi x2), .int (zi x3)], [], M)) rfl (am_xlt r3 r4 (fun h => ?_) (fun h => ?_))
      · replace hv := hv.1 h
        refine am_xn 2 (c1 := (78, [.ref 1, .int (zi x1), .int (zi x2), .int (zi x3)], [.int (zi x2), .ref 1], M)) rfl ?_
        obtain ⟨M5, hc, hv⟩ := hv
        refine am_xc t_Rea_fail (.invokevirtual 54) 54 (av := [.ref 1, .int (zi x2)]) (rest := []) (rv := none) (M' := M5) rfl rfl rfl rfl (Nat.le_of_ble_eq_true rfl) (fun _ => rfl) (hc) ?_
        refine am_xn 0 (c1 := (81, [.ref 1, .int (zi x1), .int (zi x2), .int (zi x3)], [], M5)) rfl ?_
        refine am_xrd 2 1 2 (pc := 85) (ls := [.ref 1, .int (zi x1), .int (zi x2), .int (zi x3)]) (st := []) rfl ?_
        obtain ⟨r6, hv⟩ := hv
        refine am_xn 2 (c1 := (if zi (iv M5 1 2) = zi x2 then 110 else 89, [.ref 1, .int (zi x1), .int (zi x2), .int (zi x3)], [], M5)) rfl (am_xeq (iv_r _ _ _) r6 (fun h => ?_) (fun h => ?_))
        · replace hv := hv.1 h
          refine am_xrd 3 1 2 (pc := 115) (ls := [.ref 1, .int (zi x1), .int (zi x2), .int (zi x3)]) (st := [.ref 1]) rfl ?_
          obtain ⟨M7, hc, hv⟩ := hv
          refine am_xc t_Rea_fail (.invokevirtual 54) 54 (av := [.ref 1, .int (zi (iv M5 1 2))]) (rest := []) (rv := none) (M' := M7) rfl rfl rfl rfl (Nat.le_of_ble_eq_true rfl) (fun _ => rfl) (hc) ?_
          refine am_xn 0 (c1 := (118, [.ref 1, .int (zi x1), .int (zi x2), .int (zi x3)], [], M7)) rfl ?_
          refine am_xn 1 (c1 := (119, [.ref 1, .int (zi x1), .int (zi x2), .int (zi x3)], [.int (zi x3)], M7)) rfl ?_
          exact am_xr (some (.int (zi x3))) ⟨rfl, rfl, .int, rfl, rfl⟩ hv
        · replace hv := hv.2 h
          refine am_xrd 4 1 2 (pc := 97) (ls := [.ref 1, .int (zi x1), .int (zi x2), .int (zi x3)]) (st := [.ref 2]) rfl ?_
          obtain ⟨g, hv⟩ := hv
          refine am_xc t_Pag_byteAt (.invokevirtual 102) 102 (av := [.ref 2, .int (zi (iv M5 1 2))]) (rest := []) (rv := some (.int (zi (tb M5 (iv M5 1 2))))) (M' := M5) rfl rfl rfl rfl (Nat.le_of_ble_eq_true rfl) (fun _ => rfl) (sp_p2_byteAt M5 (iv M5 1 2) g) ?_
          refine am_xn 0 (c1 := (100, [.ref 1, .int (zi x1), .int (zi x2), .int (zi x3)], [.int (zi (tb M5 (iv M5 1 2)))], M5)) rfl ?_
          refine am_xn 2 (c1 := (104, [.ref 1, .int (zi x1), .int (zi x2), .int (zi x3)], [.int (zi 57), .int (zi 48), .int (zi (tb M5 (iv M5 1 2)))], M5)) rfl ?_
          obtain ⟨g, hv⟩ := hv
          by_cases c9 : 48 ≤ (tb M5 (iv M5 1 2)) ∧ (tb M5 (iv M5 1 2)) ≤ 57
          · replace hv := hv.1 c9
            refine am_xc t_Rea_isBetween (.invokestatic 112) 112 (av := [.int (zi (tb M5 (iv M5 1 2))), .int (zi 48), .int (zi 57)]) (rest := []) (rv := some (.int (zi 1))) (M' := M5) rfl rfl rfl rfl (Nat.le_of_ble_eq_true rfl) (fun h => nomatch h) (by have q := sp_isBetween M5 (tb M5 (iv M5 1 2)) 48 57 g; rwa [if_pos c9] at q) ?_
            refine am_xn 0 (c1 := (107, [.ref 1, .int (zi x1), .int (zi x2), .int (zi x3)], [.int (zi 1)], M5)) rfl ?_
            refine am_xrd 4 1 2 (pc := 115) (ls := [.ref 1, .int (zi x1), .int (zi x2), .int (zi x3)]) (st := [.ref 1]) rfl ?_
            obtain ⟨M8, hc, hv⟩ := hv
            refine am_xc t_Rea_fail (.invokevirtual 54) 54 (av := [.ref 1, .int (zi (iv M5 1 2))]) (rest := []) (rv := none) (M' := M8) rfl rfl rfl rfl (Nat.le_of_ble_eq_true rfl) (fun _ => rfl) (hc) ?_
            refine am_xn 0 (c1 := (118, [.ref 1, .int (zi x1), .int (zi x2), .int (zi x3)], [], M8)) rfl ?_
            refine am_xn 1 (c1 := (119, [.ref 1, .int (zi x1), .int (zi x2), .int (zi x3)], [.int (zi x3)], M8)) rfl ?_
            exact am_xr (some (.int (zi x3))) ⟨rfl, rfl, .int, rfl, rfl⟩ hv
          · replace hv := hv.2 c9
            refine am_xc t_Rea_isBetween (.invokestatic 112) 112 (av := [.int (zi (tb M5 (iv M5 1 2))), .int (zi 48), .int (zi 57)]) (rest := []) (rv := some (.int (zi 0))) (M' := M5) rfl rfl rfl rfl (Nat.le_of_ble_eq_true rfl) (fun h => nomatch h) (by have q := sp_isBetween M5 (tb M5 (iv M5 1 2)) 48 57 g; rwa [if_neg c9] at q) ?_
            refine am_xn 0 (c1 := (107, [.ref 1, .int (zi x1), .int (zi x2), .int (zi x3)], [.int (zi 0)], M5)) rfl ?_
            refine am_xn 2 (c1 := (119, [.ref 1, .int (zi x1), .int (zi x2), .int (zi x3)], [.int (zi x3)], M5)) rfl ?_
            exact am_xr (some (.int (zi x3))) ⟨rfl, rfl, .int, rfl, rfl⟩ hv
      · replace hv := hv.2 h
        refine am_xrd 2 1 2 (pc := 85) (ls := [.ref 1, .int (zi x1), .int (zi x2), .int (zi x3)]) (st := []) rfl ?_
        obtain ⟨r10, hv⟩ := hv
        refine am_xn 2 (c1 := (if zi (iv M 1 2) = zi x2 then 110 else 89, [.ref 1, .int (zi x1), .int (zi x2), .int (zi x3)], [], M)) rfl (am_xeq (iv_r _ _ _) r10 (fun h => ?_) (fun h => ?_))
        · replace hv := hv.1 h
          refine am_xrd 3 1 2 (pc := 115) (ls := [.ref 1, .int (zi x1), .int (zi x2), .int (zi x3)]) (st := [.ref 1]) rfl ?_
          obtain ⟨M11, hc, hv⟩ := hv
          refine am_xc t_Rea_fail (.invokevirtual 54) 54 (av := [.ref 1, .int (zi (iv M 1 2))]) (rest := []) (rv := none) (M' := M11) rfl rfl rfl rfl (Nat.le_of_ble_eq_true rfl) (fun _ => rfl) (hc) ?_
          refine am_xn 0 (c1 := (118, [.ref 1, .int (zi x1), .int (zi x2), .int (zi x3)], [], M11)) rfl ?_
          refine am_xn 1 (c1 := (119, [.ref 1, .int (zi x1), .int (zi x2), .int (zi x3)], [.int (zi x3)], M11)) rfl ?_
          exact am_xr (some (.int (zi x3))) ⟨rfl, rfl, .int, rfl, rfl⟩ hv
        · replace hv := hv.2 h
          refine am_xrd 4 1 2 (pc := 97) (ls := [.ref 1, .int (zi x1), .int (zi x2), .int (zi x3)]) (st := [.ref 2]) rfl ?_
          obtain ⟨g, hv⟩ := hv
          refine am_xc t_Pag_byteAt (.invokevirtual 102) 102 (av := [.ref 2, .int (zi (iv M 1 2))]) (rest := []) (rv := some (.int (zi (tb M (iv M 1 2))))) (M' := M) rfl rfl rfl rfl (Nat.le_of_ble_eq_true rfl) (fun _ => rfl) (sp_p2_byteAt M (iv M 1 2) g) ?_
          refine am_xn 0 (c1 := (100, [.ref 1, .int (zi x1), .int (zi x2), .int (zi x3)], [.int (zi (tb M (iv M 1 2)))], M)) rfl ?_
          refine am_xn 2 (c1 := (104, [.ref 1, .int (zi x1), .int (zi x2), .int (zi x3)], [.int (zi 57), .int (zi 48), .int (zi (tb M (iv M 1 2)))], M)) rfl ?_
          obtain ⟨g, hv⟩ := hv
          by_cases c13 : 48 ≤ (tb M (iv M 1 2)) ∧ (tb M (iv M 1 2)) ≤ 57
          · replace hv := hv.1 c13
            refine am_xc t_Rea_isBetween (.invokestatic 112) 112 (av := [.int (zi (tb M (iv M 1 2))), .int (zi 48), .int (zi 57)]) (rest := []) (rv := some (.int (zi 1))) (M' := M) rfl rfl rfl rfl (Nat.le_of_ble_eq_true rfl) (fun h => nomatch h) (by have q := sp_isBetween M (tb M (iv M 1 2)) 48 57 g; rwa [if_pos c13] at q) ?_
            refine am_xn 0 (c1 := (107, [.ref 1, .int (zi x1), .int (zi x2), .int (zi x3)], [.int (zi 1)], M)) rfl ?_
            refine am_xrd 4 1 2 (pc := 115) (ls := [.ref 1, .int (zi x1), .int (zi x2), .int (zi x3)]) (st := [.ref 1]) rfl ?_
            obtain ⟨M12, hc, hv⟩ := hv
            refine am_xc t_Rea_fail (.invokevirtual 54) 54 (av := [.ref 1, .int (zi (iv M 1 2))]) (rest := []) (rv := none) (M' := M12) rfl rfl rfl rfl (Nat.le_of_ble_eq_true rfl) (fun _ => rfl) (hc) ?_
            refine am_xn 0 (c1 := (118, [.ref 1, .int (zi x1), .int (zi x2), .int (zi x3)], [], M12)) rfl ?_
            refine am_xn 1 (c1 := (119, [.ref 1, .int (zi x1), .int (zi x2), .int (zi x3)], [.int (zi x3)], M12)) rfl ?_
            exact am_xr (some (.int (zi x3))) ⟨rfl, rfl, .int, rfl, rfl⟩ hv
          · replace hv := hv.2 c13
            refine am_xc t_Rea_isBetween (.invokestatic 112) 112 (av := [.int (zi (tb M (iv M 1 2))), .int (zi 48), .int (zi 57)]) (rest := []) (rv := some (.int (zi 0))) (M' := M) rfl rfl rfl rfl (Nat.le_of_ble_eq_true rfl) (fun h => nomatch h) (by have q := sp_isBetween M (tb M (iv M 1 2)) 48 57 g; rwa [if_neg c13] at q) ?_
            refine am_xn 0 (c1 := (107, [.ref 1, .int (zi x1), .int (zi x2), .int (zi x3)], [.int (zi 0)], M)) rfl ?_
            refine am_xn 2 (c1 := (119, [.ref 1, .int (zi x1), .int (zi x2), .int (zi x3)], [.int (zi x3)], M)) rfl ?_
            exact am_xr (some (.int (zi x3))) ⟨rfl, rfl, .int, rfl, rfl⟩ hv
  · replace hv := hv.2 h
    obtain ⟨r15, hv⟩ := hv
    obtain ⟨r16, hv⟩ := hv
    refine am_xn 3 (c1 := (if zi x3 < zi x1 then 76 else 81, [.ref 1, .int (zi x1), .int (zi x2), .int (zi x3)], [], M)) rfl (am_xlt r15 r16 (fun h => ?_) (fun h => ?_))
    · replace hv := hv.1 h
      refine am_xn 2 (c1 := (78, [.ref 1, .int (zi x1), .int (zi x2), .int (zi x3)], [.int (zi x2), .ref 1], M)) rfl ?_
      obtain ⟨M17, hc, hv⟩ := hv
      refine am_xc t_Rea_fail (.invokevirtual 54) 54 (av := [.ref 1, .int (zi x2)]) (rest := []) (rv := none) (M' := M17) rfl rfl rfl rfl (Nat.le_of_ble_eq_true rfl) (fun _ => rfl) (hc) ?_
      refine am_xn 0 (c1 := (81, [.ref 1, .int (zi x1), .int (zi x2), .int (zi x3)], [], M17)) rfl ?_
      refine am_xrd 2 1 2 (pc := 85) (ls := [.ref 1, .int (zi x1), .int (zi x2), .int (zi x3)]) (st := []) rfl ?_
      obtain ⟨r18, hv⟩ := hv
      refine am_xn 2 (c1 := (if zi (iv M17 1 2) = zi x2 then 110 else 89, [.ref 1, .int (zi x1), .int (zi x2), .int (zi x3)], [], M17)) rfl (am_xeq (iv_r _ _ _) r18 (fun h => ?_) (fun h => ?_))
      · replace hv := hv.1 h
        refine am_xrd 3 1 2 (pc := 115) (ls := [.ref 1, .int (zi x1), .int (zi x2), .int (zi x3)]) (st := [.ref 1]) rfl ?_
        obtain ⟨M19, hc, hv⟩ := hv
        refine am_xc t_Rea_fail (.invokevirtual 54) 54 (av := [.ref 1, .int (zi (iv M17 1 2))]) (rest := []) (rv := none) (M' := M19) rfl rfl rfl rfl (Nat.le_of_ble_eq_true rfl) (fun _ => rfl) (hc) ?_
        refine am_xn 0 (c1 := (118, [.ref 1, .int (zi x1), .int (zi x2), .int (zi x3)], [], M19)) rfl ?_
        refine am_xn 1 (c1 := (119, [.ref 1, .int (zi x1), .int (zi x2), .int (zi x3)], [.int (zi x3)], M19)) rfl ?_
        exact am_xr (some (.int (zi x3))) ⟨rfl, rfl, .int, rfl, rfl⟩ hv
      · replace hv := hv.2 h
        refine am_xrd 4 1 2 (pc := 97) (ls := [.ref 1, .int (zi x1), .int (zi x2), .int (zi x3)]) (st := [.ref 2]) rfl ?_
        obtain ⟨g, hv⟩ := hv
        refine am_xc t_Pag_byteAt (.invokevirtual 102) 102 (av := [.ref 2, .int (zi (iv M17 1 2))]) (rest := []) (rv := some (.int (zi (tb M17 (iv M17 1 2))))) (M' := M17) rfl rfl rfl rfl (Nat.le_of_ble_eq_true rfl) (fun _ => rfl) (sp_p2_byteAt M17 (iv M17 1 2) g) ?_
        refine am_xn 0 (c1 := (100, [.ref 1, .int (zi x1), .int (zi x2), .int (zi x3)], [.int (zi (tb M17 (iv M17 1 2)))], M17)) rfl ?_
        refine am_xn 2 (c1 := (104, [.ref 1, .int (zi x1), .int (zi x2), .int (zi x3)], [.int (zi 57), .int (zi 48), .int (zi (tb M17 (iv M17 1 2)))], M17)) rfl ?_
        obtain ⟨g, hv⟩ := hv
        by_cases c21 : 48 ≤ (tb M17 (iv M17 1 2)) ∧ (tb M17 (iv M17 1 2)) ≤ 57
        · replace hv := hv.1 c21
          refine am_xc t_Rea_isBetween (.invokestatic 112) 112 (av := [.int (zi (tb M17 (iv M17 1 2))), .int (zi 48), .int (zi 57)]) (rest := []) (rv := some (.int (zi 1))) (M' := M17) rfl rfl rfl rfl (Nat.le_of_ble_eq_true rfl) (fun h => nomatch h) (by have q := sp_isBetween M17 (tb M17 (iv M17 1 2)) 48 57 g; rwa [if_pos c21] at q) ?_
          refine am_xn 0 (c1 := (107, [.ref 1, .int (zi x1), .int (zi x2), .int (zi x3)], [.int (zi 1)], M17)) rfl ?_
          refine am_xrd 4 1 2 (pc := 115) (ls := [.ref 1, .int (zi x1), .int (zi x2), .int (zi x3)]) (st := [.ref 1]) rfl ?_
          obtain ⟨M20, hc, hv⟩ := hv
          refine am_xc t_Rea_fail (.invokevirtual 54) 54 (av := [.ref 1, .int (zi (iv M17 1 2))]) (rest := []) (rv := none) (M' := M20) rfl rfl rfl rfl (Nat.le_of_ble_eq_true rfl) (fun _ => rfl) (hc) ?_
          refine am_xn 0 (c1 := (118, [.ref 1, .int (zi x1), .int (zi x2), .int (zi x3)], [], M20)) rfl ?_
          refine am_xn 1 (c1 := (119, [.ref 1, .int (zi x1), .int (zi x2), .int (zi x3)], [.int (zi x3)], M20)) rfl ?_
          exact am_xr (some (.int (zi x3))) ⟨rfl, rfl, .int, rfl, rfl⟩ hv
        · replace hv := hv.2 c21
          refine am_xc t_Rea_isBetween (.invokestatic 112) 112 (av := [.int (zi (tb M17 (iv M17 1 2))), .int (zi 48), .int (zi 57)]) (rest := []) (rv := some (.int (zi 0))) (M' := M17) rfl rfl rfl rfl (Nat.le_of_ble_eq_true rfl) (fun h => nomatch h) (by have q := sp_isBetween M17 (tb M17 (iv M17 1 2)) 48 57 g; rwa [if_neg c21] at q) ?_
          refine am_xn 0 (c1 := (107, [.ref 1, .int (zi x1), .int (zi x2), .int (zi x3)], [.int (zi 0)], M17)) rfl ?_
          refine am_xn 2 (c1 := (119, [.ref 1, .int (zi x1), .int (zi x2), .int (zi x3)], [.int (zi x3)], M17)) rfl ?_
          exact am_xr (some (.int (zi x3))) ⟨rfl, rfl, .int, rfl, rfl⟩ hv
    · replace hv := hv.2 h
      refine am_xrd 2 1 2 (pc := 85) (ls := [.ref 1, .int (zi x1), .int (zi x2), .int (zi x3)]) (st := []) rfl ?_
      obtain ⟨r22, hv⟩ := hv
      refine am_xn 2 (c1 := (if zi (iv M 1 2) = zi x2 then 110 else 89, [.ref 1, .int (zi x1), .int (zi x2), .int (zi x3)], [], M)) rfl (am_xeq (iv_r _ _ _) r22 (fun h => ?_) (fun h => ?_))
      · replace hv := hv.1 h
        refine am_xrd 3 1 2 (pc := 115) (ls := [.ref 1, .int (zi x1), .int (zi x2), .int (zi x3)]) (st := [.ref 1]) rfl ?_
        obtain ⟨M23, hc, hv⟩ := hv
        refine am_xc t_Rea_fail (.invokevirtual 54) 54 (av := [.ref 1, .int (zi (iv M 1 2))]) (rest := []) (rv := none) (M' := M23) rfl rfl rfl rfl (Nat.le_of_ble_eq_true rfl) (fun _ => rfl) (hc) ?_
        refine am_xn 0 (c1 := (118, [.ref 1, .int (zi x1), .int (zi x2), .int (zi x3)], [], M23)) rfl ?_
        refine am_xn 1 (c1 := (119, [.ref 1, .int (zi x1), .int (zi x2), .int (zi x3)], [.int (zi x3)], M23)) rfl ?_
        exact am_xr (some (.int (zi x3))) ⟨rfl, rfl, .int, rfl, rfl⟩ hv
      · replace hv := hv.2 h
        refine am_xrd 4 1 2 (pc := 97) (ls := [.ref 1, .int (zi x1), .int (zi x2), .int (zi x3)]) (st := [.ref 2]) rfl ?_
        obtain ⟨g, hv⟩ := hv
        refine am_xc t_Pag_byteAt (.invokevirtual 102) 102 (av := [.ref 2, .int (zi (iv M 1 2))]) (rest := []) (rv := some (.int (zi (tb M (iv M 1 2))))) (M' := M) rfl rfl rfl rfl (Nat.le_of_ble_eq_true rfl) (fun _ => rfl) (sp_p2_byteAt M (iv M 1 2) g) ?_
        refine am_xn 0 (c1 := (100, [.ref 1, .int (zi x1), .int (zi x2), .int (zi x3)], [.int (zi (tb M (iv M 1 2)))], M)) rfl ?_
        refine am_xn 2 (c1 := (104, [.ref 1, .int (zi x1), .int (zi x2), .int (zi x3)], [.int (zi 57), .int (zi 48), .int (zi (tb M (iv M 1 2)))], M)) rfl ?_
        obtain ⟨g, hv⟩ := hv
        by_cases c25 : 48 ≤ (tb M (iv M 1 2)) ∧ (tb M (iv M 1 2)) ≤ 57
        · replace hv := hv.1 c25
          refine am_xc t_Rea_isBetween (.invokestatic 112) 112 (av := [.int (zi (tb M (iv M 1 2))), .int (zi 48), .int (zi 57)]) (rest := []) (rv := some (.int (zi 1))) (M' := M) rfl rfl rfl rfl (Nat.le_of_ble_eq_true rfl) (fun h => nomatch h) (by have q := sp_isBetween M (tb M (iv M 1 2)) 48 57 g; rwa [if_pos c25] at q) ?_
          refine am_xn 0 (c1 := (107, [.ref 1, .int (zi x1), .int (zi x2), .int (zi x3)], [.int (zi 1)], M)) rfl ?_
          refine am_xrd 4 1 2 (pc := 115) (ls := [.ref 1, .int (zi x1), .int (zi x2), .int (zi x3)]) (st := [.ref 1]) rfl ?_
          obtain ⟨M24, hc, hv⟩ := hv
          refine am_xc t_Rea_fail (.invokevirtual 54) 54 (av := [.ref 1, .int (zi (iv M 1 2))]) (rest := []) (rv := none) (M' := M24) rfl rfl rfl rfl (Nat.le_of_ble_eq_true rfl) (fun _ => rfl) (hc) ?_
          refine am_xn 0 (c1 := (118, [.ref 1, .int (zi x1), .int (zi x2), .int (zi x3)], [], M24)) rfl ?_
          refine am_xn 1 (c1 := (119, [.ref 1, .int (zi x1), .int (zi x2), .int (zi x3)], [.int (zi x3)], M24)) rfl ?_
          exact am_xr (some (.int (zi x3))) ⟨rfl, rfl, .int, rfl, rfl⟩ hv
        · replace hv := hv.2 c25
          refine am_xc t_Rea_isBetween (.invokestatic 112) 112 (av := [.int (zi (tb M (iv M 1 2))), .int (zi 48), .int (zi 57)]) (rest := []) (rv := some (.int (zi 0))) (M' := M) rfl rfl rfl rfl (Nat.le_of_ble_eq_true rfl) (fun h => nomatch h) (by have q := sp_isBetween M (tb M (iv M 1 2)) 48 57 g; rwa [if_neg c25] at q) ?_
          refine am_xn 0 (c1 := (107, [.ref 1, .int (zi x1), .int (zi x2), .int (zi x3)], [.int (zi 0)], M)) rfl ?_
          refine am_xn 2 (c1 := (119, [.ref 1, .int (zi x1), .int (zi x2), .int (zi x3)], [.int (zi x3)], M)) rfl ?_
          exact am_xr (some (.int (zi x3))) ⟨rfl, rfl, .int, rfl, rfl⟩ hv
set_option maxRecDepth 100000 in
theorem vc_c_readNumber  (M : am_M) (Q : Option Value → am_M → Prop) (hv : ∃ (r2 : Int) (M1 : am_M), am_call t_Rea_readDigits [.ref 1, .int (zi 1)] M (some (.int (zi r2))) M1 ∧ ((zr (iv M1 1 2)) ∧ ((zr (tb M1 (iv M1 1 2)) ∧ zr (65 : Int) ∧ zr (90 : Int)) ∧ ((65 ≤ (tb M1 (iv M1 1 2)) ∧ (tb M1 (iv M1 1 2)) ≤ 90 → (zr (iv M1 1 2)) ∧ (∀ M3, M3 = zup M1 1 2 ((iv M1 1 2) + 1) → (zr (iv M3 1 2)) ∧ ((zr (tb M3 (iv M3 1 2)) ∧ zr (65 : Int) ∧ zr (90 : Int)) ∧ ((65 ≤ (tb M3 (iv M3 1 2)) ∧ (tb M3 (iv M3 1 2)) ≤ 90 → (zr (iv M3 1 2)) ∧ (∀ M4, M4 = zup M3 1 2 ((iv M3 1 2) + 1) → Q (some (.int (zi (((r2 * 729) + ((((tb M1 (iv M1 1 2)) - 65) + 1) * 27)) + (((tb M3 (iv M3 1 2)) - 65) + 1))))) M4)) ∧ (¬ (65 ≤ (tb M3 (iv M3 1 2)) ∧ (tb M3 (iv M3 1 2)) ≤ 90) → Q (some (.int (zi ((r2 * 729) + ((((tb M1 (iv M1 1 2)) - 65) + 1) * 27))))) M3))))) ∧ (¬ (65 ≤ (tb M1 (iv M1 1 2)) ∧ (tb M1 (iv M1 1 2)) ≤ 90) → Q (some (.int (zi (r2 * 729)))) M1))))) : am_x t_Rea_readNumber (0, am_ent (am_mL t_Rea_readNumber) [.ref 1], [], M) Q := by
  refine am_xn 0 (c1 := (0, [.ref 1, .null], [], M)) rfl ?_
  refine am_xn 2 (c1 := (2, [.ref 1, .null], [.int (zi 1), .ref 1], M)) rfl ?_
  obtain ⟨r2, M1, hc, hv⟩ := hv
  refine am_xc t_Rea_readDigits (.invokevirtual 109) 109 (av := [.ref 1, .int (zi 1)]) (rest := []) (rv := some (.int (zi r2))) (M' := M1) rfl rfl rfl rfl (Nat.le_of_ble_eq_true rfl) (fun _ => rfl) (hc) ?_
  refine am_xn 0 (c1 := (5, [.ref 1, .null], [.int (zi r2)], M1)) rfl ?_
  refine am_ximul 2 r2 729 (pc := 9) (ls := [.ref 1, .null]) (st := []) rfl ?_
  refine am_xrd 5 1 2 (pc := 18) (ls := [.ref 1, .int (zi (r2 * 729))]) (st := [.ref 2]) rfl ?_
  obtain ⟨g, hv⟩ := hv
  refine am_xc t_Pag_byteAt (.invokevirtual 102) 102 (av := [.ref 2, .int (zi (iv M1 1 2))]) (rest := []) (rv := some (.int (zi (tb M1 (iv M1 1 2))))) (M' := M1) rfl rfl rfl rfl (Nat.le_of_ble_eq_true rfl) (fun _ => rfl) (sp_p2_byteAt M1 (iv M1 1 2) g) ?_
  refine am_xn 0 (c1 := (21, [.ref 1, .int (zi (r2 * 729))], [.int (zi (tb M1 (iv M1 1 2)))], M1)) rfl ?_
  refine am_xn 2 (c1 := (25, [.ref 1, .int (zi (r2 * 729))], [.int (zi 90), .int (zi 65), .int (zi (tb M1 (iv M1 1 2)))], M1)) rfl ?_
  obtain ⟨g, hv⟩ := hv
  by_cases c6 : 65 ≤ (tb M1 (iv M1 1 2)) ∧ (tb M1 (iv M1 1 2)) ≤ 90
  · replace hv := hv.1 c6
    refine am_xc t_Rea_isBetween (.invokestatic 112) 112 (av := [.int (zi (tb M1 (iv M1 1 2))), .int (zi 65), .int (zi 90)]) (rest := []) (rv := some (.int (zi 1))) (M' := M1) rfl rfl rfl rfl (Nat.le_of_ble_eq_true rfl) (fun h => nomatch h) (by have q := sp_isBetween M1 (tb M1 (iv M1 1 2)) 65 90 g; rwa [if_pos c6] at q) ?_
    refine am_xn 0 (c1 := (28, [.ref 1, .int (zi (r2 * 729))], [.int (zi 1)], M1)) rfl ?_
    refine am_xrd 6 1 2 (pc := 40) (ls := [.ref 1, .int (zi (r2 * 729))]) (st := [.ref 2, .int (zi (r2 * 729))]) rfl ?_
    obtain ⟨g, hv⟩ := hv
    refine am_xc t_Pag_byteAt (.invokevirtual 102) 102 (av := [.ref 2, .int (zi (iv M1 1 2))]) (rest := [.int (zi (r2 * 729))]) (rv := some (.int (zi (tb M1 (iv M1 1 2))))) (M' := M1) rfl rfl rfl rfl (Nat.le_of_ble_eq_true rfl) (fun _ => rfl) (sp_p2_byteAt M1 (iv M1 1 2) g) ?_
    refine am_xn 0 (c1 := (43, [.ref 1, .int (zi (r2 * 729))], [.int (zi (tb M1 (iv M1 1 2))), .int (zi (r2 * 729))], M1)) rfl ?_
    refine am_xisub 2 (tb M1 (iv M1 1 2)) 65 (pc := 46) (ls := [.ref 1, .int (zi (r2 * 729))]) (st := [.int (zi (r2 * 729))]) rfl ?_
    refine am_xiadd 2 ((tb M1 (iv M1 1 2)) - 65) 1 (pc := 48) (ls := [.ref 1, .int (zi (r2 * 729))]) (st := [.int (zi (r2 * 729))]) rfl ?_
    refine am_ximul 2 (((tb M1 (iv M1 1 2)) - 65) + 1) 27 (pc := 51) (ls := [.ref 1, .int (zi (r2 * 729))]) (st := [.int (zi (r2 * 729))]) rfl ?_
    refine am_xiadd 1 (r2 * 729) ((((tb M1 (iv M1 1 2)) - 65) + 1) * 27) (pc := 52) (ls := [.ref 1, .int (zi (r2 * 729))]) (st := []) rfl ?_
    refine am_xrd 4 1 2 (pc := 58) (ls := [.ref 1, .int (zi ((r2 * 729) + ((((tb M1 (iv M1 1 2)) - 65) + 1) * 27)))]) (st := [.ref 1]) rfl ?_
    refine am_xiadd 2 (iv M1 1 2) 1 (pc := 60) (ls := [.ref 1, .int (zi ((r2 * 729) + ((((tb M1 (iv M1 1 2)) - 65) + 1) * 27)))]) (st := [.ref 1]) rfl ?_
    refine am_xn 1 (c1 := (63, [.ref 1, .int (zi ((r2 * 729) + ((((tb M1 (iv M1 1 2)) - 65) + 1) * 27)))], [], zup M1 1 2 ((iv M1 1 2) + 1))) rfl ?_
    obtain ⟨M3, eM3⟩ : ∃ m, m = zup M1 1 2 ((iv M1 1 2) + 1) := ⟨_, rfl⟩
    replace hv := hv M3 eM3
    rw [← eM3]
    refine am_xrd 4 1 2 (pc := 71) (ls := [.ref 1, .int (zi ((r2 * 729) + ((((tb M1 (iv M1 1 2)) - 65) + 1) * 27)))]) (st := [.ref 2]) rfl ?_
    obtain ⟨g, hv⟩ := hv
    refine am_xc t_Pag_byteAt (.invokevirtual 102) 102 (av := [.ref 2, .int (zi (iv M3 1 2))]) (rest := []) (rv := some (.int (zi (tb M3 (iv M3 1 2))))) (M' := M3) rfl rfl rfl rfl (Nat.le_of_ble_eq_true rfl) (fun _ => rfl) (sp_p2_byteAt M3 (iv M3 1 2) g) ?_
    refine am_xn 0 (c1 := (74, [.ref 1, .int (zi ((r2 * 729) + ((((tb M1 (iv M1 1 2)) - 65) + 1) * 27)))], [.int (zi (tb M3 (iv M3 1 2)))], M3)) rfl ?_
    refine am_xn 2 (c1 := (78, [.ref 1, .int (zi ((r2 * 729) + ((((tb M1 (iv M1 1 2)) - 65) + 1) * 27)))], [.int (zi 90), .int (zi 65), .int (zi (tb M3 (iv M3 1 2)))], M3)) rfl ?_
    obtain ⟨g, hv⟩ := hv
    by_cases c5 : 65 ≤ (tb M3 (iv M3 1 2)) ∧ (tb M3 (iv M3 1 2)) ≤ 90
    · replace hv := hv.1 c5
      refine am_xc t_Rea_isBetween (.invokestatic 112) 112 (av := [.int (zi (tb M3 (iv M3 1 2))), .int (zi 65), .int (zi 90)]) (rest := []) (rv := some (.int (zi 1))) (M' := M3) rfl rfl rfl rfl (Nat.le_of_ble_eq_true rfl) (fun h => nomatch h) (by have q := sp_isBetween M3 (tb M3 (iv M3 1 2)) 65 90 g; rwa [if_pos c5] at q) ?_
      refine am_xn 0 (c1 := (81, [.ref 1, .int (zi ((r2 * 729) + ((((tb M1 (iv M1 1 2)) - 65) + 1) * 27)))], [.int (zi 1)], M3)) rfl ?_
      refine am_xrd 6 1 2 (pc := 93) (ls := [.ref 1, .int (zi ((r2 * 729) + ((((tb M1 (iv M1 1 2)) - 65) + 1) * 27)))]) (st := [.ref 2, .int (zi ((r2 * 729) + ((((tb M1 (iv M1 1 2)) - 65) + 1) * 27)))]) rfl ?_
      obtain ⟨g, hv⟩ := hv
      refine am_xc t_Pag_byteAt (.invokevirtual 102) 102 (av := [.ref 2, .int (zi (iv M3 1 2))]) (rest := [.int (zi ((r2 * 729) + ((((tb M1 (iv M1 1 2)) - 65) + 1) * 27)))]) (rv := some (.int (zi (tb M3 (iv M3 1 2))))) (M' := M3) rfl rfl rfl rfl (Nat.le_of_ble_eq_true rfl) (fun _ => rfl) (sp_p2_byteAt M3 (iv M3 1 2) g) ?_
      refine am_xn 0 (c1 := (96, [.ref 1, .int (zi ((r2 * 729) + ((((tb M1 (iv M1 1 2)) - 65) + 1) * 27)))], [.int (zi (tb M3 (iv M3 1 2))), .int (zi ((r2 * 729) + ((((tb M1 (iv M1 1 2)) - 65) + 1) * 27)))], M3)) rfl ?_
      refine am_xisub 2 (tb M3 (iv M3 1 2)) 65 (pc := 99) (ls := [.ref 1, .int (zi ((r2 * 729) + ((((tb M1 (iv M1 1 2)) - 65) + 1) * 27)))]) (st := [.int (zi ((r2 * 729) + ((((tb M1 (iv M1 1 2)) - 65) + 1) * 27)))]) rfl ?_
      refine am_xiadd 2 ((tb M3 (iv M3 1 2)) - 65) 1 (pc := 101) (ls := [.ref 1, .int (zi ((r2 * 729) + ((((tb M1 (iv M1 1 2)) - 65) + 1) * 27)))]) (st := [.int (zi ((r2 * 729) + ((((tb M1 (iv M1 1 2)) - 65) + 1) * 27)))]) rfl ?_
      refine am_xiadd 1 ((r2 * 729) + ((((tb M1 (iv M1 1 2)) - 65) + 1) * 27)) (((tb M3 (iv M3 1 2)) - 65) + 1) (pc := 102) (ls := [.ref 1, .int (zi ((r2 * 729) + ((((tb M1 (iv M1 1 2)) - 65) + 1) * 27)))]) (st := []) rfl ?_
      refine am_xrd 4 1 2 (pc := 108) (ls := [.ref 1, .int (zi (((r2 * 729) + ((((tb M1 (iv M1 1 2)) - 65) + 1) * 27)) + (((tb M3 (iv M3 1 2)) - 65) + 1)))]) (st := [.ref 1]) rfl ?_
      refine am_xiadd 2 (iv M3 1 2) 1 (pc := 110) (ls := [.ref 1, .int (zi (((r2 * 729) + ((((tb M1 (iv M1 1 2)) - 65) + 1) * 27)) + (((tb M3 (iv M3 1 2)) - 65) + 1)))]) (st := [.ref 1]) rfl ?_
      refine am_xn 1 (c1 := (113, [.ref 1, .int (zi (((r2 * 729) + ((((tb M1 (iv M1 1 2)) - 65) + 1) * 27)) + (((tb M3 (iv M3 1 2)) - 65) + 1)))], [], zup M3 1 2 ((iv M3 1 2) + 1))) rfl ?_
      obtain ⟨M4, eM4⟩ : ∃ m, m = zup M3 1 2 ((iv M3 1 2) + 1) := ⟨_, rfl⟩
      replace hv := hv M4 eM4
      rw [← eM4]
      refine am_xn 1 (c1 := (114, [.ref 1, .int (zi (((r2 * 729) + ((((tb M1 (iv M1 1 2)) - 65) + 1) * 27)) + (((tb M3 (iv M3 1 2)) - 65) + 1)))], [.int (zi (((r2 * 729) + ((((tb M1 (iv M1 1 2)) - 65) + 1) * 27)) + (((tb M3 (iv M3 1 2)) - 65) + 1)))], M4)) rfl ?_
      exact am_xr (some (.int (zi (((r2 * 729) + ((((tb M1 (iv M1 1 2)) - 65) + 1) * 27)) + (((tb M3 (iv M3 1 2)) - 65) + 1))))) ⟨rfl, rfl, .int, rfl, rfl⟩ hv
    · replace hv := hv.2 c5
      refine am_xc t_Rea_isBetween (.invokestatic 112) 112 (av := [.int (zi (tb M3 (iv M3 1 2))), .int (zi 65), .int (zi 90)]) (rest := []) (rv := some (.int (zi 0))) (M' := M3) rfl rfl rfl rfl (Nat.le_of_ble_eq_true rfl) (fun h => nomatch h) (by have q := sp_isBetween M3 (tb M3 (iv M3 1 2)) 65 90 g; rwa [if_neg c5] at q) ?_
      refine am_xn 0 (c1 := (81, [.ref 1, .int (zi ((r2 * 729) + ((((tb M1 (iv M1 1 2)) - 65) + 1) * 27)))], [.int (zi 0)], M3)) rfl ?_
      refine am_xn 2 (c1 := (114, [.ref 1, .int (zi ((r2 * 729) + ((((tb M1 (iv M1 1 2)) - 65) + 1) * 27)))], [.int (zi ((r2 * 729) + ((((tb M1 (iv M1 1 2)) - 65) + 1) * 27)))], M3)) rfl ?_
      exact am_xr (some (.int (zi ((r2 * 729) + ((((tb M1 (iv M1 1 2)) - 65) + 1) * 27))))) ⟨rfl, rfl, .int, rfl, rfl⟩ hv
  · replace hv := hv.2 c6
    refine am_xc t_Rea_isBetween (.invokestatic 112) 112 (av := [.int (zi (tb M1 (iv M1 1 2))), .int (zi 65), .int (zi 90)]) (rest := []) (rv := some (.int (zi 0))) (M' := M1) rfl rfl rfl rfl (Nat.le_of_ble_eq_true rfl) (fun h => nomatch h) (by have q := sp_isBetween M1 (tb M1 (iv M1 1 2)) 65 90 g; rwa [if_neg c6] at q) ?_
    refine am_xn 0 (c1 := (28, [.ref 1, .int (zi (r2 * 729))], [.int (zi 0)], M1)) rfl ?_
    refine am_xn 2 (c1 := (114, [.ref 1, .int (zi (r2 * 729))], [.int (zi (r2 * 729))], M1)) rfl ?_
    exact am_xr (some (.int (zi (r2 * 729)))) ⟨rfl, rfl, .int, rfl, rfl⟩ hv
set_option maxRecDepth 100000 in
theorem vc_readPlain  (M : am_M) (Q : Option Value → am_M → Prop) (hv : ∃ M1, am_call t_Rea_skipBlanks [.ref 1] M none M1 ∧ (∃ (r3 : Int) (M2 : am_M), am_call t_Rea_readDigits [.ref 1, .int (zi 0)] M1 (some (.int (zi r3))) M2 ∧ (Q (some (.int (zi r3))) M2))) : am_x t_Rea_readPlain (0, am_ent (am_mL t_Rea_readPlain) [.ref 1], [], M) Q := by
  refine am_xn 0 (c1 := (0, [.ref 1], [], M)) rfl ?_
  refine am_xn 1 (c1 := (1, [.ref 1], [.ref 1], M)) rfl ?_
  obtain ⟨M1, hc, hv⟩ := hv
  refine am_xc t_Rea_skipBlanks (.invokevirtual 44) 44 (av := [.ref 1]) (rest := []) (rv := none) (M' := M1) rfl rfl rfl rfl (Nat.le_of_ble_eq_true rfl) (fun _ => rfl) (hc) ?_
  refine am_xn 0 (c1 := (4, [.ref 1], [], M1)) rfl ?_
  refine am_xn 2 (c1 := (6, [.ref 1], [.int (zi 0), .ref 1], M1)) rfl ?_
  obtain ⟨r3, M2, hc, hv⟩ := hv
  refine am_xc t_Rea_readDigits (.invokevirtual 109) 109 (av := [.ref 1, .int (zi 0)]) (rest := []) (rv := some (.int (zi r3))) (M' := M2) rfl rfl rfl rfl (Nat.le_of_ble_eq_true rfl) (fun _ => rfl) (hc) ?_
  refine am_xn 0 (c1 := (9, [.ref 1], [.int (zi r3)], M2)) rfl ?_
  exact am_xr (some (.int (zi r3))) ⟨rfl, rfl, .int, rfl, rfl⟩ hv
set_option maxRecDepth 100000 in
theorem vc_readKind  (M : am_M) (Q : Option Value → am_M → Prop) (hv : ∃ (r2 : Int) (M1 : am_M), am_call t_Rea_passes [.ref 1, .ref 6000] M (some (.int (zi r2))) M1 ∧ ((zr r2) ∧ ((r2 = 0 → ∃ (r5 : Int) (M4 : am_M), am_call t_Rea_passes [.ref 1, .ref 6001] M1 (some (.int (zi r5))) M4 ∧ ((zr r5) ∧ ((r5 = 0 → ∃ (r8 : Int) (M7 : am_M), am_call t_Rea_passes [.ref 1, .ref 6002] M4 (some (.int (zi r8))) M7 ∧ ((zr r8) ∧ ((r8 = 0 → ∃ (r11 : Int) (M10 : am_M), am_call t_Rea_passes [.ref 1, .ref 6003] M7 (some (.int (zi r11))) M10 ∧ ((zr r11) ∧ ((r11 = 0 → ∃ (r14 : Int) (M13 : am_M), am_call t_Rea_passes [.ref 1, .ref 6004] M10 (some (.int (zi r14))) M13 ∧ ((zr r14) ∧ ((r14 = 0 → Q (some (.int (zi (-1)))) M13) ∧ (¬ r14 = 0 → Q (some (.int (zi 4))) M13)))) ∧ (¬ r11 = 0 → Q (some (.int (zi 3))) M10)))) ∧ (¬ r8 = 0 → Q (some (.int (zi 2))) M7)))) ∧ (¬ r5 = 0 → Q (some (.int (zi 1))) M4)))) ∧ (¬ r2 = 0 → Q (some (.int (zi 0))) M1)))) : am_x t_Rea_readKind (0, am_ent (am_mL t_Rea_readKind) [.ref 1], [], M) Q := by
  refine am_xn 0 (c1 := (0, [.ref 1], [], M)) rfl ?_
  refine am_xn 2 (c1 := (3, [.ref 1], [.ref 6000, .ref 1], M)) rfl ?_
  obtain ⟨r2, M1, hc, hv⟩ := hv
  refine am_xc t_Rea_passes (.invokevirtual 87) 87 (av := [.ref 1, .ref 6000]) (rest := []) (rv := some (.int (zi r2))) (M' := M1) rfl rfl rfl rfl (Nat.le_of_ble_eq_true rfl) (fun _ => rfl) (hc) ?_
  refine am_xn 0 (c1 := (6, [.ref 1], [.int (zi r2)], M1)) rfl ?_
  obtain ⟨r3, hv⟩ := hv
  refine am_xn 1 (c1 := (if zi r2 = zi 0 then 11 else 9, [.ref 1], [], M1)) rfl (am_xeq r3 (by decide) (fun h => ?_) (fun h => ?_))
  · replace hv := hv.1 h
    refine am_xn 2 (c1 := (14, [.ref 1], [.ref 6001, .ref 1], M1)) rfl ?_
    obtain ⟨r5, M4, hc, hv⟩ := hv
    refine am_xc t_Rea_passes (.invokevirtual 87) 87 (av := [.ref 1, .ref 6001]) (rest := []) (rv := some (.int (zi r5))) (M' := M4) rfl rfl rfl rfl (Nat.le_of_ble_eq_true rfl) (fun _ => rfl) (hc) ?_
    refine am_xn 0 (c1 := (17, [.ref 1], [.int (zi r5)], M4)) rfl ?_
    obtain ⟨r6, hv⟩ := hv
    refine am_xn 1 (c1 := (if zi r5 = zi 0 then 22 else 20, [.ref 1], [], M4)) rfl (am_xeq r6 (by decide) (fun h => ?_) (fun h => ?_))
    · replace hv := hv.1 h
      refine am_xn 2 (c1 := (25, [.ref 1], [.ref 6002, .ref 1], M4)) rfl ?_
      obtain ⟨r8, M7, hc, hv⟩ := hv
      refine am_xc t_Rea_passes (.invokevirtual 87) 87 (av := [.ref 1, .ref 6002]) (rest := []) (rv := some (.int (zi r8))) (M' := M7) rfl rfl rfl rfl (Nat.le_of_ble_eq_true rfl) (fun _ => rfl) (hc) ?_
      refine am_xn 0 (c1 := (28, [.ref 1], [.int (zi r8)], M7)) rfl ?_
      obtain ⟨r9, hv⟩ := hv
      refine am_xn 1 (c1 := (if zi r8 = zi 0 then 33 else 31, [.ref 1], [], M7)) rfl (am_xeq r9 (by decide) (fun h => ?_) (fun h => ?_))
      · replace hv := hv.1 h
        refine am_xn 2 (c1 := (36, [.ref 1], [.ref 6003, .ref 1], M7)) rfl ?_
        obtain ⟨r11, M10, hc, hv⟩ := hv
        refine am_xc t_Rea_passes (.invokevirtual 87) 87 (av := [.ref 1, .ref 6003]) (rest := []) (rv := some (.int (zi r11))) (M' := M10) rfl rfl rfl rfl (Nat.le_of_ble_eq_true rfl) (fun _ => rfl) (hc) ?_
        refine am_xn 0 (c1 := (39, [.ref 1], [.int (zi r11)], M10)) rfl ?_
        obtain ⟨r12, hv⟩ := hv
        refine am_xn 1 (c1 := (if zi r11 = zi 0 then 44 else 42, [.ref 1], [], M10)) rfl (am_xeq r12 (by decide) (fun h => ?_) (fun h => ?_))
        · replace hv := hv.1 h
          refine am_xn 2 (c1 := (47, [.ref 1], [.ref 6004, .ref 1], M10)) rfl ?_
          obtain ⟨r14, M13, hc, hv⟩ := hv
          refine am_xc t_Rea_passes (.invokevirtual 87) 87 (av := [.ref 1, .ref 6004]) (rest := []) (rv := some (.int (zi r14))) (M' := M13) rfl rfl rfl rfl (Nat.le_of_ble_eq_true rfl) (fun _ => rfl) (hc) ?_
          refine am_xn 0 (c1 := (50, [.ref 1], [.int (zi r14)], M13)) rfl ?_
          obtain ⟨r15, hv⟩ := hv
          refine am_xn 1 (c1 := (if zi r14 = zi 0 then 57 else 53, [.ref 1], [], M13)) rfl (am_xeq r15 (by decide) (fun h => ?_) (fun h => ?_))
          · replace hv := hv.1 h
            refine am_xn 1 (c1 := (58, [.ref 1], [.int (zi (-1))], M13)) rfl ?_
            exact am_xr (some (.int (zi (-1)))) ⟨rfl, rfl, .int, rfl, rfl⟩ hv
          · replace hv := hv.2 h
            refine am_xn 2 (c1 := (58, [.ref 1], [.int (zi 4)], M13)) rfl ?_
            exact am_xr (some (.int (zi 4))) ⟨rfl, rfl, .int, rfl, rfl⟩ hv
        · replace hv := hv.2 h
          refine am_xn 1 (c1 := (43, [.ref 1], [.int (zi 3)], M10)) rfl ?_
          exact am_xr (some (.int (zi 3))) ⟨rfl, rfl, .int, rfl, rfl⟩ hv
      · replace hv := hv.2 h
        refine am_xn 1 (c1 := (32, [.ref 1], [.int (zi 2)], M7)) rfl ?_
        exact am_xr (some (.int (zi 2))) ⟨rfl, rfl, .int, rfl, rfl⟩ hv
    · replace hv := hv.2 h
      refine am_xn 1 (c1 := (21, [.ref 1], [.int (zi 1)], M4)) rfl ?_
      exact am_xr (some (.int (zi 1))) ⟨rfl, rfl, .int, rfl, rfl⟩ hv
  · replace hv := hv.2 h
    refine am_xn 1 (c1 := (10, [.ref 1], [.int (zi 0)], M1)) rfl ?_
    exact am_xr (some (.int (zi 0))) ⟨rfl, rfl, .int, rfl, rfl⟩ hv
set_option maxRecDepth 100000 in
theorem vc_passes0  (M : am_M) (Q : Option Value → am_M → Prop) (hv : (zr ((iv M 1 2) + 0)) ∧ (((tb M ((iv M 1 2) + 0)) = 105 → (zr ((iv M 1 2) + 1)) ∧ (((tb M ((iv M 1 2) + 1)) = 110 → (zr ((iv M 1 2) + 2)) ∧ (((tb M ((iv M 1 2) + 2)) = 115 → (zr ((iv M 1 2) + 3)) ∧ (((tb M ((iv M 1 2) + 3)) = 101 → (zr ((iv M 1 2) + 4)) ∧ (((tb M ((iv M 1 2) + 4)) = 114 → (zr ((iv M 1 2) + 5)) ∧ (((tb M ((iv M 1 2) + 5)) = 116 → (zr ((iv M 1 2) + 6)) ∧ ((zr (tb M ((iv M 1 2) + 6)) ∧ zr (97 : Int) ∧ zr (122 : Int)) ∧ ((97 ≤ (tb M ((iv M 1 2) + 6)) ∧ (tb M ((iv M 1 2) + 6)) ≤ 122 → Q (some (.int (zi 0))) M) ∧ (¬ (97 ≤ (tb M ((iv M 1 2) + 6)) ∧ (tb M ((iv M 1 2) + 6)) ≤ 122) → ∀ M1, M1 = zup M 1 2 ((iv M 1 2) + 6) → Q (some (.int (zi 1))) M1)))) ∧ (¬ (tb M ((iv M 1 2) + 5)) = 116 → Q (some (.int (zi 0))) M))) ∧ (¬ (tb M ((iv M 1 2) + 4)) = 114 → Q (some (.int (zi 0))) M))) ∧ (¬ (tb M ((iv M 1 2) + 3)) = 101 → Q (some (.int (zi 0))) M))) ∧ (¬ (tb M ((iv M 1 2) + 2)) = 115 → Q (some (.int (zi 0))) M))) ∧ (¬ (tb M ((iv M 1 2) + 1)) = 110 → Q (some (.int (zi 0))) M))) ∧ (¬ (tb M ((iv M 1 2) + 0)) = 105 → Q (some (.int (zi 0))) M))) : am_x t_Rea_passes (0, am_ent (am_mL t_Rea_passes) [.ref 1, .ref 6000], [], M) Q := by
  refine am_xn 0 (c1 := (0, [.ref 1, .ref 6000, .null], [], M)) rfl ?_
  refine am_xn 4 (c1 := (4, [.ref 1, .ref 6000, .int (zi 0)], [.ref 6000, .int (zi 0)], M)) rfl ?_
  refine am_xc t_Str_length (.invokevirtual 121) 121 (av := [.ref 6000]) (rest := [.int (zi 0)]) (rv := some (.int (zi 6))) (M' := M) rfl rfl rfl rfl (Nat.le_of_ble_eq_true rfl) (fun _ => rfl) (sp_strlen_0 M) ?_
  refine am_xn 0 (c1 := (7, [.ref 1, .ref 6000, .int (zi 0)], [.int (zi 6), .int (zi 0)], M)) rfl ?_
  refine am_xrd 5 1 2 (pc := 18) (ls := [.ref 1, .ref 6000, .int (zi 0)]) (st := [.ref 2]) rfl ?_
  refine am_xiadd 2 (iv M 1 2) 0 (pc := 20) (ls := [.ref 1, .ref 6000, .int (zi 0)]) (st := [.ref 2]) rfl ?_
  obtain ⟨g, hv⟩ := hv
  refine am_xc t_Pag_byteAt (.invokevirtual 102) 102 (av := [.ref 2, .int (zi ((iv M 1 2) + 0))]) (rest := []) (rv := some (.int (zi (tb M ((iv M 1 2) + 0))))) (M' := M) rfl rfl rfl rfl (Nat.le_of_ble_eq_true rfl) (fun _ => rfl) (sp_p2_byteAt M ((iv M 1 2) + 0) g) ?_
  refine am_xn 0 (c1 := (23, [.ref 1, .ref 6000, .int (zi 0)], [.int (zi (tb M ((iv M 1 2) + 0)))], M)) rfl ?_
  refine am_xn 2 (c1 := (25, [.ref 1, .ref 6000, .int (zi 0)], [.int (zi 0), .ref 6000, .int (zi (tb M ((iv M 1 2) + 0)))], M)) rfl ?_
  refine am_xc t_Str_charAt (.invokevirtual 126) 126 (av := [.ref 6000, .int (zi 0)]) (rest := [.int (zi (tb M ((iv M 1 2) + 0)))]) (rv := some (.int (zi 105))) (M' := M) rfl rfl rfl rfl (Nat.le_of_ble_eq_true rfl) (fun _ => rfl) (sp_strat_0_0 M) ?_
  refine am_xn 0 (c1 := (28, [.ref 1, .ref 6000, .int (zi 0)], [.int (zi 105), .int (zi (tb M ((iv M 1 2) + 0)))], M)) rfl ?_
  refine am_xn 1 (c1 := (if zi (tb M ((iv M 1 2) + 0)) = zi 105 then 33 else 31, [.ref 1, .ref 6000, .int (zi 0)], [], M)) rfl (am_xeq (tb_r M ((iv M 1 2) + 0)) (by decide) (fun h => ?_) (fun h => ?_))
  · replace hv := hv.1 h
    refine am_xn 4 (c1 := (4, [.ref 1, .ref 6000, .int (zi 1)], [.ref 6000, .int (zi 1)], M)) rfl ?_
    refine am_xc t_Str_length (.invokevirtual 121) 121 (av := [.ref 6000]) (rest := [.int (zi 1)]) (rv := some (.int (zi 6))) (M' := M) rfl rfl rfl rfl (Nat.le_of_ble_eq_true rfl) (fun _ => rfl) (sp_strlen_0 M) ?_
    refine am_xn 0 (c1 := (7, [.ref 1, .ref 6000, .int (zi 1)], [.int (zi 6), .int (zi 1)], M)) rfl ?_
    refine am_xrd 5 1 2 (pc := 18) (ls := [.ref 1, .ref 6000, .int (zi 1)]) (st := [.ref 2]) rfl ?_
    refine am_xiadd 2 (iv M 1 2) 1 (pc := 20) (ls := [.ref 1, .ref 6000, .int (zi 1)]) (st := [.ref 2]) rfl ?_
    obtain ⟨g, hv⟩ := hv
    refine am_xc t_Pag_byteAt (.invokevirtual 102) 102 (av := [.ref 2, .int (zi ((iv M 1 2) + 1))]) (rest := []) (rv := some (.int (zi (tb M ((iv M 1 2) + 1))))) (M' := M) rfl rfl rfl rfl (Nat.le_of_ble_eq_true rfl) (fun _ => rfl) (sp_p2_byteAt M ((iv M 1 2) + 1) g) ?_
    refine am_xn 0 (c1 := (23, [.ref 1, .ref 6000, .int (zi 1)], [.int (zi (tb M ((iv M 1 2) + 1)))], M)) rfl ?_
    refine am_xn 2 (c1 := (25, [.ref 1, .ref 6000, .int (zi 1)], [.int (zi 1), .ref 6000, .int (zi (tb M ((iv M 1 2) + 1)))], M)) rfl ?_
    refine am_xc t_Str_charAt (.invokevirtual 126) 126 (av := [.ref 6000, .int (zi 1)]) (rest := [.int (zi (tb M ((iv M 1 2) + 1)))]) (rv := some (.int (zi 110))) (M' := M) rfl rfl rfl rfl (Nat.le_of_ble_eq_true rfl) (fun _ => rfl) (sp_strat_0_1 M) ?_
    refine am_xn 0 (c1 := (28, [.ref 1, .ref 6000, .int (zi 1)], [.int (zi 110), .int (zi (tb M ((iv M 1 2) + 1)))], M)) rfl ?_
    refine am_xn 1 (c1 := (if zi (tb M ((iv M 1 2) + 1)) = zi 110 then 33 else 31, [.ref 1, .ref 6000, .int (zi 1)], [], M)) rfl (am_xeq (tb_r M ((iv M 1 2) + 1)) (by decide) (fun h => ?_) (fun h => ?_))
    · replace hv := hv.1 h
      refine am_xn 4 (c1 := (4, [.ref 1, .ref 6000, .int (zi 2)], [.ref 6000, .int (zi 2)], M)) rfl ?_
      refine am_xc t_Str_length (.invokevirtual 121) 121 (av := [.ref 6000]) (rest := [.int (zi 2)]) (rv := some (.int (zi 6))) (M' := M) rfl rfl rfl rfl (Nat.le_of_ble_eq_true rfl) (fun _ => rfl) (sp_strlen_0 M) ?_
      refine am_xn 0 (c1 := (7, [.ref 1, .ref 6000, .int (zi 2)], [.int (zi 6), .int (zi 2)], M)) rfl ?_
      refine am_xrd 5 1 2 (pc := 18) (ls := [.ref 1, .ref 6000, .int (zi 2)]) (st := [.ref 2]) rfl ?_
      refine am_xiadd 2 (iv M 1 2) 2 (pc := 20) (ls := [.ref 1, .ref 6000, .int (zi 2)]) (st := [.ref 2]) rfl ?_
      obtain ⟨g, hv⟩ := hv
      refine am_xc t_Pag_byteAt (.invokevirtual 102) 102 (av := [.ref 2, .int (zi ((iv M 1 2) + 2))]) (rest := []) (rv := some (.int (zi (tb M ((iv M 1 2) + 2))))) (M' := M) rfl rfl rfl rfl (Nat.le_of_ble_eq_true rfl) (fun _ => rfl) (sp_p2_byteAt M ((iv M 1 2) + 2) g) ?_
      refine am_xn 0 (c1 := (23, [.ref 1, .ref 6000, .int (zi 2)], [.int (zi (tb M ((iv M 1 2) + 2)))], M)) rfl ?_
      refine am_xn 2 (c1 := (25, [.ref 1, .ref 6000, .int (zi 2)], [.int (zi 2), .ref 6000, .int (zi (tb M ((iv M 1 2) + 2)))], M)) rfl ?_
      refine am_xc t_Str_charAt (.invokevirtual 126) 126 (av := [.ref 6000, .int (zi 2)]) (rest := [.int (zi (tb M ((iv M 1 2) + 2)))]) (rv := some (.int (zi 115))) (M' := M) rfl rfl rfl rfl (Nat.le_of_ble_eq_true rfl) (fun _ => rfl) (sp_strat_0_2 M) ?_
      refine am_xn 0 (c1 := (28, [.ref 1, .ref 6000, .int (zi 2)], [.int (zi 115), .int (zi (tb M ((iv M 1 2) + 2)))], M)) rfl ?_
      refine am_xn 1 (c1 := (if zi (tb M ((iv M 1 2) + 2)) = zi 115 then 33 else 31, [.ref 1, .ref 6000, .int (zi 2)], [], M)) rfl (am_xeq (tb_r M ((iv M 1 2) + 2)) (by decide) (fun h => ?_) (fun h => ?_))
      · replace hv := hv.1 h
        refine am_xn 4 (c1 := (4, [.ref 1, .ref 6000, .int (zi 3)], [.ref 6000, .int (zi 3)], M)) rfl ?_
        refine am_xc t_Str_length (.invokevirtual 121) 121 (av := [.ref 6000]) (rest := [.int (zi 3)]) (rv := some (.int (zi 6))) (M' := M) rfl rfl rfl rfl (Nat.le_of_ble_eq_true rfl) (fun _ => rfl) (sp_strlen_0 M) ?_
        refine am_xn 0 (c1 := (7, [.ref 1, .ref 6000, .int (zi 3)], [.int (zi 6), .int (zi 3)], M)) rfl ?_
        refine am_xrd 5 1 2 (pc := 18) (ls := [.ref 1, .ref 6000, .int (zi 3)]) (st := [.ref 2]) rfl ?_
        refine am_xiadd 2 (iv M 1 2) 3 (pc := 20) (ls := [.ref 1, .ref 6000, .int (zi 3)]) (st := [.ref 2]) rfl ?_
        obtain ⟨g, hv⟩ := hv
        refine am_xc t_Pag_byteAt (.invokevirtual 102) 102 (av := [.ref 2, .int (zi ((iv M 1 2) + 3))]) (rest := []) (rv := some (.int (zi (tb M ((iv M 1 2) + 3))))) (M' := M) rfl rfl rfl rfl (Nat.le_of_ble_eq_true rfl) (fun _ => rfl) (sp_p2_byteAt M ((iv M 1 2) + 3) g) ?_
        refine am_xn 0 (c1 := (23, [.ref 1, .ref 6000, .int (zi 3)], [.int (zi (tb M ((iv M 1 2) + 3)))], M)) rfl ?_
        refine am_xn 2 (c1 := (25, [.ref 1, .ref 6000, .int (zi 3)], [.int (zi 3), .ref 6000, .int (zi (tb M ((iv M 1 2) + 3)))], M)) rfl ?_
        refine am_xc t_Str_charAt (.invokevirtual 126) 126 (av := [.ref 6000, .int (zi 3)]) (rest := [.int (zi (tb M ((iv M 1 2) + 3)))]) (rv := some (.int (zi 101))) (M' := M) rfl rfl rfl rfl (Nat.le_of_ble_eq_true rfl) (fun _ => rfl) (sp_strat_0_3 M) ?_
        refine am_xn 0 (c1 := (28, [.ref 1, .ref 6000, .int (zi 3)], [.int (zi 101), .int (zi (tb M ((iv M 1 2) + 3)))], M)) rfl ?_
        refine am_xn 1 (c1 := (if zi (tb M ((iv M 1 2) + 3)) = zi 101 then 33 else 31, [.ref 1, .ref 6000, .int (zi 3)], [], M)) rfl (am_xeq (tb_r M ((iv M 1 2) + 3)) (by decide) (fun h => ?_) (fun h => ?_))
        · replace hv := hv.1 h
          refine am_xn 4 (c1 := (4, [.ref 1, .ref 6000, .int (zi 4)], [.ref 6000, .int (zi 4)], M)) rfl ?_
          refine am_xc t_Str_length (.invokevirtual 121) 121 (av := [.ref 6000]) (rest := [.int (zi 4)]) (rv := some (.int (zi 6))) (M' := M) rfl rfl rfl rfl (Nat.le_of_ble_eq_true rfl) (fun _ => rfl) (sp_strlen_0 M) ?_
          refine am_xn 0 (c1 := (7, [.ref 1, .ref 6000, .int (zi 4)], [.int (zi 6), .int (zi 4)], M)) rfl ?_
          refine am_xrd 5 1 2 (pc := 18) (ls := [.ref 1, .ref 6000, .int (zi 4)]) (st := [.ref 2]) rfl ?_
          refine am_xiadd 2 (iv M 1 2) 4 (pc := 20) (ls := [.ref 1, .ref 6000, .int (zi 4)]) (st := [.ref 2]) rfl ?_
          obtain ⟨g, hv⟩ := hv
          refine am_xc t_Pag_byteAt (.invokevirtual 102) 102 (av := [.ref 2, .int (zi ((iv M 1 2) + 4))]) (rest := []) (rv := some (.int (zi (tb M ((iv M 1 2) + 4))))) (M' := M) rfl rfl rfl rfl (Nat.le_of_ble_eq_true rfl) (fun _ => rfl) (sp_p2_byteAt M ((iv M 1 2) + 4) g) ?_
          refine am_xn 0 (c1 := (23, [.ref 1, .ref 6000, .int (zi 4)], [.int (zi (tb M ((iv M 1 2) + 4)))], M)) rfl ?_
          refine am_xn 2 (c1 := (25, [.ref 1, .ref 6000, .int (zi 4)], [.int (zi 4), .ref 6000, .int (zi (tb M ((iv M 1 2) + 4)))], M)) rfl ?_
          refine am_xc t_Str_charAt (.invokevirtual 126) 126 (av := [.ref 6000, .int (zi 4)]) (rest := [.int (zi (tb M ((iv M 1 2) + 4)))]) (rv := some (.int (zi 114))) (M' := M) rfl rfl rfl rfl (Nat.le_of_ble_eq_true rfl) (fun _ => rfl) (sp_strat_0_4 M) ?_
          refine am_xn 0 (c1 := (28, [.ref 1, .ref 6000, .int (zi 4)], [.int (zi 114), .int (zi (tb M ((iv M 1 2) + 4)))], M)) rfl ?_
          refine am_xn 1 (c1 := (if zi (tb M ((iv M 1 2) + 4)) = zi 114 then 33 else 31, [.ref 1, .ref 6000, .int (zi 4)], [], M)) rfl (am_xeq (tb_r M ((iv M 1 2) + 4)) (by decide) (fun h => ?_) (fun h => ?_))
          · replace hv := hv.1 h
            refine am_xn 4 (c1 := (4, [.ref 1, .ref 6000, .int (zi 5)], [.ref 6000, .int (zi 5)], M)) rfl ?_
            refine am_xc t_Str_length (.invokevirtual 121) 121 (av := [.ref 6000]) (rest := [.int (zi 5)]) (rv := some (.int (zi 6))) (M' := M) rfl rfl rfl rfl (Nat.le_of_ble_eq_true rfl) (fun _ => rfl) (sp_strlen_0 M) ?_
            refine am_xn 0 (c1 := (7, [.ref 1, .ref 6000, .int (zi 5)], [.int (zi 6), .int (zi 5)], M)) rfl ?_
            refine am_xrd 5 1 2 (pc := 18) (ls := [.ref 1, .ref 6000, .int (zi 5)]) (st := [.ref 2]) rfl ?_
            refine am_xiadd 2 (iv M 1 2) 5 (pc := 20) (ls := [.ref 1, .ref 6000, .int (zi 5)]) (st := [.ref 2]) rfl ?_
            obtain ⟨g, hv⟩ := hv
            refine am_xc t_Pag_byteAt (.invokevirtual 102) 102 (av := [.ref 2, .int (zi ((iv M 1 2) + 5))]) (rest := []) (rv := some (.int (zi (tb M ((iv M 1 2) + 5))))) (M' := M) rfl rfl rfl rfl (Nat.le_of_ble_eq_true rfl) (fun _ => rfl) (sp_p2_byteAt M ((iv M 1 2) + 5) g) ?_
            refine am_xn 0 (c1 := (23, [.ref 1, .ref 6000, .int (zi 5)], [.int (zi (tb M ((iv M 1 2) + 5)))], M)) rfl ?_
            refine am_xn 2 (c1 := (25, [.ref 1, .ref 6000, .int (zi 5)], [.int (zi 5), .ref 6000, .int (zi (tb M ((iv M 1 2) + 5)))], M)) rfl ?_
            refine am_xc t_Str_charAt (.invokevirtual 126) 126 (av := [.ref 6000, .int (zi 5)]) (rest := [.int (zi (tb M ((iv M 1 2) + 5)))]) (rv := some (.int (zi 116))) (M' := M) rfl rfl rfl rfl (Nat.le_of_ble_eq_true rfl) (fun _ => rfl) (sp_strat_0_5 M) ?_
            refine am_xn 0 (c1 := (28, [.ref 1, .ref 6000, .int (zi 5)], [.int (zi 116), .int (zi (tb M ((iv M 1 2) + 5)))], M)) rfl ?_
            refine am_xn 1 (c1 := (if zi (tb M ((iv M 1 2) + 5)) = zi 116 then 33 else 31, [.ref 1, .ref 6000, .int (zi 5)], [], M)) rfl (am_xeq (tb_r M ((iv M 1 2) + 5)) (by decide) (fun h => ?_) (fun h => ?_))
            · replace hv := hv.1 h
              refine am_xn 4 (c1 := (4, [.ref 1, .ref 6000, .int (zi 6)], [.ref 6000, .int (zi 6)], M)) rfl ?_
              refine am_xc t_Str_length (.invokevirtual 121) 121 (av := [.ref 6000]) (rest := [.int (zi 6)]) (rv := some (.int (zi 6))) (M' := M) rfl rfl rfl rfl (Nat.le_of_ble_eq_true rfl) (fun _ => rfl) (sp_strlen_0 M) ?_
              refine am_xn 0 (c1 := (7, [.ref 1, .ref 6000, .int (zi 6)], [.int (zi 6), .int (zi 6)], M)) rfl ?_
              refine am_xrd 5 1 2 (pc := 47) (ls := [.ref 1, .ref 6000, .int (zi 6)]) (st := [.ref 2]) rfl ?_
              refine am_xn 1 (c1 := (48, [.ref 1, .ref 6000, .int (zi 6)], [.ref 6000, .int (zi (iv M 1 2)), .ref 2], M)) rfl ?_
              refine am_xc t_Str_length (.invokevirtual 121) 121 (av := [.ref 6000]) (rest := [.int (zi (iv M 1 2)), .ref 2]) (rv := some (.int (zi 6))) (M' := M) rfl rfl rfl rfl (Nat.le_of_ble_eq_true rfl) (fun _ => rfl) (sp_strlen_0 M) ?_
              refine am_xn 0 (c1 := (51, [.ref 1, .ref 6000, .int (zi 6)], [.int (zi 6), .int (zi (iv M 1 2)), .ref 2], M)) rfl ?_
              refine am_xiadd 1 (iv M 1 2) 6 (pc := 52) (ls := [.ref 1, .ref 6000, .int (zi 6)]) (st := [.ref 2]) rfl ?_
              obtain ⟨g, hv⟩ := hv
              refine am_xc t_Pag_byteAt (.invokevirtual 102) 102 (av := [.ref 2, .int (zi ((iv M 1 2) + 6))]) (rest := []) (rv := some (.int (zi (tb M ((iv M 1 2) + 6))))) (M' := M) rfl rfl rfl rfl (Nat.le_of_ble_eq_true rfl) (fun _ => rfl) (sp_p2_byteAt M ((iv M 1 2) + 6) g) ?_
              refine am_xn 0 (c1 := (55, [.ref 1, .ref 6000, .int (zi 6)], [.int (zi (tb M ((iv M 1 2) + 6)))], M)) rfl ?_
              refine am_xn 2 (c1 := (59, [.ref 1, .ref 6000, .int (zi 6)], [.int (zi 122), .int (zi 97), .int (zi (tb M ((iv M 1 2) + 6)))], M)) rfl ?_
              obtain ⟨g, hv⟩ := hv
              by_cases c2 : 97 ≤ (tb M ((iv M 1 2) + 6)) ∧ (tb M ((iv M 1 2) + 6)) ≤ 122
              · replace hv := hv.1 c2
                refine am_xc t_Rea_isBetween (.invokestatic 112) 112 (av := [.int (zi (tb M ((iv M 1 2) + 6))), .int (zi 97), .int (zi 122)]) (rest := []) (rv := some (.int (zi 1))) (M' := M) rfl rfl rfl rfl (Nat.le_of_ble_eq_true rfl) (fun h => nomatch h) (by have q := sp_isBetween M (tb M ((iv M 1 2) + 6)) 97 122 g; rwa [if_pos c2] at q) ?_
                refine am_xn 0 (c1 := (62, [.ref 1, .ref 6000, .int (zi 6)], [.int (zi 1)], M)) rfl ?_
                refine am_xn 2 (c1 := (66, [.ref 1, .ref 6000, .int (zi 6)], [.int (zi 0)], M)) rfl ?_
                exact am_xr (some (.int (zi 0))) ⟨rfl, rfl, .boolean, rfl, rfl⟩ hv
              · replace hv := hv.2 c2
                refine am_xc t_Rea_isBetween (.invokestatic 112) 112 (av := [.int (zi (tb M ((iv M 1 2) + 6))), .int (zi 97), .int (zi 122)]) (rest := []) (rv := some (.int (zi 0))) (M' := M) rfl rfl rfl rfl (Nat.le_of_ble_eq_true rfl) (fun h => nomatch h) (by have q := sp_isBetween M (tb M ((iv M 1 2) + 6)) 97 122 g; rwa [if_neg c2] at q) ?_
                refine am_xn 0 (c1 := (62, [.ref 1, .ref 6000, .int (zi 6)], [.int (zi 0)], M)) rfl ?_
                refine am_xrd 4 1 2 (pc := 72) (ls := [.ref 1, .ref 6000, .int (zi 6)]) (st := [.ref 1]) rfl ?_
                refine am_xn 1 (c1 := (73, [.ref 1, .ref 6000, .int (zi 6)], [.ref 6000, .int (zi (iv M 1 2)), .ref 1], M)) rfl ?_
                refine am_xc t_Str_length (.invokevirtual 121) 121 (av := [.ref 6000]) (rest := [.int (zi (iv M 1 2)), .ref 1]) (rv := some (.int (zi 6))) (M' := M) rfl rfl rfl rfl (Nat.le_of_ble_eq_true rfl) (fun _ => rfl) (sp_strlen_0 M) ?_
                refine am_xn 0 (c1 := (76, [.ref 1, .ref 6000, .int (zi 6)], [.int (zi 6), .int (zi (iv M 1 2)), .ref 1], M)) rfl ?_
                refine am_xiadd 1 (iv M 1 2) 6 (pc := 77) (ls := [.ref 1, .ref 6000, .int (zi 6)]) (st := [.ref 1]) rfl ?_
                refine am_xn 1 (c1 := (80, [.ref 1, .ref 6000, .int (zi 6)], [], zup M 1 2 ((iv M 1 2) + 6))) rfl ?_
                obtain ⟨M1, eM1⟩ : ∃ m, m = zup M 1 2 ((iv M 1 2) + 6) := ⟨_, rfl⟩
                replace hv := hv M1 eM1
                rw [← eM1]
                refine am_xn 1 (c1 := (81, [.ref 1, .ref 6000, .int (zi 6)], [.int (zi 1)], M1)) rfl ?_
                exact am_xr (some (.int (zi 1))) ⟨rfl, rfl, .boolean, rfl, rfl⟩ hv
            · replace hv := hv.2 h
              refine am_xn 1 (c1 := (32, [.ref 1, .ref 6000, .int (zi 5)], [.int (zi 0)], M)) rfl ?_
              exact am_xr (some (.int (zi 0))) ⟨rfl, rfl, .boolean, rfl, rfl⟩ hv
          · replace hv := hv.2 h
            refine am_xn 1 (c1 := (32, [.ref 1, .ref 6000, .int (zi 4)], [.int (zi 0)], M)) rfl ?_
            exact am_xr (some (.int (zi 0))) ⟨rfl, rfl, .boolean, rfl, rfl⟩ hv
        · replace hv := hv.2 h
          refine am_xn 1 (c1 := (32, [.ref 1, .ref 6000, .int (zi 3)], [.int (zi 0)], M)) rfl ?_
          exact am_xr (some (.int (zi 0))) ⟨rfl, rfl, .boolean, rfl, rfl⟩ hv
      · replace hv := hv.2 h
        refine am_xn 1 (c1 := (32, [.ref 1, .ref 6000, .int (zi 2)], [.int (zi 0)], M)) rfl ?_
        exact am_xr (some (.int (zi 0))) ⟨rfl, rfl, .boolean, rfl, rfl⟩ hv
    · replace hv := hv.2 h
      refine am_xn 1 (c1 := (32, [.ref 1, .ref 6000, .int (zi 1)], [.int (zi 0)], M)) rfl ?_
      exact am_xr (some (.int (zi 0))) ⟨rfl, rfl, .boolean, rfl, rfl⟩ hv
  · replace hv := hv.2 h
    refine am_xn 1 (c1 := (32, [.ref 1, .ref 6000, .int (zi 0)], [.int (zi 0)], M)) rfl ?_
    exact am_xr (some (.int (zi 0))) ⟨rfl, rfl, .boolean, rfl, rfl⟩ hv
set_option maxRecDepth 100000 in
theorem vc_passes1  (M : am_M) (Q : Option Value → am_M → Prop) (hv : (zr ((iv M 1 2) + 0)) ∧ (((tb M ((iv M 1 2) + 0)) = 114 → (zr ((iv M 1 2) + 1)) ∧ (((tb M ((iv M 1 2) + 1)) = 101 → (zr ((iv M 1 2) + 2)) ∧ (((tb M ((iv M 1 2) + 2)) = 112 → (zr ((iv M 1 2) + 3)) ∧ (((tb M ((iv M 1 2) + 3)) = 108 → (zr ((iv M 1 2) + 4)) ∧ (((tb M ((iv M 1 2) + 4)) = 97 → (zr ((iv M 1 2) + 5)) ∧ (((tb M ((iv M 1 2) + 5)) = 99 → (zr ((iv M 1 2) + 6)) ∧ (((tb M ((iv M 1 2) + 6)) = 101 → (zr ((iv M 1 2) + 7)) ∧ ((zr (tb M ((iv M 1 2) + 7)) ∧ zr (97 : Int) ∧ zr (122 : Int)) ∧ ((97 ≤ (tb M ((iv M 1 2) + 7)) ∧ (tb M ((iv M 1 2) + 7)) ≤ 122 → Q (some (.int (zi 0))) M) ∧ (¬ (97 ≤ (tb M ((iv M 1 2) + 7)) ∧ (tb M ((iv M 1 2) + 7)) ≤ 122) → ∀ M1, M1 = zup M 1 2 ((iv M 1 2) + 7) → Q (some (.int (zi 1))) M1)))) ∧ (¬ (tb M ((iv M 1 2) + 6)) = 101 → Q (some (.int (zi 0))) M))) ∧ (¬ (tb M ((iv M 1 2) + 5)) = 99 → Q (some (.int (zi 0))) M))) ∧ (¬ (tb M ((iv M 1 2) + 4)) = 97 → Q (some (.int (zi 0))) M))) ∧ (¬ (tb M ((iv M 1 2) + 3)) = 108 → Q (some (.int (zi 0))) M))) ∧ (¬ (tb M ((iv M 1 2) + 2)) = 112 → Q (some (.int (zi 0))) M))) ∧ (¬ (tb M ((iv M 1 2) + 1)) = 101 → Q (some (.int (zi 0))) M))) ∧ (¬ (tb M ((iv M 1 2) + 0)) = 114 → Q (some (.int (zi 0))) M))) : am_x t_Rea_passes (0, am_ent (am_mL t_Rea_passes) [.ref 1, .ref 6001], [], M) Q := by
  refine am_xn 0 (c1 := (0, [.ref 1, .ref 6001, .null], [], M)) rfl ?_
  refine am_xn 4 (c1 := (4, [.ref 1, .ref 6001, .int (zi 0)], [.ref 6001, .int (zi 0)], M)) rfl ?_
  refine am_xc t_Str_length (.invokevirtual 121) 121 (av := [.ref 6001]) (rest := [.int (zi 0)]) (rv := some (.int (zi 7))) (M' := M) rfl rfl rfl rfl (Nat.le_of_ble_eq_true rfl) (fun _ => rfl) (sp_strlen_1 M) ?_
  refine am_xn 0 (c1 := (7, [.ref 1, .ref 6001, .int (zi 0)], [.int (zi 7), .int (zi 0)], M)) rfl ?_
  refine am_xrd 5 1 2 (pc := 18) (ls := [.ref 1, .ref 6001, .int (zi 0)]) (st := [.ref 2]) rfl ?_
  refine am_xiadd 2 (iv M 1 2) 0 (pc := 20) (ls := [.ref 1, .ref 6001, .int (zi 0)]) (st := [.ref 2]) rfl ?_
  obtain ⟨g, hv⟩ := hv
  refine am_xc t_Pag_byteAt (.invokevirtual 102) 102 (av := [.ref 2, .int (zi ((iv M 1 2) + 0))]) (rest := []) (rv := some (.int (zi (tb M ((iv M 1 2) + 0))))) (M' := M) rfl rfl rfl rfl (Nat.le_of_ble_eq_true rfl) (fun _ => rfl) (sp_p2_byteAt M ((iv M 1 2) + 0) g) ?_
  refine am_xn 0 (c1 := (23, [.ref 1, .ref 6001, .int (zi 0)], [.int (zi (tb M ((iv M 1 2) + 0)))], M)) rfl ?_
  refine am_xn 2 (c1 := (25, [.ref 1, .ref 6001, .int (zi 0)], [.int (zi 0), .ref 6001, .int (zi (tb M ((iv M 1 2) + 0)))], M)) rfl ?_
  refine am_xc t_Str_charAt (.invokevirtual 126) 126 (av := [.ref 6001, .int (zi 0)]) (rest := [.int (zi (tb M ((iv M 1 2) + 0)))]) (rv := some (.int (zi 114))) (M' := M) rfl rfl rfl rfl (Nat.le_of_ble_eq_true rfl) (fun _ => rfl) (sp_strat_1_0 M) ?_
  refine am_xn 0 (c1 := (28, [.ref 1, .ref 6001, .int (zi 0)], [.int (zi 114), .int (zi (tb M ((iv M 1 2) + 0)))], M)) rfl ?_
  refine am_xn 1 (c1 := (if zi (tb M ((iv M 1 2) + 0)) = zi 114 then 33 else 31, [.ref 1, .ref 6001, .int (zi 0)], [], M)) rfl (am_xeq (tb_r M ((iv M 1 2) + 0)) (by decide) (fun h => ?_) (fun h => ?_))
  · replace hv := hv.1 h
    refine am_xn 4 (c1 := (4, [.ref 1, .ref 6001, .int (zi 1)], [.ref 6001, .int (zi 1)], M)) rfl ?_
    refine am_xc t_Str_length (.invokevirtual 121) 121 (av := [.ref 6001]) (rest := [.int (zi 1)]) (rv := some (.int (zi 7))) (M' := M) rfl rfl rfl rfl (Nat.le_of_ble_eq_true rfl) (fun _ => rfl) (sp_strlen_1 M) ?_
    refine am_xn 0 (c1 := (7, [.ref 1, .ref 6001, .int (zi 1)], [.int (zi 7), .int (zi 1)], M)) rfl ?_
    refine am_xrd 5 1 2 (pc := 18) (ls := [.ref 1, .ref 6001, .int (zi 1)]) (st := [.ref 2]) rfl ?_
    refine am_xiadd 2 (iv M 1 2) 1 (pc := 20) (ls := [.ref 1, .ref 6001, .int (zi 1)]) (st := [.ref 2]) rfl ?_
    obtain ⟨g, hv⟩ := hv
    refine am_xc t_Pag_byteAt (.invokevirtual 102) 102 (av := [.ref 2, .int (zi ((iv M 1 2) + 1))]) (rest := []) (rv := some (.int (zi (tb M ((iv M 1 2) + 1))))) (M' := M) rfl rfl rfl rfl (Nat.le_of_ble_eq_true rfl) (fun _ => rfl) (sp_p2_byteAt M ((iv M 1 2) + 1) g) ?_
    refine am_xn 0 (c1 := (23, [.ref 1, .ref 6001, .int (zi 1)], [.int (zi (tb M ((iv M 1 2) + 1)))], M)) rfl ?_
    refine am_xn 2 (c1 := (25, [.ref 1, .ref 6001, .int (zi 1)], [.int (zi 1), .ref 6001, .int (zi (tb M ((iv M 1 2) + 1)))], M)) rfl ?_
    refine am_xc t_Str_charAt (.invokevirtual 126) 126 (av := [.ref 6001, .int (zi 1)]) (rest := [.int (zi (tb M ((iv M 1 2) + 1)))]) (rv := some (.int (zi 101))) (M' := M) rfl rfl rfl rfl (Nat.le_of_ble_eq_true rfl) (fun _ => rfl) (sp_strat_1_1 M) ?_
    refine am_xn 0 (c1 := (28, [.ref 1, .ref 6001, .int (zi 1)], [.int (zi 101), .int (zi (tb M ((iv M 1 2) + 1)))], M)) rfl ?_
    refine am_xn 1 (c1 := (if zi (tb M ((iv M 1 2) + 1)) = zi 101 then 33 else 31, [.ref 1, .ref 6001, .int (zi 1)], [], M)) rfl (am_xeq (tb_r M ((iv M 1 2) + 1)) (by decide) (fun h => ?_) (fun h => ?_))
    · replace hv := hv.1 h
      refine am_xn 4 (c1 := (4, [.ref 1, .ref 6001, .int (zi 2)], [.ref 6001, .int (zi 2)], M)) rfl ?_
      refine am_xc t_Str_length (.invokevirtual 121) 121 (av := [.ref 6001]) (rest := [.int (zi 2)]) (rv := some (.int (zi 7))) (M' := M) rfl rfl rfl rfl (Nat.le_of_ble_eq_true rfl) (fun _ => rfl) (sp_strlen_1 M) ?_
      refine am_xn 0 (c1 := (7, [.ref 1, .ref 6001, .int (zi 2)], [.int (zi 7), .int (zi 2)], M)) rfl ?_
      refine am_xrd 5 1 2 (pc := 18) (ls := [.ref 1, .ref 6001, .int (zi 2)]) (st := [.ref 2]) rfl ?_
      refine am_xiadd 2 (iv M 1 2) 2 (pc := 20) (ls := [.ref 1, .ref 6001, .int (zi 2)]) (st := [.ref 2]) rfl ?_
      obtain ⟨g, hv⟩ := hv
      refine am_xc t_Pag_byteAt (.invokevirtual 102) 102 (av := [.ref 2, .int (zi ((iv M 1 2) + 2))]) (rest := []) (rv := some (.int (zi (tb M ((iv M 1 2) + 2))))) (M' := M) rfl rfl rfl rfl (Nat.le_of_ble_eq_true rfl) (fun _ => rfl) (sp_p2_byteAt M ((iv M 1 2) + 2) g) ?_
      refine am_xn 0 (c1 := (23, [.ref 1, .ref 6001, .int (zi 2)], [.int (zi (tb M ((iv M 1 2) + 2)))], M)) rfl ?_
      refine am_xn 2 (c1 := (25, [.ref 1, .ref 6001, .int (zi 2)], [.int (zi 2), .ref 6001, .int (zi (tb M ((iv M 1 2) + 2)))], M)) rfl ?_
      refine am_xc t_Str_charAt (.invokevirtual 126) 126 (av := [.ref 6001, .int (zi 2)]) (rest := [.int (zi (tb M ((iv M 1 2) + 2)))]) (rv := some (.int (zi 112))) (M' := M) rfl rfl rfl rfl (Nat.le_of_ble_eq_true rfl) (fun _ => rfl) (sp_strat_1_2 M) ?_
      refine am_xn 0 (c1 := (28, [.ref 1, .ref 6001, .int (zi 2)], [.int (zi 112), .int (zi (tb M ((iv M 1 2) + 2)))], M)) rfl ?_
      refine am_xn 1 (c1 := (if zi (tb M ((iv M 1 2) + 2)) = zi 112 then 33 else 31, [.ref 1, .ref 6001, .int (zi 2)], [], M)) rfl (am_xeq (tb_r M ((iv M 1 2) + 2)) (by decide) (fun h => ?_) (fun h => ?_))
      · replace hv := hv.1 h
        refine am_xn 4 (c1 := (4, [.ref 1, .ref 6001, .int (zi 3)], [.ref 6001, .int (zi 3)], M)) rfl ?_
        refine am_xc t_Str_length (.invokevirtual 121) 121 (av := [.ref 6001]) (rest := [.int (zi 3)]) (rv := some (.int (zi 7))) (M' := M) rfl rfl rfl rfl (Nat.le_of_ble_eq_true rfl) (fun _ => rfl) (sp_strlen_1 M) ?_
        refine am_xn 0 (c1 := (7, [.ref 1, .ref 6001, .int (zi 3)], [.int (zi 7), .int (zi 3)], M)) rfl ?_
        refine am_xrd 5 1 2 (pc := 18) (ls := [.ref 1, .ref 6001, .int (zi 3)]) (st := [.ref 2]) rfl ?_
        refine am_xiadd 2 (iv M 1 2) 3 (pc := 20) (ls := [.ref 1, .ref 6001, .int (zi 3)]) (st := [.ref 2]) rfl ?_
        obtain ⟨g, hv⟩ := hv
        refine am_xc t_Pag_byteAt (.invokevirtual 102) 102 (av := [.ref 2, .int (zi ((iv M 1 2) + 3))]) (rest := []) (rv := some (.int (zi (tb M ((iv M 1 2) + 3))))) (M' := M) rfl rfl rfl rfl (Nat.le_of_ble_eq_true rfl) (fun _ => rfl) (sp_p2_byteAt M ((iv M 1 2) + 3) g) ?_
        refine am_xn 0 (c1 := (23, [.ref 1, .ref 6001, .int (zi 3)], [.int (zi (tb M ((iv M 1 2) + 3)))], M)) rfl ?_
        refine am_xn 2 (c1 := (25, [.ref 1, .ref 6001, .int (zi 3)], [.int (zi 3), .ref 6001, .int (zi (tb M ((iv M 1 2) + 3)))], M)) rfl ?_
        refine am_xc t_Str_charAt (.invokevirtual 126) 126 (av := [.ref 6001, .int (zi 3)]) (rest := [.int (zi (tb M ((iv M 1 2) + 3)))]) (rv := some (.int (zi 108))) (M' := M) rfl rfl rfl rfl (Nat.le_of_ble_eq_true rfl) (fun _ => rfl) (sp_strat_1_3 M) ?_
        refine am_xn 0 (c1 := (28, [.ref 1, .ref 6001, .int (zi 3)], [.int (zi 108), .int (zi (tb M ((iv M 1 2) + 3)))], M)) rfl ?_
        refine am_xn 1 (c1 := (if zi (tb M ((iv M 1 2) + 3)) = zi 108 then 33 else 31, [.ref 1, .ref 6001, .int (zi 3)], [], M)) rfl (am_xeq (tb_r M ((iv M 1 2) + 3)) (by decide) (fun h => ?_) (fun h => ?_))
        · replace hv := hv.1 h
          refine am_xn 4 (c1 := (4, [.ref 1, .ref 6001, .int (zi 4)], [.ref 6001, .int (zi 4)], M)) rfl ?_
          refine am_xc t_Str_length (.invokevirtual 121) 121 (av := [.ref 6001]) (rest := [.int (zi 4)]) (rv := some (.int (zi 7))) (M' := M) rfl rfl rfl rfl (Nat.le_of_ble_eq_true rfl) (fun _ => rfl) (sp_strlen_1 M) ?_
          refine am_xn 0 (c1 := (7, [.ref 1, .ref 6001, .int (zi 4)], [.int (zi 7), .int (zi 4)], M)) rfl ?_
          refine am_xrd 5 1 2 (pc := 18) (ls := [.ref 1, .ref 6001, .int (zi 4)]) (st := [.ref 2]) rfl ?_
          refine am_xiadd 2 (iv M 1 2) 4 (pc := 20) (ls := [.ref 1, .ref 6001, .int (zi 4)]) (st := [.ref 2]) rfl ?_
          obtain ⟨g, hv⟩ := hv
          refine am_xc t_Pag_byteAt (.invokevirtual 102) 102 (av := [.ref 2, .int (zi ((iv M 1 2) + 4))]) (rest := []) (rv := some (.int (zi (tb M ((iv M 1 2) + 4))))) (M' := M) rfl rfl rfl rfl (Nat.le_of_ble_eq_true rfl) (fun _ => rfl) (sp_p2_byteAt M ((iv M 1 2) + 4) g) ?_
          refine am_xn 0 (c1 := (23, [.ref 1, .ref 6001, .int (zi 4)], [.int (zi (tb M ((iv M 1 2) + 4)))], M)) rfl ?_
          refine am_xn 2 (c1 := (25, [.ref 1, .ref 6001, .int (zi 4)], [.int (zi 4), .ref 6001, .int (zi (tb M ((iv M 1 2) + 4)))], M)) rfl ?_
          refine am_xc t_Str_charAt (.invokevirtual 126) 126 (av := [.ref 6001, .int (zi 4)]) (rest := [.int (zi (tb M ((iv M 1 2) + 4)))]) (rv := some (.int (zi 97))) (M' := M) rfl rfl rfl rfl (Nat.le_of_ble_eq_true rfl) (fun _ => rfl) (sp_strat_1_4 M) ?_
          refine am_xn 0 (c1 := (28, [.ref 1, .ref 6001, .int (zi 4)], [.int (zi 97), .int (zi (tb M ((iv M 1 2) + 4)))], M)) rfl ?_
          refine am_xn 1 (c1 := (if zi (tb M ((iv M 1 2) + 4)) = zi 97 then 33 else 31, [.ref 1, .ref 6001, .int (zi 4)], [], M)) rfl (am_xeq (tb_r M ((iv M 1 2) + 4)) (by decide) (fun h => ?_) (fun h => ?_))
          · replace hv := hv.1 h
            refine am_xn 4 (c1 := (4, [.ref 1, .ref 6001, .int (zi 5)], [.ref 6001, .int (zi 5)], M)) rfl ?_
            refine am_xc t_Str_length (.invokevirtual 121) 121 (av := [.ref 6001]) (rest := [.int (zi 5)]) (rv := some (.int (zi 7))) (M' := M) rfl rfl rfl rfl (Nat.le_of_ble_eq_true rfl) (fun _ => rfl) (sp_strlen_1 M) ?_
            refine am_xn 0 (c1 := (7, [.ref 1, .ref 6001, .int (zi 5)], [.int (zi 7), .int (zi 5)], M)) rfl ?_
            refine am_xrd 5 1 2 (pc := 18) (ls := [.ref 1, .ref 6001, .int (zi 5)]) (st := [.ref 2]) rfl ?_
            refine am_xiadd 2 (iv M 1 2) 5 (pc := 20) (ls := [.ref 1, .ref 6001, .int (zi 5)]) (st := [.ref 2]) rfl ?_
            obtain ⟨g, hv⟩ := hv
            refine am_xc t_Pag_byteAt (.invokevirtual 102) 102 (av := [.ref 2, .int (zi ((iv M 1 2) + 5))]) (rest := []) (rv := some (.int (zi (tb M ((iv M 1 2) + 5))))) (M' := M) rfl rfl rfl rfl (Nat.le_of_ble_eq_true rfl) (fun _ => rfl) (sp_p2_byteAt M ((iv M 1 2) + 5) g) ?_
            refine am_xn 0 (c1 := (23, [.ref 1, .ref 6001, .int (zi 5)], [.int (zi (tb M ((iv M 1 2) + 5)))], M)) rfl ?_
            refine am_xn 2 (c1 := (25, [.ref 1, .ref 6001, .int (zi 5)], [.int (zi 5), .ref 6001, .int (zi (tb M ((iv M 1 2) + 5)))], M)) rfl ?_
            refine am_xc t_Str_charAt (.invokevirtual 126) 126 (av := [.ref 6001, .int (zi 5)]) (rest := [.int (zi (tb M ((iv M 1 2) + 5)))]) (rv := some (.int (zi 99))) (M' := M) rfl rfl rfl rfl (Nat.le_of_ble_eq_true rfl) (fun _ => rfl) (sp_strat_1_5 M) ?_
            refine am_xn 0 (c1 := (28, [.ref 1, .ref 6001, .int (zi 5)], [.int (zi 99), .int (zi (tb M ((iv M 1 2) + 5)))], M)) rfl ?_
            refine am_xn 1 (c1 := (if zi (tb M ((iv M 1 2) + 5)) = zi 99 then 33 else 31, [.ref 1, .ref 6001, .int (zi 5)], [], M)) rfl (am_xeq (tb_r M ((iv M 1 2) + 5)) (by decide) (fun h => ?_) (fun h => ?_))
            · replace hv := hv.1 h
              refine am_xn 4 (c1 := (4, [.ref 1, .ref 6001, .int (zi 6)], [.ref 6001, .int (zi 6)], M)) rfl ?_
              refine am_xc t_Str_length (.invokevirtual 121) 121 (av := [.ref 6001]) (rest := [.int (zi 6)]) (rv := some (.int (zi 7))) (M' := M) rfl rfl rfl rfl (Nat.le_of_ble_eq_true rfl) (fun _ => rfl) (sp_strlen_1 M) ?_
              refine am_xn 0 (c1 := (7, [.ref 1, .ref 6001, .int (zi 6)], [.int (zi 7), .int (zi 6)], M)) rfl ?_
              refine am_xrd 5 1 2 (pc := 18) (ls := [.ref 1, .ref 6001, .int (zi 6)]) (st := [.ref 2]) rfl ?_
              refine am_xiadd 2 (iv M 1 2) 6 (pc := 20) (ls := [.ref 1, .ref 6001, .int (zi 6)]) (st := [.ref 2]) rfl ?_
              obtain ⟨g, hv⟩ := hv
              refine am_xc t_Pag_byteAt (.invokevirtual 102) 102 (av := [.ref 2, .int (zi ((iv M 1 2) + 6))]) (rest := []) (rv := some (.int (zi (tb M ((iv M 1 2) + 6))))) (M' := M) rfl rfl rfl rfl (Nat.le_of_ble_eq_true rfl) (fun _ => rfl) (sp_p2_byteAt M ((iv M 1 2) + 6) g) ?_
              refine am_xn 0 (c1 := (23, [.ref 1, .ref 6001, .int (zi 6)], [.int (zi (tb M ((iv M 1 2) + 6)))], M)) rfl ?_
              refine am_xn 2 (c1 := (25, [.ref 1, .ref 6001, .int (zi 6)], [.int (zi 6), .ref 6001, .int (zi (tb M ((iv M 1 2) + 6)))], M)) rfl ?_
              refine am_xc t_Str_charAt (.invokevirtual 126) 126 (av := [.ref 6001, .int (zi 6)]) (rest := [.int (zi (tb M ((iv M 1 2) + 6)))]) (rv := some (.int (zi 101))) (M' := M) rfl rfl rfl rfl (Nat.le_of_ble_eq_true rfl) (fun _ => rfl) (sp_strat_1_6 M) ?_
              refine am_xn 0 (c1 := (28, [.ref 1, .ref 6001, .int (zi 6)], [.int (zi 101), .int (zi (tb M ((iv M 1 2) + 6)))], M)) rfl ?_
              refine am_xn 1 (c1 := (if zi (tb M ((iv M 1 2) + 6)) = zi 101 then 33 else 31, [.ref 1, .ref 6001, .int (zi 6)], [], M)) rfl (am_xeq (tb_r M ((iv M 1 2) + 6)) (by decide) (fun h => ?_) (fun h => ?_))
              · replace hv := hv.1 h
                refine am_xn 4 (c1 := (4, [.ref 1, .ref 6001, .int (zi 7)], [.ref 6001, .int (zi 7)], M)) rfl ?_
                refine am_xc t_Str_length (.invokevirtual 121) 121 (av := [.ref 6001]) (rest := [.int (zi 7)]) (rv := some (.int (zi 7))) (M' := M) rfl rfl rfl rfl (Nat.le_of_ble_eq_true rfl) (fun _ => rfl) (sp_strlen_1 M) ?_
                refine am_xn 0 (c1 := (7, [.ref 1, .ref 6001, .int (zi 7)], [.int (zi 7), .int (zi 7)], M)) rfl ?_
                refine am_xrd 5 1 2 (pc := 47) (ls := [.ref 1, .ref 6001, .int (zi 7)]) (st := [.ref 2]) rfl ?_
                refine am_xn 1 (c1 := (48, [.ref 1, .ref 6001, .int (zi 7)], [.ref 6001, .int (zi (iv M 1 2)), .ref 2], M)) rfl ?_
                refine am_xc t_Str_length (.invokevirtual 121) 121 (av := [.ref 6001]) (rest := [.int (zi (iv M 1 2)), .ref 2]) (rv := some (.int (zi 7))) (M' := M) rfl rfl rfl rfl (Nat.le_of_ble_eq_true rfl) (fun _ => rfl) (sp_strlen_1 M) ?_
                refine am_xn 0 (c1 := (51, [.ref 1, .ref 6001, .int (zi 7)], [.int (zi 7), .int (zi (iv M 1 2)), .ref 2], M)) rfl ?_
                refine am_xiadd 1 (iv M 1 2) 7 (pc := 52) (ls := [.ref 1, .ref 6001, .int (zi 7)]) (st := [.ref 2]) rfl ?_
                obtain ⟨g, hv⟩ := hv
                refine am_xc t_Pag_byteAt (.invokevirtual 102) 102 (av := [.ref 2, .int (zi ((iv M 1 2) + 7))]) (rest := []) (rv := some (.int (zi (tb M ((iv M 1 2) + 7))))) (M' := M) rfl rfl rfl rfl (Nat.le_of_ble_eq_true rfl) (fun _ => rfl) (sp_p2_byteAt M ((iv M 1 2) + 7) g) ?_
                refine am_xn 0 (c1 := (55, [.ref 1, .ref 6001, .int (zi 7)], [.int (zi (tb M ((iv M 1 2) + 7)))], M)) rfl ?_
                refine am_xn 2 (c1 := (59, [.ref 1, .ref 6001, .int (zi 7)], [.int (zi 122), .int (zi 97), .int (zi (tb M ((iv M 1 2) + 7)))], M)) rfl ?_
                obtain ⟨g, hv⟩ := hv
                by_cases c2 : 97 ≤ (tb M ((iv M 1 2) + 7)) ∧ (tb M ((iv M 1 2) + 7)) ≤ 122
                · replace hv := hv.1 c2
                  refine am_xc t_Rea_isBetween (.invokestatic 112) 112 (av := [.int (zi (tb M ((iv M 1 2) + 7))), .int (zi 97), .int (zi 122)]) (rest := []) (rv := some (.int (zi 1))) (M' := M) rfl rfl rfl rfl (Nat.le_of_ble_eq_true rfl) (fun h => nomatch h) (by have q := sp_isBetween M (tb M ((iv M 1 2) + 7)) 97 122 g; rwa [if_pos c2] at q) ?_
                  refine am_xn 0 (c1 := (62, [.ref 1, .ref 6001, .int (zi 7)], [.int (zi 1)], M)) rfl ?_
                  refine am_xn 2 (c1 := (66, [.ref 1, .ref 6001, .int (zi 7)], [.int (zi 0)], M)) rfl ?_
                  exact am_xr (some (.int (zi 0))) ⟨rfl, rfl, .boolean, rfl, rfl⟩ hv
                · replace hv := hv.2 c2
                  refine am_xc t_Rea_isBetween (.invokestatic 112) 112 (av := [.int (zi (tb M ((iv M 1 2) + 7))), .int (zi 97), .int (zi 122)]) (rest := []) (rv := some (.int (zi 0))) (M' := M) rfl rfl rfl rfl (Nat.le_of_ble_eq_true rfl) (fun h => nomatch h) (by have q := sp_isBetween M (tb M ((iv M 1 2) + 7)) 97 122 g; rwa [if_neg c2] at q) ?_
                  refine am_xn 0 (c1 := (62, [.ref 1, .ref 6001, .int (zi 7)], [.int (zi 0)], M)) rfl ?_
                  refine am_xrd 4 1 2 (pc := 72) (ls := [.ref 1, .ref 6001, .int (zi 7)]) (st := [.ref 1]) rfl ?_
                  refine am_xn 1 (c1 := (73, [.ref 1, .ref 6001, .int (zi 7)], [.ref 6001, .int (zi (iv M 1 2)), .ref 1], M)) rfl ?_
                  refine am_xc t_Str_length (.invokevirtual 121) 121 (av := [.ref 6001]) (rest := [.int (zi (iv M 1 2)), .ref 1]) (rv := some (.int (zi 7))) (M' := M) rfl rfl rfl rfl (Nat.le_of_ble_eq_true rfl) (fun _ => rfl) (sp_strlen_1 M) ?_
                  refine am_xn 0 (c1 := (76, [.ref 1, .ref 6001, .int (zi 7)], [.int (zi 7), .int (zi (iv M 1 2)), .ref 1], M)) rfl ?_
                  refine am_xiadd 1 (iv M 1 2) 7 (pc := 77) (ls := [.ref 1, .ref 6001, .int (zi 7)]) (st := [.ref 1]) rfl ?_
                  refine am_xn 1 (c1 := (80, [.ref 1, .ref 6001, .int (zi 7)], [], zup M 1 2 ((iv M 1 2) + 7))) rfl ?_
                  obtain ⟨M1, eM1⟩ : ∃ m, m = zup M 1 2 ((iv M 1 2) + 7) := ⟨_, rfl⟩
                  replace hv := hv M1 eM1
                  rw [← eM1]
                  refine am_xn 1 (c1 := (81, [.ref 1, .ref 6001, .int (zi 7)], [.int (zi 1)], M1)) rfl ?_
                  exact am_xr (some (.int (zi 1))) ⟨rfl, rfl, .boolean, rfl, rfl⟩ hv
              · replace hv := hv.2 h
                refine am_xn 1 (c1 := (32, [.ref 1, .ref 6001, .int (zi 6)], [.int (zi 0)], M)) rfl ?_
                exact am_xr (some (.int (zi 0))) ⟨rfl, rfl, .boolean, rfl, rfl⟩ hv
            · replace hv := hv.2 h
              refine am_xn 1 (c1 := (32, [.ref 1, .ref 6001, .int (zi 5)], [.int (zi 0)], M)) rfl ?_
              exact am_xr (some (.int (zi 0))) ⟨rfl, rfl, .boolean, rfl, rfl⟩ hv
          · replace hv := hv.2 h
            refine am_xn 1 (c1 := (32, [.ref 1, .ref 6001, .int (zi 4)], [.int (zi 0)], M)) rfl ?_
            exact am_xr (some (.int (zi 0))) ⟨rfl, rfl, .boolean, rfl, rfl⟩ hv
        · replace hv := hv.2 h
          refine am_xn 1 (c1 := (32, [.ref 1, .ref 6001, .int (zi 3)], [.int (zi 0)], M)) rfl ?_
          exact am_xr (some (.int (zi 0))) ⟨rfl, rfl, .boolean, rfl, rfl⟩ hv
      · replace hv := hv.2 h
        refine am_xn 1 (c1 := (32, [.ref 1, .ref 6001, .int (zi 2)], [.int (zi 0)], M)) rfl ?_
        exact am_xr (some (.int (zi 0))) ⟨rfl, rfl, .boolean, rfl, rfl⟩ hv
    · replace hv := hv.2 h
      refine am_xn 1 (c1 := (32, [.ref 1, .ref 6001, .int (zi 1)], [.int (zi 0)], M)) rfl ?_
      exact am_xr (some (.int (zi 0))) ⟨rfl, rfl, .boolean, rfl, rfl⟩ hv
  · replace hv := hv.2 h
    refine am_xn 1 (c1 := (32, [.ref 1, .ref 6001, .int (zi 0)], [.int (zi 0)], M)) rfl ?_
    exact am_xr (some (.int (zi 0))) ⟨rfl, rfl, .boolean, rfl, rfl⟩ hv
set_option maxRecDepth 100000 in
theorem vc_passes2  (M : am_M) (Q : Option Value → am_M → Prop) (hv : (zr ((iv M 1 2) + 0)) ∧ (((tb M ((iv M 1 2) + 0)) = 114 → (zr ((iv M 1 2) + 1)) ∧ (((tb M ((iv M 1 2) + 1)) = 101 → (zr ((iv M 1 2) + 2)) ∧ (((tb M ((iv M 1 2) + 2)) = 112 → (zr ((iv M 1 2) + 3)) ∧ (((tb M ((iv M 1 2) + 3)) = 101 → (zr ((iv M 1 2) + 4)) ∧ (((tb M ((iv M 1 2) + 4)) = 97 → (zr ((iv M 1 2) + 5)) ∧ (((tb M ((iv M 1 2) + 5)) = 108 → (zr ((iv M 1 2) + 6)) ∧ ((zr (tb M ((iv M 1 2) + 6)) ∧ zr (97 : Int) ∧ zr (122 : Int)) ∧ ((97 ≤ (tb M ((iv M 1 2) + 6)) ∧ (tb M ((iv M 1 2) + 6)) ≤ 122 → Q (some (.int (zi 0))) M) ∧ (¬ (97 ≤ (tb M ((iv M 1 2) + 6)) ∧ (tb M ((iv M 1 2) + 6)) ≤ 122) → ∀ M1, M1 = zup M 1 2 ((iv M 1 2) + 6) → Q (some (.int (zi 1))) M1)))) ∧ (¬ (tb M ((iv M 1 2) + 5)) = 108 → Q (some (.int (zi 0))) M))) ∧ (¬ (tb M ((iv M 1 2) + 4)) = 97 → Q (some (.int (zi 0))) M))) ∧ (¬ (tb M ((iv M 1 2) + 3)) = 101 → Q (some (.int (zi 0))) M))) ∧ (¬ (tb M ((iv M 1 2) + 2)) = 112 → Q (some (.int (zi 0))) M))) ∧ (¬ (tb M ((iv M 1 2) + 1)) = 101 → Q (some (.int (zi 0))) M))) ∧ (¬ (tb M ((iv M 1 2) + 0)) = 114 → Q (some (.int (zi 0))) M))) : am_x t_Rea_passes (0, am_ent (am_mL t_Rea_passes) [.ref 1, .ref 6002], [], M) Q := by
  refine am_xn 0 (c1 := (0, [.ref 1, .ref 6002, .null], [], M)) rfl ?_
  refine am_xn 4 (c1 := (4, [.ref 1, .ref 6002, .int (zi 0)], [.ref 6002, .int (zi 0)], M)) rfl ?_
  refine am_xc t_Str_length (.invokevirtual 121) 121 (av := [.ref 6002]) (rest := [.int (zi 0)]) (rv := some (.int (zi 6))) (M' := M) rfl rfl rfl rfl (Nat.le_of_ble_eq_true rfl) (fun _ => rfl) (sp_strlen_2 M) ?_
  refine am_xn 0 (c1 := (7, [.ref 1, .ref 6002, .int (zi 0)], [.int (zi 6), .int (zi 0)], M)) rfl ?_
  refine am_xrd 5 1 2 (pc := 18) (ls := [.ref 1, .ref 6002, .int (zi 0)]) (st := [.ref 2]) rfl ?_
  refine am_xiadd 2 (iv M 1 2) 0 (pc := 20) (ls := [.ref 1, .ref 6002, .int (zi 0)]) (st := [.ref 2]) rfl ?_
  obtain ⟨g, hv⟩ := hv
  refine am_xc t_Pag_byteAt (.invokevirtual 102) 102 (av := [.ref 2, .int (zi ((iv M 1 2) + 0))]) (rest := []) (rv := some (.int (zi (tb M ((iv M 1 2) + 0))))) (M' := M) rfl rfl rfl rfl (Nat.le_of_ble_eq_true rfl) (fun _ => rfl) (sp_p2_byteAt M ((iv M 1 2) + 0) g) ?_
  refine am_xn 0 (c1 := (23, [.ref 1, .ref 6002, .int (zi 0)], [.int (zi (tb M ((iv M 1 2) + 0)))], M)) rfl ?_
  refine am_xn 2 (c1 := (25, [.ref 1, .ref 6002, .int (zi 0)], [.int (zi 0), .ref 6002, .int (zi (tb M ((iv M 1 2) + 0)))], M)) rfl ?_
  refine am_xc t_Str_charAt (.invokevirtual 126) 126 (av := [.ref 6002, .int (zi 0)]) (rest := [.int (zi (tb M ((iv M 1 2) + 0)))]) (rv := some (.int (zi 114))) (M' := M) rfl rfl rfl rfl (Nat.le_of_ble_eq_true rfl) (fun _ => rfl) (sp_strat_2_0 M) ?_
  refine am_xn 0 (c1 := (28, [.ref 1, .ref 6002, .int (zi 0)], [.int (zi 114), .int (zi (tb M ((iv M 1 2) + 0)))], M)) rfl ?_
  refine am_xn 1 (c1 := (if zi (tb M ((iv M 1 2) + 0)) = zi 114 then 33 else 31, [.ref 1, .ref 6002, .int (zi 0)], [], M)) rfl (am_xeq (tb_r M ((iv M 1 2) + 0)) (by decide) (fun h => ?_) (fun h => ?_))
  · replace hv := hv.1 h
    refine am_xn 4 (c1 := (4, [.ref 1, .ref 6002, .int (zi 1)], [.ref 6002, .int (zi 1)], M)) rfl ?_
    refine am_xc t_Str_length (.invokevirtual 121) 121 (av := [.ref 6002]) (rest := [.int (zi 1)]) (rv := some (.int (zi 6))) (M' := M) rfl rfl rfl rfl (Nat.le_of_ble_eq_true rfl) (fun _ => rfl) (sp_strlen_2 M) ?_
    refine am_xn 0 (c1 := (7, [.ref 1, .ref 6002, .int (zi 1)], [.int (zi 6), .int (zi 1)], M)) rfl ?_
    refine am_xrd 5 1 2 (pc := 18) (ls := [.ref 1, .ref 6002, .int (zi 1)]) (st := [.ref 2]) rfl ?_
    refine am_xiadd 2 (iv M 1 2) 1 (pc := 20) (ls := [.ref 1, .ref 6002, .int (zi 1)]) (st := [.ref 2]) rfl ?_
    obtain ⟨g, hv⟩ := hv
    refine am_xc t_Pag_byteAt (.invokevirtual 102) 102 (av := [.ref 2, .int (zi ((iv M 1 2) + 1))]) (rest := []) (rv := some (.int (zi (tb M ((iv M 1 2) + 1))))) (M' := M) rfl rfl rfl rfl (Nat.le_of_ble_eq_true rfl) (fun _ => rfl) (sp_p2_byteAt M ((iv M 1 2) + 1) g) ?_
    refine am_xn 0 (c1 := (23, [.ref 1, .ref 6002, .int (zi 1)], [.int (zi (tb M ((iv M 1 2) + 1)))], M)) rfl ?_
    refine am_xn 2 (c1 := (25, [.ref 1, .ref 6002, .int (zi 1)], [.int (zi 1), .ref 6002, .int (zi (tb M ((iv M 1 2) + 1)))], M)) rfl ?_
    refine am_xc t_Str_charAt (.invokevirtual 126) 126 (av := [.ref 6002, .int (zi 1)]) (rest := [.int (zi (tb M ((iv M 1 2) + 1)))]) (rv := some (.int (zi 101))) (M' := M) rfl rfl rfl rfl (Nat.le_of_ble_eq_true rfl) (fun _ => rfl) (sp_strat_2_1 M) ?_
    refine am_xn 0 (c1 := (28, [.ref 1, .ref 6002, .int (zi 1)], [.int (zi 101), .int (zi (tb M ((iv M 1 2) + 1)))], M)) rfl ?_
    refine am_xn 1 (c1 := (if zi (tb M ((iv M 1 2) + 1)) = zi 101 then 33 else 31, [.ref 1, .ref 6002, .int (zi 1)], [], M)) rfl (am_xeq (tb_r M ((iv M 1 2) + 1)) (by decide) (fun h => ?_) (fun h => ?_))
    · replace hv := hv.1 h
      refine am_xn 4 (c1 := (4, [.ref 1, .ref 6002, .int (zi 2)], [.ref 6002, .int (zi 2)], M)) rfl ?_
      refine am_xc t_Str_length (.invokevirtual 121) 121 (av := [.ref 6002]) (rest := [.int (zi 2)]) (rv := some (.int (zi 6))) (M' := M) rfl rfl rfl rfl (Nat.le_of_ble_eq_true rfl) (fun _ => rfl) (sp_strlen_2 M) ?_
      refine am_xn 0 (c1 := (7, [.ref 1, .ref 6002, .int (zi 2)], [.int (zi 6), .int (zi 2)], M)) rfl ?_
      refine am_xrd 5 1 2 (pc := 18) (ls := [.ref 1, .ref 6002, .int (zi 2)]) (st := [.ref 2]) rfl ?_
      refine am_xiadd 2 (iv M 1 2) 2 (pc := 20) (ls := [.ref 1, .ref 6002, .int (zi 2)]) (st := [.ref 2]) rfl ?_
      obtain ⟨g, hv⟩ := hv
      refine am_xc t_Pag_byteAt (.invokevirtual 102) 102 (av := [.ref 2, .int (zi ((iv M 1 2) + 2))]) (rest := []) (rv := some (.int (zi (tb M ((iv M 1 2) + 2))))) (M' := M) rfl rfl rfl rfl (Nat.le_of_ble_eq_true rfl) (fun _ => rfl) (sp_p2_byteAt M ((iv M 1 2) + 2) g) ?_
      refine am_xn 0 (c1 := (23, [.ref 1, .ref 6002, .int (zi 2)], [.int (zi (tb M ((iv M 1 2) + 2)))], M)) rfl ?_
      refine am_xn 2 (c1 := (25, [.ref 1, .ref 6002, .int (zi 2)], [.int (zi 2), .ref 6002, .int (zi (tb M ((iv M 1 2) + 2)))], M)) rfl ?_
      refine am_xc t_Str_charAt (.invokevirtual 126) 126 (av := [.ref 6002, .int (zi 2)]) (rest := [.int (zi (tb M ((iv M 1 2) + 2)))]) (rv := some (.int (zi 112))) (M' := M) rfl rfl rfl rfl (Nat.le_of_ble_eq_true rfl) (fun _ => rfl) (sp_strat_2_2 M) ?_
      refine am_xn 0 (c1 := (28, [.ref 1, .ref 6002, .int (zi 2)], [.int (zi 112), .int (zi (tb M ((iv M 1 2) + 2)))], M)) rfl ?_
      refine am_xn 1 (c1 := (if zi (tb M ((iv M 1 2) + 2)) = zi 112 then 33 else 31, [.ref 1, .ref 6002, .int (zi 2)], [], M)) rfl (am_xeq (tb_r M ((iv M 1 2) + 2)) (by decide) (fun h => ?_) (fun h => ?_))
      · replace hv := hv.1 h
        refine am_xn 4 (c1 := (4, [.ref 1, .ref 6002, .int (zi 3)], [.ref 6002, .int (zi 3)], M)) rfl ?_
        refine am_xc t_Str_length (.invokevirtual 121) 121 (av := [.ref 6002]) (rest := [.int (zi 3)]) (rv := some (.int (zi 6))) (M' := M) rfl rfl rfl rfl (Nat.le_of_ble_eq_true rfl) (fun _ => rfl) (sp_strlen_2 M) ?_
        refine am_xn 0 (c1 := (7, [.ref 1, .ref 6002, .int (zi 3)], [.int (zi 6), .int (zi 3)], M)) rfl ?_
        refine am_xrd 5 1 2 (pc := 18) (ls := [.ref 1, .ref 6002, .int (zi 3)]) (st := [.ref 2]) rfl ?_
        refine am_xiadd 2 (iv M 1 2) 3 (pc := 20) (ls := [.ref 1, .ref 6002, .int (zi 3)]) (st := [.ref 2]) rfl ?_
        obtain ⟨g, hv⟩ := hv
        refine am_xc t_Pag_byteAt (.invokevirtual 102) 102 (av := [.ref 2, .int (zi ((iv M 1 2) + 3))]) (rest := []) (rv := some (.int (zi (tb M ((iv M 1 2) + 3))))) (M' := M) rfl rfl rfl rfl (Nat.le_of_ble_eq_true rfl) (fun _ => rfl) (sp_p2_byteAt M ((iv M 1 2) + 3) g) ?_
        refine am_xn 0 (c1 := (23, [.ref 1, .ref 6002, .int (zi 3)], [.int (zi (tb M ((iv M 1 2) + 3)))], M)) rfl ?_
        refine am_xn 2 (c1 := (25, [.ref 1, .ref 6002, .int (zi 3)], [.int (zi 3), .ref 6002, .int (zi (tb M ((iv M 1 2) + 3)))], M)) rfl ?_
        refine am_xc t_Str_charAt (.invokevirtual 126) 126 (av := [.ref 6002, .int (zi 3)]) (rest := [.int (zi (tb M ((iv M 1 2) + 3)))]) (rv := some (.int (zi 101))) (M' := M) rfl rfl rfl rfl (Nat.le_of_ble_eq_true rfl) (fun _ => rfl) (sp_strat_2_3 M) ?_
        refine am_xn 0 (c1 := (28, [.ref 1, .ref 6002, .int (zi 3)], [.int (zi 101), .int (zi (tb M ((iv M 1 2) + 3)))], M)) rfl ?_
        refine am_xn 1 (c1 := (if zi (tb M ((iv M 1 2) + 3)) = zi 101 then 33 else 31, [.ref 1, .ref 6002, .int (zi 3)], [], M)) rfl (am_xeq (tb_r M ((iv M 1 2) + 3)) (by decide) (fun h => ?_) (fun h => ?_))
        · replace hv := hv.1 h
          refine am_xn 4 (c1 := (4, [.ref 1, .ref 6002, .int (zi 4)], [.ref 6002, .int (zi 4)], M)) rfl ?_
          refine am_xc t_Str_length (.invokevirtual 121) 121 (av := [.ref 6002]) (rest := [.int (zi 4)]) (rv := some (.int (zi 6))) (M' := M) rfl rfl rfl rfl (Nat.le_of_ble_eq_true rfl) (fun _ => rfl) (sp_strlen_2 M) ?_
          refine am_xn 0 (c1 := (7, [.ref 1, .ref 6002, .int (zi 4)], [.int (zi 6), .int (zi 4)], M)) rfl ?_
          refine am_xrd 5 1 2 (pc := 18) (ls := [.ref 1, .ref 6002, .int (zi 4)]) (st := [.ref 2]) rfl ?_
          refine am_xiadd 2 (iv M 1 2) 4 (pc := 20) (ls := [.ref 1, .ref 6002, .int (zi 4)]) (st := [.ref 2]) rfl ?_
          obtain ⟨g, hv⟩ := hv
          refine am_xc t_Pag_byteAt (.invokevirtual 102) 102 (av := [.ref 2, .int (zi ((iv M 1 2) + 4))]) (rest := []) (rv := some (.int (zi (tb M ((iv M 1 2) + 4))))) (M' := M) rfl rfl rfl rfl (Nat.le_of_ble_eq_true rfl) (fun _ => rfl) (sp_p2_byteAt M ((iv M 1 2) + 4) g) ?_
          refine am_xn 0 (c1 := (23, [.ref 1, .ref 6002, .int (zi 4)], [.int (zi (tb M ((iv M 1 2) + 4)))], M)) rfl ?_
          refine am_xn 2 (c1 := (25, [.ref 1, .ref 6002, .int (zi 4)], [.int (zi 4), .ref 6002, .int (zi (tb M ((iv M 1 2) + 4)))], M)) rfl ?_
          refine am_xc t_Str_charAt (.invokevirtual 126) 126 (av := [.ref 6002, .int (zi 4)]) (rest := [.int (zi (tb M ((iv M 1 2) + 4)))]) (rv := some (.int (zi 97))) (M' := M) rfl rfl rfl rfl (Nat.le_of_ble_eq_true rfl) (fun _ => rfl) (sp_strat_2_4 M) ?_
          refine am_xn 0 (c1 := (28, [.ref 1, .ref 6002, .int (zi 4)], [.int (zi 97), .int (zi (tb M ((iv M 1 2) + 4)))], M)) rfl ?_
          refine am_xn 1 (c1 := (if zi (tb M ((iv M 1 2) + 4)) = zi 97 then 33 else 31, [.ref 1, .ref 6002, .int (zi 4)], [], M)) rfl (am_xeq (tb_r M ((iv M 1 2) + 4)) (by decide) (fun h => ?_) (fun h => ?_))
          · replace hv := hv.1 h
            refine am_xn 4 (c1 := (4, [.ref 1, .ref 6002, .int (zi 5)], [.ref 6002, .int (zi 5)], M)) rfl ?_
            refine am_xc t_Str_length (.invokevirtual 121) 121 (av := [.ref 6002]) (rest := [.int (zi 5)]) (rv := some (.int (zi 6))) (M' := M) rfl rfl rfl rfl (Nat.le_of_ble_eq_true rfl) (fun _ => rfl) (sp_strlen_2 M) ?_
            refine am_xn 0 (c1 := (7, [.ref 1, .ref 6002, .int (zi 5)], [.int (zi 6), .int (zi 5)], M)) rfl ?_
            refine am_xrd 5 1 2 (pc := 18) (ls := [.ref 1, .ref 6002, .int (zi 5)]) (st := [.ref 2]) rfl ?_
            refine am_xiadd 2 (iv M 1 2) 5 (pc := 20) (ls := [.ref 1, .ref 6002, .int (zi 5)]) (st := [.ref 2]) rfl ?_
            obtain ⟨g, hv⟩ := hv
            refine am_xc t_Pag_byteAt (.invokevirtual 102) 102 (av := [.ref 2, .int (zi ((iv M 1 2) + 5))]) (rest := []) (rv := some (.int (zi (tb M ((iv M 1 2) + 5))))) (M' := M) rfl rfl rfl rfl (Nat.le_of_ble_eq_true rfl) (fun _ => rfl) (sp_p2_byteAt M ((iv M 1 2) + 5) g) ?_
            refine am_xn 0 (c1 := (23, [.ref 1, .ref 6002, .int (zi 5)], [.int (zi (tb M ((iv M 1 2) + 5)))], M)) rfl ?_
            refine am_xn 2 (c1 := (25, [.ref 1, .ref 6002, .int (zi 5)], [.int (zi 5), .ref 6002, .int (zi (tb M ((iv M 1 2) + 5)))], M)) rfl ?_
            refine am_xc t_Str_charAt (.invokevirtual 126) 126 (av := [.ref 6002, .int (zi 5)]) (rest := [.int (zi (tb M ((iv M 1 2) + 5)))]) (rv := some (.int (zi 108))) (M' := M) rfl rfl rfl rfl (Nat.le_of_ble_eq_true rfl) (fun _ => rfl) (sp_strat_2_5 M) ?_
            refine am_xn 0 (c1 := (28, [.ref 1, .ref 6002, .int (zi 5)], [.int (zi 108), .int (zi (tb M ((iv M 1 2) + 5)))], M)) rfl ?_
            refine am_xn 1 (c1 := (if zi (tb M ((iv M 1 2) + 5)) = zi 108 then 33 else 31, [.ref 1, .ref 6002, .int (zi 5)], [], M)) rfl (am_xeq (tb_r M ((iv M 1 2) + 5)) (by decide) (fun h => ?_) (fun h => ?_))
            · replace hv := hv.1 h
              refine am_xn 4 (c1 := (4, [.ref 1, .ref 6002, .int (zi 6)], [.ref 6002, .int (zi 6)], M)) rfl ?_
              refine am_xc t_Str_length (.invokevirtual 121) 121 (av := [.ref 6002]) (rest := [.int (zi 6)]) (rv := some (.int (zi 6))) (M' := M) rfl rfl rfl rfl (Nat.le_of_ble_eq_true rfl) (fun _ => rfl) (sp_strlen_2 M) ?_
              refine am_xn 0 (c1 := (7, [.ref 1, .ref 6002, .int (zi 6)], [.int (zi 6), .int (zi 6)], M)) rfl ?_
              refine am_xrd 5 1 2 (pc := 47) (ls := [.ref 1, .ref 6002, .int (zi 6)]) (st := [.ref 2]) rfl ?_
              refine am_xn 1 (c1 := (48, [.ref 1, .ref 6002, .int (zi 6)], [.ref 6002, .int (zi (iv M 1 2)), .ref 2], M)) rfl ?_
              refine am_xc t_Str_length (.invokevirtual 121) 121 (av := [.ref 6002]) (rest := [.int (zi (iv M 1 2)), .ref 2]) (rv := some (.int (zi 6))) (M' := M) rfl rfl rfl rfl (Nat.le_of_ble_eq_true rfl) (fun _ => rfl) (sp_strlen_2 M) ?_
              refine am_xn 0 (c1 := (51, [.ref 1, .ref 6002, .int (zi 6)], [.int (zi 6), .int (zi (iv M 1 2)), .ref 2], M)) rfl ?_
              refine am_xiadd 1 (iv M 1 2) 6 (pc := 52) (ls := [.ref 1, .ref 6002, .int (zi 6)]) (st := [.ref 2]) rfl ?_
              obtain ⟨g, hv⟩ := hv
              refine am_xc t_Pag_byteAt (.invokevirtual 102) 102 (av := [.ref 2, .int (zi ((iv M 1 2) + 6))]) (rest := []) (rv := some (.int (zi (tb M ((iv M 1 2) + 6))))) (M' := M) rfl rfl rfl rfl (Nat.le_of_ble_eq_true rfl) (fun _ => rfl) (sp_p2_byteAt M ((iv M 1 2) + 6) g) ?_
              refine am_xn 0 (c1 := (55, [.ref 1, .ref 6002, .int (zi 6)], [.int (zi (tb M ((iv M 1 2) + 6)))], M)) rfl ?_
              refine am_xn 2 (c1 := (59, [.ref 1, .ref 6002, .int (zi 6)], [.int (zi 122), .int (zi 97), .int (zi (tb M ((iv M 1 2) + 6)))], M)) rfl ?_
              obtain ⟨g, hv⟩ := hv
              by_cases c2 : 97 ≤ (tb M ((iv M 1 2) + 6)) ∧ (tb M ((iv M 1 2) + 6)) ≤ 122
              · replace hv := hv.1 c2
                refine am_xc t_Rea_isBetween (.invokestatic 112) 112 (av := [.int (zi (tb M ((iv M 1 2) + 6))), .int (zi 97), .int (zi 122)]) (rest := []) (rv := some (.int (zi 1))) (M' := M) rfl rfl rfl rfl (Nat.le_of_ble_eq_true rfl) (fun h => nomatch h) (by have q := sp_isBetween M (tb M ((iv M 1 2) + 6)) 97 122 g; rwa [if_pos c2] at q) ?_
                refine am_xn 0 (c1 := (62, [.ref 1, .ref 6002, .int (zi 6)], [.int (zi 1)], M)) rfl ?_
                refine am_xn 2 (c1 := (66, [.ref 1, .ref 6002, .int (zi 6)], [.int (zi 0)], M)) rfl ?_
                exact am_xr (some (.int (zi 0))) ⟨rfl, rfl, .boolean, rfl, rfl⟩ hv
              · replace hv := hv.2 c2
                refine am_xc t_Rea_isBetween (.invokestatic 112) 112 (av := [.int (zi (tb M ((iv M 1 2) + 6))), .int (zi 97), .int (zi 122)]) (rest := []) (rv := some (.int (zi 0))) (M' := M) rfl rfl rfl rfl (Nat.le_of_ble_eq_true rfl) (fun h => nomatch h) (by have q := sp_isBetween M (tb M ((iv M 1 2) + 6)) 97 122 g; rwa [if_neg c2] at q) ?_
                refine am_xn 0 (c1 := (62, [.ref 1, .ref 6002, .int (zi 6)], [.int (zi 0)], M)) rfl ?_
                refine am_xrd 4 1 2 (pc := 72) (ls := [.ref 1, .ref 6002, .int (zi 6)]) (st := [.ref 1]) rfl ?_
                refine am_xn 1 (c1 := (73, [.ref 1, .ref 6002, .int (zi 6)], [.ref 6002, .int (zi (iv M 1 2)), .ref 1], M)) rfl ?_
                refine am_xc t_Str_length (.invokevirtual 121) 121 (av := [.ref 6002]) (rest := [.int (zi (iv M 1 2)), .ref 1]) (rv := some (.int (zi 6))) (M' := M) rfl rfl rfl rfl (Nat.le_of_ble_eq_true rfl) (fun _ => rfl) (sp_strlen_2 M) ?_
                refine am_xn 0 (c1 := (76, [.ref 1, .ref 6002, .int (zi 6)], [.int (zi 6), .int (zi (iv M 1 2)), .ref 1], M)) rfl ?_
                refine am_xiadd 1 (iv M 1 2) 6 (pc := 77) (ls := [.ref 1, .ref 6002, .int (zi 6)]) (st := [.ref 1]) rfl ?_
                refine am_xn 1 (c1 := (80, [.ref 1, .ref 6002, .int (zi 6)], [], zup M 1 2 ((iv M 1 2) + 6))) rfl ?_
                obtain ⟨M1, eM1⟩ : ∃ m, m = zup M 1 2 ((iv M 1 2) + 6) := ⟨_, rfl⟩
                replace hv := hv M1 eM1
                rw [← eM1]
                refine am_xn 1 (c1 := (81, [.ref 1, .ref 6002, .int (zi 6)], [.int (zi 1)], M1)) rfl ?_
                exact am_xr (some (.int (zi 1))) ⟨rfl, rfl, .boolean, rfl, rfl⟩ hv
            · replace hv := hv.2 h
              refine am_xn 1 (c1 := (32, [.ref 1, .ref 6002, .int (zi 5)], [.int (zi 0)], M)) rfl ?_
              exact am_xr (some (.int (zi 0))) ⟨rfl, rfl, .boolean, rfl, rfl⟩ hv
          · replace hv := hv.2 h
            refine am_xn 1 (c1 := (32, [.ref 1, .ref 6002, .int (zi 4)], [.int (zi 0)], M)) rfl ?_
            exact am_xr (some (.int (zi 0))) ⟨rfl, rfl, .boolean, rfl, rfl⟩ hv
        · replace hv := hv.2 h
          refine am_xn 1 (c1 := (32, [.ref 1, .ref 6002, .int (zi 3)], [.int (zi 0)], M)) rfl ?_
          exact am_xr (some (.int (zi 0))) ⟨rfl, rfl, .boolean, rfl, rfl⟩ hv
      · replace hv := hv.2 h
        refine am_xn 1 (c1 := (32, [.ref 1, .ref 6002, .int (zi 2)], [.int (zi 0)], M)) rfl ?_
        exact am_xr (some (.int (zi 0))) ⟨rfl, rfl, .boolean, rfl, rfl⟩ hv
    · replace hv := hv.2 h
      refine am_xn 1 (c1 := (32, [.ref 1, .ref 6002, .int (zi 1)], [.int (zi 0)], M)) rfl ?_
      exact am_xr (some (.int (zi 0))) ⟨rfl, rfl, .boolean, rfl, rfl⟩ hv
  · replace hv := hv.2 h
    refine am_xn 1 (c1 := (32, [.ref 1, .ref 6002, .int (zi 0)], [.int (zi 0)], M)) rfl ?_
    exact am_xr (some (.int (zi 0))) ⟨rfl, rfl, .boolean, rfl, rfl⟩ hv
set_option maxRecDepth 100000 in
theorem vc_passes3  (M : am_M) (Q : Option Value → am_M → Prop) (hv : (zr ((iv M 1 2) + 0)) ∧ (((tb M ((iv M 1 2) + 0)) = 114 → (zr ((iv M 1 2) + 1)) ∧ (((tb M ((iv M 1 2) + 1)) = 101 → (zr ((iv M 1 2) + 2)) ∧ (((tb M ((iv M 1 2) + 2)) = 110 → (zr ((iv M 1 2) + 3)) ∧ (((tb M ((iv M 1 2) + 3)) = 117 → (zr ((iv M 1 2) + 4)) ∧ (((tb M ((iv M 1 2) + 4)) = 109 → (zr ((iv M 1 2) + 5)) ∧ (((tb M ((iv M 1 2) + 5)) = 98 → (zr ((iv M 1 2) + 6)) ∧ (((tb M ((iv M 1 2) + 6)) = 101 → (zr ((iv M 1 2) + 7)) ∧ (((tb M ((iv M 1 2) + 7)) = 114 → (zr ((iv M 1 2) + 8)) ∧ ((zr (tb M ((iv M 1 2) + 8)) ∧ zr (97 : Int) ∧ zr (122 : Int)) ∧ ((97 ≤ (tb M ((iv M 1 2) + 8)) ∧ (tb M ((iv M 1 2) + 8)) ≤ 122 → Q (some (.int (zi 0))) M) ∧ (¬ (97 ≤ (tb M ((iv M 1 2) + 8)) ∧ (tb M ((iv M 1 2) + 8)) ≤ 122) → ∀ M1, M1 = zup M 1 2 ((iv M 1 2) + 8) → Q (some (.int (zi 1))) M1)))) ∧ (¬ (tb M ((iv M 1 2) + 7)) = 114 → Q (some (.int (zi 0))) M))) ∧ (¬ (tb M ((iv M 1 2) + 6)) = 101 → Q (some (.int (zi 0))) M))) ∧ (¬ (tb M ((iv M 1 2) + 5)) = 98 → Q (some (.int (zi 0))) M))) ∧ (¬ (tb M ((iv M 1 2) + 4)) = 109 → Q (some (.int (zi 0))) M))) ∧ (¬ (tb M ((iv M 1 2) + 3)) = 117 → Q (some (.int (zi 0))) M))) ∧ (¬ (tb M ((iv M 1 2) + 2)) = 110 → Q (some (.int (zi 0))) M))) ∧ (¬ (tb M ((iv M 1 2) + 1)) = 101 → Q (some (.int (zi 0))) M))) ∧ (¬ (tb M ((iv M 1 2) + 0)) = 114 → Q (some (.int (zi 0))) M))) : am_x t_Rea_passes (0, am_ent (am_mL t_Rea_passes) [.ref 1, .ref 6003], [], M) Q := by
  refine am_xn 0 (c1 := (0, [.ref 1, .ref 6003, .null], [], M)) rfl ?_
  refine am_xn 4 (c1 := (4, [.ref 1, .ref 6003, .int (zi 0)], [.ref 6003, .int (zi 0)], M)) rfl ?_
  refine am_xc t_Str_length (.invokevirtual 121) 121 (av := [.ref 6003]) (rest := [.int (zi 0)]) (rv := some (.int (zi 8))) (M' := M) rfl rfl rfl rfl (Nat.le_of_ble_eq_true rfl) (fun _ => rfl) (sp_strlen_3 M) ?_
  refine am_xn 0 (c1 := (7, [.ref 1, .ref 6003, .int (zi 0)], [.int (zi 8), .int (zi 0)], M)) rfl ?_
  refine am_xrd 5 1 2 (pc := 18) (ls := [.ref 1, .ref 6003, .int (zi 0)]) (st := [.ref 2]) rfl ?_
  refine am_xiadd 2 (iv M 1 2) 0 (pc := 20) (ls := [.ref 1, .ref 6003, .int (zi 0)]) (st := [.ref 2]) rfl ?_
  obtain ⟨g, hv⟩ := hv
  refine am_xc t_Pag_byteAt (.invokevirtual 102) 102 (av := [.ref 2, .int (zi ((iv M 1 2) + 0))]) (rest := []) (rv := some (.int (zi (tb M ((iv M 1 2) + 0))))) (M' := M) rfl rfl rfl rfl (Nat.le_of_ble_eq_true rfl) (fun _ => rfl) (sp_p2_byteAt M ((iv M 1 2) + 0) g) ?_
  refine am_xn 0 (c1 := (23, [.ref 1, .ref 6003, .int (zi 0)], [.int (zi (tb M ((iv M 1 2) + 0)))], M)) rfl ?_
  refine am_xn 2 (c1 := (25, [.ref 1, .ref 6003, .int (zi 0)], [.int (zi 0), .ref 6003, .int (zi (tb M ((iv M 1 2) + 0)))], M)) rfl ?_
  refine am_xc t_Str_charAt (.invokevirtual 126) 126 (av := [.ref 6003, .int (zi 0)]) (rest := [.int (zi (tb M ((iv M 1 2) + 0)))]) (rv := some (.int (zi 114))) (M' := M) rfl rfl rfl rfl (Nat.le_of_ble_eq_true rfl) (fun _ => rfl) (sp_strat_3_0 M) ?_
  refine am_xn 0 (c1 := (28, [.ref 1, .ref 6003, .int (zi 0)], [.int (zi 114), .int (zi (tb M ((iv M 1 2) + 0)))], M)) rfl ?_
  refine am_xn 1 (c1 := (if zi (tb M ((iv M 1 2) + 0)) = zi 114 then 33 else 31, [.ref 1, .ref 6003, .int (zi 0)], [], M)) rfl (am_xeq (tb_r M ((iv M 1 2) + 0)) (by decide) (fun h => ?_) (fun h => ?_))
  · replace hv := hv.1 h
    refine am_xn 4 (c1 := (4, [.ref 1, .ref 6003, .int (zi 1)], [.ref 6003, .int (zi 1)], M)) rfl ?_
    refine am_xc t_Str_length (.invokevirtual 121) 121 (av := [.ref 6003]) (rest := [.int (zi 1)]) (rv := some (.int (zi 8))) (M' := M) rfl rfl rfl rfl (Nat.le_of_ble_eq_true rfl) (fun _ => rfl) (sp_strlen_3 M) ?_
    refine am_xn 0 (c1 := (7, [.ref 1, .ref 6003, .int (zi 1)], [.int (zi 8), .int (zi 1)], M)) rfl ?_
    refine am_xrd 5 1 2 (pc := 18) (ls := [.ref 1, .ref 6003, .int (zi 1)]) (st := [.ref 2]) rfl ?_
    refine am_xiadd 2 (iv M 1 2) 1 (pc := 20) (ls := [.ref 1, .ref 6003, .int (zi 1)]) (st := [.ref 2]) rfl ?_
    obtain ⟨g, hv⟩ := hv
    refine am_xc t_Pag_byteAt (.invokevirtual 102) 102 (av := [.ref 2, .int (zi ((iv M 1 2) + 1))]) (rest := []) (rv := some (.int (zi (tb M ((iv M 1 2) + 1))))) (M' := M) rfl rfl rfl rfl (Nat.le_of_ble_eq_true rfl) (fun _ => rfl) (sp_p2_byteAt M ((iv M 1 2) + 1) g) ?_
    refine am_xn 0 (c1 := (23, [.ref 1, .ref 6003, .int (zi 1)], [.int (zi (tb M ((iv M 1 2) + 1)))], M)) rfl ?_
    refine am_xn 2 (c1 := (25, [.ref 1, .ref 6003, .int (zi 1)], [.int (zi 1), .ref 6003, .int (zi (tb M ((iv M 1 2) + 1)))], M)) rfl ?_
    refine am_xc t_Str_charAt (.invokevirtual 126) 126 (av := [.ref 6003, .int (zi 1)]) (rest := [.int (zi (tb M ((iv M 1 2) + 1)))]) (rv := some (.int (zi 101))) (M' := M) rfl rfl rfl rfl (Nat.le_of_ble_eq_true rfl) (fun _ => rfl) (sp_strat_3_1 M) ?_
    refine am_xn 0 (c1 := (28, [.ref 1, .ref 6003, .int (zi 1)], [.int (zi 101), .int (zi (tb M ((iv M 1 2) + 1)))], M)) rfl ?_
    refine am_xn 1 (c1 := (if zi (tb M ((iv M 1 2) + 1)) = zi 101 then 33 else 31, [.ref 1, .ref 6003, .int (zi 1)], [], M)) rfl (am_xeq (tb_r M ((iv M 1 2) + 1)) (by decide) (fun h => ?_) (fun h => ?_))
    · replace hv := hv.1 h
      refine am_xn 4 (c1 := (4, [.ref 1, .ref 6003, .int (zi 2)], [.ref 6003, .int (zi 2)], M)) rfl ?_
      refine am_xc t_Str_length (.invokevirtual 121) 121 (av := [.ref 6003]) (rest := [.int (zi 2)]) (rv := some (.int (zi 8))) (M' := M) rfl rfl rfl rfl (Nat.le_of_ble_eq_true rfl) (fun _ => rfl) (sp_strlen_3 M) ?_
      refine am_xn 0 (c1 := (7, [.ref 1, .ref 6003, .int (zi 2)], [.int (zi 8), .int (zi 2)], M)) rfl ?_
      refine am_xrd 5 1 2 (pc := 18) (ls := [.ref 1, .ref 6003, .int (zi 2)]) (st := [.ref 2]) rfl ?_
      refine am_xiadd 2 (iv M 1 2) 2 (pc := 20) (ls := [.ref 1, .ref 6003, .int (zi 2)]) (st := [.ref 2]) rfl ?_
      obtain ⟨g, hv⟩ := hv
      refine am_xc t_Pag_byteAt (.invokevirtual 102) 102 (av := [.ref 2, .int (zi ((iv M 1 2) + 2))]) (rest := []) (rv := some (.int (zi (tb M ((iv M 1 2) + 2))))) (M' := M) rfl rfl rfl rfl (Nat.le_of_ble_eq_true rfl) (fun _ => rfl) (sp_p2_byteAt M ((iv M 1 2) + 2) g) ?_
      refine am_xn 0 (c1 := (23, [.ref 1, .ref 6003, .int (zi 2)], [.int (zi (tb M ((iv M 1 2) + 2)))], M)) rfl ?_
      refine am_xn 2 (c1 := (25, [.ref 1, .ref 6003, .int (zi 2)], [.int (zi 2), .ref 6003, .int (zi (tb M ((iv M 1 2) + 2)))], M)) rfl ?_
      refine am_xc t_Str_charAt (.invokevirtual 126) 126 (av := [.ref 6003, .int (zi 2)]) (rest := [.int (zi (tb M ((iv M 1 2) + 2)))]) (rv := some (.int (zi 110))) (M' := M) rfl rfl rfl rfl (Nat.le_of_ble_eq_true rfl) (fun _ => rfl) (sp_strat_3_2 M) ?_
      refine am_xn 0 (c1 := (28, [.ref 1, .ref 6003, .int (zi 2)], [.int (zi 110), .int (zi (tb M ((iv M 1 2) + 2)))], M)) rfl ?_
      refine am_xn 1 (c1 := (if zi (tb M ((iv M 1 2) + 2)) = zi 110 then 33 else 31, [.ref 1, .ref 6003, .int (zi 2)], [], M)) rfl (am_xeq (tb_r M ((iv M 1 2) + 2)) (by decide) (fun h => ?_) (fun h => ?_))
      · replace hv := hv.1 h
        refine am_xn 4 (c1 := (4, [.ref 1, .ref 6003, .int (zi 3)], [.ref 6003, .int (zi 3)], M)) rfl ?_
        refine am_xc t_Str_length (.invokevirtual 121) 121 (av := [.ref 6003]) (rest := [.int (zi 3)]) (rv := some (.int (zi 8))) (M' := M) rfl rfl rfl rfl (Nat.le_of_ble_eq_true rfl) (fun _ => rfl) (sp_strlen_3 M) ?_
        refine am_xn 0 (c1 := (7, [.ref 1, .ref 6003, .int (zi 3)], [.int (zi 8), .int (zi 3)], M)) rfl ?_
        refine am_xrd 5 1 2 (pc := 18) (ls := [.ref 1, .ref 6003, .int (zi 3)]) (st := [.ref 2]) rfl ?_
        refine am_xiadd 2 (iv M 1 2) 3 (pc := 20) (ls := [.ref 1, .ref 6003, .int (zi 3)]) (st := [.ref 2]) rfl ?_
        obtain ⟨g, hv⟩ := hv
        refine am_xc t_Pag_byteAt (.invokevirtual 102) 102 (av := [.ref 2, .int (zi ((iv M 1 2) + 3))]) (rest := []) (rv := some (.int (zi (tb M ((iv M 1 2) + 3))))) (M' := M) rfl rfl rfl rfl (Nat.le_of_ble_eq_true rfl) (fun _ => rfl) (sp_p2_byteAt M ((iv M 1 2) + 3) g) ?_
        refine am_xn 0 (c1 := (23, [.ref 1, .ref 6003, .int (zi 3)], [.int (zi (tb M ((iv M 1 2) + 3)))], M)) rfl ?_
        refine am_xn 2 (c1 := (25, [.ref 1, .ref 6003, .int (zi 3)], [.int (zi 3), .ref 6003, .int (zi (tb M ((iv M 1 2) + 3)))], M)) rfl ?_
        refine am_xc t_Str_charAt (.invokevirtual 126) 126 (av := [.ref 6003, .int (zi 3)]) (rest := [.int (zi (tb M ((iv M 1 2) + 3)))]) (rv := some (.int (zi 117))) (M' := M) rfl rfl rfl rfl (Nat.le_of_ble_eq_true rfl) (fun _ => rfl) (sp_strat_3_3 M) ?_
        refine am_xn 0 (c1 := (28, [.ref 1, .ref 6003, .int (zi 3)], [.int (zi 117), .int (zi (tb M ((iv M 1 2) + 3)))], M)) rfl ?_
        refine am_xn 1 (c1 := (if zi (tb M ((iv M 1 2) + 3)) = zi 117 then 33 else 31, [.ref 1, .ref 6003, .int (zi 3)], [], M)) rfl (am_xeq (tb_r M ((iv M 1 2) + 3)) (by decide) (fun h => ?_) (fun h => ?_))
        · replace hv := hv.1 h
          refine am_xn 4 (c1 := (4, [.ref 1, .ref 6003, .int (zi 4)], [.ref 6003, .int (zi 4)], M)) rfl ?_
          refine am_xc t_Str_length (.invokevirtual 121) 121 (av := [.ref 6003]) (rest := [.int (zi 4)]) (rv := some (.int (zi 8))) (M' := M) rfl rfl rfl rfl (Nat.le_of_ble_eq_true rfl) (fun _ => rfl) (sp_strlen_3 M) ?_
          refine am_xn 0 (c1 := (7, [.ref 1, .ref 6003, .int (zi 4)], [.int (zi 8), .int (zi 4)], M)) rfl ?_
          refine am_xrd 5 1 2 (pc := 18) (ls := [.ref 1, .ref 6003, .int (zi 4)]) (st := [.ref 2]) rfl ?_
          refine am_xiadd 2 (iv M 1 2) 4 (pc := 20) (ls := [.ref 1, .ref 6003, .int (zi 4)]) (st := [.ref 2]) rfl ?_
          obtain ⟨g, hv⟩ := hv
          refine am_xc t_Pag_byteAt (.invokevirtual 102) 102 (av := [.ref 2, .int (zi ((iv M 1 2) + 4))]) (rest := []) (rv := some (.int (zi (tb M ((iv M 1 2) + 4))))) (M' := M) rfl rfl rfl rfl (Nat.le_of_ble_eq_true rfl) (fun _ => rfl) (sp_p2_byteAt M ((iv M 1 2) + 4) g) ?_
          refine am_xn 0 (c1 := (23, [.ref 1, .ref 6003, .int (zi 4)], [.int (zi (tb M ((iv M 1 2) + 4)))], M)) rfl ?_
          refine am_xn 2 (c1 := (25, [.ref 1, .ref 6003, .int (zi 4)], [.int (zi 4), .ref 6003, .int (zi (tb M ((iv M 1 2) + 4)))], M)) rfl ?_
          refine am_xc t_Str_charAt (.invokevirtual 126) 126 (av := [.ref 6003, .int (zi 4)]) (rest := [.int (zi (tb M ((iv M 1 2) + 4)))]) (rv := some (.int (zi 109))) (M' := M) rfl rfl rfl rfl (Nat.le_of_ble_eq_true rfl) (fun _ => rfl) (sp_strat_3_4 M) ?_
          refine am_xn 0 (c1 := (28, [.ref 1, .ref 6003, .int (zi 4)], [.int (zi 109), .int (zi (tb M ((iv M 1 2) + 4)))], M)) rfl ?_
          refine am_xn 1 (c1 := (if zi (tb M ((iv M 1 2) + 4)) = zi 109 then 33 else 31, [.ref 1, .ref 6003, .int (zi 4)], [], M)) rfl (am_xeq (tb_r M ((iv M 1 2) + 4)) (by decide) (fun h => ?_) (fun h => ?_))
          · replace hv := hv.1 h
            refine am_xn 4 (c1 := (4, [.ref 1, .ref 6003, .int (zi 5)], [.ref 6003, .int (zi 5)], M)) rfl ?_
            refine am_xc t_Str_length (.invokevirtual 121) 121 (av := [.ref 6003]) (rest := [.int (zi 5)]) (rv := some (.int (zi 8))) (M' := M) rfl rfl rfl rfl (Nat.le_of_ble_eq_true rfl) (fun _ => rfl) (sp_strlen_3 M) ?_
            refine am_xn 0 (c1 := (7, [.ref 1, .ref 6003, .int (zi 5)], [.int (zi 8), .int (zi 5)], M)) rfl ?_
            refine am_xrd 5 1 2 (pc := 18) (ls := [.ref 1, .ref 6003, .int (zi 5)]) (st := [.ref 2]) rfl ?_
            refine am_xiadd 2 (iv M 1 2) 5 (pc := 20) (ls := [.ref 1, .ref 6003, .int (zi 5)]) (st := [.ref 2]) rfl ?_
            obtain ⟨g, hv⟩ := hv
            refine am_xc t_Pag_byteAt (.invokevirtual 102) 102 (av := [.ref 2, .int (zi ((iv M 1 2) + 5))]) (rest := []) (rv := some (.int (zi (tb M ((iv M 1 2) + 5))))) (M' := M) rfl rfl rfl rfl (Nat.le_of_ble_eq_true rfl) (fun _ => rfl) (sp_p2_byteAt M ((iv M 1 2) + 5) g) ?_
            refine am_xn 0 (c1 := (23, [.ref 1, .ref 6003, .int (zi 5)], [.int (zi (tb M ((iv M 1 2) + 5)))], M)) rfl ?_
            refine am_xn 2 (c1 := (25, [.ref 1, .ref 6003, .int (zi 5)], [.int (zi 5), .ref 6003, .int (zi (tb M ((iv M 1 2) + 5)))], M)) rfl ?_
            refine am_xc t_Str_charAt (.invokevirtual 126) 126 (av := [.ref 6003, .int (zi 5)]) (rest := [.int (zi (tb M ((iv M 1 2) + 5)))]) (rv := some (.int (zi 98))) (M' := M) rfl rfl rfl rfl (Nat.le_of_ble_eq_true rfl) (fun _ => rfl) (sp_strat_3_5 M) ?_
            refine am_xn 0 (c1 := (28, [.ref 1, .ref 6003, .int (zi 5)], [.int (zi 98), .int (zi (tb M ((iv M 1 2) + 5)))], M)) rfl ?_
            refine am_xn 1 (c1 := (if zi (tb M ((iv M 1 2) + 5)) = zi 98 then 33 else 31, [.ref 1, .ref 6003, .int (zi 5)], [], M)) rfl (am_xeq (tb_r M ((iv M 1 2) + 5)) (by decide) (fun h => ?_) (fun h => ?_))
            · replace hv := hv.1 h
              refine am_xn 4 (c1 := (4, [.ref 1, .ref 6003, .int (zi 6)], [.ref 6003, .int (zi 6)], M)) rfl ?_
              refine am_xc t_Str_length (.invokevirtual 121) 121 (av := [.ref 6003]) (rest := [.int (zi 6)]) (rv := some (.int (zi 8))) (M' := M) rfl rfl rfl rfl (Nat.le_of_ble_eq_true rfl) (fun _ => rfl) (sp_strlen_3 M) ?_
              refine am_xn 0 (c1 := (7, [.ref 1, .ref 6003, .int (zi 6)], [.int (zi 8), .int (zi 6)], M)) rfl ?_
              refine am_xrd 5 1 2 (pc := 18) (ls := [.ref 1, .ref 6003, .int (zi 6)]) (st := [.ref 2]) rfl ?_
              refine am_xiadd 2 (iv M 1 2) 6 (pc := 20) (ls := [.ref 1, .ref 6003, .int (zi 6)]) (st := [.ref 2]) rfl ?_
              obtain ⟨g, hv⟩ := hv
              refine am_xc t_Pag_byteAt (.invokevirtual 102) 102 (av := [.ref 2, .int (zi ((iv M 1 2) + 6))]) (rest := []) (rv := some (.int (zi (tb M ((iv M 1 2) + 6))))) (M' := M) rfl rfl rfl rfl (Nat.le_of_ble_eq_true rfl) (fun _ => rfl) (sp_p2_byteAt M ((iv M 1 2) + 6) g) ?_
              refine am_xn 0 (c1 := (23, [.ref 1, .ref 6003, .int (zi 6)], [.int (zi (tb M ((iv M 1 2) + 6)))], M)) rfl ?_
              refine am_xn 2 (c1 := (25, [.ref 1, .ref 6003, .int (zi 6)], [.int (zi 6), .ref 6003, .int (zi (tb M ((iv M 1 2) + 6)))], M)) rfl ?_
              refine am_xc t_Str_charAt (.invokevirtual 126) 126 (av := [.ref 6003, .int (zi 6)]) (rest := [.int (zi (tb M ((iv M 1 2) + 6)))]) (rv := some (.int (zi 101))) (M' := M) rfl rfl rfl rfl (Nat.le_of_ble_eq_true rfl) (fun _ => rfl) (sp_strat_3_6 M) ?_
              refine am_xn 0 (c1 := (28, [.ref 1, .ref 6003, .int (zi 6)], [.int (zi 101), .int (zi (tb M ((iv M 1 2) + 6)))], M)) rfl ?_
              refine am_xn 1 (c1 := (if zi (tb M ((iv M 1 2) + 6)) = zi 101 then 33 else 31, [.ref 1, .ref 6003, .int (zi 6)], [], M)) rfl (am_xeq (tb_r M ((iv M 1 2) + 6)) (by decide) (fun h => ?_) (fun h => ?_))
              · replace hv := hv.1 h
                refine am_xn 4 (c1 := (4, [.ref 1, .ref 6003, .int (zi 7)], [.ref 6003, .int (zi 7)], M)) rfl ?_
                refine am_xc t_Str_length (.invokevirtual 121) 121 (av := [.ref 6003]) (rest := [.int (zi 7)]) (rv := some (.int (zi 8))) (M' := M) rfl rfl rfl rfl (Nat.le_of_ble_eq_true rfl) (fun _ => rfl) (sp_strlen_3 M) ?_
                refine am_xn 0 (c1 := (7, [.ref 1, .ref 6003, .int (zi 7)], [.int (zi 8), .int (zi 7)], M)) rfl ?_
                refine am_xrd 5 1 2 (pc := 18) (ls := [.ref 1, .ref 6003, .int (zi 7)]) (st := [.ref 2]) rfl ?_
                refine am_xiadd 2 (iv M 1 2) 7 (pc := 20) (ls := [.ref 1, .ref 6003, .int (zi 7)]) (st := [.ref 2]) rfl ?_
                obtain ⟨g, hv⟩ := hv
                refine am_xc t_Pag_byteAt (.invokevirtual 102) 102 (av := [.ref 2, .int (zi ((iv M 1 2) + 7))]) (rest := []) (rv := some (.int (zi (tb M ((iv M 1 2) + 7))))) (M' := M) rfl rfl rfl rfl (Nat.le_of_ble_eq_true rfl) (fun _ => rfl) (sp_p2_byteAt M ((iv M 1 2) + 7) g) ?_
                refine am_xn 0 (c1 := (23, [.ref 1, .ref 6003, .int (zi 7)], [.int (zi (tb M ((iv M 1 2) + 7)))], M)) rfl ?_
                refine am_xn 2 (c1 := (25, [.ref 1, .ref 6003, .int (zi 7)], [.int (zi 7), .ref 6003, .int (zi (tb M ((iv M 1 2) + 7)))], M)) rfl ?_
                refine am_xc t_Str_charAt (.invokevirtual 126) 126 (av := [.ref 6003, .int (zi 7)]) (rest := [.int (zi (tb M ((iv M 1 2) + 7)))]) (rv := some (.int (zi 114))) (M' := M) rfl rfl rfl rfl (Nat.le_of_ble_eq_true rfl) (fun _ => rfl) (sp_strat_3_7 M) ?_
                refine am_xn 0 (c1 := (28, [.ref 1, .ref 6003, .int (zi 7)], [.int (zi 114), .int (zi (tb M ((iv M 1 2) + 7)))], M)) rfl ?_
                refine am_xn 1 (c1 := (if zi (tb M ((iv M 1 2) + 7)) = zi 114 then 33 else 31, [.ref 1, .ref 6003, .int (zi 7)], [], M)) rfl (am_xeq (tb_r M ((iv M 1 2) + 7)) (by decide) (fun h => ?_) (fun h => ?_))
                · replace hv := hv.1 h
                  refine am_xn 4 (c1 := (4, [.ref 1, .ref 6003, .int (zi 8)], [.ref 6003, .int (zi 8)], M)) rfl ?_
                  refine am_xc t_Str_length (.invokevirtual 121) 121 (av := [.ref 6003]) (rest := [.int (zi 8)]) (rv := some (.int (zi 8))) (M' := M) rfl rfl rfl rfl (Nat.le_of_ble_eq_true rfl) (fun _ => rfl) (sp_strlen_3 M) ?_
                  refine am_xn 0 (c1 := (7, [.ref 1, .ref 6003, .int (zi 8)], [.int (zi 8), .int (zi 8)], M)) rfl ?_
                  refine am_xrd 5 1 2 (pc := 47) (ls := [.ref 1, .ref 6003, .int (zi 8)]) (st := [.ref 2]) rfl ?_
                  refine am_xn 1 (c1 := (48, [.ref 1, .ref 6003, .int (zi 8)], [.ref 6003, .int (zi (iv M 1 2)), .ref 2], M)) rfl ?_
                  refine am_xc t_Str_length (.invokevirtual 121) 121 (av := [.ref 6003]) (rest := [.int (zi (iv M 1 2)), .ref 2]) (rv := some (.int (zi 8))) (M' := M) rfl rfl rfl rfl (Nat.le_of_ble_eq_true rfl) (fun _ => rfl) (sp_strlen_3 M) ?_
                  refine am_xn 0 (c1 := (51, [.ref 1, .ref 6003, .int (zi 8)], [.int (zi 8), .int (zi (iv M 1 2)), .ref 2], M)) rfl ?_
                  refine am_xiadd 1 (iv M 1 2) 8 (pc := 52) (ls := [.ref 1, .ref 6003, .int (zi 8)]) (st := [.ref 2]) rfl ?_
                  obtain ⟨g, hv⟩ := hv
                  refine am_xc t_Pag_byteAt (.invokevirtual 102) 102 (av := [.ref 2, .int (zi ((iv M 1 2) + 8))]) (rest := []) (rv := some (.int (zi (tb M ((iv M 1 2) + 8))))) (M' := M) rfl rfl rfl rfl (Nat.le_of_ble_eq_true rfl) (fun _ => rfl) (sp_p2_byteAt M ((iv M 1 2) + 8) g) ?_
                  refine am_xn 0 (c1 := (55, [.ref 1, .ref 6003, .int (zi 8)], [.int (zi (tb M ((iv M 1 2) + 8)))], M)) rfl ?_
                  refine am_xn 2 (c1 := (59, [.ref 1, .ref 6003, .int (zi 8)], [.int (zi 122), .int (zi 97), .int (zi (tb M ((iv M 1 2) + 8)))], M)) rfl ?_
                  obtain ⟨g, hv⟩ := hv
                  by_cases c2 : 97 ≤ (tb M ((iv M 1 2) + 8)) ∧ (tb M ((iv M 1 2) + 8)) ≤ 122
                  · replace hv := hv.1 c2
                    refine am_xc t_Rea_isBetween (.invokestatic 112) 112 (av := [.int (zi (tb M ((iv M 1 2) + 8))), .int (zi 97), .int (zi 122)]) (rest := []) (rv := some (.int (zi 1))) (M' := M) rfl rfl rfl rfl (Nat.le_of_ble_eq_true rfl) (fun h => nomatch h) (by have q := sp_isBetween M (tb M ((iv M 1 2) + 8)) 97 122 g; rwa [if_pos c2] at q) ?_
                    refine am_xn 0 (c1 := (62, [.ref 1, .ref 6003, .int (zi 8)], [.int (zi 1)], M)) rfl ?_
                    refine am_xn 2 (c1 := (66, [.ref 1, .ref 6003, .int (zi 8)], [.int (zi 0)], M)) rfl ?_
                    exact am_xr (some (.int (zi 0))) ⟨rfl, rfl, .boolean, rfl, rfl⟩ hv
                  · replace hv := hv.2 c2
                    refine am_xc t_Rea_isBetween (.invokestatic 112) 112 (av := [.int (zi (tb M ((iv M 1 2) + 8))), .int (zi 97), .int (zi 122)]) (rest := []) (rv := some (.int (zi 0))) (M' := M) rfl rfl rfl rfl (Nat.le_of_ble_eq_true rfl) (fun h => nomatch h) (by have q := sp_isBetween M (tb M ((iv M 1 2) + 8)) 97 122 g; rwa [if_neg c2] at q) ?_
                    refine am_xn 0 (c1 := (62, [.ref 1, .ref 6003, .int (zi 8)], [.int (zi 0)], M)) rfl ?_
                    refine am_xrd 4 1 2 (pc := 72) (ls := [.ref 1, .ref 6003, .int (zi 8)]) (st := [.ref 1]) rfl ?_
                    refine am_xn 1 (c1 := (73, [.ref 1, .ref 6003, .int (zi 8)], [.ref 6003, .int (zi (iv M 1 2)), .ref 1], M)) rfl ?_
                    refine am_xc t_Str_length (.invokevirtual 121) 121 (av := [.ref 6003]) (rest := [.int (zi (iv M 1 2)), .ref 1]) (rv := some (.int (zi 8))) (M' := M) rfl rfl rfl rfl (Nat.le_of_ble_eq_true rfl) (fun _ => rfl) (sp_strlen_3 M) ?_
                    refine am_xn 0 (c1 := (76, [.ref 1, .ref 6003, .int (zi 8)], [.int (zi 8), .int (zi (iv M 1 2)), .ref 1], M)) rfl ?_
                    refine am_xiadd 1 (iv M 1 2) 8 (pc := 77) (ls := [.ref 1, .ref 6003, .int (zi 8)]) (st := [.ref 1]) rfl ?_
                    refine am_xn 1 (c1 := (80, [.ref 1, .ref 6003, .int (zi 8)], [], zup M 1 2 ((iv M 1 2) + 8))) rfl ?_
                    obtain ⟨M1, eM1⟩ : ∃ m, m = zup M 1 2 ((iv M 1 2) + 8) := ⟨_, rfl⟩
                    replace hv := hv M1 eM1
                    rw [← eM1]
                    refine am_xn 1 (c1 := (81, [.ref 1, .ref 6003, .int (zi 8)], [.int (zi 1)], M1)) rfl ?_
                    exact am_xr (some (.int (zi 1))) ⟨rfl, rfl, .boolean, rfl, rfl⟩ hv
                · replace hv := hv.2 h
                  refine am_xn 1 (c1 := (32, [.ref 1, .ref 6003, .int (zi 7)], [.int (zi 0)], M)) rfl ?_
                  exact am_xr (some (.int (zi 0))) ⟨rfl, rfl, .boolean, rfl, rfl⟩ hv
              · replace hv := hv.2 h
                refine am_xn 1 (c1 := (32, [.ref 1, .ref 6003, .int (zi 6)], [.int (zi 0)], M)) rfl ?_
                exact am_xr (some (.int (zi 0))) ⟨rfl, rfl, .boolean, rfl, rfl⟩ hv
            · replace hv := hv.2 h
              refine am_xn 1 (c1 := (32, [.ref 1, .ref 6003, .int (zi 5)], [.int (zi 0)], M)) rfl ?_
              exact am_xr (some (.int (zi 0))) ⟨rfl, rfl, .boolean, rfl, rfl⟩ hv
          · replace hv := hv.2 h
            refine am_xn 1 (c1 := (32, [.ref 1, .ref 6003, .int (zi 4)], [.int (zi 0)], M)) rfl ?_
            exact am_xr (some (.int (zi 0))) ⟨rfl, rfl, .boolean, rfl, rfl⟩ hv
        · replace hv := hv.2 h
          refine am_xn 1 (c1 := (32, [.ref 1, .ref 6003, .int (zi 3)], [.int (zi 0)], M)) rfl ?_
          exact am_xr (some (.int (zi 0))) ⟨rfl, rfl, .boolean, rfl, rfl⟩ hv
      · replace hv := hv.2 h
        refine am_xn 1 (c1 := (32, [.ref 1, .ref 6003, .int (zi 2)], [.int (zi 0)], M)) rfl ?_
        exact am_xr (some (.int (zi 0))) ⟨rfl, rfl, .boolean, rfl, rfl⟩ hv
    · replace hv := hv.2 h
      refine am_xn 1 (c1 := (32, [.ref 1, .ref 6003, .int (zi 1)], [.int (zi 0)], M)) rfl ?_
      exact am_xr (some (.int (zi 0))) ⟨rfl, rfl, .boolean, rfl, rfl⟩ hv
  · replace hv := hv.2 h
    refine am_xn 1 (c1 := (32, [.ref 1, .ref 6003, .int (zi 0)], [.int (zi 0)], M)) rfl ?_
    exact am_xr (some (.int (zi 0))) ⟨rfl, rfl, .boolean, rfl, rfl⟩ hv
set_option maxRecDepth 100000 in
theorem vc_passes4  (M : am_M) (Q : Option Value → am_M → Prop) (hv : (zr ((iv M 1 2) + 0)) ∧ (((tb M ((iv M 1 2) + 0)) = 105 → (zr ((iv M 1 2) + 1)) ∧ (((tb M ((iv M 1 2) + 1)) = 110 → (zr ((iv M 1 2) + 2)) ∧ ((zr (tb M ((iv M 1 2) + 2)) ∧ zr (97 : Int) ∧ zr (122 : Int)) ∧ ((97 ≤ (tb M ((iv M 1 2) + 2)) ∧ (tb M ((iv M 1 2) + 2)) ≤ 122 → Q (some (.int (zi 0))) M) ∧ (¬ (97 ≤ (tb M ((iv M 1 2) + 2)) ∧ (tb M ((iv M 1 2) + 2)) ≤ 122) → ∀ M1, M1 = zup M 1 2 ((iv M 1 2) + 2) → Q (some (.int (zi 1))) M1)))) ∧ (¬ (tb M ((iv M 1 2) + 1)) = 110 → Q (some (.int (zi 0))) M))) ∧ (¬ (tb M ((iv M 1 2) + 0)) = 105 → Q (some (.int (zi 0))) M))) : am_x t_Rea_passes (0, am_ent (am_mL t_Rea_passes) [.ref 1, .ref 6004], [], M) Q := by
  refine am_xn 0 (c1 := (0, [.ref 1, .ref 6004, .null], [], M)) rfl ?_
  refine am_xn 4 (c1 := (4, [.ref 1, .ref 6004, .int (zi 0)], [.ref 6004, .int (zi 0)], M)) rfl ?_
  refine am_xc t_Str_length (.invokevirtual 121) 121 (av := [.ref 6004]) (rest := [.int (zi 0)]) (rv := some (.int (zi 2))) (M' := M) rfl rfl rfl rfl (Nat.le_of_ble_eq_true rfl) (fun _ => rfl) (sp_strlen_4 M) ?_
  refine am_xn 0 (c1 := (7, [.ref 1, .ref 6004, .int (zi 0)], [.int (zi 2), .int (zi 0)], M)) rfl ?_
  refine am_xrd 5 1 2 (pc := 18) (ls := [.ref 1, .ref 6004, .int (zi 0)]) (st := [.ref 2]) rfl ?_
  refine am_xiadd 2 (iv M 1 2) 0 (pc := 20) (ls := [.ref 1, .ref 6004, .int (zi 0)]) (st := [.ref 2]) rfl ?_
  obtain ⟨g, hv⟩ := hv
  refine am_xc t_Pag_byteAt (.invokevirtual 102) 102 (av := [.ref 2, .int (zi ((iv M 1 2) + 0))]) (rest := []) (rv := some (.int (zi (tb M ((iv M 1 2) + 0))))) (M' := M) rfl rfl rfl rfl (Nat.le_of_ble_eq_true rfl) (fun _ => rfl) (sp_p2_byteAt M ((iv M 1 2) + 0) g) ?_
  refine am_xn 0 (c1 := (23, [.ref 1, .ref 6004, .int (zi 0)], [.int (zi (tb M ((iv M 1 2) + 0)))], M)) rfl ?_
  refine am_xn 2 (c1 := (25, [.ref 1, .ref 6004, .int (zi 0)], [.int (zi 0), .ref 6004, .int (zi (tb M ((iv M 1 2) + 0)))], M)) rfl ?_
  refine am_xc t_Str_charAt (.invokevirtual 126) 126 (av := [.ref 6004, .int (zi 0)]) (rest := [.int (zi (tb M ((iv M 1 2) + 0)))]) (rv := some (.int (zi 105))) (M' := M) rfl rfl rfl rfl (Nat.le_of_ble_eq_true rfl) (fun _ => rfl) (sp_strat_4_0 M) ?_
  refine am_xn 0 (c1 := (28, [.ref 1, .ref 6004, .int (zi 0)], [.int (zi 105), .int (zi (tb M ((iv M 1 2) + 0)))], M)) rfl ?_
  refine am_xn 1 (c1 := (if zi (tb M ((iv M 1 2) + 0)) = zi 105 then 33 else 31, [.ref 1, .ref 6004, .int (zi 0)], [], M)) rfl (am_xeq (tb_r M ((iv M 1 2) + 0)) (by decide) (fun h => ?_) (fun h => ?_))
  · replace hv := hv.1 h
    refine am_xn 4 (c1 := (4, [.ref 1, .ref 6004, .int (zi 1)], [.ref 6004, .int (zi 1)], M)) rfl ?_
    refine am_xc t_Str_length (.invokevirtual 121) 121 (av := [.ref 6004]) (rest := [.int (zi 1)]) (rv := some (.int (zi 2))) (M' := M) rfl rfl rfl rfl (Nat.le_of_ble_eq_true rfl) (fun _ => rfl) (sp_strlen_4 M) ?_
    refine am_xn 0 (c1 := (7, [.ref 1, .ref 6004, .int (zi 1)], [.int (zi 2), .int (zi 1)], M)) rfl ?_
    refine am_xrd 5 1 2 (pc := 18) (ls := [.ref 1, .ref 6004, .int (zi 1)]) (st := [.ref 2]) rfl ?_
    refine am_xiadd 2 (iv M 1 2) 1 (pc := 20) (ls := [.ref 1, .ref 6004, .int (zi 1)]) (st := [.ref 2]) rfl ?_
    obtain ⟨g, hv⟩ := hv
    refine am_xc t_Pag_byteAt (.invokevirtual 102) 102 (av := [.ref 2, .int (zi ((iv M 1 2) + 1))]) (rest := []) (rv := some (.int (zi (tb M ((iv M 1 2) + 1))))) (M' := M) rfl rfl rfl rfl (Nat.le_of_ble_eq_true rfl) (fun _ => rfl) (sp_p2_byteAt M ((iv M 1 2) + 1) g) ?_
    refine am_xn 0 (c1 := (23, [.ref 1, .ref 6004, .int (zi 1)], [.int (zi (tb M ((iv M 1 2) + 1)))], M)) rfl ?_
    refine am_xn 2 (c1 := (25, [.ref 1, .ref 6004, .int (zi 1)], [.int (zi 1), .ref 6004, .int (zi (tb M ((iv M 1 2) + 1)))], M)) rfl ?_
    refine am_xc t_Str_charAt (.invokevirtual 126) 126 (av := [.ref 6004, .int (zi 1)]) (rest := [.int (zi (tb M ((iv M 1 2) + 1)))]) (rv := some (.int (zi 110))) (M' := M) rfl rfl rfl rfl (Nat.le_of_ble_eq_true rfl) (fun _ => rfl) (sp_strat_4_1 M) ?_
    refine am_xn 0 (c1 := (28, [.ref 1, .ref 6004, .int (zi 1)], [.int (zi 110), .int (zi (tb M ((iv M 1 2) + 1)))], M)) rfl ?_
    refine am_xn 1 (c1 := (if zi (tb M ((iv M 1 2) + 1)) = zi 110 then 33 else 31, [.ref 1, .ref 6004, .int (zi 1)], [], M)) rfl (am_xeq (tb_r M ((iv M 1 2) + 1)) (by decide) (fun h => ?_) (fun h => ?_))
    · replace hv := hv.1 h
      refine am_xn 4 (c1 := (4, [.ref 1, .ref 6004, .int (zi 2)], [.ref 6004, .int (zi 2)], M)) rfl ?_
      refine am_xc t_Str_length (.invokevirtual 121) 121 (av := [.ref 6004]) (rest := [.int (zi 2)]) (rv := some (.int (zi 2))) (M' := M) rfl rfl rfl rfl (Nat.le_of_ble_eq_true rfl) (fun _ => rfl) (sp_strlen_4 M) ?_
      refine am_xn 0 (c1 := (7, [.ref 1, .ref 6004, .int (zi 2)], [.int (zi 2), .int (zi 2)], M)) rfl ?_
      refine am_xrd 5 1 2 (pc := 47) (ls := [.ref 1, .ref 6004, .int (zi 2)]) (st := [.ref 2]) rfl ?_
      refine am_xn 1 (c1 := (48, [.ref 1, .ref 6004, .int (zi 2)], [.ref 6004, .int (zi (iv M 1 2)), .ref 2], M)) rfl ?_
      refine am_xc t_Str_length (.invokevirtual 121) 121 (av := [.ref 6004]) (rest := [.int (zi (iv M 1 2)), .ref 2]) (rv := some (.int (zi 2))) (M' := M) rfl rfl rfl rfl (Nat.le_of_ble_eq_true rfl) (fun _ => rfl) (sp_strlen_4 M) ?_
      refine am_xn 0 (c1 := (51, [.ref 1, .ref 6004, .int (zi 2)], [.int (zi 2), .int (zi (iv M 1 2)), .ref 2], M)) rfl ?_
      refine am_xiadd 1 (iv M 1 2) 2 (pc := 52) (ls := [.ref 1, .ref 6004, .int (zi 2)]) (st := [.ref 2]) rfl ?_
      obtain ⟨g, hv⟩ := hv
      refine am_xc t_Pag_byteAt (.invokevirtual 102) 102 (av := [.ref 2, .int (zi ((iv M 1 2) + 2))]) (rest := []) (rv := some (.int (zi (tb M ((iv M 1 2) + 2))))) (M' := M) rfl rfl rfl rfl (Nat.le_of_ble_eq_true rfl) (fun _ => rfl) (sp_p2_byteAt M ((iv M 1 2) + 2) g) ?_
      refine am_xn 0 (c1 := (55, [.ref 1, .ref 6004, .int (zi 2)], [.int (zi (tb M ((iv M 1 2) + 2)))], M)) rfl ?_
      refine am_xn 2 (c1 := (59, [.ref 1, .ref 6004, .int (zi 2)], [.int (zi 122), .int (zi 97), .int (zi (tb M ((iv M 1 2) + 2)))], M)) rfl ?_
      obtain ⟨g, hv⟩ := hv
      by_cases c2 : 97 ≤ (tb M ((iv M 1 2) + 2)) ∧ (tb M ((iv M 1 2) + 2)) ≤ 122
      · replace hv := hv.1 c2
        refine am_xc t_Rea_isBetween (.invokestatic 112) 112 (av := [.int (zi (tb M ((iv M 1 2) + 2))), .int (zi 97), .int (zi 122)]) (rest := []) (rv := some (.int (zi 1))) (M' := M) rfl rfl rfl rfl (Nat.le_of_ble_eq_true rfl) (fun h => nomatch h) (by have q := sp_isBetween M (tb M ((iv M 1 2) + 2)) 97 122 g; rwa [if_pos c2] at q) ?_
        refine am_xn 0 (c1 := (62, [.ref 1, .ref 6004, .int (zi 2)], [.int (zi 1)], M)) rfl ?_
        refine am_xn 2 (c1 := (66, [.ref 1, .ref 6004, .int (zi 2)], [.int (zi 0)], M)) rfl ?_
        exact am_xr (some (.int (zi 0))) ⟨rfl, rfl, .boolean, rfl, rfl⟩ hv
      · replace hv := hv.2 c2
        refine am_xc t_Rea_isBetween (.invokestatic 112) 112 (av := [.int (zi (tb M ((iv M 1 2) + 2))), .int (zi 97), .int (zi 122)]) (rest := []) (rv := some (.int (zi 0))) (M' := M) rfl rfl rfl rfl (Nat.le_of_ble_eq_true rfl) (fun h => nomatch h) (by have q := sp_isBetween M (tb M ((iv M 1 2) + 2)) 97 122 g; rwa [if_neg c2] at q) ?_
        refine am_xn 0 (c1 := (62, [.ref 1, .ref 6004, .int (zi 2)], [.int (zi 0)], M)) rfl ?_
        refine am_xrd 4 1 2 (pc := 72) (ls := [.ref 1, .ref 6004, .int (zi 2)]) (st := [.ref 1]) rfl ?_
        refine am_xn 1 (c1 := (73, [.ref 1, .ref 6004, .int (zi 2)], [.ref 6004, .int (zi (iv M 1 2)), .ref 1], M)) rfl ?_
        refine am_xc t_Str_length (.invokevirtual 121) 121 (av := [.ref 6004]) (rest := [.int (zi (iv M 1 2)), .ref 1]) (rv := some (.int (zi 2))) (M' := M) rfl rfl rfl rfl (Nat.le_of_ble_eq_true rfl) (fun _ => rfl) (sp_strlen_4 M) ?_
        refine am_xn 0 (c1 := (76, [.ref 1, .ref 6004, .int (zi 2)], [.int (zi 2), .int (zi (iv M 1 2)), .ref 1], M)) rfl ?_
        refine am_xiadd 1 (iv M 1 2) 2 (pc := 77) (ls := [.ref 1, .ref 6004, .int (zi 2)]) (st := [.ref 1]) rfl ?_
        refine am_xn 1 (c1 := (80, [.ref 1, .ref 6004, .int (zi 2)], [], zup M 1 2 ((iv M 1 2) + 2))) rfl ?_
        obtain ⟨M1, eM1⟩ : ∃ m, m = zup M 1 2 ((iv M 1 2) + 2) := ⟨_, rfl⟩
        replace hv := hv M1 eM1
        rw [← eM1]
        refine am_xn 1 (c1 := (81, [.ref 1, .ref 6004, .int (zi 2)], [.int (zi 1)], M1)) rfl ?_
        exact am_xr (some (.int (zi 1))) ⟨rfl, rfl, .boolean, rfl, rfl⟩ hv
    · replace hv := hv.2 h
      refine am_xn 1 (c1 := (32, [.ref 1, .ref 6004, .int (zi 1)], [.int (zi 0)], M)) rfl ?_
      exact am_xr (some (.int (zi 0))) ⟨rfl, rfl, .boolean, rfl, rfl⟩ hv
  · replace hv := hv.2 h
    refine am_xn 1 (c1 := (32, [.ref 1, .ref 6004, .int (zi 0)], [.int (zi 0)], M)) rfl ?_
    exact am_xr (some (.int (zi 0))) ⟨rfl, rfl, .boolean, rfl, rfl⟩ hv
set_option maxRecDepth 100000 in
theorem vc_passes5  (M : am_M) (Q : Option Value → am_M → Prop) (hv : (zr ((iv M 1 2) + 0)) ∧ (((tb M ((iv M 1 2) + 0)) = 116 → (zr ((iv M 1 2) + 1)) ∧ (((tb M ((iv M 1 2) + 1)) = 111 → (zr ((iv M 1 2) + 2)) ∧ ((zr (tb M ((iv M 1 2) + 2)) ∧ zr (97 : Int) ∧ zr (122 : Int)) ∧ ((97 ≤ (tb M ((iv M 1 2) + 2)) ∧ (tb M ((iv M 1 2) + 2)) ≤ 122 → Q (some (.int (zi 0))) M) ∧ (¬ (97 ≤ (tb M ((iv M 1 2) + 2)) ∧ (tb M ((iv M 1 2) + 2)) ≤ 122) → ∀ M1, M1 = zup M 1 2 ((iv M 1 2) + 2) → Q (some (.int (zi 1))) M1)))) ∧ (¬ (tb M ((iv M 1 2) + 1)) = 111 → Q (some (.int (zi 0))) M))) ∧ (¬ (tb M ((iv M 1 2) + 0)) = 116 → Q (some (.int (zi 0))) M))) : am_x t_Rea_passes (0, am_ent (am_mL t_Rea_passes) [.ref 1, .ref 6005], [], M) Q := by
  refine am_xn 0 (c1 := (0, [.ref 1, .ref 6005, .null], [], M)) rfl ?_
  refine am_xn 4 (c1 := (4, [.ref 1, .ref 6005, .int (zi 0)], [.ref 6005, .int (zi 0)], M)) rfl ?_
  refine am_xc t_Str_length (.invokevirtual 121) 121 (av := [.ref 6005]) (rest := [.int (zi 0)]) (rv := some (.int (zi 2))) (M' := M) rfl rfl rfl rfl (Nat.le_of_ble_eq_true rfl) (fun _ => rfl) (sp_strlen_5 M) ?_
  refine am_xn 0 (c1 := (7, [.ref 1, .ref 6005, .int (zi 0)], [.int (zi 2), .int (zi 0)], M)) rfl ?_
  refine am_xrd 5 1 2 (pc := 18) (ls := [.ref 1, .ref 6005, .int (zi 0)]) (st := [.ref 2]) rfl ?_
  refine am_xiadd 2 (iv M 1 2) 0 (pc := 20) (ls := [.ref 1, .ref 6005, .int (zi 0)]) (st := [.ref 2]) rfl ?_
  obtain ⟨g, hv⟩ := hv
  refine am_xc t_Pag_byteAt (.invokevirtual 102) 102 (av := [.ref 2, .int (zi ((iv M 1 2) + 0))]) (rest := []) (rv := some (.int (zi (tb M ((iv M 1 2) + 0))))) (M' := M) rfl rfl rfl rfl (Nat.le_of_ble_eq_true rfl) (fun _ => rfl) (sp_p2_byteAt M ((iv M 1 2) + 0) g) ?_
  refine am_xn 0 (c1 := (23, [.ref 1, .ref 6005, .int (zi 0)], [.int (zi (tb M ((iv M 1 2) + 0)))], M)) rfl ?_
  refine am_xn 2 (c1 := (25, [.ref 1, .ref 6005, .int (zi 0)], [.int (zi 0), .ref 6005, .int (zi (tb M ((iv M 1 2) + 0)))], M)) rfl ?_
  refine am_xc t_Str_charAt (.invokevirtual 126) 126 (av := [.ref 6005, .int (zi 0)]) (rest := [.int (zi (tb M ((iv M 1 2) + 0)))]) (rv := some (.int (zi 116))) (M' := M) rfl rfl rfl rfl (Nat.le_of_ble_eq_true rfl) (fun _ => rfl) (sp_strat_5_0 M) ?_
  refine am_xn 0 (c1 := (28, [.ref 1, .ref 6005, .int (zi 0)], [.int (zi 116), .int (zi (tb M ((iv M 1 2) + 0)))], M)) rfl ?_
  refine am_xn 1 (c1 := (if zi (tb M ((iv M 1 2) + 0)) = zi 116 then 33 else 31, [.ref 1, .ref 6005, .int (zi 0)], [], M)) rfl (am_xeq (tb_r M ((iv M 1 2) + 0)) (by decide) (fun h => ?_) (fun h => ?_))
  · replace hv := hv.1 h
    refine am_xn 4 (c1 := (4, [.ref 1, .ref 6005, .int (zi 1)], [.ref 6005, .int (zi 1)], M)) rfl ?_
    refine am_xc t_Str_length (.invokevirtual 121) 121 (av := [.ref 6005]) (rest := [.int (zi 1)]) (rv := some (.int (zi 2))) (M' := M) rfl rfl rfl rfl (Nat.le_of_ble_eq_true rfl) (fun _ => rfl) (sp_strlen_5 M) ?_
    refine am_xn 0 (c1 := (7, [.ref 1, .ref 6005, .int (zi 1)], [.int (zi 2), .int (zi 1)], M)) rfl ?_
    refine am_xrd 5 1 2 (pc := 18) (ls := [.ref 1, .ref 6005, .int (zi 1)]) (st := [.ref 2]) rfl ?_
    refine am_xiadd 2 (iv M 1 2) 1 (pc := 20) (ls := [.ref 1, .ref 6005, .int (zi 1)]) (st := [.ref 2]) rfl ?_
    obtain ⟨g, hv⟩ := hv
    refine am_xc t_Pag_byteAt (.invokevirtual 102) 102 (av := [.ref 2, .int (zi ((iv M 1 2) + 1))]) (rest := []) (rv := some (.int (zi (tb M ((iv M 1 2) + 1))))) (M' := M) rfl rfl rfl rfl (Nat.le_of_ble_eq_true rfl) (fun _ => rfl) (sp_p2_byteAt M ((iv M 1 2) + 1) g) ?_
    refine am_xn 0 (c1 := (23, [.ref 1, .ref 6005, .int (zi 1)], [.int (zi (tb M ((iv M 1 2) + 1)))], M)) rfl ?_
    refine am_xn 2 (c1 := (25, [.ref 1, .ref 6005, .int (zi 1)], [.int (zi 1), .ref 6005, .int (zi (tb M ((iv M 1 2) + 1)))], M)) rfl ?_
    refine am_xc t_Str_charAt (.invokevirtual 126) 126 (av := [.ref 6005, .int (zi 1)]) (rest := [.int (zi (tb M ((iv M 1 2) + 1)))]) (rv := some (.int (zi 111))) (M' := M) rfl rfl rfl rfl (Nat.le_of_ble_eq_true rfl) (fun _ => rfl) (sp_strat_5_1 M) ?_
    refine am_xn 0 (c1 := (28, [.ref 1, .ref 6005, .int (zi 1)], [.int (zi 111), .int (zi (tb M ((iv M 1 2) + 1)))], M)) rfl ?_
    refine am_xn 1 (c1 := (if zi (tb M ((iv M 1 2) + 1)) = zi 111 then 33 else 31, [.ref 1, .ref 6005, .int (zi 1)], [], M)) rfl (am_xeq (tb_r M ((iv M 1 2) + 1)) (by decide) (fun h => ?_) (fun h => ?_))
    · replace hv := hv.1 h
      refine am_xn 4 (c1 := (4, [.ref 1, .ref 6005, .int (zi 2)], [.ref 6005, .int (zi 2)], M)) rfl ?_
      refine am_xc t_Str_length (.invokevirtual 121) 121 (av := [.ref 6005]) (rest := [.int (zi 2)]) (rv := some (.int (zi 2))) (M' := M) rfl rfl rfl rfl (Nat.le_of_ble_eq_true rfl) (fun _ => rfl) (sp_strlen_5 M) ?_
      refine am_xn 0 (c1 := (7, [.ref 1, .ref 6005, .int (zi 2)], [.int (zi 2), .int (zi 2)], M)) rfl ?_
      refine am_xrd 5 1 2 (pc := 47) (ls := [.ref 1, .ref 6005, .int (zi 2)]) (st := [.ref 2]) rfl ?_
      refine am_xn 1 (c1 := (48, [.ref 1, .ref 6005, .int (zi 2)], [.ref 6005, .int (zi (iv M 1 2)), .ref 2], M)) rfl ?_
      refine am_xc t_Str_length (.invokevirtual 121) 121 (av := [.ref 6005]) (rest := [.int (zi (iv M 1 2)), .ref 2]) (rv := some (.int (zi 2))) (M' := M) rfl rfl rfl rfl (Nat.le_of_ble_eq_true rfl) (fun _ => rfl) (sp_strlen_5 M) ?_
      refine am_xn 0 (c1 := (51, [.ref 1, .ref 6005, .int (zi 2)], [.int (zi 2), .int (zi (iv M 1 2)), .ref 2], M)) rfl ?_
      refine am_xiadd 1 (iv M 1 2) 2 (pc := 52) (ls := [.ref 1, .ref 6005, .int (zi 2)]) (st := [.ref 2]) rfl ?_
      obtain ⟨g, hv⟩ := hv
      refine am_xc t_Pag_byteAt (.invokevirtual 102) 102 (av := [.ref 2, .int (zi ((iv M 1 2) + 2))]) (rest := []) (rv := some (.int (zi (tb M ((iv M 1 2) + 2))))) (M' := M) rfl rfl rfl rfl (Nat.le_of_ble_eq_true rfl) (fun _ => rfl) (sp_p2_byteAt M ((iv M 1 2) + 2) g) ?_
      refine am_xn 0 (c1 := (55, [.ref 1, .ref 6005, .int (zi 2)], [.int (zi (tb M ((iv M 1 2) + 2)))], M)) rfl ?_
      refine am_xn 2 (c1 := (59, [.ref 1, .ref 6005, .int (zi 2)], [.int (zi 122), .int (zi 97), .int (zi (tb M ((iv M 1 2) + 2)))], M)) rfl ?_
      obtain ⟨g, hv⟩ := hv
      by_cases c2 : 97 ≤ (tb M ((iv M 1 2) + 2)) ∧ (tb M ((iv M 1 2) + 2)) ≤ 122
      · replace hv := hv.1 c2
        refine am_xc t_Rea_isBetween (.invokestatic 112) 112 (av := [.int (zi (tb M ((iv M 1 2) + 2))), .int (zi 97), .int (zi 122)]) (rest := []) (rv := some (.int (zi 1))) (M' := M) rfl rfl rfl rfl (Nat.le_of_ble_eq_true rfl) (fun h => nomatch h) (by have q := sp_isBetween M (tb M ((iv M 1 2) + 2)) 97 122 g; rwa [if_pos c2] at q) ?_
        refine am_xn 0 (c1 := (62, [.ref 1, .ref 6005, .int (zi 2)], [.int (zi 1)], M)) rfl ?_
        refine am_xn 2 (c1 := (66, [.ref 1, .ref 6005, .int (zi 2)], [.int (zi 0)], M)) rfl ?_
        exact am_xr (some (.int (zi 0))) ⟨rfl, rfl, .boolean, rfl, rfl⟩ hv
      · replace hv := hv.2 c2
        refine am_xc t_Rea_isBetween (.invokestatic 112) 112 (av := [.int (zi (tb M ((iv M 1 2) + 2))), .int (zi 97), .int (zi 122)]) (rest := []) (rv := some (.int (zi 0))) (M' := M) rfl rfl rfl rfl (Nat.le_of_ble_eq_true rfl) (fun h => nomatch h) (by have q := sp_isBetween M (tb M ((iv M 1 2) + 2)) 97 122 g; rwa [if_neg c2] at q) ?_
        refine am_xn 0 (c1 := (62, [.ref 1, .ref 6005, .int (zi 2)], [.int (zi 0)], M)) rfl ?_
        refine am_xrd 4 1 2 (pc := 72) (ls := [.ref 1, .ref 6005, .int (zi 2)]) (st := [.ref 1]) rfl ?_
        refine am_xn 1 (c1 := (73, [.ref 1, .ref 6005, .int (zi 2)], [.ref 6005, .int (zi (iv M 1 2)), .ref 1], M)) rfl ?_
        refine am_xc t_Str_length (.invokevirtual 121) 121 (av := [.ref 6005]) (rest := [.int (zi (iv M 1 2)), .ref 1]) (rv := some (.int (zi 2))) (M' := M) rfl rfl rfl rfl (Nat.le_of_ble_eq_true rfl) (fun _ => rfl) (sp_strlen_5 M) ?_
        refine am_xn 0 (c1 := (76, [.ref 1, .ref 6005, .int (zi 2)], [.int (zi 2), .int (zi (iv M 1 2)), .ref 1], M)) rfl ?_
        refine am_xiadd 1 (iv M 1 2) 2 (pc := 77) (ls := [.ref 1, .ref 6005, .int (zi 2)]) (st := [.ref 1]) rfl ?_
        refine am_xn 1 (c1 := (80, [.ref 1, .ref 6005, .int (zi 2)], [], zup M 1 2 ((iv M 1 2) + 2))) rfl ?_
        obtain ⟨M1, eM1⟩ : ∃ m, m = zup M 1 2 ((iv M 1 2) + 2) := ⟨_, rfl⟩
        replace hv := hv M1 eM1
        rw [← eM1]
        refine am_xn 1 (c1 := (81, [.ref 1, .ref 6005, .int (zi 2)], [.int (zi 1)], M1)) rfl ?_
        exact am_xr (some (.int (zi 1))) ⟨rfl, rfl, .boolean, rfl, rfl⟩ hv
    · replace hv := hv.2 h
      refine am_xn 1 (c1 := (32, [.ref 1, .ref 6005, .int (zi 1)], [.int (zi 0)], M)) rfl ?_
      exact am_xr (some (.int (zi 0))) ⟨rfl, rfl, .boolean, rfl, rfl⟩ hv
  · replace hv := hv.2 h
    refine am_xn 1 (c1 := (32, [.ref 1, .ref 6005, .int (zi 0)], [.int (zi 0)], M)) rfl ?_
    exact am_xr (some (.int (zi 0))) ⟨rfl, rfl, .boolean, rfl, rfl⟩ hv
set_option maxRecDepth 100000 in
theorem vc_passes6  (M : am_M) (Q : Option Value → am_M → Prop) (hv : (zr ((iv M 1 2) + 0)) ∧ (((tb M ((iv M 1 2) + 0)) = 102 → (zr ((iv M 1 2) + 1)) ∧ (((tb M ((iv M 1 2) + 1)) = 111 → (zr ((iv M 1 2) + 2)) ∧ (((tb M ((iv M 1 2) + 2)) = 114 → (zr ((iv M 1 2) + 3)) ∧ ((zr (tb M ((iv M 1 2) + 3)) ∧ zr (97 : Int) ∧ zr (122 : Int)) ∧ ((97 ≤ (tb M ((iv M 1 2) + 3)) ∧ (tb M ((iv M 1 2) + 3)) ≤ 122 → Q (some (.int (zi 0))) M) ∧ (¬ (97 ≤ (tb M ((iv M 1 2) + 3)) ∧ (tb M ((iv M 1 2) + 3)) ≤ 122) → ∀ M1, M1 = zup M 1 2 ((iv M 1 2) + 3) → Q (some (.int (zi 1))) M1)))) ∧ (¬ (tb M ((iv M 1 2) + 2)) = 114 → Q (some (.int (zi 0))) M))) ∧ (¬ (tb M ((iv M 1 2) + 1)) = 111 → Q (some (.int (zi 0))) M))) ∧ (¬ (tb M ((iv M 1 2) + 0)) = 102 → Q (some (.int (zi 0))) M))) : am_x t_Rea_passes (0, am_ent (am_mL t_Rea_passes) [.ref 1, .ref 6006], [], M) Q := by
  refine am_xn 0 (c1 := (0, [.ref 1, .ref 6006, .null], [], M)) rfl ?_
  refine am_xn 4 (c1 := (4, [.ref 1, .ref 6006, .int (zi 0)], [.ref 6006, .int (zi 0)], M)) rfl ?_
  refine am_xc t_Str_length (.invokevirtual 121) 121 (av := [.ref 6006]) (rest := [.int (zi 0)]) (rv := some (.int (zi 3))) (M' := M) rfl rfl rfl rfl (Nat.le_of_ble_eq_true rfl) (fun _ => rfl) (sp_strlen_6 M) ?_
  refine am_xn 0 (c1 := (7, [.ref 1, .ref 6006, .int (zi 0)], [.int (zi 3), .int (zi 0)], M)) rfl ?_
  refine am_xrd 5 1 2 (pc := 18) (ls := [.ref 1, .ref 6006, .int (zi 0)]) (st := [.ref 2]) rfl ?_
  refine am_xiadd 2 (iv M 1 2) 0 (pc := 20) (ls := [.ref 1, .ref 6006, .int (zi 0)]) (st := [.ref 2]) rfl ?_
  obtain ⟨g, hv⟩ := hv
  refine am_xc t_Pag_byteAt (.invokevirtual 102) 102 (av := [.ref 2, .int (zi ((iv M 1 2) + 0))]) (rest := []) (rv := some (.int (zi (tb M ((iv M 1 2) + 0))))) (M' := M) rfl rfl rfl rfl (Nat.le_of_ble_eq_true rfl) (fun _ => rfl) (sp_p2_byteAt M ((iv M 1 2) + 0) g) ?_
  refine am_xn 0 (c1 := (23, [.ref 1, .ref 6006, .int (zi 0)], [.int (zi (tb M ((iv M 1 2) + 0)))], M)) rfl ?_
  refine am_xn 2 (c1 := (25, [.ref 1, .ref 6006, .int (zi 0)], [.int (zi 0), .ref 6006, .int (zi (tb M ((iv M 1 2) + 0)))], M)) rfl ?_
  refine am_xc t_Str_charAt (.invokevirtual 126) 126 (av := [.ref 6006, .int (zi 0)]) (rest := [.int (zi (tb M ((iv M 1 2) + 0)))]) (rv := some (.int (zi 102))) (M' := M) rfl rfl rfl rfl (Nat.le_of_ble_eq_true rfl) (fun _ => rfl) (sp_strat_6_0 M) ?_
  refine am_xn 0 (c1 := (28, [.ref 1, .ref 6006, .int (zi 0)], [.int (zi 102), .int (zi (tb M ((iv M 1 2) + 0)))], M)) rfl ?_
  refine am_xn 1 (c1 := (if zi (tb M ((iv M 1 2) + 0)) = zi 102 then 33 else 31, [.ref 1, .ref 6006, .int (zi 0)], [], M)) rfl (am_xeq (tb_r M ((iv M 1 2) + 0)) (by decide) (fun h => ?_) (fun h => ?_))
  · replace hv := hv.1 h
    refine am_xn 4 (c1 := (4, [.ref 1, .ref 6006, .int (zi 1)], [.ref 6006, .int (zi 1)], M)) rfl ?_
    refine am_xc t_Str_length (.invokevirtual 121) 121 (av := [.ref 6006]) (rest := [.int (zi 1)]) (rv := some (.int (zi 3))) (M' := M) rfl rfl rfl rfl (Nat.le_of_ble_eq_true rfl) (fun _ => rfl) (sp_strlen_6 M) ?_
    refine am_xn 0 (c1 := (7, [.ref 1, .ref 6006, .int (zi 1)], [.int (zi 3), .int (zi 1)], M)) rfl ?_
    refine am_xrd 5 1 2 (pc := 18) (ls := [.ref 1, .ref 6006, .int (zi 1)]) (st := [.ref 2]) rfl ?_
    refine am_xiadd 2 (iv M 1 2) 1 (pc := 20) (ls := [.ref 1, .ref 6006, .int (zi 1)]) (st := [.ref 2]) rfl ?_
    obtain ⟨g, hv⟩ := hv
    refine am_xc t_Pag_byteAt (.invokevirtual 102) 102 (av := [.ref 2, .int (zi ((iv M 1 2) + 1))]) (rest := []) (rv := some (.int (zi (tb M ((iv M 1 2) + 1))))) (M' := M) rfl rfl rfl rfl (Nat.le_of_ble_eq_true rfl) (fun _ => rfl) (sp_p2_byteAt M ((iv M 1 2) + 1) g) ?_
    refine am_xn 0 (c1 := (23, [.ref 1, .ref 6006, .int (zi 1)], [.int (zi (tb M ((iv M 1 2) + 1)))], M)) rfl ?_
    refine am_xn 2 (c1 := (25, [.ref 1, .ref 6006, .int (zi 1)], [.int (zi 1), .ref 6006, .int (zi (tb M ((iv M 1 2) + 1)))], M)) rfl ?_
    refine am_xc t_Str_charAt (.invokevirtual 126) 126 (av := [.ref 6006, .int (zi 1)]) (rest := [.int (zi (tb M ((iv M 1 2) + 1)))]) (rv := some (.int (zi 111))) (M' := M) rfl rfl rfl rfl (Nat.le_of_ble_eq_true rfl) (fun _ => rfl) (sp_strat_6_1 M) ?_
    refine am_xn 0 (c1 := (28, [.ref 1, .ref 6006, .int (zi 1)], [.int (zi 111), .int (zi (tb M ((iv M 1 2) + 1)))], M)) rfl ?_
    refine am_xn 1 (c1 := (if zi (tb M ((iv M 1 2) + 1)) = zi 111 then 33 else 31, [.ref 1, .ref 6006, .int (zi 1)], [], M)) rfl (am_xeq (tb_r M ((iv M 1 2) + 1)) (by decide) (fun h => ?_) (fun h => ?_))
    · replace hv := hv.1 h
      refine am_xn 4 (c1 := (4, [.ref 1, .ref 6006, .int (zi 2)], [.ref 6006, .int (zi 2)], M)) rfl ?_
      refine am_xc t_Str_length (.invokevirtual 121) 121 (av := [.ref 6006]) (rest := [.int (zi 2)]) (rv := some (.int (zi 3))) (M' := M) rfl rfl rfl rfl (Nat.le_of_ble_eq_true rfl) (fun _ => rfl) (sp_strlen_6 M) ?_
      refine am_xn 0 (c1 := (7, [.ref 1, .ref 6006, .int (zi 2)], [.int (zi 3), .int (zi 2)], M)) rfl ?_
      refine am_xrd 5 1 2 (pc := 18) (ls := [.ref 1, .ref 6006, .int (zi 2)]) (st := [.ref 2]) rfl ?_
      refine am_xiadd 2 (iv M 1 2) 2 (pc := 20) (ls := [.ref 1, .ref 6006, .int (zi 2)]) (st := [.ref 2]) rfl ?_
      obtain ⟨g, hv⟩ := hv
      refine am_xc t_Pag_byteAt (.invokevirtual 102) 102 (av := [.ref 2, .int (zi ((iv M 1 2) + 2))]) (rest := []) (rv := some (.int (zi (tb M ((iv M 1 2) + 2))))) (M' := M) rfl rfl rfl rfl (Nat.le_of_ble_eq_true rfl) (fun _ => rfl) (sp_p2_byteAt M ((iv M 1 2) + 2) g) ?_
      refine am_xn 0 (c1 := (23, [.ref 1, .ref 6006, .int (zi 2)], [.int (zi (tb M ((iv M 1 2) + 2)))], M)) rfl ?_
      refine am_xn 2 (c1 := (25, [.ref 1, .ref 6006, .int (zi 2)], [.int (zi 2), .ref 6006, .int (zi (tb M ((iv M 1 2) + 2)))], M)) rfl ?_
      refine am_xc t_Str_charAt (.invokevirtual 126) 126 (av := [.ref 6006, .int (zi 2)]) (rest := [.int (zi (tb M ((iv M 1 2) + 2)))]) (rv := some (.int (zi 114))) (M' := M) rfl rfl rfl rfl (Nat.le_of_ble_eq_true rfl) (fun _ => rfl) (sp_strat_6_2 M) ?_
      refine am_xn 0 (c1 := (28, [.ref 1, .ref 6006, .int (zi 2)], [.int (zi 114), .int (zi (tb M ((iv M 1 2) + 2)))], M)) rfl ?_
      refine am_xn 1 (c1 := (if zi (tb M ((iv M 1 2) + 2)) = zi 114 then 33 else 31, [.ref 1, .ref 6006, .int (zi 2)], [], M)) rfl (am_xeq (tb_r M ((iv M 1 2) + 2)) (by decide) (fun h => ?_) (fun h => ?_))
      · replace hv := hv.1 h
        refine am_xn 4 (c1 := (4, [.ref 1, .ref 6006, .int (zi 3)], [.ref 6006, .int (zi 3)], M)) rfl ?_
        refine am_xc t_Str_length (.invokevirtual 121) 121 (av := [.ref 6006]) (rest := [.int (zi 3)]) (rv := some (.int (zi 3))) (M' := M) rfl rfl rfl rfl (Nat.le_of_ble_eq_true rfl) (fun _ => rfl) (sp_strlen_6 M) ?_
        refine am_xn 0 (c1 := (7, [.ref 1, .ref 6006, .int (zi 3)], [.int (zi 3), .int (zi 3)], M)) rfl ?_
        refine am_xrd 5 1 2 (pc := 47) (ls := [.ref 1, .ref 6006, .int (zi 3)]) (st := [.ref 2]) rfl ?_
        refine am_xn 1 (c1 := (48, [.ref 1, .ref 6006, .int (zi 3)], [.ref 6006, .int (zi (iv M 1 2)), .ref 2], M)) rfl ?_
        refine am_xc t_Str_length (.invokevirtual 121) 121 (av := [.ref 6006]) (rest := [.int (zi (iv M 1 2)), .ref 2]) (rv := some (.int (zi 3))) (M' := M) rfl rfl rfl rfl (Nat.le_of_ble_eq_true rfl) (fun _ => rfl) (sp_strlen_6 M) ?_
        refine am_xn 0 (c1 := (51, [.ref 1, .ref 6006, .int (zi 3)], [.int (zi 3), .int (zi (iv M 1 2)), .ref 2], M)) rfl ?_
        refine am_xiadd 1 (iv M 1 2) 3 (pc := 52) (ls := [.ref 1, .ref 6006, .int (zi 3)]) (st := [.ref 2]) rfl ?_
        obtain ⟨g, hv⟩ := hv
        refine am_xc t_Pag_byteAt (.invokevirtual 102) 102 (av := [.ref 2, .int (zi ((iv M 1 2) + 3))]) (rest := []) (rv := some (.int (zi (tb M ((iv M 1 2) + 3))))) (M' := M) rfl rfl rfl rfl (Nat.le_of_ble_eq_true rfl) (fun _ => rfl) (sp_p2_byteAt M ((iv M 1 2) + 3) g) ?_
        refine am_xn 0 (c1 := (55, [.ref 1, .ref 6006, .int (zi 3)], [.int (zi (tb M ((iv M 1 2) + 3)))], M)) rfl ?_
        refine am_xn 2 (c1 := (59, [.ref 1, .ref 6006, .int (zi 3)], [.int (zi 122), .int (zi 97), .int (zi (tb M ((iv M 1 2) + 3)))], M)) rfl ?_
        obtain ⟨g, hv⟩ := hv
        by_cases c2 : 97 ≤ (tb M ((iv M 1 2) + 3)) ∧ (tb M ((iv M 1 2) + 3)) ≤ 122
        · replace hv := hv.1 c2
          refine am_xc t_Rea_isBetween (.invokestatic 112) 112 (av := [.int (zi (tb M ((iv M 1 2) + 3))), .int (zi 97), .int (zi 122)]) (rest := []) (rv := some (.int (zi 1))) (M' := M) rfl rfl rfl rfl (Nat.le_of_ble_eq_true rfl) (fun h => nomatch h) (by have q := sp_isBetween M (tb M ((iv M 1 2) + 3)) 97 122 g; rwa [if_pos c2] at q) ?_
          refine am_xn 0 (c1 := (62, [.ref 1, .ref 6006, .int (zi 3)], [.int (zi 1)], M)) rfl ?_
          refine am_xn 2 (c1 := (66, [.ref 1, .ref 6006, .int (zi 3)], [.int (zi 0)], M)) rfl ?_
          exact am_xr (some (.int (zi 0))) ⟨rfl, rfl, .boolean, rfl, rfl⟩ hv
        · replace hv := hv.2 c2
          refine am_xc t_Rea_isBetween (.invokestatic 112) 112 (av := [.int (zi (tb M ((iv M 1 2) + 3))), .int (zi 97), .int (zi 122)]) (rest := []) (rv := some (.int (zi 0))) (M' := M) rfl rfl rfl rfl (Nat.le_of_ble_eq_true rfl) (fun h => nomatch h) (by have q := sp_isBetween M (tb M ((iv M 1 2) + 3)) 97 122 g; rwa [if_neg c2] at q) ?_
          refine am_xn 0 (c1 := (62, [.ref 1, .ref 6006, .int (zi 3)], [.int (zi 0)], M)) rfl ?_
          refine am_xrd 4 1 2 (pc := 72) (ls := [.ref 1, .ref 6006, .int (zi 3)]) (st := [.ref 1]) rfl ?_
          refine am_xn 1 (c1 := (73, [.ref 1, .ref 6006, .int (zi 3)], [.ref 6006, .int (zi (iv M 1 2)), .ref 1], M)) rfl ?_
          refine am_xc t_Str_length (.invokevirtual 121) 121 (av := [.ref 6006]) (rest := [.int (zi (iv M 1 2)), .ref 1]) (rv := some (.int (zi 3))) (M' := M) rfl rfl rfl rfl (Nat.le_of_ble_eq_true rfl) (fun _ => rfl) (sp_strlen_6 M) ?_
          refine am_xn 0 (c1 := (76, [.ref 1, .ref 6006, .int (zi 3)], [.int (zi 3), .int (zi (iv M 1 2)), .ref 1], M)) rfl ?_
          refine am_xiadd 1 (iv M 1 2) 3 (pc := 77) (ls := [.ref 1, .ref 6006, .int (zi 3)]) (st := [.ref 1]) rfl ?_
          refine am_xn 1 (c1 := (80, [.ref 1, .ref 6006, .int (zi 3)], [], zup M 1 2 ((iv M 1 2) + 3))) rfl ?_
          obtain ⟨M1, eM1⟩ : ∃ m, m = zup M 1 2 ((iv M 1 2) + 3) := ⟨_, rfl⟩
          replace hv := hv M1 eM1
          rw [← eM1]
          refine am_xn 1 (c1 := (81, [.ref 1, .ref 6006, .int (zi 3)], [.int (zi 1)], M1)) rfl ?_
          exact am_xr (some (.int (zi 1))) ⟨rfl, rfl, .boolean, rfl, rfl⟩ hv
      · replace hv := hv.2 h
        refine am_xn 1 (c1 := (32, [.ref 1, .ref 6006, .int (zi 2)], [.int (zi 0)], M)) rfl ?_
        exact am_xr (some (.int (zi 0))) ⟨rfl, rfl, .boolean, rfl, rfl⟩ hv
    · replace hv := hv.2 h
      refine am_xn 1 (c1 := (32, [.ref 1, .ref 6006, .int (zi 1)], [.int (zi 0)], M)) rfl ?_
      exact am_xr (some (.int (zi 0))) ⟨rfl, rfl, .boolean, rfl, rfl⟩ hv
  · replace hv := hv.2 h
    refine am_xn 1 (c1 := (32, [.ref 1, .ref 6006, .int (zi 0)], [.int (zi 0)], M)) rfl ?_
    exact am_xr (some (.int (zi 0))) ⟨rfl, rfl, .boolean, rfl, rfl⟩ hv
set_option maxRecDepth 100000 in
theorem vc_passes7  (M : am_M) (Q : Option Value → am_M → Prop) (hv : (zr ((iv M 1 2) + 0)) ∧ (((tb M ((iv M 1 2) + 0)) = 112 → (zr ((iv M 1 2) + 1)) ∧ (((tb M ((iv M 1 2) + 1)) = 117 → (zr ((iv M 1 2) + 2)) ∧ (((tb M ((iv M 1 2) + 2)) = 116 → (zr ((iv M 1 2) + 3)) ∧ ((zr (tb M ((iv M 1 2) + 3)) ∧ zr (97 : Int) ∧ zr (122 : Int)) ∧ ((97 ≤ (tb M ((iv M 1 2) + 3)) ∧ (tb M ((iv M 1 2) + 3)) ≤ 122 → Q (some (.int (zi 0))) M) ∧ (¬ (97 ≤ (tb M ((iv M 1 2) + 3)) ∧ (tb M ((iv M 1 2) + 3)) ≤ 122) → ∀ M1, M1 = zup M 1 2 ((iv M 1 2) + 3) → Q (some (.int (zi 1))) M1)))) ∧ (¬ (tb M ((iv M 1 2) + 2)) = 116 → Q (some (.int (zi 0))) M))) ∧ (¬ (tb M ((iv M 1 2) + 1)) = 117 → Q (some (.int (zi 0))) M))) ∧ (¬ (tb M ((iv M 1 2) + 0)) = 112 → Q (some (.int (zi 0))) M))) : am_x t_Rea_passes (0, am_ent (am_mL t_Rea_passes) [.ref 1, .ref 6007], [], M) Q := by
  refine am_xn 0 (c1 := (0, [.ref 1, .ref 6007, .null], [], M)) rfl ?_
  refine am_xn 4 (c1 := (4, [.ref 1, .ref 6007, .int (zi 0)], [.ref 6007, .int (zi 0)], M)) rfl ?_
  refine am_xc t_Str_length (.invokevirtual 121) 121 (av := [.ref 6007]) (rest := [.int (zi 0)]) (rv := some (.int (zi 3))) (M' := M) rfl rfl rfl rfl (Nat.le_of_ble_eq_true rfl) (fun _ => rfl) (sp_strlen_7 M) ?_
  refine am_xn 0 (c1 := (7, [.ref 1, .ref 6007, .int (zi 0)], [.int (zi 3), .int (zi 0)], M)) rfl ?_
  refine am_xrd 5 1 2 (pc := 18) (ls := [.ref 1, .ref 6007, .int (zi 0)]) (st := [.ref 2]) rfl ?_
  refine am_xiadd 2 (iv M 1 2) 0 (pc := 20) (ls := [.ref 1, .ref 6007, .int (zi 0)]) (st := [.ref 2]) rfl ?_
  obtain ⟨g, hv⟩ := hv
  refine am_xc t_Pag_byteAt (.invokevirtual 102) 102 (av := [.ref 2, .int (zi ((iv M 1 2) + 0))]) (rest := []) (rv := some (.int (zi (tb M ((iv M 1 2) + 0))))) (M' := M) rfl rfl rfl rfl (Nat.le_of_ble_eq_true rfl) (fun _ => rfl) (sp_p2_byteAt M ((iv M 1 2) + 0) g) ?_
  refine am_xn 0 (c1 := (23, [.ref 1, .ref 6007, .int (zi 0)], [.int (zi (tb M ((iv M 1 2) + 0)))], M)) rfl ?_
  refine am_xn 2 (c1 := (25, [.ref 1, .ref 6007, .int (zi 0)], [.int (zi 0), .ref 6007, .int (zi (tb M ((iv M 1 2) + 0)))], M)) rfl ?_
  refine am_xc t_Str_charAt (.invokevirtual 126) 126 (av := [.ref 6007, .int (zi 0)]) (rest := [.int (zi (tb M ((iv M 1 2) + 0)))]) (rv := some (.int (zi 112))) (M' := M) rfl rfl rfl rfl (Nat.le_of_ble_eq_true rfl) (fun _ => rfl) (sp_strat_7_0 M) ?_
  refine am_xn 0 (c1 := (28, [.ref 1, .ref 6007, .int (zi 0)], [.int (zi 112), .int (zi (tb M ((iv M 1 2) + 0)))], M)) rfl ?_
  refine am_xn 1 (c1 := (if zi (tb M ((iv M 1 2) + 0)) = zi 112 then 33 else 31, [.ref 1, .ref 6007, .int (zi 0)], [], M)) rfl (am_xeq (tb_r M ((iv M 1 2) + 0)) (by decide) (fun h => ?_) (fun h => ?_))
  · replace hv := hv.1 h
    refine am_xn 4 (c1 := (4, [.ref 1, .ref 6007, .int (zi 1)], [.ref 6007, .int (zi 1)], M)) rfl ?_
    refine am_xc t_Str_length (.invokevirtual 121) 121 (av := [.ref 6007]) (rest := [.int (zi 1)]) (rv := some (.int (zi 3))) (M' := M) rfl rfl rfl rfl (Nat.le_of_ble_eq_true rfl) (fun _ => rfl) (sp_strlen_7 M) ?_
    refine am_xn 0 (c1 := (7, [.ref 1, .ref 6007, .int (zi 1)], [.int (zi 3), .int (zi 1)], M)) rfl ?_
    refine am_xrd 5 1 2 (pc := 18) (ls := [.ref 1, .ref 6007, .int (zi 1)]) (st := [.ref 2]) rfl ?_
    refine am_xiadd 2 (iv M 1 2) 1 (pc := 20) (ls := [.ref 1, .ref 6007, .int (zi 1)]) (st := [.ref 2]) rfl ?_
    obtain ⟨g, hv⟩ := hv
    refine am_xc t_Pag_byteAt (.invokevirtual 102) 102 (av := [.ref 2, .int (zi ((iv M 1 2) + 1))]) (rest := []) (rv := some (.int (zi (tb M ((iv M 1 2) + 1))))) (M' := M) rfl rfl rfl rfl (Nat.le_of_ble_eq_true rfl) (fun _ => rfl) (sp_p2_byteAt M ((iv M 1 2) + 1) g) ?_
    refine am_xn 0 (c1 := (23, [.ref 1, .ref 6007, .int (zi 1)], [.int (zi (tb M ((iv M 1 2) + 1)))], M)) rfl ?_
    refine am_xn 2 (c1 := (25, [.ref 1, .ref 6007, .int (zi 1)], [.int (zi 1), .ref 6007, .int (zi (tb M ((iv M 1 2) + 1)))], M)) rfl ?_
    refine am_xc t_Str_charAt (.invokevirtual 126) 126 (av := [.ref 6007, .int (zi 1)]) (rest := [.int (zi (tb M ((iv M 1 2) + 1)))]) (rv := some (.int (zi 117))) (M' := M) rfl rfl rfl rfl (Nat.le_of_ble_eq_true rfl) (fun _ => rfl) (sp_strat_7_1 M) ?_
    refine am_xn 0 (c1 := (28, [.ref 1, .ref 6007, .int (zi 1)], [.int (zi 117), .int (zi (tb M ((iv M 1 2) + 1)))], M)) rfl ?_
    refine am_xn 1 (c1 := (if zi (tb M ((iv M 1 2) + 1)) = zi 117 then 33 else 31, [.ref 1, .ref 6007, .int (zi 1)], [], M)) rfl (am_xeq (tb_r M ((iv M 1 2) + 1)) (by decide) (fun h => ?_) (fun h => ?_))
    · replace hv := hv.1 h
      refine am_xn 4 (c1 := (4, [.ref 1, .ref 6007, .int (zi 2)], [.ref 6007, .int (zi 2)], M)) rfl ?_
      refine am_xc t_Str_length (.invokevirtual 121) 121 (av := [.ref 6007]) (rest := [.int (zi 2)]) (rv := some (.int (zi 3))) (M' := M) rfl rfl rfl rfl (Nat.le_of_ble_eq_true rfl) (fun _ => rfl) (sp_strlen_7 M) ?_
      refine am_xn 0 (c1 := (7, [.ref 1, .ref 6007, .int (zi 2)], [.int (zi 3), .int (zi 2)], M)) rfl ?_
      refine am_xrd 5 1 2 (pc := 18) (ls := [.ref 1, .ref 6007, .int (zi 2)]) (st := [.ref 2]) rfl ?_
      refine am_xiadd 2 (iv M 1 2) 2 (pc := 20) (ls := [.ref 1, .ref 6007, .int (zi 2)]) (st := [.ref 2]) rfl ?_
      obtain ⟨g, hv⟩ := hv
      refine am_xc t_Pag_byteAt (.invokevirtual 102) 102 (av := [.ref 2, .int (zi ((iv M 1 2) + 2))]) (rest := []) (rv := some (.int (zi (tb M ((iv M 1 2) + 2))))) (M' := M) rfl rfl rfl rfl (Nat.le_of_ble_eq_true rfl) (fun _ => rfl) (sp_p2_byteAt M ((iv M 1 2) + 2) g) ?_
      refine am_xn 0 (c1 := (23, [.ref 1, .ref 6007, .int (zi 2)], [.int (zi (tb M ((iv M 1 2) + 2)))], M)) rfl ?_
      refine am_xn 2 (c1 := (25, [.ref 1, .ref 6007, .int (zi 2)], [.int (zi 2), .ref 6007, .int (zi (tb M ((iv M 1 2) + 2)))], M)) rfl ?_
      refine am_xc t_Str_charAt (.invokevirtual 126) 126 (av := [.ref 6007, .int (zi 2)]) (rest := [.int (zi (tb M ((iv M 1 2) + 2)))]) (rv := some (.int (zi 116))) (M' := M) rfl rfl rfl rfl (Nat.le_of_ble_eq_true rfl) (fun _ => rfl) (sp_strat_7_2 M) ?_
      refine am_xn 0 (c1 := (28, [.ref 1, .ref 6007, .int (zi 2)], [.int (zi 116), .int (zi (tb M ((iv M 1 2) + 2)))], M)) rfl ?_
      refine am_xn 1 (c1 := (if zi (tb M ((iv M 1 2) + 2)) = zi 116 then 33 else 31, [.ref 1, .ref 6007, .int (zi 2)], [], M)) rfl (am_xeq (tb_r M ((iv M 1 2) + 2)) (by decide) (fun h => ?_) (fun h => ?_))
      · replace hv := hv.1 h
        refine am_xn 4 (c1 := (4, [.ref 1, .ref 6007, .int (zi 3)], [.ref 6007, .int (zi 3)], M)) rfl ?_
        refine am_xc t_Str_length (.invokevirtual 121) 121 (av := [.ref 6007]) (rest := [.int (zi 3)]) (rv := some (.int (zi 3))) (M' := M) rfl rfl rfl rfl (Nat.le_of_ble_eq_true rfl) (fun _ => rfl) (sp_strlen_7 M) ?_
        refine am_xn 0 (c1 := (7, [.ref 1, .ref 6007, .int (zi 3)], [.int (zi 3), .int (zi 3)], M)) rfl ?_
        refine am_xrd 5 1 2 (pc := 47) (ls := [.ref 1, .ref 6007, .int (zi 3)]) (st := [.ref 2]) rfl ?_
        refine am_xn 1 (c1 := (48, [.ref 1, .ref 6007, .int (zi 3)], [.ref 6007, .int (zi (iv M 1 2)), .ref 2], M)) rfl ?_
        refine am_xc t_Str_length (.invokevirtual 121) 121 (av := [.ref 6007]) (rest := [.int (zi (iv M 1 2)), .ref 2]) (rv := some (.int (zi 3))) (M' := M) rfl rfl rfl rfl (Nat.le_of_ble_eq_true rfl) (fun _ => rfl) (sp_strlen_7 M) ?_
        refine am_xn 0 (c1 := (51, [.ref 1, .ref 6007, .int (zi 3)], [.int (zi 3), .int (zi (iv M 1 2)), .ref 2], M)) rfl ?_
        refine am_xiadd 1 (iv M 1 2) 3 (pc := 52) (ls := [.ref 1, .ref 6007, .int (zi 3)]) (st := [.ref 2]) rfl ?_
        obtain ⟨g, hv⟩ := hv
        refine am_xc t_Pag_byteAt (.invokevirtual 102) 102 (av := [.ref 2, .int (zi ((iv M 1 2) + 3))]) (rest := []) (rv := some (.int (zi (tb M ((iv M 1 2) + 3))))) (M' := M) rfl rfl rfl rfl (Nat.le_of_ble_eq_true rfl) (fun _ => rfl) (sp_p2_byteAt M ((iv M 1 2) + 3) g) ?_
        refine am_xn 0 (c1 := (55, [.ref 1, .ref 6007, .int (zi 3)], [.int (zi (tb M ((iv M 1 2) + 3)))], M)) rfl ?_
        refine am_xn 2 (c1 := (59, [.ref 1, .ref 6007, .int (zi 3)], [.int (zi 122), .int (zi 97), .int (zi (tb M ((iv M 1 2) + 3)))], M)) rfl ?_
        obtain ⟨g, hv⟩ := hv
        by_cases c2 : 97 ≤ (tb M ((iv M 1 2) + 3)) ∧ (tb M ((iv M 1 2) + 3)) ≤ 122
        · replace hv := hv.1 c2
          refine am_xc t_Rea_isBetween (.invokestatic 112) 112 (av := [.int (zi (tb M ((iv M 1 2) + 3))), .int (zi 97), .int (zi 122)]) (rest := []) (rv := some (.int (zi 1))) (M' := M) rfl rfl rfl rfl (Nat.le_of_ble_eq_true rfl) (fun h => nomatch h) (by have q := sp_isBetween M (tb M ((iv M 1 2) + 3)) 97 122 g; rwa [if_pos c2] at q) ?_
          refine am_xn 0 (c1 := (62, [.ref 1, .ref 6007, .int (zi 3)], [.int (zi 1)], M)) rfl ?_
          refine am_xn 2 (c1 := (66, [.ref 1, .ref 6007, .int (zi 3)], [.int (zi 0)], M)) rfl ?_
          exact am_xr (some (.int (zi 0))) ⟨rfl, rfl, .boolean, rfl, rfl⟩ hv
        · replace hv := hv.2 c2
          refine am_xc t_Rea_isBetween (.invokestatic 112) 112 (av := [.int (zi (tb M ((iv M 1 2) + 3))), .int (zi 97), .int (zi 122)]) (rest := []) (rv := some (.int (zi 0))) (M' := M) rfl rfl rfl rfl (Nat.le_of_ble_eq_true rfl) (fun h => nomatch h) (by have q := sp_isBetween M (tb M ((iv M 1 2) + 3)) 97 122 g; rwa [if_neg c2] at q) ?_
          refine am_xn 0 (c1 := (62, [.ref 1, .ref 6007, .int (zi 3)], [.int (zi 0)], M)) rfl ?_
          refine am_xrd 4 1 2 (pc := 72) (ls := [.ref 1, .ref 6007, .int (zi 3)]) (st := [.ref 1]) rfl ?_
          refine am_xn 1 (c1 := (73, [.ref 1, .ref 6007, .int (zi 3)], [.ref 6007, .int (zi (iv M 1 2)), .ref 1], M)) rfl ?_
          refine am_xc t_Str_length (.invokevirtual 121) 121 (av := [.ref 6007]) (rest := [.int (zi (iv M 1 2)), .ref 1]) (rv := some (.int (zi 3))) (M' := M) rfl rfl rfl rfl (Nat.le_of_ble_eq_true rfl) (fun _ => rfl) (sp_strlen_7 M) ?_
          refine am_xn 0 (c1 := (76, [.ref 1, .ref 6007, .int (zi 3)], [.int (zi 3), .int (zi (iv M 1 2)), .ref 1], M)) rfl ?_
          refine am_xiadd 1 (iv M 1 2) 3 (pc := 77) (ls := [.ref 1, .ref 6007, .int (zi 3)]) (st := [.ref 1]) rfl ?_
          refine am_xn 1 (c1 := (80, [.ref 1, .ref 6007, .int (zi 3)], [], zup M 1 2 ((iv M 1 2) + 3))) rfl ?_
          obtain ⟨M1, eM1⟩ : ∃ m, m = zup M 1 2 ((iv M 1 2) + 3) := ⟨_, rfl⟩
          replace hv := hv M1 eM1
          rw [← eM1]
          refine am_xn 1 (c1 := (81, [.ref 1, .ref 6007, .int (zi 3)], [.int (zi 1)], M1)) rfl ?_
          exact am_xr (some (.int (zi 1))) ⟨rfl, rfl, .boolean, rfl, rfl⟩ hv
      · replace hv := hv.2 h
        refine am_xn 1 (c1 := (32, [.ref 1, .ref 6007, .int (zi 2)], [.int (zi 0)], M)) rfl ?_
        exact am_xr (some (.int (zi 0))) ⟨rfl, rfl, .boolean, rfl, rfl⟩ hv
    · replace hv := hv.2 h
      refine am_xn 1 (c1 := (32, [.ref 1, .ref 6007, .int (zi 1)], [.int (zi 0)], M)) rfl ?_
      exact am_xr (some (.int (zi 0))) ⟨rfl, rfl, .boolean, rfl, rfl⟩ hv
  · replace hv := hv.2 h
    refine am_xn 1 (c1 := (32, [.ref 1, .ref 6007, .int (zi 0)], [.int (zi 0)], M)) rfl ?_
    exact am_xr (some (.int (zi 0))) ⟨rfl, rfl, .boolean, rfl, rfl⟩ hv
set_option maxRecDepth 100000 in
theorem vc_passes8  (M : am_M) (Q : Option Value → am_M → Prop) (hv : (zr ((iv M 1 2) + 0)) ∧ (((tb M ((iv M 1 2) + 0)) = 115 → (zr ((iv M 1 2) + 1)) ∧ (((tb M ((iv M 1 2) + 1)) = 97 → (zr ((iv M 1 2) + 2)) ∧ (((tb M ((iv M 1 2) + 2)) = 118 → (zr ((iv M 1 2) + 3)) ∧ (((tb M ((iv M 1 2) + 3)) = 105 → (zr ((iv M 1 2) + 4)) ∧ (((tb M ((iv M 1 2) + 4)) = 110 → (zr ((iv M 1 2) + 5)) ∧ (((tb M ((iv M 1 2) + 5)) = 103 → (zr ((iv M 1 2) + 6)) ∧ ((zr (tb M ((iv M 1 2) + 6)) ∧ zr (97 : Int) ∧ zr (122 : Int)) ∧ ((97 ≤ (tb M ((iv M 1 2) + 6)) ∧ (tb M ((iv M 1 2) + 6)) ≤ 122 → Q (some (.int (zi 0))) M) ∧ (¬ (97 ≤ (tb M ((iv M 1 2) + 6)) ∧ (tb M ((iv M 1 2) + 6)) ≤ 122) → ∀ M1, M1 = zup M 1 2 ((iv M 1 2) + 6) → Q (some (.int (zi 1))) M1)))) ∧ (¬ (tb M ((iv M 1 2) + 5)) = 103 → Q (some (.int (zi 0))) M))) ∧ (¬ (tb M ((iv M 1 2) + 4)) = 110 → Q (some (.int (zi 0))) M))) ∧ (¬ (tb M ((iv M 1 2) + 3)) = 105 → Q (some (.int (zi 0))) M))) ∧ (¬ (tb M ((iv M 1 2) + 2)) = 118 → Q (some (.int (zi 0))) M))) ∧ (¬ (tb M ((iv M 1 2) + 1)) = 97 → Q (some (.int (zi 0))) M))) ∧ (¬ (tb M ((iv M 1 2) + 0)) = 115 → Q (some (.int (zi 0))) M))) : am_x t_Rea_passes (0, am_ent (am_mL t_Rea_passes) [.ref 1, .ref 6008], [], M) Q := by
  refine am_xn 0 (c1 := (0, [.ref 1, .ref 6008, .null], [], M)) rfl ?_
  refine am_xn 4 (c1 := (4, [.ref 1, .ref 6008, .int (zi 0)], [.ref 6008, .int (zi 0)], M)) rfl ?_
  refine am_xc t_Str_length (.invokevirtual 121) 121 (av := [.ref 6008]) (rest := [.int (zi 0)]) (rv := some (.int (zi 6))) (M' := M) rfl rfl rfl rfl (Nat.le_of_ble_eq_true rfl) (fun _ => rfl) (sp_strlen_8 M) ?_
  refine am_xn 0 (c1 := (7, [.ref 1, .ref 6008, .int (zi 0)], [.int (zi 6), .int (zi 0)], M)) rfl ?_
  refine am_xrd 5 1 2 (pc := 18) (ls := [.ref 1, .ref 6008, .int (zi 0)]) (st := [.ref 2]) rfl ?_
  refine am_xiadd 2 (iv M 1 2) 0 (pc := 20) (ls := [.ref 1, .ref 6008, .int (zi 0)]) (st := [.ref 2]) rfl ?_
  obtain ⟨g, hv⟩ := hv
  refine am_xc t_Pag_byteAt (.invokevirtual 102) 102 (av := [.ref 2, .int (zi ((iv M 1 2) + 0))]) (rest := []) (rv := some (.int (zi (tb M ((iv M 1 2) + 0))))) (M' := M) rfl rfl rfl rfl (Nat.le_of_ble_eq_true rfl) (fun _ => rfl) (sp_p2_byteAt M ((iv M 1 2) + 0) g) ?_
  refine am_xn 0 (c1 := (23, [.ref 1, .ref 6008, .int (zi 0)], [.int (zi (tb M ((iv M 1 2) + 0)))], M)) rfl ?_
  refine am_xn 2 (c1 := (25, [.ref 1, .ref 6008, .int (zi 0)], [.int (zi 0), .ref 6008, .int (zi (tb M ((iv M 1 2) + 0)))], M)) rfl ?_
  refine am_xc t_Str_charAt (.invokevirtual 126) 126 (av := [.ref 6008, .int (zi 0)]) (rest := [.int (zi (tb M ((iv M 1 2) + 0)))]) (rv := some (.int (zi 115))) (M' := M) rfl rfl rfl rfl (Nat.le_of_ble_eq_true rfl) (fun _ => rfl) (sp_strat_8_0 M) ?_
  refine am_xn 0 (c1 := (28, [.ref 1, .ref 6008, .int (zi 0)], [.int (zi 115), .int (zi (tb M ((iv M 1 2) + 0)))], M)) rfl ?_
  refine am_xn 1 (c1 := (if zi (tb M ((iv M 1 2) + 0)) = zi 115 then 33 else 31, [.ref 1, .ref 6008, .int (zi 0)], [], M)) rfl (am_xeq (tb_r M ((iv M 1 2) + 0)) (by decide) (fun h => ?_) (fun h => ?_))
  · replace hv := hv.1 h
    refine am_xn 4 (c1 := (4, [.ref 1, .ref 6008, .int (zi 1)], [.ref 6008, .int (zi 1)], M)) rfl ?_
    refine am_xc t_Str_length (.invokevirtual 121) 121 (av := [.ref 6008]) (rest := [.int (zi 1)]) (rv := some (.int (zi 6))) (M' := M) rfl rfl rfl rfl (Nat.le_of_ble_eq_true rfl) (fun _ => rfl) (sp_strlen_8 M) ?_
    refine am_xn 0 (c1 := (7, [.ref 1, .ref 6008, .int (zi 1)], [.int (zi 6), .int (zi 1)], M)) rfl ?_
    refine am_xrd 5 1 2 (pc := 18) (ls := [.ref 1, .ref 6008, .int (zi 1)]) (st := [.ref 2]) rfl ?_
    refine am_xiadd 2 (iv M 1 2) 1 (pc := 20) (ls := [.ref 1, .ref 6008, .int (zi 1)]) (st := [.ref 2]) rfl ?_
    obtain ⟨g, hv⟩ := hv
    refine am_xc t_Pag_byteAt (.invokevirtual 102) 102 (av := [.ref 2, .int (zi ((iv M 1 2) + 1))]) (rest := []) (rv := some (.int (zi (tb M ((iv M 1 2) + 1))))) (M' := M) rfl rfl rfl rfl (Nat.le_of_ble_eq_true rfl) (fun _ => rfl) (sp_p2_byteAt M ((iv M 1 2) + 1) g) ?_
    refine am_xn 0 (c1 := (23, [.ref 1, .ref 6008, .int (zi 1)], [.int (zi (tb M ((iv M 1 2) + 1)))], M)) rfl ?_
    refine am_xn 2 (c1 := (25, [.ref 1, .ref 6008, .int (zi 1)], [.int (zi 1), .ref 6008, .int (zi (tb M ((iv M 1 2) + 1)))], M)) rfl ?_
    refine am_xc t_Str_charAt (.invokevirtual 126) 126 (av := [.ref 6008, .int (zi 1)]) (rest := [.int (zi (tb M ((iv M 1 2) + 1)))]) (rv := some (.int (zi 97))) (M' := M) rfl rfl rfl rfl (Nat.le_of_ble_eq_true rfl) (fun _ => rfl) (sp_strat_8_1 M) ?_
    refine am_xn 0 (c1 := (28, [.ref 1, .ref 6008, .int (zi 1)], [.int (zi 97), .int (zi (tb M ((iv M 1 2) + 1)))], M)) rfl ?_
    refine am_xn 1 (c1 := (if zi (tb M ((iv M 1 2) + 1)) = zi 97 then 33 else 31, [.ref 1, .ref 6008, .int (zi 1)], [], M)) rfl (am_xeq (tb_r M ((iv M 1 2) + 1)) (by decide) (fun h => ?_) (fun h => ?_))
    · replace hv := hv.1 h
      refine am_xn 4 (c1 := (4, [.ref 1, .ref 6008, .int (zi 2)], [.ref 6008, .int (zi 2)], M)) rfl ?_
      refine am_xc t_Str_length (.invokevirtual 121) 121 (av := [.ref 6008]) (rest := [.int (zi 2)]) (rv := some (.int (zi 6))) (M' := M) rfl rfl rfl rfl (Nat.le_of_ble_eq_true rfl) (fun _ => rfl) (sp_strlen_8 M) ?_
      refine am_xn 0 (c1 := (7, [.ref 1, .ref 6008, .int (zi 2)], [.int (zi 6), .int (zi 2)], M)) rfl ?_
      refine am_xrd 5 1 2 (pc := 18) (ls := [.ref 1, .ref 6008, .int (zi 2)]) (st := [.ref 2]) rfl ?_
      refine am_xiadd 2 (iv M 1 2) 2 (pc := 20) (ls := [.ref 1, .ref 6008, .int (zi 2)]) (st := [.ref 2]) rfl ?_
      obtain ⟨g, hv⟩ := hv
      refine am_xc t_Pag_byteAt (.invokevirtual 102) 102 (av := [.ref 2, .int (zi ((iv M 1 2) + 2))]) (rest := []) (rv := some (.int (zi (tb M ((iv M 1 2) + 2))))) (M' := M) rfl rfl rfl rfl (Nat.le_of_ble_eq_true rfl) (fun _ => rfl) (sp_p2_byteAt M ((iv M 1 2) + 2) g) ?_
      refine am_xn 0 (c1 := (23, [.ref 1, .ref 6008, .int (zi 2)], [.int (zi (tb M ((iv M 1 2) + 2)))], M)) rfl ?_
      refine am_xn 2 (c1 := (25, [.ref 1, .ref 6008, .int (zi 2)], [.int (zi 2), .ref 6008, .int (zi (tb M ((iv M 1 2) + 2)))], M)) rfl ?_
      refine am_xc t_Str_charAt (.invokevirtual 126) 126 (av := [.ref 6008, .int (zi 2)]) (rest := [.int (zi (tb M ((iv M 1 2) + 2)))]) (rv := some (.int (zi 118))) (M' := M) rfl rfl rfl rfl (Nat.le_of_ble_eq_true rfl) (fun _ => rfl) (sp_strat_8_2 M) ?_
      refine am_xn 0 (c1 := (28, [.ref 1, .ref 6008, .int (zi 2)], [.int (zi 118), .int (zi (tb M ((iv M 1 2) + 2)))], M)) rfl ?_
      refine am_xn 1 (c1 := (if zi (tb M ((iv M 1 2) + 2)) = zi 118 then 33 else 31, [.ref 1, .ref 6008, .int (zi 2)], [], M)) rfl (am_xeq (tb_r M ((iv M 1 2) + 2)) (by decide) (fun h => ?_) (fun h => ?_))
      · replace hv := hv.1 h
        refine am_xn 4 (c1 := (4, [.ref 1, .ref 6008, .int (zi 3)], [.ref 6008, .int (zi 3)], M)) rfl ?_
        refine am_xc t_Str_length (.invokevirtual 121) 121 (av := [.ref 6008]) (rest := [.int (zi 3)]) (rv := some (.int (zi 6))) (M' := M) rfl rfl rfl rfl (Nat.le_of_ble_eq_true rfl) (fun _ => rfl) (sp_strlen_8 M) ?_
        refine am_xn 0 (c1 := (7, [.ref 1, .ref 6008, .int (zi 3)], [.int (zi 6), .int (zi 3)], M)) rfl ?_
        refine am_xrd 5 1 2 (pc := 18) (ls := [.ref 1, .ref 6008, .int (zi 3)]) (st := [.ref 2]) rfl ?_
        refine am_xiadd 2 (iv M 1 2) 3 (pc := 20) (ls := [.ref 1, .ref 6008, .int (zi 3)]) (st := [.ref 2]) rfl ?_
        obtain ⟨g, hv⟩ := hv
        refine am_xc t_Pag_byteAt (.invokevirtual 102) 102 (av := [.ref 2, .int (zi ((iv M 1 2) + 3))]) (rest := []) (rv := some (.int (zi (tb M ((iv M 1 2) + 3))))) (M' := M) rfl rfl rfl rfl (Nat.le_of_ble_eq_true rfl) (fun _ => rfl) (sp_p2_byteAt M ((iv M 1 2) + 3) g) ?_
        refine am_xn 0 (c1 := (23, [.ref 1, .ref 6008, .int (zi 3)], [.int (zi (tb M ((iv M 1 2) + 3)))], M)) rfl ?_
        refine am_xn 2 (c1 := (25, [.ref 1, .ref 6008, .int (zi 3)], [.int (zi 3), .ref 6008, .int (zi (tb M ((iv M 1 2) + 3)))], M)) rfl ?_
        refine am_xc t_Str_charAt (.invokevirtual 126) 126 (av := [.ref 6008, .int (zi 3)]) (rest := [.int (zi (tb M ((iv M 1 2) + 3)))]) (rv := some (.int (zi 105))) (M' := M) rfl rfl rfl rfl (Nat.le_of_ble_eq_true rfl) (fun _ => rfl) (sp_strat_8_3 M) ?_
        refine am_xn 0 (c1 := (28, [.ref 1, .ref 6008, .int (zi 3)], [.int (zi 105), .int (zi (tb M ((iv M 1 2) + 3)))], M)) rfl ?_
        refine am_xn 1 (c1 := (if zi (tb M ((iv M 1 2) + 3)) = zi 105 then 33 else 31, [.ref 1, .ref 6008, .int (zi 3)], [], M)) rfl (am_xeq (tb_r M ((iv M 1 2) + 3)) (by decide) (fun h => ?_) (fun h => ?_))
        · replace hv := hv.1 h
          refine am_xn 4 (c1 := (4, [.ref 1, .ref 6008, .int (zi 4)], [.ref 6008, .int (zi 4)], M)) rfl ?_
          refine am_xc t_Str_length (.invokevirtual 121) 121 (av := [.ref 6008]) (rest := [.int (zi 4)]) (rv := some (.int (zi 6))) (M' := M) rfl rfl rfl rfl (Nat.le_of_ble_eq_true rfl) (fun _ => rfl) (sp_strlen_8 M) ?_
          refine am_xn 0 (c1 := (7, [.ref 1, .ref 6008, .int (zi 4)], [.int (zi 6), .int (zi 4)], M)) rfl ?_
          refine am_xrd 5 1 2 (pc := 18) (ls := [.ref 1, .ref 6008, .int (zi 4)]) (st := [.ref 2]) rfl ?_
          refine am_xiadd 2 (iv M 1 2) 4 (pc := 20) (ls := [.ref 1, .ref 6008, .int (zi 4)]) (st := [.ref 2]) rfl ?_
          obtain ⟨g, hv⟩ := hv
          refine am_xc t_Pag_byteAt (.invokevirtual 102) 102 (av := [.ref 2, .int (zi ((iv M 1 2) + 4))]) (rest := []) (rv := some (.int (zi (tb M ((iv M 1 2) + 4))))) (M' := M) rfl rfl rfl rfl (Nat.le_of_ble_eq_true rfl) (fun _ => rfl) (sp_p2_byteAt M ((iv M 1 2) + 4) g) ?_
          refine am_xn 0 (c1 := (23, [.ref 1, .ref 6008, .int (zi 4)], [.int (zi (tb M ((iv M 1 2) + 4)))], M)) rfl ?_
          refine am_xn 2 (c1 := (25, [.ref 1, .ref 6008, .int (zi 4)], [.int (zi 4), .ref 6008, .int (zi (tb M ((iv M 1 2) + 4)))], M)) rfl ?_
          refine am_xc t_Str_charAt (.invokevirtual 126) 126 (av := [.ref 6008, .int (zi 4)]) (rest := [.int (zi (tb M ((iv M 1 2) + 4)))]) (rv := some (.int (zi 110))) (M' := M) rfl rfl rfl rfl (Nat.le_of_ble_eq_true rfl) (fun _ => rfl) (sp_strat_8_4 M) ?_
          refine am_xn 0 (c1 := (28, [.ref 1, .ref 6008, .int (zi 4)], [.int (zi 110), .int (zi (tb M ((iv M 1 2) + 4)))], M)) rfl ?_
          refine am_xn 1 (c1 := (if zi (tb M ((iv M 1 2) + 4)) = zi 110 then 33 else 31, [.ref 1, .ref 6008, .int (zi 4)], [], M)) rfl (am_xeq (tb_r M ((iv M 1 2) + 4)) (by decide) (fun h => ?_) (fun h => ?_))
          · replace hv := hv.1 h
            refine am_xn 4 (c1 := (4, [.ref 1, .ref 6008, .int (zi 5)], [.ref 6008, .int (zi 5)], M)) rfl ?_
            refine am_xc t_Str_length (.invokevirtual 121) 121 (av := [.ref 6008]) (rest := [.int (zi 5)]) (rv := some (.int (zi 6))) (M' := M) rfl rfl rfl rfl (Nat.le_of_ble_eq_true rfl) (fun _ => rfl) (sp_strlen_8 M) ?_
            refine am_xn 0 (c1 := (7, [.ref 1, .ref 6008, .int (zi 5)], [.int (zi 6), .int (zi 5)], M)) rfl ?_
            refine am_xrd 5 1 2 (pc := 18) (ls := [.ref 1, .ref 6008, .int (zi 5)]) (st := [.ref 2]) rfl ?_
            refine am_xiadd 2 (iv M 1 2) 5 (pc := 20) (ls := [.ref 1, .ref 6008, .int (zi 5)]) (st := [.ref 2]) rfl ?_
            obtain ⟨g, hv⟩ := hv
            refine am_xc t_Pag_byteAt (.invokevirtual 102) 102 (av := [.ref 2, .int (zi ((iv M 1 2) + 5))]) (rest := []) (rv := some (.int (zi (tb M ((iv M 1 2) + 5))))) (M' := M) rfl rfl rfl rfl (Nat.le_of_ble_eq_true rfl) (fun _ => rfl) (sp_p2_byteAt M ((iv M 1 2) + 5) g) ?_
            refine am_xn 0 (c1 := (23, [.ref 1, .ref 6008, .int (zi 5)], [.int (zi (tb M ((iv M 1 2) + 5)))], M)) rfl ?_
            refine am_xn 2 (c1 := (25, [.ref 1, .ref 6008, .int (zi 5)], [.int (zi 5), .ref 6008, .int (zi (tb M ((iv M 1 2) + 5)))], M)) rfl ?_
            refine am_xc t_Str_charAt (.invokevirtual 126) 126 (av := [.ref 6008, .int (zi 5)]) (rest := [.int (zi (tb M ((iv M 1 2) + 5)))]) (rv := some (.int (zi 103))) (M' := M) rfl rfl rfl rfl (Nat.le_of_ble_eq_true rfl) (fun _ => rfl) (sp_strat_8_5 M) ?_
            refine am_xn 0 (c1 := (28, [.ref 1, .ref 6008, .int (zi 5)], [.int (zi 103), .int (zi (tb M ((iv M 1 2) + 5)))], M)) rfl ?_
            refine am_xn 1 (c1 := (if zi (tb M ((iv M 1 2) + 5)) = zi 103 then 33 else 31, [.ref 1, .ref 6008, .int (zi 5)], [], M)) rfl (am_xeq (tb_r M ((iv M 1 2) + 5)) (by decide) (fun h => ?_) (fun h => ?_))
            · replace hv := hv.1 h
              refine am_xn 4 (c1 := (4, [.ref 1, .ref 6008, .int (zi 6)], [.ref 6008, .int (zi 6)], M)) rfl ?_
              refine am_xc t_Str_length (.invokevirtual 121) 121 (av := [.ref 6008]) (rest := [.int (zi 6)]) (rv := some (.int (zi 6))) (M' := M) rfl rfl rfl rfl (Nat.le_of_ble_eq_true rfl) (fun _ => rfl) (sp_strlen_8 M) ?_
              refine am_xn 0 (c1 := (7, [.ref 1, .ref 6008, .int (zi 6)], [.int (zi 6), .int (zi 6)], M)) rfl ?_
              refine am_xrd 5 1 2 (pc := 47) (ls := [.ref 1, .ref 6008, .int (zi 6)]) (st := [.ref 2]) rfl ?_
              refine am_xn 1 (c1 := (48, [.ref 1, .ref 6008, .int (zi 6)], [.ref 6008, .int (zi (iv M 1 2)), .ref 2], M)) rfl ?_
              refine am_xc t_Str_length (.invokevirtual 121) 121 (av := [.ref 6008]) (rest := [.int (zi (iv M 1 2)), .ref 2]) (rv := some (.int (zi 6))) (M' := M) rfl rfl rfl rfl (Nat.le_of_ble_eq_true rfl) (fun _ => rfl) (sp_strlen_8 M) ?_
              refine am_xn 0 (c1 := (51, [.ref 1, .ref 6008, .int (zi 6)], [.int (zi 6), .int (zi (iv M 1 2)), .ref 2], M)) rfl ?_
              refine am_xiadd 1 (iv M 1 2) 6 (pc := 52) (ls := [.ref 1, .ref 6008, .int (zi 6)]) (st := [.ref 2]) rfl ?_
              obtain ⟨g, hv⟩ := hv
              refine am_xc t_Pag_byteAt (.invokevirtual 102) 102 (av := [.ref 2, .int (zi ((iv M 1 2) + 6))]) (rest := []) (rv := some (.int (zi (tb M ((iv M 1 2) + 6))))) (M' := M) rfl rfl rfl rfl (Nat.le_of_ble_eq_true rfl) (fun _ => rfl) (sp_p2_byteAt M ((iv M 1 2) + 6) g) ?_
              refine am_xn 0 (c1 := (55, [.ref 1, .ref 6008, .int (zi 6)], [.int (zi (tb M ((iv M 1 2) + 6)))], M)) rfl ?_
              refine am_xn 2 (c1 := (59, [.ref 1, .ref 6008, .int (zi 6)], [.int (zi 122), .int (zi 97), .int (zi (tb M ((iv M 1 2) + 6)))], M)) rfl ?_
              obtain ⟨g, hv⟩ := hv
              by_cases c2 : 97 ≤ (tb M ((iv M 1 2) + 6)) ∧ (tb M ((iv M 1 2) + 6)) ≤ 122
              · replace hv := hv.1 c2
                refine am_xc t_Rea_isBetween (.invokestatic 112) 112 (av := [.int (zi (tb M ((iv M 1 2) + 6))), .int (zi 97), .int (zi 122)]) (rest := []) (rv := some (.int (zi 1))) (M' := M) rfl rfl rfl rfl (Nat.le_of_ble_eq_true rfl) (fun h => nomatch h) (by have q := sp_isBetween M (tb M ((iv M 1 2) + 6)) 97 122 g; rwa [if_pos c2] at q) ?_
                refine am_xn 0 (c1 := (62, [.ref 1, .ref 6008, .int (zi 6)], [.int (zi 1)], M)) rfl ?_
                refine am_xn 2 (c1 := (66, [.ref 1, .ref 6008, .int (zi 6)], [.int (zi 0)], M)) rfl ?_
                exact am_xr (some (.int (zi 0))) ⟨rfl, rfl, .boolean, rfl, rfl⟩ hv
              · replace hv := hv.2 c2
                refine am_xc t_Rea_isBetween (.invokestatic 112) 112 (av := [.int (zi (tb M ((iv M 1 2) + 6))), .int (zi 97), .int (zi 122)]) (rest := []) (rv := some (.int (zi 0))) (M' := M) rfl rfl rfl rfl (Nat.le_of_ble_eq_true rfl) (fun h => nomatch h) (by have q := sp_isBetween M (tb M ((iv M 1 2) + 6)) 97 122 g; rwa [if_neg c2] at q) ?_
                refine am_xn 0 (c1 := (62, [.ref 1, .ref 6008, .int (zi 6)], [.int (zi 0)], M)) rfl ?_
                refine am_xrd 4 1 2 (pc := 72) (ls := [.ref 1, .ref 6008, .int (zi 6)]) (st := [.ref 1]) rfl ?_
                refine am_xn 1 (c1 := (73, [.ref 1, .ref 6008, .int (zi 6)], [.ref 6008, .int (zi (iv M 1 2)), .ref 1], M)) rfl ?_
                refine am_xc t_Str_length (.invokevirtual 121) 121 (av := [.ref 6008]) (rest := [.int (zi (iv M 1 2)), .ref 1]) (rv := some (.int (zi 6))) (M' := M) rfl rfl rfl rfl (Nat.le_of_ble_eq_true rfl) (fun _ => rfl) (sp_strlen_8 M) ?_
                refine am_xn 0 (c1 := (76, [.ref 1, .ref 6008, .int (zi 6)], [.int (zi 6), .int (zi (iv M 1 2)), .ref 1], M)) rfl ?_
                refine am_xiadd 1 (iv M 1 2) 6 (pc := 77) (ls := [.ref 1, .ref 6008, .int (zi 6)]) (st := [.ref 1]) rfl ?_
                refine am_xn 1 (c1 := (80, [.ref 1, .ref 6008, .int (zi 6)], [], zup M 1 2 ((iv M 1 2) + 6))) rfl ?_
                obtain ⟨M1, eM1⟩ : ∃ m, m = zup M 1 2 ((iv M 1 2) + 6) := ⟨_, rfl⟩
                replace hv := hv M1 eM1
                rw [← eM1]
                refine am_xn 1 (c1 := (81, [.ref 1, .ref 6008, .int (zi 6)], [.int (zi 1)], M1)) rfl ?_
                exact am_xr (some (.int (zi 1))) ⟨rfl, rfl, .boolean, rfl, rfl⟩ hv
            · replace hv := hv.2 h
              refine am_xn 1 (c1 := (32, [.ref 1, .ref 6008, .int (zi 5)], [.int (zi 0)], M)) rfl ?_
              exact am_xr (some (.int (zi 0))) ⟨rfl, rfl, .boolean, rfl, rfl⟩ hv
          · replace hv := hv.2 h
            refine am_xn 1 (c1 := (32, [.ref 1, .ref 6008, .int (zi 4)], [.int (zi 0)], M)) rfl ?_
            exact am_xr (some (.int (zi 0))) ⟨rfl, rfl, .boolean, rfl, rfl⟩ hv
        · replace hv := hv.2 h
          refine am_xn 1 (c1 := (32, [.ref 1, .ref 6008, .int (zi 3)], [.int (zi 0)], M)) rfl ?_
          exact am_xr (some (.int (zi 0))) ⟨rfl, rfl, .boolean, rfl, rfl⟩ hv
      · replace hv := hv.2 h
        refine am_xn 1 (c1 := (32, [.ref 1, .ref 6008, .int (zi 2)], [.int (zi 0)], M)) rfl ?_
        exact am_xr (some (.int (zi 0))) ⟨rfl, rfl, .boolean, rfl, rfl⟩ hv
    · replace hv := hv.2 h
      refine am_xn 1 (c1 := (32, [.ref 1, .ref 6008, .int (zi 1)], [.int (zi 0)], M)) rfl ?_
      exact am_xr (some (.int (zi 0))) ⟨rfl, rfl, .boolean, rfl, rfl⟩ hv
  · replace hv := hv.2 h
    refine am_xn 1 (c1 := (32, [.ref 1, .ref 6008, .int (zi 0)], [.int (zi 0)], M)) rfl ?_
    exact am_xr (some (.int (zi 0))) ⟨rfl, rfl, .boolean, rfl, rfl⟩ hv
set_option maxRecDepth 100000 in
theorem vc_expect5  (M : am_M) (Q : Option Value → am_M → Prop) (hv : ∃ M1, am_call t_Rea_skipBlanks [.ref 1] M none M1 ∧ (∃ (r3 : Int) (M2 : am_M), am_call t_Rea_passes [.ref 1, .ref 6005] M1 (some (.int (zi r3))) M2 ∧ ((zr r3) ∧ ((r3 = 0 → ∃ M5, am_call t_Rea_fail [.ref 1, .int (zi (iv M2 1 2))] M2 none M5 ∧ (Q none M5)) ∧ (¬ r3 = 0 → Q none M2))))) : am_x t_Rea_expect (0, am_ent (am_mL t_Rea_expect) [.ref 1, .ref 6005], [], M) Q := by
  refine am_xn 0 (c1 := (0, [.ref 1, .ref 6005], [], M)) rfl ?_
  refine am_xn 1 (c1 := (1, [.ref 1, .ref 6005], [.ref 1], M)) rfl ?_
  obtain ⟨M1, hc, hv⟩ := hv
  refine am_xc t_Rea_skipBlanks (.invokevirtual 44) 44 (av := [.ref 1]) (rest := []) (rv := none) (M' := M1) rfl rfl rfl rfl (Nat.le_of_ble_eq_true rfl) (fun _ => rfl) (hc) ?_
  refine am_xn 0 (c1 := (4, [.ref 1, .ref 6005], [], M1)) rfl ?_
  refine am_xn 2 (c1 := (6, [.ref 1, .ref 6005], [.ref 6005, .ref 1], M1)) rfl ?_
  obtain ⟨r3, M2, hc, hv⟩ := hv
  refine am_xc t_Rea_passes (.invokevirtual 87) 87 (av := [.ref 1, .ref 6005]) (rest := []) (rv := some (.int (zi r3))) (M' := M2) rfl rfl rfl rfl (Nat.le_of_ble_eq_true rfl) (fun _ => rfl) (hc) ?_
  refine am_xn 0 (c1 := (9, [.ref 1, .ref 6005], [.int (zi r3)], M2)) rfl ?_
  obtain ⟨r4, hv⟩ := hv
  refine am_xn 1 (c1 := (if zi r3 = zi 0 then 12 else 20, [.ref 1, .ref 6005], [], M2)) rfl (am_xeq r4 (by decide) (fun h => ?_) (fun h => ?_))
  · replace hv := hv.1 h
    refine am_xrd 3 1 2 (pc := 17) (ls := [.ref 1, .ref 6005]) (st := [.ref 1]) rfl ?_
    obtain ⟨M5, hc, hv⟩ := hv
    refine am_xc t_Rea_fail (.invokevirtual 54) 54 (av := [.ref 1, .int (zi (iv M2 1 2))]) (rest := []) (rv := none) (M' := M5) rfl rfl rfl rfl (Nat.le_of_ble_eq_true rfl) (fun _ => rfl) (hc) ?_
    refine am_xn 0 (c1 := (20, [.ref 1, .ref 6005], [], M5)) rfl ?_
    exact am_xr none ⟨rfl, rfl, rfl⟩ hv
  · replace hv := hv.2 h
    exact am_xr none ⟨rfl, rfl, rfl⟩ hv
set_option maxRecDepth 100000 in
theorem vc_expect6  (M : am_M) (Q : Option Value → am_M → Prop) (hv : ∃ M1, am_call t_Rea_skipBlanks [.ref 1] M none M1 ∧ (∃ (r3 : Int) (M2 : am_M), am_call t_Rea_passes [.ref 1, .ref 6006] M1 (some (.int (zi r3))) M2 ∧ ((zr r3) ∧ ((r3 = 0 → ∃ M5, am_call t_Rea_fail [.ref 1, .int (zi (iv M2 1 2))] M2 none M5 ∧ (Q none M5)) ∧ (¬ r3 = 0 → Q none M2))))) : am_x t_Rea_expect (0, am_ent (am_mL t_Rea_expect) [.ref 1, .ref 6006], [], M) Q := by
  refine am_xn 0 (c1 := (0, [.ref 1, .ref 6006], [], M)) rfl ?_
  refine am_xn 1 (c1 := (1, [.ref 1, .ref 6006], [.ref 1], M)) rfl ?_
  obtain ⟨M1, hc, hv⟩ := hv
  refine am_xc t_Rea_skipBlanks (.invokevirtual 44) 44 (av := [.ref 1]) (rest := []) (rv := none) (M' := M1) rfl rfl rfl rfl (Nat.le_of_ble_eq_true rfl) (fun _ => rfl) (hc) ?_
  refine am_xn 0 (c1 := (4, [.ref 1, .ref 6006], [], M1)) rfl ?_
  refine am_xn 2 (c1 := (6, [.ref 1, .ref 6006], [.ref 6006, .ref 1], M1)) rfl ?_
  obtain ⟨r3, M2, hc, hv⟩ := hv
  refine am_xc t_Rea_passes (.invokevirtual 87) 87 (av := [.ref 1, .ref 6006]) (rest := []) (rv := some (.int (zi r3))) (M' := M2) rfl rfl rfl rfl (Nat.le_of_ble_eq_true rfl) (fun _ => rfl) (hc) ?_
  refine am_xn 0 (c1 := (9, [.ref 1, .ref 6006], [.int (zi r3)], M2)) rfl ?_
  obtain ⟨r4, hv⟩ := hv
  refine am_xn 1 (c1 := (if zi r3 = zi 0 then 12 else 20, [.ref 1, .ref 6006], [], M2)) rfl (am_xeq r4 (by decide) (fun h => ?_) (fun h => ?_))
  · replace hv := hv.1 h
    refine am_xrd 3 1 2 (pc := 17) (ls := [.ref 1, .ref 6006]) (st := [.ref 1]) rfl ?_
    obtain ⟨M5, hc, hv⟩ := hv
    refine am_xc t_Rea_fail (.invokevirtual 54) 54 (av := [.ref 1, .int (zi (iv M2 1 2))]) (rest := []) (rv := none) (M' := M5) rfl rfl rfl rfl (Nat.le_of_ble_eq_true rfl) (fun _ => rfl) (hc) ?_
    refine am_xn 0 (c1 := (20, [.ref 1, .ref 6006], [], M5)) rfl ?_
    exact am_xr none ⟨rfl, rfl, rfl⟩ hv
  · replace hv := hv.2 h
    exact am_xr none ⟨rfl, rfl, rfl⟩ hv
set_option maxRecDepth 100000 in
theorem vc_expect7  (M : am_M) (Q : Option Value → am_M → Prop) (hv : ∃ M1, am_call t_Rea_skipBlanks [.ref 1] M none M1 ∧ (∃ (r3 : Int) (M2 : am_M), am_call t_Rea_passes [.ref 1, .ref 6007] M1 (some (.int (zi r3))) M2 ∧ ((zr r3) ∧ ((r3 = 0 → ∃ M5, am_call t_Rea_fail [.ref 1, .int (zi (iv M2 1 2))] M2 none M5 ∧ (Q none M5)) ∧ (¬ r3 = 0 → Q none M2))))) : am_x t_Rea_expect (0, am_ent (am_mL t_Rea_expect) [.ref 1, .ref 6007], [], M) Q := by
  refine am_xn 0 (c1 := (0, [.ref 1, .ref 6007], [], M)) rfl ?_
  refine am_xn 1 (c1 := (1, [.ref 1, .ref 6007], [.ref 1], M)) rfl ?_
  obtain ⟨M1, hc, hv⟩ := hv
  refine am_xc t_Rea_skipBlanks (.invokevirtual 44) 44 (av := [.ref 1]) (rest := []) (rv := none) (M' := M1) rfl rfl rfl rfl (Nat.le_of_ble_eq_true rfl) (fun _ => rfl) (hc) ?_
  refine am_xn 0 (c1 := (4, [.ref 1, .ref 6007], [], M1)) rfl ?_
  refine am_xn 2 (c1 := (6, [.ref 1, .ref 6007], [.ref 6007, .ref 1], M1)) rfl ?_
  obtain ⟨r3, M2, hc, hv⟩ := hv
  refine am_xc t_Rea_passes (.invokevirtual 87) 87 (av := [.ref 1, .ref 6007]) (rest := []) (rv := some (.int (zi r3))) (M' := M2) rfl rfl rfl rfl (Nat.le_of_ble_eq_true rfl) (fun _ => rfl) (hc) ?_
  refine am_xn 0 (c1 := (9, [.ref 1, .ref 6007], [.int (zi r3)], M2)) rfl ?_
  obtain ⟨r4, hv⟩ := hv
  refine am_xn 1 (c1 := (if zi r3 = zi 0 then 12 else 20, [.ref 1, .ref 6007], [], M2)) rfl (am_xeq r4 (by decide) (fun h => ?_) (fun h => ?_))
  · replace hv := hv.1 h
    refine am_xrd 3 1 2 (pc := 17) (ls := [.ref 1, .ref 6007]) (st := [.ref 1]) rfl ?_
    obtain ⟨M5, hc, hv⟩ := hv
    refine am_xc t_Rea_fail (.invokevirtual 54) 54 (av := [.ref 1, .int (zi (iv M2 1 2))]) (rest := []) (rv := none) (M' := M5) rfl rfl rfl rfl (Nat.le_of_ble_eq_true rfl) (fun _ => rfl) (hc) ?_
    refine am_xn 0 (c1 := (20, [.ref 1, .ref 6007], [], M5)) rfl ?_
    exact am_xr none ⟨rfl, rfl, rfl⟩ hv
  · replace hv := hv.2 h
    exact am_xr none ⟨rfl, rfl, rfl⟩ hv
set_option maxRecDepth 100000 in
theorem vc_expect8  (M : am_M) (Q : Option Value → am_M → Prop) (hv : ∃ M1, am_call t_Rea_skipBlanks [.ref 1] M none M1 ∧ (∃ (r3 : Int) (M2 : am_M), am_call t_Rea_passes [.ref 1, .ref 6008] M1 (some (.int (zi r3))) M2 ∧ ((zr r3) ∧ ((r3 = 0 → ∃ M5, am_call t_Rea_fail [.ref 1, .int (zi (iv M2 1 2))] M2 none M5 ∧ (Q none M5)) ∧ (¬ r3 = 0 → Q none M2))))) : am_x t_Rea_expect (0, am_ent (am_mL t_Rea_expect) [.ref 1, .ref 6008], [], M) Q := by
  refine am_xn 0 (c1 := (0, [.ref 1, .ref 6008], [], M)) rfl ?_
  refine am_xn 1 (c1 := (1, [.ref 1, .ref 6008], [.ref 1], M)) rfl ?_
  obtain ⟨M1, hc, hv⟩ := hv
  refine am_xc t_Rea_skipBlanks (.invokevirtual 44) 44 (av := [.ref 1]) (rest := []) (rv := none) (M' := M1) rfl rfl rfl rfl (Nat.le_of_ble_eq_true rfl) (fun _ => rfl) (hc) ?_
  refine am_xn 0 (c1 := (4, [.ref 1, .ref 6008], [], M1)) rfl ?_
  refine am_xn 2 (c1 := (6, [.ref 1, .ref 6008], [.ref 6008, .ref 1], M1)) rfl ?_
  obtain ⟨r3, M2, hc, hv⟩ := hv
  refine am_xc t_Rea_passes (.invokevirtual 87) 87 (av := [.ref 1, .ref 6008]) (rest := []) (rv := some (.int (zi r3))) (M' := M2) rfl rfl rfl rfl (Nat.le_of_ble_eq_true rfl) (fun _ => rfl) (hc) ?_
  refine am_xn 0 (c1 := (9, [.ref 1, .ref 6008], [.int (zi r3)], M2)) rfl ?_
  obtain ⟨r4, hv⟩ := hv
  refine am_xn 1 (c1 := (if zi r3 = zi 0 then 12 else 20, [.ref 1, .ref 6008], [], M2)) rfl (am_xeq r4 (by decide) (fun h => ?_) (fun h => ?_))
  · replace hv := hv.1 h
    refine am_xrd 3 1 2 (pc := 17) (ls := [.ref 1, .ref 6008]) (st := [.ref 1]) rfl ?_
    obtain ⟨M5, hc, hv⟩ := hv
    refine am_xc t_Rea_fail (.invokevirtual 54) 54 (av := [.ref 1, .int (zi (iv M2 1 2))]) (rest := []) (rv := none) (M' := M5) rfl rfl rfl rfl (Nat.le_of_ble_eq_true rfl) (fun _ => rfl) (hc) ?_
    refine am_xn 0 (c1 := (20, [.ref 1, .ref 6008], [], M5)) rfl ?_
    exact am_xr none ⟨rfl, rfl, rfl⟩ hv
  · replace hv := hv.2 h
    exact am_xr none ⟨rfl, rfl, rfl⟩ hv
theorem sp_c_fail {M0 M : am_M} {p f x : Int} (g : CRd M0 p f M) (xz : zr x) : ∃ M', am_call t_Rea_fail [.ref 1, .int (zi x)] M none M' ∧ CRd M0 p (th f x) M' := by
  suffices hh : am_x t_Rea_fail (0, am_ent (am_mL t_Rea_fail) [.ref 1, .int (zi x)], [], M) (fun rv M' => rv = none ∧ CRd M0 p (th f x) M') by
    obtain ⟨rv, M', c1, c2, c3⟩ := am_call_ex (by exact ⟨Nat.le_of_ble_eq_true rfl, rfl⟩) hh
    subst c2
    exact ⟨M', c1, c3⟩
  refine vc_c_fail x M _ ⟨fun q M1 e1 => ⟨rfl, ?_⟩, fun q => ⟨rfl, ?_⟩⟩
  · rw [show f = -1 from g.2.2.symm.trans q, th_o]
    exact crd_f g e1 xz
  · rw [th_n _ (by rw [← g.2.2]; exact q)]
    exact g
theorem sp_skip {T : Int → Int} {n : Int} {M0 M : am_M} {p f : Int} (x : XT T n M0) (g : CRd M0 p f M) (p0 : 0 ≤ p) (p1 : p ≤ n) : ∃ M', am_call t_Rea_skipBlanks [.ref 1] M none M' ∧ CRd M0 (sk T p) f M' := by
  suffices hh : am_x t_Rea_skipBlanks (0, am_ent (am_mL t_Rea_skipBlanks) [.ref 1], [], M) (fun rv M' => rv = none ∧ CRd M0 (sk T p) f M') by
    obtain ⟨rv, M', c1, c2, c3⟩ := am_call_ex (by exact ⟨Nat.le_of_ble_eq_true rfl, rfl⟩) hh
    subst c2
    exact ⟨M', c1, c3⟩
  refine am_xn 0 (c1 := (0, [.ref 1], [], M)) rfl ?_
  have xn := x.2.2.1
  refine loop_up (fun i (s : am_M) => (0, [.ref 1], [], s)) n (fun i s => CRd M0 i f s ∧ sk T i = sk T p) ?_ ?_ p M p0 p1 ⟨g, rfl⟩
  · intro s ⟨hs, h⟩
    have xs := x.rd hs
    refine vc_skipBlanks_0 s _ ⟨fun q => ?_, fun _ => ⟨rfl, ?_⟩⟩
    · rw [xs.2.1, hs.2.1] at q; omega
    · have r := x.2.2.skr (p := n) (by omega) (by omega)
      rw [← h, show sk T n = n by omega]; exact hs
  · intro i s i0 i1 ⟨hs, h⟩ k
    have xs := x.rd hs
    refine vc_skipBlanks_0 s _ ⟨fun _ => ⟨iv_r _ _ _, ?_⟩, fun q => ?_⟩
    · rw [hs.2.1, xs.1]
      exact ⟨fun q M1 e1 => k M1 ⟨crd_p hs e1 ⟨by omega, by omega⟩, by rw [sk_y (by omega) q, h]⟩, fun q => ⟨rfl, by rw [← h, sk_n (by omega) q]; exact hs⟩⟩
    · rw [xs.2.1, hs.2.1] at q; omega
theorem sp_passes0 {T : Int → Int} {n : Int} {M0 M : am_M} {p f : Int} (x : XT T n M0) (g : CRd M0 p f M) (p0 : 0 ≤ p) (p1 : p ≤ n) : ∃ M', am_call t_Rea_passes [.ref 1, .ref 6000] M (some (.int (zi (if mt0 T p then 1 else 0)))) M' ∧ CRd M0 (if mt0 T p then p + 6 else p) f M' := by
  suffices hh : am_x t_Rea_passes (0, am_ent (am_mL t_Rea_passes) [.ref 1, .ref 6000], [], M) (fun rv M' => rv = some (.int (zi (if mt0 T p then 1 else 0))) ∧ CRd M0 (if mt0 T p then p + 6 else p) f M') by
    obtain ⟨rv, M', c1, c2, c3⟩ := am_call_ex (by exact ⟨Nat.le_of_ble_eq_true rfl, rfl⟩) hh
    subst c2
    exact ⟨M', c1, c3⟩
  have xs := x.rd g
  have xn := x.2.2.1
  refine vc_passes0 M _ ?_
  rw [g.2.1, xs.1]
  have tr := x.2.2.r (k := p + 6) (by omega)
  exact ⟨⟨by omega, by omega⟩, fun q0 => ⟨⟨by omega, by omega⟩, fun q1 => ⟨⟨by omega, by omega⟩, fun q2 => ⟨⟨by omega, by omega⟩, fun q3 => ⟨⟨by omega, by omega⟩, fun q4 => ⟨⟨by omega, by omega⟩, fun q5 => ⟨⟨by omega, by omega⟩, ⟨⟨by omega, by omega⟩, by decide, by decide⟩, fun q => ⟨by rw [if_neg (fun m => m.2.2.2.2.2.2 q)], by rw [if_neg (fun m => m.2.2.2.2.2.2 q)]; exact g⟩, fun q M1 e1 => ⟨by rw [if_pos (c := mt0 T p) ⟨q0, q1, q2, q3, q4, q5, q⟩], by rw [if_pos (c := mt0 T p) ⟨q0, q1, q2, q3, q4, q5, q⟩]; exact crd_p g e1 ⟨by omega, by omega⟩⟩⟩, fun q => ⟨by rw [if_neg (fun m => q m.2.2.2.2.2.1)], by rw [if_neg (fun m => q m.2.2.2.2.2.1)]; exact g⟩⟩, fun q => ⟨by rw [if_neg (fun m => q m.2.2.2.2.1)], by rw [if_neg (fun m => q m.2.2.2.2.1)]; exact g⟩⟩, fun q => ⟨by rw [if_neg (fun m => q m.2.2.2.1)], by rw [if_neg (fun m => q m.2.2.2.1)]; exact g⟩⟩, fun q => ⟨by rw [if_neg (fun m => q m.2.2.1)], by rw [if_neg (fun m => q m.2.2.1)]; exact g⟩⟩, fun q => ⟨by rw [if_neg (fun m => q m.2.1)], by rw [if_neg (fun m => q m.2.1)]; exact g⟩⟩, fun q => ⟨by rw [if_neg (fun m => q m.1)], by rw [if_neg (fun m => q m.1)]; exact g⟩⟩
theorem sp_passes1 {T : Int → Int} {n : Int} {M0 M : am_M} {p f : Int} (x : XT T n M0) (g : CRd M0 p f M) (p0 : 0 ≤ p) (p1 : p ≤ n) : ∃ M', am_call t_Rea_passes [.ref 1, .ref 6001] M (some (.int (zi (if mt1 T p then 1 else 0)))) M' ∧ CRd M0 (if mt1 T p then p + 7 else p) f M' := by
  suffices hh : am_x t_Rea_passes (0, am_ent (am_mL t_Rea_passes) [.ref 1, .ref 6001], [], M) (fun rv M' => rv = some (.int (zi (if mt1 T p then 1 else 0))) ∧ CRd M0 (if mt1 T p then p + 7 else p) f M') by
    obtain ⟨rv, M', c1, c2, c3⟩ := am_call_ex (by exact ⟨Nat.le_of_ble_eq_true rfl, rfl⟩) hh
    subst c2
    exact ⟨M', c1, c3⟩
  have xs := x.rd g
  have xn := x.2.2.1
  refine vc_passes1 M _ ?_
  rw [g.2.1, xs.1]
  have tr := x.2.2.r (k := p + 7) (by omega)
  exact ⟨⟨by omega, by omega⟩, fun q0 => ⟨⟨by omega, by omega⟩, fun q1 => ⟨⟨by omega, by omega⟩, fun q2 => ⟨⟨by omega, by omega⟩, fun q3 => ⟨⟨by omega, by omega⟩, fun q4 => ⟨⟨by omega, by omega⟩, fun q5 => ⟨⟨by omega, by omega⟩, fun q6 => ⟨⟨by omega, by omega⟩, ⟨⟨by omega, by omega⟩, by decide, by decide⟩, fun q => ⟨by rw [if_neg (fun m => m.2.2.2.2.2.2.2 q)], by rw [if_neg (fun m => m.2.2.2.2.2.2.2 q)]; exact g⟩, fun q M1 e1 => ⟨by rw [if_pos (c := mt1 T p) ⟨q0, q1, q2, q3, q4, q5, q6, q⟩], by rw [if_pos (c := mt1 T p) ⟨q0, q1, q2, q3, q4, q5, q6, q⟩]; exact crd_p g e1 ⟨by omega, by omega⟩⟩⟩, fun q => ⟨by rw [if_neg (fun m => q m.2.2.2.2.2.2.1)], by rw [if_neg (fun m => q m.2.2.2.2.2.2.1)]; exact g⟩⟩, fun q => ⟨by rw [if_neg (fun m => q m.2.2.2.2.2.1)], by rw [if_neg (fun m => q m.2.2.2.2.2.1)]; exact g⟩⟩, fun q => ⟨by rw [if_neg (fun m => q m.2.2.2.2.1)], by rw [if_neg (fun m => q m.2.2.2.2.1)]; exact g⟩⟩, fun q => ⟨by rw [if_neg (fun m => q m.2.2.2.1)], by rw [if_neg (fun m => q m.2.2.2.1)]; exact g⟩⟩, fun q => ⟨by rw [if_neg (fun m => q m.2.2.1)], by rw [if_neg (fun m => q m.2.2.1)]; exact g⟩⟩, fun q => ⟨by rw [if_neg (fun m => q m.2.1)], by rw [if_neg (fun m => q m.2.1)]; exact g⟩⟩, fun q => ⟨by rw [if_neg (fun m => q m.1)], by rw [if_neg (fun m => q m.1)]; exact g⟩⟩
theorem sp_passes2 {T : Int → Int} {n : Int} {M0 M : am_M} {p f : Int} (x : XT T n M0) (g : CRd M0 p f M) (p0 : 0 ≤ p) (p1 : p ≤ n) : ∃ M', am_call t_Rea_passes [.ref 1, .ref 6002] M (some (.int (zi (if mt2 T p then 1 else 0)))) M' ∧ CRd M0 (if mt2 T p then p + 6 else p) f M' := by
  suffices hh : am_x t_Rea_passes (0, am_ent (am_mL t_Rea_passes) [.ref 1, .ref 6002], [], M) (fun rv M' => rv = some (.int (zi (if mt2 T p then 1 else 0))) ∧ CRd M0 (if mt2 T p then p + 6 else p) f M') by
    obtain ⟨rv, M', c1, c2, c3⟩ := am_call_ex (by exact ⟨Nat.le_of_ble_eq_true rfl, rfl⟩) hh
    subst c2
    exact ⟨M', c1, c3⟩
  have xs := x.rd g
  have xn := x.2.2.1
  refine vc_passes2 M _ ?_
  rw [g.2.1, xs.1]
  have tr := x.2.2.r (k := p + 6) (by omega)
  exact ⟨⟨by omega, by omega⟩, fun q0 => ⟨⟨by omega, by omega⟩, fun q1 => ⟨⟨by omega, by omega⟩, fun q2 => ⟨⟨by omega, by omega⟩, fun q3 => ⟨⟨by omega, by omega⟩, fun q4 => ⟨⟨by omega, by omega⟩, fun q5 => ⟨⟨by omega, by omega⟩, ⟨⟨by omega, by omega⟩, by decide, by decide⟩, fun q => ⟨by rw [if_neg (fun m => m.2.2.2.2.2.2 q)], by rw [if_neg (fun m => m.2.2.2.2.2.2 q)]; exact g⟩, fun q M1 e1 => ⟨by rw [if_pos (c := mt2 T p) ⟨q0, q1, q2, q3, q4, q5, q⟩], by rw [if_pos (c := mt2 T p) ⟨q0, q1, q2, q3, q4, q5, q⟩]; exact crd_p g e1 ⟨by omega, by omega⟩⟩⟩, fun q => ⟨by rw [if_neg (fun m => q m.2.2.2.2.2.1)], by rw [if_neg (fun m => q m.2.2.2.2.2.1)]; exact g⟩⟩, fun q => ⟨by rw [if_neg (fun m => q m.2.2.2.2.1)], by rw [if_neg (fun m => q m.2.2.2.2.1)]; exact g⟩⟩, fun q => ⟨by rw [if_neg (fun m => q m.2.2.2.1)], by rw [if_neg (fun m => q m.2.2.2.1)]; exact g⟩⟩, fun q => ⟨by rw [if_neg (fun m => q m.2.2.1)], by rw [if_neg (fun m => q m.2.2.1)]; exact g⟩⟩, fun q => ⟨by rw [if_neg (fun m => q m.2.1)], by rw [if_neg (fun m => q m.2.1)]; exact g⟩⟩, fun q => ⟨by rw [if_neg (fun m => q m.1)], by rw [if_neg (fun m => q m.1)]; exact g⟩⟩
theorem sp_passes3 {T : Int → Int} {n : Int} {M0 M : am_M} {p f : Int} (x : XT T n M0) (g : CRd M0 p f M) (p0 : 0 ≤ p) (p1 : p ≤ n) : ∃ M', am_call t_Rea_passes [.ref 1, .ref 6003] M (some (.int (zi (if mt3 T p then 1 else 0)))) M' ∧ CRd M0 (if mt3 T p then p + 8 else p) f M' := by
  suffices hh : am_x t_Rea_passes (0, am_ent (am_mL t_Rea_passes) [.ref 1, .ref 6003], [], M) (fun rv M' => rv = some (.int (zi (if mt3 T p then 1 else 0))) ∧ CRd M0 (if mt3 T p then p + 8 else p) f M') by
    obtain ⟨rv, M', c1, c2, c3⟩ := am_call_ex (by exact ⟨Nat.le_of_ble_eq_true rfl, rfl⟩) hh
    subst c2
    exact ⟨M', c1, c3⟩
  have xs := x.rd g
  have xn := x.2.2.1
  refine vc_passes3 M _ ?_
  rw [g.2.1, xs.1]
  have tr := x.2.2.r (k := p + 8) (by omega)
  exact ⟨⟨by omega, by omega⟩, fun q0 => ⟨⟨by omega, by omega⟩, fun q1 => ⟨⟨by omega, by omega⟩, fun q2 => ⟨⟨by omega, by omega⟩, fun q3 => ⟨⟨by omega, by omega⟩, fun q4 => ⟨⟨by omega, by omega⟩, fun q5 => ⟨⟨by omega, by omega⟩, fun q6 => ⟨⟨by omega, by omega⟩, fun q7 => ⟨⟨by omega, by omega⟩, ⟨⟨by omega, by omega⟩, by decide, by decide⟩, fun q => ⟨by rw [if_neg (fun m => m.2.2.2.2.2.2.2.2 q)], by rw [if_neg (fun m => m.2.2.2.2.2.2.2.2 q)]; exact g⟩, fun q M1 e1 => ⟨by rw [if_pos (c := mt3 T p) ⟨q0, q1, q2, q3, q4, q5, q6, q7, q⟩], by rw [if_pos (c := mt3 T p) ⟨q0, q1, q2, q3, q4, q5, q6, q7, q⟩]; exact crd_p g e1 ⟨by omega, by omega⟩⟩⟩, fun q => ⟨by rw [if_neg (fun m => q m.2.2.2.2.2.2.2.1)], by rw [if_neg (fun m => q m.2.2.2.2.2.2.2.1)]; exact g⟩⟩, fun q => ⟨by rw [if_neg (fun m => q m.2.2.2.2.2.2.1)], by rw [if_neg (fun m => q m.2.2.2.2.2.2.1)]; exact g⟩⟩, fun q => ⟨by rw [if_neg (fun m => q m.2.2.2.2.2.1)], by rw [if_neg (fun m => q m.2.2.2.2.2.1)]; exact g⟩⟩, fun q => ⟨by rw [if_neg (fun m => q m.2.2.2.2.1)], by rw [if_neg (fun m => q m.2.2.2.2.1)]; exact g⟩⟩, fun q => ⟨by rw [if_neg (fun m => q m.2.2.2.1)], by rw [if_neg (fun m => q m.2.2.2.1)]; exact g⟩⟩, fun q => ⟨by rw [if_neg (fun m => q m.2.2.1)], by rw [if_neg (fun m => q m.2.2.1)]; exact g⟩⟩, fun q => ⟨by rw [if_neg (fun m => q m.2.1)], by rw [if_neg (fun m => q m.2.1)]; exact g⟩⟩, fun q => ⟨by rw [if_neg (fun m => q m.1)], by rw [if_neg (fun m => q m.1)]; exact g⟩⟩
theorem sp_passes4 {T : Int → Int} {n : Int} {M0 M : am_M} {p f : Int} (x : XT T n M0) (g : CRd M0 p f M) (p0 : 0 ≤ p) (p1 : p ≤ n) : ∃ M', am_call t_Rea_passes [.ref 1, .ref 6004] M (some (.int (zi (if mt4 T p then 1 else 0)))) M' ∧ CRd M0 (if mt4 T p then p + 2 else p) f M' := by
  suffices hh : am_x t_Rea_passes (0, am_ent (am_mL t_Rea_passes) [.ref 1, .ref 6004], [], M) (fun rv M' => rv = some (.int (zi (if mt4 T p then 1 else 0))) ∧ CRd M0 (if mt4 T p then p + 2 else p) f M') by
    obtain ⟨rv, M', c1, c2, c3⟩ := am_call_ex (by exact ⟨Nat.le_of_ble_eq_true rfl, rfl⟩) hh
    subst c2
    exact ⟨M', c1, c3⟩
  have xs := x.rd g
  have xn := x.2.2.1
  refine vc_passes4 M _ ?_
  rw [g.2.1, xs.1]
  have tr := x.2.2.r (k := p + 2) (by omega)
  exact ⟨⟨by omega, by omega⟩, fun q0 => ⟨⟨by omega, by omega⟩, fun q1 => ⟨⟨by omega, by omega⟩, ⟨⟨by omega, by omega⟩, by decide, by decide⟩, fun q => ⟨by rw [if_neg (fun m => m.2.2 q)], by rw [if_neg (fun m => m.2.2 q)]; exact g⟩, fun q M1 e1 => ⟨by rw [if_pos (c := mt4 T p) ⟨q0, q1, q⟩], by rw [if_pos (c := mt4 T p) ⟨q0, q1, q⟩]; exact crd_p g e1 ⟨by omega, by omega⟩⟩⟩, fun q => ⟨by rw [if_neg (fun m => q m.2.1)], by rw [if_neg (fun m => q m.2.1)]; exact g⟩⟩, fun q => ⟨by rw [if_neg (fun m => q m.1)], by rw [if_neg (fun m => q m.1)]; exact g⟩⟩
theorem sp_passes5 {T : Int → Int} {n : Int} {M0 M : am_M} {p f : Int} (x : XT T n M0) (g : CRd M0 p f M) (p0 : 0 ≤ p) (p1 : p ≤ n) : ∃ M', am_call t_Rea_passes [.ref 1, .ref 6005] M (some (.int (zi (if mt5 T p then 1 else 0)))) M' ∧ CRd M0 (if mt5 T p then p + 2 else p) f M' := by
  suffices hh : am_x t_Rea_passes (0, am_ent (am_mL t_Rea_passes) [.ref 1, .ref 6005], [], M) (fun rv M' => rv = some (.int (zi (if mt5 T p then 1 else 0))) ∧ CRd M0 (if mt5 T p then p + 2 else p) f M') by
    obtain ⟨rv, M', c1, c2, c3⟩ := am_call_ex (by exact ⟨Nat.le_of_ble_eq_true rfl, rfl⟩) hh
    subst c2
    exact ⟨M', c1, c3⟩
  have xs := x.rd g
  have xn := x.2.2.1
  refine vc_passes5 M _ ?_
  rw [g.2.1, xs.1]
  have tr := x.2.2.r (k := p + 2) (by omega)
  exact ⟨⟨by omega, by omega⟩, fun q0 => ⟨⟨by omega, by omega⟩, fun q1 => ⟨⟨by omega, by omega⟩, ⟨⟨by omega, by omega⟩, by decide, by decide⟩, fun q => ⟨by rw [if_neg (fun m => m.2.2 q)], by rw [if_neg (fun m => m.2.2 q)]; exact g⟩, fun q M1 e1 => ⟨by rw [if_pos (c := mt5 T p) ⟨q0, q1, q⟩], by rw [if_pos (c := mt5 T p) ⟨q0, q1, q⟩]; exact crd_p g e1 ⟨by omega, by omega⟩⟩⟩, fun q => ⟨by rw [if_neg (fun m => q m.2.1)], by rw [if_neg (fun m => q m.2.1)]; exact g⟩⟩, fun q => ⟨by rw [if_neg (fun m => q m.1)], by rw [if_neg (fun m => q m.1)]; exact g⟩⟩
theorem sp_passes6 {T : Int → Int} {n : Int} {M0 M : am_M} {p f : Int} (x : XT T n M0) (g : CRd M0 p f M) (p0 : 0 ≤ p) (p1 : p ≤ n) : ∃ M', am_call t_Rea_passes [.ref 1, .ref 6006] M (some (.int (zi (if mt6 T p then 1 else 0)))) M' ∧ CRd M0 (if mt6 T p then p + 3 else p) f M' := by
  suffices hh : am_x t_Rea_passes (0, am_ent (am_mL t_Rea_passes) [.ref 1, .ref 6006], [], M) (fun rv M' => rv = some (.int (zi (if mt6 T p then 1 else 0))) ∧ CRd M0 (if mt6 T p then p + 3 else p) f M') by
    obtain ⟨rv, M', c1, c2, c3⟩ := am_call_ex (by exact ⟨Nat.le_of_ble_eq_true rfl, rfl⟩) hh
    subst c2
    exact ⟨M', c1, c3⟩
  have xs := x.rd g
  have xn := x.2.2.1
  refine vc_passes6 M _ ?_
  rw [g.2.1, xs.1]
  have tr := x.2.2.r (k := p + 3) (by omega)
  exact ⟨⟨by omega, by omega⟩, fun q0 => ⟨⟨by omega, by omega⟩, fun q1 => ⟨⟨by omega, by omega⟩, fun q2 => ⟨⟨by omega, by omega⟩, ⟨⟨by omega, by omega⟩, by decide, by decide⟩, fun q => ⟨by rw [if_neg (fun m => m.2.2.2 q)], by rw [if_neg (fun m => m.2.2.2 q)]; exact g⟩, fun q M1 e1 => ⟨by rw [if_pos (c := mt6 T p) ⟨q0, q1, q2, q⟩], by rw [if_pos (c := mt6 T p) ⟨q0, q1, q2, q⟩]; exact crd_p g e1 ⟨by omega, by omega⟩⟩⟩, fun q => ⟨by rw [if_neg (fun m => q m.2.2.1)], by rw [if_neg (fun m => q m.2.2.1)]; exact g⟩⟩, fun q => ⟨by rw [if_neg (fun m => q m.2.1)], by rw [if_neg (fun m => q m.2.1)]; exact g⟩⟩, fun q => ⟨by rw [if_neg (fun m => q m.1)], by rw [if_neg (fun m => q m.1)]; exact g⟩⟩
theorem sp_passes7 {T : Int → Int} {n : Int} {M0 M : am_M} {p f : Int} (x : XT T n M0) (g : CRd M0 p f M) (p0 : 0 ≤ p) (p1 : p ≤ n) : ∃ M', am_call t_Rea_passes [.ref 1, .ref 6007] M (some (.int (zi (if mt7 T p then 1 else 0)))) M' ∧ CRd M0 (if mt7 T p then p + 3 else p) f M' := by
  suffices hh : am_x t_Rea_passes (0, am_ent (am_mL t_Rea_passes) [.ref 1, .ref 6007], [], M) (fun rv M' => rv = some (.int (zi (if mt7 T p then 1 else 0))) ∧ CRd M0 (if mt7 T p then p + 3 else p) f M') by
    obtain ⟨rv, M', c1, c2, c3⟩ := am_call_ex (by exact ⟨Nat.le_of_ble_eq_true rfl, rfl⟩) hh
    subst c2
    exact ⟨M', c1, c3⟩
  have xs := x.rd g
  have xn := x.2.2.1
  refine vc_passes7 M _ ?_
  rw [g.2.1, xs.1]
  have tr := x.2.2.r (k := p + 3) (by omega)
  exact ⟨⟨by omega, by omega⟩, fun q0 => ⟨⟨by omega, by omega⟩, fun q1 => ⟨⟨by omega, by omega⟩, fun q2 => ⟨⟨by omega, by omega⟩, ⟨⟨by omega, by omega⟩, by decide, by decide⟩, fun q => ⟨by rw [if_neg (fun m => m.2.2.2 q)], by rw [if_neg (fun m => m.2.2.2 q)]; exact g⟩, fun q M1 e1 => ⟨by rw [if_pos (c := mt7 T p) ⟨q0, q1, q2, q⟩], by rw [if_pos (c := mt7 T p) ⟨q0, q1, q2, q⟩]; exact crd_p g e1 ⟨by omega, by omega⟩⟩⟩, fun q => ⟨by rw [if_neg (fun m => q m.2.2.1)], by rw [if_neg (fun m => q m.2.2.1)]; exact g⟩⟩, fun q => ⟨by rw [if_neg (fun m => q m.2.1)], by rw [if_neg (fun m => q m.2.1)]; exact g⟩⟩, fun q => ⟨by rw [if_neg (fun m => q m.1)], by rw [if_neg (fun m => q m.1)]; exact g⟩⟩
theorem sp_passes8 {T : Int → Int} {n : Int} {M0 M : am_M} {p f : Int} (x : XT T n M0) (g : CRd M0 p f M) (p0 : 0 ≤ p) (p1 : p ≤ n) : ∃ M', am_call t_Rea_passes [.ref 1, .ref 6008] M (some (.int (zi (if mt8 T p then 1 else 0)))) M' ∧ CRd M0 (if mt8 T p then p + 6 else p) f M' := by
  suffices hh : am_x t_Rea_passes (0, am_ent (am_mL t_Rea_passes) [.ref 1, .ref 6008], [], M) (fun rv M' => rv = some (.int (zi (if mt8 T p then 1 else 0))) ∧ CRd M0 (if mt8 T p then p + 6 else p) f M') by
    obtain ⟨rv, M', c1, c2, c3⟩ := am_call_ex (by exact ⟨Nat.le_of_ble_eq_true rfl, rfl⟩) hh
    subst c2
    exact ⟨M', c1, c3⟩
  have xs := x.rd g
  have xn := x.2.2.1
  refine vc_passes8 M _ ?_
  rw [g.2.1, xs.1]
  have tr := x.2.2.r (k := p + 6) (by omega)
  exact ⟨⟨by omega, by omega⟩, fun q0 => ⟨⟨by omega, by omega⟩, fun q1 => ⟨⟨by omega, by omega⟩, fun q2 => ⟨⟨by omega, by omega⟩, fun q3 => ⟨⟨by omega, by omega⟩, fun q4 => ⟨⟨by omega, by omega⟩, fun q5 => ⟨⟨by omega, by omega⟩, ⟨⟨by omega, by omega⟩, by decide, by decide⟩, fun q => ⟨by rw [if_neg (fun m => m.2.2.2.2.2.2 q)], by rw [if_neg (fun m => m.2.2.2.2.2.2 q)]; exact g⟩, fun q M1 e1 => ⟨by rw [if_pos (c := mt8 T p) ⟨q0, q1, q2, q3, q4, q5, q⟩], by rw [if_pos (c := mt8 T p) ⟨q0, q1, q2, q3, q4, q5, q⟩]; exact crd_p g e1 ⟨by omega, by omega⟩⟩⟩, fun q => ⟨by rw [if_neg (fun m => q m.2.2.2.2.2.1)], by rw [if_neg (fun m => q m.2.2.2.2.2.1)]; exact g⟩⟩, fun q => ⟨by rw [if_neg (fun m => q m.2.2.2.2.1)], by rw [if_neg (fun m => q m.2.2.2.2.1)]; exact g⟩⟩, fun q => ⟨by rw [if_neg (fun m => q m.2.2.2.1)], by rw [if_neg (fun m => q m.2.2.2.1)]; exact g⟩⟩, fun q => ⟨by rw [if_neg (fun m => q m.2.2.1)], by rw [if_neg (fun m => q m.2.2.1)]; exact g⟩⟩, fun q => ⟨by rw [if_neg (fun m => q m.2.1)], by rw [if_neg (fun m => q m.2.1)]; exact g⟩⟩, fun q => ⟨by rw [if_neg (fun m => q m.1)], by rw [if_neg (fun m => q m.1)]; exact g⟩⟩
theorem sp_expect5 {T : Int → Int} {n : Int} {M0 M : am_M} {p f : Int} (x : XT T n M0) (g : CRd M0 p f M) (p0 : 0 ≤ p) (p1 : p ≤ n) : ∃ M', am_call t_Rea_expect [.ref 1, .ref 6005] M none M' ∧ CRd M0 (xe5 T p) (th f (xf5 T p)) M' := by
  suffices hh : am_x t_Rea_expect (0, am_ent (am_mL t_Rea_expect) [.ref 1, .ref 6005], [], M) (fun rv M' => rv = none ∧ CRd M0 (xe5 T p) (th f (xf5 T p)) M') by
    obtain ⟨rv, M', c1, c2, c3⟩ := am_call_ex (by exact ⟨Nat.le_of_ble_eq_true rfl, rfl⟩) hh
    subst c2
    exact ⟨M', c1, c3⟩
  have r := x.2.2.skr p0 p1
  obtain ⟨M1, c1, g1⟩ := sp_skip x g p0 p1
  obtain ⟨M2, c2, g2⟩ := sp_passes5 x g1 (by omega) (by omega)
  refine vc_expect5 M _ ⟨M1, c1, _, M2, c2, by split <;> decide, fun z => ?_, fun z => ⟨rfl, ?_⟩⟩
  · by_cases m : mt5 T (sk T p)
    · rw [if_pos m] at z; exact absurd z (by decide)
    · rw [if_neg m] at g2
      obtain ⟨M3, c3, g3⟩ := sp_c_fail g2 (x := sk T p) ⟨by omega, by have := x.2.2.1; omega⟩
      rw [g2.2.1]
      unfold xe5 xf5
      rw [if_neg m, if_neg m]
      exact ⟨M3, c3, rfl, g3⟩
  · by_cases m : mt5 T (sk T p)
    · rw [if_pos m] at g2
      unfold xe5 xf5
      rw [if_pos m, if_pos m, th_1]
      exact g2
    · rw [if_neg m] at z; exact absurd rfl z
theorem sp_expect6 {T : Int → Int} {n : Int} {M0 M : am_M} {p f : Int} (x : XT T n M0) (g : CRd M0 p f M) (p0 : 0 ≤ p) (p1 : p ≤ n) : ∃ M', am_call t_Rea_expect [.ref 1, .ref 6006] M none M' ∧ CRd M0 (xe6 T p) (th f (xf6 T p)) M' := by
  suffices hh : am_x t_Rea_expect (0, am_ent (am_mL t_Rea_expect) [.ref 1, .ref 6006], [], M) (fun rv M' => rv = none ∧ CRd M0 (xe6 T p) (th f (xf6 T p)) M') by
    obtain ⟨rv, M', c1, c2, c3⟩ := am_call_ex (by exact ⟨Nat.le_of_ble_eq_true rfl, rfl⟩) hh
    subst c2
    exact ⟨M', c1, c3⟩
  have r := x.2.2.skr p0 p1
  obtain ⟨M1, c1, g1⟩ := sp_skip x g p0 p1
  obtain ⟨M2, c2, g2⟩ := sp_passes6 x g1 (by omega) (by omega)
  refine vc_expect6 M _ ⟨M1, c1, _, M2, c2, by split <;> decide, fun z => ?_, fun z => ⟨rfl, ?_⟩⟩
  · by_cases m : mt6 T (sk T p)
    · rw [if_pos m] at z; exact absurd z (by decide)
    · rw [if_neg m] at g2
      obtain ⟨M3, c3, g3⟩ := sp_c_fail g2 (x := sk T p) ⟨by omega, by have := x.2.2.1; omega⟩
      rw [g2.2.1]
      unfold xe6 xf6
      rw [if_neg m, if_neg m]
      exact ⟨M3, c3, rfl, g3⟩
  · by_cases m : mt6 T (sk T p)
    · rw [if_pos m] at g2
      unfold xe6 xf6
      rw [if_pos m, if_pos m, th_1]
      exact g2
    · rw [if_neg m] at z; exact absurd rfl z
theorem sp_expect7 {T : Int → Int} {n : Int} {M0 M : am_M} {p f : Int} (x : XT T n M0) (g : CRd M0 p f M) (p0 : 0 ≤ p) (p1 : p ≤ n) : ∃ M', am_call t_Rea_expect [.ref 1, .ref 6007] M none M' ∧ CRd M0 (xe7 T p) (th f (xf7 T p)) M' := by
  suffices hh : am_x t_Rea_expect (0, am_ent (am_mL t_Rea_expect) [.ref 1, .ref 6007], [], M) (fun rv M' => rv = none ∧ CRd M0 (xe7 T p) (th f (xf7 T p)) M') by
    obtain ⟨rv, M', c1, c2, c3⟩ := am_call_ex (by exact ⟨Nat.le_of_ble_eq_true rfl, rfl⟩) hh
    subst c2
    exact ⟨M', c1, c3⟩
  have r := x.2.2.skr p0 p1
  obtain ⟨M1, c1, g1⟩ := sp_skip x g p0 p1
  obtain ⟨M2, c2, g2⟩ := sp_passes7 x g1 (by omega) (by omega)
  refine vc_expect7 M _ ⟨M1, c1, _, M2, c2, by split <;> decide, fun z => ?_, fun z => ⟨rfl, ?_⟩⟩
  · by_cases m : mt7 T (sk T p)
    · rw [if_pos m] at z; exact absurd z (by decide)
    · rw [if_neg m] at g2
      obtain ⟨M3, c3, g3⟩ := sp_c_fail g2 (x := sk T p) ⟨by omega, by have := x.2.2.1; omega⟩
      rw [g2.2.1]
      unfold xe7 xf7
      rw [if_neg m, if_neg m]
      exact ⟨M3, c3, rfl, g3⟩
  · by_cases m : mt7 T (sk T p)
    · rw [if_pos m] at g2
      unfold xe7 xf7
      rw [if_pos m, if_pos m, th_1]
      exact g2
    · rw [if_neg m] at z; exact absurd rfl z
theorem sp_expect8 {T : Int → Int} {n : Int} {M0 M : am_M} {p f : Int} (x : XT T n M0) (g : CRd M0 p f M) (p0 : 0 ≤ p) (p1 : p ≤ n) : ∃ M', am_call t_Rea_expect [.ref 1, .ref 6008] M none M' ∧ CRd M0 (xe8 T p) (th f (xf8 T p)) M' := by
  suffices hh : am_x t_Rea_expect (0, am_ent (am_mL t_Rea_expect) [.ref 1, .ref 6008], [], M) (fun rv M' => rv = none ∧ CRd M0 (xe8 T p) (th f (xf8 T p)) M') by
    obtain ⟨rv, M', c1, c2, c3⟩ := am_call_ex (by exact ⟨Nat.le_of_ble_eq_true rfl, rfl⟩) hh
    subst c2
    exact ⟨M', c1, c3⟩
  have r := x.2.2.skr p0 p1
  obtain ⟨M1, c1, g1⟩ := sp_skip x g p0 p1
  obtain ⟨M2, c2, g2⟩ := sp_passes8 x g1 (by omega) (by omega)
  refine vc_expect8 M _ ⟨M1, c1, _, M2, c2, by split <;> decide, fun z => ?_, fun z => ⟨rfl, ?_⟩⟩
  · by_cases m : mt8 T (sk T p)
    · rw [if_pos m] at z; exact absurd z (by decide)
    · rw [if_neg m] at g2
      obtain ⟨M3, c3, g3⟩ := sp_c_fail g2 (x := sk T p) ⟨by omega, by have := x.2.2.1; omega⟩
      rw [g2.2.1]
      unfold xe8 xf8
      rw [if_neg m, if_neg m]
      exact ⟨M3, c3, rfl, g3⟩
  · by_cases m : mt8 T (sk T p)
    · rw [if_pos m] at g2
      unfold xe8 xf8
      rw [if_pos m, if_pos m, th_1]
      exact g2
    · rw [if_neg m] at z; exact absurd rfl z
theorem sp_c_digits {T : Int → Int} {n : Int} {M0 M : am_M} {p f l : Int} (x : XT T n M0) (g : CRd M0 p f M) (p0 : 0 ≤ p) (p1 : p ≤ n) (hl : l = 0 ∨ l = 1) : ∃ M', am_call t_Rea_readDigits [.ref 1, .int (zi l)] M (some (.int (zi (dv T p)))) M' ∧ CRd M0 (de T p) (th f (df l T p)) M' := by
  suffices hh : am_x t_Rea_readDigits (0, am_ent (am_mL t_Rea_readDigits) [.ref 1, .int (zi l)], [], M) (fun rv M' => rv = some (.int (zi (dv T p))) ∧ CRd M0 (de T p) (th f (df l T p)) M') by
    obtain ⟨rv, M', c1, c2, c3⟩ := am_call_ex (by exact ⟨Nat.le_of_ble_eq_true rfl, rfl⟩) hh
    subst c2
    exact ⟨M', c1, c3⟩
  refine vc_c_readDigits l M _ ?_
  rw [g.2.1]
  have xn := x.2.2.1
  have hd := dg_is T p
  have td : ∀ s, CRd M0 (de T p) f s →
      ((dv T p < l → ∃ M5, am_call t_Rea_fail [.ref 1, .int (zi p)] s none M5 ∧ CRd M0 (de T p) (th f p) M5) ∧
       (∀ M5 f', CRd M0 (de T p) f' M5 → ∃ M7, am_call t_Rea_fail [.ref 1, .int (zi (de T p))] M5 none M7 ∧ CRd M0 (de T p) (th f' (de T p)) M7)) := fun s hs =>
    ⟨fun _ => sp_c_fail hs ⟨by omega, by omega⟩, fun M5 f' h5 => sp_c_fail h5 ⟨by omega, by omega⟩⟩
  refine loop_up (fun i (s : am_M × Int) => (7, [.ref 1, .int (zi l), .int (zi p), .int (zi s.2)], [], s.1)) 3 (fun i s => CRd M0 (p + i) f s.1 ∧ dgN T (3 - i).toNat (p + i) s.2 = dgN T 3 p 0 ∧ p + i ≤ n) ?_ ?_ 0 (M, 0) (by omega) (by omega) ⟨by rw [Int.add_zero]; exact g, by rw [Int.add_zero]; rfl, by omega⟩
  · intro s ⟨hs, h, hn⟩
    have e1 : de T p = p + 3 := by unfold de; rw [← h]; rfl
    have e2 : dv T p = s.2 := by unfold dv; rw [← h]; rfl
    rw [← e1] at hs
    obtain ⟨t1, t2⟩ := td s.1 hs
    refine vc_c_readDigits_7 l p s.2 s.1 _ ⟨⟨by omega, by omega⟩, fun z => ?_, fun _ => ?_⟩
    · rw [hs.2.1] at z; omega
    · rw [← e2]
      refine ⟨⟨by omega, by omega⟩, ⟨by omega, by omega⟩, fun v1 => ?_, fun v1 => ?_⟩
      · obtain ⟨M5, c5, g5⟩ := t1 v1
        refine ⟨M5, c5, ⟨by omega, by omega⟩, fun w => ?_, fun w => ⟨iv_r _ _ _, ?_⟩⟩
        · obtain ⟨M7, c7, g7⟩ := t2 M5 _ g5
          rw [g5.2.1]
          refine ⟨M7, c7, rfl, ?_⟩
          unfold df
          rw [if_pos (Or.inl v1)]
          rw [th_th _ _ p0] at g7
          exact g7
        · rw [g5.2.1, (x.rd g5).1]
          have tr := x.2.2.r (k := de T p) (by omega)
          refine ⟨⟨⟨by omega, by omega⟩, by decide, by decide⟩, fun w => ?_, fun w => ⟨rfl, ?_⟩⟩
          · obtain ⟨M7, c7, g7⟩ := t2 M5 _ g5
            refine ⟨M7, c7, rfl, ?_⟩
            unfold df
            rw [if_pos (Or.inl v1)]
            rw [th_th _ _ p0] at g7
            exact g7
          · unfold df
            rw [if_pos (Or.inl v1)]
            exact g5
      · refine ⟨⟨by omega, by omega⟩, fun w => ?_, fun w => ⟨by first | exact iv_r _ _ _ | omega, ?_⟩⟩
        · obtain ⟨M7, c7, g7⟩ := t2 s.1 _ hs
          try rw [hs.2.1]
          refine ⟨M7, c7, rfl, ?_⟩
          have w' : de T p = p := by first | exact w | (rw [← hs.2.1]; exact w)
          rw [w'] at g7 ⊢
          unfold df
          rw [if_pos (Or.inr w')]
          exact g7
        · try rw [hs.2.1]
          try rw [(x.rd hs).1]
          have tr := x.2.2.r (k := de T p) (by omega)
          have w' : ¬ (dv T p < l ∨ de T p = p) := fun z => by
            rcases z with z | z
            · omega
            · exact w (by first | exact z | (rw [hs.2.1]; exact z))
          unfold df
          rw [if_neg w']
          refine ⟨⟨⟨by omega, by omega⟩, by decide, by decide⟩, fun w => ?_, fun w => ⟨rfl, ?_⟩⟩
          · rw [if_pos w]
            obtain ⟨M7, c7, g7⟩ := t2 s.1 _ hs
            exact ⟨M7, c7, rfl, g7⟩
          · rw [if_neg w, th_1]
            exact hs
  · intro i s i0 i1 ⟨hs, h, hn⟩ k
    have xs := x.rd hs
    refine vc_c_readDigits_7 l p s.2 s.1 _ ⟨⟨by omega, by omega⟩, fun _ => ⟨iv_r _ _ _, ?_⟩, fun z => ?_⟩
    · rw [hs.2.1, xs.1]
      have tr := x.2.2.r (k := p + i) (by omega)
      rw [show (3 - i).toNat = (3 - (i + 1)).toNat + 1 by omega, dgN_s] at h
      refine ⟨⟨⟨by omega, by omega⟩, by decide, by decide⟩, fun z => ?_, fun z => ?_⟩
      · rw [if_pos z] at h
        have lt := x.2.2.lt (k := p + i) (by omega)
        exact ⟨⟨by omega, by omega⟩, fun M2 e2 => k (M2, _) ⟨by rw [← Int.add_assoc]; exact crd_p hs e2 ⟨by omega, by omega⟩, by rw [← Int.add_assoc]; exact h, by omega⟩⟩
      · rw [if_neg z] at h
        have e1 : de T p = p + i := by unfold de; rw [← h]
        have e2 : dv T p = s.2 := by unfold dv; rw [← h]
        rw [← e1] at hs ⊢
        rw [← e2]
        obtain ⟨t1, t2⟩ := td s.1 hs
        refine ⟨⟨by omega, by omega⟩, ⟨by omega, by omega⟩, fun v1 => ?_, fun v1 => ?_⟩
        · obtain ⟨M5, c5, g5⟩ := t1 v1
          refine ⟨M5, c5, ⟨by omega, by omega⟩, fun w => ?_, fun w => ⟨iv_r _ _ _, ?_⟩⟩
          · obtain ⟨M7, c7, g7⟩ := t2 M5 _ g5
            rw [g5.2.1]
            refine ⟨M7, c7, rfl, ?_⟩
            unfold df
            rw [if_pos (Or.inl v1)]
            rw [th_th _ _ p0] at g7
            exact g7
          · rw [g5.2.1, (x.rd g5).1]
            have tr := x.2.2.r (k := de T p) (by omega)
            refine ⟨⟨⟨by omega, by omega⟩, by decide, by decide⟩, fun w => ?_, fun w => ⟨rfl, ?_⟩⟩
            · obtain ⟨M7, c7, g7⟩ := t2 M5 _ g5
              refine ⟨M7, c7, rfl, ?_⟩
              unfold df
              rw [if_pos (Or.inl v1)]
              rw [th_th _ _ p0] at g7
              exact g7
            · unfold df
              rw [if_pos (Or.inl v1)]
              exact g5
        · refine ⟨⟨by omega, by omega⟩, fun w => ?_, fun w => ⟨by first | exact iv_r _ _ _ | omega, ?_⟩⟩
          · obtain ⟨M7, c7, g7⟩ := t2 s.1 _ hs
            try rw [hs.2.1]
            refine ⟨M7, c7, rfl, ?_⟩
            have w' : de T p = p := by first | exact w | (rw [← hs.2.1]; exact w)
            rw [w'] at g7 ⊢
            unfold df
            rw [if_pos (Or.inr w')]
            exact g7
          · try rw [hs.2.1]
            try rw [(x.rd hs).1]
            have tr := x.2.2.r (k := de T p) (by omega)
            have w' : ¬ (dv T p < l ∨ de T p = p) := fun z => by
              rcases z with z | z
              · omega
              · exact w (by first | exact z | (rw [hs.2.1]; exact z))
            unfold df
            rw [if_neg w']
            refine ⟨⟨⟨by omega, by omega⟩, by decide, by decide⟩, fun w => ?_, fun w => ⟨rfl, ?_⟩⟩
            · rw [if_pos w]
              obtain ⟨M7, c7, g7⟩ := t2 s.1 _ hs
              exact ⟨M7, c7, rfl, g7⟩
            · rw [if_neg w, th_1]
              exact hs
    · rw [hs.2.1] at z; omega
theorem sp_c_number {T : Int → Int} {n : Int} {M0 M : am_M} {p f : Int} (x : XT T n M0) (g : CRd M0 p f M) (p0 : 0 ≤ p) (p1 : p ≤ n) : ∃ M', am_call t_Rea_readNumber [.ref 1] M (some (.int (zi (nv T p)))) M' ∧ CRd M0 (ne T p) (th f (df 1 T p)) M' := by
  suffices hh : am_x t_Rea_readNumber (0, am_ent (am_mL t_Rea_readNumber) [.ref 1], [], M) (fun rv M' => rv = some (.int (zi (nv T p))) ∧ CRd M0 (ne T p) (th f (df 1 T p)) M') by
    obtain ⟨rv, M', c1, c2, c3⟩ := am_call_ex (by exact ⟨Nat.le_of_ble_eq_true rfl, rfl⟩) hh
    subst c2
    exact ⟨M', c1, c3⟩
  have xn := x.2.2.1
  have r := x.2.2.der p0 p1
  obtain ⟨M1, c1, g1⟩ := sp_c_digits x g p0 p1 (Or.inr rfl)
  refine vc_c_readNumber M _ ⟨_, M1, c1, iv_r _ _ _, ?_⟩
  have tr := x.2.2.r (k := de T p) (by omega)
  have tr2 := x.2.2.r (k := de T p + 1) (by omega)
  unfold ne nv
  rw [g1.2.1, (x.rd g1).1]
  refine ⟨⟨⟨by omega, by omega⟩, by decide, by decide⟩, fun u => ⟨⟨by omega, by omega⟩, fun M3 e3 => ?_⟩, fun u => ⟨?_, ?_⟩⟩
  · have g3 := crd_p g1 e3 ⟨by omega, by omega⟩
    rw [g3.2.1, (x.rd g3).1, if_pos u, if_pos u]
    refine ⟨⟨by omega, by omega⟩, ⟨⟨by omega, by omega⟩, by decide, by decide⟩, fun w => ⟨⟨by omega, by omega⟩, fun M4 e4 => ⟨?_, ?_⟩⟩, fun w => ⟨?_, ?_⟩⟩
    · rw [if_pos w]
    · rw [if_pos w]
      exact crd_p g3 e4 ⟨by omega, by omega⟩
    · rw [if_neg w]
    · rw [if_neg w]
      exact g3
  · rw [if_neg u]
  · rw [if_neg u]
    exact g1
theorem sp_readPlain {T : Int → Int} {n : Int} {M0 M : am_M} {p f : Int} (x : XT T n M0) (g : CRd M0 p f M) (p0 : 0 ≤ p) (p1 : p ≤ n) : ∃ M', am_call t_Rea_readPlain [.ref 1] M (some (.int (zi (dv T (sk T p))))) M' ∧ CRd M0 (de T (sk T p)) (th f (df 0 T (sk T p))) M' := by
  suffices hh : am_x t_Rea_readPlain (0, am_ent (am_mL t_Rea_readPlain) [.ref 1], [], M) (fun rv M' => rv = some (.int (zi (dv T (sk T p)))) ∧ CRd M0 (de T (sk T p)) (th f (df 0 T (sk T p))) M') by
    obtain ⟨rv, M', c1, c2, c3⟩ := am_call_ex (by exact ⟨Nat.le_of_ble_eq_true rfl, rfl⟩) hh
    subst c2
    exact ⟨M', c1, c3⟩
  have r := x.2.2.skr p0 p1
  obtain ⟨M1, c1, g1⟩ := sp_skip x g p0 p1
  obtain ⟨M2, c2, g2⟩ := sp_c_digits x g1 (by omega) (by omega) (Or.inl rfl)
  exact vc_readPlain M _ ⟨M1, c1, _, M2, c2, rfl, g2⟩
theorem sp_readKind {T : Int → Int} {n : Int} {M0 M : am_M} {p f : Int} (x : XT T n M0) (g : CRd M0 p f M) (p0 : 0 ≤ p) (p1 : p ≤ n) : ∃ M', am_call t_Rea_readKind [.ref 1] M (some (.int (zi (kd T p)))) M' ∧ CRd M0 (ke T p) f M' := by
  suffices hh : am_x t_Rea_readKind (0, am_ent (am_mL t_Rea_readKind) [.ref 1], [], M) (fun rv M' => rv = some (.int (zi (kd T p))) ∧ CRd M0 (ke T p) f M') by
    obtain ⟨rv, M', c1, c2, c3⟩ := am_call_ex (by exact ⟨Nat.le_of_ble_eq_true rfl, rfl⟩) hh
    subst c2
    exact ⟨M', c1, c3⟩
  unfold kd ke
  obtain ⟨M1, c1, g1⟩ := sp_passes0 x g p0 p1
  by_cases m0 : mt0 T p
  · rw [if_pos m0] at c1 g1
    rw [if_pos m0, if_pos m0]
    exact vc_readKind M _ ⟨_, M1, c1, by decide, fun z => absurd z (by decide), fun _ => ⟨rfl, g1⟩⟩
  rw [if_neg m0] at c1 g1
  rw [if_neg m0, if_neg m0]
  obtain ⟨M2, c2, g2⟩ := sp_passes1 x g1 p0 p1
  by_cases m1 : mt1 T p
  · rw [if_pos m1] at c2 g2
    rw [if_pos m1, if_pos m1]
    exact vc_readKind M _ ⟨_, M1, c1, by decide, fun _ => ⟨_, M2, c2, by decide, fun z => absurd z (by decide), fun _ => ⟨rfl, g2⟩⟩, fun z => absurd rfl z⟩
  rw [if_neg m1] at c2 g2
  rw [if_neg m1, if_neg m1]
  obtain ⟨M3, c3, g3⟩ := sp_passes2 x g2 p0 p1
  by_cases m2 : mt2 T p
  · rw [if_pos m2] at c3 g3
    rw [if_pos m2, if_pos m2]
    exact vc_readKind M _ ⟨_, M1, c1, by decide, fun _ => ⟨_, M2, c2, by decide, fun _ => ⟨_, M3, c3, by decide, fun z => absurd z (by decide), fun _ => ⟨rfl, g3⟩⟩, fun z => absurd rfl z⟩, fun z => absurd rfl z⟩
  rw [if_neg m2] at c3 g3
  rw [if_neg m2, if_neg m2]
  obtain ⟨M4, c4, g4⟩ := sp_passes3 x g3 p0 p1
  by_cases m3 : mt3 T p
  · rw [if_pos m3] at c4 g4
    rw [if_pos m3, if_pos m3]
    exact vc_readKind M _ ⟨_, M1, c1, by decide, fun _ => ⟨_, M2, c2, by decide, fun _ => ⟨_, M3, c3, by decide, fun _ => ⟨_, M4, c4, by decide, fun z => absurd z (by decide), fun _ => ⟨rfl, g4⟩⟩, fun z => absurd rfl z⟩, fun z => absurd rfl z⟩, fun z => absurd rfl z⟩
  rw [if_neg m3] at c4 g4
  rw [if_neg m3, if_neg m3]
  obtain ⟨M5, c5, g5⟩ := sp_passes4 x g4 p0 p1
  by_cases m4 : mt4 T p
  · rw [if_pos m4] at c5 g5
    rw [if_pos m4, if_pos m4]
    exact vc_readKind M _ ⟨_, M1, c1, by decide, fun _ => ⟨_, M2, c2, by decide, fun _ => ⟨_, M3, c3, by decide, fun _ => ⟨_, M4, c4, by decide, fun _ => ⟨_, M5, c5, by decide, fun z => absurd z (by decide), fun _ => ⟨rfl, g5⟩⟩, fun z => absurd rfl z⟩, fun z => absurd rfl z⟩, fun z => absurd rfl z⟩, fun z => absurd rfl z⟩
  rw [if_neg m4] at c5 g5
  rw [if_neg m4, if_neg m4]
  exact vc_readKind M _ ⟨_, M1, c1, by decide, fun _ => ⟨_, M2, c2, by decide, fun _ => ⟨_, M3, c3, by decide, fun _ => ⟨_, M4, c4, by decide, fun _ => ⟨_, M5, c5, by decide, fun _ => ⟨rfl, g5⟩, fun z => absurd rfl z⟩, fun z => absurd rfl z⟩, fun z => absurd rfl z⟩, fun z => absurd rfl z⟩, fun z => absurd rfl z⟩
