/-! out of the proof of whole: draft -/
abbrev wI (T : Int → Int) (q : Int) : Prop := T (sk T q) = 64 ∨ isg (T (sk T q))
def wE (T : Int → Int) (q : Int) : Int := if T (sk T q) = 64 then df 1 T (sk T q + 1) else df 0 T (sk T q)
def wV (T : Int → Int) (q : Int) : Int := if T (sk T q) = 64 then 1000 + nv T (sk T q + 1) else dv T (sk T q)
def wN (T : Int → Int) (q : Int) : Int := if T (sk T q) = 64 then ne T (sk T q + 1) else de T (sk T q)
def wqN (T : Int → Int) (p : Int) : Nat → Int
  | 0 => p
  | k + 1 => wN T (wqN T p k)
def wq (T : Int → Int) (p i : Int) : Int := wqN T p i.toNat
theorem wq_s (T : Int → Int) (p : Int) {i : Int} (h : 0 ≤ i) : wq T p (i + 1) = wN T (wq T p i) := by
  unfold wq
  rw [show (i + 1).toNat = i.toNat + 1 by omega]
  rfl
def wcN (T : Int → Int) (p : Int) : Nat → Int → Int
  | 0, i => i
  | k + 1, i => if wI T (wq T p i) ∧ wE T (wq T p i) = -1 then wcN T p k (i + 1) else i
def wc (T : Int → Int) (p : Int) : Int := wcN T p 6 0
theorem wcN_s (T : Int → Int) (p : Int) {i : Int} (h : i < 6) : wcN T p (6 - i).toNat i = if wI T (wq T p i) ∧ wE T (wq T p i) = -1 then wcN T p (6 - (i + 1)).toNat (i + 1) else i := by
  rw [show (6 - i).toNat = (6 - (i + 1)).toNat + 1 by omega]
  rfl
theorem wcN_r (T : Int → Int) (p : Int) : ∀ (k : Nat) (i : Int), i ≤ wcN T p k i ∧ wcN T p k i ≤ i + k ∧ ∀ j, i ≤ j → j < wcN T p k i → wI T (wq T p j) ∧ wE T (wq T p j) = -1 := by
  intro k
  induction k with
  | zero =>
    intro i
    exact ⟨Int.le_refl _, by show i ≤ _; omega, fun j h0 h1 => by have : j < i := h1; omega⟩
  | succ k ih =>
    intro i
    unfold wcN
    by_cases h : wI T (wq T p i) ∧ wE T (wq T p i) = -1
    · rw [if_pos h]
      have := ih (i + 1)
      refine ⟨by omega, by omega, fun j h0 h1 => ?_⟩
      by_cases e : j = i
      · rw [e]; exact h
      · exact this.2.2 j (by omega) h1
    · rw [if_neg h]
      exact ⟨Int.le_refl _, by omega, fun j h0 h1 => by omega⟩
theorem wc_r (T : Int → Int) (p : Int) : 0 ≤ wc T p ∧ wc T p ≤ 6 ∧ ∀ j, 0 ≤ j → j < wc T p → wI T (wq T p j) ∧ wE T (wq T p j) = -1 := by
  have := wcN_r T p 6 0
  unfold wc
  exact ⟨this.1, this.2.1, this.2.2⟩
def wde (T : Int → Int) (p : Int) : Int := if wc T p = 6 then -1 else if wI T (wq T p (wc T p)) then wE T (wq T p (wc T p)) else -1
theorem wN_r {T : Int → Int} {n : Int} (x : TX T n) {q : Int} (h0 : 0 ≤ q) (h1 : q ≤ n) : q ≤ wN T q ∧ wN T q ≤ n := by
  have s := x.skr h0 h1
  unfold wN
  split
  · have := x.lt (k := sk T q) (by omega)
    have := x.ner (p := sk T q + 1) (by omega) (by omega)
    omega
  · have := x.der (p := sk T q) (by omega) (by omega)
    omega
theorem wq_r {T : Int → Int} {n : Int} (x : TX T n) {p : Int} (h0 : 0 ≤ p) (h1 : p ≤ n) (i : Int) : p ≤ wq T p i ∧ wq T p i ≤ n := by
  unfold wq
  generalize i.toNat = k
  induction k with
  | zero => exact ⟨Int.le_refl _, h1⟩
  | succ k ih =>
    have := wN_r x (q := wqN T p k) (by omega) (by omega)
    show p ≤ wN T (wqN T p k) ∧ wN T (wqN T p k) ≤ n
    omega
def svE (T : Int → Int) (q : Int) : Int := if isl (T (sk T q)) then xf8 T (sk T q) else -1
def svN (T : Int → Int) (q : Int) : Int := if isl (T (sk T q)) then xe8 T (sk T q) else sk T q
def svV (T : Int → Int) (q : Int) : Int := if isl (T (sk T q)) then 1 else 0
theorem svE_c {T : Int → Int} {q r : Int} (h : sk T q = sk T r) : svE T q = svE T r := by unfold svE; rw [h]
theorem svN_c {T : Int → Int} {q r : Int} (h : sk T q = sk T r) : svN T q = svN T r := by unfold svN; rw [h]
theorem svN_r {T : Int → Int} {n : Int} (x : TX T n) {q : Int} (h0 : 0 ≤ q) (h1 : q ≤ n) : q ≤ svN T q ∧ svN T q ≤ n := by
  have s := x.skr h0 h1
  unfold svN
  split
  · have := xe8_r x (p := sk T q) (by omega) (by omega)
    omega
  · omega
def oA (T : Int → Int) (s : Int) : Int := sk T (ke T s)
def oB (T : Int → Int) (s : Int) : Int := ne T (oA T s)
def o3 (T : Int → Int) (s : Int) : Int := sk T (xe5 T (oB T s))
def o4 (T : Int → Int) (s : Int) : Int := sk T (xe6 T (oB T s))
def o5 (T : Int → Int) (s : Int) : Int := sk T (xe7 T (de T (o4 T s)))
def oW (T : Int → Int) (s : Int) : Int := wq T (oB T s) (wc T (oB T s))
def opE (T : Int → Int) (s : Int) : Int :=
  if kd T s = -1 then s
  else if kd T s = 0 then th (df 1 T (oA T s)) (wde T (oB T s))
  else if kd T s = 1 then th (df 1 T (oA T s)) (th (wde T (oB T s)) (svE T (oW T s)))
  else if kd T s = 3 then th (df 1 T (oA T s)) (th (xf5 T (oB T s)) (df 1 T (o3 T s)))
  else if kd T s = 4 then th (df 1 T (oA T s)) (th (xf6 T (oB T s)) (th (df 0 T (o4 T s)) (th (xf7 T (de T (o4 T s))) (th (df 0 T (o5 T s)) (svE T (de T (o5 T s)))))))
  else th (df 1 T (oA T s)) (svE T (oB T s))
def opN (T : Int → Int) (s : Int) : Int :=
  if kd T s = 0 then oW T s
  else if kd T s = 1 then svN T (oW T s)
  else if kd T s = 3 then ne T (o3 T s)
  else if kd T s = 4 then svN T (de T (o5 T s))
  else svN T (oB T s)
def opF (T : Int → Int) (s w : Int) : Int :=
  if w = 0 then kd T s
  else if w = 1 then nv T (oA T s)
  else if w = 2 then (if kd T s = 3 then nv T (o3 T s) else if kd T s = 4 then dv T (o4 T s) else 0)
  else if w = 3 then (if kd T s = 4 then dv T (o5 T s) else 0)
  else if w = 4 then (if kd T s = 1 then svV T (oW T s) else if kd T s = 4 then svV T (de T (o5 T s)) else if kd T s = 2 then svV T (oB T s) else 0)
  else if w = 5 then (if kd T s < 2 then wc T (oB T s) else 0)
  else wV T (wq T (oB T s) (w - 6))
theorem oA_r {T : Int → Int} {n : Int} (x : TX T n) {s : Int} (h0 : 0 ≤ s) (h1 : s ≤ n) : s ≤ oA T s ∧ oA T s ≤ n := by
  have a := ke_r x h0 h1
  have := x.skr (p := ke T s) (by omega) (by omega)
  unfold oA
  omega
theorem oB_r {T : Int → Int} {n : Int} (x : TX T n) {s : Int} (h0 : 0 ≤ s) (h1 : s ≤ n) : s ≤ oB T s ∧ oB T s ≤ n := by
  have a := oA_r x h0 h1
  have := x.ner (p := oA T s) (by omega) (by omega)
  unfold oB
  omega
theorem o3_r {T : Int → Int} {n : Int} (x : TX T n) {s : Int} (h0 : 0 ≤ s) (h1 : s ≤ n) : s ≤ o3 T s ∧ o3 T s ≤ n := by
  have a := oB_r x h0 h1
  have b := xe5_r x (p := oB T s) (by omega) (by omega)
  have := x.skr (p := xe5 T (oB T s)) (by omega) (by omega)
  unfold o3
  omega
theorem o4_r {T : Int → Int} {n : Int} (x : TX T n) {s : Int} (h0 : 0 ≤ s) (h1 : s ≤ n) : s ≤ o4 T s ∧ o4 T s ≤ n := by
  have a := oB_r x h0 h1
  have b := xe6_r x (p := oB T s) (by omega) (by omega)
  have := x.skr (p := xe6 T (oB T s)) (by omega) (by omega)
  unfold o4
  omega
theorem o5_r {T : Int → Int} {n : Int} (x : TX T n) {s : Int} (h0 : 0 ≤ s) (h1 : s ≤ n) : s ≤ o5 T s ∧ o5 T s ≤ n := by
  have a := o4_r x h0 h1
  have c := x.der (p := o4 T s) (by omega) (by omega)
  have b := xe7_r x (p := de T (o4 T s)) (by omega) (by omega)
  have := x.skr (p := xe7 T (de T (o4 T s))) (by omega) (by omega)
  unfold o5
  omega
theorem oW_r {T : Int → Int} {n : Int} (x : TX T n) {s : Int} (h0 : 0 ≤ s) (h1 : s ≤ n) : s ≤ oW T s ∧ oW T s ≤ n := by
  have a := oB_r x h0 h1
  have := wq_r x (p := oB T s) (by omega) (by omega) (wc T (oB T s))
  unfold oW
  omega
theorem opN_r {T : Int → Int} {n : Int} (x : TX T n) {s : Int} (h0 : 0 ≤ s) (h1 : s ≤ n) : s ≤ opN T s ∧ opN T s ≤ n := by
  have b := oB_r x h0 h1
  have b3 := o3_r x h0 h1
  have b5 := o5_r x h0 h1
  have bW := oW_r x h0 h1
  have d5 := x.der (p := o5 T s) (by omega) (by omega)
  have n3 := x.ner (p := o3 T s) (by omega) (by omega)
  have s1 := svN_r x (q := oW T s) (by omega) (by omega)
  have s2 := svN_r x (q := de T (o5 T s)) (by omega) (by omega)
  have s3 := svN_r x (q := oB T s) (by omega) (by omega)
  unfold opN
  repeat' split
  all_goals omega
set_option maxRecDepth 100000 in
theorem vc_d_size  (M : am_M) (Q : Option Value → am_M → Prop) (hv : Q (some (.int (zi (iv M 4 1)))) M) : am_x t_Dra_size (0, am_ent (am_mL t_Dra_size) [.ref 4], [], M) Q := by
  refine am_xn 0 (c1 := (0, [.ref 4], [], M)) rfl ?_
  refine am_xrd 2 4 1 (pc := 4) (ls := [.ref 4]) (st := []) rfl ?_
  exact am_xr (some (.int (zi (iv M 4 1)))) ⟨rfl, rfl, .int, rfl, rfl⟩ hv
theorem sp_d_size (M : am_M) : am_call t_Dra_size [.ref 4] M (some (.int (zi (iv M 4 1)))) M := am_call_of ⟨Nat.le_of_ble_eq_true rfl, rfl⟩ (vc_d_size M _ ⟨rfl, rfl⟩)
set_option maxRecDepth 100000 in
theorem vc_d_inserts  (M : am_M) (Q : Option Value → am_M → Prop) (hv : Q (some (.int (zi (iv M 4 2)))) M) : am_x t_Dra_inserts (0, am_ent (am_mL t_Dra_inserts) [.ref 4], [], M) Q := by
  refine am_xn 0 (c1 := (0, [.ref 4], [], M)) rfl ?_
  refine am_xrd 2 4 2 (pc := 4) (ls := [.ref 4]) (st := []) rfl ?_
  exact am_xr (some (.int (zi (iv M 4 2)))) ⟨rfl, rfl, .int, rfl, rfl⟩ hv
theorem sp_d_inserts (M : am_M) : am_call t_Dra_inserts [.ref 4] M (some (.int (zi (iv M 4 2)))) M := am_call_of ⟨Nat.le_of_ble_eq_true rfl, rfl⟩ (vc_d_inserts M _ ⟨rfl, rfl⟩)
set_option maxRecDepth 100000 in
theorem vc_put (c : Int) (v : Int) (M : am_M) (Q : Option Value → am_M → Prop) (hv : (0 ≤ ((((iv M 4 1) - 1) * 13) + c) ∧ ((((iv M 4 1) - 1) * 13) + c) < 520) ∧ (∀ M1, M1 = zup M 6 ((((iv M 4 1) - 1) * 13) + c) v → Q none M1)) : am_x t_Dra_put (0, am_ent (am_mL t_Dra_put) [.ref 4, .int (zi c), .int (zi v)], [], M) Q := by
  refine am_xn 0 (c1 := (0, [.ref 4, .int (zi c), .int (zi v)], [], M)) rfl ?_
  refine am_xrd 4 4 1 (pc := 8) (ls := [.ref 4, .int (zi c), .int (zi v)]) (st := [.ref 5]) rfl ?_
  refine am_xisub 2 (iv M 4 1) 1 (pc := 10) (ls := [.ref 4, .int (zi c), .int (zi v)]) (st := [.ref 5]) rfl ?_
  refine am_ximul 2 ((iv M 4 1) - 1) 13 (pc := 13) (ls := [.ref 4, .int (zi c), .int (zi v)]) (st := [.ref 5]) rfl ?_
  refine am_xiadd 2 (((iv M 4 1) - 1) * 13) c (pc := 15) (ls := [.ref 4, .int (zi c), .int (zi v)]) (st := [.ref 5]) rfl ?_
  refine am_xn 1 (c1 := (16, [.ref 4, .int (zi c), .int (zi v)], [.int (zi v), .int (zi ((((iv M 4 1) - 1) * 13) + c)), .ref 5], M)) rfl ?_
  obtain ⟨g, hv⟩ := hv
  obtain ⟨M1, eM1⟩ : ∃ m, m = zup M 6 ((((iv M 4 1) - 1) * 13) + c) v := ⟨_, rfl⟩
  replace hv := hv M1 eM1
  refine am_xc t_Row_set (.invokevirtual 31) 31 (av := [.ref 5, .int (zi ((((iv M 4 1) - 1) * 13) + c)), .int (zi v)]) (rest := []) (rv := none) (M' := M1) rfl rfl rfl rfl (Nat.le_of_ble_eq_true rfl) (fun _ => rfl) (by rw [eM1]; exact sp_set_5 M ((((iv M 4 1) - 1) * 13) + c) v g) ?_
  refine am_xn 0 (c1 := (19, [.ref 4, .int (zi c), .int (zi v)], [], M1)) rfl ?_
  exact am_xr none ⟨rfl, rfl, rfl⟩ hv
theorem sp_put (M : am_M) (c : Int) (v : Int) (g : 0 ≤ (iv M 4 1 - 1) * 13 + c ∧ (iv M 4 1 - 1) * 13 + c < 520) : am_call t_Dra_put [.ref 4, .int (zi c), .int (zi v)] M (none) (zup M 6 ((iv M 4 1 - 1) * 13 + c) v) := by
  exact am_call_of ⟨Nat.le_of_ble_eq_true rfl, rfl⟩ (vc_put c v M _ ⟨g, fun M1 e1 => ⟨rfl, e1⟩⟩)
set_option maxRecDepth 100000 in
theorem vc_d_makeEmpty  (M : am_M) (Q : Option Value → am_M → Prop) (hv : ∀ M1, M1 = zup M 4 1 0 → ∀ M2, M2 = zup M1 4 2 0 → Q none M2) : am_x t_Dra_makeEmpty (0, am_ent (am_mL t_Dra_makeEmpty) [.ref 4], [], M) Q := by
  refine am_xn 0 (c1 := (0, [.ref 4], [], M)) rfl ?_
  refine am_xn 3 (c1 := (5, [.ref 4], [], zup M 4 1 0)) rfl ?_
  obtain ⟨M1, eM1⟩ : ∃ m, m = zup M 4 1 0 := ⟨_, rfl⟩
  replace hv := hv M1 eM1
  rw [← eM1]
  refine am_xn 3 (c1 := (10, [.ref 4], [], zup M1 4 2 0)) rfl ?_
  obtain ⟨M2, eM2⟩ : ∃ m, m = zup M1 4 2 0 := ⟨_, rfl⟩
  replace hv := hv M2 eM2
  rw [← eM2]
  exact am_xr none ⟨rfl, rfl, rfl⟩ hv
set_option maxRecDepth 100000 in
theorem vc_begin (k : Int) (n : Int) (M : am_M) (Q : Option Value → am_M → Prop) (hv : ∀ M1, M1 = zup M 4 1 ((iv M 4 1) + 1) → (0 ≤ (iv M1 4 1 - 1) * 13 + (0 : Int) ∧ (iv M1 4 1 - 1) * 13 + (0 : Int) < 520) ∧ (∀ M2, M2 = zup M1 6 ((iv M1 4 1 - 1) * 13 + 0) k → (0 ≤ (iv M2 4 1 - 1) * 13 + (1 : Int) ∧ (iv M2 4 1 - 1) * 13 + (1 : Int) < 520) ∧ (∀ M3, M3 = zup M2 6 ((iv M2 4 1 - 1) * 13 + 1) n → (0 ≤ (iv M3 4 1 - 1) * 13 + (2 : Int) ∧ (iv M3 4 1 - 1) * 13 + (2 : Int) < 520) ∧ (∀ M4, M4 = zup M3 6 ((iv M3 4 1 - 1) * 13 + 2) (-1) → (0 ≤ (iv M4 4 1 - 1) * 13 + (3 : Int) ∧ (iv M4 4 1 - 1) * 13 + (3 : Int) < 520) ∧ (∀ M5, M5 = zup M4 6 ((iv M4 4 1 - 1) * 13 + 3) (-1) → (0 ≤ (iv M5 4 1 - 1) * 13 + (4 : Int) ∧ (iv M5 4 1 - 1) * 13 + (4 : Int) < 520) ∧ (∀ M6, M6 = zup M5 6 ((iv M5 4 1 - 1) * 13 + 4) 0 → (0 ≤ (iv M6 4 1 - 1) * 13 + (5 : Int) ∧ (iv M6 4 1 - 1) * 13 + (5 : Int) < 520) ∧ (∀ M7, M7 = zup M6 6 ((iv M6 4 1 - 1) * 13 + 5) 0 → (0 ≤ (iv M7 4 1 - 1) * 13 + (6 : Int) ∧ (iv M7 4 1 - 1) * 13 + (6 : Int) < 520) ∧ (∀ M8, M8 = zup M7 6 ((iv M7 4 1 - 1) * 13 + 6) (-1) → (zr k) ∧ ((k = 0 → ∀ M10, M10 = zup M8 4 2 ((iv M8 4 2) + 1) → Q none M10) ∧ (¬ k = 0 → Q none M8)))))))))) : am_x t_Dra_begin (0, am_ent (am_mL t_Dra_begin) [.ref 4, .int (zi k), .int (zi n)], [], M) Q := by
  refine am_xn 0 (c1 := (0, [.ref 4, .int (zi k), .int (zi n)], [], M)) rfl ?_
  refine am_xrd 3 4 1 (pc := 5) (ls := [.ref 4, .int (zi k), .int (zi n)]) (st := [.ref 4]) rfl ?_
  refine am_xiadd 2 (iv M 4 1) 1 (pc := 7) (ls := [.ref 4, .int (zi k), .int (zi n)]) (st := [.ref 4]) rfl ?_
  refine am_xn 1 (c1 := (10, [.ref 4, .int (zi k), .int (zi n)], [], zup M 4 1 ((iv M 4 1) + 1))) rfl ?_
  obtain ⟨M1, eM1⟩ : ∃ m, m = zup M 4 1 ((iv M 4 1) + 1) := ⟨_, rfl⟩
  replace hv := hv M1 eM1
  rw [← eM1]
  refine am_xn 3 (c1 := (13, [.ref 4, .int (zi k), .int (zi n)], [.int (zi k), .int (zi 0), .ref 4], M1)) rfl ?_
  obtain ⟨g, hv⟩ := hv
  obtain ⟨M2, eM2⟩ : ∃ m, m = zup M1 6 ((iv M1 4 1 - 1) * 13 + 0) k := ⟨_, rfl⟩
  replace hv := hv M2 eM2
  refine am_xc t_Dra_put (.invokevirtual 27) 27 (av := [.ref 4, .int (zi 0), .int (zi k)]) (rest := []) (rv := none) (M' := M2) rfl rfl rfl rfl (Nat.le_of_ble_eq_true rfl) (fun _ => rfl) (by rw [eM2]; exact sp_put M1 0 k g) ?_
  refine am_xn 0 (c1 := (16, [.ref 4, .int (zi k), .int (zi n)], [], M2)) rfl ?_
  refine am_xn 3 (c1 := (19, [.ref 4, .int (zi k), .int (zi n)], [.int (zi n), .int (zi 1), .ref 4], M2)) rfl ?_
  obtain ⟨g, hv⟩ := hv
  obtain ⟨M3, eM3⟩ : ∃ m, m = zup M2 6 ((iv M2 4 1 - 1) * 13 + 1) n := ⟨_, rfl⟩
  replace hv := hv M3 eM3
  refine am_xc t_Dra_put (.invokevirtual 27) 27 (av := [.ref 4, .int (zi 1), .int (zi n)]) (rest := []) (rv := none) (M' := M3) rfl rfl rfl rfl (Nat.le_of_ble_eq_true rfl) (fun _ => rfl) (by rw [eM3]; exact sp_put M2 1 n g) ?_
  refine am_xn 0 (c1 := (22, [.ref 4, .int (zi k), .int (zi n)], [], M3)) rfl ?_
  refine am_xn 3 (c1 := (25, [.ref 4, .int (zi k), .int (zi n)], [.int (zi (-1)), .int (zi 2), .ref 4], M3)) rfl ?_
  obtain ⟨g, hv⟩ := hv
  obtain ⟨M4, eM4⟩ : ∃ m, m = zup M3 6 ((iv M3 4 1 - 1) * 13 + 2) (-1) := ⟨_, rfl⟩
  replace hv := hv M4 eM4
  refine am_xc t_Dra_put (.invokevirtual 27) 27 (av := [.ref 4, .int (zi 2), .int (zi (-1))]) (rest := []) (rv := none) (M' := M4) rfl rfl rfl rfl (Nat.le_of_ble_eq_true rfl) (fun _ => rfl) (by rw [eM4]; exact sp_put M3 2 (-1) g) ?_
  refine am_xn 0 (c1 := (28, [.ref 4, .int (zi k), .int (zi n)], [], M4)) rfl ?_
  refine am_xn 3 (c1 := (31, [.ref 4, .int (zi k), .int (zi n)], [.int (zi (-1)), .int (zi 3), .ref 4], M4)) rfl ?_
  obtain ⟨g, hv⟩ := hv
  obtain ⟨M5, eM5⟩ : ∃ m, m = zup M4 6 ((iv M4 4 1 - 1) * 13 + 3) (-1) := ⟨_, rfl⟩
  replace hv := hv M5 eM5
  refine am_xc t_Dra_put (.invokevirtual 27) 27 (av := [.ref 4, .int (zi 3), .int (zi (-1))]) (rest := []) (rv := none) (M' := M5) rfl rfl rfl rfl (Nat.le_of_ble_eq_true rfl) (fun _ => rfl) (by rw [eM5]; exact sp_put M4 3 (-1) g) ?_
  refine am_xn 0 (c1 := (34, [.ref 4, .int (zi k), .int (zi n)], [], M5)) rfl ?_
  refine am_xn 3 (c1 := (37, [.ref 4, .int (zi k), .int (zi n)], [.int (zi 0), .int (zi 4), .ref 4], M5)) rfl ?_
  obtain ⟨g, hv⟩ := hv
  obtain ⟨M6, eM6⟩ : ∃ m, m = zup M5 6 ((iv M5 4 1 - 1) * 13 + 4) 0 := ⟨_, rfl⟩
  replace hv := hv M6 eM6
  refine am_xc t_Dra_put (.invokevirtual 27) 27 (av := [.ref 4, .int (zi 4), .int (zi 0)]) (rest := []) (rv := none) (M' := M6) rfl rfl rfl rfl (Nat.le_of_ble_eq_true rfl) (fun _ => rfl) (by rw [eM6]; exact sp_put M5 4 0 g) ?_
  refine am_xn 0 (c1 := (40, [.ref 4, .int (zi k), .int (zi n)], [], M6)) rfl ?_
  refine am_xn 3 (c1 := (43, [.ref 4, .int (zi k), .int (zi n)], [.int (zi 0), .int (zi 5), .ref 4], M6)) rfl ?_
  obtain ⟨g, hv⟩ := hv
  obtain ⟨M7, eM7⟩ : ∃ m, m = zup M6 6 ((iv M6 4 1 - 1) * 13 + 5) 0 := ⟨_, rfl⟩
  replace hv := hv M7 eM7
  refine am_xc t_Dra_put (.invokevirtual 27) 27 (av := [.ref 4, .int (zi 5), .int (zi 0)]) (rest := []) (rv := none) (M' := M7) rfl rfl rfl rfl (Nat.le_of_ble_eq_true rfl) (fun _ => rfl) (by rw [eM7]; exact sp_put M6 5 0 g) ?_
  refine am_xn 0 (c1 := (46, [.ref 4, .int (zi k), .int (zi n)], [], M7)) rfl ?_
  refine am_xn 3 (c1 := (50, [.ref 4, .int (zi k), .int (zi n)], [.int (zi (-1)), .int (zi 6), .ref 4], M7)) rfl ?_
  obtain ⟨g, hv⟩ := hv
  obtain ⟨M8, eM8⟩ : ∃ m, m = zup M7 6 ((iv M7 4 1 - 1) * 13 + 6) (-1) := ⟨_, rfl⟩
  replace hv := hv M8 eM8
  refine am_xc t_Dra_put (.invokevirtual 27) 27 (av := [.ref 4, .int (zi 6), .int (zi (-1))]) (rest := []) (rv := none) (M' := M8) rfl rfl rfl rfl (Nat.le_of_ble_eq_true rfl) (fun _ => rfl) (by rw [eM8]; exact sp_put M7 6 (-1) g) ?_
  refine am_xn 0 (c1 := (53, [.ref 4, .int (zi k), .int (zi n)], [], M8)) rfl ?_
  obtain ⟨r9, hv⟩ := hv
  refine am_xn 2 (c1 := (if zi k = zi 0 then 57 else 67, [.ref 4, .int (zi k), .int (zi n)], [], M8)) rfl (am_xeq r9 (by decide) (fun h => ?_) (fun h => ?_))
  · replace hv := hv.1 h
    refine am_xrd 3 4 2 (pc := 62) (ls := [.ref 4, .int (zi k), .int (zi n)]) (st := [.ref 4]) rfl ?_
    refine am_xiadd 2 (iv M8 4 2) 1 (pc := 64) (ls := [.ref 4, .int (zi k), .int (zi n)]) (st := [.ref 4]) rfl ?_
    refine am_xn 1 (c1 := (67, [.ref 4, .int (zi k), .int (zi n)], [], zup M8 4 2 ((iv M8 4 2) + 1))) rfl ?_
    obtain ⟨M10, eM10⟩ : ∃ m, m = zup M8 4 2 ((iv M8 4 2) + 1) := ⟨_, rfl⟩
    replace hv := hv M10 eM10
    rw [← eM10]
    exact am_xr none ⟨rfl, rfl, rfl⟩ hv
  · replace hv := hv.2 h
    exact am_xr none ⟨rfl, rfl, rfl⟩ hv
set_option maxRecDepth 100000 in
theorem vc_addWord (v : Int) (M : am_M) (Q : Option Value → am_M → Prop) (hv : (0 ≤ ((((iv M 4 1) - 1) * 13) + 5) ∧ ((((iv M 4 1) - 1) * 13) + 5) < 520) ∧ ((0 ≤ (iv M 4 1 - 1) * 13 + (7 + (iv M 6 ((((iv M 4 1) - 1) * 13) + 5))) ∧ (iv M 4 1 - 1) * 13 + (7 + (iv M 6 ((((iv M 4 1) - 1) * 13) + 5))) < 520) ∧ (∀ M1, M1 = zup M 6 ((iv M 4 1 - 1) * 13 + (7 + (iv M 6 ((((iv M 4 1) - 1) * 13) + 5)))) v → (0 ≤ (iv M1 4 1 - 1) * 13 + (5 : Int) ∧ (iv M1 4 1 - 1) * 13 + (5 : Int) < 520) ∧ (∀ M2, M2 = zup M1 6 ((iv M1 4 1 - 1) * 13 + 5) ((iv M 6 ((((iv M 4 1) - 1) * 13) + 5)) + 1) → Q none M2)))) : am_x t_Dra_addWord (0, am_ent (am_mL t_Dra_addWord) [.ref 4, .int (zi v)], [], M) Q := by
  refine am_xn 0 (c1 := (0, [.ref 4, .int (zi v), .null], [], M)) rfl ?_
  refine am_xrd 4 4 1 (pc := 8) (ls := [.ref 4, .int (zi v), .null]) (st := [.ref 5]) rfl ?_
  refine am_xisub 2 (iv M 4 1) 1 (pc := 10) (ls := [.ref 4, .int (zi v), .null]) (st := [.ref 5]) rfl ?_
  refine am_ximul 2 ((iv M 4 1) - 1) 13 (pc := 13) (ls := [.ref 4, .int (zi v), .null]) (st := [.ref 5]) rfl ?_
  refine am_xiadd 2 (((iv M 4 1) - 1) * 13) 5 (pc := 15) (ls := [.ref 4, .int (zi v), .null]) (st := [.ref 5]) rfl ?_
  obtain ⟨g, hv⟩ := hv
  refine am_xc t_Row_get (.invokevirtual 34) 34 (av := [.ref 5, .int (zi ((((iv M 4 1) - 1) * 13) + 5))]) (rest := []) (rv := some (.int (zi (iv M 6 ((((iv M 4 1) - 1) * 13) + 5))))) (M' := M) rfl rfl rfl rfl (Nat.le_of_ble_eq_true rfl) (fun _ => rfl) (sp_get_5 M ((((iv M 4 1) - 1) * 13) + 5) g) ?_
  refine am_xn 0 (c1 := (18, [.ref 4, .int (zi v), .null], [.int (zi (iv M 6 ((((iv M 4 1) - 1) * 13) + 5)))], M)) rfl ?_
  refine am_xiadd 5 7 (iv M 6 ((((iv M 4 1) - 1) * 13) + 5)) (pc := 24) (ls := [.ref 4, .int (zi v), .int (zi (iv M 6 ((((iv M 4 1) - 1) * 13) + 5)))]) (st := [.ref 4]) rfl ?_
  refine am_xn 1 (c1 := (25, [.ref 4, .int (zi v), .int (zi (iv M 6 ((((iv M 4 1) - 1) * 13) + 5)))], [.int (zi v), .int (zi (7 + (iv M 6 ((((iv M 4 1) - 1) * 13) + 5)))), .ref 4], M)) rfl ?_
  obtain ⟨g, hv⟩ := hv
  obtain ⟨M1, eM1⟩ : ∃ m, m = zup M 6 ((iv M 4 1 - 1) * 13 + (7 + (iv M 6 ((((iv M 4 1) - 1) * 13) + 5)))) v := ⟨_, rfl⟩
  replace hv := hv M1 eM1
  refine am_xc t_Dra_put (.invokevirtual 27) 27 (av := [.ref 4, .int (zi (7 + (iv M 6 ((((iv M 4 1) - 1) * 13) + 5)))), .int (zi v)]) (rest := []) (rv := none) (M' := M1) rfl rfl rfl rfl (Nat.le_of_ble_eq_true rfl) (fun _ => rfl) (by rw [eM1]; exact sp_put M (7 + (iv M 6 ((((iv M 4 1) - 1) * 13) + 5))) v g) ?_
  refine am_xn 0 (c1 := (28, [.ref 4, .int (zi v), .int (zi (iv M 6 ((((iv M 4 1) - 1) * 13) + 5)))], [], M1)) rfl ?_
  refine am_xiadd 5 (iv M 6 ((((iv M 4 1) - 1) * 13) + 5)) 1 (pc := 33) (ls := [.ref 4, .int (zi v), .int (zi (iv M 6 ((((iv M 4 1) - 1) * 13) + 5)))]) (st := [.int (zi 5), .ref 4]) rfl ?_
  obtain ⟨g, hv⟩ := hv
  obtain ⟨M2, eM2⟩ : ∃ m, m = zup M1 6 ((iv M1 4 1 - 1) * 13 + 5) ((iv M 6 ((((iv M 4 1) - 1) * 13) + 5)) + 1) := ⟨_, rfl⟩
  replace hv := hv M2 eM2
  refine am_xc t_Dra_put (.invokevirtual 27) 27 (av := [.ref 4, .int (zi 5), .int (zi ((iv M 6 ((((iv M 4 1) - 1) * 13) + 5)) + 1))]) (rest := []) (rv := none) (M' := M2) rfl rfl rfl rfl (Nat.le_of_ble_eq_true rfl) (fun _ => rfl) (by rw [eM2]; exact sp_put M1 5 ((iv M 6 ((((iv M 4 1) - 1) * 13) + 5)) + 1) g) ?_
  refine am_xn 0 (c1 := (36, [.ref 4, .int (zi v), .int (zi (iv M 6 ((((iv M 4 1) - 1) * 13) + 5)))], [], M2)) rfl ?_
  exact am_xr none ⟨rfl, rfl, rfl⟩ hv
set_option maxRecDepth 100000 in
theorem vc_isAtWord  (M : am_M) (Q : Option Value → am_M → Prop) (hv : ∃ M1, am_call t_Rea_skipBlanks [.ref 1] M none M1 ∧ ((zr (iv M1 1 2)) ∧ (((tb M1 (iv M1 1 2)) = 64 → Q (some (.int (zi 1))) M1) ∧ (¬ (tb M1 (iv M1 1 2)) = 64 → (zr (iv M1 1 2)) ∧ ((zr (tb M1 (iv M1 1 2)) ∧ zr (48 : Int) ∧ zr (57 : Int)) ∧ ((48 ≤ (tb M1 (iv M1 1 2)) ∧ (tb M1 (iv M1 1 2)) ≤ 57 → Q (some (.int (zi 1))) M1) ∧ (¬ (48 ≤ (tb M1 (iv M1 1 2)) ∧ (tb M1 (iv M1 1 2)) ≤ 57) → Q (some (.int (zi 0))) M1))))))) : am_x t_Rea_isAtWord (0, am_ent (am_mL t_Rea_isAtWord) [.ref 1], [], M) Q := by
  refine am_xn 0 (c1 := (0, [.ref 1], [], M)) rfl ?_
  refine am_xn 1 (c1 := (1, [.ref 1], [.ref 1], M)) rfl ?_
  obtain ⟨M1, hc, hv⟩ := hv
  refine am_xc t_Rea_skipBlanks (.invokevirtual 44) 44 (av := [.ref 1]) (rest := []) (rv := none) (M' := M1) rfl rfl rfl rfl (Nat.le_of_ble_eq_true rfl) (fun _ => rfl) (hc) ?_
  refine am_xn 0 (c1 := (4, [.ref 1], [], M1)) rfl ?_
  refine am_xrd 4 1 2 (pc := 12) (ls := [.ref 1]) (st := [.ref 2]) rfl ?_
  obtain ⟨g, hv⟩ := hv
  refine am_xc t_Pag_byteAt (.invokevirtual 102) 102 (av := [.ref 2, .int (zi (iv M1 1 2))]) (rest := []) (rv := some (.int (zi (tb M1 (iv M1 1 2))))) (M' := M1) rfl rfl rfl rfl (Nat.le_of_ble_eq_true rfl) (fun _ => rfl) (sp_p2_byteAt M1 (iv M1 1 2) g) ?_
  refine am_xn 0 (c1 := (15, [.ref 1], [.int (zi (tb M1 (iv M1 1 2)))], M1)) rfl ?_
  refine am_xn 2 (c1 := (if zi (tb M1 (iv M1 1 2)) = zi 64 then 41 else 20, [.ref 1], [], M1)) rfl (am_xeq (tb_r M1 (iv M1 1 2)) (by decide) (fun h => ?_) (fun h => ?_))
  · replace hv := hv.1 h
    refine am_xn 2 (c1 := (46, [.ref 1], [.int (zi 1)], M1)) rfl ?_
    exact am_xr (some (.int (zi 1))) ⟨rfl, rfl, .boolean, rfl, rfl⟩ hv
  · replace hv := hv.2 h
    refine am_xrd 4 1 2 (pc := 28) (ls := [.ref 1]) (st := [.ref 2]) rfl ?_
    obtain ⟨g, hv⟩ := hv
    refine am_xc t_Pag_byteAt (.invokevirtual 102) 102 (av := [.ref 2, .int (zi (iv M1 1 2))]) (rest := []) (rv := some (.int (zi (tb M1 (iv M1 1 2))))) (M' := M1) rfl rfl rfl rfl (Nat.le_of_ble_eq_true rfl) (fun _ => rfl) (sp_p2_byteAt M1 (iv M1 1 2) g) ?_
    refine am_xn 0 (c1 := (31, [.ref 1], [.int (zi (tb M1 (iv M1 1 2)))], M1)) rfl ?_
    refine am_xn 2 (c1 := (35, [.ref 1], [.int (zi 57), .int (zi 48), .int (zi (tb M1 (iv M1 1 2)))], M1)) rfl ?_
    obtain ⟨g, hv⟩ := hv
    by_cases c2 : 48 ≤ (tb M1 (iv M1 1 2)) ∧ (tb M1 (iv M1 1 2)) ≤ 57
    · replace hv := hv.1 c2
      refine am_xc t_Rea_isBetween (.invokestatic 112) 112 (av := [.int (zi (tb M1 (iv M1 1 2))), .int (zi 48), .int (zi 57)]) (rest := []) (rv := some (.int (zi 1))) (M' := M1) rfl rfl rfl rfl (Nat.le_of_ble_eq_true rfl) (fun h => nomatch h) (by have q := sp_isBetween M1 (tb M1 (iv M1 1 2)) 48 57 g; rwa [if_pos c2] at q) ?_
      refine am_xn 0 (c1 := (38, [.ref 1], [.int (zi 1)], M1)) rfl ?_
      refine am_xn 3 (c1 := (46, [.ref 1], [.int (zi 1)], M1)) rfl ?_
      exact am_xr (some (.int (zi 1))) ⟨rfl, rfl, .boolean, rfl, rfl⟩ hv
    · replace hv := hv.2 c2
      refine am_xc t_Rea_isBetween (.invokestatic 112) 112 (av := [.int (zi (tb M1 (iv M1 1 2))), .int (zi 48), .int (zi 57)]) (rest := []) (rv := some (.int (zi 0))) (M' := M1) rfl rfl rfl rfl (Nat.le_of_ble_eq_true rfl) (fun h => nomatch h) (by have q := sp_isBetween M1 (tb M1 (iv M1 1 2)) 48 57 g; rwa [if_neg c2] at q) ?_
      refine am_xn 0 (c1 := (38, [.ref 1], [.int (zi 0)], M1)) rfl ?_
      refine am_xn 2 (c1 := (46, [.ref 1], [.int (zi 0)], M1)) rfl ?_
      exact am_xr (some (.int (zi 0))) ⟨rfl, rfl, .boolean, rfl, rfl⟩ hv
set_option maxRecDepth 100000 in
theorem vc_c_readWords  (M : am_M) (Q : Option Value → am_M → Prop) (hv : am_x t_Rea_readWords (2, [.ref 1, .int (zi 0)], [], M) Q) : am_x t_Rea_readWords (0, am_ent (am_mL t_Rea_readWords) [.ref 1], [], M) Q := by
  refine am_xn 0 (c1 := (0, [.ref 1, .null], [], M)) rfl ?_
  refine am_xn 2 (c1 := (2, [.ref 1, .int (zi 0)], [], M)) rfl ?_
  exact hv
set_option maxRecDepth 100000 in
theorem vc_c_readWords_2 (x1 : Int) (M : am_M) (Q : Option Value → am_M → Prop) (hv : (zr x1) ∧ ((x1 < 6 → ((iv M 1 3) = (-1) → ∃ (r3 : Int) (M2 : am_M), am_call t_Rea_isAtWord [.ref 1] M (some (.int (zi r3))) M2 ∧ ((zr r3) ∧ ((r3 = 0 → Q none M2) ∧ (¬ r3 = 0 → (zr (iv M2 1 2)) ∧ (((tb M2 (iv M2 1 2)) = 64 → ∀ M5, M5 = zup M2 1 2 ((iv M2 1 2) + 1) → ∃ (r7 : Int) (M6 : am_M), am_call t_Rea_readNumber [.ref 1] M5 (some (.int (zi r7))) M6 ∧ (∃ M8, am_call t_Dra_addWord [.ref 4, .int (zi (1000 + r7))] M6 none M8 ∧ (am_x t_Rea_readWords (2, [.ref 1, .int (zi (x1 + 1))], [], M8) Q))) ∧ (¬ (tb M2 (iv M2 1 2)) = 64 → ∃ (r10 : Int) (M9 : am_M), am_call t_Rea_readDigits [.ref 1, .int (zi 0)] M2 (some (.int (zi r10))) M9 ∧ (∃ M11, am_call t_Dra_addWord [.ref 4, .int (zi r10)] M9 none M11 ∧ (am_x t_Rea_readWords (2, [.ref 1, .int (zi (x1 + 1))], [], M11) Q)))))))) ∧ (¬ (iv M 1 3) = (-1) → Q none M)) ∧ (6 ≤ x1 → Q none M))) : am_x t_Rea_readWords (2, [.ref 1, .int (zi x1)], [], M) Q := by
  obtain ⟨r1, hv⟩ := hv
  refine am_xn 3 (c1 := (if zi x1 < zi 6 then 8 else 85, [.ref 1, .int (zi x1)], [], M)) rfl (am_xlt r1 (by decide) (fun h => ?_) (fun h => ?_))
  · replace hv := hv.1 h
    refine am_xrd 2 1 3 (pc := 12) (ls := [.ref 1, .int (zi x1)]) (st := []) rfl ?_
    refine am_xn 2 (c1 := (if zi (iv M 1 3) = zi (-1) then 16 else 85, [.ref 1, .int (zi x1)], [], M)) rfl (am_xeq (iv_r _ _ _) (by decide) (fun h => ?_) (fun h => ?_))
    · replace hv := hv.1 h
      refine am_xn 1 (c1 := (17, [.ref 1, .int (zi x1)], [.ref 1], M)) rfl ?_
      obtain ⟨r3, M2, hc, hv⟩ := hv
      refine am_xc t_Rea_isAtWord (.invokevirtual 99) 99 (av := [.ref 1]) (rest := []) (rv := some (.int (zi r3))) (M' := M2) rfl rfl rfl rfl (Nat.le_of_ble_eq_true rfl) (fun _ => rfl) (hc) ?_
      refine am_xn 0 (c1 := (20, [.ref 1, .int (zi x1)], [.int (zi r3)], M2)) rfl ?_
      obtain ⟨r4, hv⟩ := hv
      refine am_xn 1 (c1 := (if zi r3 = zi 0 then 85 else 23, [.ref 1, .int (zi x1)], [], M2)) rfl (am_xeq r4 (by decide) (fun h => ?_) (fun h => ?_))
      · replace hv := hv.1 h
        exact am_xr none ⟨rfl, rfl, rfl⟩ hv
      · replace hv := hv.2 h
        refine am_xrd 4 1 2 (pc := 31) (ls := [.ref 1, .int (zi x1)]) (st := [.ref 2]) rfl ?_
        obtain ⟨g, hv⟩ := hv
        refine am_xc t_Pag_byteAt (.invokevirtual 102) 102 (av := [.ref 2, .int (zi (iv M2 1 2))]) (rest := []) (rv := some (.int (zi (tb M2 (iv M2 1 2))))) (M' := M2) rfl rfl rfl rfl (Nat.le_of_ble_eq_true rfl) (fun _ => rfl) (sp_p2_byteAt M2 (iv M2 1 2) g) ?_
        refine am_xn 0 (c1 := (34, [.ref 1, .int (zi x1)], [.int (zi (tb M2 (iv M2 1 2)))], M2)) rfl ?_
        refine am_xn 2 (c1 := (if zi (tb M2 (iv M2 1 2)) = zi 64 then 39 else 67, [.ref 1, .int (zi x1)], [], M2)) rfl (am_xeq (tb_r M2 (iv M2 1 2)) (by decide) (fun h => ?_) (fun h => ?_))
        · replace hv := hv.1 h
          refine am_xrd 3 1 2 (pc := 44) (ls := [.ref 1, .int (zi x1)]) (st := [.ref 1]) rfl ?_
          refine am_xiadd 2 (iv M2 1 2) 1 (pc := 46) (ls := [.ref 1, .int (zi x1)]) (st := [.ref 1]) rfl ?_
          refine am_xn 1 (c1 := (49, [.ref 1, .int (zi x1)], [], zup M2 1 2 ((iv M2 1 2) + 1))) rfl ?_
          obtain ⟨M5, eM5⟩ : ∃ m, m = zup M2 1 2 ((iv M2 1 2) + 1) := ⟨_, rfl⟩
          replace hv := hv M5 eM5
          rw [← eM5]
          refine am_xn 4 (c1 := (57, [.ref 1, .int (zi x1)], [.ref 1, .int (zi 1000), .ref 4], M5)) rfl ?_
          obtain ⟨r7, M6, hc, hv⟩ := hv
          refine am_xc t_Rea_readNumber (.invokevirtual 57) 57 (av := [.ref 1]) (rest := [.int (zi 1000), .ref 4]) (rv := some (.int (zi r7))) (M' := M6) rfl rfl rfl rfl (Nat.le_of_ble_eq_true rfl) (fun _ => rfl) (hc) ?_
          refine am_xn 0 (c1 := (60, [.ref 1, .int (zi x1)], [.int (zi r7), .int (zi 1000), .ref 4], M6)) rfl ?_
          refine am_xiadd 1 1000 r7 (pc := 61) (ls := [.ref 1, .int (zi x1)]) (st := [.ref 4]) rfl ?_
          obtain ⟨M8, hc, hv⟩ := hv
          refine am_xc t_Dra_addWord (.invokevirtual 106) 106 (av := [.ref 4, .int (zi (1000 + r7))]) (rest := []) (rv := none) (M' := M8) rfl rfl rfl rfl (Nat.le_of_ble_eq_true rfl) (fun _ => rfl) (hc) ?_
          refine am_xn 0 (c1 := (64, [.ref 1, .int (zi x1)], [], M8)) rfl ?_
          refine am_xn 2 (c1 := (82, [.ref 1, .int (zi x1 + zi 1)], [], M8)) rfl ?_
          rw [zi_add]
          refine am_xn 1 (c1 := (2, [.ref 1, .int (zi (x1 + 1))], [], M8)) rfl ?_
          exact hv
        · replace hv := hv.2 h
          refine am_xn 4 (c1 := (73, [.ref 1, .int (zi x1)], [.int (zi 0), .ref 1, .ref 4], M2)) rfl ?_
          obtain ⟨r10, M9, hc, hv⟩ := hv
          refine am_xc t_Rea_readDigits (.invokevirtual 109) 109 (av := [.ref 1, .int (zi 0)]) (rest := [.ref 4]) (rv := some (.int (zi r10))) (M' := M9) rfl rfl rfl rfl (Nat.le_of_ble_eq_true rfl) (fun _ => rfl) (hc) ?_
          refine am_xn 0 (c1 := (76, [.ref 1, .int (zi x1)], [.int (zi r10), .ref 4], M9)) rfl ?_
          obtain ⟨M11, hc, hv⟩ := hv
          refine am_xc t_Dra_addWord (.invokevirtual 106) 106 (av := [.ref 4, .int (zi r10)]) (rest := []) (rv := none) (M' := M11) rfl rfl rfl rfl (Nat.le_of_ble_eq_true rfl) (fun _ => rfl) (hc) ?_
          refine am_xn 0 (c1 := (79, [.ref 1, .int (zi x1)], [], M11)) rfl ?_
          refine am_xn 1 (c1 := (82, [.ref 1, .int (zi x1 + zi 1)], [], M11)) rfl ?_
          rw [zi_add]
          refine am_xn 1 (c1 := (2, [.ref 1, .int (zi (x1 + 1))], [], M11)) rfl ?_
          exact hv
    · replace hv := hv.2 h
      exact am_xr none ⟨rfl, rfl, rfl⟩ hv
  · replace hv := hv.2 h
    exact am_xr none ⟨rfl, rfl, rfl⟩ hv
set_option maxRecDepth 100000 in
theorem vc_c_readSaving  (M : am_M) (Q : Option Value → am_M → Prop) (hv : ∃ M1, am_call t_Rea_skipBlanks [.ref 1] M none M1 ∧ (((iv M1 1 3) = (-1) → (zr (iv M1 1 2)) ∧ ((zr (tb M1 (iv M1 1 2)) ∧ zr (97 : Int) ∧ zr (122 : Int)) ∧ ((97 ≤ (tb M1 (iv M1 1 2)) ∧ (tb M1 (iv M1 1 2)) ≤ 122 → ∃ M2, am_call t_Rea_expect [.ref 1, .ref 6008] M1 none M2 ∧ ((0 ≤ (iv M2 4 1 - 1) * 13 + (4 : Int) ∧ (iv M2 4 1 - 1) * 13 + (4 : Int) < 520) ∧ (∀ M3, M3 = zup M2 6 ((iv M2 4 1 - 1) * 13 + 4) 1 → Q none M3))) ∧ (¬ (97 ≤ (tb M1 (iv M1 1 2)) ∧ (tb M1 (iv M1 1 2)) ≤ 122) → Q none M1)))) ∧ (¬ (iv M1 1 3) = (-1) → Q none M1))) : am_x t_Rea_readSaving (0, am_ent (am_mL t_Rea_readSaving) [.ref 1], [], M) Q := by
  refine am_xn 0 (c1 := (0, [.ref 1], [], M)) rfl ?_
  refine am_xn 1 (c1 := (1, [.ref 1], [.ref 1], M)) rfl ?_
  obtain ⟨M1, hc, hv⟩ := hv
  refine am_xc t_Rea_skipBlanks (.invokevirtual 44) 44 (av := [.ref 1]) (rest := []) (rv := none) (M' := M1) rfl rfl rfl rfl (Nat.le_of_ble_eq_true rfl) (fun _ => rfl) (hc) ?_
  refine am_xn 0 (c1 := (4, [.ref 1], [], M1)) rfl ?_
  refine am_xrd 2 1 3 (pc := 8) (ls := [.ref 1]) (st := []) rfl ?_
  refine am_xn 2 (c1 := (if zi (iv M1 1 3) = zi (-1) then 12 else 48, [.ref 1], [], M1)) rfl (am_xeq (iv_r _ _ _) (by decide) (fun h => ?_) (fun h => ?_))
  · replace hv := hv.1 h
    refine am_xrd 4 1 2 (pc := 20) (ls := [.ref 1]) (st := [.ref 2]) rfl ?_
    obtain ⟨g, hv⟩ := hv
    refine am_xc t_Pag_byteAt (.invokevirtual 102) 102 (av := [.ref 2, .int (zi (iv M1 1 2))]) (rest := []) (rv := some (.int (zi (tb M1 (iv M1 1 2))))) (M' := M1) rfl rfl rfl rfl (Nat.le_of_ble_eq_true rfl) (fun _ => rfl) (sp_p2_byteAt M1 (iv M1 1 2) g) ?_
    refine am_xn 0 (c1 := (23, [.ref 1], [.int (zi (tb M1 (iv M1 1 2)))], M1)) rfl ?_
    refine am_xn 2 (c1 := (27, [.ref 1], [.int (zi 122), .int (zi 97), .int (zi (tb M1 (iv M1 1 2)))], M1)) rfl ?_
    obtain ⟨g, hv⟩ := hv
    by_cases c4 : 97 ≤ (tb M1 (iv M1 1 2)) ∧ (tb M1 (iv M1 1 2)) ≤ 122
    · replace hv := hv.1 c4
      refine am_xc t_Rea_isBetween (.invokestatic 112) 112 (av := [.int (zi (tb M1 (iv M1 1 2))), .int (zi 97), .int (zi 122)]) (rest := []) (rv := some (.int (zi 1))) (M' := M1) rfl rfl rfl rfl (Nat.le_of_ble_eq_true rfl) (fun h => nomatch h) (by have q := sp_isBetween M1 (tb M1 (iv M1 1 2)) 97 122 g; rwa [if_pos c4] at q) ?_
      refine am_xn 0 (c1 := (30, [.ref 1], [.int (zi 1)], M1)) rfl ?_
      refine am_xn 3 (c1 := (36, [.ref 1], [.ref 6008, .ref 1], M1)) rfl ?_
      obtain ⟨M2, hc, hv⟩ := hv
      refine am_xc t_Rea_expect (.invokevirtual 69) 69 (av := [.ref 1, .ref 6008]) (rest := []) (rv := none) (M' := M2) rfl rfl rfl rfl (Nat.le_of_ble_eq_true rfl) (fun _ => rfl) (hc) ?_
      refine am_xn 0 (c1 := (39, [.ref 1], [], M2)) rfl ?_
      refine am_xn 4 (c1 := (45, [.ref 1], [.int (zi 1), .int (zi 4), .ref 4], M2)) rfl ?_
      obtain ⟨g, hv⟩ := hv
      obtain ⟨M3, eM3⟩ : ∃ m, m = zup M2 6 ((iv M2 4 1 - 1) * 13 + 4) 1 := ⟨_, rfl⟩
      replace hv := hv M3 eM3
      refine am_xc t_Dra_put (.invokevirtual 73) 73 (av := [.ref 4, .int (zi 4), .int (zi 1)]) (rest := []) (rv := none) (M' := M3) rfl rfl rfl rfl (Nat.le_of_ble_eq_true rfl) (fun _ => rfl) (by rw [eM3]; exact sp_put M2 4 1 g) ?_
      refine am_xn 0 (c1 := (48, [.ref 1], [], M3)) rfl ?_
      exact am_xr none ⟨rfl, rfl, rfl⟩ hv
    · replace hv := hv.2 c4
      refine am_xc t_Rea_isBetween (.invokestatic 112) 112 (av := [.int (zi (tb M1 (iv M1 1 2))), .int (zi 97), .int (zi 122)]) (rest := []) (rv := some (.int (zi 0))) (M' := M1) rfl rfl rfl rfl (Nat.le_of_ble_eq_true rfl) (fun h => nomatch h) (by have q := sp_isBetween M1 (tb M1 (iv M1 1 2)) 97 122 g; rwa [if_neg c4] at q) ?_
      refine am_xn 0 (c1 := (30, [.ref 1], [.int (zi 0)], M1)) rfl ?_
      refine am_xn 1 (c1 := (48, [.ref 1], [], M1)) rfl ?_
      exact am_xr none ⟨rfl, rfl, rfl⟩ hv
  · replace hv := hv.2 h
    exact am_xr none ⟨rfl, rfl, rfl⟩ hv
set_option maxRecDepth 100000 in
theorem vc_c_readOperation  (M : am_M) (Q : Option Value → am_M → Prop) (hv : ∃ M1, am_call t_Rea_skipBlanks [.ref 1] M none M1 ∧ (((iv M1 4 1) < 40 → ∃ (r3 : Int) (M2 : am_M), am_call t_Rea_readKind [.ref 1] M1 (some (.int (zi r3))) M2 ∧ ((zr r3) ∧ ((r3 = (-1) → ∃ M5, am_call t_Rea_fail [.ref 1, .int (zi (iv M2 1 2))] M2 none M5 ∧ (Q none M5)) ∧ (¬ r3 = (-1) → ∃ M6, am_call t_Rea_skipBlanks [.ref 1] M2 none M6 ∧ (∃ (r8 : Int) (M7 : am_M), am_call t_Rea_readNumber [.ref 1] M6 (some (.int (zi r8))) M7 ∧ (∃ M9, am_call t_Dra_begin [.ref 4, .int (zi r3), .int (zi r8)] M7 none M9 ∧ ((r3 = 0 → ∃ M10, am_call t_Rea_readWords [.ref 1] M9 none M10 ∧ (Q none M10)) ∧ (¬ r3 = 0 → (r3 = 1 → ∃ M11, am_call t_Rea_readWords [.ref 1] M9 none M11 ∧ (∃ M12, am_call t_Rea_readSaving [.ref 1] M11 none M12 ∧ (Q none M12))) ∧ (¬ r3 = 1 → (r3 = 3 → ∃ M13, am_call t_Rea_expect [.ref 1, .ref 6005] M9 none M13 ∧ (∃ M14, am_call t_Rea_skipBlanks [.ref 1] M13 none M14 ∧ (∃ (r16 : Int) (M15 : am_M), am_call t_Rea_readNumber [.ref 1] M14 (some (.int (zi r16))) M15 ∧ ((0 ≤ (iv M15 4 1 - 1) * 13 + (2 : Int) ∧ (iv M15 4 1 - 1) * 13 + (2 : Int) < 520) ∧ (∀ M17, M17 = zup M15 6 ((iv M15 4 1 - 1) * 13 + 2) r16 → Q none M17))))) ∧ (¬ r3 = 3 → (r3 = 4 → ∃ M18, am_call t_Rea_expect [.ref 1, .ref 6006] M9 none M18 ∧ (∃ (r20 : Int) (M19 : am_M), am_call t_Rea_readPlain [.ref 1] M18 (some (.int (zi r20))) M19 ∧ ((0 ≤ (iv M19 4 1 - 1) * 13 + (2 : Int) ∧ (iv M19 4 1 - 1) * 13 + (2 : Int) < 520) ∧ (∀ M21, M21 = zup M19 6 ((iv M19 4 1 - 1) * 13 + 2) r20 → ∃ M22, am_call t_Rea_expect [.ref 1, .ref 6007] M21 none M22 ∧ (∃ (r24 : Int) (M23 : am_M), am_call t_Rea_readPlain [.ref 1] M22 (some (.int (zi r24))) M23 ∧ ((0 ≤ (iv M23 4 1 - 1) * 13 + (3 : Int) ∧ (iv M23 4 1 - 1) * 13 + (3 : Int) < 520) ∧ (∀ M25, M25 = zup M23 6 ((iv M23 4 1 - 1) * 13 + 3) r24 → ∃ M26, am_call t_Rea_readSaving [.ref 1] M25 none M26 ∧ (Q none M26)))))))) ∧ (¬ r3 = 4 → ∃ M27, am_call t_Rea_readSaving [.ref 1] M9 none M27 ∧ (Q none M27)))))))))))) ∧ (40 ≤ (iv M1 4 1) → ∃ M28, am_call t_Rea_fail [.ref 1, .int (zi (iv M1 1 2))] M1 none M28 ∧ (Q none M28)))) : am_x t_Rea_readOperation (0, am_ent (am_mL t_Rea_readOperation) [.ref 1], [], M) Q := by
  refine am_xn 0 (c1 := (0, [.ref 1, .null], [], M)) rfl ?_
  refine am_xn 1 (c1 := (1, [.ref 1, .null], [.ref 1], M)) rfl ?_
  obtain ⟨M1, hc, hv⟩ := hv
  refine am_xc t_Rea_skipBlanks (.invokevirtual 44) 44 (av := [.ref 1]) (rest := []) (rv := none) (M' := M1) rfl rfl rfl rfl (Nat.le_of_ble_eq_true rfl) (fun _ => rfl) (hc) ?_
  refine am_xn 0 (c1 := (4, [.ref 1, .null], [], M1)) rfl ?_
  refine am_xn 2 (c1 := (8, [.ref 1, .null], [.ref 4], M1)) rfl ?_
  refine am_xc t_Dra_size (.invokevirtual 47) 47 (av := [.ref 4]) (rest := []) (rv := some (.int (zi (iv M1 4 1)))) (M' := M1) rfl rfl rfl rfl (Nat.le_of_ble_eq_true rfl) (fun _ => rfl) (sp_d_size M1) ?_
  refine am_xn 0 (c1 := (11, [.ref 1, .null], [.int (zi (iv M1 4 1))], M1)) rfl ?_
  refine am_xn 2 (c1 := (if zi (iv M1 4 1) < zi 40 then 16 else 23, [.ref 1, .null], [], M1)) rfl (am_xlt (iv_r _ _ _) (by decide) (fun h => ?_) (fun h => ?_))
  · replace hv := hv.1 h
    refine am_xn 1 (c1 := (17, [.ref 1, .null], [.ref 1], M1)) rfl ?_
    obtain ⟨r3, M2, hc, hv⟩ := hv
    refine am_xc t_Rea_readKind (.invokevirtual 51) 51 (av := [.ref 1]) (rest := []) (rv := some (.int (zi r3))) (M' := M2) rfl rfl rfl rfl (Nat.le_of_ble_eq_true rfl) (fun _ => rfl) (hc) ?_
    refine am_xn 0 (c1 := (20, [.ref 1, .null], [.int (zi r3)], M2)) rfl ?_
    obtain ⟨r4, hv⟩ := hv
    refine am_xn 5 (c1 := (if zi r3 = zi (-1) then 30 else 39, [.ref 1, .int (zi r3)], [], M2)) rfl (am_xeq r4 (by decide) (fun h => ?_) (fun h => ?_))
    · replace hv := hv.1 h
      refine am_xrd 3 1 2 (pc := 35) (ls := [.ref 1, .int (zi r3)]) (st := [.ref 1]) rfl ?_
      obtain ⟨M5, hc, hv⟩ := hv
      refine am_xc t_Rea_fail (.invokevirtual 54) 54 (av := [.ref 1, .int (zi (iv M2 1 2))]) (rest := []) (rv := none) (M' := M5) rfl rfl rfl rfl (Nat.le_of_ble_eq_true rfl) (fun _ => rfl) (hc) ?_
      refine am_xn 0 (c1 := (38, [.ref 1, .int (zi r3)], [], M5)) rfl ?_
      exact am_xr none ⟨rfl, rfl, rfl⟩ hv
    · replace hv := hv.2 h
      refine am_xn 1 (c1 := (40, [.ref 1, .int (zi r3)], [.ref 1], M2)) rfl ?_
      obtain ⟨M6, hc, hv⟩ := hv
      refine am_xc t_Rea_skipBlanks (.invokevirtual 44) 44 (av := [.ref 1]) (rest := []) (rv := none) (M' := M6) rfl rfl rfl rfl (Nat.le_of_ble_eq_true rfl) (fun _ => rfl) (hc) ?_
      refine am_xn 0 (c1 := (43, [.ref 1, .int (zi r3)], [], M6)) rfl ?_
      refine am_xn 4 (c1 := (49, [.ref 1, .int (zi r3)], [.ref 1, .int (zi r3), .ref 4], M6)) rfl ?_
      obtain ⟨r8, M7, hc, hv⟩ := hv
      refine am_xc t_Rea_readNumber (.invokevirtual 57) 57 (av := [.ref 1]) (rest := [.int (zi r3), .ref 4]) (rv := some (.int (zi r8))) (M' := M7) rfl rfl rfl rfl (Nat.le_of_ble_eq_true rfl) (fun _ => rfl) (hc) ?_
      refine am_xn 0 (c1 := (52, [.ref 1, .int (zi r3)], [.int (zi r8), .int (zi r3), .ref 4], M7)) rfl ?_
      obtain ⟨M9, hc, hv⟩ := hv
      refine am_xc t_Dra_begin (.invokevirtual 60) 60 (av := [.ref 4, .int (zi r3), .int (zi r8)]) (rest := []) (rv := none) (M' := M9) rfl rfl rfl rfl (Nat.le_of_ble_eq_true rfl) (fun _ => rfl) (hc) ?_
      refine am_xn 0 (c1 := (55, [.ref 1, .int (zi r3)], [], M9)) rfl ?_
      refine am_xn 2 (c1 := (if zi r3 = zi 0 then 64 else 59, [.ref 1, .int (zi r3)], [], M9)) rfl (am_xeq r4 (by decide) (fun h => ?_) (fun h => ?_))
      · replace hv := hv.1 h
        refine am_xn 1 (c1 := (65, [.ref 1, .int (zi r3)], [.ref 1], M9)) rfl ?_
        obtain ⟨M10, hc, hv⟩ := hv
        refine am_xc t_Rea_readWords (.invokevirtual 64) 64 (av := [.ref 1]) (rest := []) (rv := none) (M' := M10) rfl rfl rfl rfl (Nat.le_of_ble_eq_true rfl) (fun _ => rfl) (hc) ?_
        refine am_xn 0 (c1 := (68, [.ref 1, .int (zi r3)], [], M10)) rfl ?_
        refine am_xn 3 (c1 := (if zi r3 = zi 0 then 155 else 146, [.ref 1, .int (zi r3)], [], M10)) rfl (am_xeq r4 (by decide) (fun h => ?_) (fun h => by clear hv; exfalso; omega))
        exact am_xr none ⟨rfl, rfl, rfl⟩ hv
      · replace hv := hv.2 h
        refine am_xn 3 (c1 := (if zi r3 = zi 1 then 64 else 71, [.ref 1, .int (zi r3)], [], M9)) rfl (am_xeq r4 (by decide) (fun h => ?_) (fun h => ?_))
        · replace hv := hv.1 h
          refine am_xn 1 (c1 := (65, [.ref 1, .int (zi r3)], [.ref 1], M9)) rfl ?_
          obtain ⟨M11, hc, hv⟩ := hv
          refine am_xc t_Rea_readWords (.invokevirtual 64) 64 (av := [.ref 1]) (rest := []) (rv := none) (M' := M11) rfl rfl rfl rfl (Nat.le_of_ble_eq_true rfl) (fun _ => rfl) (hc) ?_
          refine am_xn 0 (c1 := (68, [.ref 1, .int (zi r3)], [], M11)) rfl ?_
          refine am_xn 3 (c1 := (if zi r3 = zi 0 then 155 else 146, [.ref 1, .int (zi r3)], [], M11)) rfl (am_xeq r4 (by decide) (fun h => by clear hv; exfalso; omega) (fun h => ?_))
          refine am_xn 3 (c1 := (if zi r3 = zi 3 then 155 else 151, [.ref 1, .int (zi r3)], [], M11)) rfl (am_xeq r4 (by decide) (fun h => by clear hv; exfalso; omega) (fun h => ?_))
          refine am_xn 1 (c1 := (152, [.ref 1, .int (zi r3)], [.ref 1], M11)) rfl ?_
          obtain ⟨M12, hc, hv⟩ := hv
          refine am_xc t_Rea_readSaving (.invokevirtual 82) 82 (av := [.ref 1]) (rest := []) (rv := none) (M' := M12) rfl rfl rfl rfl (Nat.le_of_ble_eq_true rfl) (fun _ => rfl) (hc) ?_
          refine am_xn 0 (c1 := (155, [.ref 1, .int (zi r3)], [], M12)) rfl ?_
          exact am_xr none ⟨rfl, rfl, rfl⟩ hv
        · replace hv := hv.2 h
          refine am_xn 3 (c1 := (if zi r3 = zi 3 then 76 else 101, [.ref 1, .int (zi r3)], [], M9)) rfl (am_xeq r4 (by decide) (fun h => ?_) (fun h => ?_))
          · replace hv := hv.1 h
            refine am_xn 2 (c1 := (79, [.ref 1, .int (zi r3)], [.ref 6005, .ref 1], M9)) rfl ?_
            obtain ⟨M13, hc, hv⟩ := hv
            refine am_xc t_Rea_expect (.invokevirtual 69) 69 (av := [.ref 1, .ref 6005]) (rest := []) (rv := none) (M' := M13) rfl rfl rfl rfl (Nat.le_of_ble_eq_true rfl) (fun _ => rfl) (hc) ?_
            refine am_xn 0 (c1 := (82, [.ref 1, .int (zi r3)], [], M13)) rfl ?_
            refine am_xn 1 (c1 := (83, [.ref 1, .int (zi r3)], [.ref 1], M13)) rfl ?_
            obtain ⟨M14, hc, hv⟩ := hv
            refine am_xc t_Rea_skipBlanks (.invokevirtual 44) 44 (av := [.ref 1]) (rest := []) (rv := none) (M' := M14) rfl rfl rfl rfl (Nat.le_of_ble_eq_true rfl) (fun _ => rfl) (hc) ?_
            refine am_xn 0 (c1 := (86, [.ref 1, .int (zi r3)], [], M14)) rfl ?_
            refine am_xn 4 (c1 := (92, [.ref 1, .int (zi r3)], [.ref 1, .int (zi 2), .ref 4], M14)) rfl ?_
            obtain ⟨r16, M15, hc, hv⟩ := hv
            refine am_xc t_Rea_readNumber (.invokevirtual 57) 57 (av := [.ref 1]) (rest := [.int (zi 2), .ref 4]) (rv := some (.int (zi r16))) (M' := M15) rfl rfl rfl rfl (Nat.le_of_ble_eq_true rfl) (fun _ => rfl) (hc) ?_
            refine am_xn 0 (c1 := (95, [.ref 1, .int (zi r3)], [.int (zi r16), .int (zi 2), .ref 4], M15)) rfl ?_
            obtain ⟨g, hv⟩ := hv
            obtain ⟨M17, eM17⟩ : ∃ m, m = zup M15 6 ((iv M15 4 1 - 1) * 13 + 2) r16 := ⟨_, rfl⟩
            replace hv := hv M17 eM17
            refine am_xc t_Dra_put (.invokevirtual 73) 73 (av := [.ref 4, .int (zi 2), .int (zi r16)]) (rest := []) (rv := none) (M' := M17) rfl rfl rfl rfl (Nat.le_of_ble_eq_true rfl) (fun _ => rfl) (by rw [eM17]; exact sp_put M15 2 r16 g) ?_
            refine am_xn 0 (c1 := (98, [.ref 1, .int (zi r3)], [], M17)) rfl ?_
            refine am_xn 3 (c1 := (if zi r3 = zi 0 then 155 else 146, [.ref 1, .int (zi r3)], [], M17)) rfl (am_xeq r4 (by decide) (fun h => by clear hv; exfalso; omega) (fun h => ?_))
            refine am_xn 3 (c1 := (if zi r3 = zi 3 then 155 else 151, [.ref 1, .int (zi r3)], [], M17)) rfl (am_xeq r4 (by decide) (fun h => ?_) (fun h => by clear hv; exfalso; omega))
            exact am_xr none ⟨rfl, rfl, rfl⟩ hv
          · replace hv := hv.2 h
            refine am_xn 3 (c1 := (if zi r3 = zi 4 then 106 else 142, [.ref 1, .int (zi r3)], [], M9)) rfl (am_xeq r4 (by decide) (fun h => ?_) (fun h => ?_))
            · replace hv := hv.1 h
              refine am_xn 2 (c1 := (109, [.ref 1, .int (zi r3)], [.ref 6006, .ref 1], M9)) rfl ?_
              obtain ⟨M18, hc, hv⟩ := hv
              refine am_xc t_Rea_expect (.invokevirtual 69) 69 (av := [.ref 1, .ref 6006]) (rest := []) (rv := none) (M' := M18) rfl rfl rfl rfl (Nat.le_of_ble_eq_true rfl) (fun _ => rfl) (hc) ?_
              refine am_xn 0 (c1 := (112, [.ref 1, .int (zi r3)], [], M18)) rfl ?_
              refine am_xn 4 (c1 := (118, [.ref 1, .int (zi r3)], [.ref 1, .int (zi 2), .ref 4], M18)) rfl ?_
              obtain ⟨r20, M19, hc, hv⟩ := hv
              refine am_xc t_Rea_readPlain (.invokevirtual 78) 78 (av := [.ref 1]) (rest := [.int (zi 2), .ref 4]) (rv := some (.int (zi r20))) (M' := M19) rfl rfl rfl rfl (Nat.le_of_ble_eq_true rfl) (fun _ => rfl) (hc) ?_
              refine am_xn 0 (c1 := (121, [.ref 1, .int (zi r3)], [.int (zi r20), .int (zi 2), .ref 4], M19)) rfl ?_
              obtain ⟨g, hv⟩ := hv
              obtain ⟨M21, eM21⟩ : ∃ m, m = zup M19 6 ((iv M19 4 1 - 1) * 13 + 2) r20 := ⟨_, rfl⟩
              replace hv := hv M21 eM21
              refine am_xc t_Dra_put (.invokevirtual 73) 73 (av := [.ref 4, .int (zi 2), .int (zi r20)]) (rest := []) (rv := none) (M' := M21) rfl rfl rfl rfl (Nat.le_of_ble_eq_true rfl) (fun _ => rfl) (by rw [eM21]; exact sp_put M19 2 r20 g) ?_
              refine am_xn 0 (c1 := (124, [.ref 1, .int (zi r3)], [], M21)) rfl ?_
              refine am_xn 2 (c1 := (127, [.ref 1, .int (zi r3)], [.ref 6007, .ref 1], M21)) rfl ?_
              obtain ⟨M22, hc, hv⟩ := hv
              refine am_xc t_Rea_expect (.invokevirtual 69) 69 (av := [.ref 1, .ref 6007]) (rest := []) (rv := none) (M' := M22) rfl rfl rfl rfl (Nat.le_of_ble_eq_true rfl) (fun _ => rfl) (hc) ?_
              refine am_xn 0 (c1 := (130, [.ref 1, .int (zi r3)], [], M22)) rfl ?_
              refine am_xn 4 (c1 := (136, [.ref 1, .int (zi r3)], [.ref 1, .int (zi 3), .ref 4], M22)) rfl ?_
              obtain ⟨r24, M23, hc, hv⟩ := hv
              refine am_xc t_Rea_readPlain (.invokevirtual 78) 78 (av := [.ref 1]) (rest := [.int (zi 3), .ref 4]) (rv := some (.int (zi r24))) (M' := M23) rfl rfl rfl rfl (Nat.le_of_ble_eq_true rfl) (fun _ => rfl) (hc) ?_
              refine am_xn 0 (c1 := (139, [.ref 1, .int (zi r3)], [.int (zi r24), .int (zi 3), .ref 4], M23)) rfl ?_
              obtain ⟨g, hv⟩ := hv
              obtain ⟨M25, eM25⟩ : ∃ m, m = zup M23 6 ((iv M23 4 1 - 1) * 13 + 3) r24 := ⟨_, rfl⟩
              replace hv := hv M25 eM25
              refine am_xc t_Dra_put (.invokevirtual 73) 73 (av := [.ref 4, .int (zi 3), .int (zi r24)]) (rest := []) (rv := none) (M' := M25) rfl rfl rfl rfl (Nat.le_of_ble_eq_true rfl) (fun _ => rfl) (by rw [eM25]; exact sp_put M23 3 r24 g) ?_
              refine am_xn 0 (c1 := (142, [.ref 1, .int (zi r3)], [], M25)) rfl ?_
              refine am_xn 2 (c1 := (if zi r3 = zi 0 then 155 else 146, [.ref 1, .int (zi r3)], [], M25)) rfl (am_xeq r4 (by decide) (fun h => by clear hv; exfalso; omega) (fun h => ?_))
              refine am_xn 3 (c1 := (if zi r3 = zi 3 then 155 else 151, [.ref 1, .int (zi r3)], [], M25)) rfl (am_xeq r4 (by decide) (fun h => by clear hv; exfalso; omega) (fun h => ?_))
              refine am_xn 1 (c1 := (152, [.ref 1, .int (zi r3)], [.ref 1], M25)) rfl ?_
              obtain ⟨M26, hc, hv⟩ := hv
              refine am_xc t_Rea_readSaving (.invokevirtual 82) 82 (av := [.ref 1]) (rest := []) (rv := none) (M' := M26) rfl rfl rfl rfl (Nat.le_of_ble_eq_true rfl) (fun _ => rfl) (hc) ?_
              refine am_xn 0 (c1 := (155, [.ref 1, .int (zi r3)], [], M26)) rfl ?_
              exact am_xr none ⟨rfl, rfl, rfl⟩ hv
            · replace hv := hv.2 h
              refine am_xn 2 (c1 := (if zi r3 = zi 0 then 155 else 146, [.ref 1, .int (zi r3)], [], M9)) rfl (am_xeq r4 (by decide) (fun h => by clear hv; exfalso; omega) (fun h => ?_))
              refine am_xn 3 (c1 := (if zi r3 = zi 3 then 155 else 151, [.ref 1, .int (zi r3)], [], M9)) rfl (am_xeq r4 (by decide) (fun h => by clear hv; exfalso; omega) (fun h => ?_))
              refine am_xn 1 (c1 := (152, [.ref 1, .int (zi r3)], [.ref 1], M9)) rfl ?_
              obtain ⟨M27, hc, hv⟩ := hv
              refine am_xc t_Rea_readSaving (.invokevirtual 82) 82 (av := [.ref 1]) (rest := []) (rv := none) (M' := M27) rfl rfl rfl rfl (Nat.le_of_ble_eq_true rfl) (fun _ => rfl) (hc) ?_
              refine am_xn 0 (c1 := (155, [.ref 1, .int (zi r3)], [], M27)) rfl ?_
              exact am_xr none ⟨rfl, rfl, rfl⟩ hv
  · replace hv := hv.2 h
    refine am_xrd 8 1 2 (pc := 35) (ls := [.ref 1, .int (zi (-1))]) (st := [.ref 1]) rfl ?_
    obtain ⟨M28, hc, hv⟩ := hv
    refine am_xc t_Rea_fail (.invokevirtual 54) 54 (av := [.ref 1, .int (zi (iv M1 1 2))]) (rest := []) (rv := none) (M' := M28) rfl rfl rfl rfl (Nat.le_of_ble_eq_true rfl) (fun _ => rfl) (hc) ?_
    refine am_xn 0 (c1 := (38, [.ref 1, .int (zi (-1))], [], M28)) rfl ?_
    exact am_xr none ⟨rfl, rfl, rfl⟩ hv
set_option maxRecDepth 100000 in
theorem vc_readSemicolon  (M : am_M) (Q : Option Value → am_M → Prop) (hv : ∃ M1, am_call t_Rea_skipBlanks [.ref 1] M none M1 ∧ ((zr (iv M1 1 2)) ∧ (((tb M1 (iv M1 1 2)) = 59 → ∀ M2, M2 = zup M1 1 2 ((iv M1 1 2) + 1) → Q (some (.int (zi 1))) M2) ∧ (¬ (tb M1 (iv M1 1 2)) = 59 → ((iv M1 1 2) < (min (iv M1 2 1) 120) → ∃ M3, am_call t_Rea_fail [.ref 1, .int (zi (iv M1 1 2))] M1 none M3 ∧ (Q (some (.int (zi 0))) M3)) ∧ ((min (iv M1 2 1) 120) ≤ (iv M1 1 2) → Q (some (.int (zi 0))) M1))))) : am_x t_Rea_readSemicolon (0, am_ent (am_mL t_Rea_readSemicolon) [.ref 1], [], M) Q := by
  refine am_xn 0 (c1 := (0, [.ref 1], [], M)) rfl ?_
  refine am_xn 1 (c1 := (1, [.ref 1], [.ref 1], M)) rfl ?_
  obtain ⟨M1, hc, hv⟩ := hv
  refine am_xc t_Rea_skipBlanks (.invokevirtual 44) 44 (av := [.ref 1]) (rest := []) (rv := none) (M' := M1) rfl rfl rfl rfl (Nat.le_of_ble_eq_true rfl) (fun _ => rfl) (hc) ?_
  refine am_xn 0 (c1 := (4, [.ref 1], [], M1)) rfl ?_
  refine am_xrd 4 1 2 (pc := 12) (ls := [.ref 1]) (st := [.ref 2]) rfl ?_
  obtain ⟨g, hv⟩ := hv
  refine am_xc t_Pag_byteAt (.invokevirtual 102) 102 (av := [.ref 2, .int (zi (iv M1 1 2))]) (rest := []) (rv := some (.int (zi (tb M1 (iv M1 1 2))))) (M' := M1) rfl rfl rfl rfl (Nat.le_of_ble_eq_true rfl) (fun _ => rfl) (sp_p2_byteAt M1 (iv M1 1 2) g) ?_
  refine am_xn 0 (c1 := (15, [.ref 1], [.int (zi (tb M1 (iv M1 1 2)))], M1)) rfl ?_
  refine am_xn 2 (c1 := (if zi (tb M1 (iv M1 1 2)) = zi 59 then 20 else 32, [.ref 1], [], M1)) rfl (am_xeq (tb_r M1 (iv M1 1 2)) (by decide) (fun h => ?_) (fun h => ?_))
  · replace hv := hv.1 h
    refine am_xrd 3 1 2 (pc := 25) (ls := [.ref 1]) (st := [.ref 1]) rfl ?_
    refine am_xiadd 2 (iv M1 1 2) 1 (pc := 27) (ls := [.ref 1]) (st := [.ref 1]) rfl ?_
    refine am_xn 1 (c1 := (30, [.ref 1], [], zup M1 1 2 ((iv M1 1 2) + 1))) rfl ?_
    obtain ⟨M2, eM2⟩ : ∃ m, m = zup M1 1 2 ((iv M1 1 2) + 1) := ⟨_, rfl⟩
    replace hv := hv M2 eM2
    rw [← eM2]
    refine am_xn 1 (c1 := (31, [.ref 1], [.int (zi 1)], M2)) rfl ?_
    exact am_xr (some (.int (zi 1))) ⟨rfl, rfl, .boolean, rfl, rfl⟩ hv
  · replace hv := hv.2 h
    refine am_xrd 2 1 2 (pc := 36) (ls := [.ref 1]) (st := []) rfl ?_
    refine am_xn 2 (c1 := (40, [.ref 1], [.ref 2, .int (zi (iv M1 1 2))], M1)) rfl ?_
    refine am_xc t_Pag_kept (.invokevirtual 118) 118 (av := [.ref 2]) (rest := [.int (zi (iv M1 1 2))]) (rv := some (.int (zi (min (iv M1 2 1) 120)))) (M' := M1) rfl rfl rfl rfl (Nat.le_of_ble_eq_true rfl) (fun _ => rfl) (sp_p2k M1) ?_
    refine am_xn 0 (c1 := (43, [.ref 1], [.int (zi (min (iv M1 2 1) 120)), .int (zi (iv M1 1 2))], M1)) rfl ?_
    refine am_xn 1 (c1 := (if zi (iv M1 1 2) < zi (min (iv M1 2 1) 120) then 46 else 54, [.ref 1], [], M1)) rfl (am_xlt (iv_r _ _ _) (zr_min (iv_r _ _ _) (by decide)) (fun h => ?_) (fun h => ?_))
    · replace hv := hv.1 h
      refine am_xrd 3 1 2 (pc := 51) (ls := [.ref 1]) (st := [.ref 1]) rfl ?_
      obtain ⟨M3, hc, hv⟩ := hv
      refine am_xc t_Rea_fail (.invokevirtual 54) 54 (av := [.ref 1, .int (zi (iv M1 1 2))]) (rest := []) (rv := none) (M' := M3) rfl rfl rfl rfl (Nat.le_of_ble_eq_true rfl) (fun _ => rfl) (hc) ?_
      refine am_xn 0 (c1 := (54, [.ref 1], [], M3)) rfl ?_
      refine am_xn 1 (c1 := (55, [.ref 1], [.int (zi 0)], M3)) rfl ?_
      exact am_xr (some (.int (zi 0))) ⟨rfl, rfl, .boolean, rfl, rfl⟩ hv
    · replace hv := hv.2 h
      refine am_xn 1 (c1 := (55, [.ref 1], [.int (zi 0)], M1)) rfl ?_
      exact am_xr (some (.int (zi 0))) ⟨rfl, rfl, .boolean, rfl, rfl⟩ hv
set_option maxRecDepth 100000 in
theorem vc_readAmendment  (M : am_M) (Q : Option Value → am_M → Prop) (hv : ∃ M1, am_call t_Dra_makeEmpty [.ref 4] M none M1 ∧ (∀ M2, M2 = zup M1 1 2 0 → ∀ M3, M3 = zup M2 1 3 (-1) → am_x t_Rea_readAmendment (21, [.ref 1, .int (zi 1), .int (zi 0)], [], M3) Q)) : am_x t_Rea_readAmendment (0, am_ent (am_mL t_Rea_readAmendment) [.ref 1], [], M) Q := by
  refine am_xn 0 (c1 := (0, [.ref 1, .null, .null], [], M)) rfl ?_
  refine am_xn 2 (c1 := (4, [.ref 1, .null, .null], [.ref 4], M)) rfl ?_
  obtain ⟨M1, hc, hv⟩ := hv
  refine am_xc t_Dra_makeEmpty (.invokevirtual 27) 27 (av := [.ref 4]) (rest := []) (rv := none) (M' := M1) rfl rfl rfl rfl (Nat.le_of_ble_eq_true rfl) (fun _ => rfl) (hc) ?_
  refine am_xn 0 (c1 := (7, [.ref 1, .null, .null], [], M1)) rfl ?_
  refine am_xn 3 (c1 := (12, [.ref 1, .null, .null], [], zup M1 1 2 0)) rfl ?_
  obtain ⟨M2, eM2⟩ : ∃ m, m = zup M1 1 2 0 := ⟨_, rfl⟩
  replace hv := hv M2 eM2
  rw [← eM2]
  refine am_xn 3 (c1 := (17, [.ref 1, .null, .null], [], zup M2 1 3 (-1))) rfl ?_
  obtain ⟨M3, eM3⟩ : ∃ m, m = zup M2 1 3 (-1) := ⟨_, rfl⟩
  replace hv := hv M3 eM3
  rw [← eM3]
  refine am_xn 4 (c1 := (21, [.ref 1, .int (zi 1), .int (zi 0)], [], M3)) rfl ?_
  exact hv
set_option maxRecDepth 100000 in
theorem vc_readAmendment_21 (x1 : Int) (x2 : Int) (M : am_M) (Q : Option Value → am_M → Prop) (hv : (zr x1) ∧ ((x1 = 0 → Q (some (.int (zi (iv M 1 3)))) M) ∧ (¬ x1 = 0 → (zr x2) ∧ ((40 < x2 → Q (some (.int (zi (iv M 1 3)))) M) ∧ (x2 ≤ 40 → ∃ M3, am_call t_Rea_readOperation [.ref 1] M none M3 ∧ (((iv M3 1 3) = (-1) → ∃ (r5 : Int) (M4 : am_M), am_call t_Rea_readSemicolon [.ref 1] M3 (some (.int (zi r5))) M4 ∧ ((zr r5) ∧ ((r5 = 0 → am_x t_Rea_readAmendment (21, [.ref 1, .int (zi 0), .int (zi (x2 + 1))], [], M4) Q) ∧ (¬ r5 = 0 → am_x t_Rea_readAmendment (21, [.ref 1, .int (zi 1), .int (zi (x2 + 1))], [], M4) Q)))) ∧ (¬ (iv M3 1 3) = (-1) → am_x t_Rea_readAmendment (21, [.ref 1, .int (zi 0), .int (zi (x2 + 1))], [], M3) Q))))))) : am_x t_Rea_readAmendment (21, [.ref 1, .int (zi x1), .int (zi x2)], [], M) Q := by
  obtain ⟨r1, hv⟩ := hv
  refine am_xn 2 (c1 := (if zi x1 = zi 0 then 62 else 25, [.ref 1, .int (zi x1), .int (zi x2)], [], M)) rfl (am_xeq r1 (by decide) (fun h => ?_) (fun h => ?_))
  · replace hv := hv.1 h
    refine am_xrd 2 1 3 (pc := 66) (ls := [.ref 1, .int (zi x1), .int (zi x2)]) (st := []) rfl ?_
    exact am_xr (some (.int (zi (iv M 1 3)))) ⟨rfl, rfl, .int, rfl, rfl⟩ hv
  · replace hv := hv.2 h
    obtain ⟨r2, hv⟩ := hv
    refine am_xn 3 (c1 := (if zi 40 < zi x2 then 62 else 31, [.ref 1, .int (zi x1), .int (zi x2)], [], M)) rfl (am_xlt (by decide) r2 (fun h => ?_) (fun h => ?_))
    · replace hv := hv.1 h
      refine am_xrd 2 1 3 (pc := 66) (ls := [.ref 1, .int (zi x1), .int (zi x2)]) (st := []) rfl ?_
      exact am_xr (some (.int (zi (iv M 1 3)))) ⟨rfl, rfl, .int, rfl, rfl⟩ hv
    · replace hv := hv.2 h
      refine am_xn 1 (c1 := (32, [.ref 1, .int (zi x1), .int (zi x2)], [.ref 1], M)) rfl ?_
      obtain ⟨M3, hc, hv⟩ := hv
      refine am_xc t_Rea_readOperation (.invokevirtual 37) 37 (av := [.ref 1]) (rest := []) (rv := none) (M' := M3) rfl rfl rfl rfl (Nat.le_of_ble_eq_true rfl) (fun _ => rfl) (hc) ?_
      refine am_xn 0 (c1 := (35, [.ref 1, .int (zi x1), .int (zi x2)], [], M3)) rfl ?_
      refine am_xrd 2 1 3 (pc := 39) (ls := [.ref 1, .int (zi x1), .int (zi x2)]) (st := []) rfl ?_
      refine am_xn 2 (c1 := (if zi (iv M3 1 3) = zi (-1) then 43 else 54, [.ref 1, .int (zi x1), .int (zi x2)], [], M3)) rfl (am_xeq (iv_r _ _ _) (by decide) (fun h => ?_) (fun h => ?_))
      · replace hv := hv.1 h
        refine am_xn 1 (c1 := (44, [.ref 1, .int (zi x1), .int (zi x2)], [.ref 1], M3)) rfl ?_
        obtain ⟨r5, M4, hc, hv⟩ := hv
        refine am_xc t_Rea_readSemicolon (.invokevirtual 40) 40 (av := [.ref 1]) (rest := []) (rv := some (.int (zi r5))) (M' := M4) rfl rfl rfl rfl (Nat.le_of_ble_eq_true rfl) (fun _ => rfl) (hc) ?_
        refine am_xn 0 (c1 := (47, [.ref 1, .int (zi x1), .int (zi x2)], [.int (zi r5)], M4)) rfl ?_
        obtain ⟨r6, hv⟩ := hv
        refine am_xn 1 (c1 := (if zi r5 = zi 0 then 54 else 50, [.ref 1, .int (zi x1), .int (zi x2)], [], M4)) rfl (am_xeq r6 (by decide) (fun h => ?_) (fun h => ?_))
        · replace hv := hv.1 h
          refine am_xn 3 (c1 := (59, [.ref 1, .int (zi 0), .int (zi x2 + zi 1)], [], M4)) rfl ?_
          rw [zi_add]
          refine am_xn 1 (c1 := (21, [.ref 1, .int (zi 0), .int (zi (x2 + 1))], [], M4)) rfl ?_
          exact hv
        · replace hv := hv.2 h
          refine am_xn 4 (c1 := (59, [.ref 1, .int (zi 1), .int (zi x2 + zi 1)], [], M4)) rfl ?_
          rw [zi_add]
          refine am_xn 1 (c1 := (21, [.ref 1, .int (zi 1), .int (zi (x2 + 1))], [], M4)) rfl ?_
          exact hv
      · replace hv := hv.2 h
        refine am_xn 3 (c1 := (59, [.ref 1, .int (zi 0), .int (zi x2 + zi 1)], [], M3)) rfl ?_
        rw [zi_add]
        refine am_xn 1 (c1 := (21, [.ref 1, .int (zi 0), .int (zi (x2 + 1))], [], M3)) rfl ?_
        exact hv
theorem sp_begin {M : am_M} {z k n : Int} (e : iv M 4 1 = z) (z0 : 0 ≤ z) (z1 : z < 40) (kz : zr k) (nz : zr n) (hi : 0 ≤ iv M 4 2 ∧ iv M 4 2 ≤ 40) : ∃ M', am_call t_Dra_begin [.ref 4, .int (zi k), .int (zi n)] M none M' ∧ (∀ a, ¬ a = 4 → ¬ a = 6 → M' a = M a) ∧ iv M' 4 1 = z + 1 ∧ iv M' 4 2 = iv M 4 2 + (if k = 0 then 1 else 0) ∧ (iv M' 6 (z * 13) = k ∧ iv M' 6 (z * 13 + 1) = n ∧ iv M' 6 (z * 13 + 2) = -1 ∧ iv M' 6 (z * 13 + 3) = -1 ∧ iv M' 6 (z * 13 + 4) = 0 ∧ iv M' 6 (z * 13 + 5) = 0 ∧ iv M' 6 (z * 13 + 6) = -1) ∧ ∀ j, 0 ≤ j → ¬ (z * 13 ≤ j ∧ j < z * 13 + 13) → iv M' 6 j = iv M 6 j := by
  suffices hh : am_x t_Dra_begin (0, am_ent (am_mL t_Dra_begin) [.ref 4, .int (zi k), .int (zi n)], [], M) (fun rv M' => rv = none ∧ (∀ a, ¬ a = 4 → ¬ a = 6 → M' a = M a) ∧ iv M' 4 1 = z + 1 ∧ iv M' 4 2 = iv M 4 2 + (if k = 0 then 1 else 0) ∧ (iv M' 6 (z * 13) = k ∧ iv M' 6 (z * 13 + 1) = n ∧ iv M' 6 (z * 13 + 2) = -1 ∧ iv M' 6 (z * 13 + 3) = -1 ∧ iv M' 6 (z * 13 + 4) = 0 ∧ iv M' 6 (z * 13 + 5) = 0 ∧ iv M' 6 (z * 13 + 6) = -1) ∧ ∀ j, 0 ≤ j → ¬ (z * 13 ≤ j ∧ j < z * 13 + 13) → iv M' 6 j = iv M 6 j) by
    obtain ⟨rv, M', c1, c2, c3⟩ := am_call_ex (by exact ⟨Nat.le_of_ble_eq_true rfl, rfl⟩) hh
    subst c2
    exact ⟨M', c1, c3⟩
  refine vc_begin k n M _ (fun M1 e1 => ?_)
  have a1 : iv M1 4 1 = z + 1 := by rw [e1, e, ivs _ _ (by decide) (by decide) ⟨by omega, by omega⟩, if_pos rfl]
  have b1 : iv M1 4 2 = iv M 4 2 := by rw [e1, e, ivs _ _ (by decide) (by decide) ⟨by omega, by omega⟩, if_neg (by decide)]
  have r1 : ∀ a, ¬ a = 4 → M1 a = M a := fun a ha => by rw [e1, zupr _ ha]
  rw [a1]
  refine ⟨⟨by omega, by omega⟩, fun M2 e2 => ?_⟩
  have a2 : iv M2 4 1 = z + 1 := by rw [e2, ivr _ (by decide), a1]
  rw [a2]
  refine ⟨⟨by omega, by omega⟩, fun M3 e3 => ?_⟩
  have a3 : iv M3 4 1 = z + 1 := by rw [e3, ivr _ (by decide), a2]
  rw [a3]
  refine ⟨⟨by omega, by omega⟩, fun M4 e4 => ?_⟩
  have a4 : iv M4 4 1 = z + 1 := by rw [e4, ivr _ (by decide), a3]
  rw [a4]
  refine ⟨⟨by omega, by omega⟩, fun M5 e5 => ?_⟩
  have a5 : iv M5 4 1 = z + 1 := by rw [e5, ivr _ (by decide), a4]
  rw [a5]
  refine ⟨⟨by omega, by omega⟩, fun M6 e6 => ?_⟩
  have a6 : iv M6 4 1 = z + 1 := by rw [e6, ivr _ (by decide), a5]
  rw [a6]
  refine ⟨⟨by omega, by omega⟩, fun M7 e7 => ?_⟩
  have a7 : iv M7 4 1 = z + 1 := by rw [e7, ivr _ (by decide), a6]
  rw [a7]
  refine ⟨⟨by omega, by omega⟩, fun M8 e8 => ?_⟩
  have a8 : iv M8 4 1 = z + 1 := by rw [e8, ivr _ (by decide), a7]
  have hj : ∀ j, 0 ≤ j → iv M8 6 j = if j = (z + 1 - 1) * 13 + 6 then -1 else if j = (z + 1 - 1) * 13 + 5 then 0 else if j = (z + 1 - 1) * 13 + 4 then 0 else if j = (z + 1 - 1) * 13 + 3 then -1 else if j = (z + 1 - 1) * 13 + 2 then -1 else if j = (z + 1 - 1) * 13 + 1 then n else if j = (z + 1 - 1) * 13 + 0 then k else iv M 6 j := fun j j0 => by
    rw [e8, ivs _ _ (by omega) j0 (by decide), e7, ivs _ _ (by omega) j0 (by decide), e6, ivs _ _ (by omega) j0 (by decide), e5, ivs _ _ (by omega) j0 (by decide), e4, ivs _ _ (by omega) j0 (by decide), e3, ivs _ _ (by omega) j0 nz, e2, ivs _ _ (by omega) j0 kz, iv_row (r1 6 (by decide))]
  have r8 : ∀ a, ¬ a = 4 → ¬ a = 6 → M8 a = M a := fun a h4 h6 => by rw [e8, zupr _ h6, e7, zupr _ h6, e6, zupr _ h6, e5, zupr _ h6, e4, zupr _ h6, e3, zupr _ h6, e2, zupr _ h6, r1 a h4]
  have b8 : iv M8 4 2 = iv M 4 2 := by rw [e8, ivr _ (by decide), e7, ivr _ (by decide), e6, ivr _ (by decide), e5, ivr _ (by decide), e4, ivr _ (by decide), e3, ivr _ (by decide), e2, ivr _ (by decide), b1]
  have cs : iv M8 6 (z * 13) = k ∧ iv M8 6 (z * 13 + 1) = n ∧ iv M8 6 (z * 13 + 2) = -1 ∧ iv M8 6 (z * 13 + 3) = -1 ∧ iv M8 6 (z * 13 + 4) = 0 ∧ iv M8 6 (z * 13 + 5) = 0 ∧ iv M8 6 (z * 13 + 6) = -1 := ⟨by rw [hj _ (by omega)]; repeat (first | rw [if_neg (by omega)] | rw [if_pos (by omega)]), by rw [hj _ (by omega)]; repeat (first | rw [if_neg (by omega)] | rw [if_pos (by omega)]), by rw [hj _ (by omega)]; repeat (first | rw [if_neg (by omega)] | rw [if_pos (by omega)]), by rw [hj _ (by omega)]; repeat (first | rw [if_neg (by omega)] | rw [if_pos (by omega)]), by rw [hj _ (by omega)]; repeat (first | rw [if_neg (by omega)] | rw [if_pos (by omega)]), by rw [hj _ (by omega)]; repeat (first | rw [if_neg (by omega)] | rw [if_pos (by omega)]), by rw [hj _ (by omega)]; repeat (first | rw [if_neg (by omega)] | rw [if_pos (by omega)])⟩
  have cf : ∀ j, 0 ≤ j → ¬ (z * 13 ≤ j ∧ j < z * 13 + 13) → iv M8 6 j = iv M 6 j := fun j j0 h => by rw [hj _ (by omega)]; repeat (first | rw [if_neg (by omega)] | rw [if_pos (by omega)])
  refine ⟨kz, fun q => fun M10 e10 => ⟨rfl, fun a h4 h6 => by rw [e10, zupr _ h4, r8 a h4 h6], ?_, ?_, ?_, fun j j0 h => ?_⟩, fun q => ⟨rfl, r8, a8, by rw [if_neg q, b8]; omega, cs, cf⟩⟩
  · rw [e10, ivs _ _ (by decide) (by decide) ⟨by omega, by omega⟩, if_neg (by decide), a8]
  · rw [e10, ivs _ _ (by decide) (by decide) ⟨by omega, by omega⟩, if_pos rfl, b8, if_pos q]
  · rw [e10, ivr _ (by decide)]; exact cs
  · rw [e10, ivr _ (by decide)]; exact cf j j0 h
/-- a reader that has also written into the draft's row -/
def CR6 (M0 : am_M) (p f : Int) (M : am_M) : Prop := (∀ a, ¬ a = 1 → ¬ a = 6 → M a = M0 a) ∧ iv M 1 2 = p ∧ iv M 1 3 = f
theorem CR6.x {T : Int → Int} {n : Int} {M0 M : am_M} {p f : Int} (g : CR6 M0 p f M) (x : XT T n M0) : XT T n M := x.row (g.1 2 (by decide) (by decide)) (g.1 3 (by decide) (by decide))
theorem CR6.b {M0 M : am_M} {p f : Int} (g : CR6 M0 p f M) : CRd M p f M := ⟨fun _ _ => rfl, g.2.1, g.2.2⟩
theorem CR6.s {M0 M M1 : am_M} {p f p1 f1 : Int} (g : CR6 M0 p f M) (h : CRd M p1 f1 M1) : CR6 M0 p1 f1 M1 := ⟨fun a a1 a6 => by rw [h.1 a a1, g.1 a a1 a6], h.2.1, h.2.2⟩
theorem CR6.w {M0 M M1 : am_M} {p f : Int} (g : CR6 M0 p f M) (h : ∀ a, ¬ a = 6 → M1 a = M a) : CR6 M0 p f M1 := ⟨fun a a1 a6 => by rw [h a a6, g.1 a a1 a6], by rw [iv_row (h 1 (by decide)), g.2.1], by rw [iv_row (h 1 (by decide)), g.2.2]⟩
theorem sp_addWord {M : am_M} {z i v : Int} (e : iv M 4 1 = z) (z0 : 1 ≤ z) (z1 : z ≤ 40) (ei : iv M 6 ((z - 1) * 13 + 5) = i) (i0 : 0 ≤ i) (i1 : i < 6) (vz : zr v) : ∃ M', am_call t_Dra_addWord [.ref 4, .int (zi v)] M none M' ∧ (∀ a, ¬ a = 6 → M' a = M a) ∧ ∀ j, 0 ≤ j → iv M' 6 j = if j = (z - 1) * 13 + 5 then i + 1 else if j = (z - 1) * 13 + (7 + i) then v else iv M 6 j := by
  suffices hh : am_x t_Dra_addWord (0, am_ent (am_mL t_Dra_addWord) [.ref 4, .int (zi v)], [], M) (fun rv M' => rv = none ∧ (∀ a, ¬ a = 6 → M' a = M a) ∧ ∀ j, 0 ≤ j → iv M' 6 j = if j = (z - 1) * 13 + 5 then i + 1 else if j = (z - 1) * 13 + (7 + i) then v else iv M 6 j) by
    obtain ⟨rv, M', c1, c2, c3⟩ := am_call_ex (by exact ⟨Nat.le_of_ble_eq_true rfl, rfl⟩) hh
    subst c2
    exact ⟨M', c1, c3⟩
  refine vc_addWord v M _ ?_
  rw [e, ei]
  refine ⟨⟨by omega, by omega⟩, ⟨by omega, by omega⟩, fun M1 e1 => ?_⟩
  have a1 : iv M1 4 1 = z := by rw [e1, ivr _ (by decide), e]
  rw [a1]
  refine ⟨⟨by omega, by omega⟩, fun M2 e2 => ⟨rfl, fun a ha => by rw [e2, zupr _ ha, e1, zupr _ ha], fun j j0 => ?_⟩⟩
  rw [e2, ivs _ _ (by omega) j0 ⟨by omega, by omega⟩, e1, ivs _ _ (by omega) j0 vz]
theorem sp_isAtWord {T : Int → Int} {n : Int} {M0 M : am_M} {p f : Int} (x : XT T n M0) (g : CRd M0 p f M) (p0 : 0 ≤ p) (p1 : p ≤ n) : ∃ M', am_call t_Rea_isAtWord [.ref 1] M (some (.int (zi (if wI T p then 1 else 0)))) M' ∧ CRd M0 (sk T p) f M' := by
  suffices hh : am_x t_Rea_isAtWord (0, am_ent (am_mL t_Rea_isAtWord) [.ref 1], [], M) (fun rv M' => rv = some (.int (zi (if wI T p then 1 else 0))) ∧ CRd M0 (sk T p) f M') by
    obtain ⟨rv, M', c1, c2, c3⟩ := am_call_ex (by exact ⟨Nat.le_of_ble_eq_true rfl, rfl⟩) hh
    subst c2
    exact ⟨M', c1, c3⟩
  have r := x.2.2.skr p0 p1
  obtain ⟨M1, c1, g1⟩ := sp_skip x g p0 p1
  refine vc_isAtWord M _ ⟨M1, c1, iv_r _ _ _, ?_⟩
  rw [g1.2.1, (x.rd g1).1]
  have tr := x.2.2.r (k := sk T p) (by omega)
  have xn := x.2.2.1
  refine ⟨fun q => ⟨by rw [if_pos (Or.inl q)], g1⟩, fun q => ⟨⟨by omega, by omega⟩, ⟨⟨by omega, by omega⟩, by decide, by decide⟩, fun w => ⟨by rw [if_pos (Or.inr w)], g1⟩, fun w => ⟨?_, g1⟩⟩⟩
  rw [if_neg (fun z => z.elim q w)]
theorem sp_semicolon {T : Int → Int} {n : Int} {M0 M : am_M} {p f : Int} (x : XT T n M0) (g : CRd M0 p f M) (p0 : 0 ≤ p) (p1 : p ≤ n) : ∃ M', am_call t_Rea_readSemicolon [.ref 1] M (some (.int (zi (if T (sk T p) = 59 then 1 else 0)))) M' ∧ CRd M0 (if T (sk T p) = 59 then sk T p + 1 else sk T p) (th f (if T (sk T p) = 59 then -1 else if sk T p < n then sk T p else -1)) M' := by
  suffices hh : am_x t_Rea_readSemicolon (0, am_ent (am_mL t_Rea_readSemicolon) [.ref 1], [], M) (fun rv M' => rv = some (.int (zi (if T (sk T p) = 59 then 1 else 0))) ∧ CRd M0 (if T (sk T p) = 59 then sk T p + 1 else sk T p) (th f (if T (sk T p) = 59 then -1 else if sk T p < n then sk T p else -1)) M') by
    obtain ⟨rv, M', c1, c2, c3⟩ := am_call_ex (by exact ⟨Nat.le_of_ble_eq_true rfl, rfl⟩) hh
    subst c2
    exact ⟨M', c1, c3⟩
  have xn := x.2.2.1
  have r := x.2.2.skr p0 p1
  obtain ⟨M1, c1, g1⟩ := sp_skip x g p0 p1
  refine vc_readSemicolon M _ ⟨M1, c1, iv_r _ _ _, ?_⟩
  rw [g1.2.1, (x.rd g1).1, (x.rd g1).2.1, show min n 120 = n by omega]
  by_cases q : T (sk T p) = 59
  · rw [if_pos q, if_pos q, if_pos q, th_1]
    exact ⟨fun _ M2 e2 => ⟨rfl, crd_p g1 e2 ⟨by omega, by omega⟩⟩, fun z => absurd q z⟩
  · rw [if_neg q, if_neg q, if_neg q]
    refine ⟨fun z => absurd z q, fun _ => ⟨fun w => ?_, fun w => ?_⟩⟩
    · obtain ⟨M3, c3, g3⟩ := sp_c_fail g1 (x := sk T p) ⟨by omega, by omega⟩
      rw [if_pos w]
      exact ⟨M3, c3, rfl, g3⟩
    · rw [if_neg (by omega), th_1]
      exact ⟨rfl, g1⟩
theorem sp_c_saving {T : Int → Int} {n : Int} {M0 M : am_M} {p f z : Int} (x : XT T n M0) (ez : iv M0 4 1 = z) (z0 : 1 ≤ z) (z1 : z ≤ 40) (g : CR6 M0 p f M) (p0 : 0 ≤ p) (p1 : p ≤ n) : ∃ M' p', am_call t_Rea_readSaving [.ref 1] M none M' ∧ CR6 M0 p' (th f (svE T p)) M' ∧ (0 ≤ p' ∧ p' ≤ n) ∧ (f = -1 → svE T p = -1 → p' = svN T p ∧ iv M' 6 ((z - 1) * 13 + 4) = if isl (T (sk T p)) then 1 else iv M 6 ((z - 1) * 13 + 4)) ∧ ∀ j, 0 ≤ j → ¬ j = (z - 1) * 13 + 4 → iv M' 6 j = iv M 6 j := by
  suffices hh : am_x t_Rea_readSaving (0, am_ent (am_mL t_Rea_readSaving) [.ref 1], [], M) (fun rv M' => rv = none ∧ ∃ p', CR6 M0 p' (th f (svE T p)) M' ∧ (0 ≤ p' ∧ p' ≤ n) ∧ (f = -1 → svE T p = -1 → p' = svN T p ∧ iv M' 6 ((z - 1) * 13 + 4) = if isl (T (sk T p)) then 1 else iv M 6 ((z - 1) * 13 + 4)) ∧ ∀ j, 0 ≤ j → ¬ j = (z - 1) * 13 + 4 → iv M' 6 j = iv M 6 j) by
    obtain ⟨rv, M', c1, c2, p', c3⟩ := am_call_ex (by exact ⟨Nat.le_of_ble_eq_true rfl, rfl⟩) hh
    subst c2
    exact ⟨M', p', c1, c3⟩
  have xn := x.2.2.1
  have r := x.2.2.skr p0 p1
  obtain ⟨M1, c1, d1⟩ := sp_skip (g.x x) g.b p0 p1
  have g1 := g.s d1
  have r6 : iv M1 6 = iv M 6 := iv_row (d1.1 6 (by decide))
  have tr := x.2.2.r (k := sk T p) (by omega)
  refine vc_c_readSaving M _ ⟨M1, c1, ?_⟩
  rw [g1.2.1, g1.2.2, (g1.x x).1]
  refine ⟨fun q => ⟨⟨by omega, by omega⟩, ⟨⟨by omega, by omega⟩, by decide, by decide⟩, fun w => ?_, fun w => ⟨rfl, sk T p, ?_, by omega, fun _ _ => ⟨?_, ?_⟩, fun j _ _ => by rw [r6]⟩⟩, fun q => ⟨rfl, sk T p, ?_, by omega, fun z => absurd z q, fun j _ _ => by rw [r6]⟩⟩
  · obtain ⟨M2, c2, d2⟩ := sp_expect8 (g1.x x) g1.b (by omega) (by omega)
    have g2 := g1.s d2
    have xr := xe8_r x.2.2 (p := sk T p) (by omega) (by omega)
    have e4 : iv M2 4 1 = z := by rw [iv_row (g2.1 4 (by decide) (by decide)), ez]
    refine ⟨M2, c2, ?_⟩
    rw [e4]
    refine ⟨⟨by omega, by omega⟩, fun M3 e3 => ⟨rfl, xe8 T (sk T p), ?_, by omega, fun _ _ => ⟨?_, ?_⟩, fun j j0 hj => ?_⟩⟩
    · unfold svE
      rw [if_pos w]
      exact g2.w (fun a ha => by rw [e3, zupr _ ha])
    · unfold svN; rw [if_pos w]
    · rw [e3, ivs _ _ (by omega) (by omega) (by decide), if_pos rfl, if_pos w]
    · rw [e3, ivs _ _ (by omega) j0 (by decide), if_neg hj, iv_row (d2.1 6 (by decide)), r6]
  · unfold svE
    rw [if_neg w, th_1]
    exact g1
  · unfold svN; rw [if_neg w]
  · rw [if_neg w, r6]
  · rw [th_n _ q]
    exact g1
theorem sp_c_words {T : Int → Int} {n : Int} {M0 M : am_M} {p f z : Int} (x : XT T n M0) (ez : iv M0 4 1 = z) (z0 : 1 ≤ z) (z1 : z ≤ 40) (g : CR6 M0 p f M) (e5 : iv M 6 ((z - 1) * 13 + 5) = 0) (p0 : 0 ≤ p) (p1 : p ≤ n) : ∃ M' p', am_call t_Rea_readWords [.ref 1] M none M' ∧ CR6 M0 p' (th f (wde T p)) M' ∧ (0 ≤ p' ∧ p' ≤ n) ∧ (f = -1 → wde T p = -1 → sk T p' = sk T (wq T p (wc T p)) ∧ iv M' 6 ((z - 1) * 13 + 5) = wc T p ∧ ∀ k, 0 ≤ k → k < wc T p → iv M' 6 ((z - 1) * 13 + (7 + k)) = wV T (wq T p k)) ∧ ∀ j, 0 ≤ j → ¬ j = (z - 1) * 13 + 5 → ¬ ((z - 1) * 13 + 7 ≤ j ∧ j < (z - 1) * 13 + 13) → iv M' 6 j = iv M 6 j := by
  suffices hh : am_x t_Rea_readWords (0, am_ent (am_mL t_Rea_readWords) [.ref 1], [], M) (fun rv M' => rv = none ∧ ∃ p', CR6 M0 p' (th f (wde T p)) M' ∧ (0 ≤ p' ∧ p' ≤ n) ∧ (f = -1 → wde T p = -1 → sk T p' = sk T (wq T p (wc T p)) ∧ iv M' 6 ((z - 1) * 13 + 5) = wc T p ∧ ∀ k, 0 ≤ k → k < wc T p → iv M' 6 ((z - 1) * 13 + (7 + k)) = wV T (wq T p k)) ∧ ∀ j, 0 ≤ j → ¬ j = (z - 1) * 13 + 5 → ¬ ((z - 1) * 13 + 7 ≤ j ∧ j < (z - 1) * 13 + 13) → iv M' 6 j = iv M 6 j) by
    obtain ⟨rv, M', c1, c2, p', c3⟩ := am_call_ex (by exact ⟨Nat.le_of_ble_eq_true rfl, rfl⟩) hh
    subst c2
    exact ⟨M', p', c1, c3⟩
  have xn := x.2.2.1
  refine vc_c_readWords M _ ?_
  by_cases hf : f = -1
  · subst hf
    rw [th_o]
    refine loop_up (fun i (s : am_M) => (2, [.ref 1, .int (zi i)], [], s)) 6 (fun i s => (∃ q f', CR6 M0 q f' s ∧ (0 ≤ q ∧ q ≤ n) ∧ ((f' = -1 ∧ q = wq T p i ∧ wcN T p (6 - i).toNat i = wc T p ∧ iv s 6 ((z - 1) * 13 + 5) = i ∧ ∀ k, 0 ≤ k → k < i → iv s 6 ((z - 1) * 13 + (7 + k)) = wV T (wq T p k)) ∨ (¬ f' = -1 ∧ f' = wde T p))) ∧ ∀ j, 0 ≤ j → ¬ j = (z - 1) * 13 + 5 → ¬ ((z - 1) * 13 + 7 ≤ j ∧ j < (z - 1) * 13 + 13) → iv s 6 j = iv M 6 j) ?_ ?_ 0 M (by omega) (by omega) ⟨⟨p, -1, g, ⟨p0, p1⟩, Or.inl ⟨rfl, rfl, rfl, e5, fun k k0 k1 => by omega⟩⟩, fun _ _ _ _ => rfl⟩
    · intro s ⟨⟨q, f', gs, qr, h⟩, fr⟩
      refine vc_c_readWords_2 _ s _ ⟨by decide, fun w => by omega, fun _ => ⟨rfl, q, ?_, qr, fun _ wd => ?_, fr⟩⟩
      · rcases h with ⟨h1, _, h3, _, _⟩ | ⟨_, h2⟩
        · have e6 : wc T p = 6 := h3.symm
          unfold wde
          rw [if_pos e6, ← h1]
          exact gs
        · rw [← h2]; exact gs
      · rcases h with ⟨h1, h2, h3, h4, h5⟩ | ⟨h1, h2⟩
        · have e6 : wc T p = 6 := h3.symm
          rw [e6]
          exact ⟨by rw [h2], h4, h5⟩
        · rw [wd] at h2; exact absurd h2 h1
    · intro i s i0 i1 ⟨⟨q, f', gs, qr, h⟩, fr⟩ k
      refine vc_c_readWords_2 _ s _ ⟨⟨by omega, by omega⟩, fun _ => ?_, fun w => by omega⟩
      rw [gs.2.2]
      rcases h with ⟨h1, h2, h3, h4, h5⟩ | ⟨h1, h2⟩
      · refine ⟨fun _ => ?_, fun w => absurd h1 w⟩
        subst h1
        obtain ⟨M2, c2, d2⟩ := sp_isAtWord (gs.x x) gs.b qr.1 qr.2
        have g2 := gs.s d2
        have r := x.2.2.skr qr.1 qr.2
        have r6 : iv M2 6 = iv s 6 := iv_row (d2.1 6 (by decide))
        have e4 : ∀ M', CR6 M0 (iv M' 1 2) (iv M' 1 3) M' → iv M' 4 1 = z := fun M' h => by rw [iv_row (h.1 4 (by decide) (by decide)), ez]
        rw [wcN_s T p i1, ← h2] at h3
        by_cases hw : wI T q
        · rw [if_pos hw] at c2
          have lt := x.2.2.lt (k := sk T q) (by rcases hw with e | e <;> omega)
          have fin : ∀ v M6 M8, CR6 M0 (wN T q) (wE T q) M6 → iv M6 6 = iv s 6 → v = wV T q → (∀ a, ¬ a = 6 → M8 a = M6 a) → (∀ j, 0 ≤ j → iv M8 6 j = if j = (z - 1) * 13 + 5 then i + 1 else if j = (z - 1) * 13 + (7 + i) then v else iv M6 6 j) → am_x t_Rea_readWords (2, [.ref 1, .int (zi (i + 1))], [], M8) (fun rv M' => rv = none ∧ ∃ p', CR6 M0 p' (wde T p) M' ∧ (0 ≤ p' ∧ p' ≤ n) ∧ ((-1 : Int) = -1 → wde T p = -1 → sk T p' = sk T (wq T p (wc T p)) ∧ iv M' 6 ((z - 1) * 13 + 5) = wc T p ∧ ∀ k, 0 ≤ k → k < wc T p → iv M' 6 ((z - 1) * 13 + (7 + k)) = wV T (wq T p k)) ∧ ∀ j, 0 ≤ j → ¬ j = (z - 1) * 13 + 5 → ¬ ((z - 1) * 13 + 7 ≤ j ∧ j < (z - 1) * 13 + 13) → iv M' 6 j = iv M 6 j) := by
            intro v M6 M8 g6 r66 ev f8 c8
            have wr := wN_r x.2.2 qr.1 qr.2
            refine k M8 ⟨⟨wN T q, wE T q, g6.w f8, by omega, ?_⟩, fun j j0 j1 j2 => ?_⟩
            · by_cases he : wE T q = -1
              · rw [if_pos ⟨hw, he⟩] at h3
                refine Or.inl ⟨he, by rw [wq_s T p i0, ← h2], h3, ?_, fun k' k0 k1 => ?_⟩
                · rw [c8 _ (by omega), if_pos rfl]
                · rw [c8 _ (by omega), if_neg (by omega)]
                  by_cases ek : k' = i
                  · rw [if_pos (by omega), ev, ek, h2]
                  · rw [if_neg (by omega), r66]
                    exact h5 k' k0 (by omega)
              · rw [if_neg (fun y => he y.2)] at h3
                refine Or.inr ⟨he, ?_⟩
                unfold wde
                rw [← h3, if_neg (by omega), ← h2, if_pos hw]
            · rw [c8 _ j0, if_neg j1, if_neg (by omega), r66]
              exact fr j j0 j1 j2
          refine ⟨1, M2, c2, by decide, fun w => absurd w (by decide), fun _ => ⟨iv_r _ _ _, ?_⟩⟩
          rw [g2.2.1, (g2.x x).1]
          refine ⟨fun w M5 e5' => ?_, fun w => ?_⟩
          · have d5 : CRd M2 (sk T q + 1) (-1) M5 := crd_p g2.b e5' ⟨by omega, by omega⟩
            have g5 := g2.s d5
            obtain ⟨M6, c6, d6⟩ := sp_c_number (g5.x x) g5.b (by omega) (by omega)
            have g6 := g5.s d6
            have r66 : iv M6 6 = iv s 6 := by rw [iv_row (d6.1 6 (by decide)), iv_row (d5.1 6 (by decide)), r6]
            have nr := nv_r (T := T) (p := sk T q + 1)
            obtain ⟨M8, c8, f8, j8⟩ := sp_addWord (M := M6) (z := z) (i := i) (v := 1000 + nv T (sk T q + 1)) (e4 M6 ⟨g6.1, rfl, rfl⟩) z0 z1 (by rw [r66]; exact h4) i0 i1 ⟨by omega, by omega⟩
            refine ⟨_, M6, c6, M8, c8, fin _ M6 M8 ?_ r66 ?_ f8 j8⟩
            · unfold wN wE
              rw [if_pos w, if_pos w]
              rw [th_o] at g6
              exact g6
            · unfold wV; rw [if_pos w]
          · obtain ⟨M6, c6, d6⟩ := sp_c_digits (g2.x x) g2.b (by omega) (by omega) (Or.inl rfl)
            have g6 := g2.s d6
            have r66 : iv M6 6 = iv s 6 := by rw [iv_row (d6.1 6 (by decide)), r6]
            have nr := dg_is T (sk T q)
            obtain ⟨M8, c8, f8, j8⟩ := sp_addWord (M := M6) (z := z) (i := i) (v := dv T (sk T q)) (e4 M6 ⟨g6.1, rfl, rfl⟩) z0 z1 (by rw [r66]; exact h4) i0 i1 ⟨by omega, by omega⟩
            refine ⟨_, M6, c6, M8, c8, fin _ M6 M8 ?_ r66 ?_ f8 j8⟩
            · unfold wN wE
              rw [if_neg w, if_neg w]
              rw [th_o] at g6
              exact g6
            · unfold wV; rw [if_neg w]
        · rw [if_neg hw] at c2
          rw [if_neg (fun y => hw y.1)] at h3
          have ed : wde T p = -1 := by
            unfold wde
            rw [← h3, if_neg (by omega), ← h2, if_neg hw]
          refine ⟨0, M2, c2, by decide, fun _ => ⟨rfl, sk T q, by rw [ed]; exact g2, by omega, fun _ _ => ⟨?_, ?_, ?_⟩, fun j j0 j1 j2 => by rw [r6]; exact fr j j0 j1 j2⟩, fun w => absurd rfl w⟩
          · rw [← h3, ← h2, sk_sk x.2.2 qr.1 qr.2]
          · rw [← h3, r6, h4]
          · rw [← h3, r6]; exact h5
      · refine ⟨fun w => absurd w h1, fun _ => ⟨rfl, q, by rw [← h2]; exact gs, qr, fun _ w => ?_, fr⟩⟩
        rw [w] at h2; exact absurd h2 h1
  · refine vc_c_readWords_2 0 M _ ⟨by decide, fun _ => ⟨fun w => absurd (by rw [← g.2.2]; exact w) hf, fun _ => ⟨rfl, p, by rw [th_n _ hf]; exact g, ⟨p0, p1⟩, fun w => absurd w hf, fun _ _ _ _ => rfl⟩⟩, fun w => absurd w (by decide)⟩
