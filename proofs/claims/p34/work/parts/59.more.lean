/-! out of the proof of whole: more -/
theorem lw_VL {b : Int → Int} (w : WB b) (day cas : Int) : VL (lw b day cas) := (con_is w).1.1
def CQ (M M' : am_M) : Prop := ∀ a, (a = 2 ∨ a = 3 ∨ a = 7 ∨ a = 8 ∨ a = 11 ∨ a = 12 ∨ a = 14 ∨ 58 ≤ a) → M' a = M a
theorem CQ_refl (M : am_M) : CQ M M := fun _ _ => rfl
theorem CQ_trans {M M' M'' : am_M} (h : CQ M M') (h' : CQ M' M'') : CQ M M'' := fun a ha => (h' a ha).trans (h a ha)
theorem CQ_15 {M M' : am_M} (h : CFr15 M M') : CQ M M' := fun a ha => h.1 a (by omega) (by omega)
theorem cbr_bt {c b : Int → Int} (cb : CBR c b) {a : Int} (a0 : 0 ≤ a) (a1 : a < 20) : (zbt (c 3) a = true ↔ (a < b 0 ∧ b (21 + a) = 1)) ∨ ¬ (b (21 + a) = 0 ∨ b (21 + a) = 1) := by
  have h := cb.2.2 a a0 a1
  rw [zb_is _ a0 (by omega)] at h
  by_cases q : zbt (c 3) a = true
  · rw [if_pos q] at h
    by_cases z : a < b 0
    · rw [if_pos z] at h
      exact Or.inl ⟨fun _ => ⟨z, h.symm⟩, fun _ => q⟩
    · rw [if_neg z] at h; omega
  · rw [if_neg q] at h
    by_cases z : a < b 0
    · rw [if_pos z] at h
      exact Or.inl ⟨fun y => absurd y q, fun y => by omega⟩
    · exact Or.inl ⟨fun y => absurd y q, fun y => absurd y.1 z⟩
theorem cbr_b {c b : Int → Int} (w : WB b) (cb : CBR c b) {a : Int} (a0 : 0 ≤ a) (a1 : a < b 0) : zbt (c 3) a = decide (b (21 + a) = 1) := by
  have w1 := w.n1
  have rv := w.rev a a0 a1
  rcases cbr_bt cb a0 (show a < 20 by omega) with h | h
  · by_cases q : b (21 + a) = 1
    · rw [decide_eq_true q]; exact h.mpr ⟨a1, q⟩
    · rw [decide_eq_false q]
      cases z : zbt (c 3) a
      · rfl
      · exact absurd (h.mp z).2 q
  · exact absurd rv h
theorem df_r {T : Int → Int} {n : Int} (x : TX T n) {b p : Int} (h0 : 0 ≤ p) (h1 : p ≤ n) : -1 ≤ df b T p ∧ df b T p ≤ n := by
  have h := x.der h0 h1
  unfold df
  split
  · omega
  · split <;> omega
theorem wE_r {T : Int → Int} {n : Int} (x : TX T n) {q : Int} (h0 : 0 ≤ q) (h1 : q ≤ n) : -1 ≤ wE T q ∧ wE T q ≤ n := by
  have s := x.skr h0 h1
  unfold wE
  split
  · have := x.lt (k := sk T q) (by omega)
    exact df_r x (by omega) (by omega)
  · exact df_r x (by omega) (by omega)
theorem wde_r {T : Int → Int} {n : Int} (x : TX T n) {p : Int} (h0 : 0 ≤ p) (h1 : p ≤ n) : -1 ≤ wde T p ∧ wde T p ≤ n := by
  have w := wq_r x h0 h1 (wc T p)
  unfold wde
  split
  · omega
  · split
    · exact wE_r x (by omega) (by omega)
    · omega
theorem svE_r {T : Int → Int} {n : Int} (x : TX T n) {q : Int} (h0 : 0 ≤ q) (h1 : q ≤ n) : -1 ≤ svE T q ∧ svE T q ≤ n := by
  have s := x.skr h0 h1
  have s2 := x.skr (p := sk T q) (by omega) (by omega)
  unfold svE xf8
  split
  · split <;> omega
  · omega
theorem th_r {n a b : Int} (ha : -1 ≤ a ∧ a ≤ n) (hb : -1 ≤ b ∧ b ≤ n) : -1 ≤ th a b ∧ th a b ≤ n := by
  unfold th
  split
  · exact hb
  · exact ha
theorem opE_r {T : Int → Int} {n : Int} (x : TX T n) {s : Int} (h0 : 0 ≤ s) (h1 : s ≤ n) : -1 ≤ opE T s ∧ opE T s ≤ n := by
  have a := oA_r x h0 h1
  have b := oB_r x h0 h1
  have b3 := o3_r x h0 h1
  have b4 := o4_r x h0 h1
  have b5 := o5_r x h0 h1
  have bW := oW_r x h0 h1
  have d4 := x.der (p := o4 T s) (by omega) (by omega)
  have d5 := x.der (p := o5 T s) (by omega) (by omega)
  have e1 := df_r x (b := 1) (p := oA T s) (by omega) (by omega)
  have x5 : -1 ≤ xf5 T (oB T s) ∧ xf5 T (oB T s) ≤ n := by
    have := x.skr (p := oB T s) (by omega) (by omega)
    unfold xf5; split <;> omega
  have x6 : -1 ≤ xf6 T (oB T s) ∧ xf6 T (oB T s) ≤ n := by
    have := x.skr (p := oB T s) (by omega) (by omega)
    unfold xf6; split <;> omega
  have x7 : -1 ≤ xf7 T (de T (o4 T s)) ∧ xf7 T (de T (o4 T s)) ≤ n := by
    have := x.skr (p := de T (o4 T s)) (by omega) (by omega)
    unfold xf7; split <;> omega
  unfold opE
  split
  · omega
  split
  · exact th_r e1 (wde_r x (by omega) (by omega))
  split
  · exact th_r e1 (th_r (wde_r x (by omega) (by omega)) (svE_r x (by omega) (by omega)))
  split
  · exact th_r e1 (th_r x5 (df_r x (by omega) (by omega)))
  split
  · exact th_r e1 (th_r x6 (th_r (df_r x (by omega) (by omega)) (th_r x7 (th_r (df_r x (by omega) (by omega)) (svE_r x (by omega) (by omega))))))
  · exact th_r e1 (svE_r x (by omega) (by omega))
theorem itE_r {T : Int → Int} {n : Int} (x : TX T n) {p : Int} (h0 : 0 ≤ p) (h1 : p ≤ n) : -1 ≤ itE T n p ∧ itE T n p ≤ n := by
  have s := x.skr h0 h1
  have o := opN_r x (s := sk T p) (by omega) (by omega)
  have s2 := x.skr (p := opN T (sk T p)) (by omega) (by omega)
  refine th_r (opE_r x (by omega) (by omega)) ?_
  unfold smE
  split
  · omega
  · split <;> omega
theorem amN_ok {T : Int → Int} {n : Int} (x : TX T n) : ∀ (k : Nat) (i : Int), 0 ≤ i → 0 ≤ oS T i → oS T i ≤ n → i ≤ (amN T n k i).2 ∧ (amN T n k i).2 ≤ i + k ∧ -1 ≤ (amN T n k i).1 ∧ (amN T n k i).1 ≤ n ∧ ((amN T n k i).1 = -1 → i < (amN T n k i).2 ∧ ∀ j, i ≤ j → j < (amN T n k i).2 → (0 ≤ oS T j ∧ oS T j ≤ n) ∧ opE T (sk T (oS T j)) = -1) := by
  intro k
  induction k with
  | zero =>
    intro i i0 h0 h1
    have s := x.skr h0 h1
    refine ⟨Int.le_refl _, by show i ≤ _; omega, ?_, s.2.1, fun q => ?_⟩
    · show -1 ≤ sk T (oS T i)
      omega
    · have : sk T (oS T i) = -1 := q
      omega
  | succ k ih =>
    intro i i0 h0 h1
    have s := x.skr h0 h1
    have o := opN_r x (s := sk T (oS T i)) (by omega) (by omega)
    have s2 := x.skr (p := opN T (sk T (oS T i))) (by omega) (by omega)
    unfold amN
    by_cases q : itE T n (oS T i) = -1
    · rw [if_neg (fun y => y q)]
      have oe := (th_e q).1
      by_cases m : isM T (oS T i)
      · rw [if_pos m]
        have r := oS_n x i0 h0 h1 m
        obtain ⟨a1, a2, a3, a4, a5⟩ := ih (i + 1) (by omega) r.1 r.2
        refine ⟨by omega, by omega, a3, a4, fun z => ⟨by have := a5 z; omega, fun j j0 j1 => ?_⟩⟩
        by_cases e : j = i
        · rw [e]; exact ⟨⟨h0, h1⟩, oe⟩
        · exact (a5 z).2 j (by omega) j1
      · rw [if_neg m]
        refine ⟨by show i ≤ i + 1; omega, by show i + 1 ≤ _; omega, Int.le_refl _, by show (-1 : Int) ≤ n; omega, fun _ => ⟨by show i < i + 1; omega, fun j j0 j1 => ?_⟩⟩
        have j1 : j < i + 1 := j1
        have : j = i := by omega
        rw [this]; exact ⟨⟨h0, h1⟩, oe⟩
    · rw [if_pos q]
      have b : -1 ≤ itE T n (oS T i) ∧ itE T n (oS T i) ≤ n := itE_r x h0 h1
      exact ⟨Int.le_refl _, by show i ≤ _; omega, b.1, b.2, fun z => absurd z q⟩
theorem WO_c2 {f g : Int → Int} (h : ∀ j, 0 ≤ j → j < 6 → g j = f j) (hk : ∀ k, 0 ≤ k → k < f 5 → g (6 + k) = f (6 + k)) (w : WO f) : WO g := by
  obtain ⟨a1, a2, a3, a4, a5, a6, a7, a8, a9, a10⟩ := w
  unfold WO
  rw [h 0 (by decide) (by decide), h 1 (by decide) (by decide), h 2 (by decide) (by decide), h 3 (by decide) (by decide), h 4 (by decide) (by decide), h 5 (by decide) (by decide)]
  refine ⟨a1, a2, a3, a4, a5, a6, a7, a8, a9, fun k k0 k1 => ?_⟩
  rw [hk k k0 k1]
  exact a10 k k0 k1
