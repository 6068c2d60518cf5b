/-! out of the proof of whole: law -/
theorem rsn_0 {b : Int → Int} {L : Lw} {o : Int} (h : rsn b L o = 0) : (¬ pt b o 0 = 0 → ¬ hold L (pt b o 1) = -1) ∧ (pt b o 0 = 0 → hold L (pt b o 1) = -1) ∧ (pt b o 0 = 3 → hold L (pt b o 2) = -1) ∧ (pt b o 0 = 4 → has L (hold L (pt b o 1)) (pt b o 2)) ∧ rfd b L o := by
  unfold rsn at h
  by_cases h1 : ¬ pt b o 0 = 0 ∧ hold L (pt b o 1) = -1
  · rw [if_pos h1] at h; omega
  rw [if_neg h1] at h
  by_cases h2 : (pt b o 0 = 0 ∧ ¬ hold L (pt b o 1) = -1) ∨ (pt b o 0 = 3 ∧ ¬ hold L (pt b o 2) = -1)
  · rw [if_pos h2] at h; omega
  rw [if_neg h2] at h
  by_cases h3 : pt b o 0 = 4 ∧ ¬ has L (hold L (pt b o 1)) (pt b o 2)
  · rw [if_pos h3] at h; omega
  rw [if_neg h3] at h
  by_cases h4 : ¬ rfd b L o
  · rw [if_pos h4] at h; omega
  refine ⟨fun g q => h1 ⟨g, q⟩, fun g => ?_, fun g => ?_, fun g => ?_, ?_⟩
  · by_cases q : hold L (pt b o 1) = -1
    · exact q
    · exact absurd (Or.inl ⟨g, q⟩) h2
  · by_cases q : hold L (pt b o 2) = -1
    · exact q
    · exact absurd (Or.inr ⟨g, q⟩) h2
  · by_cases q : has L (hold L (pt b o 1)) (pt b o 2)
    · exact q
    · exact absurd ⟨g, q⟩ h3
  · by_cases q : rfd b L o
    · exact q
    · exact absurd q h4
theorem rsn_rg (b : Int → Int) (L : Lw) (o : Int) : 0 ≤ rsn b L o ∧ rsn b L o ≤ 4 := by
  unfold rsn
  repeat' split
  all_goals omega
theorem eff_code (b : Int → Int) (L : Lw) (o day c x : Int) : (eff b L o day c).code x = if x = c then (if pt b o 0 = 0 then pt b o 1 else if pt b o 0 = 2 then 0 else if pt b o 0 = 3 then pt b o 2 else L.code c) else L.code x := by
  show (if pt b o 0 = 0 then fu L.code c (pt b o 1) else if pt b o 0 = 2 then fu L.code c 0 else if pt b o 0 = 3 then fu L.code c (pt b o 2) else L.code) x = _
  by_cases hx : x = c
  · subst hx
    rw [if_pos rfl]
    repeat' split
    all_goals first | rfl | exact fu_s _ _ _
  · rw [if_neg hx]
    repeat' split
    all_goals first | rfl | exact fu_n _ hx
theorem eff_len (b : Int → Int) (L : Lw) (o day c x : Int) : (eff b L o day c).len x = if x = c ∧ pt b o 0 < 2 then pt b o 5 else L.len x := by
  show (if pt b o 0 < 2 then fu L.len c (pt b o 5) else L.len) x = _
  by_cases hx : x = c
  · subst hx
    by_cases h : pt b o 0 < 2
    · rw [if_pos h, if_pos ⟨rfl, h⟩]; exact fu_s _ _ _
    · rw [if_neg h, if_neg (fun q => h q.2)]
  · rw [if_neg (fun q : x = c ∧ pt b o 0 < 2 => hx q.1)]
    split
    · exact fu_n _ hx
    · rfl
theorem eff_lst (b : Int → Int) (L : Lw) (o day c x : Int) : (eff b L o day c).lst x = if x = c then day else L.lst x := rfl
theorem eff_tx (b : Int → Int) (L : Lw) (o day c x k : Int) : (eff b L o day c).tx x k = if x = c then (if pt b o 0 < 2 then wd b L o k else if pt b o 0 = 4 ∧ L.tx c k = pt b o 2 then pt b o 3 else L.tx c k) else L.tx x k := by
  show (if pt b o 0 < 2 then (fun x k => if x = c then wd b L o k else L.tx x k) else if pt b o 0 = 4 then (fun x k => if x = c ∧ L.tx x k = pt b o 2 then pt b o 3 else L.tx x k) else L.tx) x k = _
  by_cases hx : x = c
  · subst hx
    rw [if_pos rfl]
    by_cases h : pt b o 0 < 2
    · rw [if_pos h, if_pos h]; exact if_pos rfl
    · rw [if_neg h, if_neg h]
      by_cases h4 : pt b o 0 = 4
      · rw [if_pos h4]
        show (if x = x ∧ L.tx x k = pt b o 2 then pt b o 3 else L.tx x k) = _
        by_cases q : L.tx x k = pt b o 2
        · rw [if_pos ⟨rfl, q⟩, if_pos ⟨h4, q⟩]
        · rw [if_neg (fun g => q g.2), if_neg (fun g => q g.2)]
      · rw [if_neg h4, if_neg (fun g => h4 g.1)]
  · rw [if_neg hx]
    repeat' split
    · exact if_neg hx
    · exact if_neg (fun q => hx q.1)
    · rfl
theorem wd_rg {b : Int → Int} (w : WB b) {L : Lw} {o k : Int} (h0 : 0 ≤ o) (h1 : o < nops b) (hr : rfd b L o) (k0 : 0 ≤ k) (k1 : k < pt b o 5) : 0 ≤ wd b L o k ∧ wd b L o k < 1040 := by
  unfold wd
  have h2 := (w.op o h0 h1).wd k k0 k1
  split
  · omega
  · rename_i h3
    have h4 := hr k k0 k1
    have h5 := hold_rg L (pt b o (6 + k) - 1000)
    omega
theorem ops_VL {b : Int → Int} {L : Lw} {o day : Int} (w : WB b) (v : VL L) (h0 : 0 ≤ o) (h1 : o < nops b) (hd : 0 ≤ day ∧ day ≤ 9999) : VL (ops b L o day) := by
  unfold ops
  by_cases hr : rsn b L o = 0
  · rw [if_pos hr]
    obtain ⟨e1, e2, e3, e4, e5⟩ := rsn_0 hr
    have wo := w.op o h0 h1
    obtain ⟨c, hc⟩ : ∃ c, c = (if pt b o 0 = 0 then ia b o else hold L (pt b o 1)) := ⟨_, rfl⟩
    rw [← hc]
    have cr : 0 ≤ c ∧ c < 40 ∧ (¬ pt b o 0 = 0 → L.code c = pt b o 1) := by
      by_cases hk : pt b o 0 = 0
      · rw [if_pos hk] at hc
        have := w.ia_lt h0 h1 hk
        rw [hc]
        exact ⟨this.1, this.2, fun q => absurd hk q⟩
      · rw [if_neg hk] at hc
        have := hold_cd (e1 hk)
        rw [hc]
        exact ⟨this.1, this.2.1, fun _ => this.2.2⟩
    have nh : ∀ x, hold L x = -1 → ∀ y, 0 ≤ y → y < 40 → ¬ L.code y = x := by
      intro x hx
      rcases hold_is L x with ⟨_, g⟩ | ⟨g, _⟩
      · exact g
      · omega
    have wc := wo.cd
    have wk := wo.kd
    unfold VL
    refine ⟨fun x x0 x1 => ?_, fun x y x0 x1 y0 y1 he hn => ?_, fun x x0 x1 hn => ?_, fun x x0 x1 hn => ?_, fun x k x0 x1 hn k0 k1 => ?_, fun q => ?_, fun q => ?_⟩
    · rw [eff_code]
      have := v.rg x x0 x1
      have := v.rg c cr.1 cr.2.1
      have := wo.fs
      have := wo.f3
      repeat' split
      all_goals omega
    · rw [eff_code, eff_code] at he
      rw [eff_code] at hn
      by_cases hx : x = c
      · by_cases hy : y = c
        · rw [hx, hy]
        · rw [if_pos hx, if_neg hy] at he
          rw [if_pos hx] at hn
          exfalso
          by_cases k0 : pt b o 0 = 0
          · rw [if_pos k0] at he
            exact nh _ (e2 k0) y y0 y1 he.symm
          · rw [if_neg k0] at he hn
            by_cases k2 : pt b o 0 = 2
            · rw [if_pos k2] at hn; exact hn rfl
            · rw [if_neg k2] at he hn
              by_cases k3 : pt b o 0 = 3
              · rw [if_pos k3] at he
                exact nh _ (e3 k3) y y0 y1 he.symm
              · rw [if_neg k3] at he hn
                exact hy (v.un c y cr.1 cr.2.1 y0 y1 he hn).symm
      · rw [if_neg hx] at he hn
        by_cases hy : y = c
        · rw [if_pos hy] at he
          exfalso
          by_cases k0 : pt b o 0 = 0
          · rw [if_pos k0] at he
            exact nh _ (e2 k0) x x0 x1 he
          · rw [if_neg k0] at he
            by_cases k2 : pt b o 0 = 2
            · rw [if_pos k2] at he; exact hn he
            · rw [if_neg k2] at he
              by_cases k3 : pt b o 0 = 3
              · rw [if_pos k3] at he
                exact nh _ (e3 k3) x x0 x1 he
              · rw [if_neg k3] at he
                exact hx (v.un x c x0 x1 cr.1 cr.2.1 he hn)
        · rw [if_neg hy] at he
          exact v.un x y x0 x1 y0 y1 he hn
    · rw [eff_len]
      rw [eff_code] at hn
      have := wo.ln
      by_cases hx : x = c
      · by_cases hk : pt b o 0 < 2
        · rw [if_pos ⟨hx, hk⟩]; exact this
        · rw [if_neg (fun q => hk q.2)]
          have h5 := cr.2.2 (by omega)
          rw [hx]
          exact v.ln c cr.1 cr.2.1 (by omega)
      · rw [if_neg (fun q => hx q.1)]
        rw [if_neg hx] at hn
        exact v.ln x x0 x1 hn
    · rw [eff_lst]
      rw [eff_code] at hn
      by_cases hx : x = c
      · rw [if_pos hx]; exact hd
      · rw [if_neg hx]
        rw [if_neg hx] at hn
        exact v.ls x x0 x1 hn
    · rw [eff_tx]
      rw [eff_len] at k1
      rw [eff_code] at hn
      by_cases hx : x = c
      · rw [if_pos hx]
        by_cases hk : pt b o 0 < 2
        · rw [if_pos hk]
          rw [if_pos ⟨hx, hk⟩] at k1
          exact wd_rg w h0 h1 e5 k0 k1
        · rw [if_neg hk]
          rw [if_neg (fun q => hk q.2), hx] at k1
          have h5 := cr.2.2 (by omega)
          have h6 := v.wt c k cr.1 cr.2.1 (by omega) k0 k1
          have := wo.sc
          split
          · omega
          · exact h6
      · rw [if_neg hx]
        rw [if_neg hx] at hn
        rw [if_neg (fun q => hx q.1)] at k1
        exact v.wt x k x0 x1 hn k0 k1
    · show -1 ≤ fu L.rs o 0 q ∧ fu L.rs o 0 q ≤ 4
      have := v.rs q
      unfold fu
      split <;> omega
    · show (fu L.af o c q = -1 ∧ ¬ fu L.rs o 0 q = 0) ∨ (0 ≤ fu L.af o c q ∧ fu L.af o c q < 40 ∧ fu L.rs o 0 q = 0)
      by_cases hq : q = o
      · subst hq
        rw [fu_s, fu_s]
        exact Or.inr ⟨cr.1, cr.2.1, rfl⟩
      · rw [fu_n _ hq, fu_n _ hq]
        exact v.af q
  · rw [if_neg hr]
    unfold VL
    refine ⟨v.rg, v.un, v.ln, v.ls, v.wt, fun q => ?_, fun q => ?_⟩
    · show -1 ≤ fu L.rs o (rsn b L o) q ∧ fu L.rs o (rsn b L o) q ≤ 4
      have := v.rs q
      have := rsn_rg b L o
      unfold fu
      split <;> omega
    · show (fu L.af o (-1) q = -1 ∧ ¬ fu L.rs o (rsn b L o) q = 0) ∨ (0 ≤ fu L.af o (-1) q ∧ fu L.af o (-1) q < 40 ∧ fu L.rs o (rsn b L o) q = 0)
      by_cases hq : q = o
      · subst hq
        rw [fu_s, fu_s]
        exact Or.inl ⟨rfl, hr⟩
      · rw [fu_n _ hq, fu_n _ hq]
        exact v.af q
theorem ops_rs (b : Int → Int) (L : Lw) (o day : Int) : (ops b L o day).rs = fu L.rs o (rsn b L o) := by
  unfold ops
  split
  · rename_i h; rw [h]; rfl
  · rfl
theorem ops_sq (b : Int → Int) (L : Lw) (o day : Int) : (ops b L o day).sq = L.sq ++ [o] := by
  unfold ops
  split <;> rfl
theorem ops_ef (b : Int → Int) (L : Lw) (o day : Int) : (ops b L o day).ef = if rsn b L o = 0 then L.ef ++ [o] else L.ef := by
  unfold ops
  split <;> rfl
/-- the law, once the operations of a set are carried out -/
def JL (b : Int → Int) (D : Int → Prop) (L : Lw) : Prop := VL L ∧ (∀ o, 0 ≤ o → o < nops b → (¬ L.rs o = -1 ↔ D o)) ∧ (∀ o, o ∈ L.sq → 0 ≤ o ∧ o < nops b ∧ D o) ∧ L.ef = L.sq.filter (fun o => decide (L.rs o = 0))
theorem JL_ext {b : Int → Int} {D D' : Int → Prop} {L : Lw} (h : JL b D L) (hd : ∀ o, 0 ≤ o → o < nops b → (D o ↔ D' o)) : JL b D' L :=
  ⟨h.1, fun o h0 h1 => (h.2.1 o h0 h1).trans (hd o h0 h1), fun o ho => ⟨(h.2.2.1 o ho).1, (h.2.2.1 o ho).2.1, (hd o (h.2.2.1 o ho).1 (h.2.2.1 o ho).2.1).mp (h.2.2.1 o ho).2.2⟩, h.2.2.2⟩
theorem ops_JL {b : Int → Int} {D : Int → Prop} {L : Lw} {o day : Int} (w : WB b) (j : JL b D L) (h0 : 0 ≤ o) (h1 : o < nops b) (hd : 0 ≤ day ∧ day ≤ 9999) (hn : ¬ D o) : JL b (fun x => D x ∨ x = o) (ops b L o day) := by
  obtain ⟨j1, j2, j3, j4⟩ := j
  refine ⟨ops_VL w j1 h0 h1 hd, fun x x0 x1 => ?_, fun x hx => ?_, ?_⟩
  · rw [ops_rs]
    by_cases hx : x = o
    · subst hx
      rw [fu_s]
      have := rsn_rg b L x
      exact ⟨fun _ => Or.inr rfl, fun _ => by omega⟩
    · rw [fu_n _ hx]
      exact ⟨fun q => Or.inl ((j2 x x0 x1).mp q), fun q => (j2 x x0 x1).mpr (q.resolve_right hx)⟩
  · rw [ops_sq] at hx
    rcases List.mem_append.mp hx with q | q
    · exact ⟨(j3 x q).1, (j3 x q).2.1, Or.inl (j3 x q).2.2⟩
    · have := List.mem_singleton.mp q
      subst this
      exact ⟨h0, h1, Or.inr rfl⟩
  · rw [ops_ef, ops_sq, ops_rs, List.filter_append]
    have e1 : L.sq.filter (fun x => decide (fu L.rs o (rsn b L o) x = 0)) = L.ef := by
      rw [j4]
      apply List.filter_congr
      intro x hx
      have : ¬ x = o := fun e => hn (e ▸ (j3 x hx).2.2)
      rw [fu_n _ this]
    rw [e1]
    by_cases hr : rsn b L o = 0
    · rw [if_pos hr]
      congr 1
      rw [List.filter_cons_of_pos (by rw [fu_s, hr]; rfl)]
      rfl
    · rw [if_neg hr, List.filter_cons_of_neg (by rw [fu_s]; simpa using hr)]
      simp
abbrev skp (b : Int → Int) (cas a o : Int) : Prop := pt b o 4 = 1 ∧ ¬ cas = -1 ∧ cas < b (1 + a)
theorem cyf_JL {b : Int → Int} {D : Int → Prop} {L : Lw} {cas a : Int} (w : WB b) (j : JL b D L) (h0 : 0 ≤ a) (h1 : a < b 0) (hn : ∀ o, fo b a ≤ o → o < fo b (a + 1) → ¬ D o) : ∀ k : Nat, (k : Int) ≤ b (41 + a) →
    JL b (fun x => D x ∨ (fo b a ≤ x ∧ x < fo b a + k ∧ ¬ skp b cas a x)) (cyf b cas a L k) ∧ (cyf b cas a L k).sq.length ≤ L.sq.length + k := by
  intro k
  have f0 := w.fo_nn (n := a) (by omega)
  have f1 := fo_s b h0
  have f2 := w.fo_le (n := a + 1) (by omega) (by omega)
  induction k with
  | zero => exact fun _ => ⟨JL_ext j (fun o _ _ => ⟨Or.inl, fun q => q.elim id (fun q => by omega)⟩), Nat.le_refl _⟩
  | succ k ih =>
    intro hk
    have ih := ih (by omega)
    unfold cyf
    by_cases hs : skp b cas a (fo b a + k)
    · rw [if_pos hs]
      refine ⟨JL_ext ih.1 (fun o _ _ => ?_), by omega⟩
      constructor
      · rintro (q | ⟨q1, q2, q3⟩)
        · exact Or.inl q
        · exact Or.inr ⟨q1, by omega, q3⟩
      · rintro (q | ⟨q1, q2, q3⟩)
        · exact Or.inl q
        · by_cases e : o = fo b a + k
          · exact absurd (e ▸ hs) q3
          · exact Or.inr ⟨q1, by omega, q3⟩
    · rw [if_neg hs]
      have hnd : ¬ (D (fo b a + k) ∨ (fo b a ≤ fo b a + k ∧ fo b a + k < fo b a + k ∧ ¬ skp b cas a (fo b a + k))) := by
        rintro (q | ⟨_, q, _⟩)
        · exact hn _ (by omega) (by omega) q
        · omega
      refine ⟨JL_ext (ops_JL w ih.1 (by omega) (by omega) (w.day a h0 h1) hnd) (fun o _ _ => ?_), ?_⟩
      · constructor
        · rintro ((q | ⟨q1, q2, q3⟩) | q)
          · exact Or.inl q
          · exact Or.inr ⟨q1, by omega, q3⟩
          · exact Or.inr ⟨by omega, by omega, q ▸ hs⟩
        · rintro (q | ⟨q1, q2, q3⟩)
          · exact Or.inl (Or.inl q)
          · by_cases e : o = fo b a + k
            · exact Or.inr e
            · exact Or.inl (Or.inr ⟨q1, by omega, q3⟩)
      · rw [ops_sq, List.length_append]
        have := ih.2
        show _ + 1 ≤ _
        omega
def DL (b off : Int → Int) (day cas last : Int) (o : Int) : Prop := ∃ a, 0 ≤ a ∧ a < b 0 ∧ fo b a ≤ o ∧ o < fo b (a + 1) ∧ du b off day a ∧ ky b a ≤ last ∧ ¬ skp b cas a o
def szl (b off : Int → Int) (day last : Int) : Int := sm (fun a => if du b off day a ∧ ky b a ≤ last then b (41 + a) else 0) (b 0)
theorem szl_le {b off : Int → Int} {day last : Int} (w : WB b) : szl b off day last ≤ nops b := sm_le _ _ _ (fun i h0 h1 => by
  have := (w.sz i h0 h1).1
  show (if du b off day i ∧ ky b i ≤ last then b (41 + i) else 0) ≤ b (41 + i)
  split <;> omega)
theorem szl_s {b off : Int → Int} {day last a : Int} (w : WB b) (h0 : 0 ≤ a) (h1 : a < b 0) (h2 : du b off day a) (h3 : last < ky b a) : szl b off day last + b (41 + a) ≤ szl b off day (ky b a) := by
  have h4 := sm_le (fun x => (if du b off day x ∧ ky b x ≤ last then b (41 + x) else 0) + (if x = a then b (41 + a) else 0)) (fun x => if du b off day x ∧ ky b x ≤ ky b a then b (41 + x) else 0) (b 0) (fun i g0 g1 => by
    show (if du b off day i ∧ ky b i ≤ last then b (41 + i) else 0) + (if i = a then b (41 + a) else 0) ≤ if du b off day i ∧ ky b i ≤ ky b a then b (41 + i) else 0
    have hz := (w.sz i g0 g1).1
    by_cases hi : i = a
    · subst hi
      rw [if_neg (by omega), if_pos rfl, if_pos ⟨h2, Int.le_refl _⟩]; omega
    · rw [if_neg hi]
      by_cases hd : du b off day i ∧ ky b i ≤ last
      · rw [if_pos hd, if_pos ⟨hd.1, by omega⟩]; omega
      · rw [if_neg hd]; split <;> omega)
  rw [sm_addf, sm_pt a _ h0 h1] at h4
  exact h4
/-- the law, once the amendments up to a key are carried out -/
def KL (b off : Int → Int) (day cas last : Int) (L : Lw) : Prop := JL b (DL b off day cas last) L ∧ (L.sq.length : Int) ≤ szl b off day last
theorem KL_0 {b off : Int → Int} {day cas : Int} (w : WB b) : KL b off day cas (-1) L0 := by
  refine ⟨⟨?_, fun o _ _ => ⟨fun q => absurd rfl q, ?_⟩, (fun o h => nomatch h), rfl⟩, ?_⟩
  · unfold VL
    exact ⟨fun _ _ _ => Or.inl rfl, fun _ _ _ _ _ _ _ h => absurd rfl h, fun _ _ _ h => absurd rfl h, fun _ _ _ h => absurd rfl h, fun _ _ _ _ h => absurd rfl h, fun _ => by show (-1 : Int) ≤ -1 ∧ (-1 : Int) ≤ 4; omega, fun _ => Or.inl ⟨rfl, by show ¬ (-1 : Int) = 0; omega⟩⟩
  · rintro ⟨a, a0, a1, _, _, _, a6, _⟩
    have := w.ky_nn a0 a1
    omega
  · have : 0 ≤ szl b off day (-1) := sm_nn _ _ (fun i h0 h1 => by have := (w.sz i h0 h1).1; split <;> omega)
    exact this
theorem cyf_KL {b off : Int → Int} {day cas last a : Int} {L : Lw} (w : WB b) (j : KL b off day cas last L) (h0 : 0 ≤ a) (h1 : a < b 0) (h3 : last < ky b a) (k : Nat) (hk : (k : Int) ≤ b (41 + a)) :
    JL b (fun x => DL b off day cas last x ∨ (fo b a ≤ x ∧ x < fo b a + k ∧ ¬ skp b cas a x)) (cyf b cas a L k) ∧ (cyf b cas a L k).sq.length ≤ L.sq.length + k :=
  cyf_JL w j.1 h0 h1 (fun o o0 o1 q => by
    obtain ⟨a', a0, a1, a2, a3, _, a6, _⟩ := q
    have := am_of w a0 a1 a2 a3 h0 h1 o0 o1
    subst this
    omega) k hk
theorem cyf_lt {b off : Int → Int} {day cas last a : Int} {L : Lw} (w : WB b) (j : KL b off day cas last L) (h0 : 0 ≤ a) (h1 : a < b 0) (h2 : du b off day a) (h3 : last < ky b a) (k : Nat) (hk : (k : Int) < b (41 + a)) : (cyf b cas a L k).sq.length < 120 := by
  have e1 := (cyf_KL w j h0 h1 h3 k (by omega)).2
  have e2 := szl_s w h0 h1 h2 h3
  have e3 := szl_le (off := off) (day := day) (last := ky b a) w
  have e4 := w.tot
  have e5 := j.2
  omega
theorem cy_KL {b off : Int → Int} {day cas last a : Int} {L : Lw} (w : WB b) (j : KL b off day cas last L) (h0 : 0 ≤ a) (h1 : a < b 0) (h2 : du b off day a) (h3 : last < ky b a) (h4 : ∀ a', 0 ≤ a' → a' < b 0 → du b off day a' → last < ky b a' → ky b a ≤ ky b a') : KL b off day cas (ky b a) (cy b cas a L) := by
  have sz := (w.sz a h0 h1).1
  have h5 := cyf_KL w j h0 h1 h3 (b (41 + a)).toNat (by omega)
  refine ⟨JL_ext h5.1 (fun o o0 o1 => ?_), ?_⟩
  · have f1 := fo_s b h0
    constructor
    · rintro (⟨a', a0, a1, a2, a3, a4, a5, a6⟩ | ⟨q1, q2, q3⟩)
      · exact ⟨a', a0, a1, a2, a3, a4, by omega, a6⟩
      · exact ⟨a, h0, h1, q1, by omega, h2, Int.le_refl _, q3⟩
    · rintro ⟨a', a0, a1, a2, a3, a4, a5, a6⟩
      by_cases e : a' = a
      · subst e
        exact Or.inr ⟨a2, by omega, a6⟩
      · refine Or.inl ⟨a', a0, a1, a2, a3, a4, ?_, a6⟩
        by_cases q : last < ky b a'
        · have := h4 a' a0 a1 a4 q
          have k1 := w.ky_nn a0 a1
          have k2 := w.ky_nn h0 h1
          omega
        · omega
  · have e2 := szl_s w h0 h1 h2 h3
    have e5 := j.2
    have e6 : ((cy b cas a L).sq.length : Int) ≤ L.sq.length + (b (41 + a)).toNat := by exact_mod_cast h5.2
    omega
theorem crf_KL {b off : Int → Int} {day cas : Int} (w : WB b) : ∀ (f : Nat) (last : Int) (L : Lw), -1 ≤ last → KL b off day cas last L → rem b off day last ≤ f → ∃ last', KL b off day cas last' (crf b off day cas f last L) ∧ ∀ a, 0 ≤ a → a < b 0 → du b off day a → ky b a ≤ last' := by
  intro f
  induction f with
  | zero =>
    intro last L hl j hr
    refine ⟨last, j, fun a a0 a1 a2 => ?_⟩
    by_cases q : last < ky b a
    · have := rem_dec w a0 a1 a2 q
      have := rem_nn b off day (ky b a)
      omega
    · omega
  | succ f ih =>
    intro last L hl j hr
    unfold crf
    rcases nk_is (b := b) (off := off) (day := day) hl with ⟨e1, e2⟩ | ⟨a, a0, a1, a2, a3, a4, a5⟩
    · rw [if_pos e1]
      refine ⟨last, j, fun a a0 a1 a2 => ?_⟩
      by_cases q : last < ky b a
      · exact absurd ⟨a2, q⟩ (e2 a a0 a1)
      · omega
    · have k1 := w.ky_nn a0 a1
      rw [if_neg (by omega), a2, k1.2.2.1]
      have := rem_dec w a0 a1 a3 a4
      exact ih (ky b a) _ (by omega) (cy_KL w j a0 a1 a3 a4 a5) (by omega)
/-- the whole law: just the operations of amendments that are due are carried out -/
theorem con_is {b off : Int → Int} {day cas : Int} (w : WB b) : JL b (fun o => ∃ a, 0 ≤ a ∧ a < b 0 ∧ fo b a ≤ o ∧ o < fo b (a + 1) ∧ du b off day a ∧ ¬ skp b cas a o) (con b off day cas) ∧ (con b off day cas).sq.length ≤ 120 := by
  obtain ⟨last, h1, h2⟩ := crf_KL (off := off) (day := day) (cas := cas) w 20 (-1) L0 (by omega) (KL_0 w) (rem_le w)
  refine ⟨JL_ext h1.1 (fun o _ _ => ?_), ?_⟩
  · constructor
    · rintro ⟨a, a0, a1, a2, a3, a4, a5, a6⟩
      exact ⟨a, a0, a1, a2, a3, a4, a6⟩
    · rintro ⟨a, a0, a1, a2, a3, a4, a6⟩
      exact ⟨a, a0, a1, a2, a3, a4, h2 a a0 a1 a4, a6⟩
  · have := szl_le (off := off) (day := day) (last := last) w
    have := w.tot
    have := h1.2
    unfold con
    omega
