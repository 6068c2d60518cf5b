/-! what the class answers of the law, for a book -/
abbrev vlaw (d e : Int) : Prop := (0 ≤ d ∧ d ≤ 9999) ∧ (e = -1 ∨ (0 ≤ e ∧ e ≤ 9999))
theorem vl_z {d e : Int} (h : vlaw d e) : zr d ∧ zr e := ⟨⟨by omega, by omega⟩, ⟨by omega, by omega⟩⟩
section CQS
variable {b : Int → Int} {M : am_M} {d e : Int}
theorem cq_clauses (w : WB b) (cb : CBR (iv M 11) b) (hl : vlaw d e) : ∃ M', am_call t_SB_clauses [.ref 0, .int (zi d), .int (zi e)] M (some (.int (zi (frc (lw b d e) 40)))) M' ∧ CQ M M' := by
  obtain ⟨dz, ez⟩ := vl_z hl
  obtain ⟨M4, h4, fr, r4, od⟩ := sp_c_consolidate M w cb dz ez
  exact ⟨M4, am_call_of ⟨Nat.le_of_ble_eq_true rfl, rfl⟩ (vc_c_clauses d e M _ ⟨⟨dz, ez⟩, fun _ => ⟨M4, h4, by rw [od.1], rfl⟩, fun q => absurd hl q⟩), CQ_15 fr⟩
theorem cq_clauses_no (dz : zr d) (ez : zr e) (hl : ¬ vlaw d e) : am_call t_SB_clauses [.ref 0, .int (zi d), .int (zi e)] M (some (.int (zi (-2)))) M :=
  am_call_of ⟨Nat.le_of_ble_eq_true rfl, rfl⟩ (vc_c_clauses d e M _ ⟨⟨dz, ez⟩, fun q => absurd q hl, fun _ => ⟨rfl, rfl⟩⟩)
theorem at_rank {L : Lw} (v : VL L) {c : Int} (c0 : 0 ≤ c) (c1 : c < 40) (n : ¬ L.code c = 0) {f : Int → Int} {m : Int} (od : ORD L f 40 m) : 0 ≤ rank L c ∧ rank L c < m ∧ f (rank L c) = c := by
  have e1 : atx L (rank L c) = c := isAt_eq v (atx_is L (rank L c)) (Or.inr ⟨c0, c1, n, rfl⟩)
  rw [atx_ord v od] at e1
  by_cases q : 0 ≤ rank L c ∧ rank L c < m
  · rw [if_pos q] at e1; exact ⟨q.1, q.2, e1⟩
  · rw [if_neg q] at e1; omega
theorem cq_clause (w : WB b) (cb : CBR (iv M 11) b) (hl : vlaw d e) {c x : Int} (c0 : 0 ≤ c) (c1 : c < 40) (n : ¬ (lw b d e).code c = 0) (hx : 0 ≤ x ∧ x ≤ 3) : ∃ M', am_call t_SB_clause [.ref 0, .int (zi d), .int (zi e), .int (zi (rank (lw b d e) c)), .int (zi x)] M (some (.int (zi (abt (lw b d e) c x)))) M' ∧ CQ M M' := by
  obtain ⟨dz, ez⟩ := vl_z hl
  have xz : zr x := ⟨by omega, by omega⟩
  obtain ⟨M4, h4, fr, r4, od⟩ := sp_c_consolidate M w cb dz ez
  have v := lw_VL w d e
  have n40 := frc40 (lw b d e)
  obtain ⟨a1, a2, a3⟩ := at_rank v c0 c1 n od
  have en := od.1
  exact ⟨M4, am_call_of ⟨Nat.le_of_ble_eq_true rfl, rfl⟩ (vc_c_clause d e _ x M _ ⟨⟨dz, ez⟩, fun _ => ⟨⟨xz, by decide⟩, fun _ => ⟨M4, h4, ⟨by omega, by omega⟩, fun q => by omega, fun q => ⟨fun q2 => ⟨⟨q, by omega⟩, _, M4, by rw [a3]; exact sp_clausePart r4 c0 c1 n xz, rfl, rfl⟩, fun q2 => by omega⟩⟩, fun q => absurd hx q⟩, fun q => absurd hl q⟩), CQ_15 fr⟩
theorem cq_clause_no (w : WB b) (cb : CBR (iv M 11) b) (hl : vlaw d e) {x i : Int} (hx : 0 ≤ x ∧ x ≤ 3) (hi : frc (lw b d e) 40 ≤ i) (iz : zr i) : ∃ M', am_call t_SB_clause [.ref 0, .int (zi d), .int (zi e), .int (zi i), .int (zi x)] M (some (.int (zi (-2)))) M' ∧ CQ M M' := by
  obtain ⟨dz, ez⟩ := vl_z hl
  have xz : zr x := ⟨by omega, by omega⟩
  obtain ⟨M4, h4, fr, r4, od⟩ := sp_c_consolidate M w cb dz ez
  have n40 := frc40 (lw b d e)
  have en := od.1
  exact ⟨M4, am_call_of ⟨Nat.le_of_ble_eq_true rfl, rfl⟩ (vc_c_clause d e i x M _ ⟨⟨dz, ez⟩, fun _ => ⟨⟨xz, by decide⟩, fun _ => ⟨M4, h4, iz, fun q => by omega, fun q => ⟨fun q2 => by omega, fun q2 => ⟨rfl, rfl⟩⟩⟩, fun q => absurd hx q⟩, fun q => absurd hl q⟩), CQ_15 fr⟩
theorem cq_textWord (w : WB b) (cb : CBR (iv M 11) b) (hl : vlaw d e) {c x : Int} (c0 : 0 ≤ c) (c1 : c < 40) (n : ¬ (lw b d e).code c = 0) (x0 : 0 ≤ x) (xz : zr x) : ∃ M', am_call t_SB_textWord [.ref 0, .int (zi d), .int (zi e), .int (zi (rank (lw b d e) c)), .int (zi x)] M (some (.int (zi (if x < (lw b d e).len c then tw (lw b d e) c x else -2)))) M' ∧ CQ M M' := by
  obtain ⟨dz, ez⟩ := vl_z hl
  obtain ⟨M4, h4, fr, r4, od⟩ := sp_c_consolidate M w cb dz ez
  have v := lw_VL w d e
  have n40 := frc40 (lw b d e)
  obtain ⟨a1, a2, a3⟩ := at_rank v c0 c1 n od
  have en := od.1
  have el := (r4.2.1 _ c0 c1 n).1
  refine ⟨M4, am_call_of ⟨Nat.le_of_ble_eq_true rfl, rfl⟩ (vc_c_textWord d e _ x M _ ⟨⟨dz, ez⟩, fun _ => ⟨M4, h4, ⟨by omega, by omega⟩, fun q => by omega, fun q => ⟨fun q2 => ⟨xz, fun q3 => by omega, fun q3 => ⟨⟨q, by omega⟩, ?_⟩⟩, fun q2 => by omega⟩⟩, fun q => absurd hl q⟩), CQ_15 fr⟩
  rw [a3, el]
  refine ⟨⟨c0, c1⟩, fun q4 => ⟨⟨q, by omega⟩, _, M4, sp_presentWord v r4 c0 c1 n q3 q4, by rw [if_pos q4], rfl⟩, fun q4 => ⟨by rw [if_neg (by omega)], rfl⟩⟩
theorem cq_find (w : WB b) (cb : CBR (iv M 11) b) (hl : vlaw d e) {x : Int} (hx : isCd x) (xz : zr x) (x0 : ¬ x = 0) : ∃ M', am_call t_SB_find [.ref 0, .int (zi d), .int (zi e), .int (zi x)] M (some (.int (zi (if hold (lw b d e) x = -1 then -1 else rank (lw b d e) (hold (lw b d e) x))))) M' ∧ CQ M M' := by
  obtain ⟨dz, ez⟩ := vl_z hl
  obtain ⟨M4, h4, fr, r4, od⟩ := sp_c_consolidate M w cb dz ez
  have v := lw_VL w d e
  exact ⟨M4, am_call_of ⟨Nat.le_of_ble_eq_true rfl, rfl⟩ (vc_c_find d e x M _ ⟨⟨dz, ez⟩, fun _ => ⟨xz, fun _ => ⟨M4, h4, _, M4, sp_l15_indexOf v r4 od x0 xz, rfl, rfl⟩, fun q => absurd hx q⟩, fun q => absurd hl q⟩), CQ_15 fr⟩
theorem cq_find_no (hl : vlaw d e) {x : Int} (hx : ¬ isCd x) (xz : zr x) : am_call t_SB_find [.ref 0, .int (zi d), .int (zi e), .int (zi x)] M (some (.int (zi (-2)))) M := by
  obtain ⟨dz, ez⟩ := vl_z hl
  exact am_call_of ⟨Nat.le_of_ble_eq_true rfl, rfl⟩ (vc_c_find d e x M _ ⟨⟨dz, ez⟩, fun _ => ⟨xz, fun q => absurd q hx, fun _ => ⟨rfl, rfl⟩⟩, fun q => absurd hl q⟩)
end CQS
/-! the numbers of the book are numbers -/
theorem isNum_cd {n : Int} (h : isNum n) : isCd n := by
  obtain ⟨i, a, b, h1, h2, h3, h4, rfl⟩ := h
  refine ⟨by omega, by omega, ?_⟩
  omega
/-- the numbers of all operations -/
def PN (b : Int → Int) : Prop := ∀ o, 0 ≤ o → o < nops b → isNum (pt b o 1) ∧ (pt b o 0 = 3 → isNum (pt b o 2))
def LN (L : Lw) : Prop := ∀ c, L.code c = 0 ∨ isNum (L.code c)
theorem ops_LN {b : Int → Int} {L : Lw} {o day : Int} (h : LN L) (h1 : isNum (pt b o 1)) (h2 : pt b o 0 = 3 → isNum (pt b o 2)) : LN (ops b L o day) := by
  intro c
  unfold ops
  by_cases hr : rsn b L o = 0
  · rw [if_pos hr, eff_code]
    by_cases e : c = (if pt b o 0 = 0 then ia b o else hold L (pt b o 1))
    · rw [if_pos e]
      by_cases k0 : pt b o 0 = 0
      · rw [if_pos k0]; exact Or.inr h1
      · rw [if_neg k0]
        by_cases k2 : pt b o 0 = 2
        · rw [if_pos k2]; exact Or.inl rfl
        · rw [if_neg k2]
          by_cases k3 : pt b o 0 = 3
          · rw [if_pos k3]; exact Or.inr (h2 k3)
          · rw [if_neg k3]; exact h _
    · rw [if_neg e]; exact h c
  · rw [if_neg hr]; exact h c
theorem cyf_LN {b : Int → Int} {cas a : Int} {L : Lw} (w : WB b) (p : PN b) (h : LN L) (a0 : 0 ≤ a) (a1 : a < b 0) : ∀ k : Nat, (k : Int) ≤ b (41 + a) → LN (cyf b cas a L k) := by
  intro k
  have f0 := w.fo_nn (n := a) (by omega)
  have f1 := fo_s b a0
  have f2 := w.fo_le (n := a + 1) (by omega) (by omega)
  induction k with
  | zero => intro _; exact h
  | succ k ih =>
    intro hk
    have ih := ih (by omega)
    unfold cyf
    by_cases q : pt b (fo b a + k) 4 = 1 ∧ ¬ cas = -1 ∧ cas < b (1 + a)
    · rw [if_pos q]; exact ih
    · rw [if_neg q]
      have := p (fo b a + k) (by omega) (by omega)
      exact ops_LN ih this.1 this.2
theorem crf_LN {b off : Int → Int} {d e : Int} (w : WB b) (p : PN b) : ∀ (f : Nat) (last : Int) (L : Lw), -1 ≤ last → LN L → LN (crf b off d e f last L) := by
  intro f
  induction f with
  | zero => intro _ _ _ h; exact h
  | succ f ih =>
    intro last L hl h
    unfold crf
    rcases nk_is (b := b) (off := off) (day := d) hl with ⟨e1, e2⟩ | ⟨a, a0, a1, a2, a3, a4, a5⟩
    · rw [if_pos e1]; exact h
    · have k1 := w.ky_nn a0 a1
      rw [if_neg (by omega), a2, k1.2.2.1]
      have := (w.sz a a0 a1).1
      exact ih _ _ (by omega) (cyf_LN w p h a0 a1 _ (by omega))
theorem lw_LN {b : Int → Int} (w : WB b) (p : PN b) (d e : Int) : LN (lw b d e) := crf_LN w p 20 (-1) L0 (by omega) (fun _ => Or.inl rfl)
theorem rank_rg' {L : Lw} (c : Int) : zr (rank L c) := by have := rank_rg L c; exact ⟨by omega, by omega⟩
