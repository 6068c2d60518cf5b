/-! out of the proof of whole: ask -/
def rvk (b : Int → Int) : Int → Int := fun a => b (21 + a)
noncomputable def lw (b : Int → Int) (day cas : Int) : Lw := con b (rvk b) day cas
def CBR (c b : Int → Int) : Prop := CB c b ∧ (0 ≤ c 3 ∧ c 3 < 1048576) ∧ ∀ a, 0 ≤ a → a < 20 → zand (zshr (c 3) a) 1 = if a < b 0 then b (21 + a) else 0
theorem zsum_swap (g : Int → Int → Int) (n : Nat) : ∀ m : Nat, zsum (fun i => zsum (fun j => g i j) n) m = zsum (fun j => zsum (fun i => g i j) m) n := by
  intro m
  induction m with
  | zero =>
    show 0 = zsum (fun _ => 0) n
    induction n with
    | zero => rfl
    | succ n ih => show 0 = zsum (fun _ => 0) n + 0; omega
  | succ m ih =>
    show zsum _ m + zsum (fun j => g m j) n = zsum (fun j => zsum (fun i => g i j) m + g m j) n
    rw [zsum_add, ih]
theorem sm_swap (g : Int → Int → Int) (m n : Int) : sm (fun i => sm (fun j => g i j) n) m = sm (fun j => sm (fun i => g i j) m) n := zsum_swap g _ _
theorem sm_zero (n : Int) : sm (fun _ => 0) n = 0 := by
  have h1 := sm_nn (fun _ => 0) n (fun _ _ _ => Int.le_refl _)
  obtain ⟨k, hk⟩ : ∃ k : Nat, k = n.toNat := ⟨_, rfl⟩
  unfold sm at h1 ⊢
  rw [← hk] at h1 ⊢
  clear h1 hk
  induction k with
  | zero => rfl
  | succ k ih => show zsum _ k + 0 = 0; omega
/-- a sum over the clauses in force, in any order -/
theorem sum_ord {L : Lw} {f : Int → Int} {m n : Int} (h : ORD L f m n) (hm : 0 ≤ m) (g : Int → Int) (hg : ∀ c, 0 ≤ c → c < m → L.code c = 0 → g c = 0) : sm g m = sm (fun j => g (f j)) n := by
  obtain ⟨h1, h2, h3, h4⟩ := h
  have inj : ∀ i j, 0 ≤ i → i < n → 0 ≤ j → j < n → f i = f j → i = j := by
    intro i j i0 i1 j0 j1 e
    by_cases a : i < j
    · have := h3 i j i0 a j1; rw [e] at this; omega
    · by_cases c : j < i
      · have := h3 j i j0 c i1; rw [e] at this; omega
      · omega
  have e1 : sm g m = sm (fun c => sm (fun j => if f j = c then g c else 0) n) m := by
    refine sm_congr (fun c c0 c1 => ?_)
    by_cases q : L.code c = 0
    · rw [hg c c0 c1 q]
      have : (fun j => if f j = c then (0 : Int) else 0) = fun _ => 0 := by funext j; split <;> rfl
      rw [this, sm_zero]
    · obtain ⟨j0, a0, a1, a2⟩ := h4 c c0 c1 q
      have : sm (fun j => if f j = c then g c else 0) n = sm (fun j => if j = j0 then g c else 0) n := sm_congr (fun j b0 b1 => by
        by_cases z : j = j0
        · rw [z, a2, if_pos rfl, if_pos rfl]
        · rw [if_neg (fun y => z (inj j j0 b0 b1 a0 a1 (y.trans a2.symm))), if_neg z])
      rw [this, sm_pt j0 _ a0 a1]
  rw [e1, sm_swap]
  refine sm_congr (fun j j0 j1 => ?_)
  have z := h2 j j0 j1
  have : sm (fun c => if f j = c then g c else 0) m = sm (fun c => if c = f j then g (f j) else 0) m := sm_congr (fun c _ _ => by
    by_cases y : f j = c
    · rw [if_pos y, if_pos y.symm, y]
    · rw [if_neg y, if_neg (fun u => y u.symm)])
  rw [this, sm_pt (f j) _ z.1 z.2.1]
def rank (L : Lw) (c : Int) : Int := sm (fun k => if ¬ L.code k = 0 ∧ L.code k < L.code c then 1 else 0) 40
theorem sm_lt (n i : Int) (h0 : 0 ≤ i) (h1 : i ≤ n) : sm (fun j => if j < i then 1 else 0) n = i := by
  have key : ∀ k : Nat, sm (fun j => if j < i then 1 else 0) k = if (k : Int) ≤ i then (k : Int) else i := by
    intro k
    induction k with
    | zero => rw [if_pos (by omega)]; rfl
    | succ k ih =>
      show sm _ ((k : Int) + 1) = _
      rw [sm_s _ (by omega), ih]
      show (if (k : Int) ≤ i then (k : Int) else i) + (if (k : Int) < i then 1 else 0) = _
      repeat' split
      all_goals omega
  have := key n.toNat
  rw [show ((n.toNat : Nat) : Int) = n by omega] at this
  rw [this]
  split <;> omega
theorem rank_ord {L : Lw} {f : Int → Int} {n : Int} (h : ORD L f 40 n) {i : Int} (i0 : 0 ≤ i) (i1 : i < n) : rank L (f i) = i := by
  have e := sum_ord h (by omega) (fun k => if ¬ L.code k = 0 ∧ L.code k < L.code (f i) then 1 else 0) (fun c _ _ q => if_neg (fun z => z.1 q))
  unfold rank
  rw [e]
  have e2 : sm (fun j => if ¬ L.code (f j) = 0 ∧ L.code (f j) < L.code (f i) then 1 else 0) n = sm (fun j => if j < i then 1 else 0) n := sm_congr (fun j j0 j1 => by
    by_cases z : j < i
    · rw [if_pos z, if_pos ⟨(h.2.1 j j0 j1).2.2, h.2.2.1 j i j0 z i1⟩]
    · rw [if_neg z, if_neg (fun y => by
        by_cases u : j = i
        · rw [u] at y; omega
        · have := h.2.2.1 i j i0 (by omega) j1; omega)])
  rw [e2, sm_lt n i i0 (by omega)]
/-- the clause with a place in the order of codes -/
def isAt (L : Lw) (i c : Int) : Prop := (c = -1 ∧ ∀ x, 0 ≤ x → x < 40 → ¬ L.code x = 0 → ¬ rank L x = i) ∨ (0 ≤ c ∧ c < 40 ∧ ¬ L.code c = 0 ∧ rank L c = i)
theorem ORD_at {L : Lw} {f : Int → Int} {n : Int} (h : ORD L f 40 n) (i : Int) : isAt L i (if 0 ≤ i ∧ i < n then f i else -1) := by
  by_cases q : 0 ≤ i ∧ i < n
  · rw [if_pos q]
    have := h.2.1 i q.1 q.2
    exact Or.inr ⟨this.1, this.2.1, this.2.2, rank_ord h q.1 q.2⟩
  · rw [if_neg q]
    refine Or.inl ⟨rfl, fun x x0 x1 x2 e => ?_⟩
    obtain ⟨j, j0, j1, j2⟩ := h.2.2.2 x x0 x1 x2
    have := rank_ord h j0 j1
    rw [j2] at this
    exact q ⟨by omega, by omega⟩
theorem rank_inj {L : Lw} (v : VL L) {c d : Int} (c0 : 0 ≤ c) (c1 : c < 40) (d0 : 0 ≤ d) (d1 : d < 40) (nc : ¬ L.code c = 0) (nd : ¬ L.code d = 0) (h : rank L c = rank L d) : c = d := by
  have key : ∀ x y, 0 ≤ x → x < 40 → ¬ L.code x = 0 → L.code x < L.code y → rank L x < rank L y := by
    intro x y x0 x1 nx hl
    have h4 := sm_le (fun k => (if ¬ L.code k = 0 ∧ L.code k < L.code x then 1 else 0) + (if k = x then 1 else 0)) (fun k => if ¬ L.code k = 0 ∧ L.code k < L.code y then 1 else 0) 40 (fun i _ _ => by
      show (if ¬ L.code i = 0 ∧ L.code i < L.code x then (1 : Int) else 0) + (if i = x then 1 else 0) ≤ if ¬ L.code i = 0 ∧ L.code i < L.code y then 1 else 0
      by_cases e : i = x
      · subst e
        rw [if_neg (by omega), if_pos rfl, if_pos ⟨nx, hl⟩]; omega
      · rw [if_neg e]
        by_cases q : ¬ L.code i = 0 ∧ L.code i < L.code x
        · rw [if_pos q, if_pos ⟨q.1, by omega⟩]; omega
        · rw [if_neg q]; split <;> omega)
    rw [sm_addf, sm_pt x 1 x0 x1] at h4
    show rank L x < rank L y
    unfold rank
    omega
  by_cases a : L.code c < L.code d
  · have := key c d c0 c1 nc a; omega
  · by_cases e : L.code d < L.code c
    · have := key d c d0 d1 nd e; omega
    · exact v.un c d c0 c1 d0 d1 (by omega) nc
theorem isAt_eq {L : Lw} (v : VL L) {i c d : Int} (h : isAt L i c) (h' : isAt L i d) : c = d := by
  rcases h with ⟨h1, h2⟩ | ⟨h1, h2, h3, h4⟩ <;> rcases h' with ⟨g1, g2⟩ | ⟨g1, g2, g3, g4⟩
  · rw [h1, g1]
  · exact absurd g4 (h2 d g1 g2 g3)
  · exact absurd h4 (g2 c h1 h2 h3)
  · exact rank_inj v h1 h2 g1 g2 h3 g3 (h4.trans g4.symm)
theorem isAt_ex (L : Lw) (i : Int) : ∃ c, isAt L i c := by
  by_cases q : ∃ c, 0 ≤ c ∧ c < 40 ∧ ¬ L.code c = 0 ∧ rank L c = i
  · obtain ⟨c, h⟩ := q; exact ⟨c, Or.inr h⟩
  · exact ⟨-1, Or.inl ⟨rfl, fun x x0 x1 x2 e => q ⟨x, x0, x1, x2, e⟩⟩⟩
noncomputable def atx (L : Lw) (i : Int) : Int := (isAt_ex L i).choose
theorem atx_is (L : Lw) (i : Int) : isAt L i (atx L i) := (isAt_ex L i).choose_spec
theorem atx_ord {L : Lw} (v : VL L) {f : Int → Int} {n : Int} (h : ORD L f 40 n) (i : Int) : atx L i = if 0 ≤ i ∧ i < n then f i else -1 := isAt_eq v (atx_is L i) (ORD_at h i)
theorem atx_rg (L : Lw) (i : Int) : -1 ≤ atx L i ∧ atx L i < 40 := by rcases atx_is L i with ⟨h, _⟩ | ⟨h1, h2, _⟩ <;> omega
set_option maxRecDepth 100000 in
theorem vc_c_consolidate (d : Int) (e : Int) (M : am_M) (Q : Option Value → am_M → Prop) (hv : ∃ M1, am_call t_Law_consolidate [.ref 15, .ref 9, .int (zi d), .int (zi e), .int (zi (iv M 11 3))] M none M1 ∧ (Q none M1)) : am_x t_SB_consolidate (0, am_ent (am_mL t_SB_consolidate) [.ref 0, .int (zi d), .int (zi e)], [], M) Q := by
  refine am_xn 0 (c1 := (0, [.ref 0, .int (zi d), .int (zi e)], [], M)) rfl ?_
  refine am_xn 8 (c1 := (14, [.ref 0, .int (zi d), .int (zi e)], [.ref 9, .int (zi e), .int (zi d), .ref 9, .ref 15], M)) rfl ?_
  refine am_xc t_Amd_revoked (.invokevirtual 106) 106 (av := [.ref 9]) (rest := [.int (zi e), .int (zi d), .ref 9, .ref 15]) (rv := some (.int (zi (iv M 11 3)))) (M' := M) rfl rfl rfl rfl (Nat.le_of_ble_eq_true rfl) (fun _ => rfl) (sp_c_revoked M) ?_
  refine am_xn 0 (c1 := (17, [.ref 0, .int (zi d), .int (zi e)], [.int (zi (iv M 11 3)), .int (zi e), .int (zi d), .ref 9, .ref 15], M)) rfl ?_
  obtain ⟨M1, hc, hv⟩ := hv
  refine am_xc t_Law_consolidate (.invokevirtual 217) 217 (av := [.ref 15, .ref 9, .int (zi d), .int (zi e), .int (zi (iv M 11 3))]) (rest := []) (rv := none) (M' := M1) rfl rfl rfl rfl (Nat.le_of_ble_eq_true rfl) (fun _ => rfl) (hc) ?_
  refine am_xn 0 (c1 := (20, [.ref 0, .int (zi d), .int (zi e)], [], M1)) rfl ?_
  exact am_xr none ⟨rfl, rfl, rfl⟩ hv
set_option maxRecDepth 100000 in
theorem vc_c_consolidateFully  (M : am_M) (Q : Option Value → am_M → Prop) (hv : ∃ M1, am_call t_Law_consolidate [.ref 15, .ref 9, .int (zi 9999), .int (zi (-1)), .int (zi (iv M 11 3))] M none M1 ∧ (Q none M1)) : am_x t_SB_consolidateFully (0, am_ent (am_mL t_SB_consolidateFully) [.ref 0], [], M) Q := by
  refine am_xn 0 (c1 := (0, [.ref 0], [], M)) rfl ?_
  refine am_xn 8 (c1 := (16, [.ref 0], [.ref 9, .int (zi (-1)), .int (zi 9999), .ref 9, .ref 15], M)) rfl ?_
  refine am_xc t_Amd_revoked (.invokevirtual 106) 106 (av := [.ref 9]) (rest := [.int (zi (-1)), .int (zi 9999), .ref 9, .ref 15]) (rv := some (.int (zi (iv M 11 3)))) (M' := M) rfl rfl rfl rfl (Nat.le_of_ble_eq_true rfl) (fun _ => rfl) (sp_c_revoked M) ?_
  refine am_xn 0 (c1 := (19, [.ref 0], [.int (zi (iv M 11 3)), .int (zi (-1)), .int (zi 9999), .ref 9, .ref 15], M)) rfl ?_
  obtain ⟨M1, hc, hv⟩ := hv
  refine am_xc t_Law_consolidate (.invokevirtual 217) 217 (av := [.ref 15, .ref 9, .int (zi 9999), .int (zi (-1)), .int (zi (iv M 11 3))]) (rest := []) (rv := none) (M' := M1) rfl rfl rfl rfl (Nat.le_of_ble_eq_true rfl) (fun _ => rfl) (hc) ?_
  refine am_xn 0 (c1 := (22, [.ref 0], [], M1)) rfl ?_
  exact am_xr none ⟨rfl, rfl, rfl⟩ hv
theorem sp_c_consolidate (M : am_M) {b : Int → Int} (w : WB b) (cb : CBR (iv M 11) b) {day cas : Int} (dz : zr day) (ez : zr cas) : ∃ M', am_call t_SB_consolidate [.ref 0, .int (zi day), .int (zi cas)] M none M' ∧ CFr15 M M' ∧ CLR15 (lw b day cas) M' ∧ ORD (lw b day cas) (iv M' 25) 40 (iv M' 15 9) := by
  have w1 := w.n1
  obtain ⟨M', h1, h2⟩ := sp_l15_consolidate M (off := rvk b) w cb.1 day cas (iv M 11 3) dz ez (fun a a0 a1 => by rw [cb.2.2 a a0 (by omega), if_pos a1]; rfl)
  exact ⟨M', am_call_of ⟨Nat.le_of_ble_eq_true rfl, rfl⟩ (vc_c_consolidate day cas M _ ⟨M', h1, rfl, rfl⟩), h2⟩
theorem sp_c_consolidateFully (M : am_M) {b : Int → Int} (w : WB b) (cb : CBR (iv M 11) b) : ∃ M', am_call t_SB_consolidateFully [.ref 0] M none M' ∧ CFr15 M M' ∧ CLR15 (lw b 9999 (-1)) M' ∧ ORD (lw b 9999 (-1)) (iv M' 25) 40 (iv M' 15 9) := by
  have w1 := w.n1
  obtain ⟨M', h1, h2⟩ := sp_l15_consolidate M (off := rvk b) w cb.1 9999 (-1) (iv M 11 3) (by decide) (by decide) (fun a a0 a1 => by rw [cb.2.2 a a0 (by omega), if_pos a1]; rfl)
  exact ⟨M', am_call_of ⟨Nat.le_of_ble_eq_true rfl, rfl⟩ (vc_c_consolidateFully M _ ⟨M', h1, rfl, rfl⟩), h2⟩
def tw (L : Lw) (c k : Int) : Int := if L.tx c k < 1000 then L.tx c k else if L.code (L.tx c k - 1000) = 0 then -5 else 1000 + L.code (L.tx c k - 1000)
theorem tw_rg {L : Lw} (v : VL L) {c k : Int} (c0 : 0 ≤ c) (c1 : c < 40) (n : ¬ L.code c = 0) (k0 : 0 ≤ k) (k1 : k < L.len c) : -5 ≤ tw L c k ∧ tw L c k < 730000 := by
  have h := v.wt c k c0 c1 n k0 k1
  unfold tw
  by_cases q : L.tx c k < 1000
  · rw [if_pos q]; omega
  · rw [if_neg q]
    have := v.rg (L.tx c k - 1000) (by omega) (by omega)
    split <;> omega
theorem tdiv_neg0 {v : Int} (h : v < 0) : Int.tdiv v 729 ≤ 0 := by
  obtain ⟨u, rfl⟩ : ∃ u, v = -u := ⟨-v, by omega⟩
  rw [Int.neg_tdiv, Int.tdiv_eq_ediv_of_nonneg (by omega)]
  omega
theorem frc40 (L : Lw) : 0 ≤ frc L 40 ∧ frc L 40 ≤ 40 := frc_rg L (by omega)
theorem rank_rg (L : Lw) (c : Int) : 0 ≤ rank L c ∧ rank L c ≤ 40 := by
  have a1 := sm_nn (fun k => if ¬ L.code k = 0 ∧ L.code k < L.code c then 1 else 0) 40 (fun i _ _ => by split <;> omega)
  have a2 := sm_le (fun k => if ¬ L.code k = 0 ∧ L.code k < L.code c then 1 else 0) (fun k => if k < 40 then 1 else 0) 40 (fun i _ h => by show (if _ then (1 : Int) else 0) ≤ if _ then (1 : Int) else 0; rw [if_pos h]; split <;> omega)
  rw [sm_lt 40 40 (by omega) (by omega)] at a2
  exact ⟨a1, a2⟩
set_option maxRecDepth 100000 in
theorem vc_isLaw (d : Int) (e : Int) (M : am_M) (Q : Option Value → am_M → Prop) (hv : (zr d ∧ zr (9999 : Int)) ∧ ((0 ≤ d ∧ d ≤ 9999 → zr e ∧ ((e = (-1) → Q (some (.int (zi 1))) M) ∧ (¬ e = (-1) → (zr e ∧ zr (9999 : Int)) ∧ ((0 ≤ e ∧ e ≤ 9999 → Q (some (.int (zi 1))) M) ∧ (¬ (0 ≤ e ∧ e ≤ 9999) → Q (some (.int (zi 0))) M))))) ∧ (¬ (0 ≤ d ∧ d ≤ 9999) → Q (some (.int (zi 0))) M))) : am_x t_SB_isLaw (0, am_ent (am_mL t_SB_isLaw) [.int (zi d), .int (zi e)], [], M) Q := by
  refine am_xn 0 (c1 := (0, [.int (zi d), .int (zi e)], [], M)) rfl ?_
  refine am_xn 2 (c1 := (4, [.int (zi d), .int (zi e)], [.int (zi 9999), .int (zi d)], M)) rfl ?_
  obtain ⟨g, hv⟩ := hv
  by_cases c3 : 0 ≤ d ∧ d ≤ 9999
  · replace hv := hv.1 c3
    refine am_xc t_SB_within (.invokestatic 56) 56 (av := [.int (zi d), .int (zi 9999)]) (rest := []) (rv := some (.int (zi 1))) (M' := M) rfl rfl rfl rfl (Nat.le_of_ble_eq_true rfl) (fun h => nomatch h) (by have q := sp_within M d 9999 g; rwa [if_pos c3] at q) ?_
    refine am_xn 0 (c1 := (7, [.int (zi d), .int (zi e)], [.int (zi 1)], M)) rfl ?_
    obtain ⟨r1, hv⟩ := hv
    refine am_xn 4 (c1 := (if zi e = zi (-1) then 25 else 15, [.int (zi d), .int (zi e)], [], M)) rfl (am_xeq r1 (by decide) (fun h => ?_) (fun h => ?_))
    · replace hv := hv.1 h
      refine am_xn 2 (c1 := (30, [.int (zi d), .int (zi e)], [.int (zi 1)], M)) rfl ?_
      exact am_xr (some (.int (zi 1))) ⟨rfl, rfl, .boolean, rfl, rfl⟩ hv
    · replace hv := hv.2 h
      refine am_xn 2 (c1 := (19, [.int (zi d), .int (zi e)], [.int (zi 9999), .int (zi e)], M)) rfl ?_
      obtain ⟨g, hv⟩ := hv
      by_cases c2 : 0 ≤ e ∧ e ≤ 9999
      · replace hv := hv.1 c2
        refine am_xc t_SB_within (.invokestatic 56) 56 (av := [.int (zi e), .int (zi 9999)]) (rest := []) (rv := some (.int (zi 1))) (M' := M) rfl rfl rfl rfl (Nat.le_of_ble_eq_true rfl) (fun h => nomatch h) (by have q := sp_within M e 9999 g; rwa [if_pos c2] at q) ?_
        refine am_xn 0 (c1 := (22, [.int (zi d), .int (zi e)], [.int (zi 1)], M)) rfl ?_
        refine am_xn 3 (c1 := (30, [.int (zi d), .int (zi e)], [.int (zi 1)], M)) rfl ?_
        exact am_xr (some (.int (zi 1))) ⟨rfl, rfl, .boolean, rfl, rfl⟩ hv
      · replace hv := hv.2 c2
        refine am_xc t_SB_within (.invokestatic 56) 56 (av := [.int (zi e), .int (zi 9999)]) (rest := []) (rv := some (.int (zi 0))) (M' := M) rfl rfl rfl rfl (Nat.le_of_ble_eq_true rfl) (fun h => nomatch h) (by have q := sp_within M e 9999 g; rwa [if_neg c2] at q) ?_
        refine am_xn 0 (c1 := (22, [.int (zi d), .int (zi e)], [.int (zi 0)], M)) rfl ?_
        refine am_xn 2 (c1 := (30, [.int (zi d), .int (zi e)], [.int (zi 0)], M)) rfl ?_
        exact am_xr (some (.int (zi 0))) ⟨rfl, rfl, .boolean, rfl, rfl⟩ hv
  · replace hv := hv.2 c3
    refine am_xc t_SB_within (.invokestatic 56) 56 (av := [.int (zi d), .int (zi 9999)]) (rest := []) (rv := some (.int (zi 0))) (M' := M) rfl rfl rfl rfl (Nat.le_of_ble_eq_true rfl) (fun h => nomatch h) (by have q := sp_within M d 9999 g; rwa [if_neg c3] at q) ?_
    refine am_xn 0 (c1 := (7, [.int (zi d), .int (zi e)], [.int (zi 0)], M)) rfl ?_
    refine am_xn 2 (c1 := (30, [.int (zi d), .int (zi e)], [.int (zi 0)], M)) rfl ?_
    exact am_xr (some (.int (zi 0))) ⟨rfl, rfl, .boolean, rfl, rfl⟩ hv
theorem sp_isLaw (M : am_M) (d : Int) (e : Int) (g : zr d ∧ zr e) : am_call t_SB_isLaw [.int (zi d), .int (zi e)] M (some (.int (zi (if (0 ≤ d ∧ d ≤ 9999) ∧ (e = -1 ∨ (0 ≤ e ∧ e ≤ 9999)) then 1 else 0)))) M := by
  refine am_call_of ⟨Nat.le_of_ble_eq_true rfl, rfl⟩ (vc_isLaw d e M _ ?_)
  obtain ⟨⟨_, _⟩, ⟨_, _⟩⟩ := g
  (repeat' (first | apply And.intro | intro _)) <;> (first | rfl | omega | (split <;> (first | rfl | omega)))
set_option maxRecDepth 100000 in
theorem vc_c_isCode (v : Int) (M : am_M) (Q : Option Value → am_M → Prop) (hv : zr v ∧ (((Int.tdiv v 729) < 1 → Q (some (.int (zi 0))) M) ∧ (1 ≤ (Int.tdiv v 729) → (999 < (Int.tdiv v 729) → Q (some (.int (zi 0))) M) ∧ ((Int.tdiv v 729) ≤ 999 → (0 < (Int.tdiv (Int.tmod v 729) 27) → Q (some (.int (zi 1))) M) ∧ ((Int.tdiv (Int.tmod v 729) 27) ≤ 0 → ((Int.tmod v 27) = 0 → Q (some (.int (zi 1))) M) ∧ (¬ (Int.tmod v 27) = 0 → Q (some (.int (zi 0))) M)))))) : am_x t_SB_isCode (0, am_ent (am_mL t_SB_isCode) [.int (zi v)], [], M) Q := by
  refine am_xn 0 (c1 := (0, [.int (zi v), .null, .null, .null], [], M)) rfl ?_
  obtain ⟨r1, hv⟩ := hv
  refine am_xn 2 (c1 := (4, [.int (zi v), .null, .null, .null], [.int (zi 729), .int (zi v)], M)) rfl ?_
  refine am_xtdiv rfl (by decide) r1 ?_
  refine am_xn 0 (c1 := (5, [.int (zi v), .null, .null, .null], [.int (zi (Int.tdiv v 729))], M)) rfl ?_
  refine am_xn 3 (c1 := (10, [.int (zi v), .int (zi (Int.tdiv v 729)), .null, .null], [.int (zi 729), .int (zi v)], M)) rfl ?_
  refine am_xtrem rfl (by decide) r1 ?_
  refine am_xn 0 (c1 := (11, [.int (zi v), .int (zi (Int.tdiv v 729)), .null, .null], [.int (zi (Int.tmod v 729))], M)) rfl ?_
  refine am_xn 1 (c1 := (13, [.int (zi v), .int (zi (Int.tdiv v 729)), .null, .null], [.int (zi 27), .int (zi (Int.tmod v 729))], M)) rfl ?_
  refine am_xtdiv rfl (by decide) (zr_trem (by decide) r1) ?_
  refine am_xn 0 (c1 := (14, [.int (zi v), .int (zi (Int.tdiv v 729)), .null, .null], [.int (zi (Int.tdiv (Int.tmod v 729) 27))], M)) rfl ?_
  refine am_xn 3 (c1 := (18, [.int (zi v), .int (zi (Int.tdiv v 729)), .int (zi (Int.tdiv (Int.tmod v 729) 27)), .null], [.int (zi 27), .int (zi v)], M)) rfl ?_
  refine am_xtrem rfl (by decide) r1 ?_
  refine am_xn 0 (c1 := (19, [.int (zi v), .int (zi (Int.tdiv v 729)), .int (zi (Int.tdiv (Int.tmod v 729) 27)), .null], [.int (zi (Int.tmod v 27))], M)) rfl ?_
  refine am_xn 4 (c1 := (if zi (Int.tdiv v 729) < zi 1 then 44 else 25, [.int (zi v), .int (zi (Int.tdiv v 729)), .int (zi (Int.tdiv (Int.tmod v 729) 27)), .int (zi (Int.tmod v 27))], [], M)) rfl (am_xlt (zr_tdiv (by decide) r1) (by decide) (fun h => ?_) (fun h => ?_))
  · replace hv := hv.1 h
    refine am_xn 1 (c1 := (45, [.int (zi v), .int (zi (Int.tdiv v 729)), .int (zi (Int.tdiv (Int.tmod v 729) 27)), .int (zi (Int.tmod v 27))], [.int (zi 0)], M)) rfl ?_
    exact am_xr (some (.int (zi 0))) ⟨rfl, rfl, .boolean, rfl, rfl⟩ hv
  · replace hv := hv.2 h
    refine am_xn 3 (c1 := (if zi 999 < zi (Int.tdiv v 729) then 44 else 32, [.int (zi v), .int (zi (Int.tdiv v 729)), .int (zi (Int.tdiv (Int.tmod v 729) 27)), .int (zi (Int.tmod v 27))], [], M)) rfl (am_xlt (by decide) (zr_tdiv (by decide) r1) (fun h => ?_) (fun h => ?_))
    · replace hv := hv.1 h
      refine am_xn 1 (c1 := (45, [.int (zi v), .int (zi (Int.tdiv v 729)), .int (zi (Int.tdiv (Int.tmod v 729) 27)), .int (zi (Int.tmod v 27))], [.int (zi 0)], M)) rfl ?_
      exact am_xr (some (.int (zi 0))) ⟨rfl, rfl, .boolean, rfl, rfl⟩ hv
    · replace hv := hv.2 h
      refine am_xn 2 (c1 := (if zi 0 < zi (Int.tdiv (Int.tmod v 729) 27) then 40 else 36, [.int (zi v), .int (zi (Int.tdiv v 729)), .int (zi (Int.tdiv (Int.tmod v 729) 27)), .int (zi (Int.tmod v 27))], [], M)) rfl (am_xlt (by decide) (zr_tdiv (by decide) (zr_trem (by decide) r1)) (fun h => ?_) (fun h => ?_))
      · replace hv := hv.1 h
        refine am_xn 2 (c1 := (45, [.int (zi v), .int (zi (Int.tdiv v 729)), .int (zi (Int.tdiv (Int.tmod v 729) 27)), .int (zi (Int.tmod v 27))], [.int (zi 1)], M)) rfl ?_
        exact am_xr (some (.int (zi 1))) ⟨rfl, rfl, .boolean, rfl, rfl⟩ hv
      · replace hv := hv.2 h
        refine am_xn 2 (c1 := (if zi (Int.tmod v 27) = zi 0 then 40 else 44, [.int (zi v), .int (zi (Int.tdiv v 729)), .int (zi (Int.tdiv (Int.tmod v 729) 27)), .int (zi (Int.tmod v 27))], [], M)) rfl (am_xeq (zr_trem (by decide) r1) (by decide) (fun h => ?_) (fun h => ?_))
        · replace hv := hv.1 h
          refine am_xn 2 (c1 := (45, [.int (zi v), .int (zi (Int.tdiv v 729)), .int (zi (Int.tdiv (Int.tmod v 729) 27)), .int (zi (Int.tmod v 27))], [.int (zi 1)], M)) rfl ?_
          exact am_xr (some (.int (zi 1))) ⟨rfl, rfl, .boolean, rfl, rfl⟩ hv
        · replace hv := hv.2 h
          refine am_xn 1 (c1 := (45, [.int (zi v), .int (zi (Int.tdiv v 729)), .int (zi (Int.tdiv (Int.tmod v 729) 27)), .int (zi (Int.tmod v 27))], [.int (zi 0)], M)) rfl ?_
          exact am_xr (some (.int (zi 0))) ⟨rfl, rfl, .boolean, rfl, rfl⟩ hv
theorem sp_c_isCode (M : am_M) (v : Int) (g : zr v) : am_call t_SB_isCode [.int (zi v)] M (some (.int (zi (if isCd v then 1 else 0)))) M := by
  refine am_call_of ⟨Nat.le_of_ble_eq_true rfl, rfl⟩ (vc_c_isCode v M _ ?_)
  obtain ⟨_, _⟩ := g
  have e : 0 ≤ v → Int.tdiv v 729 = v / 729 := fun h => Int.tdiv_eq_ediv_of_nonneg h
  have e0 : 0 ≤ v → Int.tmod v 729 = v % 729 := fun h => Int.tmod_eq_emod_of_nonneg h
  have e1 : 0 ≤ v → Int.tdiv (Int.tmod v 729) 27 = v % 729 / 27 := fun h => by rw [e0 h]; exact Int.tdiv_eq_ediv_of_nonneg (Int.emod_nonneg v (by decide))
  have e2 : 0 ≤ v → Int.tmod v 27 = v % 27 := fun h => Int.tmod_eq_emod_of_nonneg h
  have e3 : v < 0 → Int.tdiv v 729 ≤ 0 := tdiv_neg0
  (repeat' (first | apply And.intro | intro _)) <;> (first | rfl | omega | (split <;> (first | rfl | omega)))
set_option maxRecDepth 100000 in
theorem vc_clausePart (c : Int) (w : Int) (M : am_M) (Q : Option Value → am_M → Prop) (hv : zr w ∧ ((w = 0 → (0 ≤ c ∧ c < 40) ∧ (Q (some (.int (zi (iv M 17 c)))) M)) ∧ (w = 1 → Q (some (.int (zi c))) M) ∧ (w = 2 → (0 ≤ c ∧ c < 40) ∧ (Q (some (.int (zi (iv M 21 c)))) M)) ∧ (¬ w = 0 → ¬ w = 1 → ¬ w = 2 → (0 ≤ c ∧ c < 40) ∧ (Q (some (.int (zi (iv M 19 c)))) M)))) : am_x t_SB_clausePart (0, am_ent (am_mL t_SB_clausePart) [.ref 0, .int (zi c), .int (zi w)], [], M) Q := by
  refine am_xn 0 (c1 := (0, [.ref 0, .int (zi c), .int (zi w)], [], M)) rfl ?_
  obtain ⟨r1, hv⟩ := hv
  refine am_xn 1 (c1 := (1, [.ref 0, .int (zi c), .int (zi w)], [.int (zi w)], M)) rfl ?_
  by_cases h0 : w = 0
  · replace hv := hv.1 h0
    refine am_xswt rfl 0 (by rw [h0]; rfl) 28 rfl ?_
    refine am_xn 3 (c1 := (33, [.ref 0, .int (zi c), .int (zi w)], [.int (zi c), .ref 15], M)) rfl ?_
    obtain ⟨g, hv⟩ := hv
    refine am_xc t_Law_code (.invokevirtual 172) 172 (av := [.ref 15, .int (zi c)]) (rest := []) (rv := some (.int (zi (iv M 17 c)))) (M' := M) rfl rfl rfl rfl (Nat.le_of_ble_eq_true rfl) (fun _ => rfl) (sp_l15_code M c g) ?_
    refine am_xn 0 (c1 := (36, [.ref 0, .int (zi c), .int (zi w)], [.int (zi (iv M 17 c))], M)) rfl ?_
    exact am_xr (some (.int (zi (iv M 17 c)))) ⟨rfl, rfl, .int, rfl, rfl⟩ hv
  replace hv := hv.2
  by_cases h1 : w = 1
  · replace hv := hv.1 h1
    refine am_xswt rfl 1 (by rw [h1]; rfl) 37 rfl ?_
    refine am_xn 1 (c1 := (38, [.ref 0, .int (zi c), .int (zi w)], [.int (zi c)], M)) rfl ?_
    exact am_xr (some (.int (zi c))) ⟨rfl, rfl, .int, rfl, rfl⟩ hv
  replace hv := hv.2
  by_cases h2 : w = 2
  · replace hv := hv.1 h2
    refine am_xswt rfl 2 (by rw [h2]; rfl) 39 rfl ?_
    refine am_xn 3 (c1 := (44, [.ref 0, .int (zi c), .int (zi w)], [.int (zi c), .ref 15], M)) rfl ?_
    obtain ⟨g, hv⟩ := hv
    refine am_xc t_Law_length (.invokevirtual 175) 175 (av := [.ref 15, .int (zi c)]) (rest := []) (rv := some (.int (zi (iv M 21 c)))) (M' := M) rfl rfl rfl rfl (Nat.le_of_ble_eq_true rfl) (fun _ => rfl) (sp_l15_length M c g) ?_
    refine am_xn 0 (c1 := (47, [.ref 0, .int (zi c), .int (zi w)], [.int (zi (iv M 21 c))], M)) rfl ?_
    exact am_xr (some (.int (zi (iv M 21 c)))) ⟨rfl, rfl, .int, rfl, rfl⟩ hv
  replace hv := hv.2
  replace hv := hv h0 h1 h2
  refine am_xswd rfl r1 (by omega) 48 rfl ?_
  refine am_xn 3 (c1 := (53, [.ref 0, .int (zi c), .int (zi w)], [.int (zi c), .ref 15], M)) rfl ?_
  obtain ⟨g, hv⟩ := hv
  refine am_xc t_Law_lastDay (.invokevirtual 178) 178 (av := [.ref 15, .int (zi c)]) (rest := []) (rv := some (.int (zi (iv M 19 c)))) (M' := M) rfl rfl rfl rfl (Nat.le_of_ble_eq_true rfl) (fun _ => rfl) (sp_l15_lastDay M c g) ?_
  refine am_xn 0 (c1 := (56, [.ref 0, .int (zi c), .int (zi w)], [.int (zi (iv M 19 c))], M)) rfl ?_
  exact am_xr (some (.int (zi (iv M 19 c)))) ⟨rfl, rfl, .int, rfl, rfl⟩ hv
set_option maxRecDepth 100000 in
theorem vc_presentWord (c : Int) (k : Int) (M : am_M) (Q : Option Value → am_M → Prop) (hv : (0 ≤ c ∧ c < 40 ∧ 0 ≤ k ∧ k < 6) ∧ (((iv M 23 (c * 6 + k)) < 1000 → Q (some (.int (zi (iv M 23 (c * 6 + k))))) M) ∧ (1000 ≤ (iv M 23 (c * 6 + k)) → (0 ≤ ((iv M 23 (c * 6 + k)) - 1000) ∧ ((iv M 23 (c * 6 + k)) - 1000) < 40) ∧ (((iv M 17 ((iv M 23 (c * 6 + k)) - 1000)) = 0 → Q (some (.int (zi (-5)))) M) ∧ (¬ (iv M 17 ((iv M 23 (c * 6 + k)) - 1000)) = 0 → Q (some (.int (zi (1000 + (iv M 17 ((iv M 23 (c * 6 + k)) - 1000)))))) M))))) : am_x t_SB_presentWord (0, am_ent (am_mL t_SB_presentWord) [.ref 0, .int (zi c), .int (zi k)], [], M) Q := by
  refine am_xn 0 (c1 := (0, [.ref 0, .int (zi c), .int (zi k), .null, .null], [], M)) rfl ?_
  refine am_xn 4 (c1 := (6, [.ref 0, .int (zi c), .int (zi k), .null, .null], [.int (zi k), .int (zi c), .ref 15], M)) rfl ?_
  obtain ⟨g, hv⟩ := hv
  refine am_xc t_Law_said (.invokevirtual 184) 184 (av := [.ref 15, .int (zi c), .int (zi k)]) (rest := []) (rv := some (.int (zi (iv M 23 (c * 6 + k))))) (M' := M) rfl rfl rfl rfl (Nat.le_of_ble_eq_true rfl) (fun _ => rfl) (sp_l15_said M c k g) ?_
  refine am_xn 0 (c1 := (9, [.ref 0, .int (zi c), .int (zi k), .null, .null], [.int (zi (iv M 23 (c * 6 + k)))], M)) rfl ?_
  refine am_xn 4 (c1 := (if zi (iv M 23 (c * 6 + k)) < zi 1000 then 17 else 19, [.ref 0, .int (zi c), .int (zi k), .int (zi (iv M 23 (c * 6 + k))), .null], [], M)) rfl (am_xlt (iv_r _ _ _) (by decide) (fun h => ?_) (fun h => ?_))
  · replace hv := hv.1 h
    refine am_xn 1 (c1 := (18, [.ref 0, .int (zi c), .int (zi k), .int (zi (iv M 23 (c * 6 + k))), .null], [.int (zi (iv M 23 (c * 6 + k)))], M)) rfl ?_
    exact am_xr (some (.int (zi (iv M 23 (c * 6 + k))))) ⟨rfl, rfl, .int, rfl, rfl⟩ hv
  · replace hv := hv.2 h
    refine am_xisub 5 (iv M 23 (c * 6 + k)) 1000 (pc := 28) (ls := [.ref 0, .int (zi c), .int (zi k), .int (zi (iv M 23 (c * 6 + k))), .null]) (st := [.ref 15]) rfl ?_
    obtain ⟨g, hv⟩ := hv
    refine am_xc t_Law_code (.invokevirtual 172) 172 (av := [.ref 15, .int (zi ((iv M 23 (c * 6 + k)) - 1000))]) (rest := []) (rv := some (.int (zi (iv M 17 ((iv M 23 (c * 6 + k)) - 1000))))) (M' := M) rfl rfl rfl rfl (Nat.le_of_ble_eq_true rfl) (fun _ => rfl) (sp_l15_code M ((iv M 23 (c * 6 + k)) - 1000) g) ?_
    refine am_xn 0 (c1 := (31, [.ref 0, .int (zi c), .int (zi k), .int (zi (iv M 23 (c * 6 + k))), .null], [.int (zi (iv M 17 ((iv M 23 (c * 6 + k)) - 1000)))], M)) rfl ?_
    refine am_xn 3 (c1 := (if zi (iv M 17 ((iv M 23 (c * 6 + k)) - 1000)) = zi 0 then 38 else 43, [.ref 0, .int (zi c), .int (zi k), .int (zi (iv M 23 (c * 6 + k))), .int (zi (iv M 17 ((iv M 23 (c * 6 + k)) - 1000)))], [], M)) rfl (am_xeq (iv_r _ _ _) (by decide) (fun h => ?_) (fun h => ?_))
    · replace hv := hv.1 h
      refine am_xn 2 (c1 := (49, [.ref 0, .int (zi c), .int (zi k), .int (zi (iv M 23 (c * 6 + k))), .int (zi (iv M 17 ((iv M 23 (c * 6 + k)) - 1000)))], [.int (zi (-5))], M)) rfl ?_
      exact am_xr (some (.int (zi (-5)))) ⟨rfl, rfl, .int, rfl, rfl⟩ hv
    · replace hv := hv.2 h
      refine am_xiadd 3 1000 (iv M 17 ((iv M 23 (c * 6 + k)) - 1000)) (pc := 49) (ls := [.ref 0, .int (zi c), .int (zi k), .int (zi (iv M 23 (c * 6 + k))), .int (zi (iv M 17 ((iv M 23 (c * 6 + k)) - 1000)))]) (st := []) rfl ?_
      exact am_xr (some (.int (zi (1000 + (iv M 17 ((iv M 23 (c * 6 + k)) - 1000)))))) ⟨rfl, rfl, .int, rfl, rfl⟩ hv
set_option maxRecDepth 100000 in
theorem vc_l15_indexOf (x : Int) (M : am_M) (Q : Option Value → am_M → Prop) (hv : am_x t_Law_indexOf (2, [.ref 15, .int (zi x), .int (zi 0)], [], M) Q) : am_x t_Law_indexOf (0, am_ent (am_mL t_Law_indexOf) [.ref 15, .int (zi x)], [], M) Q := by
  refine am_xn 0 (c1 := (0, [.ref 15, .int (zi x), .null], [], M)) rfl ?_
  refine am_xn 2 (c1 := (2, [.ref 15, .int (zi x), .int (zi 0)], [], M)) rfl ?_
  exact hv
set_option maxRecDepth 100000 in
theorem vc_l15_indexOf_2 (x1 : Int) (x2 : Int) (M : am_M) (Q : Option Value → am_M → Prop) (hv : zr x2 ∧ ((x2 < (iv M 15 9) → (0 ≤ x2 ∧ x2 < 40) ∧ ((0 ≤ (iv M 25 x2) ∧ (iv M 25 x2) < 40) ∧ (zr x1 ∧ (((iv M 17 (iv M 25 x2)) = x1 → Q (some (.int (zi x2))) M) ∧ (¬ (iv M 17 (iv M 25 x2)) = x1 → am_x t_Law_indexOf (2, [.ref 15, .int (zi x1), .int (zi (x2 + 1))], [], M) Q))))) ∧ ((iv M 15 9) ≤ x2 → Q (some (.int (zi (-1)))) M))) : am_x t_Law_indexOf (2, [.ref 15, .int (zi x1), .int (zi x2)], [], M) Q := by
  refine am_xrd 3 15 9 (pc := 7) (ls := [.ref 15, .int (zi x1), .int (zi x2)]) (st := [.int (zi x2)]) rfl ?_
  obtain ⟨r1, hv⟩ := hv
  refine am_xn 1 (c1 := (if zi x2 < zi (iv M 15 9) then 10 else 31, [.ref 15, .int (zi x1), .int (zi x2)], [], M)) rfl (am_xlt r1 (iv_r _ _ _) (fun h => ?_) (fun h => ?_))
  · replace hv := hv.1 h
    refine am_xn 3 (c1 := (13, [.ref 15, .int (zi x1), .int (zi x2)], [.int (zi x2), .ref 15, .ref 15], M)) rfl ?_
    obtain ⟨g, hv⟩ := hv
    refine am_xc t_Law_at (.invokevirtual 120) 120 (av := [.ref 15, .int (zi x2)]) (rest := [.ref 15]) (rv := some (.int (zi (iv M 25 x2)))) (M' := M) rfl rfl rfl rfl (Nat.le_of_ble_eq_true rfl) (fun _ => rfl) (sp_l15_at M x2 g) ?_
    refine am_xn 0 (c1 := (16, [.ref 15, .int (zi x1), .int (zi x2)], [.int (zi (iv M 25 x2)), .ref 15], M)) rfl ?_
    obtain ⟨g, hv⟩ := hv
    refine am_xc t_Law_code (.invokevirtual 123) 123 (av := [.ref 15, .int (zi (iv M 25 x2))]) (rest := []) (rv := some (.int (zi (iv M 17 (iv M 25 x2))))) (M' := M) rfl rfl rfl rfl (Nat.le_of_ble_eq_true rfl) (fun _ => rfl) (sp_l15_code M (iv M 25 x2) g) ?_
    refine am_xn 0 (c1 := (19, [.ref 15, .int (zi x1), .int (zi x2)], [.int (zi (iv M 17 (iv M 25 x2)))], M)) rfl ?_
    obtain ⟨r2, hv⟩ := hv
    refine am_xn 2 (c1 := (if zi (iv M 17 (iv M 25 x2)) = zi x1 then 23 else 25, [.ref 15, .int (zi x1), .int (zi x2)], [], M)) rfl (am_xeq (iv_r _ _ _) r2 (fun h => ?_) (fun h => ?_))
    · replace hv := hv.1 h
      refine am_xn 1 (c1 := (24, [.ref 15, .int (zi x1), .int (zi x2)], [.int (zi x2)], M)) rfl ?_
      exact am_xr (some (.int (zi x2))) ⟨rfl, rfl, .int, rfl, rfl⟩ hv
    · replace hv := hv.2 h
      refine am_xn 1 (c1 := (28, [.ref 15, .int (zi x1), .int (zi x2 + zi 1)], [], M)) rfl ?_
      rw [zi_add]
      refine am_xn 1 (c1 := (2, [.ref 15, .int (zi x1), .int (zi (x2 + 1))], [], M)) rfl ?_
      exact hv
  · replace hv := hv.2 h
    refine am_xn 1 (c1 := (32, [.ref 15, .int (zi x1), .int (zi x2)], [.int (zi (-1))], M)) rfl ?_
    exact am_xr (some (.int (zi (-1)))) ⟨rfl, rfl, .int, rfl, rfl⟩ hv
def abt (L : Lw) (c w : Int) : Int := if w = 0 then L.code c else if w = 1 then c else if w = 2 then L.len c else L.lst c
theorem sp_clausePart {L : Lw} {M : am_M} (r : CLR15 L M) {c w : Int} (c0 : 0 ≤ c) (c1 : c < 40) (n : ¬ L.code c = 0) (wz : zr w) : am_call t_SB_clausePart [.ref 0, .int (zi c), .int (zi w)] M (some (.int (zi (abt L c w)))) M := by
  obtain ⟨e2, e3, _⟩ := r.2.1 c c0 c1 n
  have e1 := r.1 c c0 c1
  refine am_call_of ⟨Nat.le_of_ble_eq_true rfl, rfl⟩ (vc_clausePart c w M _ ⟨wz, fun h => ⟨⟨c0, c1⟩, ?_, rfl⟩, fun h => ⟨?_, rfl⟩, fun h => ⟨⟨c0, c1⟩, ?_, rfl⟩, fun h h' h'' => ⟨⟨c0, c1⟩, ?_, rfl⟩⟩)
  · rw [e1, abt, if_pos h]
  · rw [abt, if_neg (by omega), if_pos h]
  · rw [e2, abt, if_neg (by omega), if_neg (by omega), if_pos h]
  · rw [e3, abt, if_neg h, if_neg h', if_neg h'']
theorem sp_presentWord {L : Lw} {M : am_M} (v : VL L) (r : CLR15 L M) {c k : Int} (c0 : 0 ≤ c) (c1 : c < 40) (n : ¬ L.code c = 0) (k0 : 0 ≤ k) (k1 : k < L.len c) : am_call t_SB_presentWord [.ref 0, .int (zi c), .int (zi k)] M (some (.int (zi (tw L c k)))) M := by
  have ln := v.ln c c0 c1 n
  have e := (r.2.1 c c0 c1 n).2.2 k k0 k1
  have wt := v.wt c k c0 c1 n k0 k1
  refine am_call_of ⟨Nat.le_of_ble_eq_true rfl, rfl⟩ (vc_presentWord c k M _ ⟨⟨c0, c1, k0, by omega⟩, ?_⟩)
  rw [e]
  refine ⟨fun q => ⟨by rw [tw, if_pos q], rfl⟩, fun q => ⟨⟨by omega, by omega⟩, ?_⟩⟩
  rw [r.1 _ (by omega) (by omega)]
  exact ⟨fun z => ⟨by rw [tw, if_neg (by omega), if_pos z], rfl⟩, fun z => ⟨by rw [tw, if_neg (by omega), if_neg z], rfl⟩⟩
theorem sp_l15_indexOf {L : Lw} {M : am_M} (v : VL L) (r : CLR15 L M) (od : ORD L (iv M 25) 40 (iv M 15 9)) {x : Int} (hx : ¬ x = 0) (xz : zr x) : am_call t_Law_indexOf [.ref 15, .int (zi x)] M (some (.int (zi (if hold L x = -1 then -1 else rank L (hold L x))))) M := by
  have n40 := frc40 L
  have en := od.1
  refine am_call_of ⟨Nat.le_of_ble_eq_true rfl, rfl⟩ (vc_l15_indexOf x M _ ?_)
  refine loop_up (fun i (s : Int) => (2, [.ref 15, .int (zi x), .int (zi i)], [], M)) (iv M 15 9) (fun i s => ∀ j, 0 ≤ j → j < i → ¬ L.code (iv M 25 j) = x) ?_ ?_ 0 0 (by omega) (by omega) (fun j j0 j1 => by omega)
  · intro s hs
    refine vc_l15_indexOf_2 _ _ M _ ⟨iv_r _ _ _, fun h => by omega, fun _ => ⟨?_, rfl⟩⟩
    have : hold L x = -1 := by
      by_cases q : hold L x = -1
      · exact q
      · have hc := hold_cd q
        obtain ⟨j, j0, j1, j2⟩ := od.2.2.2 _ hc.1 hc.2.1 (by rw [hc.2.2]; exact hx)
        exact absurd (by rw [j2]; exact hc.2.2) (hs j j0 j1)
    rw [if_pos this]
  · intro i s i0 i1 hs k
    have oi := od.2.1 i i0 i1
    refine vc_l15_indexOf_2 _ _ M _ ⟨⟨by omega, by omega⟩, fun _ => ⟨⟨i0, by omega⟩, ⟨oi.1, oi.2.1⟩, xz, ?_⟩, fun h => by omega⟩
    rw [r.1 _ oi.1 oi.2.1]
    refine ⟨fun q => ⟨?_, rfl⟩, fun q => k s (fun j j0 j1 => ?_)⟩
    · have e := hold_eq v hx (Or.inr ⟨oi.1, oi.2.1, q⟩)
      rw [← e, if_neg (by omega), rank_ord od i0 i1]
    · by_cases e : j = i
      · rw [e]; exact q
      · exact hs j j0 (by omega)
set_option maxRecDepth 100000 in
theorem vc_c_clauses (d : Int) (e : Int) (M : am_M) (Q : Option Value → am_M → Prop) (hv : (zr d ∧ zr e) ∧ (((0 ≤ d ∧ d ≤ 9999) ∧ (e = -1 ∨ (0 ≤ e ∧ e ≤ 9999)) → ∃ M1, am_call t_SB_consolidate [.ref 0, .int (zi d), .int (zi e)] M none M1 ∧ (Q (some (.int (zi (iv M1 15 9)))) M1)) ∧ (¬ ((0 ≤ d ∧ d ≤ 9999) ∧ (e = -1 ∨ (0 ≤ e ∧ e ≤ 9999))) → Q (some (.int (zi (-2)))) M))) : am_x t_SB_clauses (0, am_ent (am_mL t_SB_clauses) [.ref 0, .int (zi d), .int (zi e)], [], M) Q := by
  refine am_xn 0 (c1 := (0, [.ref 0, .int (zi d), .int (zi e)], [], M)) rfl ?_
  refine am_xn 2 (c1 := (2, [.ref 0, .int (zi d), .int (zi e)], [.int (zi e), .int (zi d)], M)) rfl ?_
  obtain ⟨g, hv⟩ := hv
  by_cases c2 : (0 ≤ d ∧ d ≤ 9999) ∧ (e = -1 ∨ (0 ≤ e ∧ e ≤ 9999))
  · replace hv := hv.1 c2
    refine am_xc t_SB_isLaw (.invokestatic 159) 159 (av := [.int (zi d), .int (zi e)]) (rest := []) (rv := some (.int (zi 1))) (M' := M) rfl rfl rfl rfl (Nat.le_of_ble_eq_true rfl) (fun h => nomatch h) (by have q := sp_isLaw M d e g; rwa [if_pos c2] at q) ?_
    refine am_xn 0 (c1 := (5, [.ref 0, .int (zi d), .int (zi e)], [.int (zi 1)], M)) rfl ?_
    refine am_xn 4 (c1 := (14, [.ref 0, .int (zi d), .int (zi e)], [.int (zi e), .int (zi d), .ref 0], M)) rfl ?_
    obtain ⟨M1, hc, hv⟩ := hv
    refine am_xc t_SB_consolidate (.invokevirtual 162) 162 (av := [.ref 0, .int (zi d), .int (zi e)]) (rest := []) (rv := none) (M' := M1) rfl rfl rfl rfl (Nat.le_of_ble_eq_true rfl) (fun _ => rfl) (hc) ?_
    refine am_xn 0 (c1 := (17, [.ref 0, .int (zi d), .int (zi e)], [], M1)) rfl ?_
    refine am_xn 2 (c1 := (21, [.ref 0, .int (zi d), .int (zi e)], [.ref 15], M1)) rfl ?_
    refine am_xc t_Law_size (.invokevirtual 165) 165 (av := [.ref 15]) (rest := []) (rv := some (.int (zi (iv M1 15 9)))) (M' := M1) rfl rfl rfl rfl (Nat.le_of_ble_eq_true rfl) (fun _ => rfl) (sp_l15_size M1) ?_
    refine am_xn 0 (c1 := (24, [.ref 0, .int (zi d), .int (zi e)], [.int (zi (iv M1 15 9))], M1)) rfl ?_
    exact am_xr (some (.int (zi (iv M1 15 9)))) ⟨rfl, rfl, .int, rfl, rfl⟩ hv
  · replace hv := hv.2 c2
    refine am_xc t_SB_isLaw (.invokestatic 159) 159 (av := [.int (zi d), .int (zi e)]) (rest := []) (rv := some (.int (zi 0))) (M' := M) rfl rfl rfl rfl (Nat.le_of_ble_eq_true rfl) (fun h => nomatch h) (by have q := sp_isLaw M d e g; rwa [if_neg c2] at q) ?_
    refine am_xn 0 (c1 := (5, [.ref 0, .int (zi d), .int (zi e)], [.int (zi 0)], M)) rfl ?_
    refine am_xn 2 (c1 := (10, [.ref 0, .int (zi d), .int (zi e)], [.int (zi (-2))], M)) rfl ?_
    exact am_xr (some (.int (zi (-2)))) ⟨rfl, rfl, .int, rfl, rfl⟩ hv
set_option maxRecDepth 100000 in
theorem vc_c_clause (d : Int) (e : Int) (i : Int) (w : Int) (M : am_M) (Q : Option Value → am_M → Prop) (hv : (zr d ∧ zr e) ∧ (((0 ≤ d ∧ d ≤ 9999) ∧ (e = -1 ∨ (0 ≤ e ∧ e ≤ 9999)) → (zr w ∧ zr (3 : Int)) ∧ ((0 ≤ w ∧ w ≤ 3 → ∃ M1, am_call t_SB_consolidate [.ref 0, .int (zi d), .int (zi e)] M none M1 ∧ (zr i ∧ ((i < 0 → Q (some (.int (zi (-2)))) M1) ∧ (0 ≤ i → (i < (iv M1 15 9) → (0 ≤ i ∧ i < 40) ∧ (∃ (r4 : Int) (M3 : am_M), am_call t_SB_clausePart [.ref 0, .int (zi (iv M1 25 i)), .int (zi w)] M1 (some (.int (zi r4))) M3 ∧ (Q (some (.int (zi r4))) M3))) ∧ ((iv M1 15 9) ≤ i → Q (some (.int (zi (-2)))) M1))))) ∧ (¬ (0 ≤ w ∧ w ≤ 3) → Q (some (.int (zi (-2)))) M))) ∧ (¬ ((0 ≤ d ∧ d ≤ 9999) ∧ (e = -1 ∨ (0 ≤ e ∧ e ≤ 9999))) → Q (some (.int (zi (-2)))) M))) : am_x t_SB_clause (0, am_ent (am_mL t_SB_clause) [.ref 0, .int (zi d), .int (zi e), .int (zi i), .int (zi w)], [], M) Q := by
  refine am_xn 0 (c1 := (0, [.ref 0, .int (zi d), .int (zi e), .int (zi i), .int (zi w)], [], M)) rfl ?_
  refine am_xn 2 (c1 := (2, [.ref 0, .int (zi d), .int (zi e), .int (zi i), .int (zi w)], [.int (zi e), .int (zi d)], M)) rfl ?_
  obtain ⟨g, hv⟩ := hv
  by_cases c6 : (0 ≤ d ∧ d ≤ 9999) ∧ (e = -1 ∨ (0 ≤ e ∧ e ≤ 9999))
  · replace hv := hv.1 c6
    refine am_xc t_SB_isLaw (.invokestatic 159) 159 (av := [.int (zi d), .int (zi e)]) (rest := []) (rv := some (.int (zi 1))) (M' := M) rfl rfl rfl rfl (Nat.le_of_ble_eq_true rfl) (fun h => nomatch h) (by have q := sp_isLaw M d e g; rwa [if_pos c6] at q) ?_
    refine am_xn 0 (c1 := (5, [.ref 0, .int (zi d), .int (zi e), .int (zi i), .int (zi w)], [.int (zi 1)], M)) rfl ?_
    refine am_xn 3 (c1 := (11, [.ref 0, .int (zi d), .int (zi e), .int (zi i), .int (zi w)], [.int (zi 3), .int (zi w)], M)) rfl ?_
    obtain ⟨g, hv⟩ := hv
    by_cases c5 : 0 ≤ w ∧ w ≤ 3
    · replace hv := hv.1 c5
      refine am_xc t_SB_within (.invokestatic 56) 56 (av := [.int (zi w), .int (zi 3)]) (rest := []) (rv := some (.int (zi 1))) (M' := M) rfl rfl rfl rfl (Nat.le_of_ble_eq_true rfl) (fun h => nomatch h) (by have q := sp_within M w 3 g; rwa [if_pos c5] at q) ?_
      refine am_xn 0 (c1 := (14, [.ref 0, .int (zi d), .int (zi e), .int (zi i), .int (zi w)], [.int (zi 1)], M)) rfl ?_
      refine am_xn 4 (c1 := (23, [.ref 0, .int (zi d), .int (zi e), .int (zi i), .int (zi w)], [.int (zi e), .int (zi d), .ref 0], M)) rfl ?_
      obtain ⟨M1, hc, hv⟩ := hv
      refine am_xc t_SB_consolidate (.invokevirtual 162) 162 (av := [.ref 0, .int (zi d), .int (zi e)]) (rest := []) (rv := none) (M' := M1) rfl rfl rfl rfl (Nat.le_of_ble_eq_true rfl) (fun _ => rfl) (hc) ?_
      refine am_xn 0 (c1 := (26, [.ref 0, .int (zi d), .int (zi e), .int (zi i), .int (zi w)], [], M1)) rfl ?_
      obtain ⟨r2, hv⟩ := hv
      refine am_xn 2 (c1 := (if zi i < zi 0 then 41 else 30, [.ref 0, .int (zi d), .int (zi e), .int (zi i), .int (zi w)], [], M1)) rfl (am_xlt r2 (by decide) (fun h => ?_) (fun h => ?_))
      · replace hv := hv.1 h
        refine am_xn 2 (c1 := (60, [.ref 0, .int (zi d), .int (zi e), .int (zi i), .int (zi w)], [.int (zi (-2))], M1)) rfl ?_
        exact am_xr (some (.int (zi (-2)))) ⟨rfl, rfl, .int, rfl, rfl⟩ hv
      · replace hv := hv.2 h
        refine am_xn 3 (c1 := (35, [.ref 0, .int (zi d), .int (zi e), .int (zi i), .int (zi w)], [.ref 15, .int (zi i)], M1)) rfl ?_
        refine am_xc t_Law_size (.invokevirtual 165) 165 (av := [.ref 15]) (rest := [.int (zi i)]) (rv := some (.int (zi (iv M1 15 9)))) (M' := M1) rfl rfl rfl rfl (Nat.le_of_ble_eq_true rfl) (fun _ => rfl) (sp_l15_size M1) ?_
        refine am_xn 0 (c1 := (38, [.ref 0, .int (zi d), .int (zi e), .int (zi i), .int (zi w)], [.int (zi (iv M1 15 9)), .int (zi i)], M1)) rfl ?_
        refine am_xn 1 (c1 := (if zi i < zi (iv M1 15 9) then 46 else 41, [.ref 0, .int (zi d), .int (zi e), .int (zi i), .int (zi w)], [], M1)) rfl (am_xlt r2 (iv_r _ _ _) (fun h => ?_) (fun h => ?_))
        · replace hv := hv.1 h
          refine am_xn 4 (c1 := (52, [.ref 0, .int (zi d), .int (zi e), .int (zi i), .int (zi w)], [.int (zi i), .ref 15, .ref 0], M1)) rfl ?_
          obtain ⟨g, hv⟩ := hv
          refine am_xc t_Law_at (.invokevirtual 166) 166 (av := [.ref 15, .int (zi i)]) (rest := [.ref 0]) (rv := some (.int (zi (iv M1 25 i)))) (M' := M1) rfl rfl rfl rfl (Nat.le_of_ble_eq_true rfl) (fun _ => rfl) (sp_l15_at M1 i g) ?_
          refine am_xn 0 (c1 := (55, [.ref 0, .int (zi d), .int (zi e), .int (zi i), .int (zi w)], [.int (zi (iv M1 25 i)), .ref 0], M1)) rfl ?_
          refine am_xn 1 (c1 := (57, [.ref 0, .int (zi d), .int (zi e), .int (zi i), .int (zi w)], [.int (zi w), .int (zi (iv M1 25 i)), .ref 0], M1)) rfl ?_
          obtain ⟨r4, M3, hc, hv⟩ := hv
          refine am_xc t_SB_clausePart (.invokevirtual 169) 169 (av := [.ref 0, .int (zi (iv M1 25 i)), .int (zi w)]) (rest := []) (rv := some (.int (zi r4))) (M' := M3) rfl rfl rfl rfl (Nat.le_of_ble_eq_true rfl) (fun _ => rfl) (hc) ?_
          refine am_xn 0 (c1 := (60, [.ref 0, .int (zi d), .int (zi e), .int (zi i), .int (zi w)], [.int (zi r4)], M3)) rfl ?_
          exact am_xr (some (.int (zi r4))) ⟨rfl, rfl, .int, rfl, rfl⟩ hv
        · replace hv := hv.2 h
          refine am_xn 2 (c1 := (60, [.ref 0, .int (zi d), .int (zi e), .int (zi i), .int (zi w)], [.int (zi (-2))], M1)) rfl ?_
          exact am_xr (some (.int (zi (-2)))) ⟨rfl, rfl, .int, rfl, rfl⟩ hv
    · replace hv := hv.2 c5
      refine am_xc t_SB_within (.invokestatic 56) 56 (av := [.int (zi w), .int (zi 3)]) (rest := []) (rv := some (.int (zi 0))) (M' := M) rfl rfl rfl rfl (Nat.le_of_ble_eq_true rfl) (fun h => nomatch h) (by have q := sp_within M w 3 g; rwa [if_neg c5] at q) ?_
      refine am_xn 0 (c1 := (14, [.ref 0, .int (zi d), .int (zi e), .int (zi i), .int (zi w)], [.int (zi 0)], M)) rfl ?_
      refine am_xn 2 (c1 := (19, [.ref 0, .int (zi d), .int (zi e), .int (zi i), .int (zi w)], [.int (zi (-2))], M)) rfl ?_
      exact am_xr (some (.int (zi (-2)))) ⟨rfl, rfl, .int, rfl, rfl⟩ hv
  · replace hv := hv.2 c6
    refine am_xc t_SB_isLaw (.invokestatic 159) 159 (av := [.int (zi d), .int (zi e)]) (rest := []) (rv := some (.int (zi 0))) (M' := M) rfl rfl rfl rfl (Nat.le_of_ble_eq_true rfl) (fun h => nomatch h) (by have q := sp_isLaw M d e g; rwa [if_neg c6] at q) ?_
    refine am_xn 0 (c1 := (5, [.ref 0, .int (zi d), .int (zi e), .int (zi i), .int (zi w)], [.int (zi 0)], M)) rfl ?_
    refine am_xn 2 (c1 := (19, [.ref 0, .int (zi d), .int (zi e), .int (zi i), .int (zi w)], [.int (zi (-2))], M)) rfl ?_
    exact am_xr (some (.int (zi (-2)))) ⟨rfl, rfl, .int, rfl, rfl⟩ hv
set_option maxRecDepth 100000 in
theorem vc_c_textWord (d : Int) (e : Int) (i : Int) (k : Int) (M : am_M) (Q : Option Value → am_M → Prop) (hv : (zr d ∧ zr e) ∧ (((0 ≤ d ∧ d ≤ 9999) ∧ (e = -1 ∨ (0 ≤ e ∧ e ≤ 9999)) → ∃ M1, am_call t_SB_consolidate [.ref 0, .int (zi d), .int (zi e)] M none M1 ∧ (zr i ∧ ((i < 0 → Q (some (.int (zi (-2)))) M1) ∧ (0 ≤ i → (i < (iv M1 15 9) → zr k ∧ ((k < 0 → Q (some (.int (zi (-2)))) M1) ∧ (0 ≤ k → (0 ≤ i ∧ i < 40) ∧ ((0 ≤ (iv M1 25 i) ∧ (iv M1 25 i) < 40) ∧ ((k < (iv M1 21 (iv M1 25 i)) → (0 ≤ i ∧ i < 40) ∧ (∃ (r5 : Int) (M4 : am_M), am_call t_SB_presentWord [.ref 0, .int (zi (iv M1 25 i)), .int (zi k)] M1 (some (.int (zi r5))) M4 ∧ (Q (some (.int (zi r5))) M4))) ∧ ((iv M1 21 (iv M1 25 i)) ≤ k → Q (some (.int (zi (-2)))) M1)))))) ∧ ((iv M1 15 9) ≤ i → Q (some (.int (zi (-2)))) M1))))) ∧ (¬ ((0 ≤ d ∧ d ≤ 9999) ∧ (e = -1 ∨ (0 ≤ e ∧ e ≤ 9999))) → Q (some (.int (zi (-2)))) M))) : am_x t_SB_textWord (0, am_ent (am_mL t_SB_textWord) [.ref 0, .int (zi d), .int (zi e), .int (zi i), .int (zi k)], [], M) Q := by
  refine am_xn 0 (c1 := (0, [.ref 0, .int (zi d), .int (zi e), .int (zi i), .int (zi k)], [], M)) rfl ?_
  refine am_xn 2 (c1 := (2, [.ref 0, .int (zi d), .int (zi e), .int (zi i), .int (zi k)], [.int (zi e), .int (zi d)], M)) rfl ?_
  obtain ⟨g, hv⟩ := hv
  by_cases c6 : (0 ≤ d ∧ d ≤ 9999) ∧ (e = -1 ∨ (0 ≤ e ∧ e ≤ 9999))
  · replace hv := hv.1 c6
    refine am_xc t_SB_isLaw (.invokestatic 159) 159 (av := [.int (zi d), .int (zi e)]) (rest := []) (rv := some (.int (zi 1))) (M' := M) rfl rfl rfl rfl (Nat.le_of_ble_eq_true rfl) (fun h => nomatch h) (by have q := sp_isLaw M d e g; rwa [if_pos c6] at q) ?_
    refine am_xn 0 (c1 := (5, [.ref 0, .int (zi d), .int (zi e), .int (zi i), .int (zi k)], [.int (zi 1)], M)) rfl ?_
    refine am_xn 4 (c1 := (14, [.ref 0, .int (zi d), .int (zi e), .int (zi i), .int (zi k)], [.int (zi e), .int (zi d), .ref 0], M)) rfl ?_
    obtain ⟨M1, hc, hv⟩ := hv
    refine am_xc t_SB_consolidate (.invokevirtual 162) 162 (av := [.ref 0, .int (zi d), .int (zi e)]) (rest := []) (rv := none) (M' := M1) rfl rfl rfl rfl (Nat.le_of_ble_eq_true rfl) (fun _ => rfl) (hc) ?_
    refine am_xn 0 (c1 := (17, [.ref 0, .int (zi d), .int (zi e), .int (zi i), .int (zi k)], [], M1)) rfl ?_
    obtain ⟨r2, hv⟩ := hv
    refine am_xn 2 (c1 := (if zi i < zi 0 then 57 else 21, [.ref 0, .int (zi d), .int (zi e), .int (zi i), .int (zi k)], [], M1)) rfl (am_xlt r2 (by decide) (fun h => ?_) (fun h => ?_))
    · replace hv := hv.1 h
      refine am_xn 1 (c1 := (59, [.ref 0, .int (zi d), .int (zi e), .int (zi i), .int (zi k)], [.int (zi (-2))], M1)) rfl ?_
      exact am_xr (some (.int (zi (-2)))) ⟨rfl, rfl, .int, rfl, rfl⟩ hv
    · replace hv := hv.2 h
      refine am_xn 3 (c1 := (26, [.ref 0, .int (zi d), .int (zi e), .int (zi i), .int (zi k)], [.ref 15, .int (zi i)], M1)) rfl ?_
      refine am_xc t_Law_size (.invokevirtual 165) 165 (av := [.ref 15]) (rest := [.int (zi i)]) (rv := some (.int (zi (iv M1 15 9)))) (M' := M1) rfl rfl rfl rfl (Nat.le_of_ble_eq_true rfl) (fun _ => rfl) (sp_l15_size M1) ?_
      refine am_xn 0 (c1 := (29, [.ref 0, .int (zi d), .int (zi e), .int (zi i), .int (zi k)], [.int (zi (iv M1 15 9)), .int (zi i)], M1)) rfl ?_
      refine am_xn 1 (c1 := (if zi i < zi (iv M1 15 9) then 32 else 57, [.ref 0, .int (zi d), .int (zi e), .int (zi i), .int (zi k)], [], M1)) rfl (am_xlt r2 (iv_r _ _ _) (fun h => ?_) (fun h => ?_))
      · replace hv := hv.1 h
        obtain ⟨r3, hv⟩ := hv
        refine am_xn 2 (c1 := (if zi k < zi 0 then 57 else 37, [.ref 0, .int (zi d), .int (zi e), .int (zi i), .int (zi k)], [], M1)) rfl (am_xlt r3 (by decide) (fun h => ?_) (fun h => ?_))
        · replace hv := hv.1 h
          refine am_xn 1 (c1 := (59, [.ref 0, .int (zi d), .int (zi e), .int (zi i), .int (zi k)], [.int (zi (-2))], M1)) rfl ?_
          exact am_xr (some (.int (zi (-2)))) ⟨rfl, rfl, .int, rfl, rfl⟩ hv
        · replace hv := hv.2 h
          refine am_xn 6 (c1 := (48, [.ref 0, .int (zi d), .int (zi e), .int (zi i), .int (zi k)], [.int (zi i), .ref 15, .ref 15, .int (zi k)], M1)) rfl ?_
          obtain ⟨g, hv⟩ := hv
          refine am_xc t_Law_at (.invokevirtual 166) 166 (av := [.ref 15, .int (zi i)]) (rest := [.ref 15, .int (zi k)]) (rv := some (.int (zi (iv M1 25 i)))) (M' := M1) rfl rfl rfl rfl (Nat.le_of_ble_eq_true rfl) (fun _ => rfl) (sp_l15_at M1 i g) ?_
          refine am_xn 0 (c1 := (51, [.ref 0, .int (zi d), .int (zi e), .int (zi i), .int (zi k)], [.int (zi (iv M1 25 i)), .ref 15, .int (zi k)], M1)) rfl ?_
          obtain ⟨g, hv⟩ := hv
          refine am_xc t_Law_length (.invokevirtual 175) 175 (av := [.ref 15, .int (zi (iv M1 25 i))]) (rest := [.int (zi k)]) (rv := some (.int (zi (iv M1 21 (iv M1 25 i))))) (M' := M1) rfl rfl rfl rfl (Nat.le_of_ble_eq_true rfl) (fun _ => rfl) (sp_l15_length M1 (iv M1 25 i) g) ?_
          refine am_xn 0 (c1 := (54, [.ref 0, .int (zi d), .int (zi e), .int (zi i), .int (zi k)], [.int (zi (iv M1 21 (iv M1 25 i))), .int (zi k)], M1)) rfl ?_
          refine am_xn 1 (c1 := (if zi k < zi (iv M1 21 (iv M1 25 i)) then 60 else 57, [.ref 0, .int (zi d), .int (zi e), .int (zi i), .int (zi k)], [], M1)) rfl (am_xlt r3 (iv_r _ _ _) (fun h => ?_) (fun h => ?_))
          · replace hv := hv.1 h
            refine am_xn 4 (c1 := (66, [.ref 0, .int (zi d), .int (zi e), .int (zi i), .int (zi k)], [.int (zi i), .ref 15, .ref 0], M1)) rfl ?_
            obtain ⟨g, hv⟩ := hv
            refine am_xc t_Law_at (.invokevirtual 166) 166 (av := [.ref 15, .int (zi i)]) (rest := [.ref 0]) (rv := some (.int (zi (iv M1 25 i)))) (M' := M1) rfl rfl rfl rfl (Nat.le_of_ble_eq_true rfl) (fun _ => rfl) (sp_l15_at M1 i g) ?_
            refine am_xn 0 (c1 := (69, [.ref 0, .int (zi d), .int (zi e), .int (zi i), .int (zi k)], [.int (zi (iv M1 25 i)), .ref 0], M1)) rfl ?_
            refine am_xn 1 (c1 := (71, [.ref 0, .int (zi d), .int (zi e), .int (zi i), .int (zi k)], [.int (zi k), .int (zi (iv M1 25 i)), .ref 0], M1)) rfl ?_
            obtain ⟨r5, M4, hc, hv⟩ := hv
            refine am_xc t_SB_presentWord (.invokevirtual 181) 181 (av := [.ref 0, .int (zi (iv M1 25 i)), .int (zi k)]) (rest := []) (rv := some (.int (zi r5))) (M' := M4) rfl rfl rfl rfl (Nat.le_of_ble_eq_true rfl) (fun _ => rfl) (hc) ?_
            refine am_xn 0 (c1 := (74, [.ref 0, .int (zi d), .int (zi e), .int (zi i), .int (zi k)], [.int (zi r5)], M4)) rfl ?_
            exact am_xr (some (.int (zi r5))) ⟨rfl, rfl, .int, rfl, rfl⟩ hv
          · replace hv := hv.2 h
            refine am_xn 1 (c1 := (59, [.ref 0, .int (zi d), .int (zi e), .int (zi i), .int (zi k)], [.int (zi (-2))], M1)) rfl ?_
            exact am_xr (some (.int (zi (-2)))) ⟨rfl, rfl, .int, rfl, rfl⟩ hv
      · replace hv := hv.2 h
        refine am_xn 1 (c1 := (59, [.ref 0, .int (zi d), .int (zi e), .int (zi i), .int (zi k)], [.int (zi (-2))], M1)) rfl ?_
        exact am_xr (some (.int (zi (-2)))) ⟨rfl, rfl, .int, rfl, rfl⟩ hv
  · replace hv := hv.2 c6
    refine am_xc t_SB_isLaw (.invokestatic 159) 159 (av := [.int (zi d), .int (zi e)]) (rest := []) (rv := some (.int (zi 0))) (M' := M) rfl rfl rfl rfl (Nat.le_of_ble_eq_true rfl) (fun h => nomatch h) (by have q := sp_isLaw M d e g; rwa [if_neg c6] at q) ?_
    refine am_xn 0 (c1 := (5, [.ref 0, .int (zi d), .int (zi e), .int (zi i), .int (zi k)], [.int (zi 0)], M)) rfl ?_
    refine am_xn 2 (c1 := (10, [.ref 0, .int (zi d), .int (zi e), .int (zi i), .int (zi k)], [.int (zi (-2))], M)) rfl ?_
    exact am_xr (some (.int (zi (-2)))) ⟨rfl, rfl, .int, rfl, rfl⟩ hv
set_option maxRecDepth 100000 in
theorem vc_c_find (d : Int) (e : Int) (x : Int) (M : am_M) (Q : Option Value → am_M → Prop) (hv : (zr d ∧ zr e) ∧ (((0 ≤ d ∧ d ≤ 9999) ∧ (e = -1 ∨ (0 ≤ e ∧ e ≤ 9999)) → (zr x) ∧ ((isCd x → ∃ M1, am_call t_SB_consolidate [.ref 0, .int (zi d), .int (zi e)] M none M1 ∧ (∃ (r3 : Int) (M2 : am_M), am_call t_Law_indexOf [.ref 15, .int (zi x)] M1 (some (.int (zi r3))) M2 ∧ (Q (some (.int (zi r3))) M2))) ∧ (¬ (isCd x) → Q (some (.int (zi (-2)))) M))) ∧ (¬ ((0 ≤ d ∧ d ≤ 9999) ∧ (e = -1 ∨ (0 ≤ e ∧ e ≤ 9999))) → Q (some (.int (zi (-2)))) M))) : am_x t_SB_find (0, am_ent (am_mL t_SB_find) [.ref 0, .int (zi d), .int (zi e), .int (zi x)], [], M) Q := by
  refine am_xn 0 (c1 := (0, [.ref 0, .int (zi d), .int (zi e), .int (zi x)], [], M)) rfl ?_
  refine am_xn 2 (c1 := (2, [.ref 0, .int (zi d), .int (zi e), .int (zi x)], [.int (zi e), .int (zi d)], M)) rfl ?_
  obtain ⟨g, hv⟩ := hv
  by_cases c5 : (0 ≤ d ∧ d ≤ 9999) ∧ (e = -1 ∨ (0 ≤ e ∧ e ≤ 9999))
  · replace hv := hv.1 c5
    refine am_xc t_SB_isLaw (.invokestatic 159) 159 (av := [.int (zi d), .int (zi e)]) (rest := []) (rv := some (.int (zi 1))) (M' := M) rfl rfl rfl rfl (Nat.le_of_ble_eq_true rfl) (fun h => nomatch h) (by have q := sp_isLaw M d e g; rwa [if_pos c5] at q) ?_
    refine am_xn 0 (c1 := (5, [.ref 0, .int (zi d), .int (zi e), .int (zi x)], [.int (zi 1)], M)) rfl ?_
    refine am_xn 2 (c1 := (9, [.ref 0, .int (zi d), .int (zi e), .int (zi x)], [.int (zi x)], M)) rfl ?_
    obtain ⟨g, hv⟩ := hv
    by_cases c4 : isCd x
    · replace hv := hv.1 c4
      refine am_xc t_SB_isCode (.invokestatic 187) 187 (av := [.int (zi x)]) (rest := []) (rv := some (.int (zi 1))) (M' := M) rfl rfl rfl rfl (Nat.le_of_ble_eq_true rfl) (fun h => nomatch h) (by have q := sp_c_isCode M x g; rwa [if_pos c4] at q) ?_
      refine am_xn 0 (c1 := (12, [.ref 0, .int (zi d), .int (zi e), .int (zi x)], [.int (zi 1)], M)) rfl ?_
      refine am_xn 4 (c1 := (21, [.ref 0, .int (zi d), .int (zi e), .int (zi x)], [.int (zi e), .int (zi d), .ref 0], M)) rfl ?_
      obtain ⟨M1, hc, hv⟩ := hv
      refine am_xc t_SB_consolidate (.invokevirtual 162) 162 (av := [.ref 0, .int (zi d), .int (zi e)]) (rest := []) (rv := none) (M' := M1) rfl rfl rfl rfl (Nat.le_of_ble_eq_true rfl) (fun _ => rfl) (hc) ?_
      refine am_xn 0 (c1 := (24, [.ref 0, .int (zi d), .int (zi e), .int (zi x)], [], M1)) rfl ?_
      refine am_xn 3 (c1 := (29, [.ref 0, .int (zi d), .int (zi e), .int (zi x)], [.int (zi x), .ref 15], M1)) rfl ?_
      obtain ⟨r3, M2, hc, hv⟩ := hv
      refine am_xc t_Law_indexOf (.invokevirtual 190) 190 (av := [.ref 15, .int (zi x)]) (rest := []) (rv := some (.int (zi r3))) (M' := M2) rfl rfl rfl rfl (Nat.le_of_ble_eq_true rfl) (fun _ => rfl) (hc) ?_
      refine am_xn 0 (c1 := (32, [.ref 0, .int (zi d), .int (zi e), .int (zi x)], [.int (zi r3)], M2)) rfl ?_
      exact am_xr (some (.int (zi r3))) ⟨rfl, rfl, .int, rfl, rfl⟩ hv
    · replace hv := hv.2 c4
      refine am_xc t_SB_isCode (.invokestatic 187) 187 (av := [.int (zi x)]) (rest := []) (rv := some (.int (zi 0))) (M' := M) rfl rfl rfl rfl (Nat.le_of_ble_eq_true rfl) (fun h => nomatch h) (by have q := sp_c_isCode M x g; rwa [if_neg c4] at q) ?_
      refine am_xn 0 (c1 := (12, [.ref 0, .int (zi d), .int (zi e), .int (zi x)], [.int (zi 0)], M)) rfl ?_
      refine am_xn 2 (c1 := (17, [.ref 0, .int (zi d), .int (zi e), .int (zi x)], [.int (zi (-2))], M)) rfl ?_
      exact am_xr (some (.int (zi (-2)))) ⟨rfl, rfl, .int, rfl, rfl⟩ hv
  · replace hv := hv.2 c5
    refine am_xc t_SB_isLaw (.invokestatic 159) 159 (av := [.int (zi d), .int (zi e)]) (rest := []) (rv := some (.int (zi 0))) (M' := M) rfl rfl rfl rfl (Nat.le_of_ble_eq_true rfl) (fun h => nomatch h) (by have q := sp_isLaw M d e g; rwa [if_neg c5] at q) ?_
    refine am_xn 0 (c1 := (5, [.ref 0, .int (zi d), .int (zi e), .int (zi x)], [.int (zi 0)], M)) rfl ?_
    refine am_xn 2 (c1 := (17, [.ref 0, .int (zi d), .int (zi e), .int (zi x)], [.int (zi (-2))], M)) rfl ?_
    exact am_xr (some (.int (zi (-2)))) ⟨rfl, rfl, .int, rfl, rfl⟩ hv
