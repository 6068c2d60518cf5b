/-! both laws, as the calls ask for them -/
theorem nkf_congr {b b' off off' : Int → Int} {day last : Int} : ∀ k : Nat, (∀ a : Int, 0 ≤ a → a < k → off a = off' a ∧ b (1 + a) = b' (1 + a)) → nkf b off day last k = nkf b' off' day last k := by
  intro k
  induction k with
  | zero => intro _; rfl
  | succ k ih =>
    intro h
    have e := ih (fun a a0 a1 => h a a0 (by omega))
    have e2 := h k (by omega) (by omega)
    unfold nkf
    unfold du ky
    rw [e, e2.1, e2.2]
theorem crf_congr {b off off' : Int → Int} {day cas : Int} (h : ∀ a, 0 ≤ a → a < b 0 → off a = off' a) : ∀ (f : Nat) (last : Int) (L : Lw), crf b off day cas f last L = crf b off' day cas f last L := by
  intro f
  induction f with
  | zero => intro _ _; rfl
  | succ f ih =>
    intro last L
    have e : nk b off day last = nk b off' day last := nkf_congr _ (fun a a0 a1 => ⟨h a a0 (by omega), rfl⟩)
    unfold crf
    rw [e]
    split
    · rfl
    · exact ih _ _
theorem con_congr {b off off' : Int → Int} (h : ∀ a, 0 ≤ a → a < b 0 → off a = off' a) (day cas : Int) : con b off day cas = con b off' day cas := crf_congr h _ _ _
def rvk (b : Int → Int) : Int → Int := fun a => b (21 + a)
noncomputable def lw (b : Int → Int) (day cas : Int) : Lw := con b (rvk b) day cas
theorem lw_VL {b : Int → Int} (w : WB b) (day cas : Int) : VL (lw b day cas) := (con_is w).1.1
def CBR (c b : Int → Int) : Prop := CB c b ∧ (0 ≤ c 3 ∧ c 3 < 1048576) ∧ ∀ a, 0 ≤ a → a < 20 → zand (zshr (c 3) a) 1 = if a < b 0 then b (21 + a) else 0
theorem zsum_swap (g : Int → Int → Int) (n : Nat) : ∀ m : Nat, zsum (fun i => zsum (fun j => g i j) n) m = zsum (fun j => zsum (fun i => g i j) m) n := by
  intro m
  induction m with
  | zero =>
    show 0 = zsum (fun _ => 0) n
    induction n with
    | zero => rfl
    | succ n ih => show 0 = zsum (fun _ => 0) n + 0; omega
  | succ m ih =>
    show zsum _ m + zsum (fun j => g m j) n = zsum (fun j => zsum (fun i => g i j) m + g m j) n
    rw [zsum_add, ih]
theorem sm_swap (g : Int → Int → Int) (m n : Int) : sm (fun i => sm (fun j => g i j) n) m = sm (fun j => sm (fun i => g i j) m) n := zsum_swap g _ _
theorem sm_zero (n : Int) : sm (fun _ => 0) n = 0 := by
  have h1 := sm_nn (fun _ => 0) n (fun _ _ _ => Int.le_refl _)
  obtain ⟨k, hk⟩ : ∃ k : Nat, k = n.toNat := ⟨_, rfl⟩
  unfold sm at h1 ⊢
  rw [← hk] at h1 ⊢
  clear h1 hk
  induction k with
  | zero => rfl
  | succ k ih => show zsum _ k + 0 = 0; omega
theorem sm_mulc (c : Int) (f : Int → Int) (n : Int) : sm (fun i => if c = 0 then 0 else f i) n = if c = 0 then 0 else sm f n := by
  by_cases h : c = 0
  · rw [if_pos h]
    have : (fun i => if c = 0 then 0 else f i) = fun _ => 0 := by funext i; rw [if_pos h]
    rw [this, sm_zero]
  · rw [if_neg h]
    have : (fun i => if c = 0 then 0 else f i) = f := by funext i; rw [if_neg h]
    rw [this]
/-- a sum over the clauses in force, in any order -/
theorem sum_ord {L : Lw} {f : Int → Int} {m n : Int} (h : ORD L f m n) (hm : 0 ≤ m) (g : Int → Int) (hg : ∀ c, 0 ≤ c → c < m → L.code c = 0 → g c = 0) : sm g m = sm (fun j => g (f j)) n := by
  obtain ⟨h1, h2, h3, h4⟩ := h
  have inj : ∀ i j, 0 ≤ i → i < n → 0 ≤ j → j < n → f i = f j → i = j := by
    intro i j i0 i1 j0 j1 e
    by_cases a : i < j
    · have := h3 i j i0 a j1; rw [e] at this; omega
    · by_cases c : j < i
      · have := h3 j i j0 c i1; rw [e] at this; omega
      · omega
  have e1 : sm g m = sm (fun c => sm (fun j => if f j = c then g c else 0) n) m := by
    refine sm_congr (fun c c0 c1 => ?_)
    by_cases q : L.code c = 0
    · rw [hg c c0 c1 q]
      have : (fun j => if f j = c then (0 : Int) else 0) = fun _ => 0 := by funext j; split <;> rfl
      rw [this, sm_zero]
    · obtain ⟨j0, a0, a1, a2⟩ := h4 c c0 c1 q
      have : sm (fun j => if f j = c then g c else 0) n = sm (fun j => if j = j0 then g c else 0) n := sm_congr (fun j b0 b1 => by
        by_cases z : j = j0
        · rw [z, a2, if_pos rfl, if_pos rfl]
        · rw [if_neg (fun y => z (inj j j0 b0 b1 a0 a1 (y.trans a2.symm))), if_neg z])
      rw [this, sm_pt j0 _ a0 a1]
  rw [e1, sm_swap]
  refine sm_congr (fun j j0 j1 => ?_)
  have z := h2 j j0 j1
  have : sm (fun c => if f j = c then g c else 0) m = sm (fun c => if c = f j then g (f j) else 0) m := sm_congr (fun c _ _ => by
    by_cases y : f j = c
    · rw [if_pos y, if_pos y.symm, y]
    · rw [if_neg y, if_neg (fun u => y u.symm)])
  rw [this, sm_pt (f j) _ z.1 z.2.1]
def rank (L : Lw) (c : Int) : Int := sm (fun k => if ¬ L.code k = 0 ∧ L.code k < L.code c then 1 else 0) 40
theorem sm_lt (n i : Int) (h0 : 0 ≤ i) (h1 : i ≤ n) : sm (fun j => if j < i then 1 else 0) n = i := by
  have key : ∀ k : Nat, sm (fun j => if j < i then 1 else 0) k = if (k : Int) ≤ i then (k : Int) else i := by
    intro k
    induction k with
    | zero => rw [if_pos (by omega)]; rfl
    | succ k ih =>
      show sm _ ((k : Int) + 1) = _
      rw [sm_s _ (by omega), ih]
      show (if (k : Int) ≤ i then (k : Int) else i) + (if (k : Int) < i then 1 else 0) = _
      repeat' split
      all_goals omega
  have := key n.toNat
  rw [show ((n.toNat : Nat) : Int) = n by omega] at this
  rw [this]
  split <;> omega
theorem rank_ord {L : Lw} {f : Int → Int} {n : Int} (h : ORD L f 40 n) {i : Int} (i0 : 0 ≤ i) (i1 : i < n) : rank L (f i) = i := by
  have e := sum_ord h (by omega) (fun k => if ¬ L.code k = 0 ∧ L.code k < L.code (f i) then 1 else 0) (fun c _ _ q => if_neg (fun z => z.1 q))
  unfold rank
  rw [e]
  have e2 : sm (fun j => if ¬ L.code (f j) = 0 ∧ L.code (f j) < L.code (f i) then 1 else 0) n = sm (fun j => if j < i then 1 else 0) n := sm_congr (fun j j0 j1 => by
    by_cases z : j < i
    · rw [if_pos z, if_pos ⟨(h.2.1 j j0 j1).2.2, h.2.2.1 j i j0 z i1⟩]
    · rw [if_neg z, if_neg (fun y => by
        by_cases u : j = i
        · rw [u] at y; omega
        · have := h.2.2.1 i j i0 (by omega) j1; omega)])
  rw [e2, sm_lt n i i0 (by omega)]
/-- the clause with a place in the order of codes -/
def isAt (L : Lw) (i c : Int) : Prop := (c = -1 ∧ ∀ x, 0 ≤ x → x < 40 → ¬ L.code x = 0 → ¬ rank L x = i) ∨ (0 ≤ c ∧ c < 40 ∧ ¬ L.code c = 0 ∧ rank L c = i)
theorem ORD_at {L : Lw} {f : Int → Int} {n : Int} (h : ORD L f 40 n) (i : Int) : isAt L i (if 0 ≤ i ∧ i < n then f i else -1) := by
  by_cases q : 0 ≤ i ∧ i < n
  · rw [if_pos q]
    have := h.2.1 i q.1 q.2
    exact Or.inr ⟨this.1, this.2.1, this.2.2, rank_ord h q.1 q.2⟩
  · rw [if_neg q]
    refine Or.inl ⟨rfl, fun x x0 x1 x2 e => ?_⟩
    obtain ⟨j, j0, j1, j2⟩ := h.2.2.2 x x0 x1 x2
    have := rank_ord h j0 j1
    rw [j2] at this
    exact q ⟨by omega, by omega⟩
theorem rank_inj {L : Lw} (v : VL L) {c d : Int} (c0 : 0 ≤ c) (c1 : c < 40) (d0 : 0 ≤ d) (d1 : d < 40) (nc : ¬ L.code c = 0) (nd : ¬ L.code d = 0) (h : rank L c = rank L d) : c = d := by
  have key : ∀ x y, 0 ≤ x → x < 40 → ¬ L.code x = 0 → L.code x < L.code y → rank L x < rank L y := by
    intro x y x0 x1 nx hl
    have h4 := sm_le (fun k => (if ¬ L.code k = 0 ∧ L.code k < L.code x then 1 else 0) + (if k = x then 1 else 0)) (fun k => if ¬ L.code k = 0 ∧ L.code k < L.code y then 1 else 0) 40 (fun i _ _ => by
      show (if ¬ L.code i = 0 ∧ L.code i < L.code x then (1 : Int) else 0) + (if i = x then 1 else 0) ≤ if ¬ L.code i = 0 ∧ L.code i < L.code y then 1 else 0
      by_cases e : i = x
      · subst e
        rw [if_neg (by omega), if_pos rfl, if_pos ⟨nx, hl⟩]; omega
      · rw [if_neg e]
        by_cases q : ¬ L.code i = 0 ∧ L.code i < L.code x
        · rw [if_pos q, if_pos ⟨q.1, by omega⟩]; omega
        · rw [if_neg q]; split <;> omega)
    rw [sm_addf, sm_pt x 1 x0 x1] at h4
    show rank L x < rank L y
    unfold rank
    omega
  by_cases a : L.code c < L.code d
  · have := key c d c0 c1 nc a; omega
  · by_cases e : L.code d < L.code c
    · have := key d c d0 d1 nd e; omega
    · exact v.un c d c0 c1 d0 d1 (by omega) nc
theorem isAt_eq {L : Lw} (v : VL L) {i c d : Int} (h : isAt L i c) (h' : isAt L i d) : c = d := by
  rcases h with ⟨h1, h2⟩ | ⟨h1, h2, h3, h4⟩ <;> rcases h' with ⟨g1, g2⟩ | ⟨g1, g2, g3, g4⟩
  · rw [h1, g1]
  · exact absurd g4 (h2 d g1 g2 g3)
  · exact absurd h4 (g2 c h1 h2 h3)
  · exact rank_inj v h1 h2 g1 g2 h3 g3 (h4.trans g4.symm)
theorem isAt_ex (L : Lw) (i : Int) : ∃ c, isAt L i c := by
  by_cases q : ∃ c, 0 ≤ c ∧ c < 40 ∧ ¬ L.code c = 0 ∧ rank L c = i
  · obtain ⟨c, h⟩ := q; exact ⟨c, Or.inr h⟩
  · exact ⟨-1, Or.inl ⟨rfl, fun x x0 x1 x2 e => q ⟨x, x0, x1, x2, e⟩⟩⟩
noncomputable def atx (L : Lw) (i : Int) : Int := (isAt_ex L i).choose
theorem atx_is (L : Lw) (i : Int) : isAt L i (atx L i) := (isAt_ex L i).choose_spec
theorem atx_ord {L : Lw} (v : VL L) {f : Int → Int} {n : Int} (h : ORD L f 40 n) (i : Int) : atx L i = if 0 ≤ i ∧ i < n then f i else -1 := isAt_eq v (atx_is L i) (ORD_at h i)
theorem atx_rg (L : Lw) (i : Int) : -1 ≤ atx L i ∧ atx L i < 40 := by rcases atx_is L i with ⟨h, _⟩ | ⟨h1, h2, _⟩ <;> omega
/-! frames of a question -/
def CQ (M M' : am_M) : Prop := ∀ a, (a = 2 ∨ a = 3 ∨ a = 7 ∨ a = 8 ∨ a = 11 ∨ a = 12 ∨ a = 14 ∨ 58 ≤ a) → M' a = M a
theorem CQ_refl (M : am_M) : CQ M M := fun _ _ => rfl
theorem CQ_trans {M M' M'' : am_M} (h : CQ M M') (h' : CQ M' M'') : CQ M M'' := fun a ha => (h' a ha).trans (h a ha)
theorem CQ_15 {M M' : am_M} (h : CFr15 M M') : CQ M M' := fun a ha => h.1 a (by omega) (by omega)
theorem CQ_34 {M M' : am_M} (h : CFr34 M M') : CQ M M' := fun a ha => h.1 a (by omega) (by omega)
def MqF (M M' : am_M) : Prop := (∀ a, (a < 58 ∨ (59 ≤ a ∧ a ≤ 62) ∨ a = 73 ∨ a = 75 ∨ 81 ≤ a) → M' a = M a) ∧ ∀ j, (j = 2 ∨ j = 17 ∨ j = 23 ∨ j = 24) → M' 58 j = M 58 j
theorem MqF_refl (M : am_M) : MqF M M := ⟨fun _ _ => rfl, fun _ _ => rfl⟩
theorem MqF_trans {M M' M'' : am_M} (h : MqF M M') (h' : MqF M' M'') : MqF M M'' := ⟨fun a ha => (h'.1 a ha).trans (h.1 a ha), fun j hj => (h'.2 j hj).trans (h.2 j hj)⟩
theorem MqF_of {M M' : am_M} (h : MFr M M') : MqF M M' := ⟨fun a ha => h.1 a (by omega) (by omega), fun j hj => h.2 j (by omega)⟩
/-- what a question of the law leaves: also the row off may change -/
def MLf (M M' : am_M) : Prop := (∀ a, ¬ a = 58 → ¬ (63 ≤ a ∧ a ≤ 72) → M' a = M a) ∧ ∀ j, ¬ j = 14 → M' 58 j = M 58 j
theorem MqF_lf {M M' : am_M} (h : MLf M M') : MqF M M' := ⟨fun a ha => h.1 a (by omega) (by omega), fun j hj => h.2 j (by omega)⟩
set_option maxRecDepth 100000 in
theorem vc_c_consolidate (d : Int) (e : Int) (M : am_M) (Q : Option Value → am_M → Prop) (hv : ∃ M1, am_call t_Law_consolidate [.ref 15, .ref 9, .int (zi d), .int (zi e), .int (zi (iv M 11 3))] M none M1 ∧ (Q none M1)) : am_x t_SB_consolidate (0, am_ent (am_mL t_SB_consolidate) [.ref 0, .int (zi d), .int (zi e)], [], M) Q := by
  refine am_xn 0 (c1 := (0, [.ref 0, .int (zi d), .int (zi e)], [], M)) rfl ?_
  refine am_xn 8 (c1 := (14, [.ref 0, .int (zi d), .int (zi e)], [.ref 9, .int (zi e), .int (zi d), .ref 9, .ref 15], M)) rfl ?_
  refine am_xc t_Amd_revoked (.invokevirtual 106) 106 (av := [.ref 9]) (rest := [.int (zi e), .int (zi d), .ref 9, .ref 15]) (rv := some (.int (zi (iv M 11 3)))) (M' := M) rfl rfl rfl rfl (Nat.le_of_ble_eq_true rfl) (fun _ => rfl) (sp_c_revoked M) ?_
  refine am_xn 0 (c1 := (17, [.ref 0, .int (zi d), .int (zi e)], [.int (zi (iv M 11 3)), .int (zi e), .int (zi d), .ref 9, .ref 15], M)) rfl ?_
  obtain ⟨M1, hc, hv⟩ := hv
  refine am_xc t_Law_consolidate (.invokevirtual 217) 217 (av := [.ref 15, .ref 9, .int (zi d), .int (zi e), .int (zi (iv M 11 3))]) (rest := []) (rv := none) (M' := M1) rfl rfl rfl rfl (Nat.le_of_ble_eq_true rfl) (fun _ => rfl) (hc) ?_
  refine am_xn 0 (c1 := (20, [.ref 0, .int (zi d), .int (zi e)], [], M1)) rfl ?_
  exact am_xr none ⟨rfl, rfl, rfl⟩ hv
set_option maxRecDepth 100000 in
theorem vc_c_consolidateFully  (M : am_M) (Q : Option Value → am_M → Prop) (hv : ∃ M1, am_call t_Law_consolidate [.ref 15, .ref 9, .int (zi 9999), .int (zi (-1)), .int (zi (iv M 11 3))] M none M1 ∧ (Q none M1)) : am_x t_SB_consolidateFully (0, am_ent (am_mL t_SB_consolidateFully) [.ref 0], [], M) Q := by
  refine am_xn 0 (c1 := (0, [.ref 0], [], M)) rfl ?_
  refine am_xn 8 (c1 := (16, [.ref 0], [.ref 9, .int (zi (-1)), .int (zi 9999), .ref 9, .ref 15], M)) rfl ?_
  refine am_xc t_Amd_revoked (.invokevirtual 106) 106 (av := [.ref 9]) (rest := [.int (zi (-1)), .int (zi 9999), .ref 9, .ref 15]) (rv := some (.int (zi (iv M 11 3)))) (M' := M) rfl rfl rfl rfl (Nat.le_of_ble_eq_true rfl) (fun _ => rfl) (sp_c_revoked M) ?_
  refine am_xn 0 (c1 := (19, [.ref 0], [.int (zi (iv M 11 3)), .int (zi (-1)), .int (zi 9999), .ref 9, .ref 15], M)) rfl ?_
  obtain ⟨M1, hc, hv⟩ := hv
  refine am_xc t_Law_consolidate (.invokevirtual 217) 217 (av := [.ref 15, .ref 9, .int (zi 9999), .int (zi (-1)), .int (zi (iv M 11 3))]) (rest := []) (rv := none) (M' := M1) rfl rfl rfl rfl (Nat.le_of_ble_eq_true rfl) (fun _ => rfl) (hc) ?_
  refine am_xn 0 (c1 := (22, [.ref 0], [], M1)) rfl ?_
  exact am_xr none ⟨rfl, rfl, rfl⟩ hv
theorem sp_c_consolidate (M : am_M) {b : Int → Int} (w : WB b) (cb : CBR (iv M 11) b) {day cas : Int} (dz : zr day) (ez : zr cas) : ∃ M', am_call t_SB_consolidate [.ref 0, .int (zi day), .int (zi cas)] M none M' ∧ CFr15 M M' ∧ CLR15 (lw b day cas) M' ∧ ORD (lw b day cas) (iv M' 25) 40 (iv M' 15 9) := by
  have w1 := w.n1
  obtain ⟨M', h1, h2⟩ := sp_l15_consolidate M (off := rvk b) w cb.1 day cas (iv M 11 3) dz ez (fun a a0 a1 => by rw [cb.2.2 a a0 (by omega), if_pos a1]; rfl)
  exact ⟨M', am_call_of ⟨Nat.le_of_ble_eq_true rfl, rfl⟩ (vc_c_consolidate day cas M _ ⟨M', h1, rfl, rfl⟩), h2⟩
theorem sp_c_consolidateFully (M : am_M) {b : Int → Int} (w : WB b) (cb : CBR (iv M 11) b) : ∃ M', am_call t_SB_consolidateFully [.ref 0] M none M' ∧ CFr15 M M' ∧ CLR15 (lw b 9999 (-1)) M' ∧ ORD (lw b 9999 (-1)) (iv M' 25) 40 (iv M' 15 9) := by
  have w1 := w.n1
  obtain ⟨M', h1, h2⟩ := sp_l15_consolidate M (off := rvk b) w cb.1 9999 (-1) (iv M 11 3) (by decide) (by decide) (fun a a0 a1 => by rw [cb.2.2 a a0 (by omega), if_pos a1]; rfl)
  exact ⟨M', am_call_of ⟨Nat.le_of_ble_eq_true rfl, rfl⟩ (vc_c_consolidateFully M _ ⟨M', h1, rfl, rfl⟩), h2⟩
set_option maxRecDepth 100000 in
theorem vc_laws (d : Int) (e : Int) (M : am_M) (Q : Option Value → am_M → Prop) (hv : ∀ M1, M1 = zcp M 59 63 21 0 20 → ∃ M2, am_call t_Mo_consolidates [.ref 58, .int (zi d), .int (zi e)] M1 none M2 ∧ (Q none M2)) : am_x t_Mo_laws (0, am_ent (am_mL t_Mo_laws) [.ref 58, .int (zi d), .int (zi e)], [], M) Q := by
  refine am_xn 0 (c1 := (0, [.ref 58, .int (zi d), .int (zi e)], [], M)) rfl ?_
  refine am_xn 1 (c1 := (1, [.ref 58, .int (zi d), .int (zi e)], [.ref 58], M)) rfl ?_
  obtain ⟨M1, eM1⟩ : ∃ m, m = zcp M 59 63 21 0 20 := ⟨_, rfl⟩
  replace hv := hv M1 eM1
  refine am_xc t_Mo_offAsRevoked (.invokevirtual 134) 134 (av := [.ref 58]) (rest := []) (rv := none) (M' := M1) rfl rfl rfl rfl (Nat.le_of_ble_eq_true rfl) (fun _ => rfl) (by rw [eM1]; exact sp_offAsRevoked M) ?_
  refine am_xn 0 (c1 := (4, [.ref 58, .int (zi d), .int (zi e)], [], M1)) rfl ?_
  refine am_xn 3 (c1 := (7, [.ref 58, .int (zi d), .int (zi e)], [.int (zi e), .int (zi d), .ref 58], M1)) rfl ?_
  obtain ⟨M2, hc, hv⟩ := hv
  refine am_xc t_Mo_consolidates (.invokevirtual 137) 137 (av := [.ref 58, .int (zi d), .int (zi e)]) (rest := []) (rv := none) (M' := M2) rfl rfl rfl rfl (Nat.le_of_ble_eq_true rfl) (fun _ => rfl) (hc) ?_
  refine am_xn 0 (c1 := (10, [.ref 58, .int (zi d), .int (zi e)], [], M2)) rfl ?_
  exact am_xr none ⟨rfl, rfl, rfl⟩ hv
set_option maxRecDepth 100000 in
theorem vc_fullLaw  (M : am_M) (Q : Option Value → am_M → Prop) (hv : ∃ M1, am_call t_Mo_laws [.ref 58, .int (zi 9999), .int (zi (-1))] M none M1 ∧ (Q none M1)) : am_x t_Mo_fullLaw (0, am_ent (am_mL t_Mo_fullLaw) [.ref 58], [], M) Q := by
  refine am_xn 0 (c1 := (0, [.ref 58], [], M)) rfl ?_
  refine am_xn 3 (c1 := (5, [.ref 58], [.int (zi (-1)), .int (zi 9999), .ref 58], M)) rfl ?_
  obtain ⟨M1, hc, hv⟩ := hv
  refine am_xc t_Mo_laws (.invokevirtual 140) 140 (av := [.ref 58, .int (zi 9999), .int (zi (-1))]) (rest := []) (rv := none) (M' := M1) rfl rfl rfl rfl (Nat.le_of_ble_eq_true rfl) (fun _ => rfl) (hc) ?_
  refine am_xn 0 (c1 := (8, [.ref 58], [], M1)) rfl ?_
  exact am_xr none ⟨rfl, rfl, rfl⟩ hv
set_option maxRecDepth 100000 in
theorem vc_inForce  (M : am_M) (Q : Option Value → am_M → Prop) (hv : am_x t_Mo_inForce (4, [.ref 58, .int (zi 0), .int (zi 0)], [], M) Q) : am_x t_Mo_inForce (0, am_ent (am_mL t_Mo_inForce) [.ref 58], [], M) Q := by
  refine am_xn 0 (c1 := (0, [.ref 58, .null, .null], [], M)) rfl ?_
  refine am_xn 4 (c1 := (4, [.ref 58, .int (zi 0), .int (zi 0)], [], M)) rfl ?_
  exact hv
set_option maxRecDepth 100000 in
theorem vc_inForce_4 (x1 : Int) (x2 : Int) (M : am_M) (Q : Option Value → am_M → Prop) (hv : zr x2 ∧ ((x2 < 40 → (0 ≤ x2 ∧ x2 < 40) ∧ (am_x t_Mo_inForce (4, [.ref 58, .int (zi (x1 + (iv M 64 x2))), .int (zi (x2 + 1))], [], M) Q)) ∧ (40 ≤ x2 → Q (some (.int (zi x1))) M))) : am_x t_Mo_inForce (4, [.ref 58, .int (zi x1), .int (zi x2)], [], M) Q := by
  obtain ⟨r1, hv⟩ := hv
  refine am_xn 3 (c1 := (if zi x2 < zi 40 then 10 else 25, [.ref 58, .int (zi x1), .int (zi x2)], [], M)) rfl (am_xlt r1 (by decide) (fun h => ?_) (fun h => ?_))
  · replace hv := hv.1 h
    obtain ⟨r2, hv⟩ := hv
    refine am_xn 4 (c1 := (16, [.ref 58, .int (zi x1), .int (zi x2)], [.int (zi x2), .ref 64, .int (zi x1)], M)) rfl ?_
    refine am_xald rfl rfl rfl r2 ?_
    refine am_xn 0 (c1 := (17, [.ref 58, .int (zi x1), .int (zi x2)], [.int (zi (iv M 64 x2)), .int (zi x1)], M)) rfl ?_
    refine am_xiadd 1 x1 (iv M 64 x2) (pc := 18) (ls := [.ref 58, .int (zi x1), .int (zi x2)]) (st := []) rfl ?_
    refine am_xn 2 (c1 := (22, [.ref 58, .int (zi (x1 + (iv M 64 x2))), .int (zi x2 + zi 1)], [], M)) rfl ?_
    rw [zi_add]
    refine am_xn 1 (c1 := (4, [.ref 58, .int (zi (x1 + (iv M 64 x2))), .int (zi (x2 + 1))], [], M)) rfl ?_
    exact hv
  · replace hv := hv.2 h
    refine am_xn 1 (c1 := (26, [.ref 58, .int (zi x1), .int (zi x2)], [.int (zi x1)], M)) rfl ?_
    exact am_xr (some (.int (zi x1))) ⟨rfl, rfl, .int, rfl, rfl⟩ hv
set_option maxRecDepth 100000 in
theorem vc_indexOf (c : Int) (M : am_M) (Q : Option Value → am_M → Prop) (hv : am_x t_Mo_indexOf (4, [.ref 58, .int (zi c), .int (zi 0), .int (zi 0)], [], M) Q) : am_x t_Mo_indexOf (0, am_ent (am_mL t_Mo_indexOf) [.ref 58, .int (zi c)], [], M) Q := by
  refine am_xn 0 (c1 := (0, [.ref 58, .int (zi c), .null, .null], [], M)) rfl ?_
  refine am_xn 4 (c1 := (4, [.ref 58, .int (zi c), .int (zi 0), .int (zi 0)], [], M)) rfl ?_
  exact hv
set_option maxRecDepth 100000 in
theorem vc_indexOf_4 (x1 : Int) (x2 : Int) (x3 : Int) (M : am_M) (Q : Option Value → am_M → Prop) (hv : zr x3 ∧ ((x3 < 40 → (0 ≤ x3 ∧ x3 < 40) ∧ (((iv M 64 x3) = 1 → (0 ≤ x3 ∧ x3 < 40) ∧ ((0 ≤ x1 ∧ x1 < 40) ∧ (((iv M 65 x3) < (iv M 65 x1) → am_x t_Mo_indexOf (4, [.ref 58, .int (zi x1), .int (zi (x2 + 1)), .int (zi (x3 + 1))], [], M) Q) ∧ ((iv M 65 x1) ≤ (iv M 65 x3) → am_x t_Mo_indexOf (4, [.ref 58, .int (zi x1), .int (zi (x2 + 0)), .int (zi (x3 + 1))], [], M) Q)))) ∧ (¬ (iv M 64 x3) = 1 → am_x t_Mo_indexOf (4, [.ref 58, .int (zi x1), .int (zi (x2 + 0)), .int (zi (x3 + 1))], [], M) Q))) ∧ (40 ≤ x3 → Q (some (.int (zi x2))) M))) : am_x t_Mo_indexOf (4, [.ref 58, .int (zi x1), .int (zi x2), .int (zi x3)], [], M) Q := by
  obtain ⟨r1, hv⟩ := hv
  refine am_xn 3 (c1 := (if zi x3 < zi 40 then 10 else 49, [.ref 58, .int (zi x1), .int (zi x2), .int (zi x3)], [], M)) rfl (am_xlt r1 (by decide) (fun h => ?_) (fun h => ?_))
  · replace hv := hv.1 h
    obtain ⟨r2, hv⟩ := hv
    refine am_xn 4 (c1 := (16, [.ref 58, .int (zi x1), .int (zi x2), .int (zi x3)], [.int (zi x3), .ref 64, .int (zi x2)], M)) rfl ?_
    refine am_xald rfl rfl rfl r2 ?_
    refine am_xn 0 (c1 := (17, [.ref 58, .int (zi x1), .int (zi x2), .int (zi x3)], [.int (zi (iv M 64 x3)), .int (zi x2)], M)) rfl ?_
    refine am_xn 2 (c1 := (if zi (iv M 64 x3) = zi 1 then 21 else 40, [.ref 58, .int (zi x1), .int (zi x2), .int (zi x3)], [.int (zi x2)], M)) rfl (am_xeq (iv_r _ _ _) (by decide) (fun h => ?_) (fun h => ?_))
    · replace hv := hv.1 h
      obtain ⟨r3, hv⟩ := hv
      refine am_xn 3 (c1 := (26, [.ref 58, .int (zi x1), .int (zi x2), .int (zi x3)], [.int (zi x3), .ref 65, .int (zi x2)], M)) rfl ?_
      refine am_xald rfl rfl rfl r3 ?_
      refine am_xn 0 (c1 := (27, [.ref 58, .int (zi x1), .int (zi x2), .int (zi x3)], [.int (zi (iv M 65 x3)), .int (zi x2)], M)) rfl ?_
      obtain ⟨r4, hv⟩ := hv
      refine am_xn 3 (c1 := (32, [.ref 58, .int (zi x1), .int (zi x2), .int (zi x3)], [.int (zi x1), .ref 65, .int (zi (iv M 65 x3)), .int (zi x2)], M)) rfl ?_
      refine am_xald rfl rfl rfl r4 ?_
      refine am_xn 0 (c1 := (33, [.ref 58, .int (zi x1), .int (zi x2), .int (zi x3)], [.int (zi (iv M 65 x1)), .int (zi (iv M 65 x3)), .int (zi x2)], M)) rfl ?_
      refine am_xn 1 (c1 := (if zi (iv M 65 x3) < zi (iv M 65 x1) then 36 else 40, [.ref 58, .int (zi x1), .int (zi x2), .int (zi x3)], [.int (zi x2)], M)) rfl (am_xlt (iv_r _ _ _) (iv_r _ _ _) (fun h => ?_) (fun h => ?_))
      · replace hv := hv.1 h
        refine am_xiadd 3 x2 1 (pc := 42) (ls := [.ref 58, .int (zi x1), .int (zi x2), .int (zi x3)]) (st := []) rfl ?_
        refine am_xn 2 (c1 := (46, [.ref 58, .int (zi x1), .int (zi (x2 + 1)), .int (zi x3 + zi 1)], [], M)) rfl ?_
        rw [zi_add]
        refine am_xn 1 (c1 := (4, [.ref 58, .int (zi x1), .int (zi (x2 + 1)), .int (zi (x3 + 1))], [], M)) rfl ?_
        exact hv
      · replace hv := hv.2 h
        refine am_xiadd 2 x2 0 (pc := 42) (ls := [.ref 58, .int (zi x1), .int (zi x2), .int (zi x3)]) (st := []) rfl ?_
        refine am_xn 2 (c1 := (46, [.ref 58, .int (zi x1), .int (zi (x2 + 0)), .int (zi x3 + zi 1)], [], M)) rfl ?_
        rw [zi_add]
        refine am_xn 1 (c1 := (4, [.ref 58, .int (zi x1), .int (zi (x2 + 0)), .int (zi (x3 + 1))], [], M)) rfl ?_
        exact hv
    · replace hv := hv.2 h
      refine am_xiadd 2 x2 0 (pc := 42) (ls := [.ref 58, .int (zi x1), .int (zi x2), .int (zi x3)]) (st := []) rfl ?_
      refine am_xn 2 (c1 := (46, [.ref 58, .int (zi x1), .int (zi (x2 + 0)), .int (zi x3 + zi 1)], [], M)) rfl ?_
      rw [zi_add]
      refine am_xn 1 (c1 := (4, [.ref 58, .int (zi x1), .int (zi (x2 + 0)), .int (zi (x3 + 1))], [], M)) rfl ?_
      exact hv
  · replace hv := hv.2 h
    refine am_xn 1 (c1 := (50, [.ref 58, .int (zi x1), .int (zi x2), .int (zi x3)], [.int (zi x2)], M)) rfl ?_
    exact am_xr (some (.int (zi x2))) ⟨rfl, rfl, .int, rfl, rfl⟩ hv
set_option maxRecDepth 100000 in
theorem vc_atIndex (i : Int) (M : am_M) (Q : Option Value → am_M → Prop) (hv : am_x t_Mo_atIndex (4, [.ref 58, .int (zi i), .int (zi (-1)), .int (zi 0)], [], M) Q) : am_x t_Mo_atIndex (0, am_ent (am_mL t_Mo_atIndex) [.ref 58, .int (zi i)], [], M) Q := by
  refine am_xn 0 (c1 := (0, [.ref 58, .int (zi i), .null, .null], [], M)) rfl ?_
  refine am_xn 4 (c1 := (4, [.ref 58, .int (zi i), .int (zi (-1)), .int (zi 0)], [], M)) rfl ?_
  exact hv
set_option maxRecDepth 100000 in
theorem vc_atIndex_4 (x1 : Int) (x2 : Int) (x3 : Int) (M : am_M) (Q : Option Value → am_M → Prop) (hv : zr x3 ∧ ((x3 < 40 → (0 ≤ x3 ∧ x3 < 40) ∧ (((iv M 64 x3) = 1 → ∃ (r4 : Int) (M3 : am_M), am_call t_Mo_indexOf [.ref 58, .int (zi x3)] M (some (.int (zi r4))) M3 ∧ (zr r4 ∧ (zr x1 ∧ ((r4 = x1 → am_x t_Mo_atIndex (4, [.ref 58, .int (zi x1), .int (zi x3), .int (zi (x3 + 1))], [], M3) Q) ∧ (¬ r4 = x1 → am_x t_Mo_atIndex (4, [.ref 58, .int (zi x1), .int (zi x2), .int (zi (x3 + 1))], [], M3) Q))))) ∧ (¬ (iv M 64 x3) = 1 → am_x t_Mo_atIndex (4, [.ref 58, .int (zi x1), .int (zi x2), .int (zi (x3 + 1))], [], M) Q))) ∧ (40 ≤ x3 → Q (some (.int (zi x2))) M))) : am_x t_Mo_atIndex (4, [.ref 58, .int (zi x1), .int (zi x2), .int (zi x3)], [], M) Q := by
  obtain ⟨r1, hv⟩ := hv
  refine am_xn 3 (c1 := (if zi x3 < zi 40 then 10 else 41, [.ref 58, .int (zi x1), .int (zi x2), .int (zi x3)], [], M)) rfl (am_xlt r1 (by decide) (fun h => ?_) (fun h => ?_))
  · replace hv := hv.1 h
    obtain ⟨r2, hv⟩ := hv
    refine am_xn 3 (c1 := (15, [.ref 58, .int (zi x1), .int (zi x2), .int (zi x3)], [.int (zi x3), .ref 64], M)) rfl ?_
    refine am_xald rfl rfl rfl r2 ?_
    refine am_xn 0 (c1 := (16, [.ref 58, .int (zi x1), .int (zi x2), .int (zi x3)], [.int (zi (iv M 64 x3))], M)) rfl ?_
    refine am_xn 2 (c1 := (if zi (iv M 64 x3) = zi 1 then 20 else 33, [.ref 58, .int (zi x1), .int (zi x2), .int (zi x3)], [], M)) rfl (am_xeq (iv_r _ _ _) (by decide) (fun h => ?_) (fun h => ?_))
    · replace hv := hv.1 h
      refine am_xn 2 (c1 := (22, [.ref 58, .int (zi x1), .int (zi x2), .int (zi x3)], [.int (zi x3), .ref 58], M)) rfl ?_
      obtain ⟨r4, M3, hc, hv⟩ := hv
      refine am_xc t_Mo_indexOf (.invokevirtual 146) 146 (av := [.ref 58, .int (zi x3)]) (rest := []) (rv := some (.int (zi r4))) (M' := M3) rfl rfl rfl rfl (Nat.le_of_ble_eq_true rfl) (fun _ => rfl) (hc) ?_
      refine am_xn 0 (c1 := (25, [.ref 58, .int (zi x1), .int (zi x2), .int (zi x3)], [.int (zi r4)], M3)) rfl ?_
      obtain ⟨r5, hv⟩ := hv
      obtain ⟨r6, hv⟩ := hv
      refine am_xn 2 (c1 := (if zi r4 = zi x1 then 29 else 33, [.ref 58, .int (zi x1), .int (zi x2), .int (zi x3)], [], M3)) rfl (am_xeq r5 r6 (fun h => ?_) (fun h => ?_))
      · replace hv := hv.1 h
        refine am_xn 4 (c1 := (38, [.ref 58, .int (zi x1), .int (zi x3), .int (zi x3 + zi 1)], [], M3)) rfl ?_
        rw [zi_add]
        refine am_xn 1 (c1 := (4, [.ref 58, .int (zi x1), .int (zi x3), .int (zi (x3 + 1))], [], M3)) rfl ?_
        exact hv
      · replace hv := hv.2 h
        refine am_xn 3 (c1 := (38, [.ref 58, .int (zi x1), .int (zi x2), .int (zi x3 + zi 1)], [], M3)) rfl ?_
        rw [zi_add]
        refine am_xn 1 (c1 := (4, [.ref 58, .int (zi x1), .int (zi x2), .int (zi (x3 + 1))], [], M3)) rfl ?_
        exact hv
    · replace hv := hv.2 h
      refine am_xn 3 (c1 := (38, [.ref 58, .int (zi x1), .int (zi x2), .int (zi x3 + zi 1)], [], M)) rfl ?_
      rw [zi_add]
      refine am_xn 1 (c1 := (4, [.ref 58, .int (zi x1), .int (zi x2), .int (zi (x3 + 1))], [], M)) rfl ?_
      exact hv
  · replace hv := hv.2 h
    refine am_xn 1 (c1 := (42, [.ref 58, .int (zi x1), .int (zi x2), .int (zi x3)], [.int (zi x2)], M)) rfl ?_
    exact am_xr (some (.int (zi x2))) ⟨rfl, rfl, .int, rfl, rfl⟩ hv
set_option maxRecDepth 100000 in
theorem vc_toldWord (c : Int) (k : Int) (M : am_M) (Q : Option Value → am_M → Prop) (hv : (0 ≤ ((6 * c) + k) ∧ ((6 * c) + k) < 240) ∧ (((iv M 67 ((6 * c) + k)) < 1000 → Q (some (.int (zi (iv M 67 ((6 * c) + k))))) M) ∧ (1000 ≤ (iv M 67 ((6 * c) + k)) → (0 ≤ ((iv M 67 ((6 * c) + k)) - 1000) ∧ ((iv M 67 ((6 * c) + k)) - 1000) < 40) ∧ (((iv M 64 ((iv M 67 ((6 * c) + k)) - 1000)) = 1 → (0 ≤ ((iv M 67 ((6 * c) + k)) - 1000) ∧ ((iv M 67 ((6 * c) + k)) - 1000) < 40) ∧ (Q (some (.int (zi (1000 + (iv M 65 ((iv M 67 ((6 * c) + k)) - 1000)))))) M)) ∧ (¬ (iv M 64 ((iv M 67 ((6 * c) + k)) - 1000)) = 1 → Q (some (.int (zi (-5)))) M))))) : am_x t_Mo_toldWord (0, am_ent (am_mL t_Mo_toldWord) [.ref 58, .int (zi c), .int (zi k)], [], M) Q := by
  refine am_xn 0 (c1 := (0, [.ref 58, .int (zi c), .int (zi k), .null], [], M)) rfl ?_
  refine am_ximul 5 6 c (pc := 8) (ls := [.ref 58, .int (zi c), .int (zi k), .null]) (st := [.ref 67]) rfl ?_
  refine am_xiadd 2 (6 * c) k (pc := 10) (ls := [.ref 58, .int (zi c), .int (zi k), .null]) (st := [.ref 67]) rfl ?_
  obtain ⟨r1, hv⟩ := hv
  refine am_xald rfl rfl rfl r1 ?_
  refine am_xn 0 (c1 := (11, [.ref 58, .int (zi c), .int (zi k), .null], [.int (zi (iv M 67 ((6 * c) + k)))], M)) rfl ?_
  refine am_xn 4 (c1 := (if zi (iv M 67 ((6 * c) + k)) < zi 1000 then 19 else 21, [.ref 58, .int (zi c), .int (zi k), .int (zi (iv M 67 ((6 * c) + k)))], [], M)) rfl (am_xlt (iv_r _ _ _) (by decide) (fun h => ?_) (fun h => ?_))
  · replace hv := hv.1 h
    refine am_xn 1 (c1 := (20, [.ref 58, .int (zi c), .int (zi k), .int (zi (iv M 67 ((6 * c) + k)))], [.int (zi (iv M 67 ((6 * c) + k)))], M)) rfl ?_
    exact am_xr (some (.int (zi (iv M 67 ((6 * c) + k))))) ⟨rfl, rfl, .int, rfl, rfl⟩ hv
  · replace hv := hv.2 h
    refine am_xisub 5 (iv M 67 ((6 * c) + k)) 1000 (pc := 30) (ls := [.ref 58, .int (zi c), .int (zi k), .int (zi (iv M 67 ((6 * c) + k)))]) (st := [.ref 64]) rfl ?_
    obtain ⟨r2, hv⟩ := hv
    refine am_xald rfl rfl rfl r2 ?_
    refine am_xn 0 (c1 := (31, [.ref 58, .int (zi c), .int (zi k), .int (zi (iv M 67 ((6 * c) + k)))], [.int (zi (iv M 64 ((iv M 67 ((6 * c) + k)) - 1000)))], M)) rfl ?_
    refine am_xn 2 (c1 := (if zi (iv M 64 ((iv M 67 ((6 * c) + k)) - 1000)) = zi 1 then 35 else 52, [.ref 58, .int (zi c), .int (zi k), .int (zi (iv M 67 ((6 * c) + k)))], [], M)) rfl (am_xeq (iv_r _ _ _) (by decide) (fun h => ?_) (fun h => ?_))
    · replace hv := hv.1 h
      refine am_xisub 6 (iv M 67 ((6 * c) + k)) 1000 (pc := 47) (ls := [.ref 58, .int (zi c), .int (zi k), .int (zi (iv M 67 ((6 * c) + k)))]) (st := [.ref 65, .int (zi 1000)]) rfl ?_
      obtain ⟨r3, hv⟩ := hv
      refine am_xald rfl rfl rfl r3 ?_
      refine am_xn 0 (c1 := (48, [.ref 58, .int (zi c), .int (zi k), .int (zi (iv M 67 ((6 * c) + k)))], [.int (zi (iv M 65 ((iv M 67 ((6 * c) + k)) - 1000))), .int (zi 1000)], M)) rfl ?_
      refine am_xiadd 1 1000 (iv M 65 ((iv M 67 ((6 * c) + k)) - 1000)) (pc := 49) (ls := [.ref 58, .int (zi c), .int (zi k), .int (zi (iv M 67 ((6 * c) + k)))]) (st := []) rfl ?_
      refine am_xn 1 (c1 := (54, [.ref 58, .int (zi c), .int (zi k), .int (zi (iv M 67 ((6 * c) + k)))], [.int (zi (1000 + (iv M 65 ((iv M 67 ((6 * c) + k)) - 1000))))], M)) rfl ?_
      exact am_xr (some (.int (zi (1000 + (iv M 65 ((iv M 67 ((6 * c) + k)) - 1000)))))) ⟨rfl, rfl, .int, rfl, rfl⟩ hv
    · replace hv := hv.2 h
      refine am_xn 1 (c1 := (54, [.ref 58, .int (zi c), .int (zi k), .int (zi (iv M 67 ((6 * c) + k)))], [.int (zi (-5))], M)) rfl ?_
      exact am_xr (some (.int (zi (-5)))) ⟨rfl, rfl, .int, rfl, rfl⟩ hv
set_option maxRecDepth 100000 in
theorem vc_withWord (x : Int) (M : am_M) (Q : Option Value → am_M → Prop) (hv : am_x t_Mo_withWord (4, [.ref 58, .int (zi x), .int (zi 0), .int (zi 0)], [], M) Q) : am_x t_Mo_withWord (0, am_ent (am_mL t_Mo_withWord) [.ref 58, .int (zi x)], [], M) Q := by
  refine am_xn 0 (c1 := (0, [.ref 58, .int (zi x), .null, .null], [], M)) rfl ?_
  refine am_xn 4 (c1 := (4, [.ref 58, .int (zi x), .int (zi 0), .int (zi 0)], [], M)) rfl ?_
  exact hv
set_option maxRecDepth 100000 in
theorem vc_withWord_4 (x1 : Int) (x2 : Int) (x3 : Int) (M : am_M) (Q : Option Value → am_M → Prop) (hv : zr x3 ∧ ((x3 < 40 → (0 ≤ x3 ∧ x3 < 40) ∧ (((iv M 64 x3) = 1 → (0 ≤ x3 ∧ x3 < 40 ∧ iv M 66 x3 ≤ 6 ∧ zr x1) ∧ ((mhw M x3 x1 → am_x t_Mo_withWord (4, [.ref 58, .int (zi x1), .int (zi (x2 + 1)), .int (zi (x3 + 1))], [], M) Q) ∧ (¬ (mhw M x3 x1) → am_x t_Mo_withWord (4, [.ref 58, .int (zi x1), .int (zi (x2 + 0)), .int (zi (x3 + 1))], [], M) Q))) ∧ (¬ (iv M 64 x3) = 1 → am_x t_Mo_withWord (4, [.ref 58, .int (zi x1), .int (zi (x2 + 0)), .int (zi (x3 + 1))], [], M) Q))) ∧ (40 ≤ x3 → Q (some (.int (zi x2))) M))) : am_x t_Mo_withWord (4, [.ref 58, .int (zi x1), .int (zi x2), .int (zi x3)], [], M) Q := by
  obtain ⟨r1, hv⟩ := hv
  refine am_xn 3 (c1 := (if zi x3 < zi 40 then 10 else 43, [.ref 58, .int (zi x1), .int (zi x2), .int (zi x3)], [], M)) rfl (am_xlt r1 (by decide) (fun h => ?_) (fun h => ?_))
  · replace hv := hv.1 h
    obtain ⟨r2, hv⟩ := hv
    refine am_xn 4 (c1 := (16, [.ref 58, .int (zi x1), .int (zi x2), .int (zi x3)], [.int (zi x3), .ref 64, .int (zi x2)], M)) rfl ?_
    refine am_xald rfl rfl rfl r2 ?_
    refine am_xn 0 (c1 := (17, [.ref 58, .int (zi x1), .int (zi x2), .int (zi x3)], [.int (zi (iv M 64 x3)), .int (zi x2)], M)) rfl ?_
    refine am_xn 2 (c1 := (if zi (iv M 64 x3) = zi 1 then 21 else 34, [.ref 58, .int (zi x1), .int (zi x2), .int (zi x3)], [.int (zi x2)], M)) rfl (am_xeq (iv_r _ _ _) (by decide) (fun h => ?_) (fun h => ?_))
    · replace hv := hv.1 h
      refine am_xn 3 (c1 := (24, [.ref 58, .int (zi x1), .int (zi x2), .int (zi x3)], [.int (zi x1), .int (zi x3), .ref 58, .int (zi x2)], M)) rfl ?_
      obtain ⟨g, hv⟩ := hv
      by_cases c3 : mhw M x3 x1
      · replace hv := hv.1 c3
        refine am_xc t_Mo_hasWord (.invokevirtual 107) 107 (av := [.ref 58, .int (zi x3), .int (zi x1)]) (rest := [.int (zi x2)]) (rv := some (.int (zi 1))) (M' := M) rfl rfl rfl rfl (Nat.le_of_ble_eq_true rfl) (fun _ => rfl) (by have q := sp_hasWord M x3 x1 g; rwa [bz_t c3] at q) ?_
        refine am_xn 0 (c1 := (27, [.ref 58, .int (zi x1), .int (zi x2), .int (zi x3)], [.int (zi 1), .int (zi x2)], M)) rfl ?_
        refine am_xiadd 4 x2 1 (pc := 36) (ls := [.ref 58, .int (zi x1), .int (zi x2), .int (zi x3)]) (st := []) rfl ?_
        refine am_xn 2 (c1 := (40, [.ref 58, .int (zi x1), .int (zi (x2 + 1)), .int (zi x3 + zi 1)], [], M)) rfl ?_
        rw [zi_add]
        refine am_xn 1 (c1 := (4, [.ref 58, .int (zi x1), .int (zi (x2 + 1)), .int (zi (x3 + 1))], [], M)) rfl ?_
        exact hv
      · replace hv := hv.2 c3
        refine am_xc t_Mo_hasWord (.invokevirtual 107) 107 (av := [.ref 58, .int (zi x3), .int (zi x1)]) (rest := [.int (zi x2)]) (rv := some (.int (zi 0))) (M' := M) rfl rfl rfl rfl (Nat.le_of_ble_eq_true rfl) (fun _ => rfl) (by have q := sp_hasWord M x3 x1 g; rwa [bz_f c3] at q) ?_
        refine am_xn 0 (c1 := (27, [.ref 58, .int (zi x1), .int (zi x2), .int (zi x3)], [.int (zi 0), .int (zi x2)], M)) rfl ?_
        refine am_xiadd 3 x2 0 (pc := 36) (ls := [.ref 58, .int (zi x1), .int (zi x2), .int (zi x3)]) (st := []) rfl ?_
        refine am_xn 2 (c1 := (40, [.ref 58, .int (zi x1), .int (zi (x2 + 0)), .int (zi x3 + zi 1)], [], M)) rfl ?_
        rw [zi_add]
        refine am_xn 1 (c1 := (4, [.ref 58, .int (zi x1), .int (zi (x2 + 0)), .int (zi (x3 + 1))], [], M)) rfl ?_
        exact hv
    · replace hv := hv.2 h
      refine am_xiadd 2 x2 0 (pc := 36) (ls := [.ref 58, .int (zi x1), .int (zi x2), .int (zi x3)]) (st := []) rfl ?_
      refine am_xn 2 (c1 := (40, [.ref 58, .int (zi x1), .int (zi (x2 + 0)), .int (zi x3 + zi 1)], [], M)) rfl ?_
      rw [zi_add]
      refine am_xn 1 (c1 := (4, [.ref 58, .int (zi x1), .int (zi (x2 + 0)), .int (zi (x3 + 1))], [], M)) rfl ?_
      exact hv
  · replace hv := hv.2 h
    refine am_xn 1 (c1 := (44, [.ref 58, .int (zi x1), .int (zi x2), .int (zi x3)], [.int (zi x2)], M)) rfl ?_
    exact am_xr (some (.int (zi x2))) ⟨rfl, rfl, .int, rfl, rfl⟩ hv
theorem sp_laws (M : am_M) (w : WB (iv M 59)) {day cas : Int} (dz : zr day) (ez : zr cas) : ∃ M', am_call t_Mo_laws [.ref 58, .int (zi day), .int (zi cas)] M none M' ∧ MLf M M' ∧ MLR (lw (iv M 59) day cas) M' := by
  have w1 := w.n1
  have e59 : iv (zcp M 59 63 21 0 20) 59 = iv M 59 := iv_row (iv_zcp_r M (by decide))
  obtain ⟨M', h1, h2, h3⟩ := sp_consolidates (zcp M 59 63 21 0 20) day cas (by rw [e59]; exact w) dz ez
  refine ⟨M', am_call_of ⟨Nat.le_of_ble_eq_true rfl, rfl⟩ (vc_laws day cas M _ (fun M1 e1 => ⟨M', by rw [e1]; exact h1, rfl, rfl⟩)), ⟨fun a a1 a2 => ?_, fun j hj => ?_⟩, ?_⟩
  · rw [h2.1 a a1 (by omega), iv_zcp_r M (by omega)]
  · rw [h2.2 j hj, iv_zcp_r M (by decide)]
  · rw [e59] at h3
    have : con (iv M 59) (iv (zcp M 59 63 21 0 20) 63) day cas = lw (iv M 59) day cas := con_congr (fun a a0 a1 => by
      rw [iv_zcp M 59 63 63 (by decide) (by decide) (by decide) a0, if_pos ⟨rfl, a0, by omega⟩, Int.sub_zero]
      rfl) day cas
    rw [← this]
    exact h3
theorem sp_fullLaw (M : am_M) (w : WB (iv M 59)) : ∃ M', am_call t_Mo_fullLaw [.ref 58] M none M' ∧ MLf M M' ∧ MLR (lw (iv M 59) 9999 (-1)) M' := by
  obtain ⟨M', h1, h2⟩ := sp_laws M w (day := 9999) (cas := -1) (by decide) (by decide)
  exact ⟨M', am_call_of ⟨Nat.le_of_ble_eq_true rfl, rfl⟩ (vc_fullLaw M _ ⟨M', h1, rfl, rfl⟩), h2⟩
theorem sp_inForce {L : Lw} {M : am_M} (r : MLR L M) : am_call t_Mo_inForce [.ref 58] M (some (.int (zi (frc L 40)))) M := by
  refine am_call_of ⟨Nat.le_of_ble_eq_true rfl, rfl⟩ (vc_inForce M _ ?_)
  refine loop_up (fun i (s : Int) => (4, [.ref 58, .int (zi s), .int (zi i)], [], M)) 40 (fun i s => s = frc L i) ?_ ?_ 0 0 (by omega) (by omega) rfl
  · intro s hs
    exact vc_inForce_4 _ _ M _ ⟨by decide, fun h => by omega, fun _ => ⟨by rw [hs], rfl⟩⟩
  · intro i s i0 i1 hs k
    exact vc_inForce_4 _ _ M _ ⟨⟨by omega, by omega⟩, fun _ => ⟨⟨i0, i1⟩, k _ (by rw [hs, frc_s L i0, r.1 i i0 i1])⟩, fun h => by omega⟩
theorem sp_indexOf {L : Lw} {M : am_M} (r : MLR L M) {c : Int} (c0 : 0 ≤ c) (c1 : c < 40) (n : ¬ L.code c = 0) : am_call t_Mo_indexOf [.ref 58, .int (zi c)] M (some (.int (zi (rank L c)))) M := by
  refine am_call_of ⟨Nat.le_of_ble_eq_true rfl, rfl⟩ (vc_indexOf c M _ ?_)
  have ec := (r.2.1 c c0 c1 n).1
  refine loop_up (fun i (s : Int) => (4, [.ref 58, .int (zi c), .int (zi s), .int (zi i)], [], M)) 40 (fun i s => s = sm (fun k => if ¬ L.code k = 0 ∧ L.code k < L.code c then 1 else 0) i) ?_ ?_ 0 0 (by omega) (by omega) rfl
  · intro s hs
    exact vc_indexOf_4 _ _ _ M _ ⟨by decide, fun h => by omega, fun _ => ⟨by rw [hs]; rfl, rfl⟩⟩
  · intro i s i0 i1 hs k
    have e := sm_s (fun k => if ¬ L.code k = 0 ∧ L.code k < L.code c then 1 else 0) i0
    have ef := r.1 i i0 i1
    refine vc_indexOf_4 _ _ _ M _ ⟨⟨by omega, by omega⟩, fun _ => ⟨⟨i0, i1⟩, fun q => ⟨⟨i0, i1⟩, ⟨c0, c1⟩, ?_⟩, fun q => k _ ?_⟩, fun h => by omega⟩
    · have ni : ¬ L.code i = 0 := fun z => by rw [if_pos z] at ef; omega
      rw [(r.2.1 i i0 i1 ni).1, ec]
      refine ⟨fun q2 => k _ ?_, fun q2 => k _ ?_⟩
      · rw [e, hs, if_pos ⟨ni, q2⟩]
      · rw [e, hs, if_neg (fun z => by omega)]
    · have ni : L.code i = 0 := by
        by_cases z : L.code i = 0
        · exact z
        · rw [if_neg z] at ef; exact absurd ef q
      rw [e, hs, if_neg (fun z => z.1 ni)]
theorem sp_atIndex {L : Lw} {M : am_M} (v : VL L) (r : MLR L M) {i : Int} (iz : zr i) : am_call t_Mo_atIndex [.ref 58, .int (zi i)] M (some (.int (zi (atx L i)))) M := by
  refine am_call_of ⟨Nat.le_of_ble_eq_true rfl, rfl⟩ (vc_atIndex i M _ ?_)
  refine loop_up (fun j (s : Int) => (4, [.ref 58, .int (zi i), .int (zi s), .int (zi j)], [], M)) 40 (fun j s => (s = -1 ∧ ∀ x, 0 ≤ x → x < j → ¬ L.code x = 0 → ¬ rank L x = i) ∨ (0 ≤ s ∧ s < 40 ∧ ¬ L.code s = 0 ∧ rank L s = i)) ?_ ?_ 0 (-1) (by omega) (by omega) (Or.inl ⟨rfl, fun x x0 x1 => by omega⟩)
  · intro s hs
    exact vc_atIndex_4 _ _ _ M _ ⟨by decide, fun h => by omega, fun _ => ⟨by rw [isAt_eq v (atx_is L i) hs], rfl⟩⟩
  · intro j s j0 j1 hs k
    have ef := r.1 j j0 j1
    have skip : (L.code j = 0 ∨ ¬ rank L j = i) → am_x t_Mo_atIndex (4, [.ref 58, .int (zi i), .int (zi s), .int (zi (j + 1))], [], M) _ := fun q => k s (hs.imp (fun h => ⟨h.1, fun x x0 x1 nx => by
      by_cases e : x = j
      · rw [e] at nx ⊢; exact q.resolve_left nx
      · exact h.2 x x0 (by omega) nx⟩) id)
    refine vc_atIndex_4 _ _ _ M _ ⟨⟨by omega, by omega⟩, fun _ => ⟨⟨j0, j1⟩, fun q => ?_, fun q => skip (Or.inl ?_)⟩, fun h => by omega⟩
    · have nj : ¬ L.code j = 0 := fun z => by rw [if_pos z] at ef; omega
      have rr : zr (rank L j) := by
        have a1 := sm_nn (fun k => if ¬ L.code k = 0 ∧ L.code k < L.code j then 1 else 0) 40 (fun i _ _ => by split <;> omega)
        have a2 := sm_le (fun k => if ¬ L.code k = 0 ∧ L.code k < L.code j then 1 else 0) (fun k => if k < 40 then 1 else 0) 40 (fun i _ h => by show (if _ then (1 : Int) else 0) ≤ if _ then (1 : Int) else 0; rw [if_pos h]; split <;> omega)
        rw [sm_lt 40 40 (by omega) (by omega)] at a2
        exact ⟨by unfold rank; omega, by unfold rank; omega⟩
      exact ⟨_, M, sp_indexOf r j0 j1 nj, rr, iz, fun q2 => k j (Or.inr ⟨j0, j1, nj, q2⟩), fun q2 => skip (Or.inr q2)⟩
    · by_cases z : L.code j = 0
      · exact z
      · rw [if_neg z] at ef; exact absurd ef q
def tw (L : Lw) (c k : Int) : Int := if L.tx c k < 1000 then L.tx c k else if L.code (L.tx c k - 1000) = 0 then -5 else 1000 + L.code (L.tx c k - 1000)
theorem tw_rg {L : Lw} (v : VL L) {c k : Int} (c0 : 0 ≤ c) (c1 : c < 40) (n : ¬ L.code c = 0) (k0 : 0 ≤ k) (k1 : k < L.len c) : -5 ≤ tw L c k ∧ tw L c k < 730000 := by
  have h := v.wt c k c0 c1 n k0 k1
  unfold tw
  by_cases q : L.tx c k < 1000
  · rw [if_pos q]; omega
  · rw [if_neg q]
    have := v.rg (L.tx c k - 1000) (by omega) (by omega)
    split <;> omega
theorem sp_toldWord {L : Lw} {M : am_M} (v : VL L) (r : MLR L M) {c k : Int} (c0 : 0 ≤ c) (c1 : c < 40) (n : ¬ L.code c = 0) (k0 : 0 ≤ k) (k1 : k < L.len c) : am_call t_Mo_toldWord [.ref 58, .int (zi c), .int (zi k)] M (some (.int (zi (tw L c k)))) M := by
  have ln := v.ln c c0 c1 n
  have e := (r.2.1 c c0 c1 n).2.2.2 k k0 k1
  have wt := v.wt c k c0 c1 n k0 k1
  refine am_call_of ⟨Nat.le_of_ble_eq_true rfl, rfl⟩ (vc_toldWord c k M _ ⟨⟨by omega, by omega⟩, ?_⟩)
  rw [e]
  refine ⟨fun q => ⟨by rw [tw, if_pos q], rfl⟩, fun q => ⟨⟨by omega, by omega⟩, ?_⟩⟩
  have ef := r.1 (L.tx c k - 1000) (by omega) (by omega)
  rw [ef]
  by_cases z : L.code (L.tx c k - 1000) = 0
  · rw [if_pos z]
    exact ⟨fun y => by omega, fun _ => ⟨by rw [tw, if_neg (by omega), if_pos z], rfl⟩⟩
  · rw [if_neg z]
    exact ⟨fun _ => ⟨⟨by omega, by omega⟩, by rw [tw, if_neg (by omega), if_neg z, (r.2.1 _ (by omega) (by omega) z).1], rfl⟩, fun y => absurd rfl y⟩
theorem sp_hasW {L : Lw} {M : am_M} (v : VL L) (r : MLR L M) {c x : Int} (c0 : 0 ≤ c) (c1 : c < 40) (n : ¬ L.code c = 0) (xz : zr x) : (mhw M c x ↔ has L c x) ∧ iv M 66 c ≤ 6 := by
  refine ⟨mhw_has v r c0 c1 n, ?_⟩
  rw [(r.2.1 c c0 c1 n).2.1]
  exact (v.ln c c0 c1 n).2
noncomputable def wwd (L : Lw) (x : Int) : Int := sm (fun c => if L.code c = 0 then 0 else bz (has L c x)) 40
theorem sp_withWord {L : Lw} {M : am_M} (v : VL L) (r : MLR L M) {x : Int} (xz : zr x) : am_call t_Mo_withWord [.ref 58, .int (zi x)] M (some (.int (zi (wwd L x)))) M := by
  refine am_call_of ⟨Nat.le_of_ble_eq_true rfl, rfl⟩ (vc_withWord x M _ ?_)
  refine loop_up (fun j (s : Int) => (4, [.ref 58, .int (zi x), .int (zi s), .int (zi j)], [], M)) 40 (fun j s => s = sm (fun c => if L.code c = 0 then 0 else bz (has L c x)) j) ?_ ?_ 0 0 (by omega) (by omega) rfl
  · intro s hs
    exact vc_withWord_4 _ _ _ M _ ⟨by decide, fun h => by omega, fun _ => ⟨by rw [hs]; rfl, rfl⟩⟩
  · intro j s j0 j1 hs k
    have e := sm_s (fun c => if L.code c = 0 then 0 else bz (has L c x)) j0
    have ef := r.1 j j0 j1
    refine vc_withWord_4 _ _ _ M _ ⟨⟨by omega, by omega⟩, fun _ => ⟨⟨j0, j1⟩, fun q => ?_, fun q => k _ ?_⟩, fun h => by omega⟩
    · have nj : ¬ L.code j = 0 := fun z => by rw [if_pos z] at ef; omega
      obtain ⟨h1, h2⟩ := sp_hasW v r j0 j1 nj xz
      refine ⟨⟨j0, j1, h2, xz⟩, fun q2 => k _ ?_, fun q2 => k _ ?_⟩
      · rw [e, hs, if_neg nj, bz_t (h1.mp q2)]
      · rw [e, hs, if_neg nj, bz_f (fun z => q2 (h1.mpr z))]
    · have nj : L.code j = 0 := by
        by_cases z : L.code j = 0
        · exact z
        · rw [if_neg z] at ef; exact absurd ef q
      rw [e, hs, if_pos nj]
