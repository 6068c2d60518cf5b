/-! out of the proof of whole: math -/
def zsum (f : Int → Int) : Nat → Int
  | 0 => 0
  | k + 1 => zsum f k + f k
def sm (f : Int → Int) (n : Int) : Int := zsum f n.toNat
theorem sm_s (f : Int → Int) {n : Int} (h : 0 ≤ n) : sm f (n + 1) = sm f n + f n := by
  unfold sm
  rw [show (n + 1).toNat = n.toNat + 1 by omega, zsum, show ((n.toNat : Nat) : Int) = n by omega]
theorem zsum_le (f g : Int → Int) (k : Nat) (h : ∀ i : Int, 0 ≤ i → i < k → f i ≤ g i) : zsum f k ≤ zsum g k := by
  induction k with
  | zero => exact Int.le_refl _
  | succ k ih =>
    have h1 := ih (fun i h0 h1 => h i h0 (by omega))
    have h2 := h k (by omega) (by omega)
    show zsum f k + f k ≤ zsum g k + g k
    omega
theorem sm_le (f g : Int → Int) (n : Int) (h : ∀ i : Int, 0 ≤ i → i < n → f i ≤ g i) : sm f n ≤ sm g n := zsum_le f g _ (fun i h0 h1 => h i h0 (by omega))
theorem sm_congr {f g : Int → Int} {n : Int} (h : ∀ i : Int, 0 ≤ i → i < n → f i = g i) : sm f n = sm g n := by
  have h1 := sm_le f g n (fun i a b => by rw [h i a b]; exact Int.le_refl _)
  have h2 := sm_le g f n (fun i a b => by rw [h i a b]; exact Int.le_refl _)
  omega
theorem zsum_nn (f : Int → Int) (k : Nat) (h : ∀ i : Int, 0 ≤ i → i < k → 0 ≤ f i) : 0 ≤ zsum f k := by
  induction k with
  | zero => exact Int.le_refl _
  | succ k ih =>
    have h1 := ih (fun i h0 h1 => h i h0 (by omega))
    have h2 := h k (by omega) (by omega)
    show 0 ≤ zsum f k + f k
    omega
theorem sm_nn (f : Int → Int) (n : Int) (h : ∀ i : Int, 0 ≤ i → i < n → 0 ≤ f i) : 0 ≤ sm f n := zsum_nn f _ (fun i h0 h1 => h i h0 (by omega))
theorem zsum_mono (f : Int → Int) (k j : Nat) (h : ∀ i : Int, 0 ≤ i → i < k + j → 0 ≤ f i) : zsum f k ≤ zsum f (k + j) := by
  induction j with
  | zero => exact Int.le_refl _
  | succ j ih =>
    have h1 := ih (fun i h0 h1 => h i h0 (by omega))
    have h2 := h ((k + j : Nat) : Int) (by omega) (by omega)
    show zsum f k ≤ zsum f (k + j) + f ((k + j : Nat) : Int)
    omega
theorem sm_mono (f : Int → Int) {m n : Int} (h0 : 0 ≤ m) (h1 : m ≤ n) (h : ∀ i : Int, 0 ≤ i → i < n → 0 ≤ f i) : sm f m ≤ sm f n := by
  unfold sm
  have := zsum_mono f m.toNat (n.toNat - m.toNat) (fun i a b => h i a (by omega))
  rwa [show m.toNat + (n.toNat - m.toNat) = n.toNat by omega] at this
theorem zsum_add (f g : Int → Int) (k : Nat) : zsum (fun i => f i + g i) k = zsum f k + zsum g k := by
  induction k with
  | zero => rfl
  | succ k ih =>
    show zsum _ k + (f k + g k) = zsum f k + f k + (zsum g k + g k)
    omega
theorem sm_addf (f g : Int → Int) (n : Int) : sm (fun i => f i + g i) n = sm f n + sm g n := zsum_add f g _
theorem zsum_pt (x v : Int) (k : Nat) (hx : 0 ≤ x) : zsum (fun i => if i = x then v else 0) k = if x < k then v else 0 := by
  induction k with
  | zero => rw [if_neg (by omega)]; rfl
  | succ k ih =>
    show zsum _ k + (if (k : Int) = x then v else 0) = _
    rw [ih]
    by_cases h1 : x < k
    · rw [if_pos h1, if_neg (by omega), if_pos (by omega)]; omega
    · by_cases h2 : (k : Int) = x
      · rw [if_neg h1, if_pos h2, if_pos (by omega)]; omega
      · rw [if_neg h1, if_neg h2, if_neg (by omega)]; omega
theorem sm_pt (x v : Int) {n : Int} (hx : 0 ≤ x) (hn : x < n) : sm (fun i => if i = x then v else 0) n = v := by
  unfold sm
  rw [zsum_pt x v _ hx, if_pos (by omega)]
def fu (f : Int → Int) (i v : Int) : Int → Int := fun j => if j = i then v else f j
theorem fu_s (f : Int → Int) (i v : Int) : fu f i v i = v := if_pos rfl
theorem fu_n (f : Int → Int) {i v j : Int} (h : ¬ j = i) : fu f i v j = f j := if_neg h
def fo (b : Int → Int) (a : Int) : Int := sm (fun k => b (41 + k)) a
def nops (b : Int → Int) : Int := fo b (b 0)
def pt (b : Int → Int) (o c : Int) : Int := b (61 + 12 * o + c)
def ia (b : Int → Int) (o : Int) : Int := sm (fun k => if pt b k 0 = 0 then 1 else 0) o
def WO (f : Int → Int) : Prop :=
  (0 ≤ f 0 ∧ f 0 ≤ 4) ∧
  (729 ≤ f 1 ∧ f 1 < 729000) ∧
  (0 ≤ f 2 ∧ f 2 < 729000) ∧
  (f 0 = 3 → 729 ≤ f 2) ∧
  (f 0 = 4 → f 2 ≤ 999) ∧
  (0 ≤ f 3 ∧ f 3 ≤ 999) ∧
  (f 4 = 0 ∨ f 4 = 1) ∧
  (0 ≤ f 5 ∧ f 5 ≤ 6) ∧
  (2 ≤ f 0 → f 5 = 0) ∧
  (∀ k, 0 ≤ k → k < f 5 → (0 ≤ f (6 + k) ∧ f (6 + k) ≤ 999) ∨ (1729 ≤ f (6 + k) ∧ f (6 + k) < 730000))
theorem WO.kd {f : Int → Int} (w : WO f) : 0 ≤ f 0 ∧ f 0 ≤ 4 := w.1
theorem WO.cd {f : Int → Int} (w : WO f) : 729 ≤ f 1 ∧ f 1 < 729000 := w.2.1
theorem WO.fs {f : Int → Int} (w : WO f) : 0 ≤ f 2 ∧ f 2 < 729000 := w.2.2.1
theorem WO.f3 {f : Int → Int} (w : WO f) : f 0 = 3 → 729 ≤ f 2 := w.2.2.2.1
theorem WO.f4 {f : Int → Int} (w : WO f) : f 0 = 4 → f 2 ≤ 999 := w.2.2.2.2.1
theorem WO.sc {f : Int → Int} (w : WO f) : 0 ≤ f 3 ∧ f 3 ≤ 999 := w.2.2.2.2.2.1
theorem WO.ln {f : Int → Int} (w : WO f) : 0 ≤ f 5 ∧ f 5 ≤ 6 := w.2.2.2.2.2.2.2.1
theorem WO.wd {f : Int → Int} (w : WO f) : ∀ k, 0 ≤ k → k < f 5 → (0 ≤ f (6 + k) ∧ f (6 + k) ≤ 999) ∨ (1729 ≤ f (6 + k) ∧ f (6 + k) < 730000) := w.2.2.2.2.2.2.2.2.2
def WB (b : Int → Int) : Prop :=
  (0 ≤ b 0) ∧
  (b 0 ≤ 20) ∧
  (∀ a, 0 ≤ a → a < b 0 → 0 ≤ b (1 + a) ∧ b (1 + a) ≤ 9999) ∧
  (∀ a, 0 ≤ a → a < b 0 → b (21 + a) = 0 ∨ b (21 + a) = 1) ∧
  (∀ a, 0 ≤ a → a < b 0 → 1 ≤ b (41 + a) ∧ b (41 + a) ≤ 40) ∧
  (nops b ≤ 120) ∧
  (ia b (nops b) ≤ 40) ∧
  (∀ o, 0 ≤ o → o < nops b → WO (pt b o))
theorem WB.n0 {b : Int → Int} (w : WB b) : 0 ≤ b 0 := w.1
theorem WB.n1 {b : Int → Int} (w : WB b) : b 0 ≤ 20 := w.2.1
theorem WB.day {b : Int → Int} (w : WB b) : ∀ a, 0 ≤ a → a < b 0 → 0 ≤ b (1 + a) ∧ b (1 + a) ≤ 9999 := w.2.2.1
theorem WB.rev {b : Int → Int} (w : WB b) : ∀ a, 0 ≤ a → a < b 0 → b (21 + a) = 0 ∨ b (21 + a) = 1 := w.2.2.2.1
theorem WB.sz {b : Int → Int} (w : WB b) : ∀ a, 0 ≤ a → a < b 0 → 1 ≤ b (41 + a) ∧ b (41 + a) ≤ 40 := w.2.2.2.2.1
theorem WB.tot {b : Int → Int} (w : WB b) : nops b ≤ 120 := w.2.2.2.2.2.1
theorem WB.ins {b : Int → Int} (w : WB b) : ia b (nops b) ≤ 40 := w.2.2.2.2.2.2.1
theorem WB.op {b : Int → Int} (w : WB b) : ∀ o, 0 ≤ o → o < nops b → WO (pt b o) := w.2.2.2.2.2.2.2
theorem fo_s (b : Int → Int) {a : Int} (h : 0 ≤ a) : fo b (a + 1) = fo b a + b (41 + a) := sm_s _ h
theorem ia_s (b : Int → Int) {o : Int} (h : 0 ≤ o) : ia b (o + 1) = ia b o + if pt b o 0 = 0 then 1 else 0 := sm_s _ h
theorem WB.fo_mono {b : Int → Int} (w : WB b) {m n : Int} (h0 : 0 ≤ m) (h1 : m ≤ n) (h2 : n ≤ b 0) : fo b m ≤ fo b n := sm_mono _ h0 h1 (fun i a c => by have := (w.sz i a (by omega)).1; omega)
theorem WB.fo_nn {b : Int → Int} (w : WB b) {n : Int} (h2 : n ≤ b 0) : 0 ≤ fo b n := sm_nn _ _ (fun i a c => by have := (w.sz i a (by omega)).1; omega)
theorem WB.fo_le {b : Int → Int} (w : WB b) {n : Int} (h0 : 0 ≤ n) (h2 : n ≤ b 0) : fo b n ≤ nops b := w.fo_mono h0 h2 (Int.le_refl _)
theorem ia_nn (b : Int → Int) (o : Int) : 0 ≤ ia b o := sm_nn _ _ (fun i _ _ => by split <;> omega)
theorem ia_mono (b : Int → Int) {m n : Int} (h0 : 0 ≤ m) (h1 : m ≤ n) : ia b m ≤ ia b n := sm_mono _ h0 h1 (fun i _ _ => by split <;> omega)
theorem WB.ia_lt {b : Int → Int} (w : WB b) {o : Int} (h0 : 0 ≤ o) (h1 : o < nops b) (hk : pt b o 0 = 0) : 0 ≤ ia b o ∧ ia b o < 40 := by
  have h2 := ia_s b h0
  rw [if_pos hk] at h2
  have h3 := ia_mono b (m := o + 1) (n := nops b) (by omega) (by omega)
  have h4 := w.ins
  have h5 := ia_nn b o
  omega
/-- which amendment an operation belongs to -/
theorem am_of {b : Int → Int} (w : WB b) {a a' o : Int} (h0 : 0 ≤ a) (h1 : a < b 0) (h2 : fo b a ≤ o) (h3 : o < fo b (a + 1)) (g0 : 0 ≤ a') (g1 : a' < b 0) (g2 : fo b a' ≤ o) (g3 : o < fo b (a' + 1)) : a = a' := by
  by_cases hl : a < a'
  · have := w.fo_mono (m := a + 1) (n := a') (by omega) (by omega) (by omega)
    omega
  · by_cases hg : a' < a
    · have := w.fo_mono (m := a' + 1) (n := a) (by omega) (by omega) (by omega)
      omega
    · omega
abbrev Lw : Type := (Int → Int) × (Int → Int) × (Int → Int) × (Int → Int → Int) × (Int → Int) × (Int → Int) × (List Int) × (List Int)
def Lw.code (L : Lw) : Int → Int := L.1
def Lw.len (L : Lw) : Int → Int := L.2.1
def Lw.lst (L : Lw) : Int → Int := L.2.2.1
def Lw.tx (L : Lw) : Int → Int → Int := L.2.2.2.1
def Lw.rs (L : Lw) : Int → Int := L.2.2.2.2.1
def Lw.af (L : Lw) : Int → Int := L.2.2.2.2.2.1
def Lw.sq (L : Lw) : List Int := L.2.2.2.2.2.2.1
def Lw.ef (L : Lw) : List Int := L.2.2.2.2.2.2.2
def isH (L : Lw) (x h : Int) : Prop := (h = -1 ∧ ∀ c, 0 ≤ c → c < 40 → ¬ L.code c = x) ∨ (0 ≤ h ∧ h < 40 ∧ L.code h = x)
theorem isH_ex (L : Lw) (x : Int) : ∃ h, isH L x h := by
  by_cases q : ∃ c, 0 ≤ c ∧ c < 40 ∧ L.code c = x
  · obtain ⟨c, h⟩ := q; exact ⟨c, Or.inr h⟩
  · exact ⟨-1, Or.inl ⟨rfl, fun c h0 h1 h2 => q ⟨c, h0, h1, h2⟩⟩⟩
noncomputable def hold (L : Lw) (x : Int) : Int := (isH_ex L x).choose
theorem hold_is (L : Lw) (x : Int) : isH L x (hold L x) := (isH_ex L x).choose_spec
def VL (L : Lw) : Prop :=
  (∀ c, 0 ≤ c → c < 40 → L.code c = 0 ∨ (729 ≤ L.code c ∧ L.code c < 729000)) ∧
  (∀ c d, 0 ≤ c → c < 40 → 0 ≤ d → d < 40 → L.code c = L.code d → ¬ L.code c = 0 → c = d) ∧
  (∀ c, 0 ≤ c → c < 40 → ¬ L.code c = 0 → 0 ≤ L.len c ∧ L.len c ≤ 6) ∧
  (∀ c, 0 ≤ c → c < 40 → ¬ L.code c = 0 → 0 ≤ L.lst c ∧ L.lst c ≤ 9999) ∧
  (∀ c k, 0 ≤ c → c < 40 → ¬ L.code c = 0 → 0 ≤ k → k < L.len c → 0 ≤ L.tx c k ∧ L.tx c k < 1040) ∧
  (∀ o, -1 ≤ L.rs o ∧ L.rs o ≤ 4) ∧
  (∀ o, (L.af o = -1 ∧ ¬ L.rs o = 0) ∨ (0 ≤ L.af o ∧ L.af o < 40 ∧ L.rs o = 0))
theorem VL.rg {L : Lw} (w : VL L) : ∀ c, 0 ≤ c → c < 40 → L.code c = 0 ∨ (729 ≤ L.code c ∧ L.code c < 729000) := w.1
theorem VL.un {L : Lw} (w : VL L) : ∀ c d, 0 ≤ c → c < 40 → 0 ≤ d → d < 40 → L.code c = L.code d → ¬ L.code c = 0 → c = d := w.2.1
theorem VL.ln {L : Lw} (w : VL L) : ∀ c, 0 ≤ c → c < 40 → ¬ L.code c = 0 → 0 ≤ L.len c ∧ L.len c ≤ 6 := w.2.2.1
theorem VL.ls {L : Lw} (w : VL L) : ∀ c, 0 ≤ c → c < 40 → ¬ L.code c = 0 → 0 ≤ L.lst c ∧ L.lst c ≤ 9999 := w.2.2.2.1
theorem VL.wt {L : Lw} (w : VL L) : ∀ c k, 0 ≤ c → c < 40 → ¬ L.code c = 0 → 0 ≤ k → k < L.len c → 0 ≤ L.tx c k ∧ L.tx c k < 1040 := w.2.2.2.2.1
theorem VL.rs {L : Lw} (w : VL L) : ∀ o, -1 ≤ L.rs o ∧ L.rs o ≤ 4 := w.2.2.2.2.2.1
theorem VL.af {L : Lw} (w : VL L) : ∀ o, (L.af o = -1 ∧ ¬ L.rs o = 0) ∨ (0 ≤ L.af o ∧ L.af o < 40 ∧ L.rs o = 0) := w.2.2.2.2.2.2
theorem hold_eq {L : Lw} (v : VL L) {x h : Int} (hx : ¬ x = 0) (hh : isH L x h) : h = hold L x := by
  rcases hh with ⟨h1, h2⟩ | ⟨h1, h2, h3⟩
  · rcases hold_is L x with ⟨g1, _⟩ | ⟨g1, g2, g3⟩
    · rw [h1, g1]
    · exact absurd g3 (h2 _ g1 g2)
  · rcases hold_is L x with ⟨_, g2⟩ | ⟨g1, g2, g3⟩
    · exact absurd h3 (g2 _ h1 h2)
    · exact v.un _ _ h1 h2 g1 g2 (h3.trans g3.symm) (by rw [h3]; exact hx)
theorem hold_rg (L : Lw) (x : Int) : -1 ≤ hold L x ∧ hold L x < 40 := by
  rcases hold_is L x with ⟨g1, _⟩ | ⟨g1, g2, _⟩ <;> omega
theorem hold_cd {L : Lw} {x : Int} (h : ¬ hold L x = -1) : 0 ≤ hold L x ∧ hold L x < 40 ∧ L.code (hold L x) = x := by
  rcases hold_is L x with ⟨g1, _⟩ | g
  · exact absurd g1 h
  · exact g
def has (L : Lw) (c w : Int) : Prop := ∃ k, 0 ≤ k ∧ k < L.len c ∧ L.tx c k = w
def rfd (b : Int → Int) (L : Lw) (o : Int) : Prop := ∀ k, 0 ≤ k → k < pt b o 5 → pt b o (6 + k) < 1000 ∨ ¬ hold L (pt b o (6 + k) - 1000) = -1
noncomputable def rsn (b : Int → Int) (L : Lw) (o : Int) : Int :=
  if ¬ pt b o 0 = 0 ∧ hold L (pt b o 1) = -1 then 1
  else if (pt b o 0 = 0 ∧ ¬ hold L (pt b o 1) = -1) ∨ (pt b o 0 = 3 ∧ ¬ hold L (pt b o 2) = -1) then 2
  else @ite _ (pt b o 0 = 4 ∧ ¬ has L (hold L (pt b o 1)) (pt b o 2)) (Classical.propDecidable _) 3
    (@ite _ (¬ rfd b L o) (Classical.propDecidable _) 4 0)
noncomputable def wd (b : Int → Int) (L : Lw) (o k : Int) : Int := if pt b o (6 + k) < 1000 then pt b o (6 + k) else 1000 + hold L (pt b o (6 + k) - 1000)
noncomputable def eff (b : Int → Int) (L : Lw) (o day c : Int) : Lw :=
  (if pt b o 0 = 0 then fu L.code c (pt b o 1) else if pt b o 0 = 2 then fu L.code c 0 else if pt b o 0 = 3 then fu L.code c (pt b o 2) else L.code,
   if pt b o 0 < 2 then fu L.len c (pt b o 5) else L.len,
   fu L.lst c day,
   if pt b o 0 < 2 then (fun x k => if x = c then wd b L o k else L.tx x k) else if pt b o 0 = 4 then (fun x k => if x = c ∧ L.tx x k = pt b o 2 then pt b o 3 else L.tx x k) else L.tx,
   fu L.rs o 0,
   fu L.af o c,
   L.sq ++ [o],
   L.ef ++ [o])
noncomputable def ops (b : Int → Int) (L : Lw) (o day : Int) : Lw :=
  if rsn b L o = 0 then eff b L o day (if pt b o 0 = 0 then ia b o else hold L (pt b o 1)) else (L.code, L.len, L.lst, L.tx, fu L.rs o (rsn b L o), fu L.af o (-1), L.sq ++ [o], L.ef)
/-- a key orders the amendments by days, then by numbers -/
def ky (b : Int → Int) (a : Int) : Int := b (1 + a) * 20 + a
abbrev du (b off : Int → Int) (day a : Int) : Prop := off a = 0 ∧ b (1 + a) ≤ day
def nkf (b off : Int → Int) (day last : Int) : Nat → Int
  | 0 => -1
  | k + 1 => if du b off day k ∧ last < ky b k ∧ (nkf b off day last k = -1 ∨ ky b k < nkf b off day last k) then ky b k else nkf b off day last k
def nk (b off : Int → Int) (day last : Int) : Int := nkf b off day last (b 0).toNat
noncomputable def cyf (b : Int → Int) (cas a : Int) (L : Lw) : Nat → Lw
  | 0 => L
  | j + 1 => if pt b (fo b a + j) 4 = 1 ∧ ¬ cas = -1 ∧ cas < b (1 + a) then cyf b cas a L j else ops b (cyf b cas a L j) (fo b a + j) (b (1 + a))
noncomputable def cy (b : Int → Int) (cas a : Int) (L : Lw) : Lw := cyf b cas a L (b (41 + a)).toNat
noncomputable def crf (b off : Int → Int) (day cas : Int) : Nat → Int → Lw → Lw
  | 0, _, L => L
  | f + 1, last, L => if nk b off day last = -1 then L else crf b off day cas f (nk b off day last) (cy b cas (nk b off day last % 20) L)
def L0 : Lw := (fun _ => 0, fun _ => 0, fun _ => 0, fun _ _ => 0, fun _ => -1, fun _ => -1, [], [])
noncomputable def con (b off : Int → Int) (day cas : Int) : Lw := crf b off day cas 20 (-1) L0
theorem nkf_is {b off : Int → Int} {day last : Int} (hl : -1 ≤ last) : ∀ k : Nat, (nkf b off day last k = -1 ∧ ∀ a : Int, 0 ≤ a → a < k → ¬ (du b off day a ∧ last < ky b a)) ∨
    (∃ a : Int, 0 ≤ a ∧ a < k ∧ nkf b off day last k = ky b a ∧ du b off day a ∧ last < ky b a ∧ ∀ a' : Int, 0 ≤ a' → a' < k → du b off day a' → last < ky b a' → ky b a ≤ ky b a') := by
  intro k
  induction k with
  | zero => exact Or.inl ⟨rfl, fun a h0 h1 => by omega⟩
  | succ k ih =>
    unfold nkf
    by_cases h : du b off day k ∧ last < ky b k ∧ (nkf b off day last k = -1 ∨ ky b k < nkf b off day last k)
    · rw [if_pos h]
      refine Or.inr ⟨k, by omega, by omega, rfl, h.1, h.2.1, fun a' h0 h1 h2 h3 => ?_⟩
      by_cases he : a' = k
      · rw [he]; exact Int.le_refl _
      · rcases ih with ⟨_, i2⟩ | ⟨a, _, _, i3, _, _, i6⟩
        · exact absurd ⟨h2, h3⟩ (i2 a' h0 (by omega))
        · have := i6 a' h0 (by omega) h2 h3
          have := h.2.2
          omega
    · rw [if_neg h]
      rcases ih with ⟨i1, i2⟩ | ⟨a, i1, i2, i3, i4, i5, i6⟩
      · refine Or.inl ⟨i1, fun a h0 h1 h2 => ?_⟩
        by_cases he : a = k
        · subst he; exact h ⟨h2.1, h2.2, Or.inl i1⟩
        · exact i2 a h0 (by omega) h2
      · refine Or.inr ⟨a, i1, by omega, i3, i4, i5, fun a' h0 h1 h2 h3 => ?_⟩
        by_cases he : a' = k
        · subst he
          by_cases hq : ky b k < ky b a
          · exact absurd ⟨h2, h3, Or.inr (by rw [i3]; exact hq)⟩ h
          · omega
        · exact i6 a' h0 (by omega) h2 h3
def isN (b off : Int → Int) (day last key : Int) : Prop := (key = -1 ∧ ∀ a : Int, 0 ≤ a → a < b 0 → ¬ (du b off day a ∧ last < ky b a)) ∨
    (∃ a : Int, 0 ≤ a ∧ a < b 0 ∧ key = ky b a ∧ du b off day a ∧ last < ky b a ∧ ∀ a' : Int, 0 ≤ a' → a' < b 0 → du b off day a' → last < ky b a' → ky b a ≤ ky b a')
theorem nk_is {b off : Int → Int} {day last : Int} (hl : -1 ≤ last) : isN b off day last (nk b off day last) := by
  rcases nkf_is (b := b) (off := off) (day := day) hl (b 0).toNat with ⟨h1, h2⟩ | ⟨a, h1, h2, h3⟩
  · exact Or.inl ⟨h1, fun a g0 g1 => h2 a g0 (by omega)⟩
  · exact Or.inr ⟨a, h1, by omega, h3.1, h3.2.1, h3.2.2.1, fun a' g0 g1 => h3.2.2.2 a' g0 (by omega)⟩
theorem WB.ky_nn {b : Int → Int} (w : WB b) {a : Int} (h0 : 0 ≤ a) (h1 : a < b 0) : 0 ≤ ky b a ∧ ky b a ≤ 199999 ∧ ky b a % 20 = a ∧ ky b a / 20 = b (1 + a) := by
  have := w.day a h0 h1
  have := w.n1
  unfold ky
  omega
/-- how many amendments come behind a key -/
def rem (b off : Int → Int) (day last : Int) : Int := sm (fun a => if du b off day a ∧ last < ky b a then 1 else 0) (b 0)
theorem rem_le {b off : Int → Int} {day last : Int} (w : WB b) : rem b off day last ≤ 20 := by
  have h1 := sm_le (fun a => if du b off day a ∧ last < ky b a then 1 else 0) (fun _ => 1) (b 0) (fun i _ _ => by show (if _ then (1 : Int) else 0) ≤ 1; split <;> omega)
  have h2 : ∀ k : Nat, zsum (fun _ => 1) k = k := by
    intro k
    induction k with
    | zero => rfl
    | succ k ih => show zsum _ k + 1 = _; omega
  have h3 := h2 (b 0).toNat
  have h4 : sm (fun _ => 1) (b 0) = ((b 0).toNat : Nat) := h3
  have := w.n1
  have := w.n0
  unfold rem
  omega
theorem rem_nn (b off : Int → Int) (day last : Int) : 0 ≤ rem b off day last := sm_nn _ _ (fun i _ _ => by split <;> omega)
theorem rem_dec {b off : Int → Int} {day last a : Int} (w : WB b) (h0 : 0 ≤ a) (h1 : a < b 0) (h2 : du b off day a) (h3 : last < ky b a) : rem b off day (ky b a) + 1 ≤ rem b off day last := by
  have h4 := sm_le (fun x => (if du b off day x ∧ ky b a < ky b x then 1 else 0) + (if x = a then 1 else 0)) (fun x => if du b off day x ∧ last < ky b x then 1 else 0) (b 0) (fun i g0 g1 => by
    show (if du b off day i ∧ ky b a < ky b i then (1 : Int) else 0) + (if i = a then 1 else 0) ≤ if du b off day i ∧ last < ky b i then 1 else 0
    by_cases hi : i = a
    · subst hi
      rw [if_neg (by omega), if_pos rfl, if_pos ⟨h2, h3⟩]; omega
    · rw [if_neg hi]
      by_cases hd : du b off day i ∧ ky b a < ky b i
      · rw [if_pos hd, if_pos ⟨hd.1, by omega⟩]; omega
      · rw [if_neg hd]; split <;> omega)
  rw [sm_addf, sm_pt a 1 h0 h1] at h4
  exact h4
