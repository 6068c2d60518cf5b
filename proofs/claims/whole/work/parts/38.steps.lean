/-! the walk, step by step -/
theorem wk_r {L : Lw} {x i k : Int} {M : am_M} (h : WK L x i k M) : 0 < iv M 53 2 ∧ iv M 53 2 ≤ 40 := by
  obtain ⟨_, h2, _, _, _, h6, _⟩ := h
  have a2 := sm_le (fun c => if iv M 55 c = -1 then 0 else 1) (fun k => if k < 40 then 1 else 0) 40 (fun i _ hi => by
    show (if iv M 55 i = -1 then (0 : Int) else 1) ≤ if i < 40 then 1 else 0
    rw [if_pos hi]
    split <;> omega)
  rw [sm_lt 40 40 (by omega) (by omega)] at a2
  exact ⟨h6.1, by omega⟩
theorem wk_rows {L : Lw} {x i k : Int} {M M' : am_M} (h : WK L x i k M) (h55 : M' 55 = M 55) (h57 : M' 57 = M 57) (h2 : iv M' 53 2 = iv M 53 2) : WK L x i k M' := by
  unfold WK at h ⊢
  rw [iv_row h55, iv_row h57, h2]
  exact h
theorem wk_skip {L : Lw} {x i k : Int} {M : am_M} (h : WK L x i k M) (hw : L.tx (iv M 57 i) k < 1000 ∨ L.code (L.tx (iv M 57 i) k - 1000) = 0) : WK L x i (k + 1) M := by
  obtain ⟨h1, h2, h3, h4, h5, h6, h7, h8, h9, h10⟩ := h
  refine ⟨h1, h2, h3, h4, h5, h6, h7, h8, h9, fun q => ⟨(h10 q).1, fun w w0 w1 w2 w3 => ?_⟩⟩
  by_cases e : w = k
  · rw [e] at w2 w3
    rcases hw with u | u
    · omega
    · exact absurd u w3
  · exact (h10 q).2 w w0 (by omega) w2 w3
theorem wk_done {L : Lw} (v : VL L) {x i : Int} {M : am_M} (h : WK L x i (L.len (iv M 57 i)) M) (i0 : 0 ≤ i) (hi : i < iv M 53 2) : WK L x (i + 1) 0 M := by
  obtain ⟨h1, h2, h3, h4, h5, h6, h7, h8, h9, h10⟩ := h
  have hq := h3 i i0 hi
  refine ⟨h1, h2, h3, h4, h5, h6, h7, h8, fun j c j0 j1 j2 he => ?_, fun q => ⟨fun l l0 l1 => ?_, fun w w0 w1 => by omega⟩⟩
  · by_cases e : j = i
    · rw [e] at he ⊢
      obtain ⟨k, k0, k1, k2, k3, k4⟩ := (edg_words v hq.1 hq.2.1 hq.2.2.2).mp he
      have := (h10 hi).2 k k0 k1 k2 (by rw [k3]; exact k4)
      rw [k3] at this
      exact this
    · exact h9 j c j0 (by omega) j2 he
  · have a := (h10 hi).1 l l0 l1
    have b := h5 i (i + 1) i0 (by omega) q
    omega
theorem wk_old {L : Lw} {x i k : Int} {M : am_M} (h : WK L x i k M) (hi : i < iv M 53 2) (i0 : 0 ≤ i) (hw : 1000 ≤ L.tx (iv M 57 i) k) (ho : ¬ iv M 55 (L.tx (iv M 57 i) k - 1000) = -1) (t0 : 0 ≤ L.tx (iv M 57 i) k - 1000) (t1 : L.tx (iv M 57 i) k - 1000 < 40) : WK L x i (k + 1) M := by
  obtain ⟨h1, h2, h3, h4, h5, h6, h7, h8, h9, h10⟩ := h
  refine ⟨h1, h2, h3, h4, h5, h6, h7, h8, h9, fun q => ⟨(h10 q).1, fun w w0 w1 w2 w3 => ?_⟩⟩
  by_cases e : w = k
  · rw [e]
    obtain ⟨j, j0, j1, j2⟩ := h4 _ t0 t1 ho
    have a := (h10 q).1 j j0 j1
    rw [j2] at a
    have := h1 _ t0 t1
    omega
  · exact (h10 q).2 w w0 (by omega) w2 w3
theorem wk_new {L : Lw} (v : VL L) {x i k : Int} {M M' : am_M} (h : WK L x i k M) (i0 : 0 ≤ i) (hi : i < iv M 53 2) (k0 : 0 ≤ k) (k1 : k < L.len (iv M 57 i)) {t : Int} (ht : L.tx (iv M 57 i) k = 1000 + t) (t0 : 0 ≤ t) (t1 : t < 40) (nt : ¬ L.code t = 0) (hn : iv M 55 t = -1)
    (e2 : iv M' 53 2 = iv M 53 2 + 1) (e55 : ∀ j, 0 ≤ j → iv M' 55 j = if j = t then iv M 55 (iv M 57 i) + 1 else iv M 55 j) (e57 : ∀ j, 0 ≤ j → iv M' 57 j = if j = iv M 53 2 then t else iv M 57 j) : WK L x i (k + 1) M' := by
  have hr := wk_r h
  obtain ⟨h1, h2, h3, h4, h5, h6, h7, h8, h9, h10⟩ := h
  obtain ⟨p, ep⟩ : ∃ p, p = iv M 57 i := ⟨_, rfl⟩
  obtain ⟨d, ed⟩ : ∃ d, d = iv M 55 p := ⟨_, rfl⟩
  obtain ⟨r, er⟩ : ∃ r, r = iv M 53 2 := ⟨_, rfl⟩
  have hq := h3 i i0 hi
  have h10 := h10 hi
  rw [← ep] at hq h10 ht k1 e55
  rw [← ed] at hq h10 e55
  rw [← er] at e2 e57 hi h1 h2 h3 h4 h5 h6 h9 h10 hr
  have dp := h1 p hq.1 hq.2.1
  rw [← ed] at dp
  have pt : ¬ p = t := fun e => by rw [e] at ed; omega
  have o55 : ∀ c, 0 ≤ c → ¬ c = t → iv M' 55 c = iv M 55 c := fun c c0 hc => by rw [e55 c c0, if_neg hc]
  have n55 : iv M' 55 t = d + 1 := by rw [e55 t t0, if_pos rfl]
  have o57 : ∀ j, 0 ≤ j → j < r → iv M' 57 j = iv M 57 j := fun j j0 j1 => by rw [e57 j j0, if_neg (by omega)]
  have n57 : iv M' 57 r = t := by rw [e57 r (by omega), if_pos rfl]
  have nq : ∀ j, 0 ≤ j → j < r → ¬ iv M 57 j = t := fun j j0 j1 e => by have := (h3 j j0 j1).2.2.1; rw [e] at this; exact this hn
  have q55 : ∀ j, 0 ≤ j → j < r → iv M' 55 (iv M' 57 j) = iv M 55 (iv M 57 j) := fun j j0 j1 => by rw [o57 j j0 j1, o55 _ (h3 j j0 j1).1 (nq j j0 j1)]
  have ip : iv M' 57 i = p := by rw [o57 i i0 hi, ep]
  have ipd : iv M' 55 p = d := by rw [o55 p hq.1 pt, ed]
  unfold WK
  rw [e2]
  refine ⟨fun c c0 c1 => ?_, ?_, fun j j0 j1 => ?_, fun c c0 c1 hc => ?_, fun j l j0 jl l1 => ?_, ⟨by omega, h6.2.1, ?_⟩, fun c c0 c1 hc => ?_, fun c n c0 c1 n0 hc => ?_, fun j c j0 j1 j2 he => ?_, fun _ => ⟨fun l l0 l1 => ?_, fun w w0 w1 w2 w3 => ?_⟩⟩
  · by_cases e : c = t
    · rw [e, n55]; omega
    · rw [o55 c c0 e]
      have := h1 c c0 c1
      omega
  · rw [cnt_new (D := iv M 55) (E := iv M' 55) (d := d + 1) t0 t1 hn (by omega) (fun j j0 _ => e55 j j0), ← h2]
  · by_cases e : j = r
    · rw [e, n57, n55]
      exact ⟨t0, t1, by omega, nt⟩
    · have := h3 j j0 (by omega)
      rw [q55 j j0 (by omega), o57 j j0 (by omega)]
      exact this
  · by_cases e : c = t
    · exact ⟨r, by omega, by omega, by rw [n57, e]⟩
    · rw [o55 c c0 e] at hc
      obtain ⟨j, j0, j1, j2⟩ := h4 c c0 c1 hc
      exact ⟨j, j0, by omega, by rw [o57 j j0 j1, j2]⟩
  · by_cases e : l = r
    · rw [e, n57, n55]
      by_cases e2 : j = r
      · rw [e2, n57, n55]; exact Int.le_refl _
      · rw [q55 j j0 (by omega)]
        exact h10.1 j j0 (by omega)
    · rw [q55 l (by omega) (by omega), q55 j j0 (by omega)]
      exact h5 j l j0 jl (by omega)
  · by_cases e : x = t
    · rw [← e] at hn; omega
    · rw [o55 x h6.2.1.1 e]; exact h6.2.2
  · by_cases e : c = t
    · rw [e, n55] at hc; omega
    · rw [o55 c c0 e] at hc; exact h7 c c0 c1 hc
  · by_cases e : c = t
    · rw [e, n55] at hc
      refine ⟨p, hq.1, hq.2.1, by rw [ipd]; omega, ?_⟩
      rw [e]
      exact (edg_words v hq.1 hq.2.1 hq.2.2.2).mpr ⟨k, k0, k1, by omega, by omega, nt⟩
    · rw [o55 c c0 e] at hc
      obtain ⟨q, q0, q1, q2, q3⟩ := h8 c n c0 c1 n0 hc
      refine ⟨q, q0, q1, ?_, q3⟩
      rw [o55 q q0 (fun z => by rw [z] at q2; omega)]
      exact q2
  · have j1' : j < r := by omega
    rw [q55 j j0 j1']
    rw [o57 j j0 j1'] at he
    have a := h9 j c j0 j1 j1' he
    by_cases e : c = t
    · rw [e] at a; omega
    · rw [o55 c he.2.1.1 e]; exact a
  · rw [ip, ipd]
    by_cases e : l = r
    · rw [e, n57, n55]; omega
    · rw [q55 l l0 (by omega)]
      exact h10.1 l l0 (by omega)
  · rw [ip, ipd] at *
    rw [ip] at w2 w3 ⊢
    by_cases e : w = k
    · rw [e, ht, show 1000 + t - 1000 = t by omega, n55]; omega
    · have a := h10.2 w w0 (by omega) w2 w3
      by_cases e2 : L.tx p w - 1000 = t
      · rw [e2, n55]; omega
      · rw [o55 _ (by omega) e2]; exact a
