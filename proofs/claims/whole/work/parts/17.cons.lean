/-! the reference consolidates -/
theorem loop_dn {t : am_T} {Q : Option Value → am_M → Prop} {α : Type} (C : Int → α → am_C) (I : Int → α → Prop) (done : ∀ s, I (-1) s → am_x t (C (-1) s) Q) (step : ∀ i s, 0 ≤ i → I i s → (∀ s', I (i + (-1)) s' → am_x t (C (i + (-1)) s') Q) → am_x t (C i s) Q) : ∀ i s, -1 ≤ i → I i s → am_x t (C i s) Q := by
  have key : ∀ (k : Nat) (i : Int) (s : α), -1 ≤ i → i + 1 = (k : Int) → I i s → am_x t (C i s) Q := by
    intro k
    induction k with
    | zero => intro i s h0 h1 hi; have e : i = -1 := by omega
              subst e; exact done s hi
    | succ k ih => intro i s h0 h1 hi; exact step i s (by omega) hi (fun s' h' => ih (i + (-1)) s' (by omega) (by omega) h')
  intro i s h0 hi
  exact key (i + 1).toNat i s h0 (by omega) hi
def nxa (b off : Int → Int) (day last : Int) : Int := if nk b off day last = -1 then -1 else nk b off day last % 20
theorem nxa_of {b off : Int → Int} {day last r : Int} (w : WB b) (hl : -1 ≤ last) (h : (r = -1 ∧ ∀ a, 0 ≤ a → a < b 0 → ¬ (du b off day a ∧ last < ky b a)) ∨ (0 ≤ r ∧ r < b 0 ∧ du b off day r ∧ last < ky b r ∧ ∀ a', 0 ≤ a' → a' < b 0 → du b off day a' → last < ky b a' → ky b r ≤ ky b a')) : r = nxa b off day last := by
  unfold nxa
  rcases h with ⟨h1, h2⟩ | ⟨h1, h2, h3, h4, h5⟩
  · rw [isN_eq w (nk_is hl) (Or.inl ⟨rfl, h2⟩), if_pos rfl, h1]
  · have := w.ky_nn h1 h2
    rw [isN_eq w (nk_is hl) (Or.inr ⟨r, h1, h2, rfl, h3, h4, h5⟩), if_neg (by omega), this.2.2.1]
set_option maxRecDepth 100000 in
theorem vc_nextAmendment (d : Int) (a : Int) (l : Int) (M : am_M) (Q : Option Value → am_M → Prop) (hv : am_x t_Mo_nextAmendment (13, [.ref 58, .int (zi d), .int (zi a), .int (zi l), .int (zi (-1)), .int (zi ((iv M 59 0) - 1)), .null, .null, .null], [], M) Q) : am_x t_Mo_nextAmendment (0, am_ent (am_mL t_Mo_nextAmendment) [.ref 58, .int (zi d), .int (zi a), .int (zi l)], [], M) Q := by
  refine am_xn 0 (c1 := (0, [.ref 58, .int (zi d), .int (zi a), .int (zi l), .null, .null, .null, .null, .null], [], M)) rfl ?_
  refine am_xrd 6 59 0 (pc := 9) (ls := [.ref 58, .int (zi d), .int (zi a), .int (zi l), .int (zi (-1)), .null, .null, .null, .null]) (st := []) rfl ?_
  refine am_xisub 2 (iv M 59 0) 1 (pc := 11) (ls := [.ref 58, .int (zi d), .int (zi a), .int (zi l), .int (zi (-1)), .null, .null, .null, .null]) (st := []) rfl ?_
  refine am_xn 1 (c1 := (13, [.ref 58, .int (zi d), .int (zi a), .int (zi l), .int (zi (-1)), .int (zi ((iv M 59 0) - 1)), .null, .null, .null], [], M)) rfl ?_
  exact hv
set_option maxRecDepth 100000 in
theorem vc_nextAmendment_13 (x1 : Int) (x2 : Int) (x3 : Int) (x4 : Int) (x5 : Int) (M : am_M) (Q : Option Value → am_M → Prop) (hv : zr x5 ∧ ((x5 < 0 → Q (some (.int (zi x4))) M) ∧ (0 ≤ x5 → (0 ≤ (1 + x5) ∧ (1 + x5) < 1501) ∧ (zr x1 ∧ ((x1 < (iv M 59 (1 + x5)) → (0 ≤ x5 ∧ x5 < 20) ∧ (((iv M 63 x5) = 0 → zr x3 ∧ ((x3 < (iv M 59 (1 + x5)) → am_x t_Mo_nextAmendment (13, [.ref 58, .int (zi x1), .int (zi x2), .int (zi x3), .int (zi x4), .int (zi (x5 + (-1))), .null, .null, .null], [], M) Q) ∧ ((iv M 59 (1 + x5)) ≤ x3 → zr x4 ∧ ((x4 = (-1) → am_x t_Mo_nextAmendment (13, [.ref 58, .int (zi x1), .int (zi x2), .int (zi x3), .int (zi x5), .int (zi (x5 + (-1))), .null, .null, .null], [], M) Q) ∧ (¬ x4 = (-1) → (0 ≤ (1 + x4) ∧ (1 + x4) < 1501) ∧ (((iv M 59 (1 + x4)) < (iv M 59 (1 + x5)) → am_x t_Mo_nextAmendment (13, [.ref 58, .int (zi x1), .int (zi x2), .int (zi x3), .int (zi x4), .int (zi (x5 + (-1))), .null, .null, .null], [], M) Q) ∧ ((iv M 59 (1 + x5)) ≤ (iv M 59 (1 + x4)) → am_x t_Mo_nextAmendment (13, [.ref 58, .int (zi x1), .int (zi x2), .int (zi x3), .int (zi x5), .int (zi (x5 + (-1))), .null, .null, .null], [], M) Q))))))) ∧ (¬ (iv M 63 x5) = 0 → am_x t_Mo_nextAmendment (13, [.ref 58, .int (zi x1), .int (zi x2), .int (zi x3), .int (zi x4), .int (zi (x5 + (-1))), .null, .null, .null], [], M) Q))) ∧ ((iv M 59 (1 + x5)) ≤ x1 → ((iv M 59 (1 + x5)) = x1 → zr x2 ∧ ((x2 < x5 → (0 ≤ x5 ∧ x5 < 20) ∧ (((iv M 63 x5) = 0 → zr x3 ∧ ((x3 < (iv M 59 (1 + x5)) → am_x t_Mo_nextAmendment (13, [.ref 58, .int (zi x1), .int (zi x2), .int (zi x3), .int (zi x4), .int (zi (x5 + (-1))), .null, .null, .null], [], M) Q) ∧ ((iv M 59 (1 + x5)) ≤ x3 → zr x4 ∧ ((x4 = (-1) → am_x t_Mo_nextAmendment (13, [.ref 58, .int (zi x1), .int (zi x2), .int (zi x3), .int (zi x5), .int (zi (x5 + (-1))), .null, .null, .null], [], M) Q) ∧ (¬ x4 = (-1) → (0 ≤ (1 + x4) ∧ (1 + x4) < 1501) ∧ (((iv M 59 (1 + x4)) < (iv M 59 (1 + x5)) → am_x t_Mo_nextAmendment (13, [.ref 58, .int (zi x1), .int (zi x2), .int (zi x3), .int (zi x4), .int (zi (x5 + (-1))), .null, .null, .null], [], M) Q) ∧ ((iv M 59 (1 + x5)) ≤ (iv M 59 (1 + x4)) → am_x t_Mo_nextAmendment (13, [.ref 58, .int (zi x1), .int (zi x2), .int (zi x3), .int (zi x5), .int (zi (x5 + (-1))), .null, .null, .null], [], M) Q))))))) ∧ (¬ (iv M 63 x5) = 0 → am_x t_Mo_nextAmendment (13, [.ref 58, .int (zi x1), .int (zi x2), .int (zi x3), .int (zi x4), .int (zi (x5 + (-1))), .null, .null, .null], [], M) Q))) ∧ (x5 ≤ x2 → (0 ≤ x5 ∧ x5 < 20) ∧ (((iv M 63 x5) = 0 → zr x3 ∧ ((x3 < (iv M 59 (1 + x5)) → am_x t_Mo_nextAmendment (13, [.ref 58, .int (zi x1), .int (zi x2), .int (zi x3), .int (zi x4), .int (zi (x5 + (-1))), .null, .null, .null], [], M) Q) ∧ ((iv M 59 (1 + x5)) ≤ x3 → am_x t_Mo_nextAmendment (13, [.ref 58, .int (zi x1), .int (zi x2), .int (zi x3), .int (zi x4), .int (zi (x5 + (-1))), .null, .null, .null], [], M) Q))) ∧ (¬ (iv M 63 x5) = 0 → am_x t_Mo_nextAmendment (13, [.ref 58, .int (zi x1), .int (zi x2), .int (zi x3), .int (zi x4), .int (zi (x5 + (-1))), .null, .null, .null], [], M) Q))))) ∧ (¬ (iv M 59 (1 + x5)) = x1 → (0 ≤ x5 ∧ x5 < 20) ∧ (((iv M 63 x5) = 0 → zr x3 ∧ ((x3 < (iv M 59 (1 + x5)) → am_x t_Mo_nextAmendment (13, [.ref 58, .int (zi x1), .int (zi x2), .int (zi x3), .int (zi x4), .int (zi (x5 + (-1))), .null, .null, .null], [], M) Q) ∧ ((iv M 59 (1 + x5)) ≤ x3 → am_x t_Mo_nextAmendment (13, [.ref 58, .int (zi x1), .int (zi x2), .int (zi x3), .int (zi x4), .int (zi (x5 + (-1))), .null, .null, .null], [], M) Q))) ∧ (¬ (iv M 63 x5) = 0 → am_x t_Mo_nextAmendment (13, [.ref 58, .int (zi x1), .int (zi x2), .int (zi x3), .int (zi x4), .int (zi (x5 + (-1))), .null, .null, .null], [], M) Q))))))))) : am_x t_Mo_nextAmendment (13, [.ref 58, .int (zi x1), .int (zi x2), .int (zi x3), .int (zi x4), .int (zi x5), .null, .null, .null], [], M) Q := by
  obtain ⟨r1, hv⟩ := hv
  refine am_xn 2 (c1 := (if zi x5 < zi 0 then 122 else 18, [.ref 58, .int (zi x1), .int (zi x2), .int (zi x3), .int (zi x4), .int (zi x5), .null, .null, .null], [], M)) rfl (am_xlt r1 (by decide) (fun h => ?_) (fun h => ?_))
  · replace hv := hv.1 h
    refine am_xn 1 (c1 := (124, [.ref 58, .int (zi x1), .int (zi x2), .int (zi x3), .int (zi x4), .int (zi x5), .null, .null, .null], [.int (zi x4)], M)) rfl ?_
    exact am_xr (some (.int (zi x4))) ⟨rfl, rfl, .int, rfl, rfl⟩ hv
  · replace hv := hv.2 h
    refine am_xiadd 5 1 x5 (pc := 26) (ls := [.ref 58, .int (zi x1), .int (zi x2), .int (zi x3), .int (zi x4), .int (zi x5), .null, .null, .null]) (st := [.ref 59]) rfl ?_
    obtain ⟨r2, hv⟩ := hv
    refine am_xald rfl rfl rfl r2 ?_
    refine am_xn 0 (c1 := (27, [.ref 58, .int (zi x1), .int (zi x2), .int (zi x3), .int (zi x4), .int (zi x5), .null, .null, .null], [.int (zi (iv M 59 (1 + x5)))], M)) rfl ?_
    obtain ⟨r3, hv⟩ := hv
    refine am_xn 4 (c1 := (if zi x1 < zi (iv M 59 (1 + x5)) then 47 else 35, [.ref 58, .int (zi x1), .int (zi x2), .int (zi x3), .int (zi x4), .int (zi x5), .int (zi (iv M 59 (1 + x5))), .null, .null], [], M)) rfl (am_xlt r3 (iv_r _ _ _) (fun h => ?_) (fun h => ?_))
    · replace hv := hv.1 h
      obtain ⟨r4, hv⟩ := hv
      refine am_xn 6 (c1 := (60, [.ref 58, .int (zi x1), .int (zi x2), .int (zi x3), .int (zi x4), .int (zi x5), .int (zi (iv M 59 (1 + x5))), .int (zi 1), .null], [.int (zi x5), .ref 63], M)) rfl ?_
      refine am_xald rfl rfl rfl r4 ?_
      refine am_xn 0 (c1 := (61, [.ref 58, .int (zi x1), .int (zi x2), .int (zi x3), .int (zi x4), .int (zi x5), .int (zi (iv M 59 (1 + x5))), .int (zi 1), .null], [.int (zi (iv M 63 x5))], M)) rfl ?_
      refine am_xn 1 (c1 := (if zi (iv M 63 x5) = zi 0 then 64 else 99, [.ref 58, .int (zi x1), .int (zi x2), .int (zi x3), .int (zi x4), .int (zi x5), .int (zi (iv M 59 (1 + x5))), .int (zi 1), .null], [], M)) rfl (am_xeq (iv_r _ _ _) (by decide) (fun h => ?_) (fun h => ?_))
      · replace hv := hv.1 h
        obtain ⟨r5, hv⟩ := hv
        refine am_xn 3 (c1 := (if zi x3 < zi (iv M 59 (1 + x5)) then 99 else 70, [.ref 58, .int (zi x1), .int (zi x2), .int (zi x3), .int (zi x4), .int (zi x5), .int (zi (iv M 59 (1 + x5))), .int (zi 1), .null], [], M)) rfl (am_xlt r5 (iv_r _ _ _) (fun h => ?_) (fun h => ?_))
        · replace hv := hv.1 h
          refine am_xn 7 (c1 := (119, [.ref 58, .int (zi x1), .int (zi x2), .int (zi x3), .int (zi x4), .int (zi x5 + zi (-1)), .int (zi (iv M 59 (1 + x5))), .int (zi 1), .int (zi 0)], [], M)) rfl ?_
          rw [zi_add]
          refine am_xn 1 (c1 := (13, [.ref 58, .int (zi x1), .int (zi x2), .int (zi x3), .int (zi x4), .int (zi (x5 + (-1))), .int (zi (iv M 59 (1 + x5))), .int (zi 1), .int (zi 0)], [], M)) rfl ?_
          refine am_xf 6 ?_
          refine am_xf 7 ?_
          refine am_xf 8 ?_
          exact hv
        · replace hv := hv.2 h
          obtain ⟨r6, hv⟩ := hv
          refine am_xn 5 (c1 := (if zi x4 = zi (-1) then 95 else 81, [.ref 58, .int (zi x1), .int (zi x2), .int (zi x3), .int (zi x4), .int (zi x5), .int (zi (iv M 59 (1 + x5))), .int (zi 1), .null], [], M)) rfl (am_xeq r6 (by decide) (fun h => ?_) (fun h => ?_))
          · replace hv := hv.1 h
            refine am_xn 9 (c1 := (119, [.ref 58, .int (zi x1), .int (zi x2), .int (zi x3), .int (zi x5), .int (zi x5 + zi (-1)), .int (zi (iv M 59 (1 + x5))), .int (zi 1), .int (zi 1)], [], M)) rfl ?_
            rw [zi_add]
            refine am_xn 1 (c1 := (13, [.ref 58, .int (zi x1), .int (zi x2), .int (zi x3), .int (zi x5), .int (zi (x5 + (-1))), .int (zi (iv M 59 (1 + x5))), .int (zi 1), .int (zi 1)], [], M)) rfl ?_
            refine am_xf 6 ?_
            refine am_xf 7 ?_
            refine am_xf 8 ?_
            exact hv
          · replace hv := hv.2 h
            refine am_xiadd 6 1 x4 (pc := 91) (ls := [.ref 58, .int (zi x1), .int (zi x2), .int (zi x3), .int (zi x4), .int (zi x5), .int (zi (iv M 59 (1 + x5))), .int (zi 1), .null]) (st := [.ref 59, .int (zi (iv M 59 (1 + x5)))]) rfl ?_
            obtain ⟨r7, hv⟩ := hv
            refine am_xald rfl rfl rfl r7 ?_
            refine am_xn 0 (c1 := (92, [.ref 58, .int (zi x1), .int (zi x2), .int (zi x3), .int (zi x4), .int (zi x5), .int (zi (iv M 59 (1 + x5))), .int (zi 1), .null], [.int (zi (iv M 59 (1 + x4))), .int (zi (iv M 59 (1 + x5)))], M)) rfl ?_
            refine am_xn 1 (c1 := (if zi (iv M 59 (1 + x4)) < zi (iv M 59 (1 + x5)) then 99 else 95, [.ref 58, .int (zi x1), .int (zi x2), .int (zi x3), .int (zi x4), .int (zi x5), .int (zi (iv M 59 (1 + x5))), .int (zi 1), .null], [], M)) rfl (am_xlt (iv_r _ _ _) (iv_r _ _ _) (fun h => ?_) (fun h => ?_))
            · replace hv := hv.1 h
              refine am_xn 7 (c1 := (119, [.ref 58, .int (zi x1), .int (zi x2), .int (zi x3), .int (zi x4), .int (zi x5 + zi (-1)), .int (zi (iv M 59 (1 + x5))), .int (zi 1), .int (zi 0)], [], M)) rfl ?_
              rw [zi_add]
              refine am_xn 1 (c1 := (13, [.ref 58, .int (zi x1), .int (zi x2), .int (zi x3), .int (zi x4), .int (zi (x5 + (-1))), .int (zi (iv M 59 (1 + x5))), .int (zi 1), .int (zi 0)], [], M)) rfl ?_
              refine am_xf 6 ?_
              refine am_xf 7 ?_
              refine am_xf 8 ?_
              exact hv
            · replace hv := hv.2 h
              refine am_xn 9 (c1 := (119, [.ref 58, .int (zi x1), .int (zi x2), .int (zi x3), .int (zi x5), .int (zi x5 + zi (-1)), .int (zi (iv M 59 (1 + x5))), .int (zi 1), .int (zi 1)], [], M)) rfl ?_
              rw [zi_add]
              refine am_xn 1 (c1 := (13, [.ref 58, .int (zi x1), .int (zi x2), .int (zi x3), .int (zi x5), .int (zi (x5 + (-1))), .int (zi (iv M 59 (1 + x5))), .int (zi 1), .int (zi 1)], [], M)) rfl ?_
              refine am_xf 6 ?_
              refine am_xf 7 ?_
              refine am_xf 8 ?_
              exact hv
      · replace hv := hv.2 h
        refine am_xn 7 (c1 := (119, [.ref 58, .int (zi x1), .int (zi x2), .int (zi x3), .int (zi x4), .int (zi x5 + zi (-1)), .int (zi (iv M 59 (1 + x5))), .int (zi 1), .int (zi 0)], [], M)) rfl ?_
        rw [zi_add]
        refine am_xn 1 (c1 := (13, [.ref 58, .int (zi x1), .int (zi x2), .int (zi x3), .int (zi x4), .int (zi (x5 + (-1))), .int (zi (iv M 59 (1 + x5))), .int (zi 1), .int (zi 0)], [], M)) rfl ?_
        refine am_xf 6 ?_
        refine am_xf 7 ?_
        refine am_xf 8 ?_
        exact hv
    · replace hv := hv.2 h
      refine am_xn 3 (c1 := (if zi (iv M 59 (1 + x5)) = zi x1 then 41 else 51, [.ref 58, .int (zi x1), .int (zi x2), .int (zi x3), .int (zi x4), .int (zi x5), .int (zi (iv M 59 (1 + x5))), .null, .null], [], M)) rfl (am_xeq (iv_r _ _ _) r3 (fun h => ?_) (fun h => ?_))
      · replace hv := hv.1 h
        obtain ⟨r8, hv⟩ := hv
        refine am_xn 3 (c1 := (if zi x2 < zi x5 then 47 else 51, [.ref 58, .int (zi x1), .int (zi x2), .int (zi x3), .int (zi x4), .int (zi x5), .int (zi (iv M 59 (1 + x5))), .null, .null], [], M)) rfl (am_xlt r8 r1 (fun h => ?_) (fun h => ?_))
        · replace hv := hv.1 h
          obtain ⟨r9, hv⟩ := hv
          refine am_xn 6 (c1 := (60, [.ref 58, .int (zi x1), .int (zi x2), .int (zi x3), .int (zi x4), .int (zi x5), .int (zi (iv M 59 (1 + x5))), .int (zi 1), .null], [.int (zi x5), .ref 63], M)) rfl ?_
          refine am_xald rfl rfl rfl r9 ?_
          refine am_xn 0 (c1 := (61, [.ref 58, .int (zi x1), .int (zi x2), .int (zi x3), .int (zi x4), .int (zi x5), .int (zi (iv M 59 (1 + x5))), .int (zi 1), .null], [.int (zi (iv M 63 x5))], M)) rfl ?_
          refine am_xn 1 (c1 := (if zi (iv M 63 x5) = zi 0 then 64 else 99, [.ref 58, .int (zi x1), .int (zi x2), .int (zi x3), .int (zi x4), .int (zi x5), .int (zi (iv M 59 (1 + x5))), .int (zi 1), .null], [], M)) rfl (am_xeq (iv_r _ _ _) (by decide) (fun h => ?_) (fun h => ?_))
          · replace hv := hv.1 h
            obtain ⟨r10, hv⟩ := hv
            refine am_xn 3 (c1 := (if zi x3 < zi (iv M 59 (1 + x5)) then 99 else 70, [.ref 58, .int (zi x1), .int (zi x2), .int (zi x3), .int (zi x4), .int (zi x5), .int (zi (iv M 59 (1 + x5))), .int (zi 1), .null], [], M)) rfl (am_xlt r10 (iv_r _ _ _) (fun h => ?_) (fun h => ?_))
            · replace hv := hv.1 h
              refine am_xn 7 (c1 := (119, [.ref 58, .int (zi x1), .int (zi x2), .int (zi x3), .int (zi x4), .int (zi x5 + zi (-1)), .int (zi (iv M 59 (1 + x5))), .int (zi 1), .int (zi 0)], [], M)) rfl ?_
              rw [zi_add]
              refine am_xn 1 (c1 := (13, [.ref 58, .int (zi x1), .int (zi x2), .int (zi x3), .int (zi x4), .int (zi (x5 + (-1))), .int (zi (iv M 59 (1 + x5))), .int (zi 1), .int (zi 0)], [], M)) rfl ?_
              refine am_xf 6 ?_
              refine am_xf 7 ?_
              refine am_xf 8 ?_
              exact hv
            · replace hv := hv.2 h
              obtain ⟨r11, hv⟩ := hv
              refine am_xn 5 (c1 := (if zi x4 = zi (-1) then 95 else 81, [.ref 58, .int (zi x1), .int (zi x2), .int (zi x3), .int (zi x4), .int (zi x5), .int (zi (iv M 59 (1 + x5))), .int (zi 1), .null], [], M)) rfl (am_xeq r11 (by decide) (fun h => ?_) (fun h => ?_))
              · replace hv := hv.1 h
                refine am_xn 9 (c1 := (119, [.ref 58, .int (zi x1), .int (zi x2), .int (zi x3), .int (zi x5), .int (zi x5 + zi (-1)), .int (zi (iv M 59 (1 + x5))), .int (zi 1), .int (zi 1)], [], M)) rfl ?_
                rw [zi_add]
                refine am_xn 1 (c1 := (13, [.ref 58, .int (zi x1), .int (zi x2), .int (zi x3), .int (zi x5), .int (zi (x5 + (-1))), .int (zi (iv M 59 (1 + x5))), .int (zi 1), .int (zi 1)], [], M)) rfl ?_
                refine am_xf 6 ?_
                refine am_xf 7 ?_
                refine am_xf 8 ?_
                exact hv
              · replace hv := hv.2 h
                refine am_xiadd 6 1 x4 (pc := 91) (ls := [.ref 58, .int (zi x1), .int (zi x2), .int (zi x3), .int (zi x4), .int (zi x5), .int (zi (iv M 59 (1 + x5))), .int (zi 1), .null]) (st := [.ref 59, .int (zi (iv M 59 (1 + x5)))]) rfl ?_
                obtain ⟨r12, hv⟩ := hv
                refine am_xald rfl rfl rfl r12 ?_
                refine am_xn 0 (c1 := (92, [.ref 58, .int (zi x1), .int (zi x2), .int (zi x3), .int (zi x4), .int (zi x5), .int (zi (iv M 59 (1 + x5))), .int (zi 1), .null], [.int (zi (iv M 59 (1 + x4))), .int (zi (iv M 59 (1 + x5)))], M)) rfl ?_
                refine am_xn 1 (c1 := (if zi (iv M 59 (1 + x4)) < zi (iv M 59 (1 + x5)) then 99 else 95, [.ref 58, .int (zi x1), .int (zi x2), .int (zi x3), .int (zi x4), .int (zi x5), .int (zi (iv M 59 (1 + x5))), .int (zi 1), .null], [], M)) rfl (am_xlt (iv_r _ _ _) (iv_r _ _ _) (fun h => ?_) (fun h => ?_))
                · replace hv := hv.1 h
                  refine am_xn 7 (c1 := (119, [.ref 58, .int (zi x1), .int (zi x2), .int (zi x3), .int (zi x4), .int (zi x5 + zi (-1)), .int (zi (iv M 59 (1 + x5))), .int (zi 1), .int (zi 0)], [], M)) rfl ?_
                  rw [zi_add]
                  refine am_xn 1 (c1 := (13, [.ref 58, .int (zi x1), .int (zi x2), .int (zi x3), .int (zi x4), .int (zi (x5 + (-1))), .int (zi (iv M 59 (1 + x5))), .int (zi 1), .int (zi 0)], [], M)) rfl ?_
                  refine am_xf 6 ?_
                  refine am_xf 7 ?_
                  refine am_xf 8 ?_
                  exact hv
                · replace hv := hv.2 h
                  refine am_xn 9 (c1 := (119, [.ref 58, .int (zi x1), .int (zi x2), .int (zi x3), .int (zi x5), .int (zi x5 + zi (-1)), .int (zi (iv M 59 (1 + x5))), .int (zi 1), .int (zi 1)], [], M)) rfl ?_
                  rw [zi_add]
                  refine am_xn 1 (c1 := (13, [.ref 58, .int (zi x1), .int (zi x2), .int (zi x3), .int (zi x5), .int (zi (x5 + (-1))), .int (zi (iv M 59 (1 + x5))), .int (zi 1), .int (zi 1)], [], M)) rfl ?_
                  refine am_xf 6 ?_
                  refine am_xf 7 ?_
                  refine am_xf 8 ?_
                  exact hv
          · replace hv := hv.2 h
            refine am_xn 7 (c1 := (119, [.ref 58, .int (zi x1), .int (zi x2), .int (zi x3), .int (zi x4), .int (zi x5 + zi (-1)), .int (zi (iv M 59 (1 + x5))), .int (zi 1), .int (zi 0)], [], M)) rfl ?_
            rw [zi_add]
            refine am_xn 1 (c1 := (13, [.ref 58, .int (zi x1), .int (zi x2), .int (zi x3), .int (zi x4), .int (zi (x5 + (-1))), .int (zi (iv M 59 (1 + x5))), .int (zi 1), .int (zi 0)], [], M)) rfl ?_
            refine am_xf 6 ?_
            refine am_xf 7 ?_
            refine am_xf 8 ?_
            exact hv
        · replace hv := hv.2 h
          obtain ⟨r13, hv⟩ := hv
          refine am_xn 5 (c1 := (60, [.ref 58, .int (zi x1), .int (zi x2), .int (zi x3), .int (zi x4), .int (zi x5), .int (zi (iv M 59 (1 + x5))), .int (zi 0), .null], [.int (zi x5), .ref 63], M)) rfl ?_
          refine am_xald rfl rfl rfl r13 ?_
          refine am_xn 0 (c1 := (61, [.ref 58, .int (zi x1), .int (zi x2), .int (zi x3), .int (zi x4), .int (zi x5), .int (zi (iv M 59 (1 + x5))), .int (zi 0), .null], [.int (zi (iv M 63 x5))], M)) rfl ?_
          refine am_xn 1 (c1 := (if zi (iv M 63 x5) = zi 0 then 64 else 99, [.ref 58, .int (zi x1), .int (zi x2), .int (zi x3), .int (zi x4), .int (zi x5), .int (zi (iv M 59 (1 + x5))), .int (zi 0), .null], [], M)) rfl (am_xeq (iv_r _ _ _) (by decide) (fun h => ?_) (fun h => ?_))
          · replace hv := hv.1 h
            obtain ⟨r14, hv⟩ := hv
            refine am_xn 3 (c1 := (if zi x3 < zi (iv M 59 (1 + x5)) then 99 else 70, [.ref 58, .int (zi x1), .int (zi x2), .int (zi x3), .int (zi x4), .int (zi x5), .int (zi (iv M 59 (1 + x5))), .int (zi 0), .null], [], M)) rfl (am_xlt r14 (iv_r _ _ _) (fun h => ?_) (fun h => ?_))
            · replace hv := hv.1 h
              refine am_xn 7 (c1 := (119, [.ref 58, .int (zi x1), .int (zi x2), .int (zi x3), .int (zi x4), .int (zi x5 + zi (-1)), .int (zi (iv M 59 (1 + x5))), .int (zi 0), .int (zi 0)], [], M)) rfl ?_
              rw [zi_add]
              refine am_xn 1 (c1 := (13, [.ref 58, .int (zi x1), .int (zi x2), .int (zi x3), .int (zi x4), .int (zi (x5 + (-1))), .int (zi (iv M 59 (1 + x5))), .int (zi 0), .int (zi 0)], [], M)) rfl ?_
              refine am_xf 6 ?_
              refine am_xf 7 ?_
              refine am_xf 8 ?_
              exact hv
            · replace hv := hv.2 h
              refine am_xn 9 (c1 := (119, [.ref 58, .int (zi x1), .int (zi x2), .int (zi x3), .int (zi x4), .int (zi x5 + zi (-1)), .int (zi (iv M 59 (1 + x5))), .int (zi 0), .int (zi 0)], [], M)) rfl ?_
              rw [zi_add]
              refine am_xn 1 (c1 := (13, [.ref 58, .int (zi x1), .int (zi x2), .int (zi x3), .int (zi x4), .int (zi (x5 + (-1))), .int (zi (iv M 59 (1 + x5))), .int (zi 0), .int (zi 0)], [], M)) rfl ?_
              refine am_xf 6 ?_
              refine am_xf 7 ?_
              refine am_xf 8 ?_
              exact hv
          · replace hv := hv.2 h
            refine am_xn 7 (c1 := (119, [.ref 58, .int (zi x1), .int (zi x2), .int (zi x3), .int (zi x4), .int (zi x5 + zi (-1)), .int (zi (iv M 59 (1 + x5))), .int (zi 0), .int (zi 0)], [], M)) rfl ?_
            rw [zi_add]
            refine am_xn 1 (c1 := (13, [.ref 58, .int (zi x1), .int (zi x2), .int (zi x3), .int (zi x4), .int (zi (x5 + (-1))), .int (zi (iv M 59 (1 + x5))), .int (zi 0), .int (zi 0)], [], M)) rfl ?_
            refine am_xf 6 ?_
            refine am_xf 7 ?_
            refine am_xf 8 ?_
            exact hv
      · replace hv := hv.2 h
        obtain ⟨r15, hv⟩ := hv
        refine am_xn 5 (c1 := (60, [.ref 58, .int (zi x1), .int (zi x2), .int (zi x3), .int (zi x4), .int (zi x5), .int (zi (iv M 59 (1 + x5))), .int (zi 0), .null], [.int (zi x5), .ref 63], M)) rfl ?_
        refine am_xald rfl rfl rfl r15 ?_
        refine am_xn 0 (c1 := (61, [.ref 58, .int (zi x1), .int (zi x2), .int (zi x3), .int (zi x4), .int (zi x5), .int (zi (iv M 59 (1 + x5))), .int (zi 0), .null], [.int (zi (iv M 63 x5))], M)) rfl ?_
        refine am_xn 1 (c1 := (if zi (iv M 63 x5) = zi 0 then 64 else 99, [.ref 58, .int (zi x1), .int (zi x2), .int (zi x3), .int (zi x4), .int (zi x5), .int (zi (iv M 59 (1 + x5))), .int (zi 0), .null], [], M)) rfl (am_xeq (iv_r _ _ _) (by decide) (fun h => ?_) (fun h => ?_))
        · replace hv := hv.1 h
          obtain ⟨r16, hv⟩ := hv
          refine am_xn 3 (c1 := (if zi x3 < zi (iv M 59 (1 + x5)) then 99 else 70, [.ref 58, .int (zi x1), .int (zi x2), .int (zi x3), .int (zi x4), .int (zi x5), .int (zi (iv M 59 (1 + x5))), .int (zi 0), .null], [], M)) rfl (am_xlt r16 (iv_r _ _ _) (fun h => ?_) (fun h => ?_))
          · replace hv := hv.1 h
            refine am_xn 7 (c1 := (119, [.ref 58, .int (zi x1), .int (zi x2), .int (zi x3), .int (zi x4), .int (zi x5 + zi (-1)), .int (zi (iv M 59 (1 + x5))), .int (zi 0), .int (zi 0)], [], M)) rfl ?_
            rw [zi_add]
            refine am_xn 1 (c1 := (13, [.ref 58, .int (zi x1), .int (zi x2), .int (zi x3), .int (zi x4), .int (zi (x5 + (-1))), .int (zi (iv M 59 (1 + x5))), .int (zi 0), .int (zi 0)], [], M)) rfl ?_
            refine am_xf 6 ?_
            refine am_xf 7 ?_
            refine am_xf 8 ?_
            exact hv
          · replace hv := hv.2 h
            refine am_xn 9 (c1 := (119, [.ref 58, .int (zi x1), .int (zi x2), .int (zi x3), .int (zi x4), .int (zi x5 + zi (-1)), .int (zi (iv M 59 (1 + x5))), .int (zi 0), .int (zi 0)], [], M)) rfl ?_
            rw [zi_add]
            refine am_xn 1 (c1 := (13, [.ref 58, .int (zi x1), .int (zi x2), .int (zi x3), .int (zi x4), .int (zi (x5 + (-1))), .int (zi (iv M 59 (1 + x5))), .int (zi 0), .int (zi 0)], [], M)) rfl ?_
            refine am_xf 6 ?_
            refine am_xf 7 ?_
            refine am_xf 8 ?_
            exact hv
        · replace hv := hv.2 h
          refine am_xn 7 (c1 := (119, [.ref 58, .int (zi x1), .int (zi x2), .int (zi x3), .int (zi x4), .int (zi x5 + zi (-1)), .int (zi (iv M 59 (1 + x5))), .int (zi 0), .int (zi 0)], [], M)) rfl ?_
          rw [zi_add]
          refine am_xn 1 (c1 := (13, [.ref 58, .int (zi x1), .int (zi x2), .int (zi x3), .int (zi x4), .int (zi (x5 + (-1))), .int (zi (iv M 59 (1 + x5))), .int (zi 0), .int (zi 0)], [], M)) rfl ?_
          refine am_xf 6 ?_
          refine am_xf 7 ?_
          refine am_xf 8 ?_
          exact hv
theorem sp_nextAmendment (M : am_M) (d a day last : Int) (w : WB (iv M 59)) (dz : zr d) (az : zr a) (yz : zr day) (hl : -1 ≤ last) (hk : ∀ x, 0 ≤ x → x < iv M 59 0 → ((d < iv M 59 (1 + x) ∨ (iv M 59 (1 + x) = d ∧ a < x)) ↔ last < ky (iv M 59) x)) :
    am_call t_Mo_nextAmendment [.ref 58, .int (zi d), .int (zi a), .int (zi day)] M (some (.int (zi (nxa (iv M 59) (iv M 63) day last)))) M := by
  refine am_call_of ⟨Nat.le_of_ble_eq_true rfl, rfl⟩ (vc_nextAmendment d a day M _ ?_)
  have w0 := w.n0
  have w1 := w.n1
  refine loop_dn (fun i (s : Int) => (13, [.ref 58, .int (zi d), .int (zi a), .int (zi day), .int (zi s), .int (zi i), .null, .null, .null], [], M)) (fun i s => i < iv M 59 0 ∧ ((s = -1 ∧ ∀ x, i < x → x < iv M 59 0 → ¬ (du (iv M 59) (iv M 63) day x ∧ last < ky (iv M 59) x)) ∨ (i < s ∧ s < iv M 59 0 ∧ du (iv M 59) (iv M 63) day s ∧ last < ky (iv M 59) s ∧ ∀ x, i < x → x < iv M 59 0 → du (iv M 59) (iv M 63) day x → last < ky (iv M 59) x → ky (iv M 59) s ≤ ky (iv M 59) x))) ?_ ?_ (iv M 59 0 - 1) (-1) (by omega) ⟨by omega, Or.inl ⟨rfl, fun x h0 h1 => by omega⟩⟩
  · intro s ⟨_, hs⟩
    refine vc_nextAmendment_13 _ _ _ _ _ M _ ⟨by decide, fun _ => ⟨?_, rfl⟩, fun h => by omega⟩
    rw [nxa_of w hl (r := s) (hs.imp (fun q => ⟨q.1, fun x h0 h1 => q.2 x (by omega) h1⟩) (fun q => ⟨by omega, q.2.1, q.2.2.1, q.2.2.2.1, fun x h0 h1 => q.2.2.2.2 x (by omega) h1⟩))]
  · intro i s i0 ⟨i1, hs⟩ k
    have hr : -1 ≤ s ∧ s < iv M 59 0 := by rcases hs with q | q <;> omega
    have keep : ¬ (du (iv M 59) (iv M 63) day i ∧ last < ky (iv M 59) i) ∨ (¬ s = -1 ∧ iv M 59 (1 + s) < iv M 59 (1 + i)) → am_x t_Mo_nextAmendment (13, [.ref 58, .int (zi d), .int (zi a), .int (zi day), .int (zi s), .int (zi (i + (-1))), .null, .null, .null], [], M) _ := fun q => k s (by
      refine ⟨by omega, ?_⟩
      rcases hs with ⟨h1, h2⟩ | ⟨h1, h2, h3, h4, h5⟩
      · refine Or.inl ⟨h1, fun x h0 hx => ?_⟩
        by_cases e : x = i
        · rw [e]; exact q.resolve_right (fun z => z.1 h1)
        · exact h2 x (by omega) hx
      · refine Or.inr ⟨by omega, h2, h3, h4, fun x h0 hx y1 y2 => ?_⟩
        by_cases e : x = i
        · subst e
          rcases q with q | q
          · exact absurd ⟨y1, y2⟩ q
          · unfold ky; omega
        · exact h5 x (by omega) hx y1 y2)
    have take : (du (iv M 59) (iv M 63) day i ∧ last < ky (iv M 59) i) → (s = -1 ∨ iv M 59 (1 + i) ≤ iv M 59 (1 + s)) → am_x t_Mo_nextAmendment (13, [.ref 58, .int (zi d), .int (zi a), .int (zi day), .int (zi i), .int (zi (i + (-1))), .null, .null, .null], [], M) _ := fun p q => k i (by
      refine ⟨by omega, Or.inr ⟨by omega, i1, p.1, p.2, fun x h0 hx y1 y2 => ?_⟩⟩
      by_cases e : x = i
      · rw [e]; exact Int.le_refl _
      · rcases hs with ⟨h1, h2⟩ | ⟨h1, h2, h3, h4, h5⟩
        · exact absurd ⟨y1, y2⟩ (h2 x (by omega) hx)
        · have := h5 x (by omega) hx y1 y2
          have : ky (iv M 59) i ≤ ky (iv M 59) s := by unfold ky; omega
          omega)
    have hl' := hk i i0 i1
    have later : ∀ hlt : last < ky (iv M 59) i, (0 ≤ i ∧ i < 20) ∧ ((iv M 63 i = 0 → zr day ∧ ((day < iv M 59 (1 + i) → am_x t_Mo_nextAmendment (13, [.ref 58, .int (zi d), .int (zi a), .int (zi day), .int (zi s), .int (zi (i + (-1))), .null, .null, .null], [], M) _) ∧ (iv M 59 (1 + i) ≤ day → zr s ∧ ((s = -1 → am_x t_Mo_nextAmendment (13, [.ref 58, .int (zi d), .int (zi a), .int (zi day), .int (zi i), .int (zi (i + (-1))), .null, .null, .null], [], M) _) ∧ (¬ s = -1 → (0 ≤ 1 + s ∧ 1 + s < 1501) ∧ ((iv M 59 (1 + s) < iv M 59 (1 + i) → am_x t_Mo_nextAmendment (13, [.ref 58, .int (zi d), .int (zi a), .int (zi day), .int (zi s), .int (zi (i + (-1))), .null, .null, .null], [], M) _) ∧ (iv M 59 (1 + i) ≤ iv M 59 (1 + s) → am_x t_Mo_nextAmendment (13, [.ref 58, .int (zi d), .int (zi a), .int (zi day), .int (zi i), .int (zi (i + (-1))), .null, .null, .null], [], M) _))))))) ∧ (¬ iv M 63 i = 0 → am_x t_Mo_nextAmendment (13, [.ref 58, .int (zi d), .int (zi a), .int (zi day), .int (zi s), .int (zi (i + (-1))), .null, .null, .null], [], M) _)) := fun hlt =>
      ⟨⟨i0, by omega⟩, fun f0 => ⟨yz, fun q => keep (Or.inl (fun z => by have := z.1.2; omega)), fun q => ⟨⟨by omega, by omega⟩, fun s1 => take ⟨⟨f0, q⟩, hlt⟩ (Or.inl s1), fun s1 => ⟨⟨by omega, by omega⟩, fun q2 => keep (Or.inr ⟨s1, q2⟩), fun q2 => take ⟨⟨f0, q⟩, hlt⟩ (Or.inr q2)⟩⟩⟩, fun f0 => keep (Or.inl (fun z => f0 z.1.1))⟩
    refine vc_nextAmendment_13 _ _ _ _ _ M _ ⟨⟨by omega, by omega⟩, fun h => by omega, fun _ => ⟨⟨by omega, by omega⟩, dz, fun q => later (hl'.mp (Or.inl q)), fun q => ⟨fun q2 => ⟨az, fun q3 => later (hl'.mp (Or.inr ⟨q2, q3⟩)), fun q3 => ?_⟩, fun q2 => ?_⟩⟩⟩
    · have nl : ¬ last < ky (iv M 59) i := fun z => by rcases hl'.mpr z with y | y <;> omega
      exact ⟨⟨i0, by omega⟩, fun f0 => ⟨yz, fun _ => keep (Or.inl (fun z => nl z.2)), fun _ => keep (Or.inl (fun z => nl z.2))⟩, fun _ => keep (Or.inl (fun z => nl z.2))⟩
    · have nl : ¬ last < ky (iv M 59) i := fun z => by rcases hl'.mpr z with y | y <;> omega
      exact ⟨⟨i0, by omega⟩, fun f0 => ⟨yz, fun _ => keep (Or.inl (fun z => nl z.2)), fun _ => keep (Or.inl (fun z => nl z.2))⟩, fun _ => keep (Or.inl (fun z => nl z.2))⟩
set_option maxRecDepth 100000 in
theorem vc_consolidates (d : Int) (e : Int) (M : am_M) (Q : Option Value → am_M → Prop) (hv : am_x t_Mo_consolidates (2, [.ref 58, .int (zi d), .int (zi e), .int (zi 0), .null, .null, .null, .null], [], M) Q) : am_x t_Mo_consolidates (0, am_ent (am_mL t_Mo_consolidates) [.ref 58, .int (zi d), .int (zi e)], [], M) Q := by
  refine am_xn 0 (c1 := (0, [.ref 58, .int (zi d), .int (zi e), .null, .null, .null, .null, .null], [], M)) rfl ?_
  refine am_xn 2 (c1 := (2, [.ref 58, .int (zi d), .int (zi e), .int (zi 0), .null, .null, .null, .null], [], M)) rfl ?_
  exact hv
set_option maxRecDepth 100000 in
theorem vc_consolidates_2 (x1 : Int) (x2 : Int) (x3 : Int) (M : am_M) (Q : Option Value → am_M → Prop) (hv : zr x3 ∧ ((x3 < 40 → (0 ≤ x3 ∧ x3 < 40) ∧ (∀ M2, M2 = zup M 64 x3 0 → (0 ≤ x3 ∧ x3 < 40) ∧ (∀ M4, M4 = zup M2 66 x3 0 → am_x t_Mo_consolidates (2, [.ref 58, .int (zi x1), .int (zi x2), .int (zi (x3 + 1)), .null, .null, .null, .null], [], M4) Q))) ∧ (40 ≤ x3 → am_x t_Mo_consolidates (30, [.ref 58, .int (zi x1), .int (zi x2), .int (zi 0), .null, .null, .null, .null], [], M) Q))) : am_x t_Mo_consolidates (2, [.ref 58, .int (zi x1), .int (zi x2), .int (zi x3), .null, .null, .null, .null], [], M) Q := by
  obtain ⟨r1, hv⟩ := hv
  refine am_xn 3 (c1 := (if zi x3 < zi 40 then 8 else 28, [.ref 58, .int (zi x1), .int (zi x2), .int (zi x3), .null, .null, .null, .null], [], M)) rfl (am_xlt r1 (by decide) (fun h => ?_) (fun h => ?_))
  · replace hv := hv.1 h
    obtain ⟨r3, hv⟩ := hv
    refine am_xn 4 (c1 := (14, [.ref 58, .int (zi x1), .int (zi x2), .int (zi x3), .null, .null, .null, .null], [.int (zi 0), .int (zi x3), .ref 64], M)) rfl ?_
    refine am_xast rfl rfl rfl r3 ?_
    refine am_xn 0 (c1 := (15, [.ref 58, .int (zi x1), .int (zi x2), .int (zi x3), .null, .null, .null, .null], [], zup M 64 x3 0)) rfl ?_
    obtain ⟨M2, eM2⟩ : ∃ m, m = zup M 64 x3 0 := ⟨_, rfl⟩
    replace hv := hv M2 eM2
    rw [← eM2]
    obtain ⟨r5, hv⟩ := hv
    refine am_xn 4 (c1 := (21, [.ref 58, .int (zi x1), .int (zi x2), .int (zi x3), .null, .null, .null, .null], [.int (zi 0), .int (zi x3), .ref 66], M2)) rfl ?_
    refine am_xast rfl rfl rfl r5 ?_
    refine am_xn 0 (c1 := (22, [.ref 58, .int (zi x1), .int (zi x2), .int (zi x3), .null, .null, .null, .null], [], zup M2 66 x3 0)) rfl ?_
    obtain ⟨M4, eM4⟩ : ∃ m, m = zup M2 66 x3 0 := ⟨_, rfl⟩
    replace hv := hv M4 eM4
    rw [← eM4]
    refine am_xn 1 (c1 := (25, [.ref 58, .int (zi x1), .int (zi x2), .int (zi x3 + zi 1), .null, .null, .null, .null], [], M4)) rfl ?_
    rw [zi_add]
    refine am_xn 1 (c1 := (2, [.ref 58, .int (zi x1), .int (zi x2), .int (zi (x3 + 1)), .null, .null, .null, .null], [], M4)) rfl ?_
    exact hv
  · replace hv := hv.2 h
    refine am_xn 2 (c1 := (30, [.ref 58, .int (zi x1), .int (zi x2), .int (zi 0), .null, .null, .null, .null], [], M)) rfl ?_
    exact hv
set_option maxRecDepth 100000 in
theorem vc_consolidates_30 (x1 : Int) (x2 : Int) (x3 : Int) (M : am_M) (Q : Option Value → am_M → Prop) (hv : zr x3 ∧ ((x3 < 120 → (0 ≤ x3 ∧ x3 < 120) ∧ (∀ M2, M2 = zup M 69 x3 (-1) → (0 ≤ x3 ∧ x3 < 120) ∧ (∀ M4, M4 = zup M2 70 x3 (-1) → am_x t_Mo_consolidates (30, [.ref 58, .int (zi x1), .int (zi x2), .int (zi (x3 + 1)), .null, .null, .null, .null], [], M4) Q))) ∧ (120 ≤ x3 → ∀ M6, M6 = zup M 58 14 0 → ∃ (r8 : Int) (M7 : am_M), am_call t_Mo_nextAmendment [.ref 58, .int (zi (-1)), .int (zi (-1)), .int (zi x1)] M6 (some (.int (zi r8))) M7 ∧ (am_x t_Mo_consolidates (69, [.ref 58, .int (zi x1), .int (zi x2), .int (zi r8), .null, .null, .null, .null], [], M7) Q)))) : am_x t_Mo_consolidates (30, [.ref 58, .int (zi x1), .int (zi x2), .int (zi x3), .null, .null, .null, .null], [], M) Q := by
  obtain ⟨r1, hv⟩ := hv
  refine am_xn 3 (c1 := (if zi x3 < zi 120 then 36 else 56, [.ref 58, .int (zi x1), .int (zi x2), .int (zi x3), .null, .null, .null, .null], [], M)) rfl (am_xlt r1 (by decide) (fun h => ?_) (fun h => ?_))
  · replace hv := hv.1 h
    obtain ⟨r3, hv⟩ := hv
    refine am_xn 4 (c1 := (42, [.ref 58, .int (zi x1), .int (zi x2), .int (zi x3), .null, .null, .null, .null], [.int (zi (-1)), .int (zi x3), .ref 69], M)) rfl ?_
    refine am_xast rfl rfl rfl r3 ?_
    refine am_xn 0 (c1 := (43, [.ref 58, .int (zi x1), .int (zi x2), .int (zi x3), .null, .null, .null, .null], [], zup M 69 x3 (-1))) rfl ?_
    obtain ⟨M2, eM2⟩ : ∃ m, m = zup M 69 x3 (-1) := ⟨_, rfl⟩
    replace hv := hv M2 eM2
    rw [← eM2]
    obtain ⟨r5, hv⟩ := hv
    refine am_xn 4 (c1 := (49, [.ref 58, .int (zi x1), .int (zi x2), .int (zi x3), .null, .null, .null, .null], [.int (zi (-1)), .int (zi x3), .ref 70], M2)) rfl ?_
    refine am_xast rfl rfl rfl r5 ?_
    refine am_xn 0 (c1 := (50, [.ref 58, .int (zi x1), .int (zi x2), .int (zi x3), .null, .null, .null, .null], [], zup M2 70 x3 (-1))) rfl ?_
    obtain ⟨M4, eM4⟩ : ∃ m, m = zup M2 70 x3 (-1) := ⟨_, rfl⟩
    replace hv := hv M4 eM4
    rw [← eM4]
    refine am_xn 1 (c1 := (53, [.ref 58, .int (zi x1), .int (zi x2), .int (zi x3 + zi 1), .null, .null, .null, .null], [], M4)) rfl ?_
    rw [zi_add]
    refine am_xn 1 (c1 := (30, [.ref 58, .int (zi x1), .int (zi x2), .int (zi (x3 + 1)), .null, .null, .null, .null], [], M4)) rfl ?_
    exact hv
  · replace hv := hv.2 h
    refine am_xn 3 (c1 := (61, [.ref 58, .int (zi x1), .int (zi x2), .int (zi x3), .null, .null, .null, .null], [], zup M 58 14 0)) rfl ?_
    obtain ⟨M6, eM6⟩ : ∃ m, m = zup M 58 14 0 := ⟨_, rfl⟩
    replace hv := hv M6 eM6
    rw [← eM6]
    refine am_xn 4 (c1 := (65, [.ref 58, .int (zi x1), .int (zi x2), .int (zi x3), .null, .null, .null, .null], [.int (zi x1), .int (zi (-1)), .int (zi (-1)), .ref 58], M6)) rfl ?_
    obtain ⟨r8, M7, hc, hv⟩ := hv
    refine am_xc t_Mo_nextAmendment (.invokevirtual 124) 124 (av := [.ref 58, .int (zi (-1)), .int (zi (-1)), .int (zi x1)]) (rest := []) (rv := some (.int (zi r8))) (M' := M7) rfl rfl rfl rfl (Nat.le_of_ble_eq_true rfl) (fun _ => rfl) (hc) ?_
    refine am_xn 0 (c1 := (68, [.ref 58, .int (zi x1), .int (zi x2), .int (zi x3), .null, .null, .null, .null], [.int (zi r8)], M7)) rfl ?_
    refine am_xn 1 (c1 := (69, [.ref 58, .int (zi x1), .int (zi x2), .int (zi r8), .null, .null, .null, .null], [], M7)) rfl ?_
    exact hv
set_option maxRecDepth 100000 in
theorem vc_consolidates_69 (x1 : Int) (x2 : Int) (x3 : Int) (M : am_M) (Q : Option Value → am_M → Prop) (hv : zr x3 ∧ ((x3 = (-1) → Q none M) ∧ (¬ x3 = (-1) → (0 ≤ (1 + x3) ∧ (1 + x3) < 1501) ∧ ((0 ≤ x3 ∧ x3 ≤ 20) ∧ (am_x t_Mo_consolidates (95, [.ref 58, .int (zi x1), .int (zi x2), .int (zi x3), .int (zi (iv M 59 (1 + x3))), .int (zi (fo (iv M 59) x3)), .int (zi (fo (iv M 59) x3)), .null], [], M) Q))))) : am_x t_Mo_consolidates (69, [.ref 58, .int (zi x1), .int (zi x2), .int (zi x3), .null, .null, .null, .null], [], M) Q := by
  obtain ⟨r1, hv⟩ := hv
  refine am_xn 3 (c1 := (if zi x3 = zi (-1) then 172 else 74, [.ref 58, .int (zi x1), .int (zi x2), .int (zi x3), .null, .null, .null, .null], [], M)) rfl (am_xeq r1 (by decide) (fun h => ?_) (fun h => ?_))
  · replace hv := hv.1 h
    exact am_xr none ⟨rfl, rfl, rfl⟩ hv
  · replace hv := hv.2 h
    refine am_xiadd 5 1 x3 (pc := 81) (ls := [.ref 58, .int (zi x1), .int (zi x2), .int (zi x3), .null, .null, .null, .null]) (st := [.ref 59]) rfl ?_
    obtain ⟨r2, hv⟩ := hv
    refine am_xald rfl rfl rfl r2 ?_
    refine am_xn 0 (c1 := (82, [.ref 58, .int (zi x1), .int (zi x2), .int (zi x3), .null, .null, .null, .null], [.int (zi (iv M 59 (1 + x3)))], M)) rfl ?_
    refine am_xn 3 (c1 := (86, [.ref 58, .int (zi x1), .int (zi x2), .int (zi x3), .int (zi (iv M 59 (1 + x3))), .null, .null, .null], [.int (zi x3), .ref 58], M)) rfl ?_
    obtain ⟨g, hv⟩ := hv
    refine am_xc t_Mo_firstOf (.invokevirtual 128) 128 (av := [.ref 58, .int (zi x3)]) (rest := []) (rv := some (.int (zi (fo (iv M 59) x3)))) (M' := M) rfl rfl rfl rfl (Nat.le_of_ble_eq_true rfl) (fun _ => rfl) (sp_firstOf M x3 g) ?_
    refine am_xn 0 (c1 := (89, [.ref 58, .int (zi x1), .int (zi x2), .int (zi x3), .int (zi (iv M 59 (1 + x3))), .null, .null, .null], [.int (zi (fo (iv M 59) x3))], M)) rfl ?_
    refine am_xn 3 (c1 := (95, [.ref 58, .int (zi x1), .int (zi x2), .int (zi x3), .int (zi (iv M 59 (1 + x3))), .int (zi (fo (iv M 59) x3)), .int (zi (fo (iv M 59) x3)), .null], [], M)) rfl ?_
    exact hv
set_option maxRecDepth 100000 in
theorem vc_consolidates_95 (x1 : Int) (x2 : Int) (x3 : Int) (x4 : Int) (x5 : Int) (x6 : Int) (M : am_M) (Q : Option Value → am_M → Prop) (hv : (0 ≤ (41 + x3) ∧ (41 + x3) < 1501) ∧ (zr x6 ∧ (zr (x5 + (iv M 59 (41 + x3))) ∧ ((x6 < (x5 + (iv M 59 (41 + x3))) → (0 ≤ x6 ∧ x6 < 120 ∧ 0 ≤ (4 : Int) ∧ (4 : Int) < 12) ∧ (((pt (iv M 59) x6 4) = 1 → zr x2 ∧ ((x2 = (-1) → ∃ M5, am_call t_Mo_carriesOut [.ref 58, .int (zi x6), .int (zi x4)] M none M5 ∧ (am_x t_Mo_consolidates (95, [.ref 58, .int (zi x1), .int (zi x2), .int (zi x3), .int (zi x4), .int (zi x5), .int (zi (x6 + 1)), .null], [], M5) Q)) ∧ (¬ x2 = (-1) → zr x4 ∧ ((x2 < x4 → am_x t_Mo_consolidates (95, [.ref 58, .int (zi x1), .int (zi x2), .int (zi x3), .int (zi x4), .int (zi x5), .int (zi (x6 + 1)), .null], [], M) Q) ∧ (x4 ≤ x2 → ∃ M7, am_call t_Mo_carriesOut [.ref 58, .int (zi x6), .int (zi x4)] M none M7 ∧ (am_x t_Mo_consolidates (95, [.ref 58, .int (zi x1), .int (zi x2), .int (zi x3), .int (zi x4), .int (zi x5), .int (zi (x6 + 1)), .null], [], M7) Q)))))) ∧ (¬ (pt (iv M 59) x6 4) = 1 → ∃ M8, am_call t_Mo_carriesOut [.ref 58, .int (zi x6), .int (zi x4)] M none M8 ∧ (am_x t_Mo_consolidates (95, [.ref 58, .int (zi x1), .int (zi x2), .int (zi x3), .int (zi x4), .int (zi x5), .int (zi (x6 + 1)), .null], [], M8) Q)))) ∧ ((x5 + (iv M 59 (41 + x3))) ≤ x6 → ∃ (r10 : Int) (M9 : am_M), am_call t_Mo_nextAmendment [.ref 58, .int (zi x4), .int (zi x3), .int (zi x1)] M (some (.int (zi r10))) M9 ∧ (am_x t_Mo_consolidates (69, [.ref 58, .int (zi x1), .int (zi x2), .int (zi r10), .null, .null, .null, .null], [], M9) Q)))))) : am_x t_Mo_consolidates (95, [.ref 58, .int (zi x1), .int (zi x2), .int (zi x3), .int (zi x4), .int (zi x5), .int (zi x6), .null], [], M) Q := by
  refine am_xiadd 7 41 x3 (pc := 107) (ls := [.ref 58, .int (zi x1), .int (zi x2), .int (zi x3), .int (zi x4), .int (zi x5), .int (zi x6), .null]) (st := [.ref 59, .int (zi x5), .int (zi x6)]) rfl ?_
  obtain ⟨r1, hv⟩ := hv
  refine am_xald rfl rfl rfl r1 ?_
  refine am_xn 0 (c1 := (108, [.ref 58, .int (zi x1), .int (zi x2), .int (zi x3), .int (zi x4), .int (zi x5), .int (zi x6), .null], [.int (zi (iv M 59 (41 + x3))), .int (zi x5), .int (zi x6)], M)) rfl ?_
  refine am_xiadd 1 x5 (iv M 59 (41 + x3)) (pc := 109) (ls := [.ref 58, .int (zi x1), .int (zi x2), .int (zi x3), .int (zi x4), .int (zi x5), .int (zi x6), .null]) (st := [.int (zi x6)]) rfl ?_
  obtain ⟨r2, hv⟩ := hv
  obtain ⟨r3, hv⟩ := hv
  refine am_xn 1 (c1 := (if zi x6 < zi (x5 + (iv M 59 (41 + x3))) then 112 else 160, [.ref 58, .int (zi x1), .int (zi x2), .int (zi x3), .int (zi x4), .int (zi x5), .int (zi x6), .null], [], M)) rfl (am_xlt r2 r3 (fun h => ?_) (fun h => ?_))
  · replace hv := hv.1 h
    refine am_xn 3 (c1 := (116, [.ref 58, .int (zi x1), .int (zi x2), .int (zi x3), .int (zi x4), .int (zi x5), .int (zi x6), .null], [.int (zi 4), .int (zi x6), .ref 58], M)) rfl ?_
    obtain ⟨g, hv⟩ := hv
    refine am_xc t_Mo_part (.invokevirtual 85) 85 (av := [.ref 58, .int (zi x6), .int (zi 4)]) (rest := []) (rv := some (.int (zi (pt (iv M 59) x6 4)))) (M' := M) rfl rfl rfl rfl (Nat.le_of_ble_eq_true rfl) (fun _ => rfl) (sp_part M x6 4 g) ?_
    refine am_xn 0 (c1 := (119, [.ref 58, .int (zi x1), .int (zi x2), .int (zi x3), .int (zi x4), .int (zi x5), .int (zi x6), .null], [.int (zi (pt (iv M 59) x6 4))], M)) rfl ?_
    refine am_xn 2 (c1 := (if zi (pt (iv M 59) x6 4) = zi 1 then 123 else 138, [.ref 58, .int (zi x1), .int (zi x2), .int (zi x3), .int (zi x4), .int (zi x5), .int (zi x6), .null], [], M)) rfl (am_xeq (iv_r _ 59 _) (by decide) (fun h => ?_) (fun h => ?_))
    · replace hv := hv.1 h
      obtain ⟨r4, hv⟩ := hv
      refine am_xn 3 (c1 := (if zi x2 = zi (-1) then 138 else 128, [.ref 58, .int (zi x1), .int (zi x2), .int (zi x3), .int (zi x4), .int (zi x5), .int (zi x6), .null], [], M)) rfl (am_xeq r4 (by decide) (fun h => ?_) (fun h => ?_))
      · replace hv := hv.1 h
        refine am_xn 7 (c1 := (151, [.ref 58, .int (zi x1), .int (zi x2), .int (zi x3), .int (zi x4), .int (zi x5), .int (zi x6), .int (zi 0)], [.int (zi x4), .int (zi x6), .ref 58], M)) rfl ?_
        obtain ⟨M5, hc, hv⟩ := hv
        refine am_xc t_Mo_carriesOut (.invokevirtual 131) 131 (av := [.ref 58, .int (zi x6), .int (zi x4)]) (rest := []) (rv := none) (M' := M5) rfl rfl rfl rfl (Nat.le_of_ble_eq_true rfl) (fun _ => rfl) (hc) ?_
        refine am_xn 0 (c1 := (154, [.ref 58, .int (zi x1), .int (zi x2), .int (zi x3), .int (zi x4), .int (zi x5), .int (zi x6), .int (zi 0)], [], M5)) rfl ?_
        refine am_xn 1 (c1 := (157, [.ref 58, .int (zi x1), .int (zi x2), .int (zi x3), .int (zi x4), .int (zi x5), .int (zi x6 + zi 1), .int (zi 0)], [], M5)) rfl ?_
        rw [zi_add]
        refine am_xn 1 (c1 := (95, [.ref 58, .int (zi x1), .int (zi x2), .int (zi x3), .int (zi x4), .int (zi x5), .int (zi (x6 + 1)), .int (zi 0)], [], M5)) rfl ?_
        refine am_xf 7 ?_
        exact hv
      · replace hv := hv.2 h
        obtain ⟨r6, hv⟩ := hv
        refine am_xn 3 (c1 := (if zi x2 < zi x4 then 134 else 138, [.ref 58, .int (zi x1), .int (zi x2), .int (zi x3), .int (zi x4), .int (zi x5), .int (zi x6), .null], [], M)) rfl (am_xlt r4 r6 (fun h => ?_) (fun h => ?_))
        · replace hv := hv.1 h
          refine am_xn 6 (c1 := (157, [.ref 58, .int (zi x1), .int (zi x2), .int (zi x3), .int (zi x4), .int (zi x5), .int (zi x6 + zi 1), .int (zi 1)], [], M)) rfl ?_
          rw [zi_add]
          refine am_xn 1 (c1 := (95, [.ref 58, .int (zi x1), .int (zi x2), .int (zi x3), .int (zi x4), .int (zi x5), .int (zi (x6 + 1)), .int (zi 1)], [], M)) rfl ?_
          refine am_xf 7 ?_
          exact hv
        · replace hv := hv.2 h
          refine am_xn 7 (c1 := (151, [.ref 58, .int (zi x1), .int (zi x2), .int (zi x3), .int (zi x4), .int (zi x5), .int (zi x6), .int (zi 0)], [.int (zi x4), .int (zi x6), .ref 58], M)) rfl ?_
          obtain ⟨M7, hc, hv⟩ := hv
          refine am_xc t_Mo_carriesOut (.invokevirtual 131) 131 (av := [.ref 58, .int (zi x6), .int (zi x4)]) (rest := []) (rv := none) (M' := M7) rfl rfl rfl rfl (Nat.le_of_ble_eq_true rfl) (fun _ => rfl) (hc) ?_
          refine am_xn 0 (c1 := (154, [.ref 58, .int (zi x1), .int (zi x2), .int (zi x3), .int (zi x4), .int (zi x5), .int (zi x6), .int (zi 0)], [], M7)) rfl ?_
          refine am_xn 1 (c1 := (157, [.ref 58, .int (zi x1), .int (zi x2), .int (zi x3), .int (zi x4), .int (zi x5), .int (zi x6 + zi 1), .int (zi 0)], [], M7)) rfl ?_
          rw [zi_add]
          refine am_xn 1 (c1 := (95, [.ref 58, .int (zi x1), .int (zi x2), .int (zi x3), .int (zi x4), .int (zi x5), .int (zi (x6 + 1)), .int (zi 0)], [], M7)) rfl ?_
          refine am_xf 7 ?_
          exact hv
    · replace hv := hv.2 h
      refine am_xn 7 (c1 := (151, [.ref 58, .int (zi x1), .int (zi x2), .int (zi x3), .int (zi x4), .int (zi x5), .int (zi x6), .int (zi 0)], [.int (zi x4), .int (zi x6), .ref 58], M)) rfl ?_
      obtain ⟨M8, hc, hv⟩ := hv
      refine am_xc t_Mo_carriesOut (.invokevirtual 131) 131 (av := [.ref 58, .int (zi x6), .int (zi x4)]) (rest := []) (rv := none) (M' := M8) rfl rfl rfl rfl (Nat.le_of_ble_eq_true rfl) (fun _ => rfl) (hc) ?_
      refine am_xn 0 (c1 := (154, [.ref 58, .int (zi x1), .int (zi x2), .int (zi x3), .int (zi x4), .int (zi x5), .int (zi x6), .int (zi 0)], [], M8)) rfl ?_
      refine am_xn 1 (c1 := (157, [.ref 58, .int (zi x1), .int (zi x2), .int (zi x3), .int (zi x4), .int (zi x5), .int (zi x6 + zi 1), .int (zi 0)], [], M8)) rfl ?_
      rw [zi_add]
      refine am_xn 1 (c1 := (95, [.ref 58, .int (zi x1), .int (zi x2), .int (zi x3), .int (zi x4), .int (zi x5), .int (zi (x6 + 1)), .int (zi 0)], [], M8)) rfl ?_
      refine am_xf 7 ?_
      exact hv
  · replace hv := hv.2 h
    refine am_xn 4 (c1 := (165, [.ref 58, .int (zi x1), .int (zi x2), .int (zi x3), .int (zi x4), .int (zi x5), .int (zi x6), .null], [.int (zi x1), .int (zi x3), .int (zi x4), .ref 58], M)) rfl ?_
    obtain ⟨r10, M9, hc, hv⟩ := hv
    refine am_xc t_Mo_nextAmendment (.invokevirtual 124) 124 (av := [.ref 58, .int (zi x4), .int (zi x3), .int (zi x1)]) (rest := []) (rv := some (.int (zi r10))) (M' := M9) rfl rfl rfl rfl (Nat.le_of_ble_eq_true rfl) (fun _ => rfl) (hc) ?_
    refine am_xn 0 (c1 := (168, [.ref 58, .int (zi x1), .int (zi x2), .int (zi x3), .int (zi x4), .int (zi x5), .int (zi x6), .null], [.int (zi r10)], M9)) rfl ?_
    refine am_xn 2 (c1 := (69, [.ref 58, .int (zi x1), .int (zi x2), .int (zi r10), .int (zi x4), .int (zi x5), .int (zi x6), .null], [], M9)) rfl ?_
    refine am_xf 4 ?_
    refine am_xf 5 ?_
    refine am_xf 6 ?_
    exact hv
theorem cons_69 (M0 : am_M) (day cas : Int) (w : WB (iv M0 59)) (yz : zr day) (ez : zr cas) : ∀ (f : Nat) (last : Int) (L : Lw) (M : am_M), -1 ≤ last → MFr M0 M → KL (iv M0 59) (iv M0 63) day cas last L → MLR L M → rem (iv M0 59) (iv M0 63) day last ≤ f →
    am_x t_Mo_consolidates (69, [.ref 58, .int (zi day), .int (zi cas), .int (zi (nxa (iv M0 59) (iv M0 63) day last)), .null, .null, .null, .null], [], M) (fun r M' => r = none ∧ MFr M0 M' ∧ MLR (crf (iv M0 59) (iv M0 63) day cas f last L) M') := by
  intro f
  induction f with
  | zero =>
    intro last L M hl fr j r hr
    have e : nk (iv M0 59) (iv M0 63) day last = -1 := by
      rcases nk_is (b := iv M0 59) (off := iv M0 63) (day := day) hl with ⟨e1, _⟩ | ⟨a, a0, a1, a2, a3, a4, _⟩
      · exact e1
      · have := rem_dec w a0 a1 a3 a4
        have := rem_nn (iv M0 59) (iv M0 63) day (ky (iv M0 59) a)
        omega
    unfold nxa
    rw [if_pos e]
    exact vc_consolidates_69 _ _ _ M _ ⟨by decide, fun _ => ⟨rfl, fr, r⟩, fun h => absurd rfl h⟩
  | succ f ih =>
    intro last L M hl fr j r hr
    have b59 : iv M 59 = iv M0 59 := iv_row (fr.1 59 (by decide) (by decide))
    unfold crf
    rcases nk_is (b := iv M0 59) (off := iv M0 63) (day := day) hl with ⟨e1, e2⟩ | ⟨a, a0, a1, a2, a3, a4, a5⟩
    · unfold nxa
      rw [if_pos e1, if_pos e1]
      exact vc_consolidates_69 _ _ _ M _ ⟨by decide, fun _ => ⟨rfl, fr, r⟩, fun h => absurd rfl h⟩
    · have kn := w.ky_nn a0 a1
      have ea : nxa (iv M0 59) (iv M0 63) day last = a := by
        unfold nxa
        rw [if_neg (by omega), a2, kn.2.2.1]
      rw [ea, if_neg (by omega), a2, kn.2.2.1]
      have w1 := w.n1
      have wt := w.tot
      have wd := w.day a a0 a1
      have ws := w.sz a a0 a1
      have f0 := w.fo_nn (n := a) (by omega)
      have f1 := fo_s (iv M0 59) a0
      have f2 := w.fo_le (n := a + 1) (by omega) (by omega)
      refine vc_consolidates_69 _ _ _ M _ ⟨⟨by omega, by omega⟩, fun h => by omega, fun _ => ⟨⟨by omega, by omega⟩, ⟨a0, by omega⟩, ?_⟩⟩
      rw [b59]
      refine loop_up (fun i (s : am_M) => (95, [.ref 58, .int (zi day), .int (zi cas), .int (zi a), .int (zi (iv M0 59 (1 + a))), .int (zi (fo (iv M0 59) a)), .int (zi i), .null], [], s)) (fo (iv M0 59) a + iv M0 59 (41 + a)) (fun i s => fo (iv M0 59) a ≤ i ∧ MFr M0 s ∧ MLR (cyf (iv M0 59) cas a L (i - fo (iv M0 59) a).toNat) s) ?_ ?_ (fo (iv M0 59) a) M f0 (by omega) ⟨Int.le_refl _, fr, by rw [Int.sub_self]; exact r⟩
      · intro s ⟨_, s1, s2⟩
        have s59 : iv s 59 = iv M0 59 := iv_row (s1.1 59 (by decide) (by decide))
        have s63 : iv s 63 = iv M0 63 := iv_row (s1.1 63 (by decide) (by decide))
        refine vc_consolidates_95 _ _ _ _ _ _ s _ ⟨⟨by omega, by omega⟩, ⟨by omega, by omega⟩, ⟨by rw [s59]; omega, by rw [s59]; omega⟩, fun h => by rw [s59] at h; omega, fun _ => ?_⟩
        have hn := sp_nextAmendment s (iv M0 59 (1 + a)) a day (ky (iv M0 59) a) (by rw [s59]; exact w) (iv_r _ _ _) ⟨by omega, by omega⟩ yz (by omega) (by
          intro x x0 x1
          rw [s59] at x1 ⊢
          have := w.day x x0 x1
          unfold ky
          omega)
        rw [s59, s63] at hn
        refine ⟨_, s, hn, ih (ky (iv M0 59) a) _ s (by omega) s1 (cy_KL w j a0 a1 a3 a4 a5) ?_ (by have := rem_dec w a0 a1 a3 a4; omega)⟩
        rw [show fo (iv M0 59) a + iv M0 59 (41 + a) - fo (iv M0 59) a = iv M0 59 (41 + a) by omega] at s2
        exact s2
      · intro i s i0 i1 ⟨i2, s1, s2⟩ k
        have s59 : iv s 59 = iv M0 59 := iv_row (s1.1 59 (by decide) (by decide))
        obtain ⟨n, hn⟩ : ∃ n : Nat, n = (i - fo (iv M0 59) a).toNat := ⟨_, rfl⟩
        rw [← hn] at s2
        have ek : (i + 1 - fo (iv M0 59) a).toNat = n + 1 := by omega
        have ei : fo (iv M0 59) a + (n : Int) = i := by omega
        have jn := cyf_KL w j a0 a1 a4 n (by omega)
        have hf : (cyf (iv M0 59) cas a L n).rs i = -1 := by
          by_cases q : (cyf (iv M0 59) cas a L n).rs i = -1
          · exact q
          · rcases (jn.1.2.1 i i0 (by omega)).mp q with ⟨a', y0, y1, y2, y3, y4, y5, y6⟩ | ⟨y1, y2, _⟩
            · have := am_of w y0 y1 y2 y3 a0 a1 (by omega) (by omega)
              subst this
              omega
            · omega
        have hs := cyf_lt w j a0 a1 a3 a4 n (by omega)
        obtain ⟨M', c1, c2, c3⟩ := sp_carriesOut (M := s) (o := i) (day := iv M0 59 (1 + a)) (by rw [s59]; exact w) jn.1.1 s2 i0 (by rw [s59]; omega) wd hf hs
        rw [s59] at c3
        have yes : ¬ (pt (iv M0 59) (fo (iv M0 59) a + n) 4 = 1 ∧ ¬ cas = -1 ∧ cas < iv M0 59 (1 + a)) → am_x t_Mo_consolidates (95, [.ref 58, .int (zi day), .int (zi cas), .int (zi a), .int (zi (iv M0 59 (1 + a))), .int (zi (fo (iv M0 59) a)), .int (zi (i + 1)), .null], [], M') _ := fun q => k M' ⟨by omega, MFr_trans s1 c2, by rw [ek, cyf, if_neg q, ei]; exact c3⟩
        have no : (pt (iv M0 59) (fo (iv M0 59) a + n) 4 = 1 ∧ ¬ cas = -1 ∧ cas < iv M0 59 (1 + a)) → am_x t_Mo_consolidates (95, [.ref 58, .int (zi day), .int (zi cas), .int (zi a), .int (zi (iv M0 59 (1 + a))), .int (zi (fo (iv M0 59) a)), .int (zi (i + 1)), .null], [], s) _ := fun q => k s ⟨by omega, s1, by rw [ek, cyf, if_pos q]; exact s2⟩
        rw [ei] at yes no
        refine vc_consolidates_95 _ _ _ _ _ _ s _ ⟨⟨by omega, by omega⟩, ⟨by omega, by omega⟩, ⟨by rw [s59]; omega, by rw [s59]; omega⟩, fun h => ⟨⟨i0, by omega, by omega, by omega⟩, fun q => ⟨ez, fun q2 => ⟨M', c1, yes (fun z => z.2.1 q2)⟩, fun q2 => ⟨iv_r _ _ _, fun q3 => no ⟨by rw [s59] at q; exact q, q2, q3⟩, fun q3 => ⟨M', c1, yes (fun z => by have := z.2.2; omega)⟩⟩⟩, fun q => ⟨M', c1, yes (fun z => by rw [s59] at q; exact q z.1)⟩⟩, fun h => by rw [s59] at h; omega⟩
theorem sp_consolidates (M : am_M) (day cas : Int) (w : WB (iv M 59)) (yz : zr day) (ez : zr cas) : ∃ M', am_call t_Mo_consolidates [.ref 58, .int (zi day), .int (zi cas)] M none M' ∧ MFr M M' ∧ MLR (con (iv M 59) (iv M 63) day cas) M' := by
  suffices h : am_x t_Mo_consolidates (0, am_ent (am_mL t_Mo_consolidates) [.ref 58, .int (zi day), .int (zi cas)], [], M) (fun r M' => r = none ∧ MFr M M' ∧ MLR (con (iv M 59) (iv M 63) day cas) M') by
    obtain ⟨r, M', h1, h2, h3⟩ := am_call_ex (by exact ⟨Nat.le_of_ble_eq_true rfl, rfl⟩) h
    subst h2
    exact ⟨M', h1, h3⟩
  refine vc_consolidates day cas M _ ?_
  refine loop_up (fun i (s : am_M) => (2, [.ref 58, .int (zi day), .int (zi cas), .int (zi i), .null, .null, .null, .null], [], s)) 40 (fun i s => MFr M s ∧ ∀ c, 0 ≤ c → c < i → iv s 64 c = 0) ?_ ?_ 0 M (by omega) (by omega) ⟨MFr_refl M, fun c c0 c1 => by omega⟩
  · intro s ⟨s1, s2⟩
    refine vc_consolidates_2 _ _ _ s _ ⟨by decide, fun h => by omega, fun _ => ?_⟩
    refine loop_up (fun i (s : am_M) => (30, [.ref 58, .int (zi day), .int (zi cas), .int (zi i), .null, .null, .null, .null], [], s)) 120 (fun i s => MFr M s ∧ (∀ c, 0 ≤ c → c < 40 → iv s 64 c = 0) ∧ ∀ o, 0 ≤ o → o < i → iv s 69 o = -1 ∧ iv s 70 o = -1) ?_ ?_ 0 s (by omega) (by omega) ⟨s1, s2, fun c c0 c1 => by omega⟩
    · intro s ⟨s1, s2, s3⟩
      refine vc_consolidates_30 _ _ _ s _ ⟨by decide, fun h => by omega, fun _ M6 e6 => ?_⟩
      have fr : MFr M M6 := by rw [e6]; exact MFr_trans s1 MFr_14
      have b59 : iv M6 59 = iv M 59 := iv_row (fr.1 59 (by decide) (by decide))
      have b63 : iv M6 63 = iv M 63 := iv_row (fr.1 63 (by decide) (by decide))
      have hn := sp_nextAmendment M6 (-1) (-1) day (-1) (by rw [b59]; exact w) (by decide) (by decide) yz (by omega) (by
        intro x x0 x1
        rw [b59] at x1 ⊢
        have := w.day x x0 x1
        unfold ky
        omega)
      rw [b59, b63] at hn
      refine ⟨_, M6, hn, cons_69 M day cas w yz ez 20 (-1) L0 M6 (by omega) fr (KL_0 w) ?_ (rem_le w)⟩
      refine ⟨fun c c0 c1 => ?_, fun c _ _ n => absurd rfl n, fun o o0 o1 => ?_, ?_, fun i hi => ?_⟩
      · rw [e6, ivr _ (by decide), s2 c c0 c1]; rfl
      · rw [e6, ivr _ (by decide), ivr _ (by decide)]; exact s3 o o0 o1
      · rw [e6, ivs _ _ (by decide) (by decide) (by decide), if_pos rfl]; rfl
      · exact absurd hi (Nat.not_lt_zero i)
    · intro i s i0 i1 ⟨s1, s2, s3⟩ k
      refine vc_consolidates_30 _ _ _ s _ ⟨⟨by omega, by omega⟩, fun h => ⟨⟨i0, i1⟩, fun M2 e2 => ⟨⟨i0, i1⟩, fun M4 e4 => k M4 ⟨?_, fun c c0 c1 => ?_, fun o o0 o1 => ?_⟩⟩⟩, fun h => by omega⟩
      · rw [e4, e2]; exact MFr_trans s1 (MFr_trans (MFr_zup (by decide)) (MFr_zup (by decide)))
      · rw [e4, ivr _ (by decide), e2, ivr _ (by decide), s2 c c0 c1]
      · rw [e4, ivr _ (by decide), ivs _ _ i0 o0 (by decide), e2, ivs _ _ i0 o0 (by decide), ivr _ (by decide)]
        by_cases q : o = i
        · rw [if_pos q, if_pos q]; exact ⟨rfl, rfl⟩
        · rw [if_neg q, if_neg q]; exact s3 o o0 (by omega)
  · intro i s i0 i1 ⟨s1, s2⟩ k
    refine vc_consolidates_2 _ _ _ s _ ⟨⟨by omega, by omega⟩, fun h => ⟨⟨i0, i1⟩, fun M2 e2 => ⟨⟨i0, i1⟩, fun M4 e4 => k M4 ⟨?_, fun c c0 c1 => ?_⟩⟩⟩, fun h => by omega⟩
    · rw [e4, e2]; exact MFr_trans s1 (MFr_trans (MFr_zup (by decide)) (MFr_zup (by decide)))
    · rw [e4, ivr _ (by decide), e2, ivs _ _ i0 c0 (by decide)]
      by_cases q : c = i
      · rw [if_pos q]
      · rw [if_neg q]; exact s2 c c0 (by omega)
