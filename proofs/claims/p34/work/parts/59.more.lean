/-! out of the proof of whole: more -/
theorem lw_VL {b : Int → Int} (w : WB b) (day cas : Int) : VL (lw b day cas) := (con_is w).1.1
def CQ (M M' : am_M) : Prop := ∀ a, (a = 2 ∨ a = 3 ∨ a = 7 ∨ a = 8 ∨ a = 11 ∨ a = 12 ∨ a = 14 ∨ 58 ≤ a) → M' a = M a
theorem CQ_refl (M : am_M) : CQ M M := fun _ _ => rfl
theorem CQ_trans {M M' M'' : am_M} (h : CQ M M') (h' : CQ M' M'') : CQ M M'' := fun a ha => (h' a ha).trans (h a ha)
theorem CQ_15 {M M' : am_M} (h : CFr15 M M') : CQ M M' := fun a ha => h.1 a (by omega) (by omega)
