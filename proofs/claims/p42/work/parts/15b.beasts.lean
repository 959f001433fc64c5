/-! beasts: a drive's number, or that and 16 -/
def z_bst (x : Int32) : Prop := 0 ≤ x.toInt ∧ x.toInt ≤ 28 ∧ x.toInt % 16 ≤ 12
theorem z_i2bI {x w : Int32} {X : Int} (hw : w = x.toInt8.toInt32) (hX : x.toInt = X) (h : -128 ≤ X ∧ X ≤ 127) : w.toInt = X := by
  rw [hw, Int8.toInt_toInt32, Int32.toInt_toInt8, hX]
  exact Int.bmod_eq_of_le (by omega) (by omega)
theorem z_bst_nar {x : Int32} (h : z_bst x) : z_bst (vp_nar .byte x) := by
  have h1 : (vp_nar .byte x).toInt = x.toInt := z_i2bI (w := vp_nar .byte x) rfl rfl (by obtain ⟨a, b, -⟩ := h; omega)
  unfold z_bst
  rw [h1]; exact h
