/-! Math.max and Math.min of numbers not known -/
set_option maxRecDepth 20000 in
theorem kx_lX8 : Cond.methodLink RX8 124 Lib.Math.max.name ∈ lw_all := z_all 892 rfl rfl
set_option maxRecDepth 20000 in
theorem kx_s : Cond.static Lib.Math.max.name ∈ lw_all := z_all 893 rfl rfl
set_option maxRecDepth 20000 in
theorem kx_c : Cond.code Lib.Math.max.name Lib.Math.max.code 2 (some .int) ∈ lw_all := z_all 894 rfl rfl
theorem z_mxI {x y w : Int32} (h : w = if x < y then y else x) : (x.toInt < y.toInt ∧ w.toInt = y.toInt) ∨ (y.toInt ≤ x.toInt ∧ w.toInt = x.toInt) := by
  by_cases q : x < y
  · rw [if_pos q] at h; exact Or.inl ⟨Int32.lt_iff_toInt_lt.mp q, by rw [h]⟩
  · rw [if_neg q] at h; exact Or.inr ⟨Int.not_lt.mp fun k => q (Int32.lt_iff_toInt_lt.mpr k), by rw [h]⟩
theorem z_mnI {x y w : Int32} (h : w = if y < x then y else x) : (y.toInt < x.toInt ∧ w.toInt = y.toInt) ∨ (x.toInt ≤ y.toInt ∧ w.toInt = x.toInt) := by
  by_cases q : y < x
  · rw [if_pos q] at h; exact Or.inl ⟨Int32.lt_iff_toInt_lt.mp q, by rw [h]⟩
  · rw [if_neg q] at h; exact Or.inr ⟨Int.not_lt.mp fun k => q (Int32.lt_iff_toInt_lt.mpr k), by rw [h]⟩
