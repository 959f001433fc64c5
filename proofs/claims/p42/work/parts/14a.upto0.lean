theorem z_upto_0 {N : Int} (hN : 0 ≤ N) : z_upto N 0 := by
  have h0 : (0 : Int32).toInt = 0 := by decide
  exact ⟨by rw [h0]; exact Int.le_refl 0, by rw [h0]; exact hN⟩
