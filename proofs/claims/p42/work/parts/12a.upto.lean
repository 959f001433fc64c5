/-! counters and counts in 0 .. N -/
def z_upto (N : Int) (x : Int32) : Prop := 0 ≤ x.toInt ∧ x.toInt ≤ N
theorem z_upto_mono {N M : Int} {n : Nat} {g : Nat → Int32} (hNM : N ≤ M) (h : ∀ j : Nat, j < n → z_upto N (g j)) : ∀ j : Nat, j < n → z_upto M (g j) := fun j hj => ⟨(h j hj).1, Int.le_trans (h j hj).2 hNM⟩
theorem z_upto_fill {N : Int} {n : Nat} {g : Nat → Int32} (hN : 0 ≤ N) (h : ∀ j : Nat, j < n → g j = 0) : ∀ j : Nat, j < n → z_upto N (g j) := fun j hj => by
  rw [h j hj]
  have h0 : (0 : Int32).toInt = 0 := by decide
  exact ⟨by rw [h0]; exact Int.le_refl 0, by rw [h0]; exact hN⟩
theorem z_updPn {P : Int32 → Prop} {g g2 : Nat → Int32} {n k : Nat} {x : Int32} (h : ∀ j : Nat, j < n → P (g j)) (e : g2 = upd g k x) (hx : P x) : ∀ j : Nat, j < n → P (g2 j) := by
  intro j hj
  rw [e]
  unfold upd
  split
  · exact hx
  · exact h j hj
theorem z_fog {b c f : Int} (hb : 0 ≤ b) (hc : 0 ≤ c) (hf : 0 < f) : 0 ≤ b / f ∧ b / f ≤ b ∧ b / f ≤ (b + c) / f ∧ (b + c) / f ≤ b / f + c := by
  refine ⟨Int.ediv_nonneg hb (Int.le_of_lt hf), Int.ediv_le_self f hb, Int.ediv_le_ediv hf (by omega), ?_⟩
  have h1 := Int.lt_ediv_add_one_mul_self b hf
  have h2 : c * 1 ≤ c * f := Int.mul_le_mul_of_nonneg_left (by omega) hc
  have h3 : (b / f + 1) * f + c * f = (b / f + c + 1) * f := by rw [← Int.add_mul]; congr 1; omega
  have h4 : (b + c) / f < b / f + c + 1 := Int.ediv_lt_of_lt_mul hf (by omega)
  omega
theorem z_upto_of {x : Int32} (h : 0 ≤ x.toInt ∧ x.toInt ≤ 999) : z_upto 1000 x := ⟨h.1, Int.le_trans h.2 (by decide)⟩
theorem z_updPk {P : Int32 → Prop} {g g2 : Nat → Int32} {k k1 v : Int32} (h0 : 0 ≤ k.toInt) (h1 : k1.toInt = k.toInt + 1) (e : g2 = upd g k.toNatClampNeg v) (h : ∀ j : Nat, (j : Int) < k.toInt → P (g j)) (hv : P v) : ∀ j : Nat, (j : Int) < k1.toInt → P (g2 j) := by
  intro j hj
  have hc : (k.toNatClampNeg : Int) = k.toInt := Int.toNat_of_nonneg h0
  subst e
  by_cases q : j = k.toNatClampNeg
  · subst q; rw [pk_us]; exact hv
  · rw [pk_un q]; exact h j (by omega)
