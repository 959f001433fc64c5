/-! long numbers in range -/
theorem z_bmL {X : Int} (h : -9223372036854775808 ≤ X ∧ X ≤ 9223372036854775807) : X.bmod (2 ^ 64) = X := Int.bmod_eq_of_le (by omega) (by omega)
theorem z_lmulI {x y w : Int64} {X Y : Int} (hw : w = x * y) (hX : x.toInt = X) (hY : y.toInt = Y) (h : -9223372036854775808 ≤ X * Y ∧ X * Y ≤ 9223372036854775807) : w.toInt = X * Y := by
  subst hw; subst hX; subst hY
  rw [Int64.toInt_mul]
  exact z_bmL h
theorem z_laddI {x y w : Int64} {X Y : Int} (hw : w = x + y) (hX : x.toInt = X) (hY : y.toInt = Y) (h : -9223372036854775808 ≤ X + Y ∧ X + Y ≤ 9223372036854775807) : w.toInt = X + Y := by
  subst hw; subst hX; subst hY
  rw [Int64.toInt_add]
  exact z_bmL h
theorem z_ldivI {x y w : Int64} {X Y : Int} (hw : w = x / y) (hX : x.toInt = X) (hY : y.toInt = Y) (h : 0 ≤ X ∧ 0 < Y) : w.toInt = X / Y := by
  subst hw; subst hX; subst hY
  rw [Int64.toInt_div, Int.tdiv_eq_ediv_of_nonneg h.1]
  refine z_bmL ?_
  have h1 := Int.ediv_nonneg h.1 (Int.le_of_lt h.2)
  have h2 := Int.ediv_le_self y.toInt h.1
  have h3 := x.toInt_le
  have h5 : Int64.maxValue.toInt = 9223372036854775807 := by decide
  omega
theorem z_lremI {x y w : Int64} {X Y : Int} (hw : w = x % y) (hX : x.toInt = X) (hY : y.toInt = Y) (h : 0 ≤ X ∧ 0 < Y) : w.toInt = X % Y := by
  subst hw; subst hX; subst hY
  rw [Int64.toInt_mod, Int.tmod_eq_emod_of_nonneg h.1]
theorem z_l2iI {x : Int64} {w : Int32} {X : Int} (hw : w = x.toInt32) (hX : x.toInt = X) (h : -2147483648 ≤ X ∧ X ≤ 2147483647) : w.toInt = X := by
  subst hw; subst hX
  rw [Int64.toInt_toInt32]
  exact Int.bmod_eq_of_le (by omega) (by omega)
theorem z_lrmI {x y w : Int64} {X Y : Int} (hw : w = x - x / y * y) (hX : x.toInt = X) (hY : y.toInt = Y) (h : 0 ≤ X ∧ 0 < Y) : w.toInt = X % Y := by
  have h1 : (x / y).toInt = X / Y := z_ldivI rfl hX hY h
  have h2 := Int.ediv_mul_le X (Int.ne_of_gt h.2)
  have h3 := Int.mul_nonneg (Int.ediv_nonneg h.1 (Int.le_of_lt h.2)) (Int.le_of_lt h.2)
  have h4 := x.toInt_le
  have h5 : Int64.maxValue.toInt = 9223372036854775807 := by decide
  have h6 : (x / y * y).toInt = X / Y * Y := z_lmulI rfl h1 hY (by omega)
  rw [hw, Int64.toInt_sub, hX, h6, z_bmL (by omega), Int.emod_def, Int.mul_comm Y]
theorem z_lne0 {y : Int64} {Y : Int} (hY : y.toInt = Y) (h : Y ≠ 0) : ¬ y = 0 := fun q => h (by rw [← hY, q]; rfl)
