/-! what the model's arrays hold -/
def q_law (_ : Nat) (x : Int32) : Prop := 0 ≤ x.toInt ∧ x.toInt ≤ 999
def q_12 (_ : Nat) (x : Int32) : Prop := 0 ≤ x.toInt ∧ x.toInt ≤ 12
def q_be (_ : Nat) (x : Int32) : Prop := 0 ≤ x.toInt ∧ x.toInt ≤ 2599
def q_3 (_ : Nat) (x : Int32) : Prop := 0 ≤ x.toInt ∧ x.toInt ≤ 3
def q_23 (_ : Nat) (x : Int32) : Prop := 0 ≤ x.toInt ∧ x.toInt ≤ 23
def q_60 (_ : Nat) (x : Int32) : Prop := 0 ≤ x.toInt ∧ x.toInt ≤ 60
def q_has (j : Nat) (x : Int32) : Prop := (j % 6 = 0 → 0 ≤ x.toInt ∧ x.toInt ≤ 4) ∧ (j % 6 = 1 → 0 ≤ x.toInt ∧ x.toInt ≤ 9) ∧ (j % 6 = 2 → 0 ≤ x.toInt ∧ x.toInt ≤ 5) ∧ (j % 6 = 3 → 0 ≤ x.toInt ∧ x.toInt ≤ 12)
def q_drv (j : Nat) (x : Int32) : Prop := (j % 8 = 0 → 0 ≤ x.toInt ∧ x.toInt ≤ 4) ∧ (j % 8 = 1 → 0 ≤ x.toInt ∧ x.toInt ≤ 3) ∧ (j % 8 = 2 → 0 ≤ x.toInt ∧ x.toInt ≤ 8) ∧ (j % 8 = 3 → 0 ≤ x.toInt ∧ x.toInt ≤ 23) ∧ (j % 8 = 4 → 0 ≤ x.toInt ∧ x.toInt ≤ 99) ∧ (j % 8 = 5 → 0 ≤ x.toInt ∧ x.toInt ≤ 99) ∧ (j % 8 = 6 → 0 ≤ x.toInt ∧ x.toInt ≤ 4) ∧ (j % 8 = 7 → 0 ≤ x.toInt ∧ x.toInt ≤ 1)
def q_du (j : Nat) (x : Int32) : Prop := j % 4 = 2 → 0 ≤ x.toInt ∧ x.toInt ≤ 12
theorem z_updQ {P : Nat → Int32 → Prop} {g g2 : Nat → Int32} {k : Nat} {x : Int32} (h : ∀ j : Nat, P j (g j)) (e : g2 = upd g k x) (hx : P k x) : ∀ j : Nat, P j (g2 j) := by
  intro j
  rw [e]
  unfold upd
  by_cases q : j = k
  · rw [if_pos q, q]; exact hx
  · rw [if_neg q]; exact h j
theorem z_mod8 {x : Int32} {X : Int} {k : Nat} (hX : x.toInt = X) (h : 0 ≤ X ∧ X % 8 = k) : x.toNatClampNeg % 8 = k := by
  have hc : ((x.toNatClampNeg : Nat) : Int) = x.toInt := Int.toNat_of_nonneg (by omega)
  omega
theorem z_mod4 {x : Int32} {X : Int} {k : Nat} (hX : x.toInt = X) (h : 0 ≤ X ∧ X % 4 = k) : x.toNatClampNeg % 4 = k := by
  have hc : ((x.toNatClampNeg : Nat) : Int) = x.toInt := Int.toNat_of_nonneg (by omega)
  omega
theorem z_nmod4 {x : Int32} {X : Int} {k : Nat} (hX : x.toInt = X) (h : 0 ≤ X ∧ X % 4 = k) (hk : k ≠ 2) : ¬ x.toNatClampNeg % 4 = 2 := by
  rw [z_mod4 hX h]; exact hk
theorem z_drS {j : Nat} {x : Int32} {k : Nat} {hi : Int} (hk : j % 8 = k) (hx : 0 ≤ x.toInt ∧ x.toInt ≤ hi) (h : (k = 0 ∧ hi = 4) ∨ (k = 1 ∧ hi = 3) ∨ (k = 2 ∧ hi = 8) ∨ (k = 3 ∧ hi = 23) ∨ (k = 4 ∧ hi = 99) ∨ (k = 5 ∧ hi = 99) ∨ (k = 6 ∧ hi = 4) ∨ (k = 7 ∧ hi = 1)) : q_drv j x := by
  unfold q_drv
  omega
theorem z_drS0 {j : Nat} {x : Int32} (hk : j % 8 = 0) (hx : 0 ≤ x.toInt ∧ x.toInt ≤ 4) : q_drv j x := z_drS hk hx (by omega)
theorem z_drS1 {j : Nat} {x : Int32} (hk : j % 8 = 1) (hx : 0 ≤ x.toInt ∧ x.toInt ≤ 3) : q_drv j x := z_drS hk hx (by omega)
theorem z_drS2 {j : Nat} {x : Int32} (hk : j % 8 = 2) (hx : 0 ≤ x.toInt ∧ x.toInt ≤ 8) : q_drv j x := z_drS hk hx (by omega)
theorem z_drS3 {j : Nat} {x : Int32} (hk : j % 8 = 3) (hx : 0 ≤ x.toInt ∧ x.toInt ≤ 23) : q_drv j x := z_drS hk hx (by omega)
theorem z_drS4 {j : Nat} {x : Int32} (hk : j % 8 = 4) (hx : 0 ≤ x.toInt ∧ x.toInt ≤ 99) : q_drv j x := z_drS hk hx (by omega)
theorem z_drS5 {j : Nat} {x : Int32} (hk : j % 8 = 5) (hx : 0 ≤ x.toInt ∧ x.toInt ≤ 99) : q_drv j x := z_drS hk hx (by omega)
theorem z_drS6 {j : Nat} {x : Int32} (hk : j % 8 = 6) (hx : 0 ≤ x.toInt ∧ x.toInt ≤ 4) : q_drv j x := z_drS hk hx (by omega)
theorem z_drS7 {j : Nat} {x : Int32} (hk : j % 8 = 7) (hx : 0 ≤ x.toInt ∧ x.toInt ≤ 1) : q_drv j x := z_drS hk hx (by omega)
theorem z_lsubI {x y w : Int64} {X Y : Int} (hw : w = x - y) (hX : x.toInt = X) (hY : y.toInt = Y) (h : -9223372036854775808 ≤ X - Y ∧ X - Y ≤ 9223372036854775807) : w.toInt = X - Y := by
  subst hw; subst hX; subst hY
  rw [Int64.toInt_sub]
  exact Int.bmod_eq_of_le (by omega) (by omega)
/-- when a drive goes, told by the numbers of all drives -/
def z_tm (g : Nat → Int32) (k : Nat) : Int := 24 * (g (8 * k + 2)).toInt + (g (8 * k + 3)).toInt + (g (8 * k + 7)).toInt
/-- how many of the four counters stand above nothing -/
def z_p1 (x : Int32) : Int := if 1 ≤ x.toInt then 1 else 0
def z_ph (g : Nat → Int32) : Int := z_p1 (g 0) + z_p1 (g 1) + z_p1 (g 2) + z_p1 (g 3)
theorem z_p1r (x : Int32) : 0 ≤ z_p1 x ∧ z_p1 x ≤ 1 := by unfold z_p1; split <;> omega
theorem z_phr (g : Nat → Int32) : 0 ≤ z_ph g ∧ z_ph g ≤ 4 := by
  have h0 := z_p1r (g 0); have h1 := z_p1r (g 1); have h2 := z_p1r (g 2); have h3 := z_p1r (g 3)
  unfold z_ph; omega
theorem z_ph_upd {g g2 : Nat → Int32} {c : Nat} {v : Int32} (e : g2 = upd g c v) (hc : c < 4) : z_ph g2 = z_ph g + z_p1 v - z_p1 (g c) := by
  subst e
  rcases (by omega : c = 0 ∨ c = 1 ∨ c = 2 ∨ c = 3) with rfl | rfl | rfl | rfl <;> simp [z_ph, upd] <;> omega
theorem z_ph_fill {g : Nat → Int32} (h : ∀ j : Nat, j < 4 → g j = 0) : z_ph g = 0 := by
  unfold z_ph
  rw [h 0 (by decide), h 1 (by decide), h 2 (by decide), h 3 (by decide)]
  decide
theorem z_p1_0 : z_p1 0 = 0 := by decide
theorem z_p1_pos {x : Int32} (h : 1 ≤ x.toInt) : z_p1 x = 1 := if_pos h
