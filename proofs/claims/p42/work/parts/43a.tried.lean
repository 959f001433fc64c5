/-! what has been tried so far stays -/
theorem z_tried {g0 g g2 g3 : Nat → Int32} {n v : Int32} (h : ∀ j : Nat, (j : Int) < n.toInt → g j = g0 j) (e : g2 = upd g n.toNatClampNeg v) (h0 : 0 ≤ n.toInt) (h3 : ∀ j : Nat, (j : Int) < n.toInt → g3 j = g2 j) : ∀ j : Nat, (j : Int) < n.toInt → g3 j = g0 j := by
  intro j hj
  have hc : ((n.toNatClampNeg : Nat) : Int) = n.toInt := Int.toNat_of_nonneg h0
  rw [h3 j hj, z_upd_ne e (by omega), h j hj]
theorem z_triedT {P : Int32 → Prop} {g0 g g2 : Nat → Int32} {n n1 v : Int32} (h : ∀ j : Nat, (j : Int) < n.toInt → g j = g0 j) (h1 : ∀ j : Nat, (j : Int) < n.toInt → P (g0 j)) (e : g2 = upd g n.toNatClampNeg v) (hv : P v) (h0 : 0 ≤ n.toInt) (hn : n1.toInt = n.toInt + 1) : ∀ j : Nat, (j : Int) < n1.toInt → P (g2 j) := by
  intro j hj
  have hc : ((n.toNatClampNeg : Nat) : Int) = n.toInt := Int.toNat_of_nonneg h0
  by_cases q : j = n.toNatClampNeg
  · subst q; rw [z_upd_at e]; exact hv
  · rw [z_upd_ne e q, h j (by omega)]; exact h1 j (by omega)
theorem z_ea_law3 {gh nl gl : Nat → Int32} {v : Int32} (h : ∀ m : Nat, m < 5 → z_ea gh gl m) (e : nl = upd gl 3 v) (h0 : 2 ≤ v.toInt ∨ ((gh 3).toInt = 0 ∧ (gh 0).toInt = 0)) : ∀ m : Nat, m < 5 → z_ea gh nl m := by
  intro m hm
  by_cases q : m = 0
  · subst q
    show 2 ≤ (nl 3).toInt ∨ _
    rw [z_upd_at e]
    exact h0
  · unfold z_ea
    rw [z_upd_ne e (by omega)]
    exact h m hm
theorem z_nm5 {x : Int32} (h : 0 ≤ x.toInt ∧ x.toInt ≤ 4) (h3 : x.toInt ≠ 3) : x.toNatClampNeg % 5 ≠ 3 := by
  show x.toInt.toNat % 5 ≠ 3
  omega
