/-! drives in range, by their addresses -/
def z_dr (e : va_E) : Prop := ∃ o g d h s l p m : Int32, e = .inr (0, [.int o, .int g, .int d, .int h, .int s, .int l, .int p, .int m]) ∧ (0 ≤ o.toInt ∧ o.toInt ≤ 4) ∧ (0 ≤ g.toInt ∧ g.toInt ≤ 3) ∧ (0 ≤ d.toInt ∧ d.toInt ≤ 8) ∧ (0 ≤ h.toInt ∧ h.toInt ≤ 23) ∧ (0 ≤ s.toInt ∧ s.toInt ≤ 99) ∧ (0 ≤ l.toInt ∧ l.toInt ≤ 99) ∧ (0 ≤ p.toInt ∧ p.toInt ≤ 4) ∧ (0 ≤ m.toInt ∧ m.toInt ≤ 1)
def z_Drv (L : List Nat) (f : Nat → va_E) (dv : Nat → Nat) (n : Nat) : Prop := ∀ i : Nat, i < n → dv i ∈ L ∧ z_dr (f (dv i))
theorem z_dr_tag {e : va_E} (h : z_dr e) : z_tag e = 0 := by
  obtain ⟨o, g, d, h, s, l, p, m, rfl, -⟩ := h
  rfl
theorem z_Drv_set {L : List Nat} {f f2 : Nat → va_E} {dv : Nat → Nat} {n a : Nat} {y : va_E} (h : z_Drv L f dv n) (e : f2 = va_up f a y) (hy : z_dr y) : z_Drv L f2 dv n := fun i hi => by
  refine ⟨(h i hi).1, ?_⟩
  rw [e]
  by_cases q : dv i = a
  · rw [q, va_up_self]; exact hy
  · rw [va_up_ne _ _ q]; exact (h i hi).2
theorem z_t0 {f : Nat → va_E} {b a m : Nat} {x : va_E} (ht : z_tag (f b) = 0) (ha : f a = x) (hx : z_tag x = m) (hm : m ≠ 0) : b ≠ a := fun q => hm (by rw [← hx, ← ha, ← q]; exact ht)
theorem z_Drv_up {L : List Nat} {f f2 : Nat → va_E} {dv : Nat → Nat} {n a m : Nat} {x y : va_E} (h : z_Drv L f dv n) (e : f2 = va_up f a y) (ha : f a = x) (hx : z_tag x = m) (hm : m ≠ 0) : z_Drv L f2 dv n := fun i hi => by
  refine ⟨(h i hi).1, ?_⟩
  rw [e, va_up_ne _ _ (z_t0 (z_dr_tag (h i hi).2) ha hx hm)]
  exact (h i hi).2
theorem z_Drv_ne {L : List Nat} {f : Nat → va_E} {dv : Nat → Nat} {n b m : Nat} {x : va_E} (h : z_Drv L f dv n) (hb : f b = x) (hx : z_tag x = m) (hm : m ≠ 0) : ∀ i : Nat, i < n → b ≠ dv i := fun i hi => Ne.symm (z_t0 (z_dr_tag (h i hi).2) hb hx hm)
theorem z_Drv_fr {L L2 : List Nat} {f f2 : Nat → va_E} {dv : Nat → Nat} {n : Nat} (h : z_Drv L f dv n) (hsb : ∀ b ∈ L, b ∈ L2) (hk : ∀ b ∈ L, z_tag (f b) = 0 → f2 b = f b) : z_Drv L2 f2 dv n := fun i hi => by
  obtain ⟨h1, h2⟩ := h i hi
  exact ⟨hsb _ h1, by rw [hk _ h1 (z_dr_tag h2)]; exact h2⟩
theorem z_Drv_fr2 {L L2 : List Nat} {f f2 : Nat → va_E} {dv dv2 : Nat → Nat} {n : Nat} (h : z_Drv L f dv n) (h2 : z_Drv L2 f2 dv2 13) (hsb : ∀ b ∈ L, b ∈ L2) (hk : ∀ b ∈ L, z_tag (f b) = 0 → (∀ i : Nat, i < 13 → b ≠ dv2 i) → f2 b = f b) : z_Drv L2 f2 dv n := fun i hi => by
  obtain ⟨h3, h4⟩ := h i hi
  refine ⟨hsb _ h3, ?_⟩
  by_cases q : ∃ j, j < 13 ∧ dv i = dv2 j
  · obtain ⟨j, hj, e⟩ := q
    rw [e]; exact (h2 j hj).2
  · rw [hk _ h3 (z_dr_tag h4) (fun j hj e => q ⟨j, hj, e⟩)]; exact h4
theorem z_clI {x : Int32} {n : Nat} {X : Int} (hX : x.toInt = X) (h : 0 ≤ X ∧ X < n) : x.toNatClampNeg < n := z_cl (by rw [hX]; exact h)
/-- dividing by a number above 0 -/
theorem z_div {x y w : Int32} {X Y : Int} (hw : w = x / y) (hX : x.toInt = X) (hY : y.toInt = Y) (h : 0 ≤ X ∧ 0 < Y) : w.toInt = X / Y := by
  subst hw; subst hX; subst hY
  rw [Int32.toInt_div, Int.tdiv_eq_ediv_of_nonneg h.1]
  refine z_bm ?_
  have h1 := Int.ediv_nonneg h.1 (Int.le_of_lt h.2)
  have h2 := Int.ediv_le_self y.toInt h.1
  have h3 := x.toInt_le
  have h5 : Int32.maxValue.toInt = 2147483647 := by decide
  omega
theorem z_ne0 {y : Int32} {Y : Int} (hY : y.toInt = Y) (h : Y ≠ 0) : ¬ y = 0 := fun q => h (by rw [← hY, q]; rfl)
theorem z_Drv_one {L L2 : List Nat} {f f2 : Nat → va_E} {dv : Nat → Nat} {n a : Nat} {y : va_E} (h : z_Drv L f dv n) (hsb : ∀ b ∈ L, b ∈ L2) (ha : f2 a = y) (hy : z_dr y) (hk : ∀ b ∈ L, b ≠ a → f2 b = f b) : z_Drv L2 f2 dv n := fun i hi => by
  obtain ⟨h1, h2⟩ := h i hi
  refine ⟨hsb _ h1, ?_⟩
  by_cases q : dv i = a
  · rw [q, ha]; exact hy
  · rw [hk _ h1 q]; exact h2
