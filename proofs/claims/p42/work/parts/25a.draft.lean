/-! the draft's drives: in range while no fault is met -/
def z_d8 (e : va_E) : Prop := ∃ o g d h s l p m : Int32, e = .inr (0, [.int o, .int g, .int d, .int h, .int s, .int l, .int p, .int m])
theorem z_d8_tag {e : va_E} (h : z_d8 e) : z_tag e = 0 := by
  obtain ⟨o, g, d, h, s, l, p, m, rfl⟩ := h
  rfl
theorem z_dr_d8 {e : va_E} (h : z_dr e) : z_d8 e := by
  obtain ⟨o, g, d, h, s, l, p, m, e, -⟩ := h
  exact ⟨o, g, d, h, s, l, p, m, e⟩
def z_D8 (L : List Nat) (f : Nat → va_E) (dv : Nat → Nat) : Prop := ∀ i : Nat, i < 13 → dv i ∈ L ∧ z_d8 (f (dv i))
def z_DD (L : List Nat) (f : Nat → va_E) (dv : Nat → Nat) (fa v : Int32) : Prop := ∀ i : Nat, i < 13 → dv i ∈ L ∧ z_d8 (f (dv i)) ∧ ((i : Int) < v.toInt → fa.toInt ≠ 0 ∨ z_dr (f (dv i)))
theorem z_DD_0 {L : List Nat} {f : Nat → va_E} {dv : Nat → Nat} {fa v : Int32} (h : z_D8 L f dv) (hv : v.toInt ≤ 0) : z_DD L f dv fa v := fun i hi => ⟨(h i hi).1, (h i hi).2, fun q => absurd q (by omega)⟩
theorem z_DD_8 {L : List Nat} {f : Nat → va_E} {dv : Nat → Nat} {fa v : Int32} (h : z_DD L f dv fa v) : z_D8 L f dv := fun i hi => ⟨(h i hi).1, (h i hi).2.1⟩
theorem z_D8_fr {L L2 : List Nat} {f f2 : Nat → va_E} {dv : Nat → Nat} (h : z_D8 L f dv) (hsb : ∀ b ∈ L, b ∈ L2) (hk : ∀ (i : Nat) (b : Nat), i < 13 → b = dv i → b ∈ L → z_tag (f b) = 0 → f2 b = f b) : z_D8 L2 f2 dv := fun i hi => ⟨hsb _ (h i hi).1, by rw [hk i _ hi rfl (h i hi).1 (z_d8_tag (h i hi).2)]; exact (h i hi).2⟩
theorem z_DD_Drv {L : List Nat} {f : Nat → va_E} {dv : Nat → Nat} {fa v : Int32} (h : z_DD L f dv fa v) (hf : fa.toInt = 0) (hv : v.toInt ≤ 13) : z_Drv L f dv v.toInt.toNat := fun i hi => by
  obtain ⟨h1, -, h3⟩ := h i (by omega)
  exact ⟨h1, (h3 (by omega)).resolve_left (fun q => q hf)⟩
theorem z_DD_step {L : List Nat} {f f2 : Nat → va_E} {dv : Nat → Nat} {fa fb v w : Int32} {dq : Nat} {e1 e2 e3 e4 e5 e6 e7 e8 : Int32} (h : z_DD L f dv fa v) (hf : fa.toInt = 0) (hj : ∀ i j : Nat, i < 13 → j < 13 → i ≠ j → dv i ≠ dv j) (hv : 0 ≤ v.toInt ∧ v.toInt ≤ 12) (hq : dq = dv v.toNatClampNeg) (hd : f2 dq = .inr (0, [.int e1, .int e2, .int e3, .int e4, .int e5, .int e6, .int e7, .int e8]))
    (hw : w.toInt = v.toInt ∨ (w.toInt = v.toInt + 1 ∧ w.toInt ≤ 12 ∧ (fb.toInt ≠ 0 ∨ (0 ≤ e1.toInt ∧ e1.toInt ≤ 4 ∧ 0 ≤ e2.toInt ∧ e2.toInt ≤ 3 ∧ 0 ≤ e3.toInt ∧ e3.toInt ≤ 8 ∧ 0 ≤ e4.toInt ∧ e4.toInt ≤ 23 ∧ 0 ≤ e5.toInt ∧ e5.toInt ≤ 99 ∧ 0 ≤ e6.toInt ∧ e6.toInt ≤ 99 ∧ 0 ≤ e7.toInt ∧ e7.toInt ≤ 4 ∧ 0 ≤ e8.toInt ∧ e8.toInt ≤ 1))))
    (hk : ∀ b ∈ L, z_tag (f b) = 0 → b ≠ dq → f2 b = f b) : z_DD L f2 dv fb w := fun i hi => by
  obtain ⟨h1, h2, h3⟩ := h i hi
  have hc : ((v.toNatClampNeg : Nat) : Int) = v.toInt := Int.toNat_of_nonneg hv.1
  by_cases hiv : i = v.toNatClampNeg
  · subst hiv
    rw [← hq]
    refine ⟨by rw [hq]; exact h1, ⟨_, _, _, _, _, _, _, _, hd⟩, fun hl => ?_⟩
    rcases hw with hw | ⟨hw, -, hr⟩
    · omega
    · rcases hr with hr | hr
      · exact Or.inl hr
      · exact Or.inr ⟨_, _, _, _, _, _, _, _, hd, by omega, by omega, by omega, by omega, by omega, by omega, by omega, by omega⟩
  · have hne : dv i ≠ dq := by rw [hq]; exact hj _ _ hi (by omega) hiv
    have he := hk _ h1 (z_d8_tag h2) hne
    rw [he]
    refine ⟨h1, h2, fun hl => ?_⟩
    rcases h3 (by omega) with h4 | h4
    · exact absurd hf h4
    · exact Or.inr h4
theorem z_Drv_fr3 {L L2 : List Nat} {f f2 : Nat → va_E} {dv : Nat → Nat} {n dq : Nat} (h : z_Drv L f dv n) (hsb : ∀ b ∈ L, b ∈ L2) (hq : ∀ i : Nat, i < n → dv i ≠ dq) (hk : ∀ b ∈ L, z_tag (f b) = 0 → b ≠ dq → f2 b = f b) : z_Drv L2 f2 dv n := fun i hi => by
  obtain ⟨h1, h2⟩ := h i hi
  exact ⟨hsb _ h1, by rw [hk _ h1 (z_dr_tag h2) (hq i hi)]; exact h2⟩
