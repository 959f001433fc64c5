/-! what is read: the other moors stay -/
def q_hasR (g0 : Nat → Int32) (j : Nat) (x : Int32) : Prop := q_has j x ∧ (j < 24 → x = g0 j)
def q_lawR (g0 : Nat → Int32) (j : Nat) (x : Int32) : Prop := q_law j x ∧ (j < 20 → x = g0 j)
theorem z_has01 {j : Nat} {x : Int32} (h : 0 ≤ x.toInt ∧ x.toInt ≤ 1) : q_has j x := by
  unfold q_has
  omega
theorem z_hasAny {j : Nat} {x : Int32} (h : j % 6 = 4 ∨ j % 6 = 5) : q_has j x := by
  unfold q_has
  omega
theorem z_nlt {x : Int32} {X : Int} {n : Nat} (hX : x.toInt = X) (h : (n : Int) ≤ X) : ¬ x.toNatClampNeg < n := by
  show ¬ x.toInt.toNat < n
  omega
theorem z_upd_ne {g g2 : Nat → Int32} {k j : Nat} {v : Int32} (e : g2 = upd g k v) (h : j ≠ k) : g2 j = g j := by
  rw [e]; unfold upd; rw [if_neg h]
theorem z_upd_at {g g2 : Nat → Int32} {k : Nat} {v : Int32} (e : g2 = upd g k v) : g2 k = v := by
  rw [e]; unfold upd; rw [if_pos rfl]
/-- each is 2 or more where there are gaps or drives -/
def z_ea (gha glw : Nat → Int32) (m : Nat) : Prop := 2 ≤ (glw (5 * m + 3)).toInt ∨ ((gha (6 * m + 3)).toInt = 0 ∧ (gha (6 * m)).toInt = 0)
/-- a row of nn numbers copied from place a to place b -/
def z_cpr (nn a b : Int) (g g2 : Nat → Int32) : Prop := ∀ j : Nat, (nn * b ≤ j → (j : Int) < nn * b + nn → g2 j = g ((j : Int) + nn * a - nn * b).toNat) ∧ (((j : Int) < nn * b ∨ nn * b + nn ≤ j) → g2 j = g j)
def z_cpk (nn a b K : Int) (g g2 : Nat → Int32) : Prop := ∀ j : Nat, (nn * b ≤ j → (j : Int) < nn * b + K → g2 j = g ((j : Int) + nn * a - nn * b).toNat) ∧ (((j : Int) < nn * b ∨ nn * b + K ≤ j) → g2 j = g j)
theorem z_cpk0 {nn a b : Int} {g : Nat → Int32} : z_cpk nn a b 0 g g := fun j => ⟨fun h1 h2 => absurd h2 (by omega), fun _ => rfl⟩
theorem z_idx {x y : Int32} {X : Int} {n : Nat} (hX : x.toInt = X) (h : X = n + y.toInt ∧ 0 ≤ y.toInt) : x.toNatClampNeg = n + y.toNatClampNeg := by
  show x.toInt.toNat = n + y.toInt.toNat
  omega
theorem z_cpkS {nn a b : Int} {K k1 di si v : Int32} {g G G2 : Nat → Int32} (h : z_cpk nn a b K.toInt g G) (h0 : 0 ≤ K.toInt) (hk : k1.toInt = K.toInt + 1) (hd : di.toInt = nn * b + K.toInt) (hs : si.toInt = nn * a + K.toInt) (hd0 : 0 ≤ di.toInt) (hs0 : 0 ≤ si.toInt) (e : G2 = upd G di.toNatClampNeg v) (ev : v = G si.toNatClampNeg) (ho : nn * a + K.toInt < nn * b ∨ nn * b + K.toInt ≤ nn * a + K.toInt) : z_cpk nn a b k1.toInt g G2 := by
  intro j
  have hdc : ((di.toNatClampNeg : Nat) : Int) = di.toInt := Int.toNat_of_nonneg hd0
  have hsc : ((si.toNatClampNeg : Nat) : Int) = si.toInt := Int.toNat_of_nonneg hs0
  by_cases hj : j = di.toNatClampNeg
  · subst hj
    refine ⟨fun _ _ => ?_, fun h2 => absurd h2 (by omega)⟩
    rw [e, ev, (h si.toNatClampNeg).2 (by omega)]
    unfold upd
    rw [if_pos rfl]
    congr 1
    omega
  · have h3 : G2 j = G j := by rw [e]; unfold upd; rw [if_neg hj]
    refine ⟨fun h1 h2 => ?_, fun h1 => ?_⟩
    · rw [h3]; exact (h j).1 h1 (by omega)
    · rw [h3]; exact (h j).2 (by omega)
theorem z_cprK {nn a b : Int} {K : Int32} {g G : Nat → Int32} (h : z_cpk nn a b K.toInt g G) (hk : K.toInt = nn) : z_cpr nn a b g G := by
  intro j
  have h1 := h j
  rw [hk] at h1
  exact h1
theorem z_cprC {P : Int32 → Prop} {nn a b : Int} {g g2 : Nat → Int32} (h : z_cpr nn a b g g2) (hg : ∀ j : Nat, P (g j)) : ∀ j : Nat, P (g2 j) := by
  intro j
  by_cases q : nn * b ≤ j ∧ (j : Int) < nn * b + nn
  · rw [(h j).1 q.1 q.2]; exact hg _
  · rw [(h j).2 (by omega)]; exact hg _
theorem z_cpr_has {a b : Int} {g g2 : Nat → Int32} (h : z_cpr 6 a b g g2) (ha : 0 ≤ a) (hb : 0 ≤ b) (hg : ∀ j : Nat, q_has j (g j)) : ∀ j : Nat, q_has j (g2 j) := by
  intro j
  by_cases q : 6 * b ≤ j ∧ (j : Int) < 6 * b + 6
  · rw [(h j).1 q.1 q.2]
    have h1 := hg ((j : Int) + 6 * a - 6 * b).toNat
    have e : ((j : Int) + 6 * a - 6 * b).toNat % 6 = j % 6 := by omega
    unfold q_has at h1 ⊢
    rw [e] at h1
    exact h1
  · rw [(h j).2 (by omega)]; exact hg _
theorem z_cpr_drv {a b : Int} {g g2 : Nat → Int32} (h : z_cpr 104 a b g g2) (ha : 0 ≤ a) (hb : 0 ≤ b) (hg : ∀ j : Nat, q_drv j (g j)) : ∀ j : Nat, q_drv j (g2 j) := by
  intro j
  by_cases q : 104 * b ≤ j ∧ (j : Int) < 104 * b + 104
  · rw [(h j).1 q.1 q.2]
    have h1 := hg ((j : Int) + 104 * a - 104 * b).toNat
    have e : ((j : Int) + 104 * a - 104 * b).toNat % 8 = j % 8 := by omega
    unfold q_drv at h1 ⊢
    rw [e] at h1
    exact h1
  · rw [(h j).2 (by omega)]; exact hg _
theorem z_ea_cpr {a b : Int} {gh nh gl nl : Nat → Int32} (h : ∀ m : Nat, m < 5 → z_ea gh gl m) (ha : 0 ≤ a ∧ a ≤ 4) (hb : 0 ≤ b ∧ b ≤ 4) (h6 : z_cpr 6 a b gh nh) (h5 : z_cpr 5 a b gl nl) : ∀ m : Nat, m < 5 → z_ea nh nl m := by
  intro m hm
  unfold z_ea
  by_cases q : (m : Int) = b
  · have h1 := h a.toNat (by omega)
    unfold z_ea at h1
    rw [(h5 (5 * m + 3)).1 (by omega) (by omega), (h6 (6 * m + 3)).1 (by omega) (by omega), (h6 (6 * m)).1 (by omega) (by omega), show (((5 * m + 3 : Nat) : Int) + 5 * a - 5 * b).toNat = 5 * a.toNat + 3 by omega, show (((6 * m + 3 : Nat) : Int) + 6 * a - 6 * b).toNat = 6 * a.toNat + 3 by omega, show (((6 * m : Nat) : Int) + 6 * a - 6 * b).toNat = 6 * a.toNat by omega]
    exact h1
  · rw [(h5 (5 * m + 3)).2 (by omega), (h6 (6 * m + 3)).2 (by omega), (h6 (6 * m)).2 (by omega)]
    exact h m hm
theorem z_clrH {g g2 : Nat → Int32} {K k1 i v : Int32} (h0 : 0 ≤ K.toInt) (hk : k1.toInt = K.toInt + 1) (hi : i.toInt = 24 + K.toInt) (e : g2 = upd g i.toNatClampNeg v) (h : ∀ j : Nat, 24 ≤ j → (j : Int) < 24 + K.toInt → j ≠ 26 → (g j).toInt = 0) (hv : K.toInt = 2 ∨ v.toInt = 0) : ∀ j : Nat, 24 ≤ j → (j : Int) < 24 + k1.toInt → j ≠ 26 → (g2 j).toInt = 0 := by
  intro j h1 h2 h3
  have hc : ((i.toNatClampNeg : Nat) : Int) = i.toInt := Int.toNat_of_nonneg (by omega)
  by_cases q : j = i.toNatClampNeg
  · subst q
    rw [e]; unfold upd; rw [if_pos rfl]
    rcases hv with hv | hv
    · omega
    · exact hv
  · rw [e]; unfold upd; rw [if_neg q]
    exact h j h1 (by omega) h3
theorem z_nix {x : Int32} {X : Int} {n : Nat} (hX : x.toInt = X) (h : 0 ≤ X ∧ X ≠ n) : n ≠ x.toNatClampNeg := by
  show n ≠ x.toInt.toNat
  omega
