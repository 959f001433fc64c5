/-! what is read ends; rows in time -/
theorem z_ea_read {gh nh gl nl : Nat → Int32} (h : ∀ m : Nat, m < 5 → z_ea gh gl m) (h6 : ∀ j : Nat, j < 24 → nh j = gh j) (h5 : ∀ j : Nat, j < 20 → nl j = gl j) (h4 : 2 ≤ (nl 23).toInt ∨ ((nh 27).toInt = 0 ∧ (nh 24).toInt = 0)) : ∀ m : Nat, m < 5 → z_ea nh nl m := by
  intro m hm
  by_cases q : m = 4
  · subst q; exact h4
  · unfold z_ea
    rw [h5 _ (by omega), h6 _ (by omega), h6 _ (by omega)]
    exact h m hm
theorem z_ea_has {gh nh gl : Nat → Int32} {v : Int32} {k : Nat} (h : ∀ m : Nat, m < 5 → z_ea gh gl m) (e : nh = upd gh k v) (hk : k % 6 ≠ 0 ∧ k % 6 ≠ 3) : ∀ m : Nat, m < 5 → z_ea nh gl m := by
  intro m hm
  unfold z_ea
  rw [z_upd_ne e (by omega), z_upd_ne e (by omega)]
  exact h m hm
theorem z_ea_law {gh nl gl : Nat → Int32} {v : Int32} {k : Nat} (h : ∀ m : Nat, m < 5 → z_ea gh gl m) (e : nl = upd gl k v) (hk : k % 5 ≠ 3 ∨ 2 ≤ v.toInt ∨ v = gl k) : ∀ m : Nat, m < 5 → z_ea gh nl m := by
  intro m hm
  unfold z_ea
  by_cases q : 5 * m + 3 = k
  · subst q
    rw [z_upd_at e]
    rcases hk with hk | hk | hk
    · omega
    · exact Or.inl hk
    · rw [hk]; exact h m hm
  · rw [z_upd_ne e q]
    exact h m hm
/-- a drive that goes before E -/
def z_tr (g : Nat → Int32) (E : Int) (x : Int32) : Prop := z_tm g x.toNatClampNeg < E
theorem z_ieq {x y : Int32} (h : x.toInt = y.toInt) : x = y := Int32.toInt_inj.mp h
theorem z_tm_r {g : Nat → Int32} (h : ∀ j : Nat, q_drv j (g j)) (k : Nat) : 0 ≤ z_tm g k ∧ z_tm g k ≤ 216 := by
  have h2 := (h (8 * k + 2)).2.2.1 (by omega)
  have h3 := (h (8 * k + 3)).2.2.2.1 (by omega)
  have h7 := (h (8 * k + 7)).2.2.2.2.2.2.2 (by omega)
  unfold z_tm
  omega
/-- rows shifted: a hole at i -/
theorem z_hole {P : Int32 → Prop} {g g2 : Nat → Int32} {i i1 s v : Int32} {n : Int} (h : ∀ j : Nat, (j : Int) < n + 1 → (j : Int) ≠ i.toInt → P (g j)) (h0 : 1 ≤ i.toInt ∧ i.toInt ≤ n) (h1 : i1.toInt = i.toInt - 1) (hs : s.toInt = i.toInt - 1) (e : g2 = upd g i.toNatClampNeg v) (ev : v = g s.toNatClampNeg) : ∀ j : Nat, (j : Int) < n + 1 → (j : Int) ≠ i1.toInt → P (g2 j) := by
  intro j hj hi
  have hc : ((i.toNatClampNeg : Nat) : Int) = i.toInt := Int.toNat_of_nonneg (by omega)
  have hd : ((s.toNatClampNeg : Nat) : Int) = s.toInt := Int.toNat_of_nonneg (by omega)
  by_cases q : j = i.toNatClampNeg
  · subst q
    rw [z_upd_at e, ev]
    exact h _ (by omega) (by omega)
  · rw [z_upd_ne e q]
    exact h j hj (by omega)
theorem z_holeE {P : Int32 → Prop} {g g2 : Nat → Int32} {i v : Int32} {n n2 : Int} (h : ∀ j : Nat, (j : Int) < n + 1 → (j : Int) ≠ i.toInt → P (g j)) (h0 : 0 ≤ i.toInt) (e : g2 = upd g i.toNatClampNeg v) (hv : P v) (hn : n2 = n + 1) : ∀ j : Nat, (j : Int) < n2 → P (g2 j) := by
  intro j hj
  have hc : ((i.toNatClampNeg : Nat) : Int) = i.toInt := Int.toNat_of_nonneg h0
  by_cases q : j = i.toNatClampNeg
  · subst q; rw [z_upd_at e]; exact hv
  · rw [z_upd_ne e q]; exact h j (by omega) (by omega)
theorem z_ph_0 {g g2 : Nat → Int32} {i : Int32} (e : g2 = upd g i.toNatClampNeg 0) (hi : 0 ≤ i.toInt ∧ i.toInt < 4) : z_ph g2 ≤ z_ph g := by
  have h := z_ph_upd e (by show i.toInt.toNat < 4; omega)
  have h1 := z_p1_0
  have h2 := z_p1r (g i.toNatClampNeg)
  omega
theorem z_ph_inc {g g2 : Nat → Int32} {i v : Int32} (e : g2 = upd g i.toNatClampNeg v) (hi : 0 ≤ i.toInt ∧ i.toInt < 4) : z_ph g2 ≤ z_ph g + 1 ∧ (1 ≤ (g i.toNatClampNeg).toInt → z_ph g2 ≤ z_ph g) := by
  have h := z_ph_upd e (by show i.toInt.toNat < 4; omega)
  have h1 := z_p1r v
  have h2 := z_p1r (g i.toNatClampNeg)
  refine ⟨by omega, fun q => ?_⟩
  have h3 := z_p1_pos q
  omega
theorem z_ph_due {g g2 g3 : Nat → Int32} {i v : Int32} (e : g2 = upd g i.toNatClampNeg v) (e3 : g3 = upd g2 i.toNatClampNeg 0) (hi : 0 ≤ i.toInt ∧ i.toInt < 4) (hv : v.toInt = (g i.toNatClampNeg).toInt + 1) (h2 : 2 ≤ v.toInt) : z_ph g3 = z_ph g - 1 := by
  have hc : i.toNatClampNeg < 4 := by show i.toInt.toNat < 4; omega
  have a := z_ph_upd e hc
  have b := z_ph_upd e3 hc
  rw [z_upd_at e] at b
  have h1 := z_p1_0
  have h3 := z_p1_pos (x := g i.toNatClampNeg) (by omega)
  have h4 := z_p1_pos (x := v) (by omega)
  omega
theorem z_idx8 {x k w : Int32} {X : Int} (hX : x.toInt = X) (h : X = 8 * k.toInt + w.toInt ∧ 0 ≤ k.toInt ∧ 0 ≤ w.toInt) : x.toNatClampNeg = 8 * k.toNatClampNeg + w.toNatClampNeg := by
  show x.toInt.toNat = 8 * k.toInt.toNat + w.toInt.toNat
  omega
theorem z_upR {g ro : Nat → Int32} {i0 U : Int} {K r : Int32} (h : ∀ j : Nat, i0 ≤ j → (j : Int) < K.toInt → z_tm g (ro j).toNatClampNeg ≤ U) (hT : r.toInt = z_tm g (ro K.toNatClampNeg).toNatClampNeg) (hr : r.toInt ≤ U) (h0 : 0 ≤ K.toInt) : ∀ j : Nat, i0 ≤ j → (j : Int) < K.toInt + 1 → z_tm g (ro j).toNatClampNeg ≤ U := by
  intro j h1 h2
  have hc : ((K.toNatClampNeg : Nat) : Int) = K.toInt := Int.toNat_of_nonneg h0
  by_cases q : j = K.toNatClampNeg
  · subst q; rw [← hT]; exact hr
  · exact h j h1 (by omega)
theorem z_prT {g ro : Nat → Int32} {i0 i t r : Int32} (h0 : t.toInt = z_tm g (ro i0.toNatClampNeg).toNatClampNeg) (h1 : r.toInt = z_tm g (ro i.toNatClampNeg).toNatClampNeg) (hn : r.toInt ≠ t.toInt) (hl : i0.toInt ≤ i.toInt) : i0.toInt < i.toInt := by
  by_cases q : i = i0
  · rw [q] at h1; omega
  · have h2 : i.toInt ≠ i0.toInt := fun e => q (z_ieq e)
    omega
theorem z_prG {g ro : Nat → Int32} {i0 i t r : Int32} (h0 : t = g (8 * (ro i0.toNatClampNeg).toNatClampNeg + 1)) (h1 : r = g (8 * (ro i.toNatClampNeg).toNatClampNeg + 1)) (hn : r.toInt ≠ t.toInt) (hl : i0.toInt ≤ i.toInt) : i0.toInt < i.toInt := by
  by_cases q : i = i0
  · rw [q] at h1; exact absurd (by rw [h1, h0]) hn
  · have h2 : i.toInt ≠ i0.toInt := fun e => q (z_ieq e)
    omega
theorem z_updQ2 {P : Nat → Int32 → Prop} {g g2 g3 : Nat → Int32} {k : Nat} {x y : Int32} (h : ∀ j : Nat, P j (g j)) (e : g2 = upd g k x) (e3 : g3 = upd g2 k y) (hy : P k y) : ∀ j : Nat, P j (g3 j) := by
  intro j
  by_cases q : j = k
  · subst q; rw [z_upd_at e3]; exact hy
  · rw [z_upd_ne e3 q, z_upd_ne e q]; exact h j
theorem z_mulR {a b : Int} (ha : 0 ≤ a ∧ a ≤ 999) (hb : 0 ≤ b ∧ b ≤ 99) : 0 ≤ a * b ∧ a * b ≤ 98901 :=
  ⟨Int.mul_nonneg ha.1 hb.1, Int.le_trans (Int.mul_le_mul ha.2 hb.2 hb.1 (by decide)) (by decide)⟩
