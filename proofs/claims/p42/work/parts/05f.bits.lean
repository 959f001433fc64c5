/-! shifts, masks, rests of numbers that are not below 0; keys -/
theorem z_nat {x : Int32} {X : Int} (hX : x.toInt = X) (h : 0 ≤ X) : ∃ n : Nat, n < 2 ^ 31 ∧ x = nI n ∧ (n : Int) = X := by
  have hn : ¬ x < 0 := by rw [Int32.lt_iff_toInt_lt, hX]; exact Int.not_lt.mpr h
  obtain ⟨j, hj, e⟩ := nI_of hn
  refine ⟨j, hj, e, ?_⟩
  rw [← hX, e, nI_toInt hj]
theorem z_shlI {x w s : Int32} {X : Int} (k : Nat) (hw : w = x <<< s) (hs : (s.toBitVec.smod 32).toNat = k) (hX : x.toInt = X) (h0 : 0 ≤ X) (h : X * (2 ^ k : Nat) < 2147483648) : w.toInt = X * (2 ^ k : Nat) := by
  obtain ⟨n, hn, e, hN⟩ := z_nat hX h0
  have h1 : ((n * 2 ^ k : Nat) : Int) = X * (2 ^ k : Nat) := by rw [← hN]; exact Int.natCast_mul n (2 ^ k)
  have h2 : n * 2 ^ k < 2 ^ 31 := by omega
  rw [hw, e, pk_shlN s k hs (by omega), nI_toInt h2, h1]
theorem z_shrI {x w s : Int32} {X : Int} (k : Nat) (hw : w = x >>> s) (hs : (s.toBitVec.smod 32).toNat = k) (hX : x.toInt = X) (h0 : 0 ≤ X) : w.toInt = X / (2 ^ k : Nat) := by
  obtain ⟨n, hn, e, hN⟩ := z_nat hX h0
  rw [hw, e, pk_shrN hn s k hs, nI_toInt (Nat.lt_of_le_of_lt (Nat.div_le_self _ _) hn), ← hN]
  exact Int.natCast_ediv n (2 ^ k)
theorem z_andI {x w m : Int32} {X : Int} (k : Nat) (hw : w = x &&& m) (hm : m.toBitVec.toNat = 2 ^ k - 1) (hX : x.toInt = X) (h0 : 0 ≤ X) : w.toInt = X % (2 ^ k : Nat) := by
  obtain ⟨n, hn, e, hN⟩ := z_nat hX h0
  rw [hw, e, pk_andN (by omega) k hm, nI_toInt (Nat.lt_of_le_of_lt (Nat.mod_le _ _) hn), ← hN]
  exact Int.natCast_emod n (2 ^ k)
theorem z_remI {x y w : Int32} {X Y : Int} (hw : w = x - x / y * y) (hX : x.toInt = X) (hY : y.toInt = Y) (h : 0 ≤ X ∧ 0 < Y) : w.toInt = X % Y := by
  obtain ⟨n, hn, e, hN⟩ := z_nat hX h.1
  obtain ⟨d, hd, e2, hD⟩ := z_nat hY (Int.le_of_lt h.2)
  have hd0 : 0 < d := by omega
  rw [hw, e, e2, pk_rem hn hd0 hd, nI_toInt (Nat.lt_of_le_of_lt (Nat.mod_le _ _) hn), ← hN, ← hD]
  exact Int.natCast_emod n d
/-- a drive's key: an hour below 216, a gap, a number up to 12 -/
def z_key (k : Int32) : Prop := 0 ≤ k.toInt ∧ k.toInt < 13824 ∧ k.toInt % 16 ≤ 12
theorem z_key0 : z_key 0 := by unfold z_key; decide
theorem z_updP {P : Int32 → Prop} {g g2 : Nat → Int32} {k : Nat} {x : Int32} (h : ∀ j : Nat, P (g j)) (e : g2 = upd g k x) (hx : P x) : ∀ j : Nat, P (g2 j) := by
  intro j
  rw [e]
  unfold upd
  split
  · exact hx
  · exact h j
theorem z_cpy0 {f g g2 : Nat → Int32} {n : Int32} {N : Nat} (hn : n.toNatClampNeg = N) (e : g2 = va_cpy f g (0 : Int32).toNatClampNeg (0 : Int32).toNatClampNeg n.toNatClampNeg) : ∀ j : Nat, j < N → g2 j = f j := by
  intro j hj
  have h0 : (0 : Int32).toNatClampNeg = 0 := by decide
  rw [e, h0, hn, pk_cpy_in (Nat.zero_le _) (by omega)]
  exact congrArg f (by omega)
