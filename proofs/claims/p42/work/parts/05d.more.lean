theorem z_upd0 {g G G2 : Nat → Int32} {k i x : _} (h : (∀ j : Nat, g j = 0) → ∀ j : Nat, G j = 0) (e : G2 = upd G k x) (ex : x = G i) : (∀ j : Nat, g j = 0) → ∀ j : Nat, G2 j = 0 := by
  intro hg j
  rw [e]
  unfold upd
  split
  · rw [ex]; exact h hg i
  · exact h hg j
