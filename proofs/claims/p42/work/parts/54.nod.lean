/-! addresses in their order of making -/
theorem z_injL {D : va_G} {cl : List vw_C} {A : Nat → Prop} {H0 H : Heap} {L : List Nat} {f : Nat → va_E} {locs : List Loc} (hw : z_H D cl A H0 L f H locs) : ∀ i j a : Nat, L[i]? = some a → L[j]? = some a → i = j := fun i j a hi hj => hw.2.1.1 i j (a, f a) (a, f a) (by unfold va_pl; rw [List.getElem?_map, hi]; rfl) (by unfold va_pl; rw [List.getElem?_map, hj]; rfl) rfl
theorem z_getD {A : List Nat} {i : Nat} (h : i < A.length) : A[i]? = some (A.getD i 0) := by
  rw [List.getD_eq_getElem?_getD, List.getElem?_eq_getElem h]; rfl
theorem z_admem {L A : List Nat} {h : Nat} (hh : h ∈ L) {i : Nat} (hi : i < A.length + 1) : (h :: A).getD i 0 ∈ L ++ A := by
  cases i with
  | zero => exact List.mem_append_left _ hh
  | succ k => exact List.mem_append_right _ (List.mem_of_getElem? (z_getD (by omega : k < A.length)))
theorem z_adnot {L A : List Nat} {h : Nat} (hin : ∀ i j a : Nat, (L ++ A)[i]? = some a → (L ++ A)[j]? = some a → i = j) {i : Nat} (hi : i < A.length + 1) (h0 : i ≠ 0) : (h :: A).getD i 0 ∉ L := by
  cases i with
  | zero => exact absurd rfl h0
  | succ k =>
    intro hm
    obtain ⟨m, hm⟩ := List.getElem?_of_mem hm
    have hml := (List.getElem?_eq_some_iff.mp hm).1
    have h1 : (L ++ A)[m]? = some (A.getD k 0) := by rw [List.getElem?_append_left hml]; exact hm
    have h2 : (L ++ A)[L.length + k]? = some (A.getD k 0) := by rw [List.getElem?_append_right (by omega)]; rw [show L.length + k - L.length = k by omega]; exact z_getD (by omega)
    have := hin _ _ _ h1 h2
    omega
theorem z_adinj {L A : List Nat} {h : Nat} (hin : ∀ i j a : Nat, (L ++ A)[i]? = some a → (L ++ A)[j]? = some a → i = j) (hh : h ∈ L) : ∀ i j : Nat, i < A.length + 1 → j < A.length + 1 → (h :: A).getD i 0 = (h :: A).getD j 0 → i = j := by
  intro i j hi hj e
  by_cases h0 : i = 0
  · by_cases h1 : j = 0
    · omega
    · subst h0
      exact absurd (show (h :: A).getD j 0 ∈ L by rw [← e]; exact hh) (z_adnot hin hj h1)
  · by_cases h1 : j = 0
    · subst h1
      exact absurd (show (h :: A).getD i 0 ∈ L by rw [e]; exact hh) (z_adnot hin hi h0)
    · obtain ⟨a, rfl⟩ : ∃ a, i = a + 1 := ⟨i - 1, by omega⟩
      obtain ⟨b, rfl⟩ : ∃ b, j = b + 1 := ⟨j - 1, by omega⟩
      have e2 : A.getD a 0 = A.getD b 0 := e
      have h3 : (L ++ A)[L.length + a]? = some (A.getD a 0) := by rw [List.getElem?_append_right (by omega)]; rw [show L.length + a - L.length = a by omega]; exact z_getD (by omega)
      have h4 : (L ++ A)[L.length + b]? = some (A.getD a 0) := by rw [List.getElem?_append_right (by omega)]; rw [show L.length + b - L.length = b by omega, e2]; exact z_getD (by omega)
      have := hin _ _ _ h3 h4
      omega
theorem z_all13 {P : Nat → Prop} (h0 : P 0) (h1 : P 1) (h2 : P 2) (h3 : P 3) (h4 : P 4) (h5 : P 5) (h6 : P 6) (h7 : P 7) (h8 : P 8) (h9 : P 9) (h10 : P 10) (h11 : P 11) (h12 : P 12) : ∀ i : Nat, i < 13 → P i := by
  intro i hi
  rcases (by omega : i = 0 ∨ i = 1 ∨ i = 2 ∨ i = 3 ∨ i = 4 ∨ i = 5 ∨ i = 6 ∨ i = 7 ∨ i = 8 ∨ i = 9 ∨ i = 10 ∨ i = 11 ∨ i = 12) with rfl | rfl | rfl | rfl | rfl | rfl | rfl | rfl | rfl | rfl | rfl | rfl | rfl <;> assumption
theorem z_all4 {P : Nat → Prop} (h0 : P 0) (h1 : P 1) (h2 : P 2) (h3 : P 3) : ∀ i : Nat, i < 4 → P i := by
  intro i hi
  rcases (by omega : i = 0 ∨ i = 1 ∨ i = 2 ∨ i = 3) with rfl | rfl | rfl | rfl <;> assumption
theorem z_all3 {P : Nat → Prop} (h0 : P 0) (h1 : P 1) (h2 : P 2) : ∀ i : Nat, i < 3 → P i := by
  intro i hi
  rcases (by omega : i = 0 ∨ i = 1 ∨ i = 2) with rfl | rfl | rfl <;> assumption
theorem z_dr0 : z_dr (.inr (0, [.int 0, .int 0, .int 0, .int 0, .int 0, .int 0, .int 0, .int 0])) := ⟨_, _, _, _, _, _, _, _, rfl, by decide, by decide, by decide, by decide, by decide, by decide, by decide, by decide⟩
section ZMK
variable {L : List Nat} {f : Nat → va_E} {cy : Nat → ClassId} {ad : Nat → Nat} {b : Nat} {gd : Nat → Option Nat}
theorem z_mkD (h0 : f (ad b) = .inr (2, [.int 0, .int 0, .int 0, .int 0, .int 0, .int 0, .int 0, .ref (ad (b + 1)), .ref (ad (b + 2)), .ref (ad (b + 3)), .ref (ad (b + 4))])) (h1 : f (ad (b + 1)) = .inl (cy 1, 5, .inl (fun _ => 0))) (h2 : f (ad (b + 2)) = .inl (cy 1, 4, .inl (fun _ => 0))) (h3 : f (ad (b + 3)) = .inl (cy 1, 36, .inl (fun _ => 0))) (h4 : f (ad (b + 4)) = .inl (cy 4, 13, .inr (.inr (.inr (.inr gd))))) (hg : ∀ i : Nat, i < 13 → gd i = some (ad (b + 5 + i))) (hd : ∀ i : Nat, i < 13 → ad (b + 5 + i) ∈ L ∧ f (ad (b + 5 + i)) = .inr (0, [.int 0, .int 0, .int 0, .int 0, .int 0, .int 0, .int 0, .int 0])) : x_D L f cy ad b :=
  ⟨0, 0, 0, 0, 0, 0, 0, _, _, _, gd, h0, h1, h2, h3, h4, hg, fun i hi => ⟨(hd i hi).1, by show z_dr (f (ad (b + 5 + i))); rw [(hd i hi).2]; exact z_dr0⟩, by decide, by decide, by decide, by decide, fun _ => (by decide : 0 ≤ (0 : Int32).toInt ∧ (0 : Int32).toInt ≤ 999), fun _ => (by decide : 0 ≤ (0 : Int32).toInt ∧ (0 : Int32).toInt ≤ 999), fun _ => (by decide : 0 ≤ (0 : Int32).toInt ∧ (0 : Int32).toInt ≤ 9)⟩
theorem z_mkH (h : x_D L f cy ad b) : x_H L f cy ad b := by
  obtain ⟨v0, v1, v2, v3, v4, v5, v6, gl, gs, gm, gd, h0, h1, h2, h3, h4, hg, hd, k3, k5, k1, k2, l1, l2, l3⟩ := h
  exact ⟨v0, v1, v2, v3, v4, v5, v6, gl, gs, gm, gd, h0, h1, h2, h3, h4, hg, hd, by omega, k1, k2, l1, l2, l3⟩
theorem z_mkF (h : x_D L f cy ad b) : x_F L f cy ad b := by
  obtain ⟨v0, v1, v2, v3, v4, v5, v6, gl, gs, gm, gd, h0, h1, h2, h3, h4, hg, hd, k3, k5, k1, k2, l1, l2, l3⟩ := h
  exact ⟨v0, v1, v2, v3, v4, v5, v6, gl, gs, gm, gd, h0, h1, h2, h3, h4, hg, fun i hi => ⟨(hd i hi).1, z_dr_d8 (hd i hi).2⟩⟩
end ZMK
theorem z_drv0 {j : Nat} : q_drv j 0 := by
  have h : (0 : Int32).toInt = 0 := by decide
  unfold q_drv
  omega
