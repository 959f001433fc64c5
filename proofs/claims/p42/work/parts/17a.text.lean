/-! texts: lengths, a call on a text; arrays told by other contents -/
theorem z_s7 {i : Nat} (h : i < 25) : 2 ≤ z_sL.getD i 0 ∧ z_sL.getD i 0 ≤ 7 := by
  have h : ∀ i : Fin 25, 2 ≤ z_sL.getD i.1 0 ∧ z_sL.getD i.1 0 ≤ 7 := by decide
  exact h ⟨i, by assumption⟩
theorem z_arr {cA : ClassId} {n : Nat} {g g2 : Nat → Value} (h : ∀ j : Nat, j < n → g2 j = g j) : arrV cA n g2 = arrV cA n g := by
  unfold arrV
  congr 1
  apply Array.ext
  · simp
  · intro i h1 h2
    simp at h1
    simp [h i h1]
section ZT
variable {p : Program} {l : Launch} {e : Env} {R : Room} {s : State} {m : MethodId} {args : Array Value} {below : List Frame} {meth : Method} {c : Code} {H : Heap} {locs : List Loc} {cells slots : Nat} {Q : State → Prop}
variable {cc : ByteArray} {pc : Nat} {ls : Array Slot} {rest st0 As : List Value} {D : va_G} {cl : List vw_C} {A : Nat → Prop} {b : Nat} {tys : List (ClassId × FieldType)} {L L0 L1 : List Nat} {f f1 : Nat → va_E} {KK : (Nat → Prop) → State → Prop}
variable {y : MethodName} {bytes : ByteArray} {maxL nL mc ms n index sz ci : Nat} {ret : Option FieldType} {ws ws' Ts : List Cond} {rm : Room} {own C : String} {fs : List Value} {q0 : vw_C}
theorem z_calliX {post : Int32 → List Nat × (Nat → va_E) → Prop} (S : CallFix p m c cc nL s args Ts own) (hM : Met l y ws rm (va_Pc (.ref b :: As) (z_Pre D cl KK L f H.size)) (z_Qi D cl post L H.size) mc ms (z_A L H.size)) (cw : CallW R s args own C index y bytes maxL ret ws rm mc ms n) (hmv : z_Mv KK) (hKK : KK A s) (hw : z_H D cl A s.heap L f H locs) (hA : ∀ q, s.heap.size ≤ q → A q) (hrv : ∃ cell : Cell, H[b]? = some cell ∧ cell.vm.isStatics = false ∧ s.vm.findClass C = some cell.cls) (hn : As.length = n) (hls : ls.size = nL) (hst : st0 = As.reverse ++ .ref b :: rest) (hW : (rest.map fun v => v.category).sum ≤ 8) (hdg : decode cc pc = .ok (.invokevirtual index, 3)) (hf : cells + mc ≤ R.cells ∧ slots + ms ≤ R.slots)
    (kk : ∀ (r : Int32) (u : List Nat × (Nat → va_E)) (H1 : Heap) (locs1 : List Loc), post r u → z_H D cl A s.heap u.1 u.2 H1 locs1 → W p l e R s m args below meth c H1 locs1 (cells + mc) (slots + ms) Q (F0 m (pc + 3) ls (.int r :: rest))) : W p l e R s m args below meth c H locs cells slots Q (F0 m pc ls st0) :=
  va_calli (va_runV S hM cw ⟨z_blind hmv, hrv, fun U hU hW => z_pre hmv hKK hw hA U hU hW⟩ rfl hn hls hst (lv_room hW) hdg hf) hw.2.2 (fun q _ h => z_in hw hA q h) (fun q h => z_in hw hA q h)
    (fun r u _ H1 locs1 ht _ hp hB _ _ hS => kk r u H1 locs1 hp (z_back hw hA ht hB hS))
theorem z_nrmE {H0 : Heap} {a : Nat} {x x2 : ClassId × vp_A} (hw : z_H D cl A H0 L f H locs) (ha : a ∈ L) (he : f a = .inl x) (hx : vp_cell x2.1 x2.2 = vp_cell x.1 x.2) : z_H D cl A H0 L (va_up f a (.inl x2)) H locs := by
  obtain ⟨hP, hD, hS⟩ := hw
  obtain ⟨k, hk⟩ := va_pl_get (X := []) (f := f) ha
  have hD' : va_D A ([] ++ va_pl L f) := hD
  have e := va_pl_set (e := .inl x2) hD' ha hk
  have e' : (va_pl L f).set k (a, .inl x2) = va_pl L (va_up f a (.inl x2)) := e
  have hc : va_at D cl (a, .inl x2) H := by
    have h1 := hP k _ hk
    rw [he] at h1
    show H[a]? = some (vp_cell x2.1 x2.2)
    rw [hx]; exact h1
  refine ⟨?_, ?_, hS⟩
  · rw [← e']
    intro j q hq
    by_cases hj : j = k
    · subst hj
      have hl : j < (va_pl L f).length := (List.getElem?_eq_some_iff.mp hk).1
      rw [List.getElem?_set_self hl] at hq
      rw [← Option.some.inj hq]
      exact hc
    · rw [List.getElem?_set_ne (Ne.symm hj)] at hq
      exact hP j q hq
  · rw [← e']
    exact hD.set hk
theorem z_nrm {H0 : Heap} {a : Nat} {cA : ClassId} {n : Nat} {g g2 : Nat → Int32} (hw : z_H D cl A H0 L f H locs) (ha : a ∈ L) (he : f a = .inl (cA, n, .inl g)) (h : ∀ j : Nat, j < n → g2 j = g j) : z_H D cl A H0 L (va_up f a (.inl (cA, n, .inl g2))) H locs :=
  z_nrmE (x2 := (cA, n, .inl g2)) hw ha he (show arrV cA n (fun j => .int (g2 j)) = arrV cA n (fun j => .int (g j)) from z_arr fun j hj => by rw [h j hj])
theorem z_nrmL {H0 : Heap} {a : Nat} {cA : ClassId} {n : Nat} {g g2 : Nat → Int64} (hw : z_H D cl A H0 L f H locs) (ha : a ∈ L) (he : f a = .inl (cA, n, .inr (.inl g))) (h : ∀ j : Nat, j < n → g2 j = g j) : z_H D cl A H0 L (va_up f a (.inl (cA, n, .inr (.inl g2)))) H locs :=
  z_nrmE (x2 := (cA, n, .inr (.inl g2))) hw ha he (show arrV cA n (fun j => .long (g2 j)) = arrV cA n (fun j => .long (g j)) from z_arr fun j hj => by rw [h j hj])
/-- a weaker end of a method -/
theorem z_weak {P : Array Value → State → Prop} {post post2 : Int32 → List Nat × (Nat → va_E) → Prop} {free : Addr → Prop} (hM : Met l y ws rm P (z_Qi D cl post L sz) mc ms free) (h : ∀ r u, post r u → post2 r u) : Met l y ws rm P (z_Qi D cl post2 L sz) mc ms free := fun p e h1 h2 h3 s m args below a b c d => by
  obtain ⟨n, o, x1, x2, x3, ⟨⟨⟨r, u, q1, q2, q3⟩, q4⟩, x5⟩⟩ := hM p e h1 h2 h3 s m args below a b c d
  exact ⟨n, o, x1, x2, x3, ⟨⟨⟨r, u, q1, h r u q2, q3⟩, q4⟩, x5⟩⟩
end ZT
/-- a number of the draft's law: NONE only behind a fault -/
def z_lw (f x : Int32) : Prop := -1 ≤ x.toInt ∧ x.toInt ≤ 999 ∧ (f.toInt ≠ 0 ∨ 0 ≤ x.toInt)
theorem z_lw_mono {f f2 x : Int32} (h : z_lw f x) (hf : f2.toInt ≠ 0 ∨ f.toInt = 0) : z_lw f2 x := by
  unfold z_lw at *
  omega
