/-- what the word on arrays of long[] says -/
theorem z_overL {args : Array Value} {s : State} (h : (Cond.arrayOver (.array .long)).before args s = true) : ∃ comp c k, s.vm.findClass "[J" = some comp ∧ s.vm.classes[c]? = some k ∧ k.kind = .array comp (.array .long) ∧ s.vm.findClass "[[J" = some c := by
  unfold Cond.before at h
  simp only [Cond.holds, Cond.value, beq_iff_eq] at h
  have e1 : (FieldType.array FieldType.long).toString = "[J" := by decide
  have e2 : "[" ++ (FieldType.array FieldType.long).toString = "[[J" := by decide
  rw [e1] at h
  cases hc : s.vm.findClass "[J" with
  | none => simp [hc] at h
  | some comp =>
    simp only [hc, Option.bind_some, Option.bind_eq_some_iff, Option.map_eq_some_iff] at h
    obtain ⟨c, hi, k, hk, hb⟩ := h
    obtain ⟨hlt, hp, -⟩ := Array.findIdx?_eq_some_iff_getElem.mp hi
    have hkk : s.vm.classes[c] = k := (Array.getElem?_eq_some_iff.mp hk).2
    rw [hkk] at hp
    cases hkind : k.kind with
    | array component ty =>
      rw [hkind] at hb hp
      simp at hb hp
      exact ⟨comp, c, k, rfl, hk, by rw [hkind, hp, hb.1], hb.2⟩
    | _ => rw [hkind] at hb; simp at hb
theorem z_arr {args : Array Value} {s : State} {ty : FieldType} (hpr : ∀ C, ty ≠ .object C) (h : (Cond.arrayClass ty).before args s = true) : ∃ c, ArrOfT s c ty ∧ va_RA s c ty ∧ s.vm.findClass ("[" ++ ty.toString) = some c := by
  obtain ⟨c, k, comp, h1, h2, h3⟩ := Cond.arrayClass_spec h
  refine ⟨c, fun n z => ⟨fun q hq => (by cases hq), k, h2, comp, h3⟩, ?_, h1⟩
  cases ty with
  | object C => exact absurd rfl (hpr C)
  | _ => exact h1
theorem z_arrO {args : Array Value} {s : State} {C : String} (h : (Cond.arrayOver (.object C)).before args s = true) : ∃ c, ArrOfT s c (.object C) ∧ va_RA s c (.object C) := by
  obtain ⟨comp, c, k, h1, h2, h3, h4, h5⟩ := Cond.arrayOver_spec h
  exact ⟨c, fun n z => ⟨fun q hq => (by cases hq), k, h3, comp, h4⟩, ⟨k, comp, h3, h4, h1, h5⟩⟩
set_option maxRecDepth 100000 in
theorem z_start {args : Array Value} {s : State} (hts : ∀ w ∈ lw_tbl, w.before args s = true) : ∃ (D : va_G) (cy : Nat → ClassId), z_K D cy s := by
  have hT : ∀ w ∈ lw_all, w.before args s = true := fun w h => hts w (z_all_in w h)
  obtain ⟨c0, i0, k0⟩ := u_known (C := RX0) (T := TX0) (N := 8) (n := 8) hT zin_X0 (hT _ kw_136)
  obtain ⟨c1, i1, k1⟩ := u_known (C := RX1) (T := TX1) (N := 4) (n := 4) hT zin_X1 (hT _ kw_459)
  obtain ⟨c2, i2, k2⟩ := u_known (C := RX2) (T := TX2) (N := 11) (n := 11) hT zin_X2 (hT _ kw_129)
  obtain ⟨c3, i3, k3⟩ := u_known (C := RX3) (T := TX3) (N := 6) (n := 6) hT zin_X3 (hT _ kw_430)
  obtain ⟨c4, i4, k4⟩ := u_known (C := RX4) (T := TX4) (N := 12) (n := 12) hT zin_X4 (hT _ kw_377)
  obtain ⟨c5, i5, k5⟩ := u_known (C := RX5) (T := TX5) (N := 9) (n := 9) hT zin_X5 (hT _ kw_272)
  obtain ⟨c6, i6, k6⟩ := u_known (C := RX6) (T := TX6) (N := 3) (n := 3) hT zin_X6 (hT _ kw_309)
  obtain ⟨c7, i7, k7⟩ := u_known (C := RX7) (T := TX7) (N := 2) (n := 2) hT zin_X7 (hT _ kw_112)
  obtain ⟨c8, i8, k8⟩ := u_known (C := RX8) (T := TX8) (N := 8) (n := 8) hT zin_X8 (hT _ kw_337)
  obtain ⟨c9, i9, k9⟩ := u_known (C := RX9) (T := TX9) (N := 11) (n := 11) hT zin_X9 (hT _ kw_104)
  obtain ⟨c10, i10, k10⟩ := u_known (C := RX10) (T := TX10) (N := 54) (n := 54) hT zin_X10 (hT _ kw_1163)
  obtain ⟨aB, xB, yB, zB⟩ := z_arr (ty := .byte) (fun _ h => by cases h) (hT _ kw_127)
  obtain ⟨aI, xI, yI, zI⟩ := z_arr (ty := .int) (fun _ h => by cases h) (hT _ kw_203)
  obtain ⟨aJ, xJ, yJ, zJ⟩ := z_arr (ty := .long) (fun _ h => by cases h) (hT _ kw_335)
  obtain ⟨aZ, xZ, yZ, zZ⟩ := z_arr (ty := .boolean) (fun _ h => by cases h) (hT _ kw_334)
  have oD : (Cond.arrayOver (.object RX0)).before args s = true := hts _ (List.mem_of_getElem? (i := 135) rfl)
  have oM : (Cond.arrayOver (.object RX2)).before args s = true := hts _ (List.mem_of_getElem? (i := 307) rfl)
  have oL : (Cond.arrayOver (.array .long)).before args s = true := hts _ (List.mem_of_getElem? (i := 315) rfl)
  obtain ⟨aD, xD, yD⟩ := z_arrO oD
  obtain ⟨aM, xM, yM⟩ := z_arrO oM
  obtain ⟨cm, aL, kL, l1, l2, l3, l4⟩ := z_overL oL
  have e1 : cm = aJ := Option.some.inj (l1.symm.trans zJ)
  subst e1
  have n1 : (Cond.methodLinkNest RX2 27 yX0_init "HundredthSheep").before args s = true := hts _ (List.mem_of_getElem? (i := 137) rfl)
  have n2 : (Cond.methodLinkNest RX9 9 yX7_init "HundredthSheep").before args s = true := hts _ (List.mem_of_getElem? (i := 113) rfl)
  have n3 : (Cond.methodLinkNest RX9 52 yX8_init "HundredthSheep").before args s = true := hts _ (List.mem_of_getElem? (i := 338) rfl)
  refine ⟨(fun k => match k with | 0 => c0 | 1 => c1 | 2 => c2 | 3 => c3 | 4 => c4 | 5 => c5 | 6 => c6 | 7 => c7 | 8 => c8 | 9 => c9 | _ => c10, fun k => match k with | 0 => i0 | 1 => i1 | 2 => i2 | 3 => i3 | 4 => i4 | 5 => i5 | 6 => i6 | 7 => i7 | 8 => i8 | 9 => i9 | _ => i10), fun k => match k with | 0 => aB | 1 => aI | 2 => cm | 3 => aZ | 4 => aD | 5 => aM | _ => aL, ⟨fun k q hq => ?_, fun k q hq => ?_⟩, va_AO.of oD, va_AO.of oM, ⟨kL, l2, l3⟩, va_Nw.of rfl n1, va_Nw.of rfl n2, va_Nw.of rfl n3⟩
  · match k, hq with
    | 0, hq => cases hq; exact k0
    | 1, hq => cases hq; exact k1
    | 2, hq => cases hq; exact k2
    | 3, hq => cases hq; exact k3
    | 4, hq => cases hq; exact k4
    | 5, hq => cases hq; exact k5
    | 6, hq => cases hq; exact k6
    | 7, hq => cases hq; exact k7
    | 8, hq => cases hq; exact k8
    | 9, hq => cases hq; exact k9
    | 10, hq => cases hq; exact k10
    | k + 11, hq => simp [vwCl] at hq
  · match k, hq with
    | 0, hq => cases hq; exact ⟨xB, yB⟩
    | 1, hq => cases hq; exact ⟨xI, yI⟩
    | 2, hq => cases hq; exact ⟨xJ, yJ⟩
    | 3, hq => cases hq; exact ⟨xZ, yZ⟩
    | 4, hq => cases hq; exact ⟨xD, yD⟩
    | 5, hq => cases hq; exact ⟨xM, yM⟩
    | 6, hq => cases hq; exact ⟨fun n z => ⟨fun q hq => (by cases hq), kL, l2, cm, l3⟩, l4⟩
    | k + 7, hq => simp [z_tys] at hq

