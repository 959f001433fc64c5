/-- what the word on arrays of long[] says -/
theorem z_overL {args : Array Value} {s : State} (h : (Cond.arrayOver (.array .long)).before args s = true) : ∃ comp c k, s.vm.findClass "[J" = some comp ∧ s.vm.classes[c]? = some k ∧ k.kind = .array comp (.array .long) ∧ s.vm.findClass "[[J" = some c := by
  unfold Cond.before at h
  simp only [Cond.holds, Cond.value, beq_iff_eq] at h
  have e1 : (FieldType.array FieldType.long).toString = "[J" := by decide
  have e2 : "[" ++ (FieldType.array FieldType.long).toString = "[[J" := by decide
  rw [e1] at h
  cases hc : s.vm.findClass "[J" with
  | none => simp [hc] at h
  | some comp =>
    simp only [hc, Option.bind_some, Option.bind_eq_some_iff, Option.map_eq_some_iff] at h
    obtain ⟨c, hi, k, hk, hb⟩ := h
    obtain ⟨hlt, hp, -⟩ := Array.findIdx?_eq_some_iff_getElem.mp hi
    have hkk : s.vm.classes[c] = k := (Array.getElem?_eq_some_iff.mp hk).2
    rw [hkk] at hp
    cases hkind : k.kind with
    | array component ty =>
      rw [hkind] at hb hp
      simp at hb hp
      exact ⟨comp, c, k, rfl, hk, by rw [hkind, hp, hb.1], hb.2⟩
    | _ => rw [hkind] at hb; simp at hb
theorem z_arrP {args : Array Value} {s : State} {ty : FieldType} (hpr : ∀ C, ty ≠ .object C) (h : (Cond.arrayClass ty).before args s = true) : ∃ c, ArrOfT s c ty ∧ va_RA s c ty ∧ s.vm.findClass ("[" ++ ty.toString) = some c := by
  obtain ⟨c, k, comp, h1, h2, h3⟩ := Cond.arrayClass_spec h
  refine ⟨c, fun n z => ⟨fun q hq => (by cases hq), k, h2, comp, h3⟩, ?_, h1⟩
  cases ty with
  | object C => exact absurd rfl (hpr C)
  | _ => exact h1
theorem z_arrPO {args : Array Value} {s : State} {C : String} (h : (Cond.arrayOver (.object C)).before args s = true) : ∃ c, ArrOfT s c (.object C) ∧ va_RA s c (.object C) := by
  obtain ⟨comp, c, k, h1, h2, h3, h4, h5⟩ := Cond.arrayOver_spec h
  exact ⟨c, fun n z => ⟨fun q hq => (by cases hq), k, h3, comp, h4⟩, ⟨k, comp, h3, h4, h1, h5⟩⟩
set_option maxRecDepth 100000 in
theorem z_start {args : Array Value} {s : State} (hts : ∀ w ∈ lw_tbl, w.before args s = true) : ∃ (D : va_G) (cy : Nat → ClassId), z_K D cy s := by
  have hT : ∀ w ∈ lw_all, w.before args s = true := fun w h => hts w (z_all_in w h)
  obtain ⟨c0, i0, k0⟩ := u_known (C := RX0) (T := TX0) (N := 8) (n := 8) hT zin_X0 (hT _ kw_136)
  obtain ⟨c1, i1, k1⟩ := u_known (C := RX1) (T := TX1) (N := 4) (n := 4) hT zin_X1 (hT _ kw_459)
  obtain ⟨c2, i2, k2⟩ := u_known (C := RX2) (T := TX2) (N := 11) (n := 11) hT zin_X2 (hT _ kw_129)
  obtain ⟨c3, i3, k3⟩ := u_known (C := RX3) (T := TX3) (N := 6) (n := 6) hT zin_X3 (hT _ kw_430)
  obtain ⟨c4, i4, k4⟩ := u_known (C := RX4) (T := TX4) (N := 12) (n := 12) hT zin_X4 (hT _ kw_377)
  obtain ⟨c5, i5, k5⟩ := u_known (C := RX5) (T := TX5) (N := 9) (n := 9) hT zin_X5 (hT _ kw_272)
  obtain ⟨c6, i6, k6⟩ := u_known (C := RX6) (T := TX6) (N := 3) (n := 3) hT zin_X6 (hT _ kw_309)
  obtain ⟨c7, i7, k7⟩ := u_known (C := RX7) (T := TX7) (N := 2) (n := 2) hT zin_X7 (hT _ kw_112)
  obtain ⟨c8, i8, k8⟩ := u_known (C := RX8) (T := TX8) (N := 8) (n := 8) hT zin_X8 (hT _ kw_337)
  obtain ⟨c9, i9, k9⟩ := u_known (C := RX9) (T := TX9) (N := 11) (n := 11) hT zin_X9 (hT _ kw_104)
  obtain ⟨c10, i10, k10⟩ := u_known (C := RX10) (T := TX10) (N := 54) (n := 54) hT zin_X10 (hT _ kw_1163)
  obtain ⟨aB, xB, yB, zB⟩ := z_arrP (ty := .byte) (fun _ h => by cases h) (hT _ kw_127)
  obtain ⟨aI, xI, yI, zI⟩ := z_arrP (ty := .int) (fun _ h => by cases h) (hT _ kw_203)
  obtain ⟨aJ, xJ, yJ, zJ⟩ := z_arrP (ty := .long) (fun _ h => by cases h) (hT _ kw_335)
  obtain ⟨aZ, xZ, yZ, zZ⟩ := z_arrP (ty := .boolean) (fun _ h => by cases h) (hT _ kw_334)
  have oD : (Cond.arrayOver (.object RX0)).before args s = true := hts _ (List.mem_of_getElem? (i := 135) rfl)
  have oM : (Cond.arrayOver (.object RX2)).before args s = true := hts _ (List.mem_of_getElem? (i := 307) rfl)
  have oL : (Cond.arrayOver (.array .long)).before args s = true := hts _ (List.mem_of_getElem? (i := 315) rfl)
  obtain ⟨aD, xD, yD⟩ := z_arrPO oD
  obtain ⟨aM, xM, yM⟩ := z_arrPO oM
  obtain ⟨cm, aL, kL, l1, l2, l3, l4⟩ := z_overL oL
  have e1 : cm = aJ := Option.some.inj (l1.symm.trans zJ)
  subst e1
  have n1 : (Cond.methodLinkNest RX2 27 yX0_init "HundredthSheep").before args s = true := hts _ (List.mem_of_getElem? (i := 137) rfl)
  have n2 : (Cond.methodLinkNest RX9 9 yX7_init "HundredthSheep").before args s = true := hts _ (List.mem_of_getElem? (i := 113) rfl)
  have n3 : (Cond.methodLinkNest RX9 52 yX8_init "HundredthSheep").before args s = true := hts _ (List.mem_of_getElem? (i := 338) rfl)
  refine ⟨(fun k => match k with | 0 => c0 | 1 => c1 | 2 => c2 | 3 => c3 | 4 => c4 | 5 => c5 | 6 => c6 | 7 => c7 | 8 => c8 | 9 => c9 | _ => c10, fun k => match k with | 0 => i0 | 1 => i1 | 2 => i2 | 3 => i3 | 4 => i4 | 5 => i5 | 6 => i6 | 7 => i7 | 8 => i8 | 9 => i9 | _ => i10), fun k => match k with | 0 => aB | 1 => aI | 2 => cm | 3 => aZ | 4 => aD | 5 => aM | _ => aL, ⟨fun k q hq => ?_, fun k q hq => ?_⟩, va_AO.of oD, va_AO.of oM, ⟨kL, l2, l3⟩, va_Nw.of rfl n1, va_Nw.of rfl n2, va_Nw.of rfl n3⟩
  · match k, hq with
    | 0, hq => cases hq; exact k0
    | 1, hq => cases hq; exact k1
    | 2, hq => cases hq; exact k2
    | 3, hq => cases hq; exact k3
    | 4, hq => cases hq; exact k4
    | 5, hq => cases hq; exact k5
    | 6, hq => cases hq; exact k6
    | 7, hq => cases hq; exact k7
    | 8, hq => cases hq; exact k8
    | 9, hq => cases hq; exact k9
    | 10, hq => cases hq; exact k10
    | k + 11, hq => simp [vwCl] at hq
  · match k, hq with
    | 0, hq => cases hq; exact ⟨xB, yB⟩
    | 1, hq => cases hq; exact ⟨xI, yI⟩
    | 2, hq => cases hq; exact ⟨xJ, yJ⟩
    | 3, hq => cases hq; exact ⟨xZ, yZ⟩
    | 4, hq => cases hq; exact ⟨xD, yD⟩
    | 5, hq => cases hq; exact ⟨xM, yM⟩
    | 6, hq => cases hq; exact ⟨fun n z => ⟨fun q hq => (by cases hq), kL, l2, cm, l3⟩, l4⟩
    | k + 7, hq => simp [z_tys] at hq

/-- the start: what the tables say, and the texts -/
def z_tm5 (i : Nat) : Term := .string RX5 (z_sI.getD i 0)
theorem z_f1 : ∀ i : Fin 25, Cond.exactly (z_tm5 i.1) "java/lang/String" ∈ flatC (Jvm.Cond.and given_1 narrow_1) := by decide +kernel
theorem z_f2 : ∀ i : Fin 25, Cond.eq (.field (z_tm5 i.1) "java/lang/String" "coder" "B") (.int 0) ∈ flatC (Jvm.Cond.and given_1 narrow_1) := by decide +kernel
theorem z_f3 : ∀ i : Fin 25, Cond.arrayOf (.field (z_tm5 i.1) "java/lang/String" "value" "[B") .byte ∈ flatC (Jvm.Cond.and given_1 narrow_1) := by decide +kernel
theorem z_f4 : ∀ i : Fin 25, Cond.eq (.length (.field (z_tm5 i.1) "java/lang/String" "value" "[B")) (.int (Int32.ofNat (z_sL.getD i.1 0))) ∈ flatC (Jvm.Cond.and given_1 narrow_1) := by decide +kernel
theorem z_f5 : ∀ i : Fin 25, ∀ j : Fin 7, j.1 < z_sL.getD i.1 0 → Cond.eq (.elem (.field (z_tm5 i.1) "java/lang/String" "value" "[B") (.int (Int32.ofNat j.1))) (.int ((z_sB.getD i.1 []).getD j.1 0)) ∈ flatC (Jvm.Cond.and given_1 narrow_1) := by decide +kernel
theorem z_f6_1 : ∀ i : Fin 1, Cond.not (Cond.eq (z_tm5 i.1) (z_tm5 1)) ∈ flatC (Jvm.Cond.and given_1 narrow_1) := by decide +kernel
theorem z_f6_2 : ∀ i : Fin 2, Cond.not (Cond.eq (z_tm5 i.1) (z_tm5 2)) ∈ flatC (Jvm.Cond.and given_1 narrow_1) := by decide +kernel
theorem z_f6_3 : ∀ i : Fin 3, Cond.not (Cond.eq (z_tm5 i.1) (z_tm5 3)) ∈ flatC (Jvm.Cond.and given_1 narrow_1) := by decide +kernel
theorem z_f6_4 : ∀ i : Fin 4, Cond.not (Cond.eq (z_tm5 i.1) (z_tm5 4)) ∈ flatC (Jvm.Cond.and given_1 narrow_1) := by decide +kernel
theorem z_f6_5 : ∀ i : Fin 5, Cond.not (Cond.eq (z_tm5 i.1) (z_tm5 5)) ∈ flatC (Jvm.Cond.and given_1 narrow_1) := by decide +kernel
theorem z_f6_6 : ∀ i : Fin 6, Cond.not (Cond.eq (z_tm5 i.1) (z_tm5 6)) ∈ flatC (Jvm.Cond.and given_1 narrow_1) := by decide +kernel
theorem z_f6_7 : ∀ i : Fin 7, Cond.not (Cond.eq (z_tm5 i.1) (z_tm5 7)) ∈ flatC (Jvm.Cond.and given_1 narrow_1) := by decide +kernel
theorem z_f6_8 : ∀ i : Fin 8, Cond.not (Cond.eq (z_tm5 i.1) (z_tm5 8)) ∈ flatC (Jvm.Cond.and given_1 narrow_1) := by decide +kernel
theorem z_f6_9 : ∀ i : Fin 9, Cond.not (Cond.eq (z_tm5 i.1) (z_tm5 9)) ∈ flatC (Jvm.Cond.and given_1 narrow_1) := by decide +kernel
theorem z_f6_10 : ∀ i : Fin 10, Cond.not (Cond.eq (z_tm5 i.1) (z_tm5 10)) ∈ flatC (Jvm.Cond.and given_1 narrow_1) := by decide +kernel
theorem z_f6_11 : ∀ i : Fin 11, Cond.not (Cond.eq (z_tm5 i.1) (z_tm5 11)) ∈ flatC (Jvm.Cond.and given_1 narrow_1) := by decide +kernel
theorem z_f6_12 : ∀ i : Fin 12, Cond.not (Cond.eq (z_tm5 i.1) (z_tm5 12)) ∈ flatC (Jvm.Cond.and given_1 narrow_1) := by decide +kernel
theorem z_f6_13 : ∀ i : Fin 13, Cond.not (Cond.eq (z_tm5 i.1) (z_tm5 13)) ∈ flatC (Jvm.Cond.and given_1 narrow_1) := by decide +kernel
theorem z_f6_14 : ∀ i : Fin 14, Cond.not (Cond.eq (z_tm5 i.1) (z_tm5 14)) ∈ flatC (Jvm.Cond.and given_1 narrow_1) := by decide +kernel
theorem z_f6_15 : ∀ i : Fin 15, Cond.not (Cond.eq (z_tm5 i.1) (z_tm5 15)) ∈ flatC (Jvm.Cond.and given_1 narrow_1) := by decide +kernel
theorem z_f6_16 : ∀ i : Fin 16, Cond.not (Cond.eq (z_tm5 i.1) (z_tm5 16)) ∈ flatC (Jvm.Cond.and given_1 narrow_1) := by decide +kernel
theorem z_f6_17 : ∀ i : Fin 17, Cond.not (Cond.eq (z_tm5 i.1) (z_tm5 17)) ∈ flatC (Jvm.Cond.and given_1 narrow_1) := by decide +kernel
theorem z_f6_18 : ∀ i : Fin 18, Cond.not (Cond.eq (z_tm5 i.1) (z_tm5 18)) ∈ flatC (Jvm.Cond.and given_1 narrow_1) := by decide +kernel
theorem z_f6_19 : ∀ i : Fin 19, Cond.not (Cond.eq (z_tm5 i.1) (z_tm5 19)) ∈ flatC (Jvm.Cond.and given_1 narrow_1) := by decide +kernel
theorem z_f6_20 : ∀ i : Fin 20, Cond.not (Cond.eq (z_tm5 i.1) (z_tm5 20)) ∈ flatC (Jvm.Cond.and given_1 narrow_1) := by decide +kernel
theorem z_f6_21 : ∀ i : Fin 21, Cond.not (Cond.eq (z_tm5 i.1) (z_tm5 21)) ∈ flatC (Jvm.Cond.and given_1 narrow_1) := by decide +kernel
theorem z_f6_22 : ∀ i : Fin 22, Cond.not (Cond.eq (z_tm5 i.1) (z_tm5 22)) ∈ flatC (Jvm.Cond.and given_1 narrow_1) := by decide +kernel
theorem z_f6_23 : ∀ i : Fin 23, Cond.not (Cond.eq (z_tm5 i.1) (z_tm5 23)) ∈ flatC (Jvm.Cond.and given_1 narrow_1) := by decide +kernel
theorem z_f6_24 : ∀ i : Fin 24, Cond.not (Cond.eq (z_tm5 i.1) (z_tm5 24)) ∈ flatC (Jvm.Cond.and given_1 narrow_1) := by decide +kernel
theorem z_f6 (i j : Nat) (hj : j < 25) (hi : i < j) : Cond.not (Cond.eq (z_tm5 i) (z_tm5 j)) ∈ flatC (Jvm.Cond.and given_1 narrow_1) := by
  rcases (by omega : j = 1 ∨ j = 2 ∨ j = 3 ∨ j = 4 ∨ j = 5 ∨ j = 6 ∨ j = 7 ∨ j = 8 ∨ j = 9 ∨ j = 10 ∨ j = 11 ∨ j = 12 ∨ j = 13 ∨ j = 14 ∨ j = 15 ∨ j = 16 ∨ j = 17 ∨ j = 18 ∨ j = 19 ∨ j = 20 ∨ j = 21 ∨ j = 22 ∨ j = 23 ∨ j = 24) with rfl | rfl | rfl | rfl | rfl | rfl | rfl | rfl | rfl | rfl | rfl | rfl | rfl | rfl | rfl | rfl | rfl | rfl | rfl | rfl | rfl | rfl | rfl | rfl
  · exact z_f6_1 ⟨i, hi⟩
  · exact z_f6_2 ⟨i, hi⟩
  · exact z_f6_3 ⟨i, hi⟩
  · exact z_f6_4 ⟨i, hi⟩
  · exact z_f6_5 ⟨i, hi⟩
  · exact z_f6_6 ⟨i, hi⟩
  · exact z_f6_7 ⟨i, hi⟩
  · exact z_f6_8 ⟨i, hi⟩
  · exact z_f6_9 ⟨i, hi⟩
  · exact z_f6_10 ⟨i, hi⟩
  · exact z_f6_11 ⟨i, hi⟩
  · exact z_f6_12 ⟨i, hi⟩
  · exact z_f6_13 ⟨i, hi⟩
  · exact z_f6_14 ⟨i, hi⟩
  · exact z_f6_15 ⟨i, hi⟩
  · exact z_f6_16 ⟨i, hi⟩
  · exact z_f6_17 ⟨i, hi⟩
  · exact z_f6_18 ⟨i, hi⟩
  · exact z_f6_19 ⟨i, hi⟩
  · exact z_f6_20 ⟨i, hi⟩
  · exact z_f6_21 ⟨i, hi⟩
  · exact z_f6_22 ⟨i, hi⟩
  · exact z_f6_23 ⟨i, hi⟩
  · exact z_f6_24 ⟨i, hi⟩
theorem z_f7 : ∀ i : Fin 25, Cond.stringRef RX5 (z_sI.getD i.1 0) (z_sT.getD i.1 "") ∈ lw_tbl := by decide +kernel
theorem z_f8 : Cond.eq (.static "java/lang/String" "COMPACT_STRINGS" "Z") (.int 1) ∈ flatC (Jvm.Cond.and given_1 narrow_1) ∧ Cond.isRef (.static "jdk/internal/util/Preconditions" "SIOOBE_FORMATTER" "Ljava/util/function/BiFunction;") ∈ flatC (Jvm.Cond.and given_1 narrow_1) := by decide +kernel
theorem z_f9 : Cond.laysStatic "java/lang/String" "COMPACT_STRINGS" "Z" ∈ lw_tbl ∧ Cond.initialized "java/lang/String" ∈ lw_tbl ∧ Cond.laysStatic "jdk/internal/util/Preconditions" "SIOOBE_FORMATTER" "Ljava/util/function/BiFunction;" ∈ lw_tbl ∧ Cond.initialized "jdk/internal/util/Preconditions" ∈ lw_tbl := by decide +kernel
theorem z_start2 {b : Nat} {s : State} (hts : ∀ w ∈ lw_tbl, w.before #[Value.ref b] s = true) (hgv : (Jvm.Cond.and given_1 narrow_1).before #[Value.ref b] s = true) {A : Nat → Prop} (hA : ∀ a : Nat, a < s.heap.size → ¬ A a) : ∃ (D : va_G) (cy : Nat → ClassId) (adK adV : Nat → Nat), z_KK D cy adK adV A s := by
  obtain ⟨D, cy, hK⟩ := z_start hts
  have hs := flat_of_before _ hgv
  obtain ⟨adK, adV, hS, hE⟩ := vk_Sof (args := #[Value.ref b]) (s := s) (N := 25) (tm := z_tm5) (len := z_sL) (byt := z_sB) (A := A) (fun i hi => Nat.lt_of_le_of_lt (z_s7 hi).2 (by decide)) (fun i hi => hs _ (z_f1 ⟨i, hi⟩)) (fun i hi => hs _ (z_f2 ⟨i, hi⟩)) (fun i hi => hs _ (z_f3 ⟨i, hi⟩)) (fun i hi => hs _ (z_f4 ⟨i, hi⟩))
    (fun i hi j hj => hs _ (z_f5 ⟨i, hi⟩ ⟨j, Nat.lt_of_lt_of_le hj (z_s7 hi).2⟩ hj)) (fun i j hi hj hij => if h : i < j then Or.inl (hs _ (z_f6 i j hj h)) else Or.inr (hs _ (z_f6 j i hi (by omega)))) hA
  exact ⟨D, cy, adK, adV, hK, hS, fun i hi => vk_R.of (hts _ (z_f7 ⟨i, hi⟩)) (hE i hi), va_Zof (hts _ z_f9.1) (hts _ z_f9.2.1) (va_eqt (hs _ z_f8.1)) hA, va_Zqof (hts _ z_f9.2.2.1) (hts _ z_f9.2.2.2) (hs _ z_f8.2) hA⟩
