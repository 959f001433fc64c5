/-! THE POOL WORLD: all cells of the system by their addresses L and contents f. -/
/-- the world between two instructions: the pool, its addresses apart and in A, nothing else changed since H0 -/
def z_H (D : va_G) (cl : List vw_C) (A : Nat → Prop) (H0 : Heap) (L : List Nat) (f : Nat → va_E) (H : Heap) (locs : List Loc) : Prop := va_P D cl (va_pl L f) H ∧ va_D A (va_pl L f) ∧ va_S A H0 H locs
/-- a method's start -/
def z_A (L : List Nat) (sz : Nat) : Nat → Prop := fun q => q ∈ L ∨ sz ≤ q
def z_Pre (D : va_G) (cl : List vw_C) (KK : (Nat → Prop) → State → Prop) (L : List Nat) (f : Nat → va_E) (sz : Nat) (U : State) : Prop := U.heap.size = sz ∧ va_P D cl (va_pl L f) U.heap ∧ KK (z_A L sz) U ∧ va_D (fun _ => True) (va_pl L f)
/-- a method's end -/
def z_At (D : va_G) (cl : List vw_C) (A : Nat → Prop) (u : List Nat × (Nat → va_E)) (t : State) : Prop := va_P D cl (va_pl u.1 u.2) t.heap ∧ va_D A (va_pl u.1 u.2)
/-- a room of d frames -/
def z_R (d mc ms : Nat) : Room := { frames := d, cells := mc, slots := ms, locals := 60 * d }
/-- what the tables say, kept over calls -/
def z_Mv (KK : (Nat → Prop) → State → Prop) : Prop := (∀ (A : Nat → Prop) (u U : State), u.vm = U.vm → u.heap = U.heap → KK A u → KK A U) ∧ ∀ (A B : Nat → Prop) (u U : State), u.WarmedH U.vm → (∀ q, B q → A q) → (∀ q : Nat, q < u.heap.size → ¬ A q → U.heap[q]? = u.heap[q]?) → KK A u → KK B U
theorem z_up_self {f : Nat → va_E} {a : Nat} {e : va_E} : va_up f a e a = e := va_up_self _ _ _
theorem z_up_ne {f : Nat → va_E} {a b : Nat} {e x : va_E} (h : b ≠ a) (hb : f b = x) : va_up f a e b = x := (va_up_ne _ _ h).trans hb
theorem z_ne {L : List Nat} {a b : Nat} (ha : a ∈ L) (hb : b ∉ L) : a ≠ b := fun q => hb (q ▸ ha)
theorem z_nin {D : va_G} {cl : List vw_C} {A : Nat → Prop} {L : List Nat} {f : Nat → va_E} {a : Nat} {e : va_E} (hD : va_D A (va_pl L f ++ [(a, e)])) : a ∉ L := by
  intro h
  obtain ⟨k, hk⟩ := va_pl_get (X := []) (f := f) h
  have hk : (va_pl L f)[k]? = some (a, f a) := hk
  have hl := (List.getElem?_eq_some_iff.mp hk).1
  have h1 : (va_pl L f ++ [(a, e)])[k]? = some (a, f a) := by rw [List.getElem?_append_left hl]; exact hk
  have h2 : (va_pl L f ++ [(a, e)])[(va_pl L f).length]? = some (a, e) := by rw [List.getElem?_append_right (Nat.le_refl _), Nat.sub_self]; rfl
  have := hD.1 _ _ _ _ h1 h2 rfl
  omega
theorem z_A_mem {L : List Nat} {f : Nat → va_E} {sz q : Nat} : va_A (va_pl L f) sz q ↔ q ∈ L ∨ sz ≤ q := by
  constructor
  · rintro (⟨k, e, h⟩ | h)
    · obtain ⟨a, h1, h2⟩ := List.mem_map.mp (List.mem_of_getElem? h)
      cases h2
      exact Or.inl h1
    · exact Or.inr h
  · rintro (h | h)
    · obtain ⟨k, hk⟩ := va_pl_get (X := []) (f := f) h
      exact Or.inl ⟨k, f q, hk⟩
    · exact Or.inr h
section ZW
variable {p : Program} {l : Launch} {e : Env} {R : Room} {s : State} {m : MethodId} {args : Array Value} {below : List Frame} {meth : Method} {c : Code} {H : Heap} {locs : List Loc} {cells slots : Nat} {Q : State → Prop}
variable {cc : ByteArray} {pc : Nat} {ls : Array Slot} {rest : List Value} {D : va_G} {cl : List vw_C} {A : Nat → Prop} {a : Nat} {tys : List (ClassId × FieldType)} {H0 : Heap} {L : List Nat} {f : Nat → va_E}
theorem z_get (hexec : p.tables.exec = Jvm.exec) (hb : c.code = cc) {own C : String} {T : u_T} {N ci index : Nat} {Ts : List Cond} (hts : ∀ w ∈ Ts, w.before args s = true) (hin : ∀ w ∈ u_ws C T N, w ∈ Ts) (hown : s.vm.findClass own = some m.cls) (hK : va_K D cl tys s) (hw : z_H D cl A H0 L f H locs) {fs : List Value} (ha : a ∈ L) (he : f a = .inr (ci, fs)) (hc : cl[ci]? = some (C, T, N)) (k : Nat) (hk : k < N) (hlink : (Cond.fieldLink own index (T k).1 (T k).2.1 (T k).2.2.1).before args s = true) {v : Value} (hv : fs[k]? = some v) (hdg : decode cc pc = .ok (.getfield index, 3))
    (kk : W p l e R s m args below meth c H locs cells slots Q (F0 m (pc + 3) ls (v :: rest))) : W p l e R s m args below meth c H locs cells slots Q (F0 m pc ls (.ref a :: rest)) := by
  obtain ⟨k0, hk0⟩ := va_pl_get (X := []) (f := f) ha
  rw [he] at hk0
  exact va_get hexec hb hts hin hown hK hw.1 k0 hk0 hc k hk hlink (fun _ h => h) hv hdg kk
theorem z_set {k : Nat} {e0 : va_E} {H1 : Heap} {locs1 : List Loc} (hw : z_H D cl A H0 L f H locs) (ha : a ∈ L) (hk : ([] ++ va_pl L f)[k]? = some (a, f a)) (hP : va_P D cl ((va_pl L f).set k (a, e0)) H1) (hD : va_D A ((va_pl L f).set k (a, e0))) (hS : va_S A H0 H1 locs1) : z_H D cl A H0 L (va_up f a e0) H1 locs1 := by
  have h := va_pl_set (X := []) (e := e0) hw.2.1 ha hk
  have h : (va_pl L f).set k (a, e0) = va_pl L (va_up f a e0) := h
  rw [h] at hP hD
  exact ⟨hP, hD, hS⟩
theorem z_put (hexec : p.tables.exec = Jvm.exec) (hb : c.code = cc) {own C : String} {T : u_T} {N ci index : Nat} {Ts : List Cond} (hts : ∀ w ∈ Ts, w.before args s = true) (hin : ∀ w ∈ u_ws C T N, w ∈ Ts) {ty0 : Nat → FieldType} (hty : ∀ k, k < N → parseFieldDescriptor (T k).2.2.1 = some (ty0 k)) (hnm : ∀ a, a < N → ∀ b, b < N → a ≠ b → (T a).2.1 ≠ (T b).2.1) (hown : s.vm.findClass own = some m.cls) (hK : va_K D cl tys s) (hw : z_H D cl A H0 L f H locs) {fs : List Value} (ha : a ∈ L) (he : f a = .inr (ci, fs)) (hc : cl[ci]? = some (C, T, N)) (k : Nat) (hk : k < N) (hlink : (Cond.fieldLink own index (T k).1 (T k).2.1 (T k).2.2.1).before args s = true) (hfin : (T k).2.2.2 = false) {v : Value} (hn : narrow (ty0 k) v = v) (hfit : fits (ty0 k) v = true) (hl : k < fs.length) {fs' : List Value} (hfs : fs.set k v = fs') (hdg : decode cc pc = .ok (.putfield index, 3))
    (kk : ∀ (H1 : Heap) (locs1 : List Loc), z_H D cl A H0 L (va_up f a (.inr (ci, fs'))) H1 locs1 → W p l e R s m args below meth c H1 locs1 cells slots Q (F0 m (pc + 3) ls rest)) : W p l e R s m args below meth c H locs cells slots Q (F0 m pc ls (v :: .ref a :: rest)) := by
  subst hfs
  obtain ⟨k0, hk0⟩ := va_pl_get (X := []) (f := f) ha
  have hk1 := hk0
  rw [he] at hk1
  exact va_put hexec hb hts hin ty0 hty hnm hown hK hw.1 hw.2.1 hw.2.2 k0 hk1 hc k hk hlink (fun _ h => h) hfin (hty k hk) hn hfit hl hdg (fun H1 locs1 hP hD hS => kk H1 locs1 (z_set hw ha hk0 hP hD hS))
theorem z_putF (hexec : p.tables.exec = Jvm.exec) (hb : c.code = cc) {own C : String} {T : u_T} {N ci index : Nat} {Ts : List Cond} (hts : ∀ w ∈ Ts, w.before args s = true) (hin : ∀ w ∈ u_ws C T N, w ∈ Ts) {ty0 : Nat → FieldType} (hty : ∀ k, k < N → parseFieldDescriptor (T k).2.2.1 = some (ty0 k)) (hnm : ∀ a, a < N → ∀ b, b < N → a ≠ b → (T a).2.1 ≠ (T b).2.1) (hown : s.vm.findClass own = some m.cls) (hK : va_K D cl tys s) (hw : z_H D cl A H0 L f H locs) {fs : List Value} (ha : a ∈ L) (he : f a = .inr (ci, fs)) (hc : cl[ci]? = some (C, T, N)) (k : Nat) (hk : k < N) (hlink : (Cond.fieldLink own index (T k).1 (T k).2.1 (T k).2.2.1).before args s = true) (hfin : (T k).2.2.2 = true) (hin2 : meth.name = "<init>") (hdecl : (T k).1 = own) {v : Value} (hn : narrow (ty0 k) v = v) (hfit : fits (ty0 k) v = true) (hl : k < fs.length) {fs' : List Value} (hfs : fs.set k v = fs') (hdg : decode cc pc = .ok (.putfield index, 3))
    (kk : ∀ (H1 : Heap) (locs1 : List Loc), z_H D cl A H0 L (va_up f a (.inr (ci, fs'))) H1 locs1 → W p l e R s m args below meth c H1 locs1 cells slots Q (F0 m (pc + 3) ls rest)) : W p l e R s m args below meth c H locs cells slots Q (F0 m pc ls (v :: .ref a :: rest)) := by
  subst hfs
  obtain ⟨k0, hk0⟩ := va_pl_get (X := []) (f := f) ha
  have hk1 := hk0
  rw [he] at hk1
  exact va_putF hexec hb hts hin ty0 hty hnm hown hK hw.1 hw.2.1 hw.2.2 k0 hk1 hc k hk hlink (fun _ h => h) hfin hin2 hdecl (hty k hk) hn hfit hl hdg (fun H1 locs1 hP hD hS => kk H1 locs1 (z_set hw ha hk0 hP hD hS))
theorem z_iald (hexec : p.tables.exec = Jvm.exec) (hb : c.code = cc) (hK : va_K D cl tys s) (hw : z_H D cl A H0 L f H locs) (t0 : Nat) {cA : ClassId} {n : Nat} {g : Nat → Int32} (ha : a ∈ L) (he : f a = .inl (cA, n, .inl g)) (ht : tys[t0]? = some (cA, .int)) {i : Int32} (hin : vp_in i n) (hdg : decode cc pc = .ok (.iaload, 1))
    (kk : W p l e R s m args below meth c H locs cells slots Q (F0 m (pc + 1) ls (.int (g i.toNatClampNeg) :: rest))) : W p l e R s m args below meth c H locs cells slots Q (F0 m pc ls (.int i :: .ref a :: rest)) := by
  obtain ⟨k0, hk0⟩ := va_pl_get (X := []) (f := f) ha
  rw [he] at hk0
  exact va_iald hexec hb hK hw.1 k0 t0 hk0 ht hin hdg kk
theorem z_bald (hexec : p.tables.exec = Jvm.exec) (hb : c.code = cc) (hK : va_K D cl tys s) (hw : z_H D cl A H0 L f H locs) (t0 : Nat) {cA : ClassId} {n : Nat} {g : Nat → Int32} (ha : a ∈ L) (he : f a = .inl (cA, n, .inl g)) (ht : tys[t0]? = some (cA, .byte)) {i : Int32} (hin : vp_in i n) (hdg : decode cc pc = .ok (.baload, 1))
    (kk : W p l e R s m args below meth c H locs cells slots Q (F0 m (pc + 1) ls (.int (g i.toNatClampNeg) :: rest))) : W p l e R s m args below meth c H locs cells slots Q (F0 m pc ls (.int i :: .ref a :: rest)) := by
  obtain ⟨k0, hk0⟩ := va_pl_get (X := []) (f := f) ha
  rw [he] at hk0
  exact va_bald hexec hb hK hw.1 k0 t0 hk0 ht hin hdg kk
theorem z_zald (hexec : p.tables.exec = Jvm.exec) (hb : c.code = cc) (hK : va_K D cl tys s) (hw : z_H D cl A H0 L f H locs) (t0 : Nat) {cA : ClassId} {n : Nat} {g : Nat → Int32} (ha : a ∈ L) (he : f a = .inl (cA, n, .inl g)) (ht : tys[t0]? = some (cA, .boolean)) {i : Int32} (hin : vp_in i n) (hdg : decode cc pc = .ok (.baload, 1))
    (kk : W p l e R s m args below meth c H locs cells slots Q (F0 m (pc + 1) ls (.int (g i.toNatClampNeg) :: rest))) : W p l e R s m args below meth c H locs cells slots Q (F0 m pc ls (.int i :: .ref a :: rest)) := by
  obtain ⟨k0, hk0⟩ := va_pl_get (X := []) (f := f) ha
  rw [he] at hk0
  exact va_zald hexec hb hK hw.1 k0 t0 hk0 ht hin hdg kk
theorem z_lald (hexec : p.tables.exec = Jvm.exec) (hb : c.code = cc) (hK : va_K D cl tys s) (hw : z_H D cl A H0 L f H locs) (t0 : Nat) {cA : ClassId} {n : Nat} {g : Nat → Int64} (ha : a ∈ L) (he : f a = .inl (cA, n, .inr (.inl g))) (ht : tys[t0]? = some (cA, .long)) {i : Int32} (hin : vp_in i n) (hdg : decode cc pc = .ok (.laload, 1))
    (kk : W p l e R s m args below meth c H locs cells slots Q (F0 m (pc + 1) ls (.long (g i.toNatClampNeg) :: rest))) : W p l e R s m args below meth c H locs cells slots Q (F0 m pc ls (.int i :: .ref a :: rest)) := by
  obtain ⟨k0, hk0⟩ := va_pl_get (X := []) (f := f) ha
  rw [he] at hk0
  exact va_lald hexec hb hK hw.1 k0 t0 hk0 ht hin hdg kk
theorem z_aald (hexec : p.tables.exec = Jvm.exec) (hb : c.code = cc) (hK : va_K D cl tys s) (hw : z_H D cl A H0 L f H locs) (t0 : Nat) {cA : ClassId} {C : String} {n : Nat} {g : Nat → Option Nat} (ha : a ∈ L) (he : f a = .inl (cA, n, .inr (.inr (.inr (.inr g))))) (ht : tys[t0]? = some (cA, .object C)) {i : Int32} {b : Nat} (hin : vp_in i n) (hg : g i.toNatClampNeg = some b) (hdg : decode cc pc = .ok (.aaload, 1))
    (kk : W p l e R s m args below meth c H locs cells slots Q (F0 m (pc + 1) ls (.ref b :: rest))) : W p l e R s m args below meth c H locs cells slots Q (F0 m pc ls (.int i :: .ref a :: rest)) := by
  obtain ⟨k0, hk0⟩ := va_pl_get (X := []) (f := f) ha
  rw [he] at hk0
  refine va_aldq hexec hb hK hw.1 k0 t0 hk0 ht hin hdg ?_
  rw [hg]
  exact kk
theorem z_iast (hexec : p.tables.exec = Jvm.exec) (hb : c.code = cc) (hK : va_K D cl tys s) (hw : z_H D cl A H0 L f H locs) (t0 : Nat) {cA : ClassId} {n : Nat} {g : Nat → Int32} (ha : a ∈ L) (he : f a = .inl (cA, n, .inl g)) (ht : tys[t0]? = some (cA, .int)) {i x : Int32} (hin : vp_in i n) (hdg : decode cc pc = .ok (.iastore, 1))
    (kk : ∀ (H1 : Heap) (locs1 : List Loc), z_H D cl A H0 L (va_up f a (.inl (cA, n, .inl (upd g i.toNatClampNeg x)))) H1 locs1 → W p l e R s m args below meth c H1 locs1 cells slots Q (F0 m (pc + 1) ls rest)) : W p l e R s m args below meth c H locs cells slots Q (F0 m pc ls (.int x :: .int i :: .ref a :: rest)) := by
  obtain ⟨k0, hk0⟩ := va_pl_get (X := []) (f := f) ha
  have hk1 := hk0
  rw [he] at hk1
  exact va_iast hexec hb hK hw.1 hw.2.1 hw.2.2 k0 t0 hk1 ht hin hdg (fun H1 locs1 hP hD hS => kk H1 locs1 (z_set hw ha hk0 hP hD hS))
theorem z_bast (hexec : p.tables.exec = Jvm.exec) (hb : c.code = cc) (hK : va_K D cl tys s) (hw : z_H D cl A H0 L f H locs) (t0 : Nat) {cA : ClassId} {n : Nat} {g : Nat → Int32} (ha : a ∈ L) (he : f a = .inl (cA, n, .inl g)) (ht : tys[t0]? = some (cA, .byte)) {i x : Int32} (hin : vp_in i n) (hdg : decode cc pc = .ok (.bastore, 1))
    (kk : ∀ (H1 : Heap) (locs1 : List Loc), z_H D cl A H0 L (va_up f a (.inl (cA, n, .inl (upd g i.toNatClampNeg (vp_nar .byte x))))) H1 locs1 → W p l e R s m args below meth c H1 locs1 cells slots Q (F0 m (pc + 1) ls rest)) : W p l e R s m args below meth c H locs cells slots Q (F0 m pc ls (.int x :: .int i :: .ref a :: rest)) := by
  obtain ⟨k0, hk0⟩ := va_pl_get (X := []) (f := f) ha
  have hk1 := hk0
  rw [he] at hk1
  exact va_bast hexec hb hK hw.1 hw.2.1 hw.2.2 k0 t0 hk1 ht hin hdg (fun H1 locs1 hP hD hS => kk H1 locs1 (z_set hw ha hk0 hP hD hS))
theorem z_zast (hexec : p.tables.exec = Jvm.exec) (hb : c.code = cc) (hK : va_K D cl tys s) (hw : z_H D cl A H0 L f H locs) (t0 : Nat) {cA : ClassId} {n : Nat} {g : Nat → Int32} (ha : a ∈ L) (he : f a = .inl (cA, n, .inl g)) (ht : tys[t0]? = some (cA, .boolean)) {i x : Int32} (hin : vp_in i n) (hdg : decode cc pc = .ok (.bastore, 1))
    (kk : ∀ (H1 : Heap) (locs1 : List Loc), z_H D cl A H0 L (va_up f a (.inl (cA, n, .inl (upd g i.toNatClampNeg (vp_nar .boolean x))))) H1 locs1 → W p l e R s m args below meth c H1 locs1 cells slots Q (F0 m (pc + 1) ls rest)) : W p l e R s m args below meth c H locs cells slots Q (F0 m pc ls (.int x :: .int i :: .ref a :: rest)) := by
  obtain ⟨k0, hk0⟩ := va_pl_get (X := []) (f := f) ha
  have hk1 := hk0
  rw [he] at hk1
  exact va_zast hexec hb hK hw.1 hw.2.1 hw.2.2 k0 t0 hk1 ht hin hdg (fun H1 locs1 hP hD hS => kk H1 locs1 (z_set hw ha hk0 hP hD hS))
theorem z_last (hexec : p.tables.exec = Jvm.exec) (hb : c.code = cc) (hK : va_K D cl tys s) (hw : z_H D cl A H0 L f H locs) (t0 : Nat) {cA : ClassId} {n : Nat} {g : Nat → Int64} (ha : a ∈ L) (he : f a = .inl (cA, n, .inr (.inl g))) (ht : tys[t0]? = some (cA, .long)) {i : Int32} {x : Int64} (hin : vp_in i n) (hdg : decode cc pc = .ok (.lastore, 1))
    (kk : ∀ (H1 : Heap) (locs1 : List Loc), z_H D cl A H0 L (va_up f a (.inl (cA, n, .inr (.inl (vp_updL g i.toNatClampNeg x))))) H1 locs1 → W p l e R s m args below meth c H1 locs1 cells slots Q (F0 m (pc + 1) ls rest)) : W p l e R s m args below meth c H locs cells slots Q (F0 m pc ls (.long x :: .int i :: .ref a :: rest)) := by
  obtain ⟨k0, hk0⟩ := va_pl_get (X := []) (f := f) ha
  have hk1 := hk0
  rw [he] at hk1
  exact va_last hexec hb hK hw.1 hw.2.1 hw.2.2 k0 t0 hk1 ht hin hdg (fun H1 locs1 hP hD hS => kk H1 locs1 (z_set hw ha hk0 hP hD hS))
theorem z_aast (hexec : p.tables.exec = Jvm.exec) (hb : c.code = cc) (hK : va_K D cl tys s) (hw : z_H D cl A H0 L f H locs) (t0 ci : Nat) {cA : ClassId} {r : vw_C} {n v : Nat} {vs : List Value} {g : Nat → Option Nat} (ha : a ∈ L) (he : f a = .inl (cA, n, .inr (.inr (.inr (.inr g))))) (ht : tys[t0]? = some (cA, .object r.1)) (hv : v ∈ L) (hfv : f v = .inr (ci, vs)) (hc : cl[ci]? = some r) {i : Int32} (hin : vp_in i n) (hdg : decode cc pc = .ok (.aastore, 1))
    (kk : ∀ (H1 : Heap) (locs1 : List Loc), z_H D cl A H0 L (va_up f a (.inl (cA, n, .inr (.inr (.inr (.inr (va_up g i.toNatClampNeg (some v)))))))) H1 locs1 → W p l e R s m args below meth c H1 locs1 cells slots Q (F0 m (pc + 1) ls rest)) : W p l e R s m args below meth c H locs cells slots Q (F0 m pc ls (.ref v :: .int i :: .ref a :: rest)) := by
  obtain ⟨k0, hk0⟩ := va_pl_get (X := []) (f := f) ha
  have hk1 := hk0
  rw [he] at hk1
  obtain ⟨k2, hk2⟩ := va_pl_get (X := []) (f := f) hv
  rw [hfv] at hk2
  exact va_astq hexec hb hK hw.1 hw.2.1 hw.2.2 k0 t0 k2 ci hk1 ht hk2 hc hin hdg (fun H1 locs1 hP hD hS => kk H1 locs1 (z_set hw ha hk0 hP hD hS))
theorem z_alen (hexec : p.tables.exec = Jvm.exec) (hb : c.code = cc) (hK : va_K D cl tys s) (hw : z_H D cl A H0 L f H locs) (t0 : Nat) {cA : ClassId} {x : vp_A} (ha : a ∈ L) (he : f a = .inl (cA, x)) {ty : FieldType} (ht : tys[t0]? = some (cA, ty)) {v : Int32} (hv : Int32.ofNat x.1 = v) (hdg : decode cc pc = .ok (.arraylength, 1))
    (kk : W p l e R s m args below meth c H locs cells slots Q (F0 m (pc + 1) ls (.int v :: rest))) : W p l e R s m args below meth c H locs cells slots Q (F0 m pc ls (.ref a :: rest)) := by
  obtain ⟨k0, hk0⟩ := va_pl_get (X := []) (f := f) ha
  rw [he] at hk0
  exact va_alen hexec hb hK hw.1 k0 t0 hk0 ht hv hdg kk
theorem z_push {e0 : va_E} {H1 : Heap} {locs1 : List Loc} (hP : va_P D cl (va_pl L f ++ [(a, e0)]) H1) (hD : va_D A (va_pl L f ++ [(a, e0)])) (hS : va_S A H0 H1 locs1) : a ∉ L ∧ z_H D cl A H0 (L ++ [a]) (va_up f a e0) H1 locs1 := by
  have hn := z_nin (D := D) (cl := cl) hD
  rw [va_pl_push hn] at hP hD
  exact ⟨hn, hP, hD, hS⟩
/-- a new int, byte, long or boolean array: its class is the one that the tables have for its type -/
theorem z_newa (hexec : p.tables.exec = Jvm.exec) (hb : c.code = cc) {atype : ArrayType} (harr : (Cond.arrayClass (newarray.typeOf atype)).before args s = true) {ty : FieldType} (hty : newarray.typeOf atype = ty) (t0 : Nat) {cY : ClassId} (ht : tys[t0]? = some (cY, ty)) (hpr : ∀ C, ty ≠ .object C) (hK : va_K D cl tys s) (hw : z_H D cl A H0 L f H locs) (hA : ∀ q, H0.size ≤ q → A q)
    {n : Int32} {N' : Nat} {a0 : vp_A} (ha : ∀ cA : ClassId, vp_cell cA a0 = arrV cA N' (fun _ => defaultValue ty)) (hn : ¬ n < 0) (hN : n.toNatClampNeg = N') (hbytes : N' * componentBytes ty ≤ 536870912) (hcells : cells + 1 ≤ R.cells) (hslots : slots + N' ≤ R.slots) (hdg : decode cc pc = .ok (.newarray atype, 2))
    (kk : ∀ (q : Nat) (H1 : Heap), q ∉ L → z_H D cl A H0 (L ++ [q]) (va_up f q (.inl (cY, a0))) H1 locs →
      W p l e R s m args below meth c H1 locs (cells + 1) (slots + N') Q (F0 m (pc + 2) ls (.ref q :: rest))) : W p l e R s m args below meth c H locs cells slots Q (F0 m pc ls (.int n :: rest)) := by
  refine va_newa hexec hb harr hty hK hw.1 hw.2.1 hw.2.2 hA ha hn hN hbytes hcells hslots hdg (fun q cA H1 hK2 hP hD hS => ?_)
  have h1 := (hK.2 t0 _ ht).2
  have h2 := (hK2.2 tys.length (cA, ty) (by rw [List.getElem?_append_right (Nat.le_refl _), Nat.sub_self]; rfl)).2
  have e1 : cA = cY := by
    cases ty with
    | object C => exact absurd rfl (hpr C)
    | _ => exact Option.some.inj (h2.symm.trans h1)
  subst e1
  obtain ⟨hn, hw'⟩ := z_push hP hD hS
  exact kk q H1 hn hw'
theorem z_newq (hexec : p.tables.exec = Jvm.exec) (hb : c.code = cc) {own C : String} {index : Nat} (hown : s.vm.findClass own = some m.cls) (hclink : (Cond.classLink own index C).before args s = true) (hover : va_AO C s) (t0 : Nat) {cY : ClassId} (ht : tys[t0]? = some (cY, .object C)) (hK : va_K D cl tys s) (hw : z_H D cl A H0 L f H locs) (hA : ∀ q, H0.size ≤ q → A q)
    {n : Int32} {N' : Nat} (hn : ¬ n < 0) (hN : n.toNatClampNeg = N') (hbytes : N' * 4 ≤ 536870912) (hcells : cells + 1 ≤ R.cells) (hslots : slots + N' ≤ R.slots) (hdg : decode cc pc = .ok (.anewarray index, 3))
    (kk : ∀ (q : Nat) (H1 : Heap), q ∉ L → z_H D cl A H0 (L ++ [q]) (va_up f q (.inl (cY, N', .inr (.inr (.inr (.inr (fun _ => none))))))) H1 locs →
      W p l e R s m args below meth c H1 locs (cells + 1) (slots + N') Q (F0 m (pc + 3) ls (.ref q :: rest))) : W p l e R s m args below meth c H locs cells slots Q (F0 m pc ls (.int n :: rest)) := by
  refine va_newq hexec hb hown hclink hover hK hw.1 hw.2.1 hw.2.2 hA hn hN hbytes hcells hslots hdg (fun q cA H1 hK2 hP hD hS => ?_)
  have h1 := (hK.2 t0 _ ht).2
  have h2 := (hK2.2 tys.length (cA, .object C) (by rw [List.getElem?_append_right (Nat.le_refl _), Nat.sub_self]; rfl)).2
  have e1 : cA = cY := by
    obtain ⟨_, _, _, _, _, h3⟩ := h1
    obtain ⟨_, _, _, _, _, h4⟩ := h2
    exact Option.some.inj (h4.symm.trans h3)
  subst e1
  obtain ⟨hn, hw'⟩ := z_push hP hD hS
  exact kk q H1 hn hw'
theorem z_new (hexec : p.tables.exec = Jvm.exec) (hb : c.code = cc) {own C : String} {T : u_T} {N ci index : Nat} {Ts : List Cond} (hts : ∀ w ∈ Ts, w.before args s = true) (hin : ∀ w ∈ u_ws C T N, w ∈ Ts) {ty : Nat → FieldType} (hty : ∀ k, k < N → parseFieldDescriptor (T k).2.2.1 = some (ty k)) (hown : s.vm.findClass own = some m.cls) (hcl : (Cond.classLink own index C).before args s = true) (hinst : (Cond.instantiable C N).before args s = true) (hini : (Cond.initialized C).before args s = true)
    (hK : va_K D cl tys s) (hw : z_H D cl A H0 L f H locs) (hA : ∀ q, H0.size ≤ q → A q) (hc : cl[ci]? = some (C, T, N)) {fs : List Value} (hfs : ∀ j, j < N → defaultValue (ty j) = vp_V fs j) (hcells : cells + 1 ≤ R.cells) (hslots : slots + N ≤ R.slots) (hdg : decode cc pc = .ok (.new index, 3))
    (kk : ∀ (q : Nat) (H1 : Heap), q ∉ L → z_H D cl A H0 (L ++ [q]) (va_up f q (.inr (ci, fs))) H1 locs →
      W p l e R s m args below meth c H1 locs (cells + 1) (slots + N) Q (F0 m (pc + 3) ls (.ref q :: rest))) : W p l e R s m args below meth c H locs cells slots Q (F0 m pc ls rest) := by
  refine va_new hexec hb hts hin ty hty hown hcl hinst hini hK hw.1 hw.2.1 hw.2.2 hA hc hfs hcells hslots hdg (fun q H1 hP hD hS => ?_)
  obtain ⟨hn, hw'⟩ := z_push hP hD hS
  exact kk q H1 hn hw'
end ZW
theorem z_A_eq {L : List Nat} {f : Nat → va_E} {sz : Nat} : va_A (va_pl L f) sz = z_A L sz := funext fun _ => propext z_A_mem
def z_Qi (D : va_G) (cl : List vw_C) (post : Int32 → List Nat × (Nat → va_E) → Prop) (L : List Nat) (sz : Nat) : Array Value → State → Outcome → State → Prop := va_Qi post (z_At D cl (z_A L sz)) (z_A L sz)
def z_Ql (D : va_G) (cl : List vw_C) (post : Int64 → List Nat × (Nat → va_E) → Prop) (L : List Nat) (sz : Nat) : Array Value → State → Outcome → State → Prop := va_Ql post (z_At D cl (z_A L sz)) (z_A L sz)
def z_Qv (D : va_G) (cl : List vw_C) (post : List Nat × (Nat → va_E) → Prop) (L : List Nat) (sz : Nat) : Array Value → State → Outcome → State → Prop := va_Qv post (z_At D cl (z_A L sz)) (z_A L sz)
section ZC
variable {p : Program} {l : Launch} {e : Env} {R : Room} {s : State} {m : MethodId} {args : Array Value} {below : List Frame} {meth : Method} {c : Code} {H : Heap} {locs : List Loc} {cells slots : Nat} {Q : State → Prop}
variable {cc : ByteArray} {pc : Nat} {ls : Array Slot} {rest st0 As : List Value} {D : va_G} {cl : List vw_C} {A : Nat → Prop} {b : Nat} {tys : List (ClassId × FieldType)} {L L0 L1 : List Nat} {f f1 : Nat → va_E} {KK : (Nat → Prop) → State → Prop}
variable {y : MethodName} {bytes : ByteArray} {maxL nL mc ms n index sz ci : Nat} {ret : Option FieldType} {ws ws' Ts : List Cond} {rm : Room} {own C : String} {fs : List Value} {q0 : vw_C}
theorem z_in (hw : z_H D cl A s.heap L f H locs) (hA : ∀ q, s.heap.size ≤ q → A q) : ∀ q, z_A L H.size q → A q := by
  rintro q (h | h)
  · obtain ⟨k, hk⟩ := va_pl_get (X := []) (f := f) h
    exact hw.2.1.2 k _ hk
  · exact hA q (Nat.le_trans hw.2.2.1 h)
theorem z_blind {av : List Value} (hmv : z_Mv KK) : FrameBlind (va_Pc av (z_Pre D cl KK L f sz)) := fun a U g mk q => by
  obtain ⟨q0, q1, qP, qK, qD⟩ := q
  exact ⟨q0, q1, qP, hmv.1 _ U (U.calling g mk a) rfl rfl qK, qD⟩
theorem z_recv (hK : va_K D cl tys s) (hw : z_H D cl A s.heap L f H locs) (hbL : b ∈ L) (hfb : f b = .inr (ci, fs)) (hc : cl[ci]? = some q0) (hq : q0.1 = C) : ∃ cell : Cell, H[b]? = some cell ∧ cell.vm.isStatics = false ∧ s.vm.findClass C = some cell.cls := by
  obtain ⟨k, hk⟩ := va_pl_get (X := []) (f := f) hbL
  rw [hfb] at hk
  subst hq
  exact va_recv hK hw.1 hc hk
theorem z_pre {av : List Value} (hmv : z_Mv KK) (hKK : KK A s) (hw : z_H D cl A s.heap L f H locs) (hA : ∀ q, s.heap.size ≤ q → A q) (U : State) (hU : U.heap = H) (hW : s.WarmedH U.vm) : va_Pc av (z_Pre D cl KK L f H.size) av.toArray U :=
  ⟨rfl, by rw [hU], by rw [hU]; exact hw.1, hmv.2 _ _ s U hW (z_in hw hA) (fun q h1 h2 => by rw [hU]; exact hw.2.2.2.1 q h1 h2) hKK, hw.2.1.weaken (fun _ _ _ _ => trivial)⟩
theorem z_back {u : List Nat × (Nat → va_E)} {t : State} {H1 : Heap} {locs1 : List Loc} (hw : z_H D cl A s.heap L f H locs) (hA : ∀ q, s.heap.size ≤ q → A q) (ht : t.heap = H1) (hB : z_At D cl (z_A L H.size) u t) (hS : va_S A s.heap H1 locs1) : z_H D cl A s.heap u.1 u.2 H1 locs1 :=
  ⟨by rw [← ht]; exact hB.1, hB.2.weaken (fun _ q _ h => z_in hw hA q.1 h), hS⟩
theorem z_calliV {post : Int32 → List Nat × (Nat → va_E) → Prop} (S : CallFix p m c cc nL s args Ts own) (hM : Met l y ws rm (va_Pc (.ref b :: As) (z_Pre D cl KK L f H.size)) (z_Qi D cl post L H.size) mc ms (z_A L H.size)) (cw : CallW R s args own C index y bytes maxL ret ws rm mc ms n) (hmv : z_Mv KK) (hKK : KK A s) (hK : va_K D cl tys s) (hw : z_H D cl A s.heap L f H locs) (hA : ∀ q, s.heap.size ≤ q → A q) (hbL : b ∈ L) (hfb : f b = .inr (ci, fs)) (hc : cl[ci]? = some q0) (hq : q0.1 = C) (hn : As.length = n) (hls : ls.size = nL) (hst : st0 = As.reverse ++ .ref b :: rest) (hW : (rest.map fun v => v.category).sum ≤ 8) (hdg : decode cc pc = .ok (.invokevirtual index, 3)) (hf : cells + mc ≤ R.cells ∧ slots + ms ≤ R.slots)
    (kk : ∀ (r : Int32) (u : List Nat × (Nat → va_E)) (H1 : Heap) (locs1 : List Loc), post r u → z_H D cl A s.heap u.1 u.2 H1 locs1 → W p l e R s m args below meth c H1 locs1 (cells + mc) (slots + ms) Q (F0 m (pc + 3) ls (.int r :: rest))) : W p l e R s m args below meth c H locs cells slots Q (F0 m pc ls st0) :=
  va_calli (va_runV S hM cw ⟨z_blind hmv, z_recv hK hw hbL hfb hc hq, fun U hU hW => z_pre hmv hKK hw hA U hU hW⟩ rfl hn hls hst (lv_room hW) hdg hf) hw.2.2 (fun q _ h => z_in hw hA q h) (fun q h => z_in hw hA q h)
    (fun r u _ H1 locs1 ht _ hp hB _ _ hS => kk r u H1 locs1 hp (z_back hw hA ht hB hS))
theorem z_callvV {post : List Nat × (Nat → va_E) → Prop} (S : CallFix p m c cc nL s args Ts own) (hM : Met l y ws rm (va_Pc (.ref b :: As) (z_Pre D cl KK L f H.size)) (z_Qv D cl post L H.size) mc ms (z_A L H.size)) (cw : CallW R s args own C index y bytes maxL ret ws rm mc ms n) (hmv : z_Mv KK) (hKK : KK A s) (hK : va_K D cl tys s) (hw : z_H D cl A s.heap L f H locs) (hA : ∀ q, s.heap.size ≤ q → A q) (hbL : b ∈ L) (hfb : f b = .inr (ci, fs)) (hc : cl[ci]? = some q0) (hq : q0.1 = C) (hn : As.length = n) (hls : ls.size = nL) (hst : st0 = As.reverse ++ .ref b :: rest) (hW : (rest.map fun v => v.category).sum ≤ 8) (hdg : decode cc pc = .ok (.invokevirtual index, 3)) (hf : cells + mc ≤ R.cells ∧ slots + ms ≤ R.slots)
    (kk : ∀ (u : List Nat × (Nat → va_E)) (H1 : Heap) (locs1 : List Loc), post u → z_H D cl A s.heap u.1 u.2 H1 locs1 → W p l e R s m args below meth c H1 locs1 (cells + mc) (slots + ms) Q (F0 m (pc + 3) ls rest)) : W p l e R s m args below meth c H locs cells slots Q (F0 m pc ls st0) :=
  va_callv (va_runV S hM cw ⟨z_blind hmv, z_recv hK hw hbL hfb hc hq, fun U hU hW => z_pre hmv hKK hw hA U hU hW⟩ rfl hn hls hst (lv_room hW) hdg hf) hw.2.2 (fun q _ h => z_in hw hA q h) (fun q h => z_in hw hA q h)
    (fun u _ H1 locs1 ht _ hp hB _ _ hS => kk u H1 locs1 hp (z_back hw hA ht hB hS))
theorem z_calliS {post : Int32 → List Nat × (Nat → va_E) → Prop} (S : CallFix p m c cc nL s args Ts own) (hM : Met l y ws rm (va_Pc As (z_Pre D cl KK L f H.size)) (z_Qi D cl post L H.size) mc ms (z_A L H.size)) (cw : CallB R s args own index y bytes maxL ret ws rm mc ms n ∧ (Cond.static y).before args s = true) (hmv : z_Mv KK) (hKK : KK A s) (hw : z_H D cl A s.heap L f H locs) (hA : ∀ q, s.heap.size ≤ q → A q) (hn : As.length = n) (hls : ls.size = nL) (hst : st0 = As.reverse ++ rest) (hW : (rest.map fun v => v.category).sum ≤ 8) (hdg : decode cc pc = .ok (.invokestatic index, 3)) (hf : cells + mc ≤ R.cells ∧ slots + ms ≤ R.slots)
    (kk : ∀ (r : Int32) (u : List Nat × (Nat → va_E)) (H1 : Heap) (locs1 : List Loc), post r u → z_H D cl A s.heap u.1 u.2 H1 locs1 → W p l e R s m args below meth c H1 locs1 (cells + mc) (slots + ms) Q (F0 m (pc + 3) ls (.int r :: rest))) : W p l e R s m args below meth c H locs cells slots Q (F0 m pc ls st0) :=
  va_calli (va_runS S hM cw ⟨z_blind hmv, fun U hU hW => z_pre hmv hKK hw hA U hU hW⟩ rfl hn hls hst (lv_room hW) hdg hf) hw.2.2 (fun q _ h => z_in hw hA q h) (fun q h => z_in hw hA q h)
    (fun r u _ H1 locs1 ht _ hp hB _ _ hS => kk r u H1 locs1 hp (z_back hw hA ht hB hS))
theorem z_calllS {post : Int64 → List Nat × (Nat → va_E) → Prop} (S : CallFix p m c cc nL s args Ts own) (hM : Met l y ws rm (va_Pc As (z_Pre D cl KK L f H.size)) (z_Ql D cl post L H.size) mc ms (z_A L H.size)) (cw : CallB R s args own index y bytes maxL ret ws rm mc ms n ∧ (Cond.static y).before args s = true) (hmv : z_Mv KK) (hKK : KK A s) (hw : z_H D cl A s.heap L f H locs) (hA : ∀ q, s.heap.size ≤ q → A q) (hn : As.length = n) (hls : ls.size = nL) (hst : st0 = As.reverse ++ rest) (hW : (rest.map fun v => v.category).sum ≤ 8) (hdg : decode cc pc = .ok (.invokestatic index, 3)) (hf : cells + mc ≤ R.cells ∧ slots + ms ≤ R.slots)
    (kk : ∀ (r : Int64) (u : List Nat × (Nat → va_E)) (H1 : Heap) (locs1 : List Loc), post r u → z_H D cl A s.heap u.1 u.2 H1 locs1 → W p l e R s m args below meth c H1 locs1 (cells + mc) (slots + ms) Q (F0 m (pc + 3) ls (.long r :: rest))) : W p l e R s m args below meth c H locs cells slots Q (F0 m pc ls st0) :=
  va_calll (va_runS S hM cw ⟨z_blind hmv, fun U hU hW => z_pre hmv hKK hw hA U hU hW⟩ rfl hn hls hst (lv_room hW) hdg hf) hw.2.2 (fun q _ h => z_in hw hA q h) (fun q h => z_in hw hA q h)
    (fun r u _ H1 locs1 ht _ hp hB _ _ hS => kk r u H1 locs1 hp (z_back hw hA ht hB hS))
theorem z_callvS {post : List Nat × (Nat → va_E) → Prop} (S : CallFix p m c cc nL s args Ts own) (hM : Met l y ws rm (va_Pc As (z_Pre D cl KK L f H.size)) (z_Qv D cl post L H.size) mc ms (z_A L H.size)) (cw : CallB R s args own index y bytes maxL ret ws rm mc ms n ∧ (Cond.static y).before args s = true) (hmv : z_Mv KK) (hKK : KK A s) (hw : z_H D cl A s.heap L f H locs) (hA : ∀ q, s.heap.size ≤ q → A q) (hn : As.length = n) (hls : ls.size = nL) (hst : st0 = As.reverse ++ rest) (hW : (rest.map fun v => v.category).sum ≤ 8) (hdg : decode cc pc = .ok (.invokestatic index, 3)) (hf : cells + mc ≤ R.cells ∧ slots + ms ≤ R.slots)
    (kk : ∀ (u : List Nat × (Nat → va_E)) (H1 : Heap) (locs1 : List Loc), post u → z_H D cl A s.heap u.1 u.2 H1 locs1 → W p l e R s m args below meth c H1 locs1 (cells + mc) (slots + ms) Q (F0 m (pc + 3) ls rest)) : W p l e R s m args below meth c H locs cells slots Q (F0 m pc ls st0) :=
  va_callv (va_runS S hM cw ⟨z_blind hmv, fun U hU hW => z_pre hmv hKK hw hA U hU hW⟩ rfl hn hls hst (lv_room hW) hdg hf) hw.2.2 (fun q _ h => z_in hw hA q h) (fun q h => z_in hw hA q h)
    (fun u _ H1 locs1 ht _ hp hB _ _ hS => kk u H1 locs1 hp (z_back hw hA ht hB hS))
theorem z_callvI {post : List Nat × (Nat → va_E) → Prop} (S : CallFix p m c cc nL s args Ts own) (hM : Met l y ws rm (va_Pc (.ref b :: As) (z_Pre D cl KK L f H.size)) (z_Qv D cl post L H.size) mc ms (z_A L H.size)) (cw : CallB R s args own index y bytes maxL none ws rm mc ms n ∧ y.name = "<init>" ∧ (Cond.instanceMethod y).before args s = true) (hmv : z_Mv KK) (hKK : KK A s) (hw : z_H D cl A s.heap L f H locs) (hA : ∀ q, s.heap.size ≤ q → A q) (hn : As.length = n) (hls : ls.size = nL) (hst : st0 = As.reverse ++ .ref b :: rest) (hW : (rest.map fun v => v.category).sum ≤ 8) (hdg : decode cc pc = .ok (.invokespecial index, 3)) (hf : cells + mc ≤ R.cells ∧ slots + ms ≤ R.slots)
    (kk : ∀ (u : List Nat × (Nat → va_E)) (H1 : Heap) (locs1 : List Loc), post u → z_H D cl A s.heap u.1 u.2 H1 locs1 → W p l e R s m args below meth c H1 locs1 (cells + mc) (slots + ms) Q (F0 m (pc + 3) ls rest)) : W p l e R s m args below meth c H locs cells slots Q (F0 m pc ls st0) :=
  va_callv (va_runI S hM cw ⟨z_blind hmv, fun U hU hW => z_pre hmv hKK hw hA U hU hW⟩ rfl hn hls hst (lv_room hW) hdg hf) hw.2.2 (fun q _ h => z_in hw hA q h) (fun q h => z_in hw hA q h)
    (fun u _ H1 locs1 ht _ hp hB _ _ hS => kk u H1 locs1 hp (z_back hw hA ht hB hS))
theorem z_callvIN {host : String} {post : List Nat × (Nat → va_E) → Prop} (S : CallFix p m c cc nL s args Ts own) (hM : Met l y ws rm (va_Pc (.ref b :: As) (z_Pre D cl KK L f H.size)) (z_Qv D cl post L H.size) mc ms (z_A L H.size)) (cw : va_CN R s args own index y host bytes maxL none ws rm mc ms n ∧ y.name = "<init>" ∧ (Cond.instanceMethod y).before args s = true) (hmv : z_Mv KK) (hKK : KK A s) (hw : z_H D cl A s.heap L f H locs) (hA : ∀ q, s.heap.size ≤ q → A q) (hn : As.length = n) (hls : ls.size = nL) (hst : st0 = As.reverse ++ .ref b :: rest) (hW : (rest.map fun v => v.category).sum ≤ 8) (hdg : decode cc pc = .ok (.invokespecial index, 3)) (hf : cells + mc ≤ R.cells ∧ slots + ms ≤ R.slots)
    (kk : ∀ (u : List Nat × (Nat → va_E)) (H1 : Heap) (locs1 : List Loc), post u → z_H D cl A s.heap u.1 u.2 H1 locs1 → W p l e R s m args below meth c H1 locs1 (cells + mc) (slots + ms) Q (F0 m (pc + 3) ls rest)) : W p l e R s m args below meth c H locs cells slots Q (F0 m pc ls st0) :=
  va_callv (va_runIN S hM cw ⟨z_blind hmv, fun U hU hW => z_pre hmv hKK hw hA U hU hW⟩ rfl hn hls hst (lv_room hW) hdg hf) hw.2.2 (fun q _ h => z_in hw hA q h) (fun q h => z_in hw hA q h)
    (fun u _ H1 locs1 ht _ hp hB _ _ hS => kk u H1 locs1 hp (z_back hw hA ht hB hS))
theorem z_iret {post : Int32 → List Nat × (Nat → va_E) → Prop} {v : Int32} (hx : p.tables.exec = Jvm.exec) (hb : c.code = cc) (hr : meth.sig.returnType = some .int) (hlocks : meth.locks = false) (h1 : cells ≤ mc) (h2 : slots ≤ ms) (hw : z_H D cl (z_A L0 sz) s.heap L1 f1 H locs) (hp : post v (L1, f1)) (hdg : decode cc pc = .ok (.ireturn, 1)) : W p l e R s m args below meth c H locs cells slots (MQ below (z_Qi D cl post L0 sz) args s mc ms (z_A L0 sz)) (F0 m pc ls [.int v]) :=
  W.widen h1 h2 (W.iret hx hb hr (fun _ ht _ => ⟨⟨v, (L1, f1), rfl, hp, by rw [ht]; exact hw.1, hw.2.1⟩, hw.2.2.F ht⟩) hw.2.2.2.2 hdg hlocks)
theorem z_zret {post : Int32 → List Nat × (Nat → va_E) → Prop} {v : Int32} {ty : FieldType} (hx : p.tables.exec = Jvm.exec) (hb : c.code = cc) (hr : meth.sig.returnType = some ty) (hn : narrow ty (.int v) = .int v) (hlocks : meth.locks = false) (h1 : cells ≤ mc) (h2 : slots ≤ ms) (hw : z_H D cl (z_A L0 sz) s.heap L1 f1 H locs) (hp : post v (L1, f1)) (hdg : decode cc pc = .ok (.ireturn, 1)) : W p l e R s m args below meth c H locs cells slots (MQ below (z_Qi D cl post L0 sz) args s mc ms (z_A L0 sz)) (F0 m pc ls [.int v]) :=
  W.widen h1 h2 (W.zret hx hb hr hn (fun _ ht _ => ⟨⟨v, (L1, f1), rfl, hp, by rw [ht]; exact hw.1, hw.2.1⟩, hw.2.2.F ht⟩) hw.2.2.2.2 hdg hlocks)
theorem z_lret {post : Int64 → List Nat × (Nat → va_E) → Prop} {v : Int64} (hx : p.tables.exec = Jvm.exec) (hb : c.code = cc) (hr : meth.sig.returnType = some .long) (hlocks : meth.locks = false) (h1 : cells ≤ mc) (h2 : slots ≤ ms) (hw : z_H D cl (z_A L0 sz) s.heap L1 f1 H locs) (hp : post v (L1, f1)) (hdg : decode cc pc = .ok (.lreturn, 1)) : W p l e R s m args below meth c H locs cells slots (MQ below (z_Ql D cl post L0 sz) args s mc ms (z_A L0 sz)) (F0 m pc ls [.long v]) :=
  W.widen h1 h2 (W.lret hx hb hr (fun _ ht _ => ⟨⟨v, (L1, f1), rfl, hp, by rw [ht]; exact hw.1, hw.2.1⟩, hw.2.2.F ht⟩) hw.2.2.2.2 hdg hlocks)
theorem z_vret {post : List Nat × (Nat → va_E) → Prop} (hx : p.tables.exec = Jvm.exec) (hb : c.code = cc) (hr : meth.sig.returnType = none) (hlocks : meth.locks = false) (h1 : cells ≤ mc) (h2 : slots ≤ ms) (hw : z_H D cl (z_A L0 sz) s.heap L1 f1 H locs) (hp : post (L1, f1)) (hdg : decode cc pc = .ok (.return_, 1)) : W p l e R s m args below meth c H locs cells slots (MQ below (z_Qv D cl post L0 sz) args s mc ms (z_A L0 sz)) (F0 m pc ls []) :=
  W.widen h1 h2 (W.vret hx hb hr (fun _ ht _ => ⟨⟨(L1, f1), rfl, hp, by rw [ht]; exact hw.1, hw.2.1⟩, hw.2.2.F ht⟩) hw.2.2.2.2 hdg hlocks)
/-- a method's contract out of the walk of its body -/
theorem z_met {av : List Value} {Qc : Array Value → State → Outcome → State → Prop} {lv : List (Nat × Value)} (hy : plainName y.cls = true) (hw : ws = Cond.code y cc maxL ret :: ws') (hlen : (lg_sl av).length ≤ maxL) (hlv : lv_args 0 av = lv)
    (body : ∀ (p : Program) (e : Env) (s : State) (m : MethodId) (below : List Frame) (meth : Method) (c : Code) (ls : Array Slot), p.tables.exec = Jvm.exec → c.code = cc → meth.sig.returnType = ret → meth.locks = false → c.maxLocals = maxL → s.vm.findClass y.cls = some m.cls → meth.name = y.name → (∀ w ∈ ws, w.before av.toArray s = true) → KK (z_A L sz) s → (∀ q, s.heap.size ≤ q → z_A L sz q) → z_H D cl (z_A L sz) s.heap L f s.heap [] → lv_has ls maxL lv →
      W p l e rm s m av.toArray below meth c s.heap [] 0 0 (MQ below Qc av.toArray s mc ms (z_A L sz)) (F0 m 0 ls [])) : Met l y ws rm (va_Pc av (z_Pre D cl KK L f sz)) Qc mc ms (z_A L sz) := by
  refine Met.ofW (cc := cc) (maxL := maxL) (ret := ret) hy hw ?_
  intro p e s m args below meth c s₁ B hml hv
  obtain ⟨rfl, hsz, hP, hK, hD0⟩ := hv
  subst hsz
  have hl := lv_entry av hlen
  rw [lg_entry_eq]
  rw [hlv] at hl
  have hD := hD0.self (sz := s.heap.size)
  rw [z_A_eq] at hD
  exact body p e s m below meth c _ B.exec B.bytes B.returns B.notSynchronized hml (findClass_of_methodNamed B.named) (name_of_methodNamed B.named B.method).1 (atoms_spec (ws := ws) B.pre) hK (fun q h => Or.inr h) ⟨hP, hD, va_S.rf⟩ hl
end ZC
