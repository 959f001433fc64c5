/-! new long[4][60] over the pool world -/
theorem z_P_iff {D : va_G} {cl : List vw_C} {L : List Nat} {f : Nat → va_E} {H : Heap} : va_P D cl (va_pl L f) H ↔ ∀ a ∈ L, va_at D cl (a, f a) H := by
  constructor
  · intro h a ha
    obtain ⟨k, hk⟩ := va_pl_get (X := []) (f := f) ha
    exact h k _ hk
  · intro h k q hk
    obtain ⟨a, h1, h2⟩ := List.mem_map.mp (List.mem_of_getElem? hk)
    subst h2
    exact h a h1
theorem z_D_iff {A : Nat → Prop} {L : List Nat} {f : Nat → va_E} : va_D A (va_pl L f) ↔ L.Nodup ∧ ∀ a ∈ L, A a := by
  have key : ∀ (k : Nat) (q : Nat × va_E), (va_pl L f)[k]? = some q ↔ ∃ a, L[k]? = some a ∧ q = (a, f a) := by
    intro k q
    unfold va_pl
    rw [List.getElem?_map, Option.map_eq_some_iff]
    constructor
    · rintro ⟨a, h1, h2⟩; exact ⟨a, h1, h2.symm⟩
    · rintro ⟨a, h1, h2⟩; exact ⟨a, h1, h2.symm⟩
  constructor
  · rintro ⟨h1, h2⟩
    refine ⟨?_, fun a ha => ?_⟩
    · refine List.pairwise_iff_getElem.mpr (fun i j hi hj hij he => ?_)
      have := h1 i j (L[i], f L[i]) (L[j], f L[j]) ((key _ _).mpr ⟨_, List.getElem?_eq_getElem hi, rfl⟩) ((key _ _).mpr ⟨_, List.getElem?_eq_getElem hj, rfl⟩) he
      omega
    · obtain ⟨k, hk⟩ := va_pl_get (X := []) (f := f) ha
      exact h2 k _ hk
  · rintro ⟨h1, h2⟩
    refine ⟨fun i j p q hi hj hpq => ?_, fun k q hk => ?_⟩
    · obtain ⟨a, ha, rfl⟩ := (key _ _).mp hi
      obtain ⟨b, hb, rfl⟩ := (key _ _).mp hj
      have hab : a = b := hpq
      subst hab
      obtain ⟨li, ei⟩ := List.getElem?_eq_some_iff.mp ha
      obtain ⟨lj, ej⟩ := List.getElem?_eq_some_iff.mp hb
      rcases Nat.lt_trichotomy i j with q | q | q
      · exact absurd (ei.trans ej.symm) (List.pairwise_iff_getElem.mp h1 i j li lj q)
      · exact q
      · exact absurd (ej.trans ei.symm) (List.pairwise_iff_getElem.mp h1 j i lj li q)
    · obtain ⟨a, ha, rfl⟩ := (key _ _).mp hk
      exact h2 a (List.mem_of_getElem? ha)
/-- the outer row when i of its four places are laid; an inner row -/
def z_out (c : ClassId) (h i : Nat) : Cell := arrV c 4 (fun j => va_rf (if j < i then some (h + 1 + j) else none))
def z_inn (c : ClassId) : Cell := arrV c 60 (fun _ => .long 0)
def z_lay (s : State) (c c2 : ClassId) (h : Nat) : Nat → State
  | 0 => s.pushCell (z_out c h 0)
  | i + 1 => ((z_lay s c c2 h i).pushCell (z_inn c2)).setCell h (z_out c h (i + 1))
theorem z_out_next (c : ClassId) (h i : Nat) : (z_out c h i).setSlot i (.ref (h + 1 + i)) = z_out c h (i + 1) := by
  unfold z_out
  rw [arrV_store]
  refine congrArg (arrV c 4) (funext fun j => ?_)
  by_cases q : j = i
  · subst q; simp [updV, va_rf]
  · by_cases q2 : j < i
    · simp [updV, q, q2, Nat.lt_succ_of_lt q2]
    · simp [updV, q, q2, show ¬ j < i + 1 by omega]
theorem z_lay_facts (s : State) (c c2 : ClassId) {h : Nat} (hh : s.heap.size = h) : ∀ i, (z_lay s c c2 h i).heap.size = h + 1 + i ∧ (z_lay s c c2 h i).heap[h]? = some (z_out c h i) ∧ (z_lay s c c2 h i).vm = s.vm ∧ (z_lay s c c2 h i).slotsUsed = s.slotsUsed + 4 + i * 60 ∧ (∀ a, a < h → (z_lay s c c2 h i).heap[a]? = s.heap[a]?) ∧ ∀ j, j < i → (z_lay s c c2 h i).heap[h + 1 + j]? = some (z_inn c2)
  | 0 => by
    subst hh
    refine ⟨by simp [z_lay], by simp [z_lay], rfl, by simp [z_lay, z_out, arrV_size], fun a ha => State.heap_pushCell_of_lt _ _ ha, fun j hj => absurd hj (Nat.not_lt_zero _)⟩
  | i + 1 => by
    obtain ⟨a1, a2, a3, a4, a5, a6⟩ := z_lay_facts s c c2 hh i
    have hlt : h < (z_lay s c c2 h i).heap.size := by omega
    have hb' : ((z_lay s c c2 h i).pushCell (z_inn c2)).heap[h]? = some (z_out c h i) := by rw [State.heap_pushCell_of_lt (h := hlt)]; exact a2
    refine ⟨by simp [z_lay, State.setCell, a1]; omega, State.heap_setCell_self hb', by simp [z_lay, a3], by simp [z_lay, a4, z_inn, arrV_size]; omega, fun a ha => ?_, fun j hj => ?_⟩
    · show (((z_lay s c c2 h i).pushCell (z_inn c2)).setCell h _).heap[a]? = _
      have hlt2 : a < (z_lay s c c2 h i).heap.size := by omega
      rw [State.heap_setCell_other (Nat.ne_of_gt ha), State.heap_pushCell_of_lt (h := hlt2)]
      exact a5 a ha
    · show (((z_lay s c c2 h i).pushCell (z_inn c2)).setCell h _).heap[h + 1 + j]? = _
      rw [State.heap_setCell_other (show h ≠ h + 1 + j by omega)]
      rcases Nat.lt_or_ge j i with hj | hj
      · have hlt2 : h + 1 + j < (z_lay s c c2 h i).heap.size := by omega
        rw [State.heap_pushCell_of_lt (h := hlt2)]
        exact a6 j hj
      · rw [show h + 1 + j = (z_lay s c c2 h i).heap.size by omega]
        exact State.heap_pushCell_size _ _
theorem z_lay_top (s : State) (g : JFrame) (c c2 : ClassId) (h : Nat) : ∀ i, z_lay (s.setTop g) c c2 h i = (z_lay s c c2 h i).setTop g
  | 0 => rfl
  | i + 1 => by simp only [z_lay, z_lay_top s g c c2 h i, State.pushCell_setTop, State.setCell_setTop]
section ZMW
variable {E : CtlPost} {e : Env} {d : Bool} {acts : List Action} {s : State}
theorem z_wpArr {c comp : ClassId} {k : Class} {type : FieldType} {len : Nat} {init : Value} (hk : s.vm.classes[c]? = some k) (hkind : k.kind = .array comp type) (hl : ¬ len > e.platform.arrayLengthLimit) (hh : ¬ len * componentBytes type > e.platform.maxHeapBytes) (hfit : fits type init = true) (hdef : init.isDefault = true) {Q : Addr → Pre} (h1 : s.heap.size < e.platform.maxCells) (h2 : s.slotsUsed + len ≤ e.platform.maxSlots)
    (hq : Q s.heap.size d acts (s.pushCell (arrV c len (fun _ => init)))) : wp (Jvm.newArray c len init) Q E e d acts s := by
  rw [← arrV_new] at hq
  have f1 : ∀ i v, (Array.replicate len init)[i]? = some v → s.fitsSlot c .none i v = true := by
    intro i v hv
    rw [Array.getElem?_replicate] at hv
    split at hv
    · cases hv
      simp [State.fitsSlot, State.slotType?, hk, hkind, hfit]
    · cases hv
  have f2 : allocActs (Array.replicate len init) s.heap.size acts = acts := by
    unfold allocActs
    rw [if_pos (by rw [Array.all_replicate]; split <;> simp [hdef])]
  simp only [Jvm.newArray, Jvm.arrayFits, wp_bind', W.ask, W.ite, hl, if_false, wp_pure', W.theClass, hk, hkind, hh, W.alloc, W.stop, Option.some.injEq, exists_eq_left', Array.size_replicate, f2]
  rw [if_neg (by omega)]
  exact ⟨h1, h2, f1, hq⟩
/-- 'make' of the two counts 4 and 60 -/
theorem z_wpMake {c c2 c3 : ClassId} {k k2 : Class} {h : Nat} (hh : s.heap.size = h) (hk : s.vm.classes[c]? = some k) (hkind : k.kind = .array c2 (.array .long)) (hk2 : s.vm.classes[c2]? = some k2) (hkind2 : k2.kind = .array c3 .long)
    (hl : 60 ≤ e.platform.arrayLengthLimit) (hm : 480 ≤ e.platform.maxHeapBytes) (hc : h + 5 ≤ e.platform.maxCells) (hs : s.slotsUsed + 244 ≤ e.platform.maxSlots) {Q : Addr → Pre} (hq : ∀ d' acts', Q h d' acts' (z_lay s c c2 h 4)) : wp (multianewarray.make c [4, 60]) Q E e d acts s := by
  have four : (4 : Int32).toNatClampNeg = 4 := by decide
  have sixty : (60 : Int32).toNatClampNeg = 60 := by decide
  rw [multianewarray.make]
  simp only [wp_bind', W.ite, show ¬ (4 : Int32) < 0 by decide, if_false, wp_pure', W.theClass, hk, hkind, Option.some.injEq, exists_eq_left', four]
  refine z_wpArr hk hkind (by omega) (by show ¬ 4 * 4 > _; omega) rfl rfl (by omega) (by omega) ?_
  have e0 : (arrV c 4 (fun _ => Value.null)) = z_out c h 0 := by
    unfold z_out; refine congrArg (arrV c 4) (funext fun j => ?_); simp [va_rf]
  rw [e0, hh]
  simp only [show ([60].find? (fun x : Int32 => x < 0)) = none by decide]
  rw [ite_self, wp_bind', Std.Legacy.Range.forIn_eq_forIn_range']
  show wp (forIn (List.range' 0 4 1) PUnit.unit _) _ E e d acts _
  refine wp_forIn_inv (fun rest s' => ∃ i, i ≤ 4 ∧ rest = List.range' i (4 - i) ∧ s' = z_lay s c c2 h i) _ _ ⟨0, by omega, rfl, rfl⟩ ?_ ?_
  · rintro x rest s' d' acts' Q' ⟨i, hi, hl0, rfl⟩ hnext
    have hlt : i < 4 := by
      rcases Nat.lt_or_ge i 4 with q | q
      · exact q
      · rw [show 4 - i = 0 by omega] at hl0; cases hl0
    have hx : x = i ∧ rest = List.range' (i + 1) (4 - (i + 1)) := by
      rw [show 4 - i = (4 - (i + 1)) + 1 by omega, List.range'_succ] at hl0
      exact ⟨(List.cons.inj hl0).1, (List.cons.inj hl0).2⟩
    obtain ⟨rfl, hrest⟩ := hx
    obtain ⟨a1, a2, a3, a4, -, -⟩ := z_lay_facts s c c2 hh x
    simp only [wp_bind']
    rw [multianewarray.make]
    simp only [wp_bind', W.ite, show ¬ (60 : Int32) < 0 by decide, if_false, wp_pure', W.theClass, a3, hk2, hkind2, Option.some.injEq, exists_eq_left', sixty]
    refine z_wpArr (by rw [a3]; exact hk2) hkind2 (by omega) (by show ¬ 60 * 8 > _; omega) rfl rfl (by omega) (by omega) ?_
    have hlt0 : h < (z_lay s c c2 h x).heap.size := by omega
    simp only [wp_bind', W.writeLoc, wp_pure']
    refine ⟨z_out c h x, by rw [State.heap_pushCell_of_lt (h := hlt0)]; exact a2, by simp [z_out, arrV], by rw [z_out, arrV_size]; exact hlt, ?_, hnext _ _ _ ⟨x + 1, hlt, hrest, ?_⟩⟩
    · simp [z_out, arrV, State.fitsSlot, State.slotType?, a3, hk, hkind, fits]
    · rw [a1, z_out_next]; rfl
  · rintro s' d' acts' ⟨i, hi, hl0, rfl⟩
    have hi4 : i = 4 := by
      rcases Nat.lt_or_ge i 4 with q | q
      · rw [show 4 - i = (4 - (i + 1)) + 1 by omega, List.range'_succ] at hl0; cases hl0
      · omega
    subst hi4
    simp only [wp_pure']
    exact hq _ _
end ZMW
section ZMS
variable {p : Program} {l : Launch} {e : Env} {R : Room} {s : State} {m : MethodId} {args : Array Value} {below : List Frame} {meth : Method} {c : Code} {T : State} {locs : List Loc} {cells slots : Nat}
theorem z_laid (X : Stand p l e R s m args below meth c T locs cells slots) (cA c2 : ClassId) {h : Nat} (hh : T.heap.size = h) : ∀ i, ∃ locs1 : List Loc, Stand p l e R s m args below meth c (z_lay T cA c2 h i) (locs ++ locs1) (cells + 1 + i) (slots + 4 + i * 60) ∧ ∀ q ∈ locs1, q.base = h
  | 0 => by
    have X0 := X.pushed (z_out cA h 0)
    rw [show (z_out cA h 0).slots.size = 4 by rw [z_out, arrV_size]] at X0
    exact ⟨[], by simpa [z_lay] using X0, fun q hq => by cases hq⟩
  | i + 1 => by
    obtain ⟨l1, Xi, hl1⟩ := z_laid X cA c2 hh i
    obtain ⟨a1, a2, -, -, -, -⟩ := z_lay_facts T cA c2 hh i
    have hlt0 : h < (z_lay T cA c2 h i).heap.size := by omega
    have hcell : ((z_lay T cA c2 h i).pushCell (z_inn c2)).heap[h]? = some (z_out cA h i) := by rw [State.heap_pushCell_of_lt (h := hlt0)]; exact a2
    have X1 := (Xi.pushed (z_inn c2)).stored hcell i (.ref (h + 1 + i))
    rw [z_out_next, show (z_inn c2).slots.size = 60 by rw [z_inn, arrV_size], show slots + 4 + i * 60 + 60 = slots + 4 + (i + 1) * 60 by omega, List.append_assoc] at X1
    refine ⟨_, X1, fun q hq => ?_⟩
    rcases List.mem_append.mp hq with q1 | q1
    · exact hl1 q q1
    · rw [List.mem_singleton] at q1; subst q1; rfl
end ZMS
set_option maxHeartbeats 4000000 in
theorem z_mna {p : Program} {l : Launch} {e : Env} {R : Room} {s : State} {m : MethodId} {args : Array Value} {below : List Frame} {meth : Method} {c : Code} {H : Heap} {locs : List Loc} {cells slots : Nat} {Q : State → Prop} {cc : ByteArray} {pc : Nat} {ls : Array Slot} {rest : List Value} {D : va_G} {cy : Nat → ClassId} {A : Nat → Prop} {H0 : Heap} {L : List Nat} {f : Nat → va_E}
    (hexec : p.tables.exec = Jvm.exec) (hb : c.code = cc) {own : String} {index : Nat} (hown : s.vm.findClass own = some m.cls) (hclink : (Cond.classLink own index "[[J").before args s = true) (hKK : z_K D cy s) (hw : z_H D vwCl A H0 L f H locs) (hA : ∀ q, H0.size ≤ q → A q) (hcells : cells + 5 ≤ R.cells) (hslots : slots + 244 ≤ R.slots) (hdg : decode cc pc = .ok (.multianewarray index 2, 4))
    (kk : ∀ (q q1 q2 q3 q4 : Nat) (g : Nat → Option Nat) (H1 : Heap) (locs : List Loc), q ∉ L → q1 ∉ L ++ [q] → q2 ∉ L ++ [q] ++ [q1] → q3 ∉ L ++ [q] ++ [q1] ++ [q2] → q4 ∉ L ++ [q] ++ [q1] ++ [q2] ++ [q3] → g 0 = some q1 → g 1 = some q2 → g 2 = some q3 → g 3 = some q4 →
      z_H D vwCl A H0 (L ++ [q] ++ [q1] ++ [q2] ++ [q3] ++ [q4]) (va_up (va_up (va_up (va_up (va_up f q (.inl (cy 6, 4, .inr (.inr (.inr (.inr g)))))) q1 (.inl (cy 2, 60, .inr (.inl (fun _ => 0))))) q2 (.inl (cy 2, 60, .inr (.inl (fun _ => 0))))) q3 (.inl (cy 2, 60, .inr (.inl (fun _ => 0))))) q4 (.inl (cy 2, 60, .inr (.inl (fun _ => 0))))) H1 locs →
      W p l e R s m args below meth c H1 locs (cells + 5) (slots + 244) Q (F0 m (pc + 4) ls (.ref q :: rest))) : W p l e R s m args below meth c H locs cells slots Q (F0 m pc ls (.int 60 :: .int 4 :: rest)) := by
  intro T hT X
  have hpl : e.platform.magicAccessors = ({} : Platform).magicAccessors := by rw [X.admits.platform]
  obtain ⟨hK, -, -, ⟨kA, hkA, hkindA⟩, -⟩ := hKK
  have hnameA : s.vm.findClass "[[J" = some (cy 6) := (hK.2 6 (cy 6, .array .long) rfl).2
  obtain ⟨-, kC, hkC, c3, hkindC⟩ := (hK.2 2 (cy 2, .long) rfl).1 0 (fun _ => .null)
  have hkC : s.vm.classes[cy 2]? = some kC := hkC
  obtain ⟨c0, hfc0, hcl⟩ := Cond.classLink_spec hown hclink e.platform hpl
  have e0 : cy 6 = c0 := Option.some.inj (hnameA.symm.trans hfc0)
  subst e0
  obtain ⟨hg₁, hwarm₁, hready₁⟩ := State.classEntry (e := e) X.warmed hcl
  generalize T.vm.noted m.cls index (.cls (cy 6)) = vm₁ at hg₁ hwarm₁ hready₁
  have hal : s.vm.Alike vm₁ := hwarm₁.alike
  obtain ⟨kA₁, hkA₁, heA⟩ := hal.2.2 _ _ hkA
  obtain ⟨kC₁, hkC₁, heC⟩ := hal.2.2 _ _ hkC
  have hkindA₁ : kA₁.kind = .array (cy 2) (.array .long) := by rw [heA]; exact hkindA
  have hkindC₁ : kC₁.kind = .array c3 .long := by rw [heC]; exact hkindC
  have X₁ := X.noted hwarm₁
  have hsz : (T.setVm vm₁).heap.size = H.size := by rw [← hT]; rfl
  obtain ⟨hr1, hr2⟩ := X.roomAbove hcells hslots
  obtain ⟨l1, XF, hl1⟩ := z_laid X₁ (cy 6) (cy 2) hsz 4
  obtain ⟨a1, a2, a3, a4, a5, a6⟩ := z_lay_facts (T.setVm vm₁) (cy 6) (cy 2) hsz 4
  have hlen : 60 ≤ e.platform.arrayLengthLimit := by rw [Launch.admits_arrayLengthLimit X.admits]; decide
  have hhp : 480 ≤ e.platform.maxHeapBytes := by rw [Launch.admits_maxHeapBytes X.admits]; decide
  have hnl : ∀ i, H.size + i ∉ L := fun i h => by
    have := (z_P_iff.mp hw.1 _ h).lt
    have h9 : H.size + i < H.size := this
    omega
  have hA2 : ∀ i, A (H.size + i) := fun i => hA _ (by have := hw.2.2.1; omega)
  obtain ⟨hnd, hAL⟩ := z_D_iff.mp hw.2.1
  have hold : ∀ a, a < H.size → (z_lay (T.setVm vm₁) (cy 6) (cy 2) H.size 4).heap[a]? = H[a]? := fun a ha => by rw [a5 a ha, ← hT]; rfl
  obtain ⟨t, b1, b2⟩ := kk H.size (H.size + 1) (H.size + 2) (H.size + 3) (H.size + 4) (fun j => if j < 4 then some (H.size + 1 + j) else none) (z_lay (T.setVm vm₁) (cy 6) (cy 2) H.size 4).heap (locs ++ l1)
    (hnl 0) (by simp [hnl 1]) (by simp [hnl 2]) (by simp [hnl 3]) (by simp [hnl 4]) rfl rfl rfl rfl
    ⟨z_P_iff.mpr (fun a ha => by
        simp only [List.append_assoc, List.mem_append, List.mem_cons, List.not_mem_nil, or_false, List.cons_append, List.nil_append] at ha
        rcases ha with h | h | h | h | h | h
        · have hlt := (z_P_iff.mp hw.1 _ h).lt
          have hlt : a < H.size := hlt
          rw [va_up_ne _ _ (by omega), va_up_ne _ _ (by omega), va_up_ne _ _ (by omega), va_up_ne _ _ (by omega), va_up_ne _ _ (by omega)]
          exact (z_P_iff.mp hw.1 _ h).kept (hold a hlt)
        · subst h
          rw [va_up_ne _ _ (by omega), va_up_ne _ _ (by omega), va_up_ne _ _ (by omega), va_up_ne _ _ (by omega), va_up_self]
          exact a2
        · subst h
          rw [va_up_ne _ _ (by omega), va_up_ne _ _ (by omega), va_up_ne _ _ (by omega), va_up_self]
          exact a6 0 (by omega)
        · subst h
          rw [va_up_ne _ _ (by omega), va_up_ne _ _ (by omega), va_up_self]
          exact a6 1 (by omega)
        · subst h
          rw [va_up_ne _ _ (by omega), va_up_self]
          exact a6 2 (by omega)
        · subst h
          rw [va_up_self]
          exact a6 3 (by omega)),
     z_D_iff.mpr ⟨by
        rw [List.append_assoc, List.append_assoc, List.append_assoc, List.append_assoc, List.nodup_append]
        refine ⟨hnd, by simp, fun a ha b hb hab => ?_⟩
        have hlt : a < H.size := (z_P_iff.mp hw.1 _ ha).lt
        simp at hb
        omega, fun a ha => by
        simp only [List.append_assoc, List.mem_append, List.mem_cons, List.not_mem_nil, or_false, List.cons_append, List.nil_append] at ha
        rcases ha with h | h | h | h | h | h
        · exact hAL a h
        · subst h; exact hA2 0
        · subst h; exact hA2 1
        · subst h; exact hA2 2
        · subst h; exact hA2 3
        · subst h; exact hA2 4⟩,
     ⟨by have := hw.2.2.1; omega, fun q h1 h2 => (hold q (Nat.lt_of_lt_of_le h1 hw.2.2.1)).trans (hw.2.2.2.1 q h1 h2), fun q hq => by
        rcases List.mem_append.mp hq with h | h
        · exact hw.2.2.2.2 q h
        · rw [hl1 q h]; exact hA2 0⟩⟩ _ rfl (by simpa [Nat.add_assoc] using XF)
  refine ⟨t, ?_, b2⟩
  subst hb
  jvm_step X.here [hexec, hdg]
  simp only [multianewarray.sem, wp_bind', W.resolveClassAt_links (State.method?_setTop (F0 m pc ls (.int 60 :: .int 4 :: rest)) X.here.top) hg₁]
  rw [W.popN, if_neg (by decide)]
  refine ⟨F0 m pc ls (.int 60 :: .int 4 :: rest), State.topJava?_setTop' (s := T.setVm vm₁) _ X.here.top, [.int 4, .int 60], rest, rfl, rfl, ?_⟩
  simp only [List.mapM_cons, List.mapM_nil, wp_bind', wp_pure']
  refine z_wpMake (h := H.size) (by show T.heap.size = _; rw [hT]) hkA₁ hkindA₁ hkC₁ hkindC₁ hlen hhp (by rw [← hT]; exact hr1) (by show T.slotsUsed + 244 ≤ _; exact hr2) (fun d' acts' => ?_)
  have eS : ((T.setTop (F0 m pc ls (.int 60 :: .int 4 :: rest))).setVm vm₁).setTop { (F0 m pc ls (.int 60 :: .int 4 :: rest)) with stack := rest } = (T.setVm vm₁).setTop { (F0 m pc ls (.int 60 :: .int 4 :: rest)) with stack := rest } := by
    show ((T.setVm vm₁).setTop _).setTop _ = _
    rw [State.setTop_setTop]
  rw [eS, z_lay_top]
  simp only [wp_bind', W.mark, W.pushRef, State.topJava?_setTop' _ XF.here.top, Option.some.injEq, exists_eq_left', State.setTop_setTop, State.heap_setTop]
  intro acts
  simp [jvm, XF.here.top]
  exact b1
