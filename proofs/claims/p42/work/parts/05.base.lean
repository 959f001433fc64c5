/-! the array classes, what the tables say, cells told apart -/
def z_tys (cy : Nat → ClassId) : List (ClassId × FieldType) := [(cy 0, .byte), (cy 1, .int), (cy 2, .long), (cy 3, .boolean), (cy 4, .object RX0), (cy 5, .object RX2), (cy 6, .array .long)]
def z_K (D : va_G) (cy : Nat → ClassId) (U : State) : Prop := va_K D vwCl (z_tys cy) U ∧ va_AO RX0 U ∧ va_AO RX2 U ∧ (∃ kA : Class, U.vm.classes[cy 6]? = some kA ∧ kA.kind = .array (cy 2) (.array .long)) ∧ va_Nw (.methodLinkNest RX2 27 yX0_init "HundredthSheep") U ∧ va_Nw (.methodLinkNest RX9 9 yX7_init "HundredthSheep") U ∧ va_Nw (.methodLinkNest RX9 52 yX8_init "HundredthSheep") U
theorem z_alike {u U : State} (h : u.vm = U.vm) : u.vm.Alike U.vm := h ▸ Vm.Alike.refl u.vm
theorem z_mvA {cy : Nat → ClassId} {u U : State} (hvm : u.vm.Alike U.vm) (h : ∃ kA : Class, u.vm.classes[cy 6]? = some kA ∧ kA.kind = .array (cy 2) (.array .long)) : ∃ kA : Class, U.vm.classes[cy 6]? = some kA ∧ kA.kind = .array (cy 2) (.array .long) := by
  obtain ⟨k, h1, h2⟩ := h
  obtain ⟨k', hk', he⟩ := hvm.2.2 _ _ h1
  exact ⟨k', hk', by rw [he]; exact h2⟩
theorem z_mvK {D : va_G} {cy : Nat → ClassId} : (∀ (u U : State), u.vm = U.vm → z_K D cy u → z_K D cy U) ∧ ∀ (u U : State), u.WarmedH U.vm → z_K D cy u → z_K D cy U :=
  ⟨fun _ _ h ⟨k, a, b, d, n1, n2, n3⟩ => ⟨k.moved (z_alike h), a.moved (z_alike h), b.moved (z_alike h), z_mvA (z_alike h) d, n1.same rfl h, n2.same rfl h, n3.same rfl h⟩,
   fun _ _ h ⟨k, a, b, d, n1, n2, n3⟩ => ⟨k.moved h.alike, a.moved h.alike, b.moved h.alike, z_mvA h.alike d, n1.warmM h, n2.warmM h, n3.warmM h⟩⟩
/-- the words of the text, as constants of the Reader: their places, lengths, bytes -/
def z_sI : List Nat := [150, 152, 156, 160, 162, 105, 166, 168, 170, 172, 174, 113, 118, 179, 123, 125, 137, 191, 195, 200, 204, 210, 219, 142, 226]
def z_sT : List String := ["moor", "gaps", "days", "each", "due", "law", "all", "keep", "clear", "count", "pass", "owners", "start", "is", "lambs", "from", "drive", "gap", "on", "at", "sheep", "painted", "lame", "fog", "misses"]
def z_sL : List Nat := [4, 4, 4, 4, 3, 3, 3, 4, 5, 5, 4, 6, 5, 2, 5, 4, 5, 3, 2, 2, 5, 7, 4, 3, 6]
def z_sB : List (List Int32) := [[109, 111, 111, 114], [103, 97, 112, 115], [100, 97, 121, 115], [101, 97, 99, 104], [100, 117, 101], [108, 97, 119], [97, 108, 108], [107, 101, 101, 112], [99, 108, 101, 97, 114], [99, 111, 117, 110, 116], [112, 97, 115, 115], [111, 119, 110, 101, 114, 115], [115, 116, 97, 114, 116], [105, 115], [108, 97, 109, 98, 115], [102, 114, 111, 109], [100, 114, 105, 118, 101], [103, 97, 112], [111, 110], [97, 116], [115, 104, 101, 101, 112], [112, 97, 105, 110, 116, 101, 100], [108, 97, 109, 101], [102, 111, 103], [109, 105, 115, 115, 101, 115]]
def z_Str (adK adV : Nat → Nat) (A : Nat → Prop) (U : State) : Prop := vk_S 25 z_sL z_sB adK adV A U U.heap ∧ (∀ i : Nat, i < 25 → vk_R RX5 (z_sI.getD i 0) (z_sT.getD i "") (adK i) U) ∧ va_Z "java/lang/String" "COMPACT_STRINGS" "Z" (.int 1) A U U.heap ∧ va_Zq "jdk/internal/util/Preconditions" "SIOOBE_FORMATTER" "Ljava/util/function/BiFunction;" A U U.heap
def z_KK (D : va_G) (cy : Nat → ClassId) (adK adV : Nat → Nat) (A : Nat → Prop) (U : State) : Prop := z_K D cy U ∧ z_Str adK adV A U
theorem z_mv {D : va_G} {cy : Nat → ClassId} {adK adV : Nat → Nat} : z_Mv (z_KK D cy adK adV) :=
  ⟨fun A u U hv hh ⟨k, s1, s2, s3, s4⟩ => ⟨z_mvK.1 u U hv k, by rw [← hh]; exact s1.moved (z_alike hv), fun i hi => (s2 i hi).same hv.symm, by rw [← hh]; exact s3.moved (z_alike hv), by rw [← hh]; exact s4.moved (z_alike hv)⟩,
   fun A B u U hW hAB hk ⟨k, s1, s2, s3, s4⟩ => ⟨z_mvK.2 u U hW k, ((s1.kept hk).moved hW.alike).narrow hAB, fun i hi => (s2 i hi).warm hW, ((s3.kept hk).moved hW.alike).narrow hAB, ((s4.kept hk).moved hW.alike).narrow hAB⟩⟩
def z_tag : va_E → Nat
  | .inr o => o.1
  | .inl a => 100 + 8 * a.2.1 + (match a.2.2 with | .inl _ => 0 | .inr (.inl _) => 1 | .inr (.inr (.inr (.inr _))) => 2 | _ => 3)
theorem z_tne {f : Nat → va_E} {a b m n : Nat} {x y : va_E} (ha : f a = x) (hb : f b = y) (hm : z_tag x = m) (hn : z_tag y = n) (h : m ≠ n) : a ≠ b := fun q => h (by rw [← hm, ← hn, ← ha, ← hb, q])
section ZB
variable {p : Program} {l : Launch} {e : Env} {R : Room} {s : State} {m : MethodId} {args : Array Value} {below : List Frame} {meth : Method} {c : Code} {H : Heap} {locs : List Loc} {cells slots : Nat} {Q : State → Prop}
variable {cc : ByteArray} {pc : Nat} {ls : Array Slot} {rest : List Value} {D : va_G} {cl : List vw_C} {A : Nat → Prop} {a : Nat} {tys : List (ClassId × FieldType)} {H0 : Heap} {L : List Nat} {f : Nat → va_E}
theorem z_aaldA (hexec : p.tables.exec = Jvm.exec) (hb : c.code = cc) (hK : va_K D cl tys s) (hw : z_H D cl A H0 L f H locs) (t0 : Nat) {cA : ClassId} {ty : FieldType} {n : Nat} {g : Nat → Option Nat} (ha : a ∈ L) (he : f a = .inl (cA, n, .inr (.inr (.inr (.inr g))))) (ht : tys[t0]? = some (cA, .array ty)) {i : Int32} {b : Nat} (hin : vp_in i n) (hg : g i.toNatClampNeg = some b) (hdg : decode cc pc = .ok (.aaload, 1))
    (kk : W p l e R s m args below meth c H locs cells slots Q (F0 m (pc + 1) ls (.ref b :: rest))) : W p l e R s m args below meth c H locs cells slots Q (F0 m pc ls (.int i :: .ref a :: rest)) := by
  obtain ⟨k0, hk0⟩ := va_pl_get (X := []) (f := f) ha
  rw [he] at hk0
  have hlt : i.toNatClampNeg < n := Nat.not_le.mp fun q => hin (Or.inr q)
  have kk : W p l e R s m args below meth c H locs cells slots Q (F0 m (pc + 1) ls (va_rf (g i.toNatClampNeg) :: rest)) := by rw [hg]; exact kk
  exact W.aald (v := va_rf (g i.toNatClampNeg)) (ty := .array ty) hexec hb (hw.1 k0 _ hk0) ((hK.2 t0 _ ht).1 n (fun j => va_rf (g j))) rfl (fun q => by cases q) (by show ¬ (i < 0 ∨ (arrV _ _ _).slots.size ≤ _); rw [arrV_size]; exact hin) (by show (arrV _ _ _).slots[_]? = _; rw [arrV_read _ _ hlt]) rfl rfl hdg kk
theorem z_lit {x y : Int32} (h : x = y) (kk : W p l e R s m args below meth c H locs cells slots Q (F0 m pc ls (.int y :: rest))) : W p l e R s m args below meth c H locs cells slots Q (F0 m pc ls (.int x :: rest)) := h ▸ kk
theorem z_litl {x y : Int64} (h : x = y) (kk : W p l e R s m args below meth c H locs cells slots Q (F0 m pc ls (.long y :: rest))) : W p l e R s m args below meth c H locs cells slots Q (F0 m pc ls (.long x :: rest)) := h ▸ kk
/-- branches, by whole numbers -/
theorem z_if_lt (hexec : p.tables.exec = Jvm.exec) (hb : c.code = cc) {x : Int32} {X : Int} {off : Int} {tgt : Nat} (hX : x.toInt = X) (hdg : decode cc pc = .ok (.ifCond .lt off, 3)) (ht : (pc : Int) + off = (tgt : Int)) (kt : X < 0 → W p l e R s m args below meth c H locs cells slots Q (F0 m tgt ls rest)) (kf : 0 ≤ X → W p l e R s m args below meth c H locs cells slots Q (F0 m (pc + 3) ls rest)) : W p l e R s m args below meth c H locs cells slots Q (F0 m pc ls (.int x :: rest)) := by
  subst hX
  exact lv_if_lt hexec hb hdg ht (fun h => kt (by rw [Int32.lt_iff_toInt_lt] at h; exact h)) (fun h => kf (by rw [Int32.lt_iff_toInt_lt] at h; exact Int.not_lt.mp h))
theorem z_if_ge (hexec : p.tables.exec = Jvm.exec) (hb : c.code = cc) {x : Int32} {X : Int} {off : Int} {tgt : Nat} (hX : x.toInt = X) (hdg : decode cc pc = .ok (.ifCond .ge off, 3)) (ht : (pc : Int) + off = (tgt : Int)) (kt : 0 ≤ X → W p l e R s m args below meth c H locs cells slots Q (F0 m tgt ls rest)) (kf : X < 0 → W p l e R s m args below meth c H locs cells slots Q (F0 m (pc + 3) ls rest)) : W p l e R s m args below meth c H locs cells slots Q (F0 m pc ls (.int x :: rest)) := by
  subst hX
  exact lv_if_ge hexec hb hdg ht (fun h => kt (by rw [Int32.le_iff_toInt_le] at h; exact h)) (fun h => kf (by rw [Int32.le_iff_toInt_le] at h; exact Int.not_le.mp h))
theorem z_if_gt (hexec : p.tables.exec = Jvm.exec) (hb : c.code = cc) {x : Int32} {X : Int} {off : Int} {tgt : Nat} (hX : x.toInt = X) (hdg : decode cc pc = .ok (.ifCond .gt off, 3)) (ht : (pc : Int) + off = (tgt : Int)) (kt : 0 < X → W p l e R s m args below meth c H locs cells slots Q (F0 m tgt ls rest)) (kf : X ≤ 0 → W p l e R s m args below meth c H locs cells slots Q (F0 m (pc + 3) ls rest)) : W p l e R s m args below meth c H locs cells slots Q (F0 m pc ls (.int x :: rest)) := by
  subst hX
  exact lv_if_gt hexec hb hdg ht (fun h => kt (by rw [Int32.lt_iff_toInt_lt] at h; exact h)) (fun h => kf (by rw [Int32.lt_iff_toInt_lt] at h; exact Int.not_lt.mp h))
theorem z_if_le (hexec : p.tables.exec = Jvm.exec) (hb : c.code = cc) {x : Int32} {X : Int} {off : Int} {tgt : Nat} (hX : x.toInt = X) (hdg : decode cc pc = .ok (.ifCond .le off, 3)) (ht : (pc : Int) + off = (tgt : Int)) (kt : X ≤ 0 → W p l e R s m args below meth c H locs cells slots Q (F0 m tgt ls rest)) (kf : 0 < X → W p l e R s m args below meth c H locs cells slots Q (F0 m (pc + 3) ls rest)) : W p l e R s m args below meth c H locs cells slots Q (F0 m pc ls (.int x :: rest)) := by
  subst hX
  exact lv_if_le hexec hb hdg ht (fun h => kt (by rw [Int32.le_iff_toInt_le] at h; exact h)) (fun h => kf (by rw [Int32.le_iff_toInt_le] at h; exact Int.not_le.mp h))
theorem z_if_eq (hexec : p.tables.exec = Jvm.exec) (hb : c.code = cc) {x : Int32} {X : Int} {off : Int} {tgt : Nat} (hX : x.toInt = X) (hdg : decode cc pc = .ok (.ifCond .eq off, 3)) (ht : (pc : Int) + off = (tgt : Int)) (kt : X = 0 → W p l e R s m args below meth c H locs cells slots Q (F0 m tgt ls rest)) (kf : X ≠ 0 → W p l e R s m args below meth c H locs cells slots Q (F0 m (pc + 3) ls rest)) : W p l e R s m args below meth c H locs cells slots Q (F0 m pc ls (.int x :: rest)) := by
  subst hX
  exact lv_if_eq hexec hb hdg ht (fun h => kt (by rw [h]; rfl)) (fun h => kf (fun q => h (Int32.toInt_inj.mp q)))
theorem z_if_ne (hexec : p.tables.exec = Jvm.exec) (hb : c.code = cc) {x : Int32} {X : Int} {off : Int} {tgt : Nat} (hX : x.toInt = X) (hdg : decode cc pc = .ok (.ifCond .ne off, 3)) (ht : (pc : Int) + off = (tgt : Int)) (kt : X ≠ 0 → W p l e R s m args below meth c H locs cells slots Q (F0 m tgt ls rest)) (kf : X = 0 → W p l e R s m args below meth c H locs cells slots Q (F0 m (pc + 3) ls rest)) : W p l e R s m args below meth c H locs cells slots Q (F0 m pc ls (.int x :: rest)) := by
  subst hX
  exact lv_if_ne hexec hb hdg ht (fun h => kt (fun q => h (Int32.toInt_inj.mp q))) (fun h => kf (by rw [h]; rfl))
theorem z_icmp_eq (hexec : p.tables.exec = Jvm.exec) (hb : c.code = cc) {x y : Int32} {X Y : Int} {off : Int} {tgt : Nat} (hX : x.toInt = X) (hY : y.toInt = Y) (hdg : decode cc pc = .ok (.if_icmp .eq off, 3)) (ht : (pc : Int) + off = (tgt : Int)) (kt : X = Y → W p l e R s m args below meth c H locs cells slots Q (F0 m tgt ls rest)) (kf : X ≠ Y → W p l e R s m args below meth c H locs cells slots Q (F0 m (pc + 3) ls rest)) : W p l e R s m args below meth c H locs cells slots Q (F0 m pc ls (.int y :: .int x :: rest)) := by
  subst hX; subst hY
  exact lv_icmp_eq hexec hb hdg ht (fun h => kt (by rw [h])) (fun h => kf (fun q => h (Int32.toInt_inj.mp q)))
theorem z_icmp_ne (hexec : p.tables.exec = Jvm.exec) (hb : c.code = cc) {x y : Int32} {X Y : Int} {off : Int} {tgt : Nat} (hX : x.toInt = X) (hY : y.toInt = Y) (hdg : decode cc pc = .ok (.if_icmp .ne off, 3)) (ht : (pc : Int) + off = (tgt : Int)) (kt : X ≠ Y → W p l e R s m args below meth c H locs cells slots Q (F0 m tgt ls rest)) (kf : X = Y → W p l e R s m args below meth c H locs cells slots Q (F0 m (pc + 3) ls rest)) : W p l e R s m args below meth c H locs cells slots Q (F0 m pc ls (.int y :: .int x :: rest)) := by
  subst hX; subst hY
  exact lv_icmp_ne hexec hb hdg ht (fun h => kt (fun q => h (Int32.toInt_inj.mp q))) (fun h => kf (by rw [h]))
theorem z_icmp_lt (hexec : p.tables.exec = Jvm.exec) (hb : c.code = cc) {x y : Int32} {X Y : Int} {off : Int} {tgt : Nat} (hX : x.toInt = X) (hY : y.toInt = Y) (hdg : decode cc pc = .ok (.if_icmp .lt off, 3)) (ht : (pc : Int) + off = (tgt : Int)) (kt : X < Y → W p l e R s m args below meth c H locs cells slots Q (F0 m tgt ls rest)) (kf : Y ≤ X → W p l e R s m args below meth c H locs cells slots Q (F0 m (pc + 3) ls rest)) : W p l e R s m args below meth c H locs cells slots Q (F0 m pc ls (.int y :: .int x :: rest)) := by
  subst hX; subst hY
  exact lv_icmp_lt hexec hb hdg ht (fun h => kt (by rw [Int32.lt_iff_toInt_lt] at h; exact h)) (fun h => kf (by rw [Int32.lt_iff_toInt_lt] at h; exact Int.not_lt.mp h))
theorem z_icmp_ge (hexec : p.tables.exec = Jvm.exec) (hb : c.code = cc) {x y : Int32} {X Y : Int} {off : Int} {tgt : Nat} (hX : x.toInt = X) (hY : y.toInt = Y) (hdg : decode cc pc = .ok (.if_icmp .ge off, 3)) (ht : (pc : Int) + off = (tgt : Int)) (kt : Y ≤ X → W p l e R s m args below meth c H locs cells slots Q (F0 m tgt ls rest)) (kf : X < Y → W p l e R s m args below meth c H locs cells slots Q (F0 m (pc + 3) ls rest)) : W p l e R s m args below meth c H locs cells slots Q (F0 m pc ls (.int y :: .int x :: rest)) := by
  subst hX; subst hY
  exact lv_icmp_ge hexec hb hdg ht (fun h => kt (by rw [Int32.le_iff_toInt_le] at h; exact h)) (fun h => kf (by rw [Int32.le_iff_toInt_le] at h; exact Int.not_le.mp h))
theorem z_icmp_gt (hexec : p.tables.exec = Jvm.exec) (hb : c.code = cc) {x y : Int32} {X Y : Int} {off : Int} {tgt : Nat} (hX : x.toInt = X) (hY : y.toInt = Y) (hdg : decode cc pc = .ok (.if_icmp .gt off, 3)) (ht : (pc : Int) + off = (tgt : Int)) (kt : Y < X → W p l e R s m args below meth c H locs cells slots Q (F0 m tgt ls rest)) (kf : X ≤ Y → W p l e R s m args below meth c H locs cells slots Q (F0 m (pc + 3) ls rest)) : W p l e R s m args below meth c H locs cells slots Q (F0 m pc ls (.int y :: .int x :: rest)) := by
  subst hX; subst hY
  exact lv_icmp_gt hexec hb hdg ht (fun h => kt (by rw [Int32.lt_iff_toInt_lt] at h; exact h)) (fun h => kf (by rw [Int32.lt_iff_toInt_lt] at h; exact Int.not_lt.mp h))
theorem z_icmp_le (hexec : p.tables.exec = Jvm.exec) (hb : c.code = cc) {x y : Int32} {X Y : Int} {off : Int} {tgt : Nat} (hX : x.toInt = X) (hY : y.toInt = Y) (hdg : decode cc pc = .ok (.if_icmp .le off, 3)) (ht : (pc : Int) + off = (tgt : Int)) (kt : X ≤ Y → W p l e R s m args below meth c H locs cells slots Q (F0 m tgt ls rest)) (kf : Y < X → W p l e R s m args below meth c H locs cells slots Q (F0 m (pc + 3) ls rest)) : W p l e R s m args below meth c H locs cells slots Q (F0 m pc ls (.int y :: .int x :: rest)) := by
  subst hX; subst hY
  exact lv_icmp_le hexec hb hdg ht (fun h => kt (by rw [Int32.le_iff_toInt_le] at h; exact h)) (fun h => kf (by rw [Int32.le_iff_toInt_le] at h; exact Int.not_le.mp h))
end ZB
/-- whole numbers of sums and products that do not wrap around -/
theorem z_bm {z : Int} (h : -2147483648 ≤ z ∧ z < 2147483648) : z.bmod (2 ^ 32) = z := by
  rw [Int.bmod_def]; omega
theorem z_add {x y w : Int32} {X Y : Int} (hw : w = x + y) (hX : x.toInt = X) (hY : y.toInt = Y) (h : -2147483648 ≤ X + Y ∧ X + Y < 2147483648) : w.toInt = X + Y := by
  subst hw; subst hX; subst hY; rw [Int32.toInt_add]; exact z_bm h
theorem z_subI {x y w : Int32} {X Y : Int} (hw : w = x - y) (hX : x.toInt = X) (hY : y.toInt = Y) (h : -2147483648 ≤ X - Y ∧ X - Y < 2147483648) : w.toInt = X - Y := by
  subst hw; subst hX; subst hY; rw [Int32.toInt_sub]; exact z_bm h
theorem z_mul {x y w : Int32} {X Y : Int} (hw : w = x * y) (hX : x.toInt = X) (hY : y.toInt = Y) (h : -2147483648 ≤ X * Y ∧ X * Y < 2147483648) : w.toInt = X * Y := by
  subst hw; subst hX; subst hY; rw [Int32.toInt_mul]; exact z_bm h
theorem z_ix {x : Int32} {n : Nat} {X : Int} (hX : x.toInt = X) (h : 0 ≤ X ∧ X < n) : vp_in x n := vp_in_iff.mpr (by rw [hX]; exact h)
theorem z_lc {x y : Int64} {w : Int32} {X Y : Int} (hw : w = lg_cmp x y) (hX : x.toInt = X) (hY : y.toInt = Y) : (w.toInt < 0 ↔ X < Y) ∧ (0 < w.toInt ↔ Y < X) := by
  subst hw; subst hX; subst hY
  have h1 := lg_cmp_lt x y
  have h2 := lg_cmp_gt x y
  rw [Int32.lt_iff_toInt_lt, Int64.lt_iff_toInt_lt] at h1 h2
  exact ⟨h1, h2⟩
theorem z_i2l {x : Int32} {w : Int64} {X : Int} (hw : w = x.toInt64) (hX : x.toInt = X) : w.toInt = X := by
  subst hw; subst hX; exact Int32.toInt_toInt64 x
theorem z_loop {p : Program} {l : Launch} {e : Env} {R : Room} {s : State} {m : MethodId} {args : Array Value} {below : List Frame} {meth : Method} {c : Code} {H : Heap} {locs : List Loc} {cells slots : Nat} {Q : State → Prop} {pc : Nat} {ls : Array Slot} {st : List Value} (I : Nat → Heap → List Loc → Array Slot → Prop) (n0 : Nat) (h0 : I n0 H locs ls) (step : ∀ (n : Nat) (H : Heap) (locs : List Loc) (ls : Array Slot), I n H locs ls → (∀ n' : Nat, n' < n → ∀ (H : Heap) (locs : List Loc) (ls : Array Slot), I n' H locs ls → W p l e R s m args below meth c H locs cells slots Q (F0 m pc ls st)) → W p l e R s m args below meth c H locs cells slots Q (F0 m pc ls st)) : W p l e R s m args below meth c H locs cells slots Q (F0 m pc ls st) := by
  have key : ∀ (n : Nat) (H : Heap) (locs : List Loc) (ls : Array Slot), I n H locs ls → W p l e R s m args below meth c H locs cells slots Q (F0 m pc ls st) := by
    intro n
    induction n using Nat.strongRecOn with
    | _ n ih => intro H locs ls hI; exact step n H locs ls hI (fun n' hn H locs ls h => ih n' hn H locs ls h)
  exact key n0 H locs ls h0
theorem z_updlt {g g2 : Nat → Int32} {k k1 v : Int32} (h0 : 0 ≤ k.toInt) (h1 : k1.toInt = k.toInt + 1) (e : g2 = upd g k.toNatClampNeg v) (h : ∀ j : Nat, (j : Int) < k.toInt → g j = v) : ∀ j : Nat, (j : Int) < k1.toInt → g2 j = v := by
  intro j hj
  have hc : (k.toNatClampNeg : Int) = k.toInt := Int.toNat_of_nonneg h0
  subst e
  by_cases q : j = k.toNatClampNeg
  · subst q; exact pk_us
  · rw [pk_un q]; exact h j (by omega)
theorem z_updltL {g g2 : Nat → Int64} {k k1 : Int32} {v : Int64} (h0 : 0 ≤ k.toInt) (h1 : k1.toInt = k.toInt + 1) (e : g2 = vp_updL g k.toNatClampNeg v) (h : ∀ j : Nat, (j : Int) < k.toInt → g j = v) : ∀ j : Nat, (j : Int) < k1.toInt → g2 j = v := by
  intro j hj
  have hc : (k.toNatClampNeg : Int) = k.toInt := Int.toNat_of_nonneg h0
  subst e
  by_cases q : j = k.toNatClampNeg
  · subst q; exact pk_uLs
  · rw [pk_uLn q]; exact h j (by omega)
theorem z_cl {x : Int32} {n : Nat} (h : 0 ≤ x.toInt ∧ x.toInt < n) : x.toNatClampNeg < n := by
  have hc : (x.toNatClampNeg : Int) = x.toInt := Int.toNat_of_nonneg h.1
  omega
section ZCP
variable {p : Program} {l : Launch} {e : Env} {R : Room} {s : State} {m : MethodId} {args : Array Value} {below : List Frame} {meth : Method} {c : Code} {H : Heap} {locs : List Loc} {cells slots : Nat} {Q : State → Prop}
variable {cc : ByteArray} {pc : Nat} {ls : Array Slot} {rest : List Value} {D : va_G} {cl : List vw_C} {A : Nat → Prop} {a a0 : Nat} {tys : List (ClassId × FieldType)} {H0 : Heap} {L : List Nat} {f : Nat → va_E}
theorem z_copyi (hexec : p.tables.exec = Jvm.exec) (hb : c.code = cc) (hml : c.maxLocals = ls.size) {own : String} {index : Nat} (hown : s.vm.findClass own = some m.cls) (hlink : (Cond.methodLink own index arraycopyName).before args s = true) (hnat : (Cond.native arraycopyName).before args s = true) (hstat : (Cond.static arraycopyName).before args s = true) (hini : (Cond.initialized "java/lang/System").before args s = true)
    (hK : va_K D cl tys s) (hw : z_H D cl A H0 L f H locs) (t0 : Nat) {c0 : ClassId} {n0 n1 : Nat} {g0 g1 : Nat → Int32} (ha0 : a0 ∈ L) (he0 : f a0 = .inl (c0, n0, .inl g0)) (ha1 : a ∈ L) (he1 : f a = .inl (c0, n1, .inl g1)) (ht : tys[t0]? = some (c0, .int)) {sp dp n : Int32} (h1 : ¬ sp < 0) (h2 : ¬ dp < 0) (h3 : ¬ n < 0) (h4 : sp.toNatClampNeg + n.toNatClampNeg ≤ n0) (h5 : dp.toNatClampNeg + n.toNatClampNeg ≤ n1)
    (hframes : 1 ≤ R.frames) (hlocals : (rest.map fun v => v.category).sum + (nativeFrameWords "java/lang/System" "arraycopy" 5 + 11) ≤ R.locals) (hdg : decode cc pc = .ok (.invokestatic index, 3))
    (kk : ∀ (H1 : Heap) (locs1 : List Loc), z_H D cl A H0 L (va_up f a (.inl (c0, n1, .inl (va_cpy g0 g1 sp.toNatClampNeg dp.toNatClampNeg n.toNatClampNeg)))) H1 locs1 → W p l e R s m args below meth c H1 locs1 cells slots Q (F0 m (pc + 3) ls rest)) : W p l e R s m args below meth c H locs cells slots Q (F0 m pc ls (.int n :: .int dp :: .ref a :: .int sp :: .ref a0 :: rest)) := by
  obtain ⟨k0, hk0⟩ := va_pl_get (X := []) (f := f) ha0
  rw [he0] at hk0
  obtain ⟨k1, hk1⟩ := va_pl_get (X := []) (f := f) ha1
  have hk2 := hk1
  rw [he1] at hk2
  exact va_copyi hexec hb hml hown hlink hnat hstat hini hK hw.1 hw.2.1 hw.2.2 k0 k1 t0 t0 hk0 hk2 ht ht rfl h1 h2 h3 h4 h5 (fun _ _ => rfl) hframes hlocals hdg (fun H1 locs1 hP hD hS => kk H1 locs1 (z_set hw ha1 hk1 hP hD hS))
end ZCP
