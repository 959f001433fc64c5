/-! long arrays copied; indices told apart -/
theorem z_cne {x y : Int32} (h0 : 0 ≤ x.toInt) (h : x.toInt < y.toInt) : y.toNatClampNeg ≠ x.toNatClampNeg := by
  show y.toInt.toNat ≠ x.toInt.toNat
  omega
theorem z_clN {x : Int32} (h0 : 0 ≤ x.toInt) : ((x.toNatClampNeg : Nat) : Int) = x.toInt := Int.toNat_of_nonneg h0
theorem z_nneg {x : Int32} (h0 : 0 ≤ x.toInt) : ¬ x < 0 := fun h => by
  have h1 := Int32.lt_iff_toInt_lt.mp h
  have h2 : (0 : Int32).toInt = 0 := by decide
  omega
theorem z_cad {x y : Int32} {n : Nat} (h0 : 0 ≤ x.toInt) (h1 : 0 ≤ y.toInt) (h : x.toInt + y.toInt ≤ n) : x.toNatClampNeg + y.toNatClampNeg ≤ n := by
  show x.toInt.toNat + y.toInt.toNat ≤ n
  omega
section ZCL
variable {p : Program} {l : Launch} {e : Env} {R : Room} {s : State} {m : MethodId} {args : Array Value} {below : List Frame} {meth : Method} {c : Code} {H : Heap} {locs : List Loc} {cells slots : Nat} {Q : State → Prop}
variable {cc : ByteArray} {pc : Nat} {ls : Array Slot} {rest : List Value} {D : va_G} {cl : List vw_C} {A : Nat → Prop} {a a0 : Nat} {tys : List (ClassId × FieldType)} {H0 : Heap} {L : List Nat} {f : Nat → va_E}
theorem z_copyl (hexec : p.tables.exec = Jvm.exec) (hb : c.code = cc) (hml : c.maxLocals = ls.size) {own : String} {index : Nat} (hown : s.vm.findClass own = some m.cls) (hlink : (Cond.methodLink own index arraycopyName).before args s = true) (hnat : (Cond.native arraycopyName).before args s = true) (hstat : (Cond.static arraycopyName).before args s = true) (hini : (Cond.initialized "java/lang/System").before args s = true)
    (hK : va_K D cl tys s) (hw : z_H D cl A H0 L f H locs) (t0 : Nat) {c0 : ClassId} {n0 n1 : Nat} {g0 g1 : Nat → Int64} (ha0 : a0 ∈ L) (he0 : f a0 = .inl (c0, n0, .inr (.inl g0))) (ha1 : a ∈ L) (he1 : f a = .inl (c0, n1, .inr (.inl g1))) (ht : tys[t0]? = some (c0, .long)) {sp dp n : Int32} (h1 : ¬ sp < 0) (h2 : ¬ dp < 0) (h3 : ¬ n < 0) (h4 : sp.toNatClampNeg + n.toNatClampNeg ≤ n0) (h5 : dp.toNatClampNeg + n.toNatClampNeg ≤ n1)
    (hframes : 1 ≤ R.frames) (hlocals : (rest.map fun v => v.category).sum + (nativeFrameWords "java/lang/System" "arraycopy" 5 + 11) ≤ R.locals) (hdg : decode cc pc = .ok (.invokestatic index, 3))
    (kk : ∀ (H1 : Heap) (locs1 : List Loc), z_H D cl A H0 L (va_up f a (.inl (c0, n1, .inr (.inl (va_cpy g0 g1 sp.toNatClampNeg dp.toNatClampNeg n.toNatClampNeg))))) H1 locs1 → W p l e R s m args below meth c H1 locs1 cells slots Q (F0 m (pc + 3) ls rest)) : W p l e R s m args below meth c H locs cells slots Q (F0 m pc ls (.int n :: .int dp :: .ref a :: .int sp :: .ref a0 :: rest)) := by
  obtain ⟨k0, hk0⟩ := va_pl_get (X := []) (f := f) ha0
  rw [he0] at hk0
  obtain ⟨k1, hk1⟩ := va_pl_get (X := []) (f := f) ha1
  have hk2 := hk1
  rw [he1] at hk2
  exact va_copyl hexec hb hml hown hlink hnat hstat hini hK hw.1 hw.2.1 hw.2.2 k0 k1 t0 t0 hk0 hk2 ht ht rfl h1 h2 h3 h4 h5 (fun _ _ => rfl) hframes hlocals hdg (fun H1 locs1 hP hD hS => kk H1 locs1 (z_set hw ha1 hk1 hP hD hS))
end ZCL
