set_option maxHeartbeats 40000000 in
set_option maxRecDepth 100000 in
theorem whole_start {p : Program} {e : Env} {s : State} {m : MethodId} {below : List Frame} {meth : Method} {c : Code} (l : Launch) {b L : Nat} {xs : Nat → Int32} (hL : L ≤ 6) (C0 : lw_At p s m meth c b L xs) : W p l e room_1 s m #[Value.ref b] below meth c s.heap [] 0 0 (lw_Z below #[Value.ref b] s) (entryFrame m ([Value.ref b] : List Value).toArray 4) := by
  obtain ⟨hx, hb, hr, hml, hown, hts, hX, hbl, hlocks, hgv⟩ := C0
  have hA : ∀ q : Nat, s.heap.size ≤ q → (fun q : Nat => s.heap.size ≤ q) q := fun _ h => h
  have hbA : ¬ (fun q : Nat => s.heap.size ≤ q) b := Nat.not_le.mpr hbl
  have hT : ∀ w ∈ lw_all, w.before #[Value.ref b] s = true := fun w h => hts w (z_all_in w h)
  have hown : s.vm.findClass RL = some m.cls := hown
  obtain ⟨D, cy, hKK⟩ := z_start hts
  have hK := hKK.1
  obtain ⟨x0, ex0⟩ : ∃ z, z = xs (0 : Int32).toNatClampNeg := ⟨_, rfl⟩
  obtain ⟨x1, ex1⟩ : ∃ z, z = xs (1 : Int32).toNatClampNeg := ⟨_, rfl⟩
  obtain ⟨x2, ex2⟩ : ∃ z, z = xs (2 : Int32).toNatClampNeg := ⟨_, rfl⟩
  obtain ⟨x3, ex3⟩ : ∃ z, z = xs (3 : Int32).toNatClampNeg := ⟨_, rfl⟩
  obtain ⟨x4, ex4⟩ : ∃ z, z = xs (4 : Int32).toNatClampNeg := ⟨_, rfl⟩
  obtain ⟨x5, ex5⟩ : ∃ z, z = xs (5 : Int32).toNatClampNeg := ⟨_, rfl⟩
  obtain ⟨L0, eL0⟩ : ∃ z : List Nat, z = [] := ⟨_, rfl⟩
  obtain ⟨f0, ef0⟩ : ∃ z : Nat → va_E, z = fun _ => .inr (0, []) := ⟨_, rfl⟩
  have hw : z_H D vwCl (fun q : Nat => s.heap.size ≤ q) s.heap L0 f0 s.heap [] := ⟨by rw [eL0]; exact z_P_iff.mpr (fun a h => by cases h), by rw [eL0]; exact z_D_iff.mpr ⟨List.Pairwise.nil, fun a h => by cases h⟩, va_S.rf⟩
  have hl := lv_entry ([.ref b]) (n := 4) (Nat.le_of_ble_eq_true rfl)
  rw [lg_entry_eq]
  generalize (lg_sl ([.ref b]) ++ List.replicate (4 - (lg_sl ([.ref b])).length) Slot.unset).toArray = ls at hl ⊢
  have hl : lv_has ls 4 [(0, .ref b)] := hl
  refine z_new (C := RX9) (T := TX9) (N := 11) (ci := 9) (fs := [.null, .null, .null, .null, .null, .null, .null, .null, .null, .null, .null]) (cells := 0) (slots := 0) hx hb hT zin_X9 tyX9_ok hown (hT _ kw_103) (hT _ kw_104) (hT _ kw_85) hK hw hA rfl (fun j hj => by rcases (show j = 0 ∨ j = 1 ∨ j = 2 ∨ j = 3 ∨ j = 4 ∨ j = 5 ∨ j = 6 ∨ j = 7 ∨ j = 8 ∨ j = 9 ∨ j = 10 by omega) with rfl | rfl | rfl | rfl | rfl | rfl | rfl | rfl | rfl | rfl | rfl <;> rfl) (by decide) (by decide) dL_law_0 (fun hs H hq_hs hw => ?_)
  refine W.widen (k := 1) (n := 11) (by decide) (by decide) ?_
  obtain ⟨f2, e_f2⟩ : ∃ z, z = va_up f0 hs (.inr (9, [.null, .null, .null, .null, .null, .null, .null, .null, .null, .null, .null])) := ⟨_, rfl⟩
  obtain ⟨L1, e_L1⟩ : ∃ z, z = L0 ++ [hs] := ⟨_, rfl⟩
  rw [← e_f2, ← e_L1] at hw
  have hm_hs : hs ∈ L1 := by rw [e_L1]; exact List.mem_append_right _ (List.mem_singleton.mpr rfl)
  have hf_hs : f2 hs = .inr (9, [.null, .null, .null, .null, .null, .null, .null, .null, .null, .null, .null]) := (congrFun e_f2 hs).trans z_up_self
  refine lv_dup hx hb dL_law_3 rfl ?_
  refine z_callvI (cells := 1) (slots := 11) (b := hs) (As := []) (rest := [.ref hs]) ⟨hx, hb, hml, hown, hT⟩ (c_X9_init l hm_hs hf_hs) (cwI 0 hT (z_goodI (fun _ h => h) kw_107) rfl rfl rfl (hT _ kw_85) (hT _ kw_105) (hT _ kw_106) rfl (by decide +kernel) ⟨by decide, by decide⟩) z_mv hKK hw hA rfl hl.1 rfl (Nat.le_of_ble_eq_true rfl) dL_law_4 ⟨by decide, by decide⟩ (fun u H locs hp hw => ?_)
  refine W.widen (k := 135) (n := 5593) (by decide) (by decide) ?_
  obtain ⟨L3, f4⟩ := u
  obtain ⟨hsb, hfm, tp, ba, mo, la, sa, mi, da, dr, xla, xsa, xmi, xda, rd, im, i0, la0, sa0, mi0, da0, i1, la1, sa1, mi1, da1, i2, la2, sa2, mi2, da2, kp, sl, nu, r0, r1, r2, r3, wi, si, wk, pl, ex, mx, gi, gn, gs, ha_0, ⟨hq_tp, hm_tp, hf_tp⟩, ⟨hq_ba, hm_ba, hf_ba⟩, ⟨hq_mo, hm_mo, hf_mo⟩, ⟨hq_la, hm_la, hf_la⟩, ⟨hq_sa, hm_sa, hf_sa⟩, ⟨hq_mi, hm_mi, hf_mi⟩, ⟨hq_dr, hm_dr, hf_dr⟩, ⟨hq_xla, hm_xla, hf_xla⟩, ⟨hq_xsa, hm_xsa, hf_xsa⟩, ⟨hq_xmi, hm_xmi, hf_xmi⟩, ⟨hq_rd, hm_rd, hf_rd⟩, ⟨hq_im, hm_im, hf_im⟩, ⟨hq_i0, hm_i0, hf_i0⟩, ⟨hq_la0, hm_la0, hf_la0⟩, ⟨hq_sa0, hm_sa0, hf_sa0⟩, ⟨hq_mi0, hm_mi0, hf_mi0⟩, ⟨hq_i1, hm_i1, hf_i1⟩, ⟨hq_la1, hm_la1, hf_la1⟩, ⟨hq_sa1, hm_sa1, hf_sa1⟩, ⟨hq_mi1, hm_mi1, hf_mi1⟩, ⟨hq_i2, hm_i2, hf_i2⟩, ⟨hq_la2, hm_la2, hf_la2⟩, ⟨hq_sa2, hm_sa2, hf_sa2⟩, ⟨hq_mi2, hm_mi2, hf_mi2⟩, ⟨hq_kp, hm_kp, hf_kp⟩, ⟨hq_sl, hm_sl, hf_sl⟩, ⟨hq_nu, hm_nu, hf_nu⟩, ⟨hq_r0, hm_r0, hf_r0⟩, ⟨hq_r1, hm_r1, hf_r1⟩, ⟨hq_r2, hm_r2, hf_r2⟩, ⟨hq_r3, hm_r3, hf_r3⟩, ⟨hq_wi, hm_wi, hf_wi⟩, ⟨hq_si, hm_si, hf_si⟩, hp⟩ := hp
  have hw : z_H D vwCl ((fun q : Nat => s.heap.size ≤ q)) s.heap L3 f4 H locs := hw
  have ne_hs_tp : hs ≠ tp := z_ne hm_hs hq_tp
  have ne_hs_ba : hs ≠ ba := z_ne hm_hs hq_ba
  have ne_hs_mo : hs ≠ mo := z_ne hm_hs hq_mo
  have ne_hs_la : hs ≠ la := z_ne hm_hs hq_la
  have ne_hs_sa : hs ≠ sa := z_ne hm_hs hq_sa
  have ne_hs_mi : hs ≠ mi := z_ne hm_hs hq_mi
  have ne_hs_dr : hs ≠ dr := z_ne hm_hs hq_dr
  have ne_hs_xla : hs ≠ xla := z_ne hm_hs hq_xla
  have ne_hs_xsa : hs ≠ xsa := z_ne hm_hs hq_xsa
  have ne_hs_xmi : hs ≠ xmi := z_ne hm_hs hq_xmi
  have ne_hs_rd : hs ≠ rd := z_ne hm_hs hq_rd
  have ne_hs_im : hs ≠ im := z_ne hm_hs hq_im
  have ne_hs_i0 : hs ≠ i0 := z_ne hm_hs hq_i0
  have ne_hs_la0 : hs ≠ la0 := z_ne hm_hs hq_la0
  have ne_hs_sa0 : hs ≠ sa0 := z_ne hm_hs hq_sa0
  have ne_hs_mi0 : hs ≠ mi0 := z_ne hm_hs hq_mi0
  have ne_hs_i1 : hs ≠ i1 := z_ne hm_hs hq_i1
  have ne_hs_la1 : hs ≠ la1 := z_ne hm_hs hq_la1
  have ne_hs_sa1 : hs ≠ sa1 := z_ne hm_hs hq_sa1
  have ne_hs_mi1 : hs ≠ mi1 := z_ne hm_hs hq_mi1
  have ne_hs_i2 : hs ≠ i2 := z_ne hm_hs hq_i2
  have ne_hs_la2 : hs ≠ la2 := z_ne hm_hs hq_la2
  have ne_hs_sa2 : hs ≠ sa2 := z_ne hm_hs hq_sa2
  have ne_hs_mi2 : hs ≠ mi2 := z_ne hm_hs hq_mi2
  have ne_hs_kp : hs ≠ kp := z_ne hm_hs hq_kp
  have ne_hs_sl : hs ≠ sl := z_ne hm_hs hq_sl
  have ne_hs_nu : hs ≠ nu := z_ne hm_hs hq_nu
  have ne_hs_r0 : hs ≠ r0 := z_ne hm_hs hq_r0
  have ne_hs_r1 : hs ≠ r1 := z_ne hm_hs hq_r1
  have ne_hs_r2 : hs ≠ r2 := z_ne hm_hs hq_r2
  have ne_hs_r3 : hs ≠ r3 := z_ne hm_hs hq_r3
  have ne_hs_wi : hs ≠ wi := z_ne hm_hs hq_wi
  have ne_hs_si : hs ≠ si := z_ne hm_hs hq_si
  have hm_hs : hs ∈ L3 := hsb _ hm_hs
  have hf_hs : f4 hs = .inr (9, [.ref tp, .ref rd, .ref mo, .ref dr, .ref im, .ref kp, .ref sl, .ref wk, .ref pl, .ref ex, .ref mx]) := ha_0
  have hf_tp : f4 tp = .inr (7, [.ref ba, .int 0]) := hf_tp
  have hm_tp : tp ∈ L3 := hm_tp
  have hf_ba : f4 ba = .inl (cy 0, 1600, .inl (fun _ => 0)) := hf_ba
  have hm_ba : ba ∈ L3 := hm_ba
  have hf_mo : f4 mo = .inr (2, [.int 0, .int 0, .int 0, .int 0, .int 0, .int 0, .int 0, .ref la, .ref sa, .ref mi, .ref da]) := hf_mo
  have hm_mo : mo ∈ L3 := hm_mo
  have hf_la : f4 la = .inl (cy 1, 5, .inl (fun _ => 0)) := hf_la
  have hm_la : la ∈ L3 := hm_la
  have hf_sa : f4 sa = .inl (cy 1, 4, .inl (fun _ => 0)) := hf_sa
  have hm_sa : sa ∈ L3 := hm_sa
  have hf_mi : f4 mi = .inl (cy 1, 36, .inl (fun _ => 0)) := hf_mi
  have hm_mi : mi ∈ L3 := hm_mi
  have hf_dr : f4 dr = .inr (2, [.int 0, .int 0, .int 0, .int 0, .int 0, .int 0, .int 0, .ref xla, .ref xsa, .ref xmi, .ref xda]) := hf_dr
  have hm_dr : dr ∈ L3 := hm_dr
  have hf_xla : f4 xla = .inl (cy 1, 5, .inl (fun _ => 0)) := hf_xla
  have hm_xla : xla ∈ L3 := hm_xla
  have hf_xsa : f4 xsa = .inl (cy 1, 4, .inl (fun _ => 0)) := hf_xsa
  have hm_xsa : xsa ∈ L3 := hm_xsa
  have hf_xmi : f4 xmi = .inl (cy 1, 36, .inl (fun _ => 0)) := hf_xmi
  have hm_xmi : xmi ∈ L3 := hm_xmi
  have hf_rd : f4 rd = .inr (5, [.int 0, .int (-1), .ref tp, .ref dr, .int 0, .int 0, .int 0, .int 0, .int 0]) := hf_rd
  have hm_rd : rd ∈ L3 := hm_rd
  have hf_im : f4 im = .inl (cy 5, 3, .inr (.inr (.inr (.inr gi)))) := hf_im
  have hm_im : im ∈ L3 := hm_im
  have hf_i0 : f4 i0 = .inr (2, [.int 0, .int 0, .int 0, .int 0, .int 0, .int 0, .int 0, .ref la0, .ref sa0, .ref mi0, .ref da0]) := hf_i0
  have hm_i0 : i0 ∈ L3 := hm_i0
  have hf_la0 : f4 la0 = .inl (cy 1, 5, .inl (fun _ => 0)) := hf_la0
  have hm_la0 : la0 ∈ L3 := hm_la0
  have hf_sa0 : f4 sa0 = .inl (cy 1, 4, .inl (fun _ => 0)) := hf_sa0
  have hm_sa0 : sa0 ∈ L3 := hm_sa0
  have hf_mi0 : f4 mi0 = .inl (cy 1, 36, .inl (fun _ => 0)) := hf_mi0
  have hm_mi0 : mi0 ∈ L3 := hm_mi0
  have hf_i1 : f4 i1 = .inr (2, [.int 0, .int 0, .int 0, .int 0, .int 0, .int 0, .int 0, .ref la1, .ref sa1, .ref mi1, .ref da1]) := hf_i1
  have hm_i1 : i1 ∈ L3 := hm_i1
  have hf_la1 : f4 la1 = .inl (cy 1, 5, .inl (fun _ => 0)) := hf_la1
  have hm_la1 : la1 ∈ L3 := hm_la1
  have hf_sa1 : f4 sa1 = .inl (cy 1, 4, .inl (fun _ => 0)) := hf_sa1
  have hm_sa1 : sa1 ∈ L3 := hm_sa1
  have hf_mi1 : f4 mi1 = .inl (cy 1, 36, .inl (fun _ => 0)) := hf_mi1
  have hm_mi1 : mi1 ∈ L3 := hm_mi1
  have hf_i2 : f4 i2 = .inr (2, [.int 0, .int 0, .int 0, .int 0, .int 0, .int 0, .int 0, .ref la2, .ref sa2, .ref mi2, .ref da2]) := hf_i2
  have hm_i2 : i2 ∈ L3 := hm_i2
  have hf_la2 : f4 la2 = .inl (cy 1, 5, .inl (fun _ => 0)) := hf_la2
  have hm_la2 : la2 ∈ L3 := hm_la2
  have hf_sa2 : f4 sa2 = .inl (cy 1, 4, .inl (fun _ => 0)) := hf_sa2
  have hm_sa2 : sa2 ∈ L3 := hm_sa2
  have hf_mi2 : f4 mi2 = .inl (cy 1, 36, .inl (fun _ => 0)) := hf_mi2
  have hm_mi2 : mi2 ∈ L3 := hm_mi2
  have hf_kp : f4 kp = .inl (cy 3, 3, .inl (fun _ => 0)) := hf_kp
  have hm_kp : kp ∈ L3 := hm_kp
  have hf_sl : f4 sl = .inr (6, [.ref nu, .ref wi, .ref si]) := hf_sl
  have hm_sl : sl ∈ L3 := hm_sl
  have hf_nu : f4 nu = .inl (cy 6, 4, .inr (.inr (.inr (.inr gn)))) := hf_nu
  have hm_nu : nu ∈ L3 := hm_nu
  have hf_r0 : f4 r0 = .inl (cy 2, 60, .inr (.inl (fun _ => 0))) := hf_r0
  have hm_r0 : r0 ∈ L3 := hm_r0
  have hf_r1 : f4 r1 = .inl (cy 2, 60, .inr (.inl (fun _ => 0))) := hf_r1
  have hm_r1 : r1 ∈ L3 := hm_r1
  have hf_r2 : f4 r2 = .inl (cy 2, 60, .inr (.inl (fun _ => 0))) := hf_r2
  have hm_r2 : r2 ∈ L3 := hm_r2
  have hf_r3 : f4 r3 = .inl (cy 2, 60, .inr (.inl (fun _ => 0))) := hf_r3
  have hm_r3 : r3 ∈ L3 := hm_r3
  have hf_wi : f4 wi = .inl (cy 1, 4, .inl (fun _ => 0)) := hf_wi
  have hm_wi : wi ∈ L3 := hm_wi
  have hf_si : f4 si = .inl (cy 1, 4, .inl gs) := hf_si
  have hm_si : si ∈ L3 := hm_si
  have hpX := hp
  have ne_mo_dr : mo ≠ dr := hpX.2.2.2.2.2.2.2.2.1
  have ne_la_xla : la ≠ xla := hpX.2.2.2.2.2.2.2.2.2.1
  have ne_sa_xsa : sa ≠ xsa := hpX.2.2.2.2.2.2.2.2.2.2.1
  have ne_mi_xmi : mi ≠ xmi := hpX.2.2.2.2.2.2.2.2.2.2.2.1
  have ne_i0_mo : i0 ≠ mo := hpX.2.2.2.2.2.2.2.2.2.2.2.2.1
  have ne_la0_la : la0 ≠ la := hpX.2.2.2.2.2.2.2.2.2.2.2.2.2.1
  have ne_sa0_sa : sa0 ≠ sa := hpX.2.2.2.2.2.2.2.2.2.2.2.2.2.2.1
  have ne_mi0_mi : mi0 ≠ mi := hpX.2.2.2.2.2.2.2.2.2.2.2.2.2.2.2.1
  have ne_i1_mo : i1 ≠ mo := hpX.2.2.2.2.2.2.2.2.2.2.2.2.2.2.2.2.1
  have ne_la1_la : la1 ≠ la := hpX.2.2.2.2.2.2.2.2.2.2.2.2.2.2.2.2.2.1
  have ne_sa1_sa : sa1 ≠ sa := hpX.2.2.2.2.2.2.2.2.2.2.2.2.2.2.2.2.2.2.1
  have ne_mi1_mi : mi1 ≠ mi := hpX.2.2.2.2.2.2.2.2.2.2.2.2.2.2.2.2.2.2.2.1
  have ne_i2_mo : i2 ≠ mo := hpX.2.2.2.2.2.2.2.2.2.2.2.2.2.2.2.2.2.2.2.2.1
  have ne_la2_la : la2 ≠ la := hpX.2.2.2.2.2.2.2.2.2.2.2.2.2.2.2.2.2.2.2.2.2.1
  have ne_sa2_sa : sa2 ≠ sa := hpX.2.2.2.2.2.2.2.2.2.2.2.2.2.2.2.2.2.2.2.2.2.2.1
  have ne_mi2_mi : mi2 ≠ mi := hpX.2.2.2.2.2.2.2.2.2.2.2.2.2.2.2.2.2.2.2.2.2.2.2.1
  have ne_wi_si : wi ≠ si := hpX.2.2.2.2.2.2.2.2.2.2.2.2.2.2.2.2.2.2.2.2.2.2.2.2
  refine lv_astore_n (lv' := [(1, .ref hs), (0, .ref b)]) hx hb dL_law_7 rfl hl (by decide) rfl (fun ls hl => ?_)
  refine z_new (C := RX10) (T := TX10) (N := 54) (ci := 10) (fs := [.int 0, .null, .null, .null, .null, .null, .int 0, .int 0, .int 0, .int 0, .int 0, .long 0, .int 0, .int 0, .int 0, .int 0, .null, .null, .null, .null, .null, .null, .int 0, .null, .int 0, .int 0, .long 0, .int 0, .int 0, .null, .int 0, .null, .null, .null, .null, .null, .int 0, .null, .int 0, .null, .int 0, .int 0, .int 0, .null, .null, .null, .null, .null, .int 0, .null, .null, .null, .int 0, .int 0]) (cells := 135) (slots := 5593) hx hb hT zin_X10 tyX10_ok hown (hT _ kw_1162) (hT _ kw_1163) (hT _ kw_96) hK hw hA rfl (fun j hj => by rcases (show j = 0 ∨ j = 1 ∨ j = 2 ∨ j = 3 ∨ j = 4 ∨ j = 5 ∨ j = 6 ∨ j = 7 ∨ j = 8 ∨ j = 9 ∨ j = 10 ∨ j = 11 ∨ j = 12 ∨ j = 13 ∨ j = 14 ∨ j = 15 ∨ j = 16 ∨ j = 17 ∨ j = 18 ∨ j = 19 ∨ j = 20 ∨ j = 21 ∨ j = 22 ∨ j = 23 ∨ j = 24 ∨ j = 25 ∨ j = 26 ∨ j = 27 ∨ j = 28 ∨ j = 29 ∨ j = 30 ∨ j = 31 ∨ j = 32 ∨ j = 33 ∨ j = 34 ∨ j = 35 ∨ j = 36 ∨ j = 37 ∨ j = 38 ∨ j = 39 ∨ j = 40 ∨ j = 41 ∨ j = 42 ∨ j = 43 ∨ j = 44 ∨ j = 45 ∨ j = 46 ∨ j = 47 ∨ j = 48 ∨ j = 49 ∨ j = 50 ∨ j = 51 ∨ j = 52 ∨ j = 53 by omega) with rfl | rfl | rfl | rfl | rfl | rfl | rfl | rfl | rfl | rfl | rfl | rfl | rfl | rfl | rfl | rfl | rfl | rfl | rfl | rfl | rfl | rfl | rfl | rfl | rfl | rfl | rfl | rfl | rfl | rfl | rfl | rfl | rfl | rfl | rfl | rfl | rfl | rfl | rfl | rfl | rfl | rfl | rfl | rfl | rfl | rfl | rfl | rfl | rfl | rfl | rfl | rfl | rfl | rfl <;> rfl) (by decide) (by decide) dL_law_8 (fun me H hq_me hw => ?_)
  refine W.widen (k := 136) (n := 5647) (by decide) (by decide) ?_
  have ne_hs_me : hs ≠ me := z_ne hm_hs hq_me
  have ne_tp_me : tp ≠ me := z_ne hm_tp hq_me
  have ne_ba_me : ba ≠ me := z_ne hm_ba hq_me
  have ne_mo_me : mo ≠ me := z_ne hm_mo hq_me
  have ne_la_me : la ≠ me := z_ne hm_la hq_me
  have ne_sa_me : sa ≠ me := z_ne hm_sa hq_me
  have ne_mi_me : mi ≠ me := z_ne hm_mi hq_me
  have ne_dr_me : dr ≠ me := z_ne hm_dr hq_me
  have ne_xla_me : xla ≠ me := z_ne hm_xla hq_me
  have ne_xsa_me : xsa ≠ me := z_ne hm_xsa hq_me
  have ne_xmi_me : xmi ≠ me := z_ne hm_xmi hq_me
  have ne_rd_me : rd ≠ me := z_ne hm_rd hq_me
  have ne_im_me : im ≠ me := z_ne hm_im hq_me
  have ne_i0_me : i0 ≠ me := z_ne hm_i0 hq_me
  have ne_la0_me : la0 ≠ me := z_ne hm_la0 hq_me
  have ne_sa0_me : sa0 ≠ me := z_ne hm_sa0 hq_me
  have ne_mi0_me : mi0 ≠ me := z_ne hm_mi0 hq_me
  have ne_i1_me : i1 ≠ me := z_ne hm_i1 hq_me
  have ne_la1_me : la1 ≠ me := z_ne hm_la1 hq_me
  have ne_sa1_me : sa1 ≠ me := z_ne hm_sa1 hq_me
  have ne_mi1_me : mi1 ≠ me := z_ne hm_mi1 hq_me
  have ne_i2_me : i2 ≠ me := z_ne hm_i2 hq_me
  have ne_la2_me : la2 ≠ me := z_ne hm_la2 hq_me
  have ne_sa2_me : sa2 ≠ me := z_ne hm_sa2 hq_me
  have ne_mi2_me : mi2 ≠ me := z_ne hm_mi2 hq_me
  have ne_kp_me : kp ≠ me := z_ne hm_kp hq_me
  have ne_sl_me : sl ≠ me := z_ne hm_sl hq_me
  have ne_nu_me : nu ≠ me := z_ne hm_nu hq_me
  have ne_r0_me : r0 ≠ me := z_ne hm_r0 hq_me
  have ne_r1_me : r1 ≠ me := z_ne hm_r1 hq_me
  have ne_r2_me : r2 ≠ me := z_ne hm_r2 hq_me
  have ne_r3_me : r3 ≠ me := z_ne hm_r3 hq_me
  have ne_wi_me : wi ≠ me := z_ne hm_wi hq_me
  have ne_si_me : si ≠ me := z_ne hm_si hq_me
  obtain ⟨f6, e_f6⟩ : ∃ z, z = va_up f4 me (.inr (10, [.int 0, .null, .null, .null, .null, .null, .int 0, .int 0, .int 0, .int 0, .int 0, .long 0, .int 0, .int 0, .int 0, .int 0, .null, .null, .null, .null, .null, .null, .int 0, .null, .int 0, .int 0, .long 0, .int 0, .int 0, .null, .int 0, .null, .null, .null, .null, .null, .int 0, .null, .int 0, .null, .int 0, .int 0, .int 0, .null, .null, .null, .null, .null, .int 0, .null, .null, .null, .int 0, .int 0])) := ⟨_, rfl⟩
  obtain ⟨L5, e_L5⟩ : ∃ z, z = L3 ++ [me] := ⟨_, rfl⟩
  rw [← e_f6, ← e_L5] at hw
  have hm_hs : hs ∈ L5 := by rw [e_L5]; exact List.mem_append_left _ hm_hs
  have hf_hs : f6 hs = .inr (9, [.ref tp, .ref rd, .ref mo, .ref dr, .ref im, .ref kp, .ref sl, .ref wk, .ref pl, .ref ex, .ref mx]) := (congrFun e_f6 hs).trans (z_up_ne ne_hs_me hf_hs)
  have hm_tp : tp ∈ L5 := by rw [e_L5]; exact List.mem_append_left _ hm_tp
  have hf_tp : f6 tp = .inr (7, [.ref ba, .int 0]) := (congrFun e_f6 tp).trans (z_up_ne ne_tp_me hf_tp)
  have hm_ba : ba ∈ L5 := by rw [e_L5]; exact List.mem_append_left _ hm_ba
  have hf_ba : f6 ba = .inl (cy 0, 1600, .inl (fun _ => 0)) := (congrFun e_f6 ba).trans (z_up_ne ne_ba_me hf_ba)
  have hm_mo : mo ∈ L5 := by rw [e_L5]; exact List.mem_append_left _ hm_mo
  have hf_mo : f6 mo = .inr (2, [.int 0, .int 0, .int 0, .int 0, .int 0, .int 0, .int 0, .ref la, .ref sa, .ref mi, .ref da]) := (congrFun e_f6 mo).trans (z_up_ne ne_mo_me hf_mo)
  have hm_la : la ∈ L5 := by rw [e_L5]; exact List.mem_append_left _ hm_la
  have hf_la : f6 la = .inl (cy 1, 5, .inl (fun _ => 0)) := (congrFun e_f6 la).trans (z_up_ne ne_la_me hf_la)
  have hm_sa : sa ∈ L5 := by rw [e_L5]; exact List.mem_append_left _ hm_sa
  have hf_sa : f6 sa = .inl (cy 1, 4, .inl (fun _ => 0)) := (congrFun e_f6 sa).trans (z_up_ne ne_sa_me hf_sa)
  have hm_mi : mi ∈ L5 := by rw [e_L5]; exact List.mem_append_left _ hm_mi
  have hf_mi : f6 mi = .inl (cy 1, 36, .inl (fun _ => 0)) := (congrFun e_f6 mi).trans (z_up_ne ne_mi_me hf_mi)
  have hm_dr : dr ∈ L5 := by rw [e_L5]; exact List.mem_append_left _ hm_dr
  have hf_dr : f6 dr = .inr (2, [.int 0, .int 0, .int 0, .int 0, .int 0, .int 0, .int 0, .ref xla, .ref xsa, .ref xmi, .ref xda]) := (congrFun e_f6 dr).trans (z_up_ne ne_dr_me hf_dr)
  have hm_xla : xla ∈ L5 := by rw [e_L5]; exact List.mem_append_left _ hm_xla
  have hf_xla : f6 xla = .inl (cy 1, 5, .inl (fun _ => 0)) := (congrFun e_f6 xla).trans (z_up_ne ne_xla_me hf_xla)
  have hm_xsa : xsa ∈ L5 := by rw [e_L5]; exact List.mem_append_left _ hm_xsa
  have hf_xsa : f6 xsa = .inl (cy 1, 4, .inl (fun _ => 0)) := (congrFun e_f6 xsa).trans (z_up_ne ne_xsa_me hf_xsa)
  have hm_xmi : xmi ∈ L5 := by rw [e_L5]; exact List.mem_append_left _ hm_xmi
  have hf_xmi : f6 xmi = .inl (cy 1, 36, .inl (fun _ => 0)) := (congrFun e_f6 xmi).trans (z_up_ne ne_xmi_me hf_xmi)
  have hm_rd : rd ∈ L5 := by rw [e_L5]; exact List.mem_append_left _ hm_rd
  have hf_rd : f6 rd = .inr (5, [.int 0, .int (-1), .ref tp, .ref dr, .int 0, .int 0, .int 0, .int 0, .int 0]) := (congrFun e_f6 rd).trans (z_up_ne ne_rd_me hf_rd)
  have hm_im : im ∈ L5 := by rw [e_L5]; exact List.mem_append_left _ hm_im
  have hf_im : f6 im = .inl (cy 5, 3, .inr (.inr (.inr (.inr gi)))) := (congrFun e_f6 im).trans (z_up_ne ne_im_me hf_im)
  have hm_i0 : i0 ∈ L5 := by rw [e_L5]; exact List.mem_append_left _ hm_i0
  have hf_i0 : f6 i0 = .inr (2, [.int 0, .int 0, .int 0, .int 0, .int 0, .int 0, .int 0, .ref la0, .ref sa0, .ref mi0, .ref da0]) := (congrFun e_f6 i0).trans (z_up_ne ne_i0_me hf_i0)
  have hm_la0 : la0 ∈ L5 := by rw [e_L5]; exact List.mem_append_left _ hm_la0
  have hf_la0 : f6 la0 = .inl (cy 1, 5, .inl (fun _ => 0)) := (congrFun e_f6 la0).trans (z_up_ne ne_la0_me hf_la0)
  have hm_sa0 : sa0 ∈ L5 := by rw [e_L5]; exact List.mem_append_left _ hm_sa0
  have hf_sa0 : f6 sa0 = .inl (cy 1, 4, .inl (fun _ => 0)) := (congrFun e_f6 sa0).trans (z_up_ne ne_sa0_me hf_sa0)
  have hm_mi0 : mi0 ∈ L5 := by rw [e_L5]; exact List.mem_append_left _ hm_mi0
  have hf_mi0 : f6 mi0 = .inl (cy 1, 36, .inl (fun _ => 0)) := (congrFun e_f6 mi0).trans (z_up_ne ne_mi0_me hf_mi0)
  have hm_i1 : i1 ∈ L5 := by rw [e_L5]; exact List.mem_append_left _ hm_i1
  have hf_i1 : f6 i1 = .inr (2, [.int 0, .int 0, .int 0, .int 0, .int 0, .int 0, .int 0, .ref la1, .ref sa1, .ref mi1, .ref da1]) := (congrFun e_f6 i1).trans (z_up_ne ne_i1_me hf_i1)
  have hm_la1 : la1 ∈ L5 := by rw [e_L5]; exact List.mem_append_left _ hm_la1
  have hf_la1 : f6 la1 = .inl (cy 1, 5, .inl (fun _ => 0)) := (congrFun e_f6 la1).trans (z_up_ne ne_la1_me hf_la1)
  have hm_sa1 : sa1 ∈ L5 := by rw [e_L5]; exact List.mem_append_left _ hm_sa1
  have hf_sa1 : f6 sa1 = .inl (cy 1, 4, .inl (fun _ => 0)) := (congrFun e_f6 sa1).trans (z_up_ne ne_sa1_me hf_sa1)
  have hm_mi1 : mi1 ∈ L5 := by rw [e_L5]; exact List.mem_append_left _ hm_mi1
  have hf_mi1 : f6 mi1 = .inl (cy 1, 36, .inl (fun _ => 0)) := (congrFun e_f6 mi1).trans (z_up_ne ne_mi1_me hf_mi1)
  have hm_i2 : i2 ∈ L5 := by rw [e_L5]; exact List.mem_append_left _ hm_i2
  have hf_i2 : f6 i2 = .inr (2, [.int 0, .int 0, .int 0, .int 0, .int 0, .int 0, .int 0, .ref la2, .ref sa2, .ref mi2, .ref da2]) := (congrFun e_f6 i2).trans (z_up_ne ne_i2_me hf_i2)
  have hm_la2 : la2 ∈ L5 := by rw [e_L5]; exact List.mem_append_left _ hm_la2
  have hf_la2 : f6 la2 = .inl (cy 1, 5, .inl (fun _ => 0)) := (congrFun e_f6 la2).trans (z_up_ne ne_la2_me hf_la2)
  have hm_sa2 : sa2 ∈ L5 := by rw [e_L5]; exact List.mem_append_left _ hm_sa2
  have hf_sa2 : f6 sa2 = .inl (cy 1, 4, .inl (fun _ => 0)) := (congrFun e_f6 sa2).trans (z_up_ne ne_sa2_me hf_sa2)
  have hm_mi2 : mi2 ∈ L5 := by rw [e_L5]; exact List.mem_append_left _ hm_mi2
  have hf_mi2 : f6 mi2 = .inl (cy 1, 36, .inl (fun _ => 0)) := (congrFun e_f6 mi2).trans (z_up_ne ne_mi2_me hf_mi2)
  have hm_kp : kp ∈ L5 := by rw [e_L5]; exact List.mem_append_left _ hm_kp
  have hf_kp : f6 kp = .inl (cy 3, 3, .inl (fun _ => 0)) := (congrFun e_f6 kp).trans (z_up_ne ne_kp_me hf_kp)
  have hm_sl : sl ∈ L5 := by rw [e_L5]; exact List.mem_append_left _ hm_sl
  have hf_sl : f6 sl = .inr (6, [.ref nu, .ref wi, .ref si]) := (congrFun e_f6 sl).trans (z_up_ne ne_sl_me hf_sl)
  have hm_nu : nu ∈ L5 := by rw [e_L5]; exact List.mem_append_left _ hm_nu
  have hf_nu : f6 nu = .inl (cy 6, 4, .inr (.inr (.inr (.inr gn)))) := (congrFun e_f6 nu).trans (z_up_ne ne_nu_me hf_nu)
  have hm_r0 : r0 ∈ L5 := by rw [e_L5]; exact List.mem_append_left _ hm_r0
  have hf_r0 : f6 r0 = .inl (cy 2, 60, .inr (.inl (fun _ => 0))) := (congrFun e_f6 r0).trans (z_up_ne ne_r0_me hf_r0)
  have hm_r1 : r1 ∈ L5 := by rw [e_L5]; exact List.mem_append_left _ hm_r1
  have hf_r1 : f6 r1 = .inl (cy 2, 60, .inr (.inl (fun _ => 0))) := (congrFun e_f6 r1).trans (z_up_ne ne_r1_me hf_r1)
  have hm_r2 : r2 ∈ L5 := by rw [e_L5]; exact List.mem_append_left _ hm_r2
  have hf_r2 : f6 r2 = .inl (cy 2, 60, .inr (.inl (fun _ => 0))) := (congrFun e_f6 r2).trans (z_up_ne ne_r2_me hf_r2)
  have hm_r3 : r3 ∈ L5 := by rw [e_L5]; exact List.mem_append_left _ hm_r3
  have hf_r3 : f6 r3 = .inl (cy 2, 60, .inr (.inl (fun _ => 0))) := (congrFun e_f6 r3).trans (z_up_ne ne_r3_me hf_r3)
  have hm_wi : wi ∈ L5 := by rw [e_L5]; exact List.mem_append_left _ hm_wi
  have hf_wi : f6 wi = .inl (cy 1, 4, .inl (fun _ => 0)) := (congrFun e_f6 wi).trans (z_up_ne ne_wi_me hf_wi)
  have hm_si : si ∈ L5 := by rw [e_L5]; exact List.mem_append_left _ hm_si
  have hf_si : f6 si = .inl (cy 1, 4, .inl gs) := (congrFun e_f6 si).trans (z_up_ne ne_si_me hf_si)
  have hm_me : me ∈ L5 := by rw [e_L5]; exact List.mem_append_right _ (List.mem_singleton.mpr rfl)
  have hf_me : f6 me = .inr (10, [.int 0, .null, .null, .null, .null, .null, .int 0, .int 0, .int 0, .int 0, .int 0, .long 0, .int 0, .int 0, .int 0, .int 0, .null, .null, .null, .null, .null, .null, .int 0, .null, .int 0, .int 0, .long 0, .int 0, .int 0, .null, .int 0, .null, .null, .null, .null, .null, .int 0, .null, .int 0, .null, .int 0, .int 0, .int 0, .null, .null, .null, .null, .null, .int 0, .null, .null, .null, .int 0, .int 0]) := (congrFun e_f6 me).trans z_up_self
  refine lv_dup hx hb dL_law_11 rfl ?_
  refine z_callvI (cells := 136) (slots := 5647) (b := me) (As := []) (rest := [.ref me]) ⟨hx, hb, hml, hown, hT⟩ (c_X10_init l hm_me hf_me) (cwI 0 hT (z_goodI (fun _ h => h) kw_1166) rfl rfl rfl (hT _ kw_96) (hT _ kw_1164) (hT _ kw_1165) rfl (by decide +kernel) ⟨by decide, by decide⟩) z_mv hKK hw hA rfl hl.1 rfl (Nat.le_of_ble_eq_true rfl) dL_law_12 ⟨by decide, by decide⟩ (fun u H locs hp hw => ?_)
  refine W.widen (k := 164) (n := 16321) (by decide) (by decide) ?_
  obtain ⟨L7, f8⟩ := u
  obtain ⟨hsb, hfm, mw, mn, mc, mv, mt, ml, mh, mj, ms, mg, md, mk, z29, z31, z32, z33, z34, z35, z37, z39, z43, z44, z45, z46, z47, z49, z50, z51, gw, ha_0, ⟨hq_mw, hm_mw, hf_mw⟩, ⟨hq_mn, hm_mn, hf_mn⟩, ⟨hq_mc, hm_mc, hf_mc⟩, ⟨hq_mt, hm_mt, hf_mt⟩, ⟨hq_ml, hm_ml, hf_ml⟩, ⟨hq_mh, hm_mh, hf_mh⟩, ⟨hq_mj, hm_mj, hf_mj⟩, ⟨hq_ms, hm_ms, hf_ms⟩, ⟨hq_mg, hm_mg, hf_mg⟩, ⟨hq_md, hm_md, hf_md⟩, ⟨hq_mk, hm_mk, hf_mk⟩, hp⟩ := hp
  have hw : z_H D vwCl ((fun q : Nat => s.heap.size ≤ q)) s.heap L7 f8 H locs := hw
  have ne_hs_mw : hs ≠ mw := z_ne hm_hs hq_mw
  have ne_tp_mw : tp ≠ mw := z_ne hm_tp hq_mw
  have ne_ba_mw : ba ≠ mw := z_ne hm_ba hq_mw
  have ne_mo_mw : mo ≠ mw := z_ne hm_mo hq_mw
  have ne_la_mw : la ≠ mw := z_ne hm_la hq_mw
  have ne_sa_mw : sa ≠ mw := z_ne hm_sa hq_mw
  have ne_mi_mw : mi ≠ mw := z_ne hm_mi hq_mw
  have ne_dr_mw : dr ≠ mw := z_ne hm_dr hq_mw
  have ne_xla_mw : xla ≠ mw := z_ne hm_xla hq_mw
  have ne_xsa_mw : xsa ≠ mw := z_ne hm_xsa hq_mw
  have ne_xmi_mw : xmi ≠ mw := z_ne hm_xmi hq_mw
  have ne_rd_mw : rd ≠ mw := z_ne hm_rd hq_mw
  have ne_im_mw : im ≠ mw := z_ne hm_im hq_mw
  have ne_i0_mw : i0 ≠ mw := z_ne hm_i0 hq_mw
  have ne_la0_mw : la0 ≠ mw := z_ne hm_la0 hq_mw
  have ne_sa0_mw : sa0 ≠ mw := z_ne hm_sa0 hq_mw
  have ne_mi0_mw : mi0 ≠ mw := z_ne hm_mi0 hq_mw
  have ne_i1_mw : i1 ≠ mw := z_ne hm_i1 hq_mw
  have ne_la1_mw : la1 ≠ mw := z_ne hm_la1 hq_mw
  have ne_sa1_mw : sa1 ≠ mw := z_ne hm_sa1 hq_mw
  have ne_mi1_mw : mi1 ≠ mw := z_ne hm_mi1 hq_mw
  have ne_i2_mw : i2 ≠ mw := z_ne hm_i2 hq_mw
  have ne_la2_mw : la2 ≠ mw := z_ne hm_la2 hq_mw
  have ne_sa2_mw : sa2 ≠ mw := z_ne hm_sa2 hq_mw
  have ne_mi2_mw : mi2 ≠ mw := z_ne hm_mi2 hq_mw
  have ne_kp_mw : kp ≠ mw := z_ne hm_kp hq_mw
  have ne_sl_mw : sl ≠ mw := z_ne hm_sl hq_mw
  have ne_nu_mw : nu ≠ mw := z_ne hm_nu hq_mw
  have ne_r0_mw : r0 ≠ mw := z_ne hm_r0 hq_mw
  have ne_r1_mw : r1 ≠ mw := z_ne hm_r1 hq_mw
  have ne_r2_mw : r2 ≠ mw := z_ne hm_r2 hq_mw
  have ne_r3_mw : r3 ≠ mw := z_ne hm_r3 hq_mw
  have ne_wi_mw : wi ≠ mw := z_ne hm_wi hq_mw
  have ne_si_mw : si ≠ mw := z_ne hm_si hq_mw
  have ne_me_mw : me ≠ mw := z_ne hm_me hq_mw
  have ne_hs_mn : hs ≠ mn := z_ne hm_hs hq_mn
  have ne_tp_mn : tp ≠ mn := z_ne hm_tp hq_mn
  have ne_ba_mn : ba ≠ mn := z_ne hm_ba hq_mn
  have ne_mo_mn : mo ≠ mn := z_ne hm_mo hq_mn
  have ne_la_mn : la ≠ mn := z_ne hm_la hq_mn
  have ne_sa_mn : sa ≠ mn := z_ne hm_sa hq_mn
  have ne_mi_mn : mi ≠ mn := z_ne hm_mi hq_mn
  have ne_dr_mn : dr ≠ mn := z_ne hm_dr hq_mn
  have ne_xla_mn : xla ≠ mn := z_ne hm_xla hq_mn
  have ne_xsa_mn : xsa ≠ mn := z_ne hm_xsa hq_mn
  have ne_xmi_mn : xmi ≠ mn := z_ne hm_xmi hq_mn
  have ne_rd_mn : rd ≠ mn := z_ne hm_rd hq_mn
  have ne_im_mn : im ≠ mn := z_ne hm_im hq_mn
  have ne_i0_mn : i0 ≠ mn := z_ne hm_i0 hq_mn
  have ne_la0_mn : la0 ≠ mn := z_ne hm_la0 hq_mn
  have ne_sa0_mn : sa0 ≠ mn := z_ne hm_sa0 hq_mn
  have ne_mi0_mn : mi0 ≠ mn := z_ne hm_mi0 hq_mn
  have ne_i1_mn : i1 ≠ mn := z_ne hm_i1 hq_mn
  have ne_la1_mn : la1 ≠ mn := z_ne hm_la1 hq_mn
  have ne_sa1_mn : sa1 ≠ mn := z_ne hm_sa1 hq_mn
  have ne_mi1_mn : mi1 ≠ mn := z_ne hm_mi1 hq_mn
  have ne_i2_mn : i2 ≠ mn := z_ne hm_i2 hq_mn
  have ne_la2_mn : la2 ≠ mn := z_ne hm_la2 hq_mn
  have ne_sa2_mn : sa2 ≠ mn := z_ne hm_sa2 hq_mn
  have ne_mi2_mn : mi2 ≠ mn := z_ne hm_mi2 hq_mn
  have ne_kp_mn : kp ≠ mn := z_ne hm_kp hq_mn
  have ne_sl_mn : sl ≠ mn := z_ne hm_sl hq_mn
  have ne_nu_mn : nu ≠ mn := z_ne hm_nu hq_mn
  have ne_r0_mn : r0 ≠ mn := z_ne hm_r0 hq_mn
  have ne_r1_mn : r1 ≠ mn := z_ne hm_r1 hq_mn
  have ne_r2_mn : r2 ≠ mn := z_ne hm_r2 hq_mn
  have ne_r3_mn : r3 ≠ mn := z_ne hm_r3 hq_mn
  have ne_wi_mn : wi ≠ mn := z_ne hm_wi hq_mn
  have ne_si_mn : si ≠ mn := z_ne hm_si hq_mn
  have ne_me_mn : me ≠ mn := z_ne hm_me hq_mn
  have ne_hs_mc : hs ≠ mc := z_ne hm_hs hq_mc
  have ne_tp_mc : tp ≠ mc := z_ne hm_tp hq_mc
  have ne_ba_mc : ba ≠ mc := z_ne hm_ba hq_mc
  have ne_mo_mc : mo ≠ mc := z_ne hm_mo hq_mc
  have ne_la_mc : la ≠ mc := z_ne hm_la hq_mc
  have ne_sa_mc : sa ≠ mc := z_ne hm_sa hq_mc
  have ne_mi_mc : mi ≠ mc := z_ne hm_mi hq_mc
  have ne_dr_mc : dr ≠ mc := z_ne hm_dr hq_mc
  have ne_xla_mc : xla ≠ mc := z_ne hm_xla hq_mc
  have ne_xsa_mc : xsa ≠ mc := z_ne hm_xsa hq_mc
  have ne_xmi_mc : xmi ≠ mc := z_ne hm_xmi hq_mc
  have ne_rd_mc : rd ≠ mc := z_ne hm_rd hq_mc
  have ne_im_mc : im ≠ mc := z_ne hm_im hq_mc
  have ne_i0_mc : i0 ≠ mc := z_ne hm_i0 hq_mc
  have ne_la0_mc : la0 ≠ mc := z_ne hm_la0 hq_mc
  have ne_sa0_mc : sa0 ≠ mc := z_ne hm_sa0 hq_mc
  have ne_mi0_mc : mi0 ≠ mc := z_ne hm_mi0 hq_mc
  have ne_i1_mc : i1 ≠ mc := z_ne hm_i1 hq_mc
  have ne_la1_mc : la1 ≠ mc := z_ne hm_la1 hq_mc
  have ne_sa1_mc : sa1 ≠ mc := z_ne hm_sa1 hq_mc
  have ne_mi1_mc : mi1 ≠ mc := z_ne hm_mi1 hq_mc
  have ne_i2_mc : i2 ≠ mc := z_ne hm_i2 hq_mc
  have ne_la2_mc : la2 ≠ mc := z_ne hm_la2 hq_mc
  have ne_sa2_mc : sa2 ≠ mc := z_ne hm_sa2 hq_mc
  have ne_mi2_mc : mi2 ≠ mc := z_ne hm_mi2 hq_mc
  have ne_kp_mc : kp ≠ mc := z_ne hm_kp hq_mc
  have ne_sl_mc : sl ≠ mc := z_ne hm_sl hq_mc
  have ne_nu_mc : nu ≠ mc := z_ne hm_nu hq_mc
  have ne_r0_mc : r0 ≠ mc := z_ne hm_r0 hq_mc
  have ne_r1_mc : r1 ≠ mc := z_ne hm_r1 hq_mc
  have ne_r2_mc : r2 ≠ mc := z_ne hm_r2 hq_mc
  have ne_r3_mc : r3 ≠ mc := z_ne hm_r3 hq_mc
  have ne_wi_mc : wi ≠ mc := z_ne hm_wi hq_mc
  have ne_si_mc : si ≠ mc := z_ne hm_si hq_mc
  have ne_me_mc : me ≠ mc := z_ne hm_me hq_mc
  have ne_hs_mt : hs ≠ mt := z_ne hm_hs hq_mt
  have ne_tp_mt : tp ≠ mt := z_ne hm_tp hq_mt
  have ne_ba_mt : ba ≠ mt := z_ne hm_ba hq_mt
  have ne_mo_mt : mo ≠ mt := z_ne hm_mo hq_mt
  have ne_la_mt : la ≠ mt := z_ne hm_la hq_mt
  have ne_sa_mt : sa ≠ mt := z_ne hm_sa hq_mt
  have ne_mi_mt : mi ≠ mt := z_ne hm_mi hq_mt
  have ne_dr_mt : dr ≠ mt := z_ne hm_dr hq_mt
  have ne_xla_mt : xla ≠ mt := z_ne hm_xla hq_mt
  have ne_xsa_mt : xsa ≠ mt := z_ne hm_xsa hq_mt
  have ne_xmi_mt : xmi ≠ mt := z_ne hm_xmi hq_mt
  have ne_rd_mt : rd ≠ mt := z_ne hm_rd hq_mt
  have ne_im_mt : im ≠ mt := z_ne hm_im hq_mt
  have ne_i0_mt : i0 ≠ mt := z_ne hm_i0 hq_mt
  have ne_la0_mt : la0 ≠ mt := z_ne hm_la0 hq_mt
  have ne_sa0_mt : sa0 ≠ mt := z_ne hm_sa0 hq_mt
  have ne_mi0_mt : mi0 ≠ mt := z_ne hm_mi0 hq_mt
  have ne_i1_mt : i1 ≠ mt := z_ne hm_i1 hq_mt
  have ne_la1_mt : la1 ≠ mt := z_ne hm_la1 hq_mt
  have ne_sa1_mt : sa1 ≠ mt := z_ne hm_sa1 hq_mt
  have ne_mi1_mt : mi1 ≠ mt := z_ne hm_mi1 hq_mt
  have ne_i2_mt : i2 ≠ mt := z_ne hm_i2 hq_mt
  have ne_la2_mt : la2 ≠ mt := z_ne hm_la2 hq_mt
  have ne_sa2_mt : sa2 ≠ mt := z_ne hm_sa2 hq_mt
  have ne_mi2_mt : mi2 ≠ mt := z_ne hm_mi2 hq_mt
  have ne_kp_mt : kp ≠ mt := z_ne hm_kp hq_mt
  have ne_sl_mt : sl ≠ mt := z_ne hm_sl hq_mt
  have ne_nu_mt : nu ≠ mt := z_ne hm_nu hq_mt
  have ne_r0_mt : r0 ≠ mt := z_ne hm_r0 hq_mt
  have ne_r1_mt : r1 ≠ mt := z_ne hm_r1 hq_mt
  have ne_r2_mt : r2 ≠ mt := z_ne hm_r2 hq_mt
  have ne_r3_mt : r3 ≠ mt := z_ne hm_r3 hq_mt
  have ne_wi_mt : wi ≠ mt := z_ne hm_wi hq_mt
  have ne_si_mt : si ≠ mt := z_ne hm_si hq_mt
  have ne_me_mt : me ≠ mt := z_ne hm_me hq_mt
  have ne_hs_ml : hs ≠ ml := z_ne hm_hs hq_ml
  have ne_tp_ml : tp ≠ ml := z_ne hm_tp hq_ml
  have ne_ba_ml : ba ≠ ml := z_ne hm_ba hq_ml
  have ne_mo_ml : mo ≠ ml := z_ne hm_mo hq_ml
  have ne_la_ml : la ≠ ml := z_ne hm_la hq_ml
  have ne_sa_ml : sa ≠ ml := z_ne hm_sa hq_ml
  have ne_mi_ml : mi ≠ ml := z_ne hm_mi hq_ml
  have ne_dr_ml : dr ≠ ml := z_ne hm_dr hq_ml
  have ne_xla_ml : xla ≠ ml := z_ne hm_xla hq_ml
  have ne_xsa_ml : xsa ≠ ml := z_ne hm_xsa hq_ml
  have ne_xmi_ml : xmi ≠ ml := z_ne hm_xmi hq_ml
  have ne_rd_ml : rd ≠ ml := z_ne hm_rd hq_ml
  have ne_im_ml : im ≠ ml := z_ne hm_im hq_ml
  have ne_i0_ml : i0 ≠ ml := z_ne hm_i0 hq_ml
  have ne_la0_ml : la0 ≠ ml := z_ne hm_la0 hq_ml
  have ne_sa0_ml : sa0 ≠ ml := z_ne hm_sa0 hq_ml
  have ne_mi0_ml : mi0 ≠ ml := z_ne hm_mi0 hq_ml
  have ne_i1_ml : i1 ≠ ml := z_ne hm_i1 hq_ml
  have ne_la1_ml : la1 ≠ ml := z_ne hm_la1 hq_ml
  have ne_sa1_ml : sa1 ≠ ml := z_ne hm_sa1 hq_ml
  have ne_mi1_ml : mi1 ≠ ml := z_ne hm_mi1 hq_ml
  have ne_i2_ml : i2 ≠ ml := z_ne hm_i2 hq_ml
  have ne_la2_ml : la2 ≠ ml := z_ne hm_la2 hq_ml
  have ne_sa2_ml : sa2 ≠ ml := z_ne hm_sa2 hq_ml
  have ne_mi2_ml : mi2 ≠ ml := z_ne hm_mi2 hq_ml
  have ne_kp_ml : kp ≠ ml := z_ne hm_kp hq_ml
  have ne_sl_ml : sl ≠ ml := z_ne hm_sl hq_ml
  have ne_nu_ml : nu ≠ ml := z_ne hm_nu hq_ml
  have ne_r0_ml : r0 ≠ ml := z_ne hm_r0 hq_ml
  have ne_r1_ml : r1 ≠ ml := z_ne hm_r1 hq_ml
  have ne_r2_ml : r2 ≠ ml := z_ne hm_r2 hq_ml
  have ne_r3_ml : r3 ≠ ml := z_ne hm_r3 hq_ml
  have ne_wi_ml : wi ≠ ml := z_ne hm_wi hq_ml
  have ne_si_ml : si ≠ ml := z_ne hm_si hq_ml
  have ne_me_ml : me ≠ ml := z_ne hm_me hq_ml
  have ne_hs_mh : hs ≠ mh := z_ne hm_hs hq_mh
  have ne_tp_mh : tp ≠ mh := z_ne hm_tp hq_mh
  have ne_ba_mh : ba ≠ mh := z_ne hm_ba hq_mh
  have ne_mo_mh : mo ≠ mh := z_ne hm_mo hq_mh
  have ne_la_mh : la ≠ mh := z_ne hm_la hq_mh
  have ne_sa_mh : sa ≠ mh := z_ne hm_sa hq_mh
  have ne_mi_mh : mi ≠ mh := z_ne hm_mi hq_mh
  have ne_dr_mh : dr ≠ mh := z_ne hm_dr hq_mh
  have ne_xla_mh : xla ≠ mh := z_ne hm_xla hq_mh
  have ne_xsa_mh : xsa ≠ mh := z_ne hm_xsa hq_mh
  have ne_xmi_mh : xmi ≠ mh := z_ne hm_xmi hq_mh
  have ne_rd_mh : rd ≠ mh := z_ne hm_rd hq_mh
  have ne_im_mh : im ≠ mh := z_ne hm_im hq_mh
  have ne_i0_mh : i0 ≠ mh := z_ne hm_i0 hq_mh
  have ne_la0_mh : la0 ≠ mh := z_ne hm_la0 hq_mh
  have ne_sa0_mh : sa0 ≠ mh := z_ne hm_sa0 hq_mh
  have ne_mi0_mh : mi0 ≠ mh := z_ne hm_mi0 hq_mh
  have ne_i1_mh : i1 ≠ mh := z_ne hm_i1 hq_mh
  have ne_la1_mh : la1 ≠ mh := z_ne hm_la1 hq_mh
  have ne_sa1_mh : sa1 ≠ mh := z_ne hm_sa1 hq_mh
  have ne_mi1_mh : mi1 ≠ mh := z_ne hm_mi1 hq_mh
  have ne_i2_mh : i2 ≠ mh := z_ne hm_i2 hq_mh
  have ne_la2_mh : la2 ≠ mh := z_ne hm_la2 hq_mh
  have ne_sa2_mh : sa2 ≠ mh := z_ne hm_sa2 hq_mh
  have ne_mi2_mh : mi2 ≠ mh := z_ne hm_mi2 hq_mh
  have ne_kp_mh : kp ≠ mh := z_ne hm_kp hq_mh
  have ne_sl_mh : sl ≠ mh := z_ne hm_sl hq_mh
  have ne_nu_mh : nu ≠ mh := z_ne hm_nu hq_mh
  have ne_r0_mh : r0 ≠ mh := z_ne hm_r0 hq_mh
  have ne_r1_mh : r1 ≠ mh := z_ne hm_r1 hq_mh
  have ne_r2_mh : r2 ≠ mh := z_ne hm_r2 hq_mh
  have ne_r3_mh : r3 ≠ mh := z_ne hm_r3 hq_mh
  have ne_wi_mh : wi ≠ mh := z_ne hm_wi hq_mh
  have ne_si_mh : si ≠ mh := z_ne hm_si hq_mh
  have ne_me_mh : me ≠ mh := z_ne hm_me hq_mh
  have ne_hs_mj : hs ≠ mj := z_ne hm_hs hq_mj
  have ne_tp_mj : tp ≠ mj := z_ne hm_tp hq_mj
  have ne_ba_mj : ba ≠ mj := z_ne hm_ba hq_mj
  have ne_mo_mj : mo ≠ mj := z_ne hm_mo hq_mj
  have ne_la_mj : la ≠ mj := z_ne hm_la hq_mj
  have ne_sa_mj : sa ≠ mj := z_ne hm_sa hq_mj
  have ne_mi_mj : mi ≠ mj := z_ne hm_mi hq_mj
  have ne_dr_mj : dr ≠ mj := z_ne hm_dr hq_mj
  have ne_xla_mj : xla ≠ mj := z_ne hm_xla hq_mj
  have ne_xsa_mj : xsa ≠ mj := z_ne hm_xsa hq_mj
  have ne_xmi_mj : xmi ≠ mj := z_ne hm_xmi hq_mj
  have ne_rd_mj : rd ≠ mj := z_ne hm_rd hq_mj
  have ne_im_mj : im ≠ mj := z_ne hm_im hq_mj
  have ne_i0_mj : i0 ≠ mj := z_ne hm_i0 hq_mj
  have ne_la0_mj : la0 ≠ mj := z_ne hm_la0 hq_mj
  have ne_sa0_mj : sa0 ≠ mj := z_ne hm_sa0 hq_mj
  have ne_mi0_mj : mi0 ≠ mj := z_ne hm_mi0 hq_mj
  have ne_i1_mj : i1 ≠ mj := z_ne hm_i1 hq_mj
  have ne_la1_mj : la1 ≠ mj := z_ne hm_la1 hq_mj
  have ne_sa1_mj : sa1 ≠ mj := z_ne hm_sa1 hq_mj
  have ne_mi1_mj : mi1 ≠ mj := z_ne hm_mi1 hq_mj
  have ne_i2_mj : i2 ≠ mj := z_ne hm_i2 hq_mj
  have ne_la2_mj : la2 ≠ mj := z_ne hm_la2 hq_mj
  have ne_sa2_mj : sa2 ≠ mj := z_ne hm_sa2 hq_mj
  have ne_mi2_mj : mi2 ≠ mj := z_ne hm_mi2 hq_mj
  have ne_kp_mj : kp ≠ mj := z_ne hm_kp hq_mj
  have ne_sl_mj : sl ≠ mj := z_ne hm_sl hq_mj
  have ne_nu_mj : nu ≠ mj := z_ne hm_nu hq_mj
  have ne_r0_mj : r0 ≠ mj := z_ne hm_r0 hq_mj
  have ne_r1_mj : r1 ≠ mj := z_ne hm_r1 hq_mj
  have ne_r2_mj : r2 ≠ mj := z_ne hm_r2 hq_mj
  have ne_r3_mj : r3 ≠ mj := z_ne hm_r3 hq_mj
  have ne_wi_mj : wi ≠ mj := z_ne hm_wi hq_mj
  have ne_si_mj : si ≠ mj := z_ne hm_si hq_mj
  have ne_me_mj : me ≠ mj := z_ne hm_me hq_mj
  have ne_hs_ms : hs ≠ ms := z_ne hm_hs hq_ms
  have ne_tp_ms : tp ≠ ms := z_ne hm_tp hq_ms
  have ne_ba_ms : ba ≠ ms := z_ne hm_ba hq_ms
  have ne_mo_ms : mo ≠ ms := z_ne hm_mo hq_ms
  have ne_la_ms : la ≠ ms := z_ne hm_la hq_ms
  have ne_sa_ms : sa ≠ ms := z_ne hm_sa hq_ms
  have ne_mi_ms : mi ≠ ms := z_ne hm_mi hq_ms
  have ne_dr_ms : dr ≠ ms := z_ne hm_dr hq_ms
  have ne_xla_ms : xla ≠ ms := z_ne hm_xla hq_ms
  have ne_xsa_ms : xsa ≠ ms := z_ne hm_xsa hq_ms
  have ne_xmi_ms : xmi ≠ ms := z_ne hm_xmi hq_ms
  have ne_rd_ms : rd ≠ ms := z_ne hm_rd hq_ms
  have ne_im_ms : im ≠ ms := z_ne hm_im hq_ms
  have ne_i0_ms : i0 ≠ ms := z_ne hm_i0 hq_ms
  have ne_la0_ms : la0 ≠ ms := z_ne hm_la0 hq_ms
  have ne_sa0_ms : sa0 ≠ ms := z_ne hm_sa0 hq_ms
  have ne_mi0_ms : mi0 ≠ ms := z_ne hm_mi0 hq_ms
  have ne_i1_ms : i1 ≠ ms := z_ne hm_i1 hq_ms
  have ne_la1_ms : la1 ≠ ms := z_ne hm_la1 hq_ms
  have ne_sa1_ms : sa1 ≠ ms := z_ne hm_sa1 hq_ms
  have ne_mi1_ms : mi1 ≠ ms := z_ne hm_mi1 hq_ms
  have ne_i2_ms : i2 ≠ ms := z_ne hm_i2 hq_ms
  have ne_la2_ms : la2 ≠ ms := z_ne hm_la2 hq_ms
  have ne_sa2_ms : sa2 ≠ ms := z_ne hm_sa2 hq_ms
  have ne_mi2_ms : mi2 ≠ ms := z_ne hm_mi2 hq_ms
  have ne_kp_ms : kp ≠ ms := z_ne hm_kp hq_ms
  have ne_sl_ms : sl ≠ ms := z_ne hm_sl hq_ms
  have ne_nu_ms : nu ≠ ms := z_ne hm_nu hq_ms
  have ne_r0_ms : r0 ≠ ms := z_ne hm_r0 hq_ms
  have ne_r1_ms : r1 ≠ ms := z_ne hm_r1 hq_ms
  have ne_r2_ms : r2 ≠ ms := z_ne hm_r2 hq_ms
  have ne_r3_ms : r3 ≠ ms := z_ne hm_r3 hq_ms
  have ne_wi_ms : wi ≠ ms := z_ne hm_wi hq_ms
  have ne_si_ms : si ≠ ms := z_ne hm_si hq_ms
  have ne_me_ms : me ≠ ms := z_ne hm_me hq_ms
  have ne_hs_mg : hs ≠ mg := z_ne hm_hs hq_mg
  have ne_tp_mg : tp ≠ mg := z_ne hm_tp hq_mg
  have ne_ba_mg : ba ≠ mg := z_ne hm_ba hq_mg
  have ne_mo_mg : mo ≠ mg := z_ne hm_mo hq_mg
  have ne_la_mg : la ≠ mg := z_ne hm_la hq_mg
  have ne_sa_mg : sa ≠ mg := z_ne hm_sa hq_mg
  have ne_mi_mg : mi ≠ mg := z_ne hm_mi hq_mg
  have ne_dr_mg : dr ≠ mg := z_ne hm_dr hq_mg
  have ne_xla_mg : xla ≠ mg := z_ne hm_xla hq_mg
  have ne_xsa_mg : xsa ≠ mg := z_ne hm_xsa hq_mg
  have ne_xmi_mg : xmi ≠ mg := z_ne hm_xmi hq_mg
  have ne_rd_mg : rd ≠ mg := z_ne hm_rd hq_mg
  have ne_im_mg : im ≠ mg := z_ne hm_im hq_mg
  have ne_i0_mg : i0 ≠ mg := z_ne hm_i0 hq_mg
  have ne_la0_mg : la0 ≠ mg := z_ne hm_la0 hq_mg
  have ne_sa0_mg : sa0 ≠ mg := z_ne hm_sa0 hq_mg
  have ne_mi0_mg : mi0 ≠ mg := z_ne hm_mi0 hq_mg
  have ne_i1_mg : i1 ≠ mg := z_ne hm_i1 hq_mg
  have ne_la1_mg : la1 ≠ mg := z_ne hm_la1 hq_mg
  have ne_sa1_mg : sa1 ≠ mg := z_ne hm_sa1 hq_mg
  have ne_mi1_mg : mi1 ≠ mg := z_ne hm_mi1 hq_mg
  have ne_i2_mg : i2 ≠ mg := z_ne hm_i2 hq_mg
  have ne_la2_mg : la2 ≠ mg := z_ne hm_la2 hq_mg
  have ne_sa2_mg : sa2 ≠ mg := z_ne hm_sa2 hq_mg
  have ne_mi2_mg : mi2 ≠ mg := z_ne hm_mi2 hq_mg
  have ne_kp_mg : kp ≠ mg := z_ne hm_kp hq_mg
  have ne_sl_mg : sl ≠ mg := z_ne hm_sl hq_mg
  have ne_nu_mg : nu ≠ mg := z_ne hm_nu hq_mg
  have ne_r0_mg : r0 ≠ mg := z_ne hm_r0 hq_mg
  have ne_r1_mg : r1 ≠ mg := z_ne hm_r1 hq_mg
  have ne_r2_mg : r2 ≠ mg := z_ne hm_r2 hq_mg
  have ne_r3_mg : r3 ≠ mg := z_ne hm_r3 hq_mg
  have ne_wi_mg : wi ≠ mg := z_ne hm_wi hq_mg
  have ne_si_mg : si ≠ mg := z_ne hm_si hq_mg
  have ne_me_mg : me ≠ mg := z_ne hm_me hq_mg
  have ne_hs_md : hs ≠ md := z_ne hm_hs hq_md
  have ne_tp_md : tp ≠ md := z_ne hm_tp hq_md
  have ne_ba_md : ba ≠ md := z_ne hm_ba hq_md
  have ne_mo_md : mo ≠ md := z_ne hm_mo hq_md
  have ne_la_md : la ≠ md := z_ne hm_la hq_md
  have ne_sa_md : sa ≠ md := z_ne hm_sa hq_md
  have ne_mi_md : mi ≠ md := z_ne hm_mi hq_md
  have ne_dr_md : dr ≠ md := z_ne hm_dr hq_md
  have ne_xla_md : xla ≠ md := z_ne hm_xla hq_md
  have ne_xsa_md : xsa ≠ md := z_ne hm_xsa hq_md
  have ne_xmi_md : xmi ≠ md := z_ne hm_xmi hq_md
  have ne_rd_md : rd ≠ md := z_ne hm_rd hq_md
  have ne_im_md : im ≠ md := z_ne hm_im hq_md
  have ne_i0_md : i0 ≠ md := z_ne hm_i0 hq_md
  have ne_la0_md : la0 ≠ md := z_ne hm_la0 hq_md
  have ne_sa0_md : sa0 ≠ md := z_ne hm_sa0 hq_md
  have ne_mi0_md : mi0 ≠ md := z_ne hm_mi0 hq_md
  have ne_i1_md : i1 ≠ md := z_ne hm_i1 hq_md
  have ne_la1_md : la1 ≠ md := z_ne hm_la1 hq_md
  have ne_sa1_md : sa1 ≠ md := z_ne hm_sa1 hq_md
  have ne_mi1_md : mi1 ≠ md := z_ne hm_mi1 hq_md
  have ne_i2_md : i2 ≠ md := z_ne hm_i2 hq_md
  have ne_la2_md : la2 ≠ md := z_ne hm_la2 hq_md
  have ne_sa2_md : sa2 ≠ md := z_ne hm_sa2 hq_md
  have ne_mi2_md : mi2 ≠ md := z_ne hm_mi2 hq_md
  have ne_kp_md : kp ≠ md := z_ne hm_kp hq_md
  have ne_sl_md : sl ≠ md := z_ne hm_sl hq_md
  have ne_nu_md : nu ≠ md := z_ne hm_nu hq_md
  have ne_r0_md : r0 ≠ md := z_ne hm_r0 hq_md
  have ne_r1_md : r1 ≠ md := z_ne hm_r1 hq_md
  have ne_r2_md : r2 ≠ md := z_ne hm_r2 hq_md
  have ne_r3_md : r3 ≠ md := z_ne hm_r3 hq_md
  have ne_wi_md : wi ≠ md := z_ne hm_wi hq_md
  have ne_si_md : si ≠ md := z_ne hm_si hq_md
  have ne_me_md : me ≠ md := z_ne hm_me hq_md
  have ne_hs_mk : hs ≠ mk := z_ne hm_hs hq_mk
  have ne_tp_mk : tp ≠ mk := z_ne hm_tp hq_mk
  have ne_ba_mk : ba ≠ mk := z_ne hm_ba hq_mk
  have ne_mo_mk : mo ≠ mk := z_ne hm_mo hq_mk
  have ne_la_mk : la ≠ mk := z_ne hm_la hq_mk
  have ne_sa_mk : sa ≠ mk := z_ne hm_sa hq_mk
  have ne_mi_mk : mi ≠ mk := z_ne hm_mi hq_mk
  have ne_dr_mk : dr ≠ mk := z_ne hm_dr hq_mk
  have ne_xla_mk : xla ≠ mk := z_ne hm_xla hq_mk
  have ne_xsa_mk : xsa ≠ mk := z_ne hm_xsa hq_mk
  have ne_xmi_mk : xmi ≠ mk := z_ne hm_xmi hq_mk
  have ne_rd_mk : rd ≠ mk := z_ne hm_rd hq_mk
  have ne_im_mk : im ≠ mk := z_ne hm_im hq_mk
  have ne_i0_mk : i0 ≠ mk := z_ne hm_i0 hq_mk
  have ne_la0_mk : la0 ≠ mk := z_ne hm_la0 hq_mk
  have ne_sa0_mk : sa0 ≠ mk := z_ne hm_sa0 hq_mk
  have ne_mi0_mk : mi0 ≠ mk := z_ne hm_mi0 hq_mk
  have ne_i1_mk : i1 ≠ mk := z_ne hm_i1 hq_mk
  have ne_la1_mk : la1 ≠ mk := z_ne hm_la1 hq_mk
  have ne_sa1_mk : sa1 ≠ mk := z_ne hm_sa1 hq_mk
  have ne_mi1_mk : mi1 ≠ mk := z_ne hm_mi1 hq_mk
  have ne_i2_mk : i2 ≠ mk := z_ne hm_i2 hq_mk
  have ne_la2_mk : la2 ≠ mk := z_ne hm_la2 hq_mk
  have ne_sa2_mk : sa2 ≠ mk := z_ne hm_sa2 hq_mk
  have ne_mi2_mk : mi2 ≠ mk := z_ne hm_mi2 hq_mk
  have ne_kp_mk : kp ≠ mk := z_ne hm_kp hq_mk
  have ne_sl_mk : sl ≠ mk := z_ne hm_sl hq_mk
  have ne_nu_mk : nu ≠ mk := z_ne hm_nu hq_mk
  have ne_r0_mk : r0 ≠ mk := z_ne hm_r0 hq_mk
  have ne_r1_mk : r1 ≠ mk := z_ne hm_r1 hq_mk
  have ne_r2_mk : r2 ≠ mk := z_ne hm_r2 hq_mk
  have ne_r3_mk : r3 ≠ mk := z_ne hm_r3 hq_mk
  have ne_wi_mk : wi ≠ mk := z_ne hm_wi hq_mk
  have ne_si_mk : si ≠ mk := z_ne hm_si hq_mk
  have ne_me_mk : me ≠ mk := z_ne hm_me hq_mk
  have hf_hs : f8 hs = .inr (9, [.ref tp, .ref rd, .ref mo, .ref dr, .ref im, .ref kp, .ref sl, .ref wk, .ref pl, .ref ex, .ref mx]) := (hfm hs hm_hs ne_hs_me).trans hf_hs
  have hf_tp : f8 tp = .inr (7, [.ref ba, .int 0]) := (hfm tp hm_tp ne_tp_me).trans hf_tp
  have hf_ba : f8 ba = .inl (cy 0, 1600, .inl (fun _ => 0)) := (hfm ba hm_ba ne_ba_me).trans hf_ba
  have hf_mo : f8 mo = .inr (2, [.int 0, .int 0, .int 0, .int 0, .int 0, .int 0, .int 0, .ref la, .ref sa, .ref mi, .ref da]) := (hfm mo hm_mo ne_mo_me).trans hf_mo
  have hf_la : f8 la = .inl (cy 1, 5, .inl (fun _ => 0)) := (hfm la hm_la ne_la_me).trans hf_la
  have hf_sa : f8 sa = .inl (cy 1, 4, .inl (fun _ => 0)) := (hfm sa hm_sa ne_sa_me).trans hf_sa
  have hf_mi : f8 mi = .inl (cy 1, 36, .inl (fun _ => 0)) := (hfm mi hm_mi ne_mi_me).trans hf_mi
  have hf_dr : f8 dr = .inr (2, [.int 0, .int 0, .int 0, .int 0, .int 0, .int 0, .int 0, .ref xla, .ref xsa, .ref xmi, .ref xda]) := (hfm dr hm_dr ne_dr_me).trans hf_dr
  have hf_xla : f8 xla = .inl (cy 1, 5, .inl (fun _ => 0)) := (hfm xla hm_xla ne_xla_me).trans hf_xla
  have hf_xsa : f8 xsa = .inl (cy 1, 4, .inl (fun _ => 0)) := (hfm xsa hm_xsa ne_xsa_me).trans hf_xsa
  have hf_xmi : f8 xmi = .inl (cy 1, 36, .inl (fun _ => 0)) := (hfm xmi hm_xmi ne_xmi_me).trans hf_xmi
  have hf_rd : f8 rd = .inr (5, [.int 0, .int (-1), .ref tp, .ref dr, .int 0, .int 0, .int 0, .int 0, .int 0]) := (hfm rd hm_rd ne_rd_me).trans hf_rd
  have hf_im : f8 im = .inl (cy 5, 3, .inr (.inr (.inr (.inr gi)))) := (hfm im hm_im ne_im_me).trans hf_im
  have hf_i0 : f8 i0 = .inr (2, [.int 0, .int 0, .int 0, .int 0, .int 0, .int 0, .int 0, .ref la0, .ref sa0, .ref mi0, .ref da0]) := (hfm i0 hm_i0 ne_i0_me).trans hf_i0
  have hf_la0 : f8 la0 = .inl (cy 1, 5, .inl (fun _ => 0)) := (hfm la0 hm_la0 ne_la0_me).trans hf_la0
  have hf_sa0 : f8 sa0 = .inl (cy 1, 4, .inl (fun _ => 0)) := (hfm sa0 hm_sa0 ne_sa0_me).trans hf_sa0
  have hf_mi0 : f8 mi0 = .inl (cy 1, 36, .inl (fun _ => 0)) := (hfm mi0 hm_mi0 ne_mi0_me).trans hf_mi0
  have hf_i1 : f8 i1 = .inr (2, [.int 0, .int 0, .int 0, .int 0, .int 0, .int 0, .int 0, .ref la1, .ref sa1, .ref mi1, .ref da1]) := (hfm i1 hm_i1 ne_i1_me).trans hf_i1
  have hf_la1 : f8 la1 = .inl (cy 1, 5, .inl (fun _ => 0)) := (hfm la1 hm_la1 ne_la1_me).trans hf_la1
  have hf_sa1 : f8 sa1 = .inl (cy 1, 4, .inl (fun _ => 0)) := (hfm sa1 hm_sa1 ne_sa1_me).trans hf_sa1
  have hf_mi1 : f8 mi1 = .inl (cy 1, 36, .inl (fun _ => 0)) := (hfm mi1 hm_mi1 ne_mi1_me).trans hf_mi1
  have hf_i2 : f8 i2 = .inr (2, [.int 0, .int 0, .int 0, .int 0, .int 0, .int 0, .int 0, .ref la2, .ref sa2, .ref mi2, .ref da2]) := (hfm i2 hm_i2 ne_i2_me).trans hf_i2
  have hf_la2 : f8 la2 = .inl (cy 1, 5, .inl (fun _ => 0)) := (hfm la2 hm_la2 ne_la2_me).trans hf_la2
  have hf_sa2 : f8 sa2 = .inl (cy 1, 4, .inl (fun _ => 0)) := (hfm sa2 hm_sa2 ne_sa2_me).trans hf_sa2
  have hf_mi2 : f8 mi2 = .inl (cy 1, 36, .inl (fun _ => 0)) := (hfm mi2 hm_mi2 ne_mi2_me).trans hf_mi2
  have hf_kp : f8 kp = .inl (cy 3, 3, .inl (fun _ => 0)) := (hfm kp hm_kp ne_kp_me).trans hf_kp
  have hf_sl : f8 sl = .inr (6, [.ref nu, .ref wi, .ref si]) := (hfm sl hm_sl ne_sl_me).trans hf_sl
  have hf_nu : f8 nu = .inl (cy 6, 4, .inr (.inr (.inr (.inr gn)))) := (hfm nu hm_nu ne_nu_me).trans hf_nu
  have hf_r0 : f8 r0 = .inl (cy 2, 60, .inr (.inl (fun _ => 0))) := (hfm r0 hm_r0 ne_r0_me).trans hf_r0
  have hf_r1 : f8 r1 = .inl (cy 2, 60, .inr (.inl (fun _ => 0))) := (hfm r1 hm_r1 ne_r1_me).trans hf_r1
  have hf_r2 : f8 r2 = .inl (cy 2, 60, .inr (.inl (fun _ => 0))) := (hfm r2 hm_r2 ne_r2_me).trans hf_r2
  have hf_r3 : f8 r3 = .inl (cy 2, 60, .inr (.inl (fun _ => 0))) := (hfm r3 hm_r3 ne_r3_me).trans hf_r3
  have hf_wi : f8 wi = .inl (cy 1, 4, .inl (fun _ => 0)) := (hfm wi hm_wi ne_wi_me).trans hf_wi
  have hf_si : f8 si = .inl (cy 1, 4, .inl gs) := (hfm si hm_si ne_si_me).trans hf_si
  have hm_hs : hs ∈ L7 := hsb _ hm_hs
  have hm_tp : tp ∈ L7 := hsb _ hm_tp
  have hm_ba : ba ∈ L7 := hsb _ hm_ba
  have hm_mo : mo ∈ L7 := hsb _ hm_mo
  have hm_la : la ∈ L7 := hsb _ hm_la
  have hm_sa : sa ∈ L7 := hsb _ hm_sa
  have hm_mi : mi ∈ L7 := hsb _ hm_mi
  have hm_dr : dr ∈ L7 := hsb _ hm_dr
  have hm_xla : xla ∈ L7 := hsb _ hm_xla
  have hm_xsa : xsa ∈ L7 := hsb _ hm_xsa
  have hm_xmi : xmi ∈ L7 := hsb _ hm_xmi
  have hm_rd : rd ∈ L7 := hsb _ hm_rd
  have hm_im : im ∈ L7 := hsb _ hm_im
  have hm_i0 : i0 ∈ L7 := hsb _ hm_i0
  have hm_la0 : la0 ∈ L7 := hsb _ hm_la0
  have hm_sa0 : sa0 ∈ L7 := hsb _ hm_sa0
  have hm_mi0 : mi0 ∈ L7 := hsb _ hm_mi0
  have hm_i1 : i1 ∈ L7 := hsb _ hm_i1
  have hm_la1 : la1 ∈ L7 := hsb _ hm_la1
  have hm_sa1 : sa1 ∈ L7 := hsb _ hm_sa1
  have hm_mi1 : mi1 ∈ L7 := hsb _ hm_mi1
  have hm_i2 : i2 ∈ L7 := hsb _ hm_i2
  have hm_la2 : la2 ∈ L7 := hsb _ hm_la2
  have hm_sa2 : sa2 ∈ L7 := hsb _ hm_sa2
  have hm_mi2 : mi2 ∈ L7 := hsb _ hm_mi2
  have hm_kp : kp ∈ L7 := hsb _ hm_kp
  have hm_sl : sl ∈ L7 := hsb _ hm_sl
  have hm_nu : nu ∈ L7 := hsb _ hm_nu
  have hm_r0 : r0 ∈ L7 := hsb _ hm_r0
  have hm_r1 : r1 ∈ L7 := hsb _ hm_r1
  have hm_r2 : r2 ∈ L7 := hsb _ hm_r2
  have hm_r3 : r3 ∈ L7 := hsb _ hm_r3
  have hm_wi : wi ∈ L7 := hsb _ hm_wi
  have hm_si : si ∈ L7 := hsb _ hm_si
  have hm_me : me ∈ L7 := hsb _ hm_me
  have hf_me : f8 me = .inr (10, [.int 0, .ref mw, .ref mn, .ref mc, .ref mv, .ref mt, .int 0, .int 0, .int 0, .int 0, .int 0, .long 0, .int 0, .int 0, .int 0, .int (-1), .ref ml, .ref mh, .ref mj, .ref ms, .ref mg, .ref md, .int 0, .ref mk, .int (-1), .int 0, .long 0, .int 0, .int 0, .ref z29, .int 0, .ref z31, .ref z32, .ref z33, .ref z34, .ref z35, .int 0, .ref z37, .int 0, .ref z39, .int 0, .int 0, .int 0, .ref z43, .ref z44, .ref z45, .ref z46, .ref z47, .int 0, .ref z49, .ref z50, .ref z51, .int 0, .int 0]) := ha_0
  have hf_mw : f8 mw = .inl (cy 1, 4, .inl gw) := hf_mw
  have hm_mw : mw ∈ L7 := hm_mw
  have hf_mn : f8 mn = .inl (cy 1, 4, .inl (fun _ => 0)) := hf_mn
  have hm_mn : mn ∈ L7 := hm_mn
  have hf_mc : f8 mc = .inl (cy 2, 240, .inr (.inl (fun _ => 0))) := hf_mc
  have hm_mc : mc ∈ L7 := hm_mc
  have hf_mt : f8 mt = .inl (cy 0, 1600, .inl (fun _ => 0)) := hf_mt
  have hm_mt : mt ∈ L7 := hm_mt
  have hf_ml : f8 ml = .inl (cy 1, 5, .inl (fun _ => 0)) := hf_ml
  have hm_ml : ml ∈ L7 := hm_ml
  have hf_mh : f8 mh = .inl (cy 1, 30, .inl (fun _ => 0)) := hf_mh
  have hm_mh : mh ∈ L7 := hm_mh
  have hf_mj : f8 mj = .inl (cy 1, 25, .inl (fun _ => 0)) := hf_mj
  have hm_mj : mj ∈ L7 := hm_mj
  have hf_ms : f8 ms = .inl (cy 1, 20, .inl (fun _ => 0)) := hf_ms
  have hm_ms : ms ∈ L7 := hm_ms
  have hf_mg : f8 mg = .inl (cy 1, 180, .inl (fun _ => 0)) := hf_mg
  have hm_mg : mg ∈ L7 := hm_mg
  have hf_md : f8 md = .inl (cy 1, 520, .inl (fun _ => 0)) := hf_md
  have hm_md : md ∈ L7 := hm_md
  have hf_mk : f8 mk = .inl (cy 3, 3, .inl (fun _ => 0)) := hf_mk
  have hm_mk : mk ∈ L7 := hm_mk
  have hpM := hp
  have ne_mw_mn : mw ≠ mn := hpM.2
  refine lv_astore_n (lv' := [(2, .ref me), (1, .ref hs), (0, .ref b)]) hx hb dL_law_15 rfl hl (by decide) rfl (fun ls hl => ?_)
  refine lv_iconst (v := 0) hx hb dL_law_16 (by decide) ?_
  refine lv_istore_n (lv' := [(3, .int 0), (2, .ref me), (1, .ref hs), (0, .ref b)]) hx hb dL_law_17 rfl hl (by decide) rfl (fun ls hl => ?_)
  refine lv_iload_n hx hb dL_law_18 rfl (lv_at hl 0 rfl) ?_
  refine lv_aload_n hx hb dL_law_19 rfl (lv_at hl 3 rfl) ?_
  refine va_slen hx hb hX hbl hbA hw.2.2 dL_law_20 ?_
  refine lv_topi (fun ln e_ln => ?_)
  have i_ln : ln.toInt = L := by rw [e_ln]; exact nI_toInt (by omega)
  refine lv_bipush (v := 6) hx hb dL_law_21 (by decide) ?_
  refine lv_isub hx hb dL_law_23 ?_
  refine lv_topi (fun w9 e_w9 => ?_)
  have i_w9 : w9.toInt = ((L : Int) - 6) := z_subI e_w9 i_ln (show (6 : Int32).toInt = 6 by decide) (by omega)
  refine z_icmp_gt (tgt := 1621) hx hb (show (0 : Int32).toInt = 0 by decide) i_w9 dL_law_24 (by decide) (fun c10 => ?_) (fun c10 => ?_)
  · skip
    refine lv_iconst (v := 1) hx hb dL_law_1621 (by decide) ?_
    refine va_forget (fun q hq => hw.2.2.2.2 q hq) ?_
    refine W.widen (k := 600000) (n := 7302250) (by decide) (by decide) ?_
    exact lw_ret hx hb hr hlocks dL_law_1622
  · skip
    refine lv_aload_n hx hb dL_law_27 rfl (lv_at hl 3 rfl) ?_
    refine lv_iload_n hx hb dL_law_28 rfl (lv_at hl 0 rfl) ?_
    refine va_sld hx hb hX hbl hbA hw.2.2 (z_ix (show (0 : Int32).toInt = 0 by decide) (by omega)) dL_law_29 ?_
    refine z_lit (y := x0) ex0.symm ?_
    refine lv_bipush (v := 63) hx hb dL_law_30 (by decide) ?_
    refine lv_iand hx hb dL_law_32 ?_
    refine lv_topi (fun w11 e_w11 => ?_)
    by_cases c12 : w11.toInt < 0 ∨ 40 < w11.toInt
    · skip
      refine lv_tableOut (tgt := 1615) hx hb dL_law_33 (by rw [show w11.toInt = w11.toInt from rfl]; exact c12) (by decide) ?_
      refine lv_iinc (v := 6) (lv' := [(3, .int 6), (2, .ref me), (1, .ref hs), (0, .ref b)]) hx hb dL_law_1615 hl (k := 0) rfl (by decide) (by decide) rfl (fun ls hl => ?_)
      refine lv_goto (tgt := 18) hx hb dL_law_1618 (by decide) ?_
      refine lv_iload_n hx hb dL_law_18 rfl (lv_at hl 0 rfl) ?_
      refine lv_aload_n hx hb dL_law_19 rfl (lv_at hl 3 rfl) ?_
      refine va_slen hx hb hX hbl hbA hw.2.2 dL_law_20 ?_
      refine lv_topi (fun ln e_ln => ?_)
      have i_ln : ln.toInt = L := by rw [e_ln]; exact nI_toInt (by omega)
      refine lv_bipush (v := 6) hx hb dL_law_21 (by decide) ?_
      refine lv_isub hx hb dL_law_23 ?_
      refine lv_topi (fun w13 e_w13 => ?_)
      have i_w13 : w13.toInt = ((L : Int) - 6) := z_subI e_w13 i_ln (show (6 : Int32).toInt = 6 by decide) (by omega)
      refine z_icmp_gt (tgt := 1621) hx hb (show (6 : Int32).toInt = 6 by decide) i_w13 dL_law_24 (by decide) (fun c14 => ?_) (fun c14 => False.elim (by omega))
      refine lv_iconst (v := 1) hx hb dL_law_1621 (by decide) ?_
      refine va_forget (fun q hq => hw.2.2.2.2 q hq) ?_
      refine W.widen (k := 600000) (n := 7302250) (by decide) (by decide) ?_
      exact lw_ret hx hb hr hlocks dL_law_1622
    · skip
      have c12s : w11.toInt = 0 ∨ w11.toInt = 1 ∨ w11.toInt = 2 ∨ w11.toInt = 3 ∨ w11.toInt = 4 ∨ w11.toInt = 5 ∨ w11.toInt = 6 ∨ w11.toInt = 7 ∨ w11.toInt = 8 ∨ w11.toInt = 9 ∨ w11.toInt = 10 ∨ w11.toInt = 11 ∨ w11.toInt = 12 ∨ w11.toInt = 13 ∨ w11.toInt = 14 ∨ w11.toInt = 15 ∨ w11.toInt = 16 ∨ w11.toInt = 17 ∨ w11.toInt = 18 ∨ w11.toInt = 19 ∨ w11.toInt = 20 ∨ w11.toInt = 21 ∨ w11.toInt = 22 ∨ w11.toInt = 23 ∨ w11.toInt = 24 ∨ w11.toInt = 25 ∨ w11.toInt = 26 ∨ w11.toInt = 27 ∨ w11.toInt = 28 ∨ w11.toInt = 29 ∨ w11.toInt = 30 ∨ w11.toInt = 31 ∨ w11.toInt = 32 ∨ w11.toInt = 33 ∨ w11.toInt = 34 ∨ w11.toInt = 35 ∨ w11.toInt = 36 ∨ w11.toInt = 37 ∨ w11.toInt = 38 ∨ w11.toInt = 39 ∨ w11.toInt = 40 := by omega
      rcases c12s with c12 | c12 | c12 | c12 | c12 | c12 | c12 | c12 | c12 | c12 | c12 | c12 | c12 | c12 | c12 | c12 | c12 | c12 | c12 | c12 | c12 | c12 | c12 | c12 | c12 | c12 | c12 | c12 | c12 | c12 | c12 | c12 | c12 | c12 | c12 | c12 | c12 | c12 | c12 | c12 | c12
      · skip
        refine lv_tableIn (off := 179) (tgt := 212) hx hb dL_law_33 (by omega) (by omega) (by rw [show w11.toInt = 0 from c12]; rfl) (by decide) ?_
        refine lv_aload_n hx hb dL_law_212 rfl (lv_at hl 2 rfl) ?_
        refine lv_aload_n hx hb dL_law_213 rfl (lv_at hl 3 rfl) ?_
        refine lv_iload_n hx hb dL_law_214 rfl (lv_at hl 0 rfl) ?_
        refine lv_iconst (v := 1) hx hb dL_law_215 (by decide) ?_
        refine lv_iadd hx hb dL_law_216 ?_
        refine z_lit (y := 1) (by decide) ?_
        refine va_sld hx hb hX hbl hbA hw.2.2 (z_ix (show (1 : Int32).toInt = 1 by decide) (by omega)) dL_law_217 ?_
        refine z_lit (y := x1) ex1.symm ?_
        refine lv_aload_n hx hb dL_law_218 rfl (lv_at hl 3 rfl) ?_
        refine lv_iload_n hx hb dL_law_219 rfl (lv_at hl 0 rfl) ?_
        refine lv_iconst (v := 2) hx hb dL_law_220 (by decide) ?_
        refine lv_iadd hx hb dL_law_221 ?_
        refine z_lit (y := 2) (by decide) ?_
        refine va_sld hx hb hX hbl hbA hw.2.2 (z_ix (show (2 : Int32).toInt = 2 by decide) (by omega)) dL_law_222 ?_
        refine z_lit (y := x2) ex2.symm ?_
        refine lv_aload_n hx hb dL_law_223 rfl (lv_at hl 3 rfl) ?_
        refine lv_iload_n hx hb dL_law_224 rfl (lv_at hl 0 rfl) ?_
        refine lv_iconst (v := 3) hx hb dL_law_225 (by decide) ?_
        refine lv_iadd hx hb dL_law_226 ?_
        refine z_lit (y := 3) (by decide) ?_
        refine va_sld hx hb hX hbl hbA hw.2.2 (z_ix (show (3 : Int32).toInt = 3 by decide) (by omega)) dL_law_227 ?_
        refine z_lit (y := x3) ex3.symm ?_
        refine lv_aload_n hx hb dL_law_228 rfl (lv_at hl 3 rfl) ?_
        refine lv_iload_n hx hb dL_law_229 rfl (lv_at hl 0 rfl) ?_
        refine lv_iconst (v := 4) hx hb dL_law_230 (by decide) ?_
        refine lv_iadd hx hb dL_law_231 ?_
        refine z_lit (y := 4) (by decide) ?_
        refine va_sld hx hb hX hbl hbA hw.2.2 (z_ix (show (4 : Int32).toInt = 4 by decide) (by omega)) dL_law_232 ?_
        refine z_lit (y := x4) ex4.symm ?_
        refine lv_aload_n hx hb dL_law_233 rfl (lv_at hl 3 rfl) ?_
        refine lv_iload_n hx hb dL_law_234 rfl (lv_at hl 0 rfl) ?_
        refine lv_iconst (v := 5) hx hb dL_law_235 (by decide) ?_
        refine lv_iadd hx hb dL_law_236 ?_
        refine z_lit (y := 5) (by decide) ?_
        refine va_sld hx hb hX hbl hbA hw.2.2 (z_ix (show (5 : Int32).toInt = 5 by decide) (by omega)) dL_law_237 ?_
        refine z_lit (y := x5) ex5.symm ?_
        refine z_calliV (cells := 164) (slots := 16321) (b := hs) (As := [.int x1, .int x2, .int x3, .int x4, .int x5]) (rest := []) (ci := 9) (q0 := (RX9, TX9, 11)) ⟨hx, hb, hml, hown, hT⟩ (c_X9_feed l hm_hs hm_tp hm_ba hf_hs hf_tp hf_ba) (cwV 5 hT (z_goodV (fun _ h => h) kw_511 kw_512 kw_513 kw_85 kw_514) rfl rfl rfl (by decide +kernel) ⟨by decide, by decide⟩) z_mv hKK hK hw hA hm_hs hf_hs rfl rfl rfl hl.1 rfl (Nat.le_of_ble_eq_true rfl) dL_law_238 ⟨by decide, by decide⟩ (fun r15 u H locs hp hw => ?_)
        obtain ⟨L16, f17⟩ := u
        obtain ⟨hsb, hfm, hp⟩ := hp
        have hw : z_H D vwCl ((fun q : Nat => s.heap.size ≤ q)) s.heap L16 f17 H locs := hw
        have hf_hs : f17 hs = .inr (9, [.ref tp, .ref rd, .ref mo, .ref dr, .ref im, .ref kp, .ref sl, .ref wk, .ref pl, .ref ex, .ref mx]) := (hfm hs hm_hs ne_hs_tp ne_hs_ba).trans hf_hs
        have hf_me : f17 me = .inr (10, [.int 0, .ref mw, .ref mn, .ref mc, .ref mv, .ref mt, .int 0, .int 0, .int 0, .int 0, .int 0, .long 0, .int 0, .int 0, .int 0, .int (-1), .ref ml, .ref mh, .ref mj, .ref ms, .ref mg, .ref md, .int 0, .ref mk, .int (-1), .int 0, .long 0, .int 0, .int 0, .ref z29, .int 0, .ref z31, .ref z32, .ref z33, .ref z34, .ref z35, .int 0, .ref z37, .int 0, .ref z39, .int 0, .int 0, .int 0, .ref z43, .ref z44, .ref z45, .ref z46, .ref z47, .int 0, .ref z49, .ref z50, .ref z51, .int 0, .int 0]) := (hfm me hm_me (Ne.symm ne_tp_me) (Ne.symm ne_ba_me)).trans hf_me
        have hf_mt : f17 mt = .inl (cy 0, 1600, .inl (fun _ => 0)) := (hfm mt hm_mt (Ne.symm ne_tp_mt) (Ne.symm ne_ba_mt)).trans hf_mt
        have hm_hs : hs ∈ L16 := hsb _ hm_hs
        have hm_tp : tp ∈ L16 := hsb _ hm_tp
        have hm_ba : ba ∈ L16 := hsb _ hm_ba
        have hm_me : me ∈ L16 := hsb _ hm_me
        have hm_mt : mt ∈ L16 := hsb _ hm_mt
        have hpA := hp
        refine lv_aload_n hx hb dL_law_241 rfl (lv_at hl 1 rfl) ?_
        refine lv_aload_n hx hb dL_law_242 rfl (lv_at hl 3 rfl) ?_
        refine lv_iload_n hx hb dL_law_243 rfl (lv_at hl 0 rfl) ?_
        refine lv_iconst (v := 1) hx hb dL_law_244 (by decide) ?_
        refine lv_iadd hx hb dL_law_245 ?_
        refine z_lit (y := 1) (by decide) ?_
        refine va_sld hx hb hX hbl hbA hw.2.2 (z_ix (show (1 : Int32).toInt = 1 by decide) (by omega)) dL_law_246 ?_
        refine z_lit (y := x1) ex1.symm ?_
        refine lv_aload_n hx hb dL_law_247 rfl (lv_at hl 3 rfl) ?_
        refine lv_iload_n hx hb dL_law_248 rfl (lv_at hl 0 rfl) ?_
        refine lv_iconst (v := 2) hx hb dL_law_249 (by decide) ?_
        refine lv_iadd hx hb dL_law_250 ?_
        refine z_lit (y := 2) (by decide) ?_
        refine va_sld hx hb hX hbl hbA hw.2.2 (z_ix (show (2 : Int32).toInt = 2 by decide) (by omega)) dL_law_251 ?_
        refine z_lit (y := x2) ex2.symm ?_
        refine lv_aload_n hx hb dL_law_252 rfl (lv_at hl 3 rfl) ?_
        refine lv_iload_n hx hb dL_law_253 rfl (lv_at hl 0 rfl) ?_
        refine lv_iconst (v := 3) hx hb dL_law_254 (by decide) ?_
        refine lv_iadd hx hb dL_law_255 ?_
        refine z_lit (y := 3) (by decide) ?_
        refine va_sld hx hb hX hbl hbA hw.2.2 (z_ix (show (3 : Int32).toInt = 3 by decide) (by omega)) dL_law_256 ?_
        refine z_lit (y := x3) ex3.symm ?_
        refine lv_aload_n hx hb dL_law_257 rfl (lv_at hl 3 rfl) ?_
        refine lv_iload_n hx hb dL_law_258 rfl (lv_at hl 0 rfl) ?_
        refine lv_iconst (v := 4) hx hb dL_law_259 (by decide) ?_
        refine lv_iadd hx hb dL_law_260 ?_
        refine z_lit (y := 4) (by decide) ?_
        refine va_sld hx hb hX hbl hbA hw.2.2 (z_ix (show (4 : Int32).toInt = 4 by decide) (by omega)) dL_law_261 ?_
        refine z_lit (y := x4) ex4.symm ?_
        refine lv_aload_n hx hb dL_law_262 rfl (lv_at hl 3 rfl) ?_
        refine lv_iload_n hx hb dL_law_263 rfl (lv_at hl 0 rfl) ?_
        refine lv_iconst (v := 5) hx hb dL_law_264 (by decide) ?_
        refine lv_iadd hx hb dL_law_265 ?_
        refine z_lit (y := 5) (by decide) ?_
        refine va_sld hx hb hX hbl hbA hw.2.2 (z_ix (show (5 : Int32).toInt = 5 by decide) (by omega)) dL_law_266 ?_
        refine z_lit (y := x5) ex5.symm ?_
        refine z_calliV (cells := 164) (slots := 16321) (b := me) (As := [.int x1, .int x2, .int x3, .int x4, .int x5]) (rest := [.int r15]) (ci := 10) (q0 := (RX10, TX10, 54)) ⟨hx, hb, hml, hown, hT⟩ (c_X10_feed l hm_me hm_mt hf_me hf_mt) (cwV 5 hT (z_goodV (fun _ h => h) kw_1353 kw_1354 kw_1355 kw_96 kw_1356) rfl rfl rfl (by decide +kernel) ⟨by decide, by decide⟩) z_mv hKK hK hw hA hm_me hf_me rfl rfl rfl hl.1 rfl (Nat.le_of_ble_eq_true rfl) dL_law_267 ⟨by decide, by decide⟩ (fun r18 u H locs hp hw => ?_)
        obtain ⟨L19, f20⟩ := u
        obtain ⟨hsb, hfm, hp⟩ := hp
        have hw : z_H D vwCl ((fun q : Nat => s.heap.size ≤ q)) s.heap L19 f20 H locs := hw
        have hf_hs : f20 hs = .inr (9, [.ref tp, .ref rd, .ref mo, .ref dr, .ref im, .ref kp, .ref sl, .ref wk, .ref pl, .ref ex, .ref mx]) := (hfm hs hm_hs ne_hs_me ne_hs_mt).trans hf_hs
        have hm_hs : hs ∈ L19 := hsb _ hm_hs
        have hm_me : me ∈ L19 := hsb _ hm_me
        have hm_mt : mt ∈ L19 := hsb _ hm_mt
        have hpB := hp
        refine z_icmp_eq (tgt := 1615) hx hb rfl rfl dL_law_270 (by decide) (fun c21 => ?_) (fun c21 => False.elim (by omega))
        refine lv_iinc (v := 6) (lv' := [(3, .int 6), (2, .ref me), (1, .ref hs), (0, .ref b)]) hx hb dL_law_1615 hl (k := 0) rfl (by decide) (by decide) rfl (fun ls hl => ?_)
        refine lv_goto (tgt := 18) hx hb dL_law_1618 (by decide) ?_
        refine lv_iload_n hx hb dL_law_18 rfl (lv_at hl 0 rfl) ?_
        refine lv_aload_n hx hb dL_law_19 rfl (lv_at hl 3 rfl) ?_
        refine va_slen hx hb hX hbl hbA hw.2.2 dL_law_20 ?_
        refine lv_topi (fun ln e_ln => ?_)
        have i_ln : ln.toInt = L := by rw [e_ln]; exact nI_toInt (by omega)
        refine lv_bipush (v := 6) hx hb dL_law_21 (by decide) ?_
        refine lv_isub hx hb dL_law_23 ?_
        refine lv_topi (fun w22 e_w22 => ?_)
        have i_w22 : w22.toInt = ((L : Int) - 6) := z_subI e_w22 i_ln (show (6 : Int32).toInt = 6 by decide) (by omega)
        refine z_icmp_gt (tgt := 1621) hx hb (show (6 : Int32).toInt = 6 by decide) i_w22 dL_law_24 (by decide) (fun c23 => ?_) (fun c23 => False.elim (by omega))
        refine lv_iconst (v := 1) hx hb dL_law_1621 (by decide) ?_
        refine va_forget (fun q hq => hw.2.2.2.2 q hq) ?_
        refine W.widen (k := 600000) (n := 7302250) (by decide) (by decide) ?_
        exact lw_ret hx hb hr hlocks dL_law_1622
      · skip
        refine lv_tableIn (off := 242) (tgt := 275) hx hb dL_law_33 (by omega) (by omega) (by rw [show w11.toInt = 1 from c12]; rfl) (by decide) ?_
        refine lv_aload_n hx hb dL_law_275 rfl (lv_at hl 2 rfl) ?_
        refine lv_aload_n hx hb dL_law_276 rfl (lv_at hl 3 rfl) ?_
        refine lv_iload_n hx hb dL_law_277 rfl (lv_at hl 0 rfl) ?_
        refine lv_iconst (v := 1) hx hb dL_law_278 (by decide) ?_
        refine lv_iadd hx hb dL_law_279 ?_
        refine z_lit (y := 1) (by decide) ?_
        refine va_sld hx hb hX hbl hbA hw.2.2 (z_ix (show (1 : Int32).toInt = 1 by decide) (by omega)) dL_law_280 ?_
        refine z_lit (y := x1) ex1.symm ?_
        refine z_calliV (cells := 164) (slots := 16321) (b := hs) (As := [.int x1]) (rest := []) (ci := 9) (q0 := (RX9, TX9, 11)) ⟨hx, hb, hml, hown, hT⟩ (c_X9_end l hm_hs hm_tp hf_hs hf_tp) (cwV 1 hT (z_goodV (fun _ h => h) kw_519 kw_520 kw_521 kw_85 kw_522) rfl rfl rfl (by decide +kernel) ⟨by decide, by decide⟩) z_mv hKK hK hw hA hm_hs hf_hs rfl rfl rfl hl.1 rfl (Nat.le_of_ble_eq_true rfl) dL_law_281 ⟨by decide, by decide⟩ (fun r24 u H locs hp hw => ?_)
        obtain ⟨L25, f26⟩ := u
        obtain ⟨hsb, hfm, hp⟩ := hp
        have hw : z_H D vwCl ((fun q : Nat => s.heap.size ≤ q)) s.heap L25 f26 H locs := hw
        have hf_hs : f26 hs = .inr (9, [.ref tp, .ref rd, .ref mo, .ref dr, .ref im, .ref kp, .ref sl, .ref wk, .ref pl, .ref ex, .ref mx]) := (hfm hs hm_hs ne_hs_tp).trans hf_hs
        have hf_me : f26 me = .inr (10, [.int 0, .ref mw, .ref mn, .ref mc, .ref mv, .ref mt, .int 0, .int 0, .int 0, .int 0, .int 0, .long 0, .int 0, .int 0, .int 0, .int (-1), .ref ml, .ref mh, .ref mj, .ref ms, .ref mg, .ref md, .int 0, .ref mk, .int (-1), .int 0, .long 0, .int 0, .int 0, .ref z29, .int 0, .ref z31, .ref z32, .ref z33, .ref z34, .ref z35, .int 0, .ref z37, .int 0, .ref z39, .int 0, .int 0, .int 0, .ref z43, .ref z44, .ref z45, .ref z46, .ref z47, .int 0, .ref z49, .ref z50, .ref z51, .int 0, .int 0]) := (hfm me hm_me (Ne.symm ne_tp_me)).trans hf_me
        have hm_hs : hs ∈ L25 := hsb _ hm_hs
        have hm_tp : tp ∈ L25 := hsb _ hm_tp
        have hm_me : me ∈ L25 := hsb _ hm_me
        have hpA := hp
        refine lv_aload_n hx hb dL_law_284 rfl (lv_at hl 1 rfl) ?_
        refine lv_aload_n hx hb dL_law_285 rfl (lv_at hl 3 rfl) ?_
        refine lv_iload_n hx hb dL_law_286 rfl (lv_at hl 0 rfl) ?_
        refine lv_iconst (v := 1) hx hb dL_law_287 (by decide) ?_
        refine lv_iadd hx hb dL_law_288 ?_
        refine z_lit (y := 1) (by decide) ?_
        refine va_sld hx hb hX hbl hbA hw.2.2 (z_ix (show (1 : Int32).toInt = 1 by decide) (by omega)) dL_law_289 ?_
        refine z_lit (y := x1) ex1.symm ?_
        refine z_calliV (cells := 164) (slots := 16321) (b := me) (As := [.int x1]) (rest := [.int r24]) (ci := 10) (q0 := (RX10, TX10, 54)) ⟨hx, hb, hml, hown, hT⟩ (c_X10_end l hm_me hf_me) (cwV 1 hT (z_goodV (fun _ h => h) kw_1361 kw_1362 kw_1363 kw_96 kw_1364) rfl rfl rfl (by decide +kernel) ⟨by decide, by decide⟩) z_mv hKK hK hw hA hm_me hf_me rfl rfl rfl hl.1 rfl (Nat.le_of_ble_eq_true rfl) dL_law_290 ⟨by decide, by decide⟩ (fun r27 u H locs hp hw => ?_)
        obtain ⟨L28, f29⟩ := u
        obtain ⟨hsb, hfm, hp⟩ := hp
        have hw : z_H D vwCl ((fun q : Nat => s.heap.size ≤ q)) s.heap L28 f29 H locs := hw
        have hf_hs : f29 hs = .inr (9, [.ref tp, .ref rd, .ref mo, .ref dr, .ref im, .ref kp, .ref sl, .ref wk, .ref pl, .ref ex, .ref mx]) := (hfm hs hm_hs ne_hs_me).trans hf_hs
        have hm_hs : hs ∈ L28 := hsb _ hm_hs
        have hm_me : me ∈ L28 := hsb _ hm_me
        have hpB := hp
        refine z_icmp_eq (tgt := 1615) hx hb rfl rfl dL_law_293 (by decide) (fun c30 => ?_) (fun c30 => False.elim (by omega))
        refine lv_iinc (v := 6) (lv' := [(3, .int 6), (2, .ref me), (1, .ref hs), (0, .ref b)]) hx hb dL_law_1615 hl (k := 0) rfl (by decide) (by decide) rfl (fun ls hl => ?_)
        refine lv_goto (tgt := 18) hx hb dL_law_1618 (by decide) ?_
        refine lv_iload_n hx hb dL_law_18 rfl (lv_at hl 0 rfl) ?_
        refine lv_aload_n hx hb dL_law_19 rfl (lv_at hl 3 rfl) ?_
        refine va_slen hx hb hX hbl hbA hw.2.2 dL_law_20 ?_
        refine lv_topi (fun ln e_ln => ?_)
        have i_ln : ln.toInt = L := by rw [e_ln]; exact nI_toInt (by omega)
        refine lv_bipush (v := 6) hx hb dL_law_21 (by decide) ?_
        refine lv_isub hx hb dL_law_23 ?_
        refine lv_topi (fun w31 e_w31 => ?_)
        have i_w31 : w31.toInt = ((L : Int) - 6) := z_subI e_w31 i_ln (show (6 : Int32).toInt = 6 by decide) (by omega)
        refine z_icmp_gt (tgt := 1621) hx hb (show (6 : Int32).toInt = 6 by decide) i_w31 dL_law_24 (by decide) (fun c32 => ?_) (fun c32 => False.elim (by omega))
        refine lv_iconst (v := 1) hx hb dL_law_1621 (by decide) ?_
        refine va_forget (fun q hq => hw.2.2.2.2 q hq) ?_
        refine W.widen (k := 600000) (n := 7302250) (by decide) (by decide) ?_
        exact lw_ret hx hb hr hlocks dL_law_1622
      · skip
        refine lv_tableIn (off := 265) (tgt := 298) hx hb dL_law_33 (by omega) (by omega) (by rw [show w11.toInt = 2 from c12]; rfl) (by decide) ?_
        refine lv_aload_n hx hb dL_law_298 rfl (lv_at hl 2 rfl) ?_
        refine z_calliV (cells := 164) (slots := 16321) (b := hs) (As := []) (rest := []) (ci := 9) (q0 := (RX9, TX9, 11)) ⟨hx, hb, hml, hown, hT⟩ (c_X9_moor l hm_hs hm_tp hm_rd hm_mo hm_dr hm_la hm_sa hm_mi hm_xla hm_xsa hm_xmi hf_hs hf_tp hf_rd hf_mo hf_dr hf_la hf_sa hf_mi hf_xla hf_xsa hf_xmi ne_mo_dr ne_la_xla ne_sa_xsa ne_mi_xmi) (cwV 0 hT (z_goodV (fun _ h => h) kw_523 kw_524 kw_525 kw_85 kw_526) rfl rfl rfl (by decide +kernel) ⟨by decide, by decide⟩) z_mv hKK hK hw hA hm_hs hf_hs rfl rfl rfl hl.1 rfl (Nat.le_of_ble_eq_true rfl) dL_law_299 ⟨by decide, by decide⟩ (fun r33 u H locs hp hw => ?_)
        obtain ⟨L34, f35⟩ := u
        obtain ⟨hsb, hfm, hp⟩ := hp
        have hw : z_H D vwCl ((fun q : Nat => s.heap.size ≤ q)) s.heap L34 f35 H locs := hw
        have hf_hs : f35 hs = .inr (9, [.ref tp, .ref rd, .ref mo, .ref dr, .ref im, .ref kp, .ref sl, .ref wk, .ref pl, .ref ex, .ref mx]) := (hfm hs hm_hs ne_hs_rd ne_hs_dr ne_hs_xla ne_hs_xsa ne_hs_xmi ne_hs_tp ne_hs_mo ne_hs_la ne_hs_sa ne_hs_mi).trans hf_hs
        have hf_me : f35 me = .inr (10, [.int 0, .ref mw, .ref mn, .ref mc, .ref mv, .ref mt, .int 0, .int 0, .int 0, .int 0, .int 0, .long 0, .int 0, .int 0, .int 0, .int (-1), .ref ml, .ref mh, .ref mj, .ref ms, .ref mg, .ref md, .int 0, .ref mk, .int (-1), .int 0, .long 0, .int 0, .int 0, .ref z29, .int 0, .ref z31, .ref z32, .ref z33, .ref z34, .ref z35, .int 0, .ref z37, .int 0, .ref z39, .int 0, .int 0, .int 0, .ref z43, .ref z44, .ref z45, .ref z46, .ref z47, .int 0, .ref z49, .ref z50, .ref z51, .int 0, .int 0]) := (hfm me hm_me (Ne.symm ne_rd_me) (Ne.symm ne_dr_me) (Ne.symm ne_xla_me) (Ne.symm ne_xsa_me) (Ne.symm ne_xmi_me) (Ne.symm ne_tp_me) (Ne.symm ne_mo_me) (Ne.symm ne_la_me) (Ne.symm ne_sa_me) (Ne.symm ne_mi_me)).trans hf_me
        have hf_ml : f35 ml = .inl (cy 1, 5, .inl (fun _ => 0)) := (hfm ml hm_ml (Ne.symm ne_rd_ml) (Ne.symm ne_dr_ml) (Ne.symm ne_xla_ml) (Ne.symm ne_xsa_ml) (Ne.symm ne_xmi_ml) (Ne.symm ne_tp_ml) (Ne.symm ne_mo_ml) (Ne.symm ne_la_ml) (Ne.symm ne_sa_ml) (Ne.symm ne_mi_ml)).trans hf_ml
        have hf_mh : f35 mh = .inl (cy 1, 30, .inl (fun _ => 0)) := (hfm mh hm_mh (Ne.symm ne_rd_mh) (Ne.symm ne_dr_mh) (Ne.symm ne_xla_mh) (Ne.symm ne_xsa_mh) (Ne.symm ne_xmi_mh) (Ne.symm ne_tp_mh) (Ne.symm ne_mo_mh) (Ne.symm ne_la_mh) (Ne.symm ne_sa_mh) (Ne.symm ne_mi_mh)).trans hf_mh
        have hf_mj : f35 mj = .inl (cy 1, 25, .inl (fun _ => 0)) := (hfm mj hm_mj (Ne.symm ne_rd_mj) (Ne.symm ne_dr_mj) (Ne.symm ne_xla_mj) (Ne.symm ne_xsa_mj) (Ne.symm ne_xmi_mj) (Ne.symm ne_tp_mj) (Ne.symm ne_mo_mj) (Ne.symm ne_la_mj) (Ne.symm ne_sa_mj) (Ne.symm ne_mi_mj)).trans hf_mj
        have hf_ms : f35 ms = .inl (cy 1, 20, .inl (fun _ => 0)) := (hfm ms hm_ms (Ne.symm ne_rd_ms) (Ne.symm ne_dr_ms) (Ne.symm ne_xla_ms) (Ne.symm ne_xsa_ms) (Ne.symm ne_xmi_ms) (Ne.symm ne_tp_ms) (Ne.symm ne_mo_ms) (Ne.symm ne_la_ms) (Ne.symm ne_sa_ms) (Ne.symm ne_mi_ms)).trans hf_ms
        have hf_mg : f35 mg = .inl (cy 1, 180, .inl (fun _ => 0)) := (hfm mg hm_mg (Ne.symm ne_rd_mg) (Ne.symm ne_dr_mg) (Ne.symm ne_xla_mg) (Ne.symm ne_xsa_mg) (Ne.symm ne_xmi_mg) (Ne.symm ne_tp_mg) (Ne.symm ne_mo_mg) (Ne.symm ne_la_mg) (Ne.symm ne_sa_mg) (Ne.symm ne_mi_mg)).trans hf_mg
        have hf_md : f35 md = .inl (cy 1, 520, .inl (fun _ => 0)) := (hfm md hm_md (Ne.symm ne_rd_md) (Ne.symm ne_dr_md) (Ne.symm ne_xla_md) (Ne.symm ne_xsa_md) (Ne.symm ne_xmi_md) (Ne.symm ne_tp_md) (Ne.symm ne_mo_md) (Ne.symm ne_la_md) (Ne.symm ne_sa_md) (Ne.symm ne_mi_md)).trans hf_md
        have hm_hs : hs ∈ L34 := hsb _ hm_hs
        have hm_tp : tp ∈ L34 := hsb _ hm_tp
        have hm_mo : mo ∈ L34 := hsb _ hm_mo
        have hm_la : la ∈ L34 := hsb _ hm_la
        have hm_sa : sa ∈ L34 := hsb _ hm_sa
        have hm_mi : mi ∈ L34 := hsb _ hm_mi
        have hm_dr : dr ∈ L34 := hsb _ hm_dr
        have hm_xla : xla ∈ L34 := hsb _ hm_xla
        have hm_xsa : xsa ∈ L34 := hsb _ hm_xsa
        have hm_xmi : xmi ∈ L34 := hsb _ hm_xmi
        have hm_rd : rd ∈ L34 := hsb _ hm_rd
        have hm_me : me ∈ L34 := hsb _ hm_me
        have hm_ml : ml ∈ L34 := hsb _ hm_ml
        have hm_mh : mh ∈ L34 := hsb _ hm_mh
        have hm_mj : mj ∈ L34 := hsb _ hm_mj
        have hm_ms : ms ∈ L34 := hsb _ hm_ms
        have hm_mg : mg ∈ L34 := hsb _ hm_mg
        have hm_md : md ∈ L34 := hsb _ hm_md
        have hpA := hp
        refine lv_aload_n hx hb dL_law_302 rfl (lv_at hl 1 rfl) ?_
        refine z_calliV (cells := 164) (slots := 16321) (b := me) (As := []) (rest := [.int r33]) (ci := 10) (q0 := (RX10, TX10, 54)) ⟨hx, hb, hml, hown, hT⟩ (c_X10_moor l hm_me hm_ml hm_mh hm_mj hm_ms hm_mg hm_md hf_me hf_ml hf_mh hf_mj hf_ms hf_mg hf_md) (cwV 0 hT (z_goodV (fun _ h => h) kw_1369 kw_1370 kw_1371 kw_96 kw_1372) rfl rfl rfl (by decide +kernel) ⟨by decide, by decide⟩) z_mv hKK hK hw hA hm_me hf_me rfl rfl rfl hl.1 rfl (Nat.le_of_ble_eq_true rfl) dL_law_303 ⟨by decide, by decide⟩ (fun r36 u H locs hp hw => ?_)
        obtain ⟨L37, f38⟩ := u
        obtain ⟨hsb, hfm, hp⟩ := hp
        have hw : z_H D vwCl ((fun q : Nat => s.heap.size ≤ q)) s.heap L37 f38 H locs := hw
        have hf_hs : f38 hs = .inr (9, [.ref tp, .ref rd, .ref mo, .ref dr, .ref im, .ref kp, .ref sl, .ref wk, .ref pl, .ref ex, .ref mx]) := (hfm hs hm_hs ne_hs_me ne_hs_ml ne_hs_mh ne_hs_mj ne_hs_ms ne_hs_mg ne_hs_md).trans hf_hs
        have hm_hs : hs ∈ L37 := hsb _ hm_hs
        have hm_me : me ∈ L37 := hsb _ hm_me
        have hm_ml : ml ∈ L37 := hsb _ hm_ml
        have hm_mh : mh ∈ L37 := hsb _ hm_mh
        have hm_mj : mj ∈ L37 := hsb _ hm_mj
        have hm_ms : ms ∈ L37 := hsb _ hm_ms
        have hm_mg : mg ∈ L37 := hsb _ hm_mg
        have hm_md : md ∈ L37 := hsb _ hm_md
        have hpB := hp
        refine z_icmp_eq (tgt := 1615) hx hb rfl rfl dL_law_306 (by decide) (fun c39 => ?_) (fun c39 => False.elim (by omega))
        refine lv_iinc (v := 6) (lv' := [(3, .int 6), (2, .ref me), (1, .ref hs), (0, .ref b)]) hx hb dL_law_1615 hl (k := 0) rfl (by decide) (by decide) rfl (fun ls hl => ?_)
        refine lv_goto (tgt := 18) hx hb dL_law_1618 (by decide) ?_
        refine lv_iload_n hx hb dL_law_18 rfl (lv_at hl 0 rfl) ?_
        refine lv_aload_n hx hb dL_law_19 rfl (lv_at hl 3 rfl) ?_
        refine va_slen hx hb hX hbl hbA hw.2.2 dL_law_20 ?_
        refine lv_topi (fun ln e_ln => ?_)
        have i_ln : ln.toInt = L := by rw [e_ln]; exact nI_toInt (by omega)
        refine lv_bipush (v := 6) hx hb dL_law_21 (by decide) ?_
        refine lv_isub hx hb dL_law_23 ?_
        refine lv_topi (fun w40 e_w40 => ?_)
        have i_w40 : w40.toInt = ((L : Int) - 6) := z_subI e_w40 i_ln (show (6 : Int32).toInt = 6 by decide) (by omega)
        refine z_icmp_gt (tgt := 1621) hx hb (show (6 : Int32).toInt = 6 by decide) i_w40 dL_law_24 (by decide) (fun c41 => ?_) (fun c41 => False.elim (by omega))
        refine lv_iconst (v := 1) hx hb dL_law_1621 (by decide) ?_
        refine va_forget (fun q hq => hw.2.2.2.2 q hq) ?_
        refine W.widen (k := 600000) (n := 7302250) (by decide) (by decide) ?_
        exact lw_ret hx hb hr hlocks dL_law_1622
      · skip
        refine lv_tableIn (off := 278) (tgt := 311) hx hb dL_law_33 (by omega) (by omega) (by rw [show w11.toInt = 3 from c12]; rfl) (by decide) ?_
        refine lv_aload_n hx hb dL_law_311 rfl (lv_at hl 2 rfl) ?_
        refine lv_aload_n hx hb dL_law_312 rfl (lv_at hl 3 rfl) ?_
        refine lv_iload_n hx hb dL_law_313 rfl (lv_at hl 0 rfl) ?_
        refine lv_iconst (v := 1) hx hb dL_law_314 (by decide) ?_
        refine lv_iadd hx hb dL_law_315 ?_
        refine z_lit (y := 1) (by decide) ?_
        refine va_sld hx hb hX hbl hbA hw.2.2 (z_ix (show (1 : Int32).toInt = 1 by decide) (by omega)) dL_law_316 ?_
        refine z_lit (y := x1) ex1.symm ?_
        refine z_calliV (cells := 164) (slots := 16321) (b := hs) (As := [.int x1]) (rest := []) (ci := 9) (q0 := (RX9, TX9, 11)) ⟨hx, hb, hml, hown, hT⟩ (c_X9_fault l hm_hs hm_rd hf_hs hf_rd) (cwV 1 hT (z_goodV (fun _ h => h) kw_701 kw_702 kw_703 kw_85 kw_704) rfl rfl rfl (by decide +kernel) ⟨by decide, by decide⟩) z_mv hKK hK hw hA hm_hs hf_hs rfl rfl rfl hl.1 rfl (Nat.le_of_ble_eq_true rfl) dL_law_317 ⟨by decide, by decide⟩ (fun r42 u H locs hp hw => ?_)
        obtain ⟨rfl, hp⟩ := hp
        have hw : z_H D vwCl ((fun q : Nat => s.heap.size ≤ q)) s.heap L7 f8 H locs := hw
        have hpA := hp
        refine lv_aload_n hx hb dL_law_320 rfl (lv_at hl 1 rfl) ?_
        refine lv_aload_n hx hb dL_law_321 rfl (lv_at hl 3 rfl) ?_
        refine lv_iload_n hx hb dL_law_322 rfl (lv_at hl 0 rfl) ?_
        refine lv_iconst (v := 1) hx hb dL_law_323 (by decide) ?_
        refine lv_iadd hx hb dL_law_324 ?_
        refine z_lit (y := 1) (by decide) ?_
        refine va_sld hx hb hX hbl hbA hw.2.2 (z_ix (show (1 : Int32).toInt = 1 by decide) (by omega)) dL_law_325 ?_
        refine z_lit (y := x1) ex1.symm ?_
        refine z_calliV (cells := 164) (slots := 16321) (b := me) (As := [.int x1]) (rest := [.int r42]) (ci := 10) (q0 := (RX10, TX10, 54)) ⟨hx, hb, hml, hown, hT⟩ (c_X10_fault l hm_me hf_me) (cwV 1 hT (z_goodV (fun _ h => h) kw_1365 kw_1366 kw_1367 kw_96 kw_1368) rfl rfl rfl (by decide +kernel) ⟨by decide, by decide⟩) z_mv hKK hK hw hA hm_me hf_me rfl rfl rfl hl.1 rfl (Nat.le_of_ble_eq_true rfl) dL_law_326 ⟨by decide, by decide⟩ (fun r43 u H locs hp hw => ?_)
        obtain ⟨L44, f45⟩ := u
        obtain ⟨hsb, hfm, hp⟩ := hp
        have hw : z_H D vwCl ((fun q : Nat => s.heap.size ≤ q)) s.heap L44 f45 H locs := hw
        have hf_hs : f45 hs = .inr (9, [.ref tp, .ref rd, .ref mo, .ref dr, .ref im, .ref kp, .ref sl, .ref wk, .ref pl, .ref ex, .ref mx]) := (hfm hs hm_hs ne_hs_me).trans hf_hs
        have hf_rd : f45 rd = .inr (5, [.int 0, .int (-1), .ref tp, .ref dr, .int 0, .int 0, .int 0, .int 0, .int 0]) := (hfm rd hm_rd ne_rd_me).trans hf_rd
        have hm_hs : hs ∈ L44 := hsb _ hm_hs
        have hm_rd : rd ∈ L44 := hsb _ hm_rd
        have hm_me : me ∈ L44 := hsb _ hm_me
        have hpB := hp
        refine z_icmp_eq (tgt := 1615) hx hb rfl rfl dL_law_329 (by decide) (fun c46 => ?_) (fun c46 => False.elim (by omega))
        refine lv_iinc (v := 6) (lv' := [(3, .int 6), (2, .ref me), (1, .ref hs), (0, .ref b)]) hx hb dL_law_1615 hl (k := 0) rfl (by decide) (by decide) rfl (fun ls hl => ?_)
        refine lv_goto (tgt := 18) hx hb dL_law_1618 (by decide) ?_
        refine lv_iload_n hx hb dL_law_18 rfl (lv_at hl 0 rfl) ?_
        refine lv_aload_n hx hb dL_law_19 rfl (lv_at hl 3 rfl) ?_
        refine va_slen hx hb hX hbl hbA hw.2.2 dL_law_20 ?_
        refine lv_topi (fun ln e_ln => ?_)
        have i_ln : ln.toInt = L := by rw [e_ln]; exact nI_toInt (by omega)
        refine lv_bipush (v := 6) hx hb dL_law_21 (by decide) ?_
        refine lv_isub hx hb dL_law_23 ?_
        refine lv_topi (fun w47 e_w47 => ?_)
        have i_w47 : w47.toInt = ((L : Int) - 6) := z_subI e_w47 i_ln (show (6 : Int32).toInt = 6 by decide) (by omega)
        refine z_icmp_gt (tgt := 1621) hx hb (show (6 : Int32).toInt = 6 by decide) i_w47 dL_law_24 (by decide) (fun c48 => ?_) (fun c48 => False.elim (by omega))
        refine lv_iconst (v := 1) hx hb dL_law_1621 (by decide) ?_
        refine va_forget (fun q hq => hw.2.2.2.2 q hq) ?_
        refine W.widen (k := 600000) (n := 7302250) (by decide) (by decide) ?_
        exact lw_ret hx hb hr hlocks dL_law_1622
      · skip
        refine lv_tableIn (off := 301) (tgt := 334) hx hb dL_law_33 (by omega) (by omega) (by rw [show w11.toInt = 4 from c12]; rfl) (by decide) ?_
        refine lv_aload_n hx hb dL_law_334 rfl (lv_at hl 2 rfl) ?_
        refine lv_aload_n hx hb dL_law_335 rfl (lv_at hl 3 rfl) ?_
        refine lv_iload_n hx hb dL_law_336 rfl (lv_at hl 0 rfl) ?_
        refine lv_iconst (v := 1) hx hb dL_law_337 (by decide) ?_
        refine lv_iadd hx hb dL_law_338 ?_
        refine z_lit (y := 1) (by decide) ?_
        refine va_sld hx hb hX hbl hbA hw.2.2 (z_ix (show (1 : Int32).toInt = 1 by decide) (by omega)) dL_law_339 ?_
        refine z_lit (y := x1) ex1.symm ?_
        refine lv_aload_n hx hb dL_law_340 rfl (lv_at hl 3 rfl) ?_
        refine lv_iload_n hx hb dL_law_341 rfl (lv_at hl 0 rfl) ?_
        refine lv_iconst (v := 2) hx hb dL_law_342 (by decide) ?_
        refine lv_iadd hx hb dL_law_343 ?_
        refine z_lit (y := 2) (by decide) ?_
        refine va_sld hx hb hX hbl hbA hw.2.2 (z_ix (show (2 : Int32).toInt = 2 by decide) (by omega)) dL_law_344 ?_
        refine z_lit (y := x2) ex2.symm ?_
        refine z_calliV (cells := 164) (slots := 16321) (b := hs) (As := [.int x1, .int x2]) (rest := []) (ci := 9) (q0 := (RX9, TX9, 11)) ⟨hx, hb, hml, hown, hT⟩ (c_X9_drive l hm_hs hm_mo hf_hs hf_mo) (cwV 2 hT (z_goodV (fun _ h => h) kw_705 kw_706 kw_707 kw_85 kw_708) rfl rfl rfl (by decide +kernel) ⟨by decide, by decide⟩) z_mv hKK hK hw hA hm_hs hf_hs rfl rfl rfl hl.1 rfl (Nat.le_of_ble_eq_true rfl) dL_law_345 ⟨by decide, by decide⟩ (fun r49 u H locs hp hw => ?_)
        obtain ⟨rfl, hp⟩ := hp
        have hw : z_H D vwCl ((fun q : Nat => s.heap.size ≤ q)) s.heap L7 f8 H locs := hw
        have hpA := hp
        refine lv_aload_n hx hb dL_law_348 rfl (lv_at hl 1 rfl) ?_
        refine lv_aload_n hx hb dL_law_349 rfl (lv_at hl 3 rfl) ?_
        refine lv_iload_n hx hb dL_law_350 rfl (lv_at hl 0 rfl) ?_
        refine lv_iconst (v := 1) hx hb dL_law_351 (by decide) ?_
        refine lv_iadd hx hb dL_law_352 ?_
        refine z_lit (y := 1) (by decide) ?_
        refine va_sld hx hb hX hbl hbA hw.2.2 (z_ix (show (1 : Int32).toInt = 1 by decide) (by omega)) dL_law_353 ?_
        refine z_lit (y := x1) ex1.symm ?_
        refine lv_aload_n hx hb dL_law_354 rfl (lv_at hl 3 rfl) ?_
        refine lv_iload_n hx hb dL_law_355 rfl (lv_at hl 0 rfl) ?_
        refine lv_iconst (v := 2) hx hb dL_law_356 (by decide) ?_
        refine lv_iadd hx hb dL_law_357 ?_
        refine z_lit (y := 2) (by decide) ?_
        refine va_sld hx hb hX hbl hbA hw.2.2 (z_ix (show (2 : Int32).toInt = 2 by decide) (by omega)) dL_law_358 ?_
        refine z_lit (y := x2) ex2.symm ?_
        refine z_calliV (cells := 164) (slots := 16321) (b := me) (As := [.int x1, .int x2]) (rest := [.int r49]) (ci := 10) (q0 := (RX10, TX10, 54)) ⟨hx, hb, hml, hown, hT⟩ (c_X10_drive l hm_me hm_ml hm_mh hf_me hf_ml hf_mh) (cwV 2 hT (z_goodV (fun _ h => h) kw_1478 kw_1479 kw_1480 kw_96 kw_1481) rfl rfl rfl (by decide +kernel) ⟨by decide, by decide⟩) z_mv hKK hK hw hA hm_me hf_me rfl rfl rfl hl.1 rfl (Nat.le_of_ble_eq_true rfl) dL_law_359 ⟨by decide, by decide⟩ (fun r50 u H locs hp hw => ?_)
        obtain ⟨L51, f52⟩ := u
        obtain ⟨hsb, hfm, hp⟩ := hp
        have hw : z_H D vwCl ((fun q : Nat => s.heap.size ≤ q)) s.heap L51 f52 H locs := hw
        have hf_hs : f52 hs = .inr (9, [.ref tp, .ref rd, .ref mo, .ref dr, .ref im, .ref kp, .ref sl, .ref wk, .ref pl, .ref ex, .ref mx]) := (hfm hs hm_hs ne_hs_me).trans hf_hs
        have hf_mo : f52 mo = .inr (2, [.int 0, .int 0, .int 0, .int 0, .int 0, .int 0, .int 0, .ref la, .ref sa, .ref mi, .ref da]) := (hfm mo hm_mo ne_mo_me).trans hf_mo
        have hf_ml : f52 ml = .inl (cy 1, 5, .inl (fun _ => 0)) := (hfm ml hm_ml (Ne.symm ne_me_ml)).trans hf_ml
        have hf_mh : f52 mh = .inl (cy 1, 30, .inl (fun _ => 0)) := (hfm mh hm_mh (Ne.symm ne_me_mh)).trans hf_mh
        have hm_hs : hs ∈ L51 := hsb _ hm_hs
        have hm_mo : mo ∈ L51 := hsb _ hm_mo
        have hm_me : me ∈ L51 := hsb _ hm_me
        have hm_ml : ml ∈ L51 := hsb _ hm_ml
        have hm_mh : mh ∈ L51 := hsb _ hm_mh
        have hpB := hp
        refine z_icmp_eq (tgt := 1615) hx hb rfl rfl dL_law_362 (by decide) (fun c53 => ?_) (fun c53 => False.elim (by omega))
        refine lv_iinc (v := 6) (lv' := [(3, .int 6), (2, .ref me), (1, .ref hs), (0, .ref b)]) hx hb dL_law_1615 hl (k := 0) rfl (by decide) (by decide) rfl (fun ls hl => ?_)
        refine lv_goto (tgt := 18) hx hb dL_law_1618 (by decide) ?_
        refine lv_iload_n hx hb dL_law_18 rfl (lv_at hl 0 rfl) ?_
        refine lv_aload_n hx hb dL_law_19 rfl (lv_at hl 3 rfl) ?_
        refine va_slen hx hb hX hbl hbA hw.2.2 dL_law_20 ?_
        refine lv_topi (fun ln e_ln => ?_)
        have i_ln : ln.toInt = L := by rw [e_ln]; exact nI_toInt (by omega)
        refine lv_bipush (v := 6) hx hb dL_law_21 (by decide) ?_
        refine lv_isub hx hb dL_law_23 ?_
        refine lv_topi (fun w54 e_w54 => ?_)
        have i_w54 : w54.toInt = ((L : Int) - 6) := z_subI e_w54 i_ln (show (6 : Int32).toInt = 6 by decide) (by omega)
        refine z_icmp_gt (tgt := 1621) hx hb (show (6 : Int32).toInt = 6 by decide) i_w54 dL_law_24 (by decide) (fun c55 => ?_) (fun c55 => False.elim (by omega))
        refine lv_iconst (v := 1) hx hb dL_law_1621 (by decide) ?_
        refine va_forget (fun q hq => hw.2.2.2.2 q hq) ?_
        refine W.widen (k := 600000) (n := 7302250) (by decide) (by decide) ?_
        exact lw_ret hx hb hr hlocks dL_law_1622
      · skip
        refine lv_tableIn (off := 334) (tgt := 367) hx hb dL_law_33 (by omega) (by omega) (by rw [show w11.toInt = 5 from c12]; rfl) (by decide) ?_
        refine lv_aload_n hx hb dL_law_367 rfl (lv_at hl 2 rfl) ?_
        refine lv_aload_n hx hb dL_law_368 rfl (lv_at hl 3 rfl) ?_
        refine lv_iload_n hx hb dL_law_369 rfl (lv_at hl 0 rfl) ?_
        refine lv_iconst (v := 1) hx hb dL_law_370 (by decide) ?_
        refine lv_iadd hx hb dL_law_371 ?_
        refine z_lit (y := 1) (by decide) ?_
        refine va_sld hx hb hX hbl hbA hw.2.2 (z_ix (show (1 : Int32).toInt = 1 by decide) (by omega)) dL_law_372 ?_
        refine z_lit (y := x1) ex1.symm ?_
        refine z_calliV (cells := 164) (slots := 16321) (b := hs) (As := [.int x1]) (rest := []) (ci := 9) (q0 := (RX9, TX9, 11)) ⟨hx, hb, hml, hown, hT⟩ (c_X9_goes l hm_hs hm_mo hf_hs hf_mo) (cwV 1 hT (z_goodV (fun _ h => h) kw_713 kw_714 kw_715 kw_85 kw_716) rfl rfl rfl (by decide +kernel) ⟨by decide, by decide⟩) z_mv hKK hK hw hA hm_hs hf_hs rfl rfl rfl hl.1 rfl (Nat.le_of_ble_eq_true rfl) dL_law_373 ⟨by decide, by decide⟩ (fun r56 u H locs hp hw => ?_)
        obtain ⟨rfl, hp⟩ := hp
        have hw : z_H D vwCl ((fun q : Nat => s.heap.size ≤ q)) s.heap L7 f8 H locs := hw
        have hpA := hp
        refine lv_aload_n hx hb dL_law_376 rfl (lv_at hl 1 rfl) ?_
        refine lv_aload_n hx hb dL_law_377 rfl (lv_at hl 3 rfl) ?_
        refine lv_iload_n hx hb dL_law_378 rfl (lv_at hl 0 rfl) ?_
        refine lv_iconst (v := 1) hx hb dL_law_379 (by decide) ?_
        refine lv_iadd hx hb dL_law_380 ?_
        refine z_lit (y := 1) (by decide) ?_
        refine va_sld hx hb hX hbl hbA hw.2.2 (z_ix (show (1 : Int32).toInt = 1 by decide) (by omega)) dL_law_381 ?_
        refine z_lit (y := x1) ex1.symm ?_
        refine z_calliV (cells := 164) (slots := 16321) (b := me) (As := [.int x1]) (rest := [.int r56]) (ci := 10) (q0 := (RX10, TX10, 54)) ⟨hx, hb, hml, hown, hT⟩ (c_X10_goes l hm_me hm_ml hm_mh hf_me hf_ml hf_mh) (cwV 1 hT (z_goodV (fun _ h => h) kw_1491 kw_1492 kw_1493 kw_96 kw_1494) rfl rfl rfl (by decide +kernel) ⟨by decide, by decide⟩) z_mv hKK hK hw hA hm_me hf_me rfl rfl rfl hl.1 rfl (Nat.le_of_ble_eq_true rfl) dL_law_382 ⟨by decide, by decide⟩ (fun r57 u H locs hp hw => ?_)
        obtain ⟨L58, f59⟩ := u
        obtain ⟨hsb, hfm, hp⟩ := hp
        have hw : z_H D vwCl ((fun q : Nat => s.heap.size ≤ q)) s.heap L58 f59 H locs := hw
        have hf_hs : f59 hs = .inr (9, [.ref tp, .ref rd, .ref mo, .ref dr, .ref im, .ref kp, .ref sl, .ref wk, .ref pl, .ref ex, .ref mx]) := (hfm hs hm_hs ne_hs_me).trans hf_hs
        have hf_mo : f59 mo = .inr (2, [.int 0, .int 0, .int 0, .int 0, .int 0, .int 0, .int 0, .ref la, .ref sa, .ref mi, .ref da]) := (hfm mo hm_mo ne_mo_me).trans hf_mo
        have hf_ml : f59 ml = .inl (cy 1, 5, .inl (fun _ => 0)) := (hfm ml hm_ml (Ne.symm ne_me_ml)).trans hf_ml
        have hf_mh : f59 mh = .inl (cy 1, 30, .inl (fun _ => 0)) := (hfm mh hm_mh (Ne.symm ne_me_mh)).trans hf_mh
        have hm_hs : hs ∈ L58 := hsb _ hm_hs
        have hm_mo : mo ∈ L58 := hsb _ hm_mo
        have hm_me : me ∈ L58 := hsb _ hm_me
        have hm_ml : ml ∈ L58 := hsb _ hm_ml
        have hm_mh : mh ∈ L58 := hsb _ hm_mh
        have hpB := hp
        refine z_icmp_eq (tgt := 1615) hx hb rfl rfl dL_law_385 (by decide) (fun c60 => ?_) (fun c60 => False.elim (by omega))
        refine lv_iinc (v := 6) (lv' := [(3, .int 6), (2, .ref me), (1, .ref hs), (0, .ref b)]) hx hb dL_law_1615 hl (k := 0) rfl (by decide) (by decide) rfl (fun ls hl => ?_)
        refine lv_goto (tgt := 18) hx hb dL_law_1618 (by decide) ?_
        refine lv_iload_n hx hb dL_law_18 rfl (lv_at hl 0 rfl) ?_
        refine lv_aload_n hx hb dL_law_19 rfl (lv_at hl 3 rfl) ?_
        refine va_slen hx hb hX hbl hbA hw.2.2 dL_law_20 ?_
        refine lv_topi (fun ln e_ln => ?_)
        have i_ln : ln.toInt = L := by rw [e_ln]; exact nI_toInt (by omega)
        refine lv_bipush (v := 6) hx hb dL_law_21 (by decide) ?_
        refine lv_isub hx hb dL_law_23 ?_
        refine lv_topi (fun w61 e_w61 => ?_)
        have i_w61 : w61.toInt = ((L : Int) - 6) := z_subI e_w61 i_ln (show (6 : Int32).toInt = 6 by decide) (by omega)
        refine z_icmp_gt (tgt := 1621) hx hb (show (6 : Int32).toInt = 6 by decide) i_w61 dL_law_24 (by decide) (fun c62 => ?_) (fun c62 => False.elim (by omega))
        refine lv_iconst (v := 1) hx hb dL_law_1621 (by decide) ?_
        refine va_forget (fun q hq => hw.2.2.2.2 q hq) ?_
        refine W.widen (k := 600000) (n := 7302250) (by decide) (by decide) ?_
        exact lw_ret hx hb hr hlocks dL_law_1622
      · skip
        refine lv_tableIn (off := 357) (tgt := 390) hx hb dL_law_33 (by omega) (by omega) (by rw [show w11.toInt = 6 from c12]; rfl) (by decide) ?_
        refine lv_aload_n hx hb dL_law_390 rfl (lv_at hl 2 rfl) ?_
        refine lv_aload_n hx hb dL_law_391 rfl (lv_at hl 3 rfl) ?_
        refine lv_iload_n hx hb dL_law_392 rfl (lv_at hl 0 rfl) ?_
        refine lv_iconst (v := 1) hx hb dL_law_393 (by decide) ?_
        refine lv_iadd hx hb dL_law_394 ?_
        refine z_lit (y := 1) (by decide) ?_
        refine va_sld hx hb hX hbl hbA hw.2.2 (z_ix (show (1 : Int32).toInt = 1 by decide) (by omega)) dL_law_395 ?_
        refine z_lit (y := x1) ex1.symm ?_
        refine lv_aload_n hx hb dL_law_396 rfl (lv_at hl 3 rfl) ?_
        refine lv_iload_n hx hb dL_law_397 rfl (lv_at hl 0 rfl) ?_
        refine lv_iconst (v := 2) hx hb dL_law_398 (by decide) ?_
        refine lv_iadd hx hb dL_law_399 ?_
        refine z_lit (y := 2) (by decide) ?_
        refine va_sld hx hb hX hbl hbA hw.2.2 (z_ix (show (2 : Int32).toInt = 2 by decide) (by omega)) dL_law_400 ?_
        refine z_lit (y := x2) ex2.symm ?_
        refine z_calliV (cells := 164) (slots := 16321) (b := hs) (As := [.int x1, .int x2]) (rest := []) (ci := 9) (q0 := (RX9, TX9, 11)) ⟨hx, hb, hml, hown, hT⟩ (c_X9_law l hm_hs hm_mo hf_hs hf_mo) (cwV 2 hT (z_goodV (fun _ h => h) kw_721 kw_722 kw_723 kw_85 kw_724) rfl rfl rfl (by decide +kernel) ⟨by decide, by decide⟩) z_mv hKK hK hw hA hm_hs hf_hs rfl rfl rfl hl.1 rfl (Nat.le_of_ble_eq_true rfl) dL_law_401 ⟨by decide, by decide⟩ (fun r63 u H locs hp hw => ?_)
        obtain ⟨rfl, hp⟩ := hp
        have hw : z_H D vwCl ((fun q : Nat => s.heap.size ≤ q)) s.heap L7 f8 H locs := hw
        have hpA := hp
        refine lv_aload_n hx hb dL_law_404 rfl (lv_at hl 1 rfl) ?_
        refine lv_aload_n hx hb dL_law_405 rfl (lv_at hl 3 rfl) ?_
        refine lv_iload_n hx hb dL_law_406 rfl (lv_at hl 0 rfl) ?_
        refine lv_iconst (v := 1) hx hb dL_law_407 (by decide) ?_
        refine lv_iadd hx hb dL_law_408 ?_
        refine z_lit (y := 1) (by decide) ?_
        refine va_sld hx hb hX hbl hbA hw.2.2 (z_ix (show (1 : Int32).toInt = 1 by decide) (by omega)) dL_law_409 ?_
        refine z_lit (y := x1) ex1.symm ?_
        refine lv_aload_n hx hb dL_law_410 rfl (lv_at hl 3 rfl) ?_
        refine lv_iload_n hx hb dL_law_411 rfl (lv_at hl 0 rfl) ?_
        refine lv_iconst (v := 2) hx hb dL_law_412 (by decide) ?_
        refine lv_iadd hx hb dL_law_413 ?_
        refine z_lit (y := 2) (by decide) ?_
        refine va_sld hx hb hX hbl hbA hw.2.2 (z_ix (show (2 : Int32).toInt = 2 by decide) (by omega)) dL_law_414 ?_
        refine z_lit (y := x2) ex2.symm ?_
        refine z_calliV (cells := 164) (slots := 16321) (b := me) (As := [.int x1, .int x2]) (rest := [.int r63]) (ci := 10) (q0 := (RX10, TX10, 54)) ⟨hx, hb, hml, hown, hT⟩ (c_X10_law l hm_me hm_ml hm_mh hf_me hf_ml hf_mh) (cwV 2 hT (z_goodV (fun _ h => h) kw_1503 kw_1504 kw_1505 kw_96 kw_1506) rfl rfl rfl (by decide +kernel) ⟨by decide, by decide⟩) z_mv hKK hK hw hA hm_me hf_me rfl rfl rfl hl.1 rfl (Nat.le_of_ble_eq_true rfl) dL_law_415 ⟨by decide, by decide⟩ (fun r64 u H locs hp hw => ?_)
        obtain ⟨L65, f66⟩ := u
        obtain ⟨hsb, hfm, hp⟩ := hp
        have hw : z_H D vwCl ((fun q : Nat => s.heap.size ≤ q)) s.heap L65 f66 H locs := hw
        have hf_hs : f66 hs = .inr (9, [.ref tp, .ref rd, .ref mo, .ref dr, .ref im, .ref kp, .ref sl, .ref wk, .ref pl, .ref ex, .ref mx]) := (hfm hs hm_hs ne_hs_me).trans hf_hs
        have hf_mo : f66 mo = .inr (2, [.int 0, .int 0, .int 0, .int 0, .int 0, .int 0, .int 0, .ref la, .ref sa, .ref mi, .ref da]) := (hfm mo hm_mo ne_mo_me).trans hf_mo
        have hf_ml : f66 ml = .inl (cy 1, 5, .inl (fun _ => 0)) := (hfm ml hm_ml (Ne.symm ne_me_ml)).trans hf_ml
        have hf_mh : f66 mh = .inl (cy 1, 30, .inl (fun _ => 0)) := (hfm mh hm_mh (Ne.symm ne_me_mh)).trans hf_mh
        have hm_hs : hs ∈ L65 := hsb _ hm_hs
        have hm_mo : mo ∈ L65 := hsb _ hm_mo
        have hm_me : me ∈ L65 := hsb _ hm_me
        have hm_ml : ml ∈ L65 := hsb _ hm_ml
        have hm_mh : mh ∈ L65 := hsb _ hm_mh
        have hpB := hp
        refine z_icmp_eq (tgt := 1615) hx hb rfl rfl dL_law_418 (by decide) (fun c67 => ?_) (fun c67 => False.elim (by omega))
        refine lv_iinc (v := 6) (lv' := [(3, .int 6), (2, .ref me), (1, .ref hs), (0, .ref b)]) hx hb dL_law_1615 hl (k := 0) rfl (by decide) (by decide) rfl (fun ls hl => ?_)
        refine lv_goto (tgt := 18) hx hb dL_law_1618 (by decide) ?_
        refine lv_iload_n hx hb dL_law_18 rfl (lv_at hl 0 rfl) ?_
        refine lv_aload_n hx hb dL_law_19 rfl (lv_at hl 3 rfl) ?_
        refine va_slen hx hb hX hbl hbA hw.2.2 dL_law_20 ?_
        refine lv_topi (fun ln e_ln => ?_)
        have i_ln : ln.toInt = L := by rw [e_ln]; exact nI_toInt (by omega)
        refine lv_bipush (v := 6) hx hb dL_law_21 (by decide) ?_
        refine lv_isub hx hb dL_law_23 ?_
        refine lv_topi (fun w68 e_w68 => ?_)
        have i_w68 : w68.toInt = ((L : Int) - 6) := z_subI e_w68 i_ln (show (6 : Int32).toInt = 6 by decide) (by omega)
        refine z_icmp_gt (tgt := 1621) hx hb (show (6 : Int32).toInt = 6 by decide) i_w68 dL_law_24 (by decide) (fun c69 => ?_) (fun c69 => False.elim (by omega))
        refine lv_iconst (v := 1) hx hb dL_law_1621 (by decide) ?_
        refine va_forget (fun q hq => hw.2.2.2.2 q hq) ?_
        refine W.widen (k := 600000) (n := 7302250) (by decide) (by decide) ?_
        exact lw_ret hx hb hr hlocks dL_law_1622
      · skip
        refine lv_tableIn (off := 390) (tgt := 423) hx hb dL_law_33 (by omega) (by omega) (by rw [show w11.toInt = 7 from c12]; rfl) (by decide) ?_
        refine lv_aload_n hx hb dL_law_423 rfl (lv_at hl 2 rfl) ?_
        refine lv_aload_n hx hb dL_law_424 rfl (lv_at hl 3 rfl) ?_
        refine lv_iload_n hx hb dL_law_425 rfl (lv_at hl 0 rfl) ?_
        refine lv_iconst (v := 1) hx hb dL_law_426 (by decide) ?_
        refine lv_iadd hx hb dL_law_427 ?_
        refine z_lit (y := 1) (by decide) ?_
        refine va_sld hx hb hX hbl hbA hw.2.2 (z_ix (show (1 : Int32).toInt = 1 by decide) (by omega)) dL_law_428 ?_
        refine z_lit (y := x1) ex1.symm ?_
        refine lv_aload_n hx hb dL_law_429 rfl (lv_at hl 3 rfl) ?_
        refine lv_iload_n hx hb dL_law_430 rfl (lv_at hl 0 rfl) ?_
        refine lv_iconst (v := 2) hx hb dL_law_431 (by decide) ?_
        refine lv_iadd hx hb dL_law_432 ?_
        refine z_lit (y := 2) (by decide) ?_
        refine va_sld hx hb hX hbl hbA hw.2.2 (z_ix (show (2 : Int32).toInt = 2 by decide) (by omega)) dL_law_433 ?_
        refine z_lit (y := x2) ex2.symm ?_
        refine lv_aload_n hx hb dL_law_434 rfl (lv_at hl 3 rfl) ?_
        refine lv_iload_n hx hb dL_law_435 rfl (lv_at hl 0 rfl) ?_
        refine lv_iconst (v := 3) hx hb dL_law_436 (by decide) ?_
        refine lv_iadd hx hb dL_law_437 ?_
        refine z_lit (y := 3) (by decide) ?_
        refine va_sld hx hb hX hbl hbA hw.2.2 (z_ix (show (3 : Int32).toInt = 3 by decide) (by omega)) dL_law_438 ?_
        refine z_lit (y := x3) ex3.symm ?_
        refine z_calliV (cells := 164) (slots := 16321) (b := hs) (As := [.int x1, .int x2, .int x3]) (rest := []) (ci := 9) (q0 := (RX9, TX9, 11)) ⟨hx, hb, hml, hown, hT⟩ (c_X9_sets l hm_hs hm_mo hf_hs hf_mo) (cwV 3 hT (z_goodV (fun _ h => h) kw_732 kw_733 kw_734 kw_85 kw_735) rfl rfl rfl (by decide +kernel) ⟨by decide, by decide⟩) z_mv hKK hK hw hA hm_hs hf_hs rfl rfl rfl hl.1 rfl (Nat.le_of_ble_eq_true rfl) dL_law_439 ⟨by decide, by decide⟩ (fun r70 u H locs hp hw => ?_)
        obtain ⟨rfl, hp⟩ := hp
        have hw : z_H D vwCl ((fun q : Nat => s.heap.size ≤ q)) s.heap L7 f8 H locs := hw
        have hpA := hp
        refine lv_aload_n hx hb dL_law_442 rfl (lv_at hl 1 rfl) ?_
        refine lv_aload_n hx hb dL_law_443 rfl (lv_at hl 3 rfl) ?_
        refine lv_iload_n hx hb dL_law_444 rfl (lv_at hl 0 rfl) ?_
        refine lv_iconst (v := 1) hx hb dL_law_445 (by decide) ?_
        refine lv_iadd hx hb dL_law_446 ?_
        refine z_lit (y := 1) (by decide) ?_
        refine va_sld hx hb hX hbl hbA hw.2.2 (z_ix (show (1 : Int32).toInt = 1 by decide) (by omega)) dL_law_447 ?_
        refine z_lit (y := x1) ex1.symm ?_
        refine lv_aload_n hx hb dL_law_448 rfl (lv_at hl 3 rfl) ?_
        refine lv_iload_n hx hb dL_law_449 rfl (lv_at hl 0 rfl) ?_
        refine lv_iconst (v := 2) hx hb dL_law_450 (by decide) ?_
        refine lv_iadd hx hb dL_law_451 ?_
        refine z_lit (y := 2) (by decide) ?_
        refine va_sld hx hb hX hbl hbA hw.2.2 (z_ix (show (2 : Int32).toInt = 2 by decide) (by omega)) dL_law_452 ?_
        refine z_lit (y := x2) ex2.symm ?_
        refine lv_aload_n hx hb dL_law_453 rfl (lv_at hl 3 rfl) ?_
        refine lv_iload_n hx hb dL_law_454 rfl (lv_at hl 0 rfl) ?_
        refine lv_iconst (v := 3) hx hb dL_law_455 (by decide) ?_
        refine lv_iadd hx hb dL_law_456 ?_
        refine z_lit (y := 3) (by decide) ?_
        refine va_sld hx hb hX hbl hbA hw.2.2 (z_ix (show (3 : Int32).toInt = 3 by decide) (by omega)) dL_law_457 ?_
        refine z_lit (y := x3) ex3.symm ?_
        refine z_calliV (cells := 164) (slots := 16321) (b := me) (As := [.int x1, .int x2, .int x3]) (rest := [.int r70]) (ci := 10) (q0 := (RX10, TX10, 54)) ⟨hx, hb, hml, hown, hT⟩ (c_X10_sets l hm_me hm_ml hm_mh hf_me hf_ml hf_mh) (cwV 3 hT (z_goodV (fun _ h => h) kw_1515 kw_1516 kw_1517 kw_96 kw_1518) rfl rfl rfl (by decide +kernel) ⟨by decide, by decide⟩) z_mv hKK hK hw hA hm_me hf_me rfl rfl rfl hl.1 rfl (Nat.le_of_ble_eq_true rfl) dL_law_458 ⟨by decide, by decide⟩ (fun r71 u H locs hp hw => ?_)
        obtain ⟨L72, f73⟩ := u
        obtain ⟨hsb, hfm, hp⟩ := hp
        have hw : z_H D vwCl ((fun q : Nat => s.heap.size ≤ q)) s.heap L72 f73 H locs := hw
        have hf_hs : f73 hs = .inr (9, [.ref tp, .ref rd, .ref mo, .ref dr, .ref im, .ref kp, .ref sl, .ref wk, .ref pl, .ref ex, .ref mx]) := (hfm hs hm_hs ne_hs_me).trans hf_hs
        have hf_mo : f73 mo = .inr (2, [.int 0, .int 0, .int 0, .int 0, .int 0, .int 0, .int 0, .ref la, .ref sa, .ref mi, .ref da]) := (hfm mo hm_mo ne_mo_me).trans hf_mo
        have hf_ml : f73 ml = .inl (cy 1, 5, .inl (fun _ => 0)) := (hfm ml hm_ml (Ne.symm ne_me_ml)).trans hf_ml
        have hf_mh : f73 mh = .inl (cy 1, 30, .inl (fun _ => 0)) := (hfm mh hm_mh (Ne.symm ne_me_mh)).trans hf_mh
        have hm_hs : hs ∈ L72 := hsb _ hm_hs
        have hm_mo : mo ∈ L72 := hsb _ hm_mo
        have hm_me : me ∈ L72 := hsb _ hm_me
        have hm_ml : ml ∈ L72 := hsb _ hm_ml
        have hm_mh : mh ∈ L72 := hsb _ hm_mh
        have hpB := hp
        refine z_icmp_eq (tgt := 1615) hx hb rfl rfl dL_law_461 (by decide) (fun c74 => ?_) (fun c74 => False.elim (by omega))
        refine lv_iinc (v := 6) (lv' := [(3, .int 6), (2, .ref me), (1, .ref hs), (0, .ref b)]) hx hb dL_law_1615 hl (k := 0) rfl (by decide) (by decide) rfl (fun ls hl => ?_)
        refine lv_goto (tgt := 18) hx hb dL_law_1618 (by decide) ?_
        refine lv_iload_n hx hb dL_law_18 rfl (lv_at hl 0 rfl) ?_
        refine lv_aload_n hx hb dL_law_19 rfl (lv_at hl 3 rfl) ?_
        refine va_slen hx hb hX hbl hbA hw.2.2 dL_law_20 ?_
        refine lv_topi (fun ln e_ln => ?_)
        have i_ln : ln.toInt = L := by rw [e_ln]; exact nI_toInt (by omega)
        refine lv_bipush (v := 6) hx hb dL_law_21 (by decide) ?_
        refine lv_isub hx hb dL_law_23 ?_
        refine lv_topi (fun w75 e_w75 => ?_)
        have i_w75 : w75.toInt = ((L : Int) - 6) := z_subI e_w75 i_ln (show (6 : Int32).toInt = 6 by decide) (by omega)
        refine z_icmp_gt (tgt := 1621) hx hb (show (6 : Int32).toInt = 6 by decide) i_w75 dL_law_24 (by decide) (fun c76 => ?_) (fun c76 => False.elim (by omega))
        refine lv_iconst (v := 1) hx hb dL_law_1621 (by decide) ?_
        refine va_forget (fun q hq => hw.2.2.2.2 q hq) ?_
        refine W.widen (k := 600000) (n := 7302250) (by decide) (by decide) ?_
        exact lw_ret hx hb hr hlocks dL_law_1622
      · skip
        refine lv_tableIn (off := 433) (tgt := 466) hx hb dL_law_33 (by omega) (by omega) (by rw [show w11.toInt = 8 from c12]; rfl) (by decide) ?_
        refine lv_aload_n hx hb dL_law_466 rfl (lv_at hl 2 rfl) ?_
        refine lv_aload_n hx hb dL_law_467 rfl (lv_at hl 3 rfl) ?_
        refine lv_iload_n hx hb dL_law_468 rfl (lv_at hl 0 rfl) ?_
        refine lv_iconst (v := 1) hx hb dL_law_469 (by decide) ?_
        refine lv_iadd hx hb dL_law_470 ?_
        refine z_lit (y := 1) (by decide) ?_
        refine va_sld hx hb hX hbl hbA hw.2.2 (z_ix (show (1 : Int32).toInt = 1 by decide) (by omega)) dL_law_471 ?_
        refine z_lit (y := x1) ex1.symm ?_
        refine lv_aload_n hx hb dL_law_472 rfl (lv_at hl 3 rfl) ?_
        refine lv_iload_n hx hb dL_law_473 rfl (lv_at hl 0 rfl) ?_
        refine lv_iconst (v := 2) hx hb dL_law_474 (by decide) ?_
        refine lv_iadd hx hb dL_law_475 ?_
        refine z_lit (y := 2) (by decide) ?_
        refine va_sld hx hb hX hbl hbA hw.2.2 (z_ix (show (2 : Int32).toInt = 2 by decide) (by omega)) dL_law_476 ?_
        refine z_lit (y := x2) ex2.symm ?_
        refine lv_aload_n hx hb dL_law_477 rfl (lv_at hl 3 rfl) ?_
        refine lv_iload_n hx hb dL_law_478 rfl (lv_at hl 0 rfl) ?_
        refine lv_iconst (v := 3) hx hb dL_law_479 (by decide) ?_
        refine lv_iadd hx hb dL_law_480 ?_
        refine z_lit (y := 3) (by decide) ?_
        refine va_sld hx hb hX hbl hbA hw.2.2 (z_ix (show (3 : Int32).toInt = 3 by decide) (by omega)) dL_law_481 ?_
        refine z_lit (y := x3) ex3.symm ?_
        refine z_calliV (cells := 164) (slots := 16321) (b := hs) (As := [.int x1, .int x2, .int x3]) (rest := []) (ci := 9) (q0 := (RX9, TX9, 11)) ⟨hx, hb, hml, hown, hT⟩ (c_X9_counter l hm_hs hm_mo hf_hs hf_mo) (cwV 3 hT (z_goodV (fun _ h => h) kw_747 kw_748 kw_749 kw_85 kw_750) rfl rfl rfl (by decide +kernel) ⟨by decide, by decide⟩) z_mv hKK hK hw hA hm_hs hf_hs rfl rfl rfl hl.1 rfl (Nat.le_of_ble_eq_true rfl) dL_law_482 ⟨by decide, by decide⟩ (fun r77 u H locs hp hw => ?_)
        obtain ⟨rfl, hp⟩ := hp
        have hw : z_H D vwCl ((fun q : Nat => s.heap.size ≤ q)) s.heap L7 f8 H locs := hw
        have hpA := hp
        refine lv_aload_n hx hb dL_law_485 rfl (lv_at hl 1 rfl) ?_
        refine lv_aload_n hx hb dL_law_486 rfl (lv_at hl 3 rfl) ?_
        refine lv_iload_n hx hb dL_law_487 rfl (lv_at hl 0 rfl) ?_
        refine lv_iconst (v := 1) hx hb dL_law_488 (by decide) ?_
        refine lv_iadd hx hb dL_law_489 ?_
        refine z_lit (y := 1) (by decide) ?_
        refine va_sld hx hb hX hbl hbA hw.2.2 (z_ix (show (1 : Int32).toInt = 1 by decide) (by omega)) dL_law_490 ?_
        refine z_lit (y := x1) ex1.symm ?_
        refine lv_aload_n hx hb dL_law_491 rfl (lv_at hl 3 rfl) ?_
        refine lv_iload_n hx hb dL_law_492 rfl (lv_at hl 0 rfl) ?_
        refine lv_iconst (v := 2) hx hb dL_law_493 (by decide) ?_
        refine lv_iadd hx hb dL_law_494 ?_
        refine z_lit (y := 2) (by decide) ?_
        refine va_sld hx hb hX hbl hbA hw.2.2 (z_ix (show (2 : Int32).toInt = 2 by decide) (by omega)) dL_law_495 ?_
        refine z_lit (y := x2) ex2.symm ?_
        refine lv_aload_n hx hb dL_law_496 rfl (lv_at hl 3 rfl) ?_
        refine lv_iload_n hx hb dL_law_497 rfl (lv_at hl 0 rfl) ?_
        refine lv_iconst (v := 3) hx hb dL_law_498 (by decide) ?_
        refine lv_iadd hx hb dL_law_499 ?_
        refine z_lit (y := 3) (by decide) ?_
        refine va_sld hx hb hX hbl hbA hw.2.2 (z_ix (show (3 : Int32).toInt = 3 by decide) (by omega)) dL_law_500 ?_
        refine z_lit (y := x3) ex3.symm ?_
        refine z_calliV (cells := 164) (slots := 16321) (b := me) (As := [.int x1, .int x2, .int x3]) (rest := [.int r77]) (ci := 10) (q0 := (RX10, TX10, 54)) ⟨hx, hb, hml, hown, hT⟩ (c_X10_counter l hm_me hm_ml hm_mh hf_me hf_ml hf_mh) (cwV 3 hT (z_goodV (fun _ h => h) kw_1531 kw_1532 kw_1533 kw_96 kw_1534) rfl rfl rfl (by decide +kernel) ⟨by decide, by decide⟩) z_mv hKK hK hw hA hm_me hf_me rfl rfl rfl hl.1 rfl (Nat.le_of_ble_eq_true rfl) dL_law_501 ⟨by decide, by decide⟩ (fun r78 u H locs hp hw => ?_)
        obtain ⟨L79, f80⟩ := u
        obtain ⟨hsb, hfm, hp⟩ := hp
        have hw : z_H D vwCl ((fun q : Nat => s.heap.size ≤ q)) s.heap L79 f80 H locs := hw
        have hf_hs : f80 hs = .inr (9, [.ref tp, .ref rd, .ref mo, .ref dr, .ref im, .ref kp, .ref sl, .ref wk, .ref pl, .ref ex, .ref mx]) := (hfm hs hm_hs ne_hs_me).trans hf_hs
        have hf_mo : f80 mo = .inr (2, [.int 0, .int 0, .int 0, .int 0, .int 0, .int 0, .int 0, .ref la, .ref sa, .ref mi, .ref da]) := (hfm mo hm_mo ne_mo_me).trans hf_mo
        have hf_ml : f80 ml = .inl (cy 1, 5, .inl (fun _ => 0)) := (hfm ml hm_ml (Ne.symm ne_me_ml)).trans hf_ml
        have hf_mh : f80 mh = .inl (cy 1, 30, .inl (fun _ => 0)) := (hfm mh hm_mh (Ne.symm ne_me_mh)).trans hf_mh
        have hm_hs : hs ∈ L79 := hsb _ hm_hs
        have hm_mo : mo ∈ L79 := hsb _ hm_mo
        have hm_me : me ∈ L79 := hsb _ hm_me
        have hm_ml : ml ∈ L79 := hsb _ hm_ml
        have hm_mh : mh ∈ L79 := hsb _ hm_mh
        have hpB := hp
        refine z_icmp_eq (tgt := 1615) hx hb rfl rfl dL_law_504 (by decide) (fun c81 => ?_) (fun c81 => False.elim (by omega))
        refine lv_iinc (v := 6) (lv' := [(3, .int 6), (2, .ref me), (1, .ref hs), (0, .ref b)]) hx hb dL_law_1615 hl (k := 0) rfl (by decide) (by decide) rfl (fun ls hl => ?_)
        refine lv_goto (tgt := 18) hx hb dL_law_1618 (by decide) ?_
        refine lv_iload_n hx hb dL_law_18 rfl (lv_at hl 0 rfl) ?_
        refine lv_aload_n hx hb dL_law_19 rfl (lv_at hl 3 rfl) ?_
        refine va_slen hx hb hX hbl hbA hw.2.2 dL_law_20 ?_
        refine lv_topi (fun ln e_ln => ?_)
        have i_ln : ln.toInt = L := by rw [e_ln]; exact nI_toInt (by omega)
        refine lv_bipush (v := 6) hx hb dL_law_21 (by decide) ?_
        refine lv_isub hx hb dL_law_23 ?_
        refine lv_topi (fun w82 e_w82 => ?_)
        have i_w82 : w82.toInt = ((L : Int) - 6) := z_subI e_w82 i_ln (show (6 : Int32).toInt = 6 by decide) (by omega)
        refine z_icmp_gt (tgt := 1621) hx hb (show (6 : Int32).toInt = 6 by decide) i_w82 dL_law_24 (by decide) (fun c83 => ?_) (fun c83 => False.elim (by omega))
        refine lv_iconst (v := 1) hx hb dL_law_1621 (by decide) ?_
        refine va_forget (fun q hq => hw.2.2.2.2 q hq) ?_
        refine W.widen (k := 600000) (n := 7302250) (by decide) (by decide) ?_
        exact lw_ret hx hb hr hlocks dL_law_1622
      · skip
        refine lv_tableIn (off := 476) (tgt := 509) hx hb dL_law_33 (by omega) (by omega) (by rw [show w11.toInt = 9 from c12]; rfl) (by decide) ?_
        refine lv_aload_n hx hb dL_law_509 rfl (lv_at hl 2 rfl) ?_
        refine lv_aload_n hx hb dL_law_510 rfl (lv_at hl 3 rfl) ?_
        refine lv_iload_n hx hb dL_law_511 rfl (lv_at hl 0 rfl) ?_
        refine lv_iconst (v := 1) hx hb dL_law_512 (by decide) ?_
        refine lv_iadd hx hb dL_law_513 ?_
        refine z_lit (y := 1) (by decide) ?_
        refine va_sld hx hb hX hbl hbA hw.2.2 (z_ix (show (1 : Int32).toInt = 1 by decide) (by omega)) dL_law_514 ?_
        refine z_lit (y := x1) ex1.symm ?_
        refine lv_aload_n hx hb dL_law_515 rfl (lv_at hl 3 rfl) ?_
        refine lv_iload_n hx hb dL_law_516 rfl (lv_at hl 0 rfl) ?_
        refine lv_iconst (v := 2) hx hb dL_law_517 (by decide) ?_
        refine lv_iadd hx hb dL_law_518 ?_
        refine z_lit (y := 2) (by decide) ?_
        refine va_sld hx hb hX hbl hbA hw.2.2 (z_ix (show (2 : Int32).toInt = 2 by decide) (by omega)) dL_law_519 ?_
        refine z_lit (y := x2) ex2.symm ?_
        refine lv_aload_n hx hb dL_law_520 rfl (lv_at hl 3 rfl) ?_
        refine lv_iload_n hx hb dL_law_521 rfl (lv_at hl 0 rfl) ?_
        refine lv_iconst (v := 3) hx hb dL_law_522 (by decide) ?_
        refine lv_iadd hx hb dL_law_523 ?_
        refine z_lit (y := 3) (by decide) ?_
        refine va_sld hx hb hX hbl hbA hw.2.2 (z_ix (show (3 : Int32).toInt = 3 by decide) (by omega)) dL_law_524 ?_
        refine z_lit (y := x3) ex3.symm ?_
        refine z_calliV (cells := 164) (slots := 16321) (b := hs) (As := [.int x1, .int x2, .int x3]) (rest := []) (ci := 9) (q0 := (RX9, TX9, 11)) ⟨hx, hb, hml, hown, hT⟩ (c_X9_through l hm_hs hm_mo hf_hs hf_mo) (cwV 3 hT (z_goodV (fun _ h => h) kw_810 kw_811 kw_812 kw_85 kw_813) rfl rfl rfl (by decide +kernel) ⟨by decide, by decide⟩) z_mv hKK hK hw hA hm_hs hf_hs rfl rfl rfl hl.1 rfl (Nat.le_of_ble_eq_true rfl) dL_law_525 ⟨by decide, by decide⟩ (fun r84 u H locs hp hw => ?_)
        obtain ⟨rfl, hp⟩ := hp
        have hw : z_H D vwCl ((fun q : Nat => s.heap.size ≤ q)) s.heap L7 f8 H locs := hw
        have hpA := hp
        refine lv_aload_n hx hb dL_law_528 rfl (lv_at hl 1 rfl) ?_
        refine lv_aload_n hx hb dL_law_529 rfl (lv_at hl 3 rfl) ?_
        refine lv_iload_n hx hb dL_law_530 rfl (lv_at hl 0 rfl) ?_
        refine lv_iconst (v := 1) hx hb dL_law_531 (by decide) ?_
        refine lv_iadd hx hb dL_law_532 ?_
        refine z_lit (y := 1) (by decide) ?_
        refine va_sld hx hb hX hbl hbA hw.2.2 (z_ix (show (1 : Int32).toInt = 1 by decide) (by omega)) dL_law_533 ?_
        refine z_lit (y := x1) ex1.symm ?_
        refine lv_aload_n hx hb dL_law_534 rfl (lv_at hl 3 rfl) ?_
        refine lv_iload_n hx hb dL_law_535 rfl (lv_at hl 0 rfl) ?_
        refine lv_iconst (v := 2) hx hb dL_law_536 (by decide) ?_
        refine lv_iadd hx hb dL_law_537 ?_
        refine z_lit (y := 2) (by decide) ?_
        refine va_sld hx hb hX hbl hbA hw.2.2 (z_ix (show (2 : Int32).toInt = 2 by decide) (by omega)) dL_law_538 ?_
        refine z_lit (y := x2) ex2.symm ?_
        refine lv_aload_n hx hb dL_law_539 rfl (lv_at hl 3 rfl) ?_
        refine lv_iload_n hx hb dL_law_540 rfl (lv_at hl 0 rfl) ?_
        refine lv_iconst (v := 3) hx hb dL_law_541 (by decide) ?_
        refine lv_iadd hx hb dL_law_542 ?_
        refine z_lit (y := 3) (by decide) ?_
        refine va_sld hx hb hX hbl hbA hw.2.2 (z_ix (show (3 : Int32).toInt = 3 by decide) (by omega)) dL_law_543 ?_
        refine z_lit (y := x3) ex3.symm ?_
        refine z_calliV (cells := 164) (slots := 16321) (b := me) (As := [.int x1, .int x2, .int x3]) (rest := [.int r84]) (ci := 10) (q0 := (RX10, TX10, 54)) ⟨hx, hb, hml, hown, hT⟩ (c_X10_through l hm_me hm_ml hm_mh hf_me hf_ml hf_mh) (cwV 3 hT (z_goodV (fun _ h => h) kw_1583 kw_1584 kw_1585 kw_96 kw_1586) rfl rfl rfl (by decide +kernel) ⟨by decide, by decide⟩) z_mv hKK hK hw hA hm_me hf_me rfl rfl rfl hl.1 rfl (Nat.le_of_ble_eq_true rfl) dL_law_544 ⟨by decide, by decide⟩ (fun r85 u H locs hp hw => ?_)
        obtain ⟨L86, f87⟩ := u
        obtain ⟨hsb, hfm, hp⟩ := hp
        have hw : z_H D vwCl ((fun q : Nat => s.heap.size ≤ q)) s.heap L86 f87 H locs := hw
        have hf_hs : f87 hs = .inr (9, [.ref tp, .ref rd, .ref mo, .ref dr, .ref im, .ref kp, .ref sl, .ref wk, .ref pl, .ref ex, .ref mx]) := (hfm hs hm_hs ne_hs_me).trans hf_hs
        have hf_mo : f87 mo = .inr (2, [.int 0, .int 0, .int 0, .int 0, .int 0, .int 0, .int 0, .ref la, .ref sa, .ref mi, .ref da]) := (hfm mo hm_mo ne_mo_me).trans hf_mo
        have hf_ml : f87 ml = .inl (cy 1, 5, .inl (fun _ => 0)) := (hfm ml hm_ml (Ne.symm ne_me_ml)).trans hf_ml
        have hf_mh : f87 mh = .inl (cy 1, 30, .inl (fun _ => 0)) := (hfm mh hm_mh (Ne.symm ne_me_mh)).trans hf_mh
        have hm_hs : hs ∈ L86 := hsb _ hm_hs
        have hm_mo : mo ∈ L86 := hsb _ hm_mo
        have hm_me : me ∈ L86 := hsb _ hm_me
        have hm_ml : ml ∈ L86 := hsb _ hm_ml
        have hm_mh : mh ∈ L86 := hsb _ hm_mh
        have hpB := hp
        refine z_icmp_eq (tgt := 1615) hx hb rfl rfl dL_law_547 (by decide) (fun c88 => ?_) (fun c88 => False.elim (by omega))
        refine lv_iinc (v := 6) (lv' := [(3, .int 6), (2, .ref me), (1, .ref hs), (0, .ref b)]) hx hb dL_law_1615 hl (k := 0) rfl (by decide) (by decide) rfl (fun ls hl => ?_)
        refine lv_goto (tgt := 18) hx hb dL_law_1618 (by decide) ?_
        refine lv_iload_n hx hb dL_law_18 rfl (lv_at hl 0 rfl) ?_
        refine lv_aload_n hx hb dL_law_19 rfl (lv_at hl 3 rfl) ?_
        refine va_slen hx hb hX hbl hbA hw.2.2 dL_law_20 ?_
        refine lv_topi (fun ln e_ln => ?_)
        have i_ln : ln.toInt = L := by rw [e_ln]; exact nI_toInt (by omega)
        refine lv_bipush (v := 6) hx hb dL_law_21 (by decide) ?_
        refine lv_isub hx hb dL_law_23 ?_
        refine lv_topi (fun w89 e_w89 => ?_)
        have i_w89 : w89.toInt = ((L : Int) - 6) := z_subI e_w89 i_ln (show (6 : Int32).toInt = 6 by decide) (by omega)
        refine z_icmp_gt (tgt := 1621) hx hb (show (6 : Int32).toInt = 6 by decide) i_w89 dL_law_24 (by decide) (fun c90 => ?_) (fun c90 => False.elim (by omega))
        refine lv_iconst (v := 1) hx hb dL_law_1621 (by decide) ?_
        refine va_forget (fun q hq => hw.2.2.2.2 q hq) ?_
        refine W.widen (k := 600000) (n := 7302250) (by decide) (by decide) ?_
        exact lw_ret hx hb hr hlocks dL_law_1622
      · skip
        refine lv_tableIn (off := 519) (tgt := 552) hx hb dL_law_33 (by omega) (by omega) (by rw [show w11.toInt = 10 from c12]; rfl) (by decide) ?_
        refine lv_aload_n hx hb dL_law_552 rfl (lv_at hl 2 rfl) ?_
        refine z_calliV (cells := 164) (slots := 16321) (b := hs) (As := []) (rest := []) (ci := 9) (q0 := (RX9, TX9, 11)) ⟨hx, hb, hml, hown, hT⟩ (c_X9_dues l hm_hs hm_mo hf_hs hf_mo) (cwV 0 hT (z_goodV (fun _ h => h) kw_830 kw_831 kw_832 kw_85 kw_833) rfl rfl rfl (by decide +kernel) ⟨by decide, by decide⟩) z_mv hKK hK hw hA hm_hs hf_hs rfl rfl rfl hl.1 rfl (Nat.le_of_ble_eq_true rfl) dL_law_553 ⟨by decide, by decide⟩ (fun r91 u H locs hp hw => ?_)
        obtain ⟨rfl, hp⟩ := hp
        have hw : z_H D vwCl ((fun q : Nat => s.heap.size ≤ q)) s.heap L7 f8 H locs := hw
        have hpA := hp
        refine lv_aload_n hx hb dL_law_556 rfl (lv_at hl 1 rfl) ?_
        refine z_calliV (cells := 164) (slots := 16321) (b := me) (As := []) (rest := [.int r91]) (ci := 10) (q0 := (RX10, TX10, 54)) ⟨hx, hb, hml, hown, hT⟩ (c_X10_dues l hm_me hm_ml hm_mh hf_me hf_ml hf_mh) (cwV 0 hT (z_goodV (fun _ h => h) kw_1591 kw_1592 kw_1593 kw_96 kw_1594) rfl rfl rfl (by decide +kernel) ⟨by decide, by decide⟩) z_mv hKK hK hw hA hm_me hf_me rfl rfl rfl hl.1 rfl (Nat.le_of_ble_eq_true rfl) dL_law_557 ⟨by decide, by decide⟩ (fun r92 u H locs hp hw => ?_)
        obtain ⟨L93, f94⟩ := u
        obtain ⟨hsb, hfm, hp⟩ := hp
        have hw : z_H D vwCl ((fun q : Nat => s.heap.size ≤ q)) s.heap L93 f94 H locs := hw
        have hf_hs : f94 hs = .inr (9, [.ref tp, .ref rd, .ref mo, .ref dr, .ref im, .ref kp, .ref sl, .ref wk, .ref pl, .ref ex, .ref mx]) := (hfm hs hm_hs ne_hs_me).trans hf_hs
        have hf_mo : f94 mo = .inr (2, [.int 0, .int 0, .int 0, .int 0, .int 0, .int 0, .int 0, .ref la, .ref sa, .ref mi, .ref da]) := (hfm mo hm_mo ne_mo_me).trans hf_mo
        have hf_ml : f94 ml = .inl (cy 1, 5, .inl (fun _ => 0)) := (hfm ml hm_ml (Ne.symm ne_me_ml)).trans hf_ml
        have hf_mh : f94 mh = .inl (cy 1, 30, .inl (fun _ => 0)) := (hfm mh hm_mh (Ne.symm ne_me_mh)).trans hf_mh
        have hm_hs : hs ∈ L93 := hsb _ hm_hs
        have hm_mo : mo ∈ L93 := hsb _ hm_mo
        have hm_me : me ∈ L93 := hsb _ hm_me
        have hm_ml : ml ∈ L93 := hsb _ hm_ml
        have hm_mh : mh ∈ L93 := hsb _ hm_mh
        have hpB := hp
        refine z_icmp_eq (tgt := 1615) hx hb rfl rfl dL_law_560 (by decide) (fun c95 => ?_) (fun c95 => False.elim (by omega))
        refine lv_iinc (v := 6) (lv' := [(3, .int 6), (2, .ref me), (1, .ref hs), (0, .ref b)]) hx hb dL_law_1615 hl (k := 0) rfl (by decide) (by decide) rfl (fun ls hl => ?_)
        refine lv_goto (tgt := 18) hx hb dL_law_1618 (by decide) ?_
        refine lv_iload_n hx hb dL_law_18 rfl (lv_at hl 0 rfl) ?_
        refine lv_aload_n hx hb dL_law_19 rfl (lv_at hl 3 rfl) ?_
        refine va_slen hx hb hX hbl hbA hw.2.2 dL_law_20 ?_
        refine lv_topi (fun ln e_ln => ?_)
        have i_ln : ln.toInt = L := by rw [e_ln]; exact nI_toInt (by omega)
        refine lv_bipush (v := 6) hx hb dL_law_21 (by decide) ?_
        refine lv_isub hx hb dL_law_23 ?_
        refine lv_topi (fun w96 e_w96 => ?_)
        have i_w96 : w96.toInt = ((L : Int) - 6) := z_subI e_w96 i_ln (show (6 : Int32).toInt = 6 by decide) (by omega)
        refine z_icmp_gt (tgt := 1621) hx hb (show (6 : Int32).toInt = 6 by decide) i_w96 dL_law_24 (by decide) (fun c97 => ?_) (fun c97 => False.elim (by omega))
        refine lv_iconst (v := 1) hx hb dL_law_1621 (by decide) ?_
        refine va_forget (fun q hq => hw.2.2.2.2 q hq) ?_
        refine W.widen (k := 600000) (n := 7302250) (by decide) (by decide) ?_
        exact lw_ret hx hb hr hlocks dL_law_1622
      · skip
        refine lv_tableIn (off := 532) (tgt := 565) hx hb dL_law_33 (by omega) (by omega) (by rw [show w11.toInt = 11 from c12]; rfl) (by decide) ?_
        refine lv_aload_n hx hb dL_law_565 rfl (lv_at hl 2 rfl) ?_
        refine lv_aload_n hx hb dL_law_566 rfl (lv_at hl 3 rfl) ?_
        refine lv_iload_n hx hb dL_law_567 rfl (lv_at hl 0 rfl) ?_
        refine lv_iconst (v := 1) hx hb dL_law_568 (by decide) ?_
        refine lv_iadd hx hb dL_law_569 ?_
        refine z_lit (y := 1) (by decide) ?_
        refine va_sld hx hb hX hbl hbA hw.2.2 (z_ix (show (1 : Int32).toInt = 1 by decide) (by omega)) dL_law_570 ?_
        refine z_lit (y := x1) ex1.symm ?_
        refine lv_aload_n hx hb dL_law_571 rfl (lv_at hl 3 rfl) ?_
        refine lv_iload_n hx hb dL_law_572 rfl (lv_at hl 0 rfl) ?_
        refine lv_iconst (v := 2) hx hb dL_law_573 (by decide) ?_
        refine lv_iadd hx hb dL_law_574 ?_
        refine z_lit (y := 2) (by decide) ?_
        refine va_sld hx hb hX hbl hbA hw.2.2 (z_ix (show (2 : Int32).toInt = 2 by decide) (by omega)) dL_law_575 ?_
        refine z_lit (y := x2) ex2.symm ?_
        refine z_calliV (cells := 164) (slots := 16321) (b := hs) (As := [.int x1, .int x2]) (rest := []) (ci := 9) (q0 := (RX9, TX9, 11)) ⟨hx, hb, hml, hown, hT⟩ (c_X9_due l hm_hs hm_mo hf_hs hf_mo) (cwV 2 hT (z_goodV (fun _ h => h) kw_838 kw_839 kw_840 kw_85 kw_841) rfl rfl rfl (by decide +kernel) ⟨by decide, by decide⟩) z_mv hKK hK hw hA hm_hs hf_hs rfl rfl rfl hl.1 rfl (Nat.le_of_ble_eq_true rfl) dL_law_576 ⟨by decide, by decide⟩ (fun r98 u H locs hp hw => ?_)
        obtain ⟨rfl, hp⟩ := hp
        have hw : z_H D vwCl ((fun q : Nat => s.heap.size ≤ q)) s.heap L7 f8 H locs := hw
        have hpA := hp
        refine lv_aload_n hx hb dL_law_579 rfl (lv_at hl 1 rfl) ?_
        refine lv_aload_n hx hb dL_law_580 rfl (lv_at hl 3 rfl) ?_
        refine lv_iload_n hx hb dL_law_581 rfl (lv_at hl 0 rfl) ?_
        refine lv_iconst (v := 1) hx hb dL_law_582 (by decide) ?_
        refine lv_iadd hx hb dL_law_583 ?_
        refine z_lit (y := 1) (by decide) ?_
        refine va_sld hx hb hX hbl hbA hw.2.2 (z_ix (show (1 : Int32).toInt = 1 by decide) (by omega)) dL_law_584 ?_
        refine z_lit (y := x1) ex1.symm ?_
        refine lv_aload_n hx hb dL_law_585 rfl (lv_at hl 3 rfl) ?_
        refine lv_iload_n hx hb dL_law_586 rfl (lv_at hl 0 rfl) ?_
        refine lv_iconst (v := 2) hx hb dL_law_587 (by decide) ?_
        refine lv_iadd hx hb dL_law_588 ?_
        refine z_lit (y := 2) (by decide) ?_
        refine va_sld hx hb hX hbl hbA hw.2.2 (z_ix (show (2 : Int32).toInt = 2 by decide) (by omega)) dL_law_589 ?_
        refine z_lit (y := x2) ex2.symm ?_
        refine z_calliV (cells := 164) (slots := 16321) (b := me) (As := [.int x1, .int x2]) (rest := [.int r98]) (ci := 10) (q0 := (RX10, TX10, 54)) ⟨hx, hb, hml, hown, hT⟩ (c_X10_due l hm_me hm_ml hm_mh hf_me hf_ml hf_mh) (cwV 2 hT (z_goodV (fun _ h => h) kw_1595 kw_1596 kw_1597 kw_96 kw_1598) rfl rfl rfl (by decide +kernel) ⟨by decide, by decide⟩) z_mv hKK hK hw hA hm_me hf_me rfl rfl rfl hl.1 rfl (Nat.le_of_ble_eq_true rfl) dL_law_590 ⟨by decide, by decide⟩ (fun r99 u H locs hp hw => ?_)
        obtain ⟨L100, f101⟩ := u
        obtain ⟨hsb, hfm, hp⟩ := hp
        have hw : z_H D vwCl ((fun q : Nat => s.heap.size ≤ q)) s.heap L100 f101 H locs := hw
        have hf_hs : f101 hs = .inr (9, [.ref tp, .ref rd, .ref mo, .ref dr, .ref im, .ref kp, .ref sl, .ref wk, .ref pl, .ref ex, .ref mx]) := (hfm hs hm_hs ne_hs_me).trans hf_hs
        have hf_mo : f101 mo = .inr (2, [.int 0, .int 0, .int 0, .int 0, .int 0, .int 0, .int 0, .ref la, .ref sa, .ref mi, .ref da]) := (hfm mo hm_mo ne_mo_me).trans hf_mo
        have hf_ml : f101 ml = .inl (cy 1, 5, .inl (fun _ => 0)) := (hfm ml hm_ml (Ne.symm ne_me_ml)).trans hf_ml
        have hf_mh : f101 mh = .inl (cy 1, 30, .inl (fun _ => 0)) := (hfm mh hm_mh (Ne.symm ne_me_mh)).trans hf_mh
        have hm_hs : hs ∈ L100 := hsb _ hm_hs
        have hm_mo : mo ∈ L100 := hsb _ hm_mo
        have hm_me : me ∈ L100 := hsb _ hm_me
        have hm_ml : ml ∈ L100 := hsb _ hm_ml
        have hm_mh : mh ∈ L100 := hsb _ hm_mh
        have hpB := hp
        refine z_icmp_eq (tgt := 1615) hx hb rfl rfl dL_law_593 (by decide) (fun c102 => ?_) (fun c102 => False.elim (by omega))
        refine lv_iinc (v := 6) (lv' := [(3, .int 6), (2, .ref me), (1, .ref hs), (0, .ref b)]) hx hb dL_law_1615 hl (k := 0) rfl (by decide) (by decide) rfl (fun ls hl => ?_)
        refine lv_goto (tgt := 18) hx hb dL_law_1618 (by decide) ?_
        refine lv_iload_n hx hb dL_law_18 rfl (lv_at hl 0 rfl) ?_
        refine lv_aload_n hx hb dL_law_19 rfl (lv_at hl 3 rfl) ?_
        refine va_slen hx hb hX hbl hbA hw.2.2 dL_law_20 ?_
        refine lv_topi (fun ln e_ln => ?_)
        have i_ln : ln.toInt = L := by rw [e_ln]; exact nI_toInt (by omega)
        refine lv_bipush (v := 6) hx hb dL_law_21 (by decide) ?_
        refine lv_isub hx hb dL_law_23 ?_
        refine lv_topi (fun w103 e_w103 => ?_)
        have i_w103 : w103.toInt = ((L : Int) - 6) := z_subI e_w103 i_ln (show (6 : Int32).toInt = 6 by decide) (by omega)
        refine z_icmp_gt (tgt := 1621) hx hb (show (6 : Int32).toInt = 6 by decide) i_w103 dL_law_24 (by decide) (fun c104 => ?_) (fun c104 => False.elim (by omega))
        refine lv_iconst (v := 1) hx hb dL_law_1621 (by decide) ?_
        refine va_forget (fun q hq => hw.2.2.2.2 q hq) ?_
        refine W.widen (k := 600000) (n := 7302250) (by decide) (by decide) ?_
        exact lw_ret hx hb hr hlocks dL_law_1622
      · skip
        refine lv_tableIn (off := 565) (tgt := 598) hx hb dL_law_33 (by omega) (by omega) (by rw [show w11.toInt = 12 from c12]; rfl) (by decide) ?_
        refine lv_aload_n hx hb dL_law_598 rfl (lv_at hl 2 rfl) ?_
        refine lv_aload_n hx hb dL_law_599 rfl (lv_at hl 3 rfl) ?_
        refine lv_iload_n hx hb dL_law_600 rfl (lv_at hl 0 rfl) ?_
        refine lv_iconst (v := 1) hx hb dL_law_601 (by decide) ?_
        refine lv_iadd hx hb dL_law_602 ?_
        refine z_lit (y := 1) (by decide) ?_
        refine va_sld hx hb hX hbl hbA hw.2.2 (z_ix (show (1 : Int32).toInt = 1 by decide) (by omega)) dL_law_603 ?_
        refine z_lit (y := x1) ex1.symm ?_
        refine z_calliV (cells := 164) (slots := 16321) (b := hs) (As := [.int x1]) (rest := []) (ci := 9) (q0 := (RX9, TX9, 11)) ⟨hx, hb, hml, hown, hT⟩ (c_X9_paid l hm_hs hm_mo hf_hs hf_mo) (cwV 1 hT (z_goodV (fun _ h => h) kw_854 kw_855 kw_856 kw_85 kw_857) rfl rfl rfl (by decide +kernel) ⟨by decide, by decide⟩) z_mv hKK hK hw hA hm_hs hf_hs rfl rfl rfl hl.1 rfl (Nat.le_of_ble_eq_true rfl) dL_law_604 ⟨by decide, by decide⟩ (fun r105 u H locs hp hw => ?_)
        obtain ⟨rfl, hp⟩ := hp
        have hw : z_H D vwCl ((fun q : Nat => s.heap.size ≤ q)) s.heap L7 f8 H locs := hw
        have hpA := hp
        refine lv_aload_n hx hb dL_law_607 rfl (lv_at hl 1 rfl) ?_
        refine lv_aload_n hx hb dL_law_608 rfl (lv_at hl 3 rfl) ?_
        refine lv_iload_n hx hb dL_law_609 rfl (lv_at hl 0 rfl) ?_
        refine lv_iconst (v := 1) hx hb dL_law_610 (by decide) ?_
        refine lv_iadd hx hb dL_law_611 ?_
        refine z_lit (y := 1) (by decide) ?_
        refine va_sld hx hb hX hbl hbA hw.2.2 (z_ix (show (1 : Int32).toInt = 1 by decide) (by omega)) dL_law_612 ?_
        refine z_lit (y := x1) ex1.symm ?_
        refine z_calliV (cells := 164) (slots := 16321) (b := me) (As := [.int x1]) (rest := [.int r105]) (ci := 10) (q0 := (RX10, TX10, 54)) ⟨hx, hb, hml, hown, hT⟩ (c_X10_paid l hm_me hm_ml hm_mh hf_me hf_ml hf_mh) (cwV 1 hT (z_goodV (fun _ h => h) kw_1600 kw_1601 kw_1602 kw_96 kw_1603) rfl rfl rfl (by decide +kernel) ⟨by decide, by decide⟩) z_mv hKK hK hw hA hm_me hf_me rfl rfl rfl hl.1 rfl (Nat.le_of_ble_eq_true rfl) dL_law_613 ⟨by decide, by decide⟩ (fun r106 u H locs hp hw => ?_)
        obtain ⟨L107, f108⟩ := u
        obtain ⟨hsb, hfm, hp⟩ := hp
        have hw : z_H D vwCl ((fun q : Nat => s.heap.size ≤ q)) s.heap L107 f108 H locs := hw
        have hf_hs : f108 hs = .inr (9, [.ref tp, .ref rd, .ref mo, .ref dr, .ref im, .ref kp, .ref sl, .ref wk, .ref pl, .ref ex, .ref mx]) := (hfm hs hm_hs ne_hs_me).trans hf_hs
        have hf_mo : f108 mo = .inr (2, [.int 0, .int 0, .int 0, .int 0, .int 0, .int 0, .int 0, .ref la, .ref sa, .ref mi, .ref da]) := (hfm mo hm_mo ne_mo_me).trans hf_mo
        have hf_ml : f108 ml = .inl (cy 1, 5, .inl (fun _ => 0)) := (hfm ml hm_ml (Ne.symm ne_me_ml)).trans hf_ml
        have hf_mh : f108 mh = .inl (cy 1, 30, .inl (fun _ => 0)) := (hfm mh hm_mh (Ne.symm ne_me_mh)).trans hf_mh
        have hm_hs : hs ∈ L107 := hsb _ hm_hs
        have hm_mo : mo ∈ L107 := hsb _ hm_mo
        have hm_me : me ∈ L107 := hsb _ hm_me
        have hm_ml : ml ∈ L107 := hsb _ hm_ml
        have hm_mh : mh ∈ L107 := hsb _ hm_mh
        have hpB := hp
        refine z_icmp_eq (tgt := 1615) hx hb rfl rfl dL_law_616 (by decide) (fun c109 => ?_) (fun c109 => False.elim (by omega))
        refine lv_iinc (v := 6) (lv' := [(3, .int 6), (2, .ref me), (1, .ref hs), (0, .ref b)]) hx hb dL_law_1615 hl (k := 0) rfl (by decide) (by decide) rfl (fun ls hl => ?_)
        refine lv_goto (tgt := 18) hx hb dL_law_1618 (by decide) ?_
        refine lv_iload_n hx hb dL_law_18 rfl (lv_at hl 0 rfl) ?_
        refine lv_aload_n hx hb dL_law_19 rfl (lv_at hl 3 rfl) ?_
        refine va_slen hx hb hX hbl hbA hw.2.2 dL_law_20 ?_
        refine lv_topi (fun ln e_ln => ?_)
        have i_ln : ln.toInt = L := by rw [e_ln]; exact nI_toInt (by omega)
        refine lv_bipush (v := 6) hx hb dL_law_21 (by decide) ?_
        refine lv_isub hx hb dL_law_23 ?_
        refine lv_topi (fun w110 e_w110 => ?_)
        have i_w110 : w110.toInt = ((L : Int) - 6) := z_subI e_w110 i_ln (show (6 : Int32).toInt = 6 by decide) (by omega)
        refine z_icmp_gt (tgt := 1621) hx hb (show (6 : Int32).toInt = 6 by decide) i_w110 dL_law_24 (by decide) (fun c111 => ?_) (fun c111 => False.elim (by omega))
        refine lv_iconst (v := 1) hx hb dL_law_1621 (by decide) ?_
        refine va_forget (fun q hq => hw.2.2.2.2 q hq) ?_
        refine W.widen (k := 600000) (n := 7302250) (by decide) (by decide) ?_
        exact lw_ret hx hb hr hlocks dL_law_1622
      · skip
        refine lv_tableIn (off := 588) (tgt := 621) hx hb dL_law_33 (by omega) (by omega) (by rw [show w11.toInt = 13 from c12]; rfl) (by decide) ?_
        refine lv_aload_n hx hb dL_law_621 rfl (lv_at hl 2 rfl) ?_
        refine lv_aload_n hx hb dL_law_622 rfl (lv_at hl 3 rfl) ?_
        refine lv_iload_n hx hb dL_law_623 rfl (lv_at hl 0 rfl) ?_
        refine lv_iconst (v := 1) hx hb dL_law_624 (by decide) ?_
        refine lv_iadd hx hb dL_law_625 ?_
        refine z_lit (y := 1) (by decide) ?_
        refine va_sld hx hb hX hbl hbA hw.2.2 (z_ix (show (1 : Int32).toInt = 1 by decide) (by omega)) dL_law_626 ?_
        refine z_lit (y := x1) ex1.symm ?_
        refine lv_aload_n hx hb dL_law_627 rfl (lv_at hl 3 rfl) ?_
        refine lv_iload_n hx hb dL_law_628 rfl (lv_at hl 0 rfl) ?_
        refine lv_iconst (v := 2) hx hb dL_law_629 (by decide) ?_
        refine lv_iadd hx hb dL_law_630 ?_
        refine z_lit (y := 2) (by decide) ?_
        refine va_sld hx hb hX hbl hbA hw.2.2 (z_ix (show (2 : Int32).toInt = 2 by decide) (by omega)) dL_law_631 ?_
        refine z_lit (y := x2) ex2.symm ?_
        refine z_calliV (cells := 164) (slots := 16321) (b := hs) (As := [.int x1, .int x2]) (rest := []) (ci := 9) (q0 := (RX9, TX9, 11)) ⟨hx, hb, hml, hown, hT⟩ (c_X9_pays l hm_hs hm_mo hf_hs hf_mo) (cwV 2 hT (z_goodV (fun _ h => h) kw_867 kw_868 kw_869 kw_85 kw_870) rfl rfl rfl (by decide +kernel) ⟨by decide, by decide⟩) z_mv hKK hK hw hA hm_hs hf_hs rfl rfl rfl hl.1 rfl (Nat.le_of_ble_eq_true rfl) dL_law_632 ⟨by decide, by decide⟩ (fun r112 u H locs hp hw => ?_)
        obtain ⟨rfl, hp⟩ := hp
        have hw : z_H D vwCl ((fun q : Nat => s.heap.size ≤ q)) s.heap L7 f8 H locs := hw
        have hpA := hp
        refine lv_aload_n hx hb dL_law_635 rfl (lv_at hl 1 rfl) ?_
        refine lv_aload_n hx hb dL_law_636 rfl (lv_at hl 3 rfl) ?_
        refine lv_iload_n hx hb dL_law_637 rfl (lv_at hl 0 rfl) ?_
        refine lv_iconst (v := 1) hx hb dL_law_638 (by decide) ?_
        refine lv_iadd hx hb dL_law_639 ?_
        refine z_lit (y := 1) (by decide) ?_
        refine va_sld hx hb hX hbl hbA hw.2.2 (z_ix (show (1 : Int32).toInt = 1 by decide) (by omega)) dL_law_640 ?_
        refine z_lit (y := x1) ex1.symm ?_
        refine lv_aload_n hx hb dL_law_641 rfl (lv_at hl 3 rfl) ?_
        refine lv_iload_n hx hb dL_law_642 rfl (lv_at hl 0 rfl) ?_
        refine lv_iconst (v := 2) hx hb dL_law_643 (by decide) ?_
        refine lv_iadd hx hb dL_law_644 ?_
        refine z_lit (y := 2) (by decide) ?_
        refine va_sld hx hb hX hbl hbA hw.2.2 (z_ix (show (2 : Int32).toInt = 2 by decide) (by omega)) dL_law_645 ?_
        refine z_lit (y := x2) ex2.symm ?_
        refine z_calliV (cells := 164) (slots := 16321) (b := me) (As := [.int x1, .int x2]) (rest := [.int r112]) (ci := 10) (q0 := (RX10, TX10, 54)) ⟨hx, hb, hml, hown, hT⟩ (c_X10_pays l hm_me hm_ml hm_mh hf_me hf_ml hf_mh) (cwV 2 hT (z_goodV (fun _ h => h) kw_1612 kw_1613 kw_1614 kw_96 kw_1615) rfl rfl rfl (by decide +kernel) ⟨by decide, by decide⟩) z_mv hKK hK hw hA hm_me hf_me rfl rfl rfl hl.1 rfl (Nat.le_of_ble_eq_true rfl) dL_law_646 ⟨by decide, by decide⟩ (fun r113 u H locs hp hw => ?_)
        obtain ⟨L114, f115⟩ := u
        obtain ⟨hsb, hfm, hp⟩ := hp
        have hw : z_H D vwCl ((fun q : Nat => s.heap.size ≤ q)) s.heap L114 f115 H locs := hw
        have hf_hs : f115 hs = .inr (9, [.ref tp, .ref rd, .ref mo, .ref dr, .ref im, .ref kp, .ref sl, .ref wk, .ref pl, .ref ex, .ref mx]) := (hfm hs hm_hs ne_hs_me).trans hf_hs
        have hf_mo : f115 mo = .inr (2, [.int 0, .int 0, .int 0, .int 0, .int 0, .int 0, .int 0, .ref la, .ref sa, .ref mi, .ref da]) := (hfm mo hm_mo ne_mo_me).trans hf_mo
        have hf_ml : f115 ml = .inl (cy 1, 5, .inl (fun _ => 0)) := (hfm ml hm_ml (Ne.symm ne_me_ml)).trans hf_ml
        have hf_mh : f115 mh = .inl (cy 1, 30, .inl (fun _ => 0)) := (hfm mh hm_mh (Ne.symm ne_me_mh)).trans hf_mh
        have hm_hs : hs ∈ L114 := hsb _ hm_hs
        have hm_mo : mo ∈ L114 := hsb _ hm_mo
        have hm_me : me ∈ L114 := hsb _ hm_me
        have hm_ml : ml ∈ L114 := hsb _ hm_ml
        have hm_mh : mh ∈ L114 := hsb _ hm_mh
        have hpB := hp
        refine z_icmp_eq (tgt := 1615) hx hb rfl rfl dL_law_649 (by decide) (fun c116 => ?_) (fun c116 => False.elim (by omega))
        refine lv_iinc (v := 6) (lv' := [(3, .int 6), (2, .ref me), (1, .ref hs), (0, .ref b)]) hx hb dL_law_1615 hl (k := 0) rfl (by decide) (by decide) rfl (fun ls hl => ?_)
        refine lv_goto (tgt := 18) hx hb dL_law_1618 (by decide) ?_
        refine lv_iload_n hx hb dL_law_18 rfl (lv_at hl 0 rfl) ?_
        refine lv_aload_n hx hb dL_law_19 rfl (lv_at hl 3 rfl) ?_
        refine va_slen hx hb hX hbl hbA hw.2.2 dL_law_20 ?_
        refine lv_topi (fun ln e_ln => ?_)
        have i_ln : ln.toInt = L := by rw [e_ln]; exact nI_toInt (by omega)
        refine lv_bipush (v := 6) hx hb dL_law_21 (by decide) ?_
        refine lv_isub hx hb dL_law_23 ?_
        refine lv_topi (fun w117 e_w117 => ?_)
        have i_w117 : w117.toInt = ((L : Int) - 6) := z_subI e_w117 i_ln (show (6 : Int32).toInt = 6 by decide) (by omega)
        refine z_icmp_gt (tgt := 1621) hx hb (show (6 : Int32).toInt = 6 by decide) i_w117 dL_law_24 (by decide) (fun c118 => ?_) (fun c118 => False.elim (by omega))
        refine lv_iconst (v := 1) hx hb dL_law_1621 (by decide) ?_
        refine va_forget (fun q hq => hw.2.2.2.2 q hq) ?_
        refine W.widen (k := 600000) (n := 7302250) (by decide) (by decide) ?_
        exact lw_ret hx hb hr hlocks dL_law_1622
      · skip
        refine lv_tableIn (off := 621) (tgt := 654) hx hb dL_law_33 (by omega) (by omega) (by rw [show w11.toInt = 14 from c12]; rfl) (by decide) ?_
        refine lv_aload_n hx hb dL_law_654 rfl (lv_at hl 2 rfl) ?_
        refine z_calliV (cells := 164) (slots := 16321) (b := hs) (As := []) (rest := []) (ci := 9) (q0 := (RX9, TX9, 11)) ⟨hx, hb, hml, hown, hT⟩ (c_X9_worst l hm_hs hm_mo hf_hs hf_mo) (cwV 0 hT (z_goodV (fun _ h => h) kw_875 kw_876 kw_877 kw_85 kw_878) rfl rfl rfl (by decide +kernel) ⟨by decide, by decide⟩) z_mv hKK hK hw hA hm_hs hf_hs rfl rfl rfl hl.1 rfl (Nat.le_of_ble_eq_true rfl) dL_law_655 ⟨by decide, by decide⟩ (fun r119 u H locs hp hw => ?_)
        obtain ⟨rfl, hp⟩ := hp
        have hw : z_H D vwCl ((fun q : Nat => s.heap.size ≤ q)) s.heap L7 f8 H locs := hw
        have hpA := hp
        refine lv_aload_n hx hb dL_law_658 rfl (lv_at hl 1 rfl) ?_
        refine z_calliV (cells := 164) (slots := 16321) (b := me) (As := []) (rest := [.int r119]) (ci := 10) (q0 := (RX10, TX10, 54)) ⟨hx, hb, hml, hown, hT⟩ (c_X10_worst l hm_me hm_ml hm_mh hf_me hf_ml hf_mh) (cwV 0 hT (z_goodV (fun _ h => h) kw_1616 kw_1617 kw_1618 kw_96 kw_1619) rfl rfl rfl (by decide +kernel) ⟨by decide, by decide⟩) z_mv hKK hK hw hA hm_me hf_me rfl rfl rfl hl.1 rfl (Nat.le_of_ble_eq_true rfl) dL_law_659 ⟨by decide, by decide⟩ (fun r120 u H locs hp hw => ?_)
        obtain ⟨L121, f122⟩ := u
        obtain ⟨hsb, hfm, hp⟩ := hp
        have hw : z_H D vwCl ((fun q : Nat => s.heap.size ≤ q)) s.heap L121 f122 H locs := hw
        have hf_hs : f122 hs = .inr (9, [.ref tp, .ref rd, .ref mo, .ref dr, .ref im, .ref kp, .ref sl, .ref wk, .ref pl, .ref ex, .ref mx]) := (hfm hs hm_hs ne_hs_me).trans hf_hs
        have hf_mo : f122 mo = .inr (2, [.int 0, .int 0, .int 0, .int 0, .int 0, .int 0, .int 0, .ref la, .ref sa, .ref mi, .ref da]) := (hfm mo hm_mo ne_mo_me).trans hf_mo
        have hf_ml : f122 ml = .inl (cy 1, 5, .inl (fun _ => 0)) := (hfm ml hm_ml (Ne.symm ne_me_ml)).trans hf_ml
        have hf_mh : f122 mh = .inl (cy 1, 30, .inl (fun _ => 0)) := (hfm mh hm_mh (Ne.symm ne_me_mh)).trans hf_mh
        have hm_hs : hs ∈ L121 := hsb _ hm_hs
        have hm_mo : mo ∈ L121 := hsb _ hm_mo
        have hm_me : me ∈ L121 := hsb _ hm_me
        have hm_ml : ml ∈ L121 := hsb _ hm_ml
        have hm_mh : mh ∈ L121 := hsb _ hm_mh
        have hpB := hp
        refine z_icmp_eq (tgt := 1615) hx hb rfl rfl dL_law_662 (by decide) (fun c123 => ?_) (fun c123 => False.elim (by omega))
        refine lv_iinc (v := 6) (lv' := [(3, .int 6), (2, .ref me), (1, .ref hs), (0, .ref b)]) hx hb dL_law_1615 hl (k := 0) rfl (by decide) (by decide) rfl (fun ls hl => ?_)
        refine lv_goto (tgt := 18) hx hb dL_law_1618 (by decide) ?_
        refine lv_iload_n hx hb dL_law_18 rfl (lv_at hl 0 rfl) ?_
        refine lv_aload_n hx hb dL_law_19 rfl (lv_at hl 3 rfl) ?_
        refine va_slen hx hb hX hbl hbA hw.2.2 dL_law_20 ?_
        refine lv_topi (fun ln e_ln => ?_)
        have i_ln : ln.toInt = L := by rw [e_ln]; exact nI_toInt (by omega)
        refine lv_bipush (v := 6) hx hb dL_law_21 (by decide) ?_
        refine lv_isub hx hb dL_law_23 ?_
        refine lv_topi (fun w124 e_w124 => ?_)
        have i_w124 : w124.toInt = ((L : Int) - 6) := z_subI e_w124 i_ln (show (6 : Int32).toInt = 6 by decide) (by omega)
        refine z_icmp_gt (tgt := 1621) hx hb (show (6 : Int32).toInt = 6 by decide) i_w124 dL_law_24 (by decide) (fun c125 => ?_) (fun c125 => False.elim (by omega))
        refine lv_iconst (v := 1) hx hb dL_law_1621 (by decide) ?_
        refine va_forget (fun q hq => hw.2.2.2.2 q hq) ?_
        refine W.widen (k := 600000) (n := 7302250) (by decide) (by decide) ?_
        exact lw_ret hx hb hr hlocks dL_law_1622
      · skip
        refine lv_tableIn (off := 634) (tgt := 667) hx hb dL_law_33 (by omega) (by omega) (by rw [show w11.toInt = 15 from c12]; rfl) (by decide) ?_
        refine lv_aload_n hx hb dL_law_667 rfl (lv_at hl 2 rfl) ?_
        refine lv_aload_n hx hb dL_law_668 rfl (lv_at hl 3 rfl) ?_
        refine lv_iload_n hx hb dL_law_669 rfl (lv_at hl 0 rfl) ?_
        refine lv_iconst (v := 1) hx hb dL_law_670 (by decide) ?_
        refine lv_iadd hx hb dL_law_671 ?_
        refine z_lit (y := 1) (by decide) ?_
        refine va_sld hx hb hX hbl hbA hw.2.2 (z_ix (show (1 : Int32).toInt = 1 by decide) (by omega)) dL_law_672 ?_
        refine z_lit (y := x1) ex1.symm ?_
        refine z_calliV (cells := 164) (slots := 16321) (b := hs) (As := [.int x1]) (rest := []) (ci := 9) (q0 := (RX9, TX9, 11)) ⟨hx, hb, hml, hown, hT⟩ (c_X9_left l hm_hs hm_mo hf_hs hf_mo) (cwV 1 hT (z_goodV (fun _ h => h) kw_879 kw_880 kw_881 kw_85 kw_882) rfl rfl rfl (by decide +kernel) ⟨by decide, by decide⟩) z_mv hKK hK hw hA hm_hs hf_hs rfl rfl rfl hl.1 rfl (Nat.le_of_ble_eq_true rfl) dL_law_673 ⟨by decide, by decide⟩ (fun r126 u H locs hp hw => ?_)
        obtain ⟨rfl, hp⟩ := hp
        have hw : z_H D vwCl ((fun q : Nat => s.heap.size ≤ q)) s.heap L7 f8 H locs := hw
        have hpA := hp
        refine lv_aload_n hx hb dL_law_676 rfl (lv_at hl 1 rfl) ?_
        refine lv_aload_n hx hb dL_law_677 rfl (lv_at hl 3 rfl) ?_
        refine lv_iload_n hx hb dL_law_678 rfl (lv_at hl 0 rfl) ?_
        refine lv_iconst (v := 1) hx hb dL_law_679 (by decide) ?_
        refine lv_iadd hx hb dL_law_680 ?_
        refine z_lit (y := 1) (by decide) ?_
        refine va_sld hx hb hX hbl hbA hw.2.2 (z_ix (show (1 : Int32).toInt = 1 by decide) (by omega)) dL_law_681 ?_
        refine z_lit (y := x1) ex1.symm ?_
        refine z_calliV (cells := 164) (slots := 16321) (b := me) (As := [.int x1]) (rest := [.int r126]) (ci := 10) (q0 := (RX10, TX10, 54)) ⟨hx, hb, hml, hown, hT⟩ (c_X10_left l hm_me hm_ml hm_mh hf_me hf_ml hf_mh) (cwV 1 hT (z_goodV (fun _ h => h) kw_1620 kw_1621 kw_1622 kw_96 kw_1623) rfl rfl rfl (by decide +kernel) ⟨by decide, by decide⟩) z_mv hKK hK hw hA hm_me hf_me rfl rfl rfl hl.1 rfl (Nat.le_of_ble_eq_true rfl) dL_law_682 ⟨by decide, by decide⟩ (fun r127 u H locs hp hw => ?_)
        obtain ⟨L128, f129⟩ := u
        obtain ⟨hsb, hfm, hp⟩ := hp
        have hw : z_H D vwCl ((fun q : Nat => s.heap.size ≤ q)) s.heap L128 f129 H locs := hw
        have hf_hs : f129 hs = .inr (9, [.ref tp, .ref rd, .ref mo, .ref dr, .ref im, .ref kp, .ref sl, .ref wk, .ref pl, .ref ex, .ref mx]) := (hfm hs hm_hs ne_hs_me).trans hf_hs
        have hf_mo : f129 mo = .inr (2, [.int 0, .int 0, .int 0, .int 0, .int 0, .int 0, .int 0, .ref la, .ref sa, .ref mi, .ref da]) := (hfm mo hm_mo ne_mo_me).trans hf_mo
        have hf_ml : f129 ml = .inl (cy 1, 5, .inl (fun _ => 0)) := (hfm ml hm_ml (Ne.symm ne_me_ml)).trans hf_ml
        have hf_mh : f129 mh = .inl (cy 1, 30, .inl (fun _ => 0)) := (hfm mh hm_mh (Ne.symm ne_me_mh)).trans hf_mh
        have hm_hs : hs ∈ L128 := hsb _ hm_hs
        have hm_mo : mo ∈ L128 := hsb _ hm_mo
        have hm_me : me ∈ L128 := hsb _ hm_me
        have hm_ml : ml ∈ L128 := hsb _ hm_ml
        have hm_mh : mh ∈ L128 := hsb _ hm_mh
        have hpB := hp
        refine z_icmp_eq (tgt := 1615) hx hb rfl rfl dL_law_685 (by decide) (fun c130 => ?_) (fun c130 => False.elim (by omega))
        refine lv_iinc (v := 6) (lv' := [(3, .int 6), (2, .ref me), (1, .ref hs), (0, .ref b)]) hx hb dL_law_1615 hl (k := 0) rfl (by decide) (by decide) rfl (fun ls hl => ?_)
        refine lv_goto (tgt := 18) hx hb dL_law_1618 (by decide) ?_
        refine lv_iload_n hx hb dL_law_18 rfl (lv_at hl 0 rfl) ?_
        refine lv_aload_n hx hb dL_law_19 rfl (lv_at hl 3 rfl) ?_
        refine va_slen hx hb hX hbl hbA hw.2.2 dL_law_20 ?_
        refine lv_topi (fun ln e_ln => ?_)
        have i_ln : ln.toInt = L := by rw [e_ln]; exact nI_toInt (by omega)
        refine lv_bipush (v := 6) hx hb dL_law_21 (by decide) ?_
        refine lv_isub hx hb dL_law_23 ?_
        refine lv_topi (fun w131 e_w131 => ?_)
        have i_w131 : w131.toInt = ((L : Int) - 6) := z_subI e_w131 i_ln (show (6 : Int32).toInt = 6 by decide) (by omega)
        refine z_icmp_gt (tgt := 1621) hx hb (show (6 : Int32).toInt = 6 by decide) i_w131 dL_law_24 (by decide) (fun c132 => ?_) (fun c132 => False.elim (by omega))
        refine lv_iconst (v := 1) hx hb dL_law_1621 (by decide) ?_
        refine va_forget (fun q hq => hw.2.2.2.2 q hq) ?_
        refine W.widen (k := 600000) (n := 7302250) (by decide) (by decide) ?_
        exact lw_ret hx hb hr hlocks dL_law_1622
      · skip
        refine lv_tableIn (off := 657) (tgt := 690) hx hb dL_law_33 (by omega) (by omega) (by rw [show w11.toInt = 16 from c12]; rfl) (by decide) ?_
        refine lv_aload_n hx hb dL_law_690 rfl (lv_at hl 2 rfl) ?_
        refine lv_aload_n hx hb dL_law_691 rfl (lv_at hl 3 rfl) ?_
        refine lv_iload_n hx hb dL_law_692 rfl (lv_at hl 0 rfl) ?_
        refine lv_iconst (v := 1) hx hb dL_law_693 (by decide) ?_
        refine lv_iadd hx hb dL_law_694 ?_
        refine z_lit (y := 1) (by decide) ?_
        refine va_sld hx hb hX hbl hbA hw.2.2 (z_ix (show (1 : Int32).toInt = 1 by decide) (by omega)) dL_law_695 ?_
        refine z_lit (y := x1) ex1.symm ?_
        refine lv_aload_n hx hb dL_law_696 rfl (lv_at hl 3 rfl) ?_
        refine lv_iload_n hx hb dL_law_697 rfl (lv_at hl 0 rfl) ?_
        refine lv_iconst (v := 2) hx hb dL_law_698 (by decide) ?_
        refine lv_iadd hx hb dL_law_699 ?_
        refine z_lit (y := 2) (by decide) ?_
        refine va_sld hx hb hX hbl hbA hw.2.2 (z_ix (show (2 : Int32).toInt = 2 by decide) (by omega)) dL_law_700 ?_
        refine z_lit (y := x2) ex2.symm ?_
        refine z_calliV (cells := 164) (slots := 16321) (b := hs) (As := [.int x1, .int x2]) (rest := []) (ci := 9) (q0 := (RX9, TX9, 11)) ⟨hx, hb, hml, hown, hT⟩ (c_X9_best l hm_hs hm_mo hf_hs hf_mo) (cwV 2 hT (z_goodV (fun _ h => h) kw_895 kw_896 kw_897 kw_85 kw_898) rfl rfl rfl (by decide +kernel) ⟨by decide, by decide⟩) z_mv hKK hK hw hA hm_hs hf_hs rfl rfl rfl hl.1 rfl (Nat.le_of_ble_eq_true rfl) dL_law_701 ⟨by decide, by decide⟩ (fun r133 u H locs hp hw => ?_)
        obtain ⟨rfl, hp⟩ := hp
        have hw : z_H D vwCl ((fun q : Nat => s.heap.size ≤ q)) s.heap L7 f8 H locs := hw
        have hpA := hp
        refine lv_aload_n hx hb dL_law_704 rfl (lv_at hl 1 rfl) ?_
        refine lv_aload_n hx hb dL_law_705 rfl (lv_at hl 3 rfl) ?_
        refine lv_iload_n hx hb dL_law_706 rfl (lv_at hl 0 rfl) ?_
        refine lv_iconst (v := 1) hx hb dL_law_707 (by decide) ?_
        refine lv_iadd hx hb dL_law_708 ?_
        refine z_lit (y := 1) (by decide) ?_
        refine va_sld hx hb hX hbl hbA hw.2.2 (z_ix (show (1 : Int32).toInt = 1 by decide) (by omega)) dL_law_709 ?_
        refine z_lit (y := x1) ex1.symm ?_
        refine lv_aload_n hx hb dL_law_710 rfl (lv_at hl 3 rfl) ?_
        refine lv_iload_n hx hb dL_law_711 rfl (lv_at hl 0 rfl) ?_
        refine lv_iconst (v := 2) hx hb dL_law_712 (by decide) ?_
        refine lv_iadd hx hb dL_law_713 ?_
        refine z_lit (y := 2) (by decide) ?_
        refine va_sld hx hb hX hbl hbA hw.2.2 (z_ix (show (2 : Int32).toInt = 2 by decide) (by omega)) dL_law_714 ?_
        refine z_lit (y := x2) ex2.symm ?_
        refine z_calliV (cells := 164) (slots := 16321) (b := me) (As := [.int x1, .int x2]) (rest := [.int r133]) (ci := 10) (q0 := (RX10, TX10, 54)) ⟨hx, hb, hml, hown, hT⟩ (c_X10_best l hm_me hm_ml hm_mh hf_me hf_ml hf_mh) (cwV 2 hT (z_goodV (fun _ h => h) kw_1624 kw_1625 kw_1626 kw_96 kw_1627) rfl rfl rfl (by decide +kernel) ⟨by decide, by decide⟩) z_mv hKK hK hw hA hm_me hf_me rfl rfl rfl hl.1 rfl (Nat.le_of_ble_eq_true rfl) dL_law_715 ⟨by decide, by decide⟩ (fun r134 u H locs hp hw => ?_)
        obtain ⟨L135, f136⟩ := u
        obtain ⟨hsb, hfm, hp⟩ := hp
        have hw : z_H D vwCl ((fun q : Nat => s.heap.size ≤ q)) s.heap L135 f136 H locs := hw
        have hf_hs : f136 hs = .inr (9, [.ref tp, .ref rd, .ref mo, .ref dr, .ref im, .ref kp, .ref sl, .ref wk, .ref pl, .ref ex, .ref mx]) := (hfm hs hm_hs ne_hs_me).trans hf_hs
        have hf_mo : f136 mo = .inr (2, [.int 0, .int 0, .int 0, .int 0, .int 0, .int 0, .int 0, .ref la, .ref sa, .ref mi, .ref da]) := (hfm mo hm_mo ne_mo_me).trans hf_mo
        have hf_ml : f136 ml = .inl (cy 1, 5, .inl (fun _ => 0)) := (hfm ml hm_ml (Ne.symm ne_me_ml)).trans hf_ml
        have hf_mh : f136 mh = .inl (cy 1, 30, .inl (fun _ => 0)) := (hfm mh hm_mh (Ne.symm ne_me_mh)).trans hf_mh
        have hm_hs : hs ∈ L135 := hsb _ hm_hs
        have hm_mo : mo ∈ L135 := hsb _ hm_mo
        have hm_me : me ∈ L135 := hsb _ hm_me
        have hm_ml : ml ∈ L135 := hsb _ hm_ml
        have hm_mh : mh ∈ L135 := hsb _ hm_mh
        have hpB := hp
        refine z_icmp_eq (tgt := 1615) hx hb rfl rfl dL_law_718 (by decide) (fun c137 => ?_) (fun c137 => False.elim (by omega))
        refine lv_iinc (v := 6) (lv' := [(3, .int 6), (2, .ref me), (1, .ref hs), (0, .ref b)]) hx hb dL_law_1615 hl (k := 0) rfl (by decide) (by decide) rfl (fun ls hl => ?_)
        refine lv_goto (tgt := 18) hx hb dL_law_1618 (by decide) ?_
        refine lv_iload_n hx hb dL_law_18 rfl (lv_at hl 0 rfl) ?_
        refine lv_aload_n hx hb dL_law_19 rfl (lv_at hl 3 rfl) ?_
        refine va_slen hx hb hX hbl hbA hw.2.2 dL_law_20 ?_
        refine lv_topi (fun ln e_ln => ?_)
        have i_ln : ln.toInt = L := by rw [e_ln]; exact nI_toInt (by omega)
        refine lv_bipush (v := 6) hx hb dL_law_21 (by decide) ?_
        refine lv_isub hx hb dL_law_23 ?_
        refine lv_topi (fun w138 e_w138 => ?_)
        have i_w138 : w138.toInt = ((L : Int) - 6) := z_subI e_w138 i_ln (show (6 : Int32).toInt = 6 by decide) (by omega)
        refine z_icmp_gt (tgt := 1621) hx hb (show (6 : Int32).toInt = 6 by decide) i_w138 dL_law_24 (by decide) (fun c139 => ?_) (fun c139 => False.elim (by omega))
        refine lv_iconst (v := 1) hx hb dL_law_1621 (by decide) ?_
        refine va_forget (fun q hq => hw.2.2.2.2 q hq) ?_
        refine W.widen (k := 600000) (n := 7302250) (by decide) (by decide) ?_
        exact lw_ret hx hb hr hlocks dL_law_1622
      · skip
        refine lv_tableIn (off := 690) (tgt := 723) hx hb dL_law_33 (by omega) (by omega) (by rw [show w11.toInt = 17 from c12]; rfl) (by decide) ?_
        refine lv_aload_n hx hb dL_law_723 rfl (lv_at hl 2 rfl) ?_
        refine lv_aload_n hx hb dL_law_724 rfl (lv_at hl 3 rfl) ?_
        refine lv_iload_n hx hb dL_law_725 rfl (lv_at hl 0 rfl) ?_
        refine lv_iconst (v := 1) hx hb dL_law_726 (by decide) ?_
        refine lv_iadd hx hb dL_law_727 ?_
        refine z_lit (y := 1) (by decide) ?_
        refine va_sld hx hb hX hbl hbA hw.2.2 (z_ix (show (1 : Int32).toInt = 1 by decide) (by omega)) dL_law_728 ?_
        refine z_lit (y := x1) ex1.symm ?_
        refine lv_aload_n hx hb dL_law_729 rfl (lv_at hl 3 rfl) ?_
        refine lv_iload_n hx hb dL_law_730 rfl (lv_at hl 0 rfl) ?_
        refine lv_iconst (v := 2) hx hb dL_law_731 (by decide) ?_
        refine lv_iadd hx hb dL_law_732 ?_
        refine z_lit (y := 2) (by decide) ?_
        refine va_sld hx hb hX hbl hbA hw.2.2 (z_ix (show (2 : Int32).toInt = 2 by decide) (by omega)) dL_law_733 ?_
        refine z_lit (y := x2) ex2.symm ?_
        refine z_calliV (cells := 164) (slots := 16321) (b := hs) (As := [.int x1, .int x2]) (rest := []) (ci := 9) (q0 := (RX9, TX9, 11)) ⟨hx, hb, hml, hown, hT⟩ (c_X9_split l hm_hs hm_mo hf_hs hf_mo) (cwV 2 hT (z_goodV (fun _ h => h) kw_920 kw_921 kw_922 kw_85 kw_923) rfl rfl rfl (by decide +kernel) ⟨by decide, by decide⟩) z_mv hKK hK hw hA hm_hs hf_hs rfl rfl rfl hl.1 rfl (Nat.le_of_ble_eq_true rfl) dL_law_734 ⟨by decide, by decide⟩ (fun r140 u H locs hp hw => ?_)
        obtain ⟨rfl, hp⟩ := hp
        have hw : z_H D vwCl ((fun q : Nat => s.heap.size ≤ q)) s.heap L7 f8 H locs := hw
        have hpA := hp
        refine lv_aload_n hx hb dL_law_737 rfl (lv_at hl 1 rfl) ?_
        refine lv_aload_n hx hb dL_law_738 rfl (lv_at hl 3 rfl) ?_
        refine lv_iload_n hx hb dL_law_739 rfl (lv_at hl 0 rfl) ?_
        refine lv_iconst (v := 1) hx hb dL_law_740 (by decide) ?_
        refine lv_iadd hx hb dL_law_741 ?_
        refine z_lit (y := 1) (by decide) ?_
        refine va_sld hx hb hX hbl hbA hw.2.2 (z_ix (show (1 : Int32).toInt = 1 by decide) (by omega)) dL_law_742 ?_
        refine z_lit (y := x1) ex1.symm ?_
        refine lv_aload_n hx hb dL_law_743 rfl (lv_at hl 3 rfl) ?_
        refine lv_iload_n hx hb dL_law_744 rfl (lv_at hl 0 rfl) ?_
        refine lv_iconst (v := 2) hx hb dL_law_745 (by decide) ?_
        refine lv_iadd hx hb dL_law_746 ?_
        refine z_lit (y := 2) (by decide) ?_
        refine va_sld hx hb hX hbl hbA hw.2.2 (z_ix (show (2 : Int32).toInt = 2 by decide) (by omega)) dL_law_747 ?_
        refine z_lit (y := x2) ex2.symm ?_
        refine z_calliV (cells := 164) (slots := 16321) (b := me) (As := [.int x1, .int x2]) (rest := [.int r140]) (ci := 10) (q0 := (RX10, TX10, 54)) ⟨hx, hb, hml, hown, hT⟩ (c_X10_split l hm_me hm_ml hm_mh hf_me hf_ml hf_mh) (cwV 2 hT (z_goodV (fun _ h => h) kw_1632 kw_1633 kw_1634 kw_96 kw_1635) rfl rfl rfl (by decide +kernel) ⟨by decide, by decide⟩) z_mv hKK hK hw hA hm_me hf_me rfl rfl rfl hl.1 rfl (Nat.le_of_ble_eq_true rfl) dL_law_748 ⟨by decide, by decide⟩ (fun r141 u H locs hp hw => ?_)
        obtain ⟨L142, f143⟩ := u
        obtain ⟨hsb, hfm, hp⟩ := hp
        have hw : z_H D vwCl ((fun q : Nat => s.heap.size ≤ q)) s.heap L142 f143 H locs := hw
        have hf_hs : f143 hs = .inr (9, [.ref tp, .ref rd, .ref mo, .ref dr, .ref im, .ref kp, .ref sl, .ref wk, .ref pl, .ref ex, .ref mx]) := (hfm hs hm_hs ne_hs_me).trans hf_hs
        have hf_mo : f143 mo = .inr (2, [.int 0, .int 0, .int 0, .int 0, .int 0, .int 0, .int 0, .ref la, .ref sa, .ref mi, .ref da]) := (hfm mo hm_mo ne_mo_me).trans hf_mo
        have hf_ml : f143 ml = .inl (cy 1, 5, .inl (fun _ => 0)) := (hfm ml hm_ml (Ne.symm ne_me_ml)).trans hf_ml
        have hf_mh : f143 mh = .inl (cy 1, 30, .inl (fun _ => 0)) := (hfm mh hm_mh (Ne.symm ne_me_mh)).trans hf_mh
        have hm_hs : hs ∈ L142 := hsb _ hm_hs
        have hm_mo : mo ∈ L142 := hsb _ hm_mo
        have hm_me : me ∈ L142 := hsb _ hm_me
        have hm_ml : ml ∈ L142 := hsb _ hm_ml
        have hm_mh : mh ∈ L142 := hsb _ hm_mh
        have hpB := hp
        refine z_icmp_eq (tgt := 1615) hx hb rfl rfl dL_law_751 (by decide) (fun c144 => ?_) (fun c144 => False.elim (by omega))
        refine lv_iinc (v := 6) (lv' := [(3, .int 6), (2, .ref me), (1, .ref hs), (0, .ref b)]) hx hb dL_law_1615 hl (k := 0) rfl (by decide) (by decide) rfl (fun ls hl => ?_)
        refine lv_goto (tgt := 18) hx hb dL_law_1618 (by decide) ?_
        refine lv_iload_n hx hb dL_law_18 rfl (lv_at hl 0 rfl) ?_
        refine lv_aload_n hx hb dL_law_19 rfl (lv_at hl 3 rfl) ?_
        refine va_slen hx hb hX hbl hbA hw.2.2 dL_law_20 ?_
        refine lv_topi (fun ln e_ln => ?_)
        have i_ln : ln.toInt = L := by rw [e_ln]; exact nI_toInt (by omega)
        refine lv_bipush (v := 6) hx hb dL_law_21 (by decide) ?_
        refine lv_isub hx hb dL_law_23 ?_
        refine lv_topi (fun w145 e_w145 => ?_)
        have i_w145 : w145.toInt = ((L : Int) - 6) := z_subI e_w145 i_ln (show (6 : Int32).toInt = 6 by decide) (by omega)
        refine z_icmp_gt (tgt := 1621) hx hb (show (6 : Int32).toInt = 6 by decide) i_w145 dL_law_24 (by decide) (fun c146 => ?_) (fun c146 => False.elim (by omega))
        refine lv_iconst (v := 1) hx hb dL_law_1621 (by decide) ?_
        refine va_forget (fun q hq => hw.2.2.2.2 q hq) ?_
        refine W.widen (k := 600000) (n := 7302250) (by decide) (by decide) ?_
        exact lw_ret hx hb hr hlocks dL_law_1622
      · skip
        refine lv_tableIn (off := 723) (tgt := 756) hx hb dL_law_33 (by omega) (by omega) (by rw [show w11.toInt = 18 from c12]; rfl) (by decide) ?_
        refine lv_aload_n hx hb dL_law_756 rfl (lv_at hl 2 rfl) ?_
        refine z_calliV (cells := 164) (slots := 16321) (b := hs) (As := []) (rest := []) (ci := 9) (q0 := (RX9, TX9, 11)) ⟨hx, hb, hml, hown, hT⟩ (c_X9_rest l hm_hs hm_mo hf_hs hf_mo) (cwV 0 hT (z_goodV (fun _ h => h) kw_930 kw_931 kw_932 kw_85 kw_933) rfl rfl rfl (by decide +kernel) ⟨by decide, by decide⟩) z_mv hKK hK hw hA hm_hs hf_hs rfl rfl rfl hl.1 rfl (Nat.le_of_ble_eq_true rfl) dL_law_757 ⟨by decide, by decide⟩ (fun r147 u H locs hp hw => ?_)
        obtain ⟨rfl, hp⟩ := hp
        have hw : z_H D vwCl ((fun q : Nat => s.heap.size ≤ q)) s.heap L7 f8 H locs := hw
        have hpA := hp
        refine lv_aload_n hx hb dL_law_760 rfl (lv_at hl 1 rfl) ?_
        refine z_calliV (cells := 164) (slots := 16321) (b := me) (As := []) (rest := [.int r147]) (ci := 10) (q0 := (RX10, TX10, 54)) ⟨hx, hb, hml, hown, hT⟩ (c_X10_rest l hm_me hm_ml hm_mh hf_me hf_ml hf_mh) (cwV 0 hT (z_goodV (fun _ h => h) kw_1640 kw_1641 kw_1642 kw_96 kw_1643) rfl rfl rfl (by decide +kernel) ⟨by decide, by decide⟩) z_mv hKK hK hw hA hm_me hf_me rfl rfl rfl hl.1 rfl (Nat.le_of_ble_eq_true rfl) dL_law_761 ⟨by decide, by decide⟩ (fun r148 u H locs hp hw => ?_)
        obtain ⟨L149, f150⟩ := u
        obtain ⟨hsb, hfm, hp⟩ := hp
        have hw : z_H D vwCl ((fun q : Nat => s.heap.size ≤ q)) s.heap L149 f150 H locs := hw
        have hf_hs : f150 hs = .inr (9, [.ref tp, .ref rd, .ref mo, .ref dr, .ref im, .ref kp, .ref sl, .ref wk, .ref pl, .ref ex, .ref mx]) := (hfm hs hm_hs ne_hs_me).trans hf_hs
        have hf_mo : f150 mo = .inr (2, [.int 0, .int 0, .int 0, .int 0, .int 0, .int 0, .int 0, .ref la, .ref sa, .ref mi, .ref da]) := (hfm mo hm_mo ne_mo_me).trans hf_mo
        have hf_ml : f150 ml = .inl (cy 1, 5, .inl (fun _ => 0)) := (hfm ml hm_ml (Ne.symm ne_me_ml)).trans hf_ml
        have hf_mh : f150 mh = .inl (cy 1, 30, .inl (fun _ => 0)) := (hfm mh hm_mh (Ne.symm ne_me_mh)).trans hf_mh
        have hm_hs : hs ∈ L149 := hsb _ hm_hs
        have hm_mo : mo ∈ L149 := hsb _ hm_mo
        have hm_me : me ∈ L149 := hsb _ hm_me
        have hm_ml : ml ∈ L149 := hsb _ hm_ml
        have hm_mh : mh ∈ L149 := hsb _ hm_mh
        have hpB := hp
        refine z_icmp_eq (tgt := 1615) hx hb rfl rfl dL_law_764 (by decide) (fun c151 => ?_) (fun c151 => False.elim (by omega))
        refine lv_iinc (v := 6) (lv' := [(3, .int 6), (2, .ref me), (1, .ref hs), (0, .ref b)]) hx hb dL_law_1615 hl (k := 0) rfl (by decide) (by decide) rfl (fun ls hl => ?_)
        refine lv_goto (tgt := 18) hx hb dL_law_1618 (by decide) ?_
        refine lv_iload_n hx hb dL_law_18 rfl (lv_at hl 0 rfl) ?_
        refine lv_aload_n hx hb dL_law_19 rfl (lv_at hl 3 rfl) ?_
        refine va_slen hx hb hX hbl hbA hw.2.2 dL_law_20 ?_
        refine lv_topi (fun ln e_ln => ?_)
        have i_ln : ln.toInt = L := by rw [e_ln]; exact nI_toInt (by omega)
        refine lv_bipush (v := 6) hx hb dL_law_21 (by decide) ?_
        refine lv_isub hx hb dL_law_23 ?_
        refine lv_topi (fun w152 e_w152 => ?_)
        have i_w152 : w152.toInt = ((L : Int) - 6) := z_subI e_w152 i_ln (show (6 : Int32).toInt = 6 by decide) (by omega)
        refine z_icmp_gt (tgt := 1621) hx hb (show (6 : Int32).toInt = 6 by decide) i_w152 dL_law_24 (by decide) (fun c153 => ?_) (fun c153 => False.elim (by omega))
        refine lv_iconst (v := 1) hx hb dL_law_1621 (by decide) ?_
        refine va_forget (fun q hq => hw.2.2.2.2 q hq) ?_
        refine W.widen (k := 600000) (n := 7302250) (by decide) (by decide) ?_
        exact lw_ret hx hb hr hlocks dL_law_1622
      · skip
        refine lv_tableIn (off := 736) (tgt := 769) hx hb dL_law_33 (by omega) (by omega) (by rw [show w11.toInt = 19 from c12]; rfl) (by decide) ?_
        refine lv_aload_n hx hb dL_law_769 rfl (lv_at hl 2 rfl) ?_
        refine lv_aload_n hx hb dL_law_770 rfl (lv_at hl 3 rfl) ?_
        refine lv_iload_n hx hb dL_law_771 rfl (lv_at hl 0 rfl) ?_
        refine lv_iconst (v := 1) hx hb dL_law_772 (by decide) ?_
        refine lv_iadd hx hb dL_law_773 ?_
        refine z_lit (y := 1) (by decide) ?_
        refine va_sld hx hb hX hbl hbA hw.2.2 (z_ix (show (1 : Int32).toInt = 1 by decide) (by omega)) dL_law_774 ?_
        refine z_lit (y := x1) ex1.symm ?_
        refine z_calliV (cells := 164) (slots := 16321) (b := hs) (As := [.int x1]) (rest := []) (ci := 9) (q0 := (RX9, TX9, 11)) ⟨hx, hb, hml, hown, hT⟩ (c_X9_rests l hm_hs hm_mo hf_hs hf_mo) (cwV 1 hT (z_goodV (fun _ h => h) kw_939 kw_940 kw_941 kw_85 kw_942) rfl rfl rfl (by decide +kernel) ⟨by decide, by decide⟩) z_mv hKK hK hw hA hm_hs hf_hs rfl rfl rfl hl.1 rfl (Nat.le_of_ble_eq_true rfl) dL_law_775 ⟨by decide, by decide⟩ (fun r154 u H locs hp hw => ?_)
        obtain ⟨rfl, hp⟩ := hp
        have hw : z_H D vwCl ((fun q : Nat => s.heap.size ≤ q)) s.heap L7 f8 H locs := hw
        have hpA := hp
        refine lv_aload_n hx hb dL_law_778 rfl (lv_at hl 1 rfl) ?_
        refine lv_aload_n hx hb dL_law_779 rfl (lv_at hl 3 rfl) ?_
        refine lv_iload_n hx hb dL_law_780 rfl (lv_at hl 0 rfl) ?_
        refine lv_iconst (v := 1) hx hb dL_law_781 (by decide) ?_
        refine lv_iadd hx hb dL_law_782 ?_
        refine z_lit (y := 1) (by decide) ?_
        refine va_sld hx hb hX hbl hbA hw.2.2 (z_ix (show (1 : Int32).toInt = 1 by decide) (by omega)) dL_law_783 ?_
        refine z_lit (y := x1) ex1.symm ?_
        refine z_calliV (cells := 164) (slots := 16321) (b := me) (As := [.int x1]) (rest := [.int r154]) (ci := 10) (q0 := (RX10, TX10, 54)) ⟨hx, hb, hml, hown, hT⟩ (c_X10_rests l hm_me hm_ml hm_mh hf_me hf_ml hf_mh) (cwV 1 hT (z_goodV (fun _ h => h) kw_1648 kw_1649 kw_1650 kw_96 kw_1651) rfl rfl rfl (by decide +kernel) ⟨by decide, by decide⟩) z_mv hKK hK hw hA hm_me hf_me rfl rfl rfl hl.1 rfl (Nat.le_of_ble_eq_true rfl) dL_law_784 ⟨by decide, by decide⟩ (fun r155 u H locs hp hw => ?_)
        obtain ⟨L156, f157⟩ := u
        obtain ⟨hsb, hfm, hp⟩ := hp
        have hw : z_H D vwCl ((fun q : Nat => s.heap.size ≤ q)) s.heap L156 f157 H locs := hw
        have hf_hs : f157 hs = .inr (9, [.ref tp, .ref rd, .ref mo, .ref dr, .ref im, .ref kp, .ref sl, .ref wk, .ref pl, .ref ex, .ref mx]) := (hfm hs hm_hs ne_hs_me).trans hf_hs
        have hf_mo : f157 mo = .inr (2, [.int 0, .int 0, .int 0, .int 0, .int 0, .int 0, .int 0, .ref la, .ref sa, .ref mi, .ref da]) := (hfm mo hm_mo ne_mo_me).trans hf_mo
        have hf_ml : f157 ml = .inl (cy 1, 5, .inl (fun _ => 0)) := (hfm ml hm_ml (Ne.symm ne_me_ml)).trans hf_ml
        have hf_mh : f157 mh = .inl (cy 1, 30, .inl (fun _ => 0)) := (hfm mh hm_mh (Ne.symm ne_me_mh)).trans hf_mh
        have hm_hs : hs ∈ L156 := hsb _ hm_hs
        have hm_mo : mo ∈ L156 := hsb _ hm_mo
        have hm_me : me ∈ L156 := hsb _ hm_me
        have hm_ml : ml ∈ L156 := hsb _ hm_ml
        have hm_mh : mh ∈ L156 := hsb _ hm_mh
        have hpB := hp
        refine z_icmp_eq (tgt := 1615) hx hb rfl rfl dL_law_787 (by decide) (fun c158 => ?_) (fun c158 => False.elim (by omega))
        refine lv_iinc (v := 6) (lv' := [(3, .int 6), (2, .ref me), (1, .ref hs), (0, .ref b)]) hx hb dL_law_1615 hl (k := 0) rfl (by decide) (by decide) rfl (fun ls hl => ?_)
        refine lv_goto (tgt := 18) hx hb dL_law_1618 (by decide) ?_
        refine lv_iload_n hx hb dL_law_18 rfl (lv_at hl 0 rfl) ?_
        refine lv_aload_n hx hb dL_law_19 rfl (lv_at hl 3 rfl) ?_
        refine va_slen hx hb hX hbl hbA hw.2.2 dL_law_20 ?_
        refine lv_topi (fun ln e_ln => ?_)
        have i_ln : ln.toInt = L := by rw [e_ln]; exact nI_toInt (by omega)
        refine lv_bipush (v := 6) hx hb dL_law_21 (by decide) ?_
        refine lv_isub hx hb dL_law_23 ?_
        refine lv_topi (fun w159 e_w159 => ?_)
        have i_w159 : w159.toInt = ((L : Int) - 6) := z_subI e_w159 i_ln (show (6 : Int32).toInt = 6 by decide) (by omega)
        refine z_icmp_gt (tgt := 1621) hx hb (show (6 : Int32).toInt = 6 by decide) i_w159 dL_law_24 (by decide) (fun c160 => ?_) (fun c160 => False.elim (by omega))
        refine lv_iconst (v := 1) hx hb dL_law_1621 (by decide) ?_
        refine va_forget (fun q hq => hw.2.2.2.2 q hq) ?_
        refine W.widen (k := 600000) (n := 7302250) (by decide) (by decide) ?_
        exact lw_ret hx hb hr hlocks dL_law_1622
      · skip
        refine lv_tableIn (off := 759) (tgt := 792) hx hb dL_law_33 (by omega) (by omega) (by rw [show w11.toInt = 20 from c12]; rfl) (by decide) ?_
        refine lv_aload_n hx hb dL_law_792 rfl (lv_at hl 2 rfl) ?_
        refine lv_aload_n hx hb dL_law_793 rfl (lv_at hl 3 rfl) ?_
        refine lv_iload_n hx hb dL_law_794 rfl (lv_at hl 0 rfl) ?_
        refine lv_iconst (v := 1) hx hb dL_law_795 (by decide) ?_
        refine lv_iadd hx hb dL_law_796 ?_
        refine z_lit (y := 1) (by decide) ?_
        refine va_sld hx hb hX hbl hbA hw.2.2 (z_ix (show (1 : Int32).toInt = 1 by decide) (by omega)) dL_law_797 ?_
        refine z_lit (y := x1) ex1.symm ?_
        refine lv_aload_n hx hb dL_law_798 rfl (lv_at hl 3 rfl) ?_
        refine lv_iload_n hx hb dL_law_799 rfl (lv_at hl 0 rfl) ?_
        refine lv_iconst (v := 2) hx hb dL_law_800 (by decide) ?_
        refine lv_iadd hx hb dL_law_801 ?_
        refine z_lit (y := 2) (by decide) ?_
        refine va_sld hx hb hX hbl hbA hw.2.2 (z_ix (show (2 : Int32).toInt = 2 by decide) (by omega)) dL_law_802 ?_
        refine z_lit (y := x2) ex2.symm ?_
        refine z_calliV (cells := 164) (slots := 16321) (b := hs) (As := [.int x1, .int x2]) (rest := []) (ci := 9) (q0 := (RX9, TX9, 11)) ⟨hx, hb, hml, hown, hT⟩ (c_X9_sent l hm_hs hm_mo hf_hs hf_mo) (cwV 2 hT (z_goodV (fun _ h => h) kw_948 kw_949 kw_950 kw_85 kw_951) rfl rfl rfl (by decide +kernel) ⟨by decide, by decide⟩) z_mv hKK hK hw hA hm_hs hf_hs rfl rfl rfl hl.1 rfl (Nat.le_of_ble_eq_true rfl) dL_law_803 ⟨by decide, by decide⟩ (fun r161 u H locs hp hw => ?_)
        obtain ⟨rfl, hp⟩ := hp
        have hw : z_H D vwCl ((fun q : Nat => s.heap.size ≤ q)) s.heap L7 f8 H locs := hw
        have hpA := hp
        refine lv_aload_n hx hb dL_law_806 rfl (lv_at hl 1 rfl) ?_
        refine lv_aload_n hx hb dL_law_807 rfl (lv_at hl 3 rfl) ?_
        refine lv_iload_n hx hb dL_law_808 rfl (lv_at hl 0 rfl) ?_
        refine lv_iconst (v := 1) hx hb dL_law_809 (by decide) ?_
        refine lv_iadd hx hb dL_law_810 ?_
        refine z_lit (y := 1) (by decide) ?_
        refine va_sld hx hb hX hbl hbA hw.2.2 (z_ix (show (1 : Int32).toInt = 1 by decide) (by omega)) dL_law_811 ?_
        refine z_lit (y := x1) ex1.symm ?_
        refine lv_aload_n hx hb dL_law_812 rfl (lv_at hl 3 rfl) ?_
        refine lv_iload_n hx hb dL_law_813 rfl (lv_at hl 0 rfl) ?_
        refine lv_iconst (v := 2) hx hb dL_law_814 (by decide) ?_
        refine lv_iadd hx hb dL_law_815 ?_
        refine z_lit (y := 2) (by decide) ?_
        refine va_sld hx hb hX hbl hbA hw.2.2 (z_ix (show (2 : Int32).toInt = 2 by decide) (by omega)) dL_law_816 ?_
        refine z_lit (y := x2) ex2.symm ?_
        refine z_calliV (cells := 164) (slots := 16321) (b := me) (As := [.int x1, .int x2]) (rest := [.int r161]) (ci := 10) (q0 := (RX10, TX10, 54)) ⟨hx, hb, hml, hown, hT⟩ (c_X10_sent l hm_me hm_ml hm_mh hf_me hf_ml hf_mh) (cwV 2 hT (z_goodV (fun _ h => h) kw_1657 kw_1658 kw_1659 kw_96 kw_1660) rfl rfl rfl (by decide +kernel) ⟨by decide, by decide⟩) z_mv hKK hK hw hA hm_me hf_me rfl rfl rfl hl.1 rfl (Nat.le_of_ble_eq_true rfl) dL_law_817 ⟨by decide, by decide⟩ (fun r162 u H locs hp hw => ?_)
        obtain ⟨L163, f164⟩ := u
        obtain ⟨hsb, hfm, hp⟩ := hp
        have hw : z_H D vwCl ((fun q : Nat => s.heap.size ≤ q)) s.heap L163 f164 H locs := hw
        have hf_hs : f164 hs = .inr (9, [.ref tp, .ref rd, .ref mo, .ref dr, .ref im, .ref kp, .ref sl, .ref wk, .ref pl, .ref ex, .ref mx]) := (hfm hs hm_hs ne_hs_me).trans hf_hs
        have hf_mo : f164 mo = .inr (2, [.int 0, .int 0, .int 0, .int 0, .int 0, .int 0, .int 0, .ref la, .ref sa, .ref mi, .ref da]) := (hfm mo hm_mo ne_mo_me).trans hf_mo
        have hf_ml : f164 ml = .inl (cy 1, 5, .inl (fun _ => 0)) := (hfm ml hm_ml (Ne.symm ne_me_ml)).trans hf_ml
        have hf_mh : f164 mh = .inl (cy 1, 30, .inl (fun _ => 0)) := (hfm mh hm_mh (Ne.symm ne_me_mh)).trans hf_mh
        have hm_hs : hs ∈ L163 := hsb _ hm_hs
        have hm_mo : mo ∈ L163 := hsb _ hm_mo
        have hm_me : me ∈ L163 := hsb _ hm_me
        have hm_ml : ml ∈ L163 := hsb _ hm_ml
        have hm_mh : mh ∈ L163 := hsb _ hm_mh
        have hpB := hp
        refine z_icmp_eq (tgt := 1615) hx hb rfl rfl dL_law_820 (by decide) (fun c165 => ?_) (fun c165 => False.elim (by omega))
        refine lv_iinc (v := 6) (lv' := [(3, .int 6), (2, .ref me), (1, .ref hs), (0, .ref b)]) hx hb dL_law_1615 hl (k := 0) rfl (by decide) (by decide) rfl (fun ls hl => ?_)
        refine lv_goto (tgt := 18) hx hb dL_law_1618 (by decide) ?_
        refine lv_iload_n hx hb dL_law_18 rfl (lv_at hl 0 rfl) ?_
        refine lv_aload_n hx hb dL_law_19 rfl (lv_at hl 3 rfl) ?_
        refine va_slen hx hb hX hbl hbA hw.2.2 dL_law_20 ?_
        refine lv_topi (fun ln e_ln => ?_)
        have i_ln : ln.toInt = L := by rw [e_ln]; exact nI_toInt (by omega)
        refine lv_bipush (v := 6) hx hb dL_law_21 (by decide) ?_
        refine lv_isub hx hb dL_law_23 ?_
        refine lv_topi (fun w166 e_w166 => ?_)
        have i_w166 : w166.toInt = ((L : Int) - 6) := z_subI e_w166 i_ln (show (6 : Int32).toInt = 6 by decide) (by omega)
        refine z_icmp_gt (tgt := 1621) hx hb (show (6 : Int32).toInt = 6 by decide) i_w166 dL_law_24 (by decide) (fun c167 => ?_) (fun c167 => False.elim (by omega))
        refine lv_iconst (v := 1) hx hb dL_law_1621 (by decide) ?_
        refine va_forget (fun q hq => hw.2.2.2.2 q hq) ?_
        refine W.widen (k := 600000) (n := 7302250) (by decide) (by decide) ?_
        exact lw_ret hx hb hr hlocks dL_law_1622
      · skip
        refine lv_tableIn (off := 792) (tgt := 825) hx hb dL_law_33 (by omega) (by omega) (by rw [show w11.toInt = 21 from c12]; rfl) (by decide) ?_
        refine lv_aload_n hx hb dL_law_825 rfl (lv_at hl 2 rfl) ?_
        refine lv_aload_n hx hb dL_law_826 rfl (lv_at hl 3 rfl) ?_
        refine lv_iload_n hx hb dL_law_827 rfl (lv_at hl 0 rfl) ?_
        refine lv_iconst (v := 1) hx hb dL_law_828 (by decide) ?_
        refine lv_iadd hx hb dL_law_829 ?_
        refine z_lit (y := 1) (by decide) ?_
        refine va_sld hx hb hX hbl hbA hw.2.2 (z_ix (show (1 : Int32).toInt = 1 by decide) (by omega)) dL_law_830 ?_
        refine z_lit (y := x1) ex1.symm ?_
        refine z_calliV (cells := 164) (slots := 16321) (b := hs) (As := [.int x1]) (rest := []) (ci := 9) (q0 := (RX9, TX9, 11)) ⟨hx, hb, hml, hown, hT⟩ (c_X9_harm l hm_hs hm_mo hf_hs hf_mo) (cwV 1 hT (z_goodV (fun _ h => h) kw_952 kw_953 kw_954 kw_85 kw_955) rfl rfl rfl (by decide +kernel) ⟨by decide, by decide⟩) z_mv hKK hK hw hA hm_hs hf_hs rfl rfl rfl hl.1 rfl (Nat.le_of_ble_eq_true rfl) dL_law_831 ⟨by decide, by decide⟩ (fun r168 u H locs hp hw => ?_)
        obtain ⟨rfl, hp⟩ := hp
        have hw : z_H D vwCl ((fun q : Nat => s.heap.size ≤ q)) s.heap L7 f8 H locs := hw
        have hpA := hp
        refine lv_aload_n hx hb dL_law_834 rfl (lv_at hl 1 rfl) ?_
        refine lv_aload_n hx hb dL_law_835 rfl (lv_at hl 3 rfl) ?_
        refine lv_iload_n hx hb dL_law_836 rfl (lv_at hl 0 rfl) ?_
        refine lv_iconst (v := 1) hx hb dL_law_837 (by decide) ?_
        refine lv_iadd hx hb dL_law_838 ?_
        refine z_lit (y := 1) (by decide) ?_
        refine va_sld hx hb hX hbl hbA hw.2.2 (z_ix (show (1 : Int32).toInt = 1 by decide) (by omega)) dL_law_839 ?_
        refine z_lit (y := x1) ex1.symm ?_
        refine z_calliV (cells := 164) (slots := 16321) (b := me) (As := [.int x1]) (rest := [.int r168]) (ci := 10) (q0 := (RX10, TX10, 54)) ⟨hx, hb, hml, hown, hT⟩ (c_X10_harm l hm_me hm_ml hm_mh hf_me hf_ml hf_mh) (cwV 1 hT (z_goodV (fun _ h => h) kw_1661 kw_1662 kw_1663 kw_96 kw_1664) rfl rfl rfl (by decide +kernel) ⟨by decide, by decide⟩) z_mv hKK hK hw hA hm_me hf_me rfl rfl rfl hl.1 rfl (Nat.le_of_ble_eq_true rfl) dL_law_840 ⟨by decide, by decide⟩ (fun r169 u H locs hp hw => ?_)
        obtain ⟨L170, f171⟩ := u
        obtain ⟨hsb, hfm, hp⟩ := hp
        have hw : z_H D vwCl ((fun q : Nat => s.heap.size ≤ q)) s.heap L170 f171 H locs := hw
        have hf_hs : f171 hs = .inr (9, [.ref tp, .ref rd, .ref mo, .ref dr, .ref im, .ref kp, .ref sl, .ref wk, .ref pl, .ref ex, .ref mx]) := (hfm hs hm_hs ne_hs_me).trans hf_hs
        have hf_mo : f171 mo = .inr (2, [.int 0, .int 0, .int 0, .int 0, .int 0, .int 0, .int 0, .ref la, .ref sa, .ref mi, .ref da]) := (hfm mo hm_mo ne_mo_me).trans hf_mo
        have hf_ml : f171 ml = .inl (cy 1, 5, .inl (fun _ => 0)) := (hfm ml hm_ml (Ne.symm ne_me_ml)).trans hf_ml
        have hf_mh : f171 mh = .inl (cy 1, 30, .inl (fun _ => 0)) := (hfm mh hm_mh (Ne.symm ne_me_mh)).trans hf_mh
        have hm_hs : hs ∈ L170 := hsb _ hm_hs
        have hm_mo : mo ∈ L170 := hsb _ hm_mo
        have hm_me : me ∈ L170 := hsb _ hm_me
        have hm_ml : ml ∈ L170 := hsb _ hm_ml
        have hm_mh : mh ∈ L170 := hsb _ hm_mh
        have hpB := hp
        refine z_icmp_eq (tgt := 1615) hx hb rfl rfl dL_law_843 (by decide) (fun c172 => ?_) (fun c172 => False.elim (by omega))
        refine lv_iinc (v := 6) (lv' := [(3, .int 6), (2, .ref me), (1, .ref hs), (0, .ref b)]) hx hb dL_law_1615 hl (k := 0) rfl (by decide) (by decide) rfl (fun ls hl => ?_)
        refine lv_goto (tgt := 18) hx hb dL_law_1618 (by decide) ?_
        refine lv_iload_n hx hb dL_law_18 rfl (lv_at hl 0 rfl) ?_
        refine lv_aload_n hx hb dL_law_19 rfl (lv_at hl 3 rfl) ?_
        refine va_slen hx hb hX hbl hbA hw.2.2 dL_law_20 ?_
        refine lv_topi (fun ln e_ln => ?_)
        have i_ln : ln.toInt = L := by rw [e_ln]; exact nI_toInt (by omega)
        refine lv_bipush (v := 6) hx hb dL_law_21 (by decide) ?_
        refine lv_isub hx hb dL_law_23 ?_
        refine lv_topi (fun w173 e_w173 => ?_)
        have i_w173 : w173.toInt = ((L : Int) - 6) := z_subI e_w173 i_ln (show (6 : Int32).toInt = 6 by decide) (by omega)
        refine z_icmp_gt (tgt := 1621) hx hb (show (6 : Int32).toInt = 6 by decide) i_w173 dL_law_24 (by decide) (fun c174 => ?_) (fun c174 => False.elim (by omega))
        refine lv_iconst (v := 1) hx hb dL_law_1621 (by decide) ?_
        refine va_forget (fun q hq => hw.2.2.2.2 q hq) ?_
        refine W.widen (k := 600000) (n := 7302250) (by decide) (by decide) ?_
        exact lw_ret hx hb hr hlocks dL_law_1622
      · skip
        refine lv_tableIn (off := 815) (tgt := 848) hx hb dL_law_33 (by omega) (by omega) (by rw [show w11.toInt = 22 from c12]; rfl) (by decide) ?_
        refine lv_aload_n hx hb dL_law_848 rfl (lv_at hl 2 rfl) ?_
        refine lv_aload_n hx hb dL_law_849 rfl (lv_at hl 3 rfl) ?_
        refine lv_iload_n hx hb dL_law_850 rfl (lv_at hl 0 rfl) ?_
        refine lv_iconst (v := 1) hx hb dL_law_851 (by decide) ?_
        refine lv_iadd hx hb dL_law_852 ?_
        refine z_lit (y := 1) (by decide) ?_
        refine va_sld hx hb hX hbl hbA hw.2.2 (z_ix (show (1 : Int32).toInt = 1 by decide) (by omega)) dL_law_853 ?_
        refine z_lit (y := x1) ex1.symm ?_
        refine lv_aload_n hx hb dL_law_854 rfl (lv_at hl 3 rfl) ?_
        refine lv_iload_n hx hb dL_law_855 rfl (lv_at hl 0 rfl) ?_
        refine lv_iconst (v := 2) hx hb dL_law_856 (by decide) ?_
        refine lv_iadd hx hb dL_law_857 ?_
        refine z_lit (y := 2) (by decide) ?_
        refine va_sld hx hb hX hbl hbA hw.2.2 (z_ix (show (2 : Int32).toInt = 2 by decide) (by omega)) dL_law_858 ?_
        refine z_lit (y := x2) ex2.symm ?_
        refine lv_aload_n hx hb dL_law_859 rfl (lv_at hl 3 rfl) ?_
        refine lv_iload_n hx hb dL_law_860 rfl (lv_at hl 0 rfl) ?_
        refine lv_iconst (v := 3) hx hb dL_law_861 (by decide) ?_
        refine lv_iadd hx hb dL_law_862 ?_
        refine z_lit (y := 3) (by decide) ?_
        refine va_sld hx hb hX hbl hbA hw.2.2 (z_ix (show (3 : Int32).toInt = 3 by decide) (by omega)) dL_law_863 ?_
        refine z_lit (y := x3) ex3.symm ?_
        refine lv_aload_n hx hb dL_law_864 rfl (lv_at hl 3 rfl) ?_
        refine lv_iload_n hx hb dL_law_865 rfl (lv_at hl 0 rfl) ?_
        refine lv_iconst (v := 4) hx hb dL_law_866 (by decide) ?_
        refine lv_iadd hx hb dL_law_867 ?_
        refine z_lit (y := 4) (by decide) ?_
        refine va_sld hx hb hX hbl hbA hw.2.2 (z_ix (show (4 : Int32).toInt = 4 by decide) (by omega)) dL_law_868 ?_
        refine z_lit (y := x4) ex4.symm ?_
        refine z_calliV (cells := 164) (slots := 16321) (b := hs) (As := [.int x1, .int x2, .int x3, .int x4]) (rest := []) (ci := 9) (q0 := (RX9, TX9, 11)) ⟨hx, hb, hml, hown, hT⟩ (c_X9_ewe l hm_hs hm_mo hf_hs hf_mo) (cwV 4 hT (z_goodV (fun _ h => h) kw_960 kw_961 kw_962 kw_85 kw_963) rfl rfl rfl (by decide +kernel) ⟨by decide, by decide⟩) z_mv hKK hK hw hA hm_hs hf_hs rfl rfl rfl hl.1 rfl (Nat.le_of_ble_eq_true rfl) dL_law_869 ⟨by decide, by decide⟩ (fun r175 u H locs hp hw => ?_)
        obtain ⟨rfl, hp⟩ := hp
        have hw : z_H D vwCl ((fun q : Nat => s.heap.size ≤ q)) s.heap L7 f8 H locs := hw
        have hpA := hp
        refine lv_aload_n hx hb dL_law_872 rfl (lv_at hl 1 rfl) ?_
        refine lv_aload_n hx hb dL_law_873 rfl (lv_at hl 3 rfl) ?_
        refine lv_iload_n hx hb dL_law_874 rfl (lv_at hl 0 rfl) ?_
        refine lv_iconst (v := 1) hx hb dL_law_875 (by decide) ?_
        refine lv_iadd hx hb dL_law_876 ?_
        refine z_lit (y := 1) (by decide) ?_
        refine va_sld hx hb hX hbl hbA hw.2.2 (z_ix (show (1 : Int32).toInt = 1 by decide) (by omega)) dL_law_877 ?_
        refine z_lit (y := x1) ex1.symm ?_
        refine lv_aload_n hx hb dL_law_878 rfl (lv_at hl 3 rfl) ?_
        refine lv_iload_n hx hb dL_law_879 rfl (lv_at hl 0 rfl) ?_
        refine lv_iconst (v := 2) hx hb dL_law_880 (by decide) ?_
        refine lv_iadd hx hb dL_law_881 ?_
        refine z_lit (y := 2) (by decide) ?_
        refine va_sld hx hb hX hbl hbA hw.2.2 (z_ix (show (2 : Int32).toInt = 2 by decide) (by omega)) dL_law_882 ?_
        refine z_lit (y := x2) ex2.symm ?_
        refine lv_aload_n hx hb dL_law_883 rfl (lv_at hl 3 rfl) ?_
        refine lv_iload_n hx hb dL_law_884 rfl (lv_at hl 0 rfl) ?_
        refine lv_iconst (v := 3) hx hb dL_law_885 (by decide) ?_
        refine lv_iadd hx hb dL_law_886 ?_
        refine z_lit (y := 3) (by decide) ?_
        refine va_sld hx hb hX hbl hbA hw.2.2 (z_ix (show (3 : Int32).toInt = 3 by decide) (by omega)) dL_law_887 ?_
        refine z_lit (y := x3) ex3.symm ?_
        refine lv_aload_n hx hb dL_law_888 rfl (lv_at hl 3 rfl) ?_
        refine lv_iload_n hx hb dL_law_889 rfl (lv_at hl 0 rfl) ?_
        refine lv_iconst (v := 4) hx hb dL_law_890 (by decide) ?_
        refine lv_iadd hx hb dL_law_891 ?_
        refine z_lit (y := 4) (by decide) ?_
        refine va_sld hx hb hX hbl hbA hw.2.2 (z_ix (show (4 : Int32).toInt = 4 by decide) (by omega)) dL_law_892 ?_
        refine z_lit (y := x4) ex4.symm ?_
        refine z_calliV (cells := 164) (slots := 16321) (b := me) (As := [.int x1, .int x2, .int x3, .int x4]) (rest := [.int r175]) (ci := 10) (q0 := (RX10, TX10, 54)) ⟨hx, hb, hml, hown, hT⟩ (c_X10_ewe l hm_me hm_ml hm_mh hf_me hf_ml hf_mh) (cwV 4 hT (z_goodV (fun _ h => h) kw_1669 kw_1670 kw_1671 kw_96 kw_1672) rfl rfl rfl (by decide +kernel) ⟨by decide, by decide⟩) z_mv hKK hK hw hA hm_me hf_me rfl rfl rfl hl.1 rfl (Nat.le_of_ble_eq_true rfl) dL_law_893 ⟨by decide, by decide⟩ (fun r176 u H locs hp hw => ?_)
        obtain ⟨L177, f178⟩ := u
        obtain ⟨hsb, hfm, hp⟩ := hp
        have hw : z_H D vwCl ((fun q : Nat => s.heap.size ≤ q)) s.heap L177 f178 H locs := hw
        have hf_hs : f178 hs = .inr (9, [.ref tp, .ref rd, .ref mo, .ref dr, .ref im, .ref kp, .ref sl, .ref wk, .ref pl, .ref ex, .ref mx]) := (hfm hs hm_hs ne_hs_me).trans hf_hs
        have hf_mo : f178 mo = .inr (2, [.int 0, .int 0, .int 0, .int 0, .int 0, .int 0, .int 0, .ref la, .ref sa, .ref mi, .ref da]) := (hfm mo hm_mo ne_mo_me).trans hf_mo
        have hf_ml : f178 ml = .inl (cy 1, 5, .inl (fun _ => 0)) := (hfm ml hm_ml (Ne.symm ne_me_ml)).trans hf_ml
        have hf_mh : f178 mh = .inl (cy 1, 30, .inl (fun _ => 0)) := (hfm mh hm_mh (Ne.symm ne_me_mh)).trans hf_mh
        have hm_hs : hs ∈ L177 := hsb _ hm_hs
        have hm_mo : mo ∈ L177 := hsb _ hm_mo
        have hm_me : me ∈ L177 := hsb _ hm_me
        have hm_ml : ml ∈ L177 := hsb _ hm_ml
        have hm_mh : mh ∈ L177 := hsb _ hm_mh
        have hpB := hp
        refine z_icmp_eq (tgt := 1615) hx hb rfl rfl dL_law_896 (by decide) (fun c179 => ?_) (fun c179 => False.elim (by omega))
        refine lv_iinc (v := 6) (lv' := [(3, .int 6), (2, .ref me), (1, .ref hs), (0, .ref b)]) hx hb dL_law_1615 hl (k := 0) rfl (by decide) (by decide) rfl (fun ls hl => ?_)
        refine lv_goto (tgt := 18) hx hb dL_law_1618 (by decide) ?_
        refine lv_iload_n hx hb dL_law_18 rfl (lv_at hl 0 rfl) ?_
        refine lv_aload_n hx hb dL_law_19 rfl (lv_at hl 3 rfl) ?_
        refine va_slen hx hb hX hbl hbA hw.2.2 dL_law_20 ?_
        refine lv_topi (fun ln e_ln => ?_)
        have i_ln : ln.toInt = L := by rw [e_ln]; exact nI_toInt (by omega)
        refine lv_bipush (v := 6) hx hb dL_law_21 (by decide) ?_
        refine lv_isub hx hb dL_law_23 ?_
        refine lv_topi (fun w180 e_w180 => ?_)
        have i_w180 : w180.toInt = ((L : Int) - 6) := z_subI e_w180 i_ln (show (6 : Int32).toInt = 6 by decide) (by omega)
        refine z_icmp_gt (tgt := 1621) hx hb (show (6 : Int32).toInt = 6 by decide) i_w180 dL_law_24 (by decide) (fun c181 => ?_) (fun c181 => False.elim (by omega))
        refine lv_iconst (v := 1) hx hb dL_law_1621 (by decide) ?_
        refine va_forget (fun q hq => hw.2.2.2.2 q hq) ?_
        refine W.widen (k := 600000) (n := 7302250) (by decide) (by decide) ?_
        exact lw_ret hx hb hr hlocks dL_law_1622
      · skip
        refine lv_tableIn (off := 868) (tgt := 901) hx hb dL_law_33 (by omega) (by omega) (by rw [show w11.toInt = 23 from c12]; rfl) (by decide) ?_
        refine lv_aload_n hx hb dL_law_901 rfl (lv_at hl 2 rfl) ?_
        refine lv_aload_n hx hb dL_law_902 rfl (lv_at hl 3 rfl) ?_
        refine lv_iload_n hx hb dL_law_903 rfl (lv_at hl 0 rfl) ?_
        refine lv_iconst (v := 1) hx hb dL_law_904 (by decide) ?_
        refine lv_iadd hx hb dL_law_905 ?_
        refine z_lit (y := 1) (by decide) ?_
        refine va_sld hx hb hX hbl hbA hw.2.2 (z_ix (show (1 : Int32).toInt = 1 by decide) (by omega)) dL_law_906 ?_
        refine z_lit (y := x1) ex1.symm ?_
        refine lv_aload_n hx hb dL_law_907 rfl (lv_at hl 3 rfl) ?_
        refine lv_iload_n hx hb dL_law_908 rfl (lv_at hl 0 rfl) ?_
        refine lv_iconst (v := 2) hx hb dL_law_909 (by decide) ?_
        refine lv_iadd hx hb dL_law_910 ?_
        refine z_lit (y := 2) (by decide) ?_
        refine va_sld hx hb hX hbl hbA hw.2.2 (z_ix (show (2 : Int32).toInt = 2 by decide) (by omega)) dL_law_911 ?_
        refine z_lit (y := x2) ex2.symm ?_
        refine lv_aload_n hx hb dL_law_912 rfl (lv_at hl 3 rfl) ?_
        refine lv_iload_n hx hb dL_law_913 rfl (lv_at hl 0 rfl) ?_
        refine lv_iconst (v := 3) hx hb dL_law_914 (by decide) ?_
        refine lv_iadd hx hb dL_law_915 ?_
        refine z_lit (y := 3) (by decide) ?_
        refine va_sld hx hb hX hbl hbA hw.2.2 (z_ix (show (3 : Int32).toInt = 3 by decide) (by omega)) dL_law_916 ?_
        refine z_lit (y := x3) ex3.symm ?_
        refine lv_aload_n hx hb dL_law_917 rfl (lv_at hl 3 rfl) ?_
        refine lv_iload_n hx hb dL_law_918 rfl (lv_at hl 0 rfl) ?_
        refine lv_iconst (v := 4) hx hb dL_law_919 (by decide) ?_
        refine lv_iadd hx hb dL_law_920 ?_
        refine z_lit (y := 4) (by decide) ?_
        refine va_sld hx hb hX hbl hbA hw.2.2 (z_ix (show (4 : Int32).toInt = 4 by decide) (by omega)) dL_law_921 ?_
        refine z_lit (y := x4) ex4.symm ?_
        refine z_calliV (cells := 164) (slots := 16321) (b := hs) (As := [.int x1, .int x2, .int x3, .int x4]) (rest := []) (ci := 9) (q0 := (RX9, TX9, 11)) ⟨hx, hb, hml, hown, hT⟩ (c_X9_waits l hm_hs hm_mo hf_hs hf_mo) (cwV 4 hT (z_goodV (fun _ h => h) kw_973 kw_974 kw_975 kw_85 kw_976) rfl rfl rfl (by decide +kernel) ⟨by decide, by decide⟩) z_mv hKK hK hw hA hm_hs hf_hs rfl rfl rfl hl.1 rfl (Nat.le_of_ble_eq_true rfl) dL_law_922 ⟨by decide, by decide⟩ (fun r182 u H locs hp hw => ?_)
        obtain ⟨rfl, hp⟩ := hp
        have hw : z_H D vwCl ((fun q : Nat => s.heap.size ≤ q)) s.heap L7 f8 H locs := hw
        have hpA := hp
        refine lv_aload_n hx hb dL_law_925 rfl (lv_at hl 1 rfl) ?_
        refine lv_aload_n hx hb dL_law_926 rfl (lv_at hl 3 rfl) ?_
        refine lv_iload_n hx hb dL_law_927 rfl (lv_at hl 0 rfl) ?_
        refine lv_iconst (v := 1) hx hb dL_law_928 (by decide) ?_
        refine lv_iadd hx hb dL_law_929 ?_
        refine z_lit (y := 1) (by decide) ?_
        refine va_sld hx hb hX hbl hbA hw.2.2 (z_ix (show (1 : Int32).toInt = 1 by decide) (by omega)) dL_law_930 ?_
        refine z_lit (y := x1) ex1.symm ?_
        refine lv_aload_n hx hb dL_law_931 rfl (lv_at hl 3 rfl) ?_
        refine lv_iload_n hx hb dL_law_932 rfl (lv_at hl 0 rfl) ?_
        refine lv_iconst (v := 2) hx hb dL_law_933 (by decide) ?_
        refine lv_iadd hx hb dL_law_934 ?_
        refine z_lit (y := 2) (by decide) ?_
        refine va_sld hx hb hX hbl hbA hw.2.2 (z_ix (show (2 : Int32).toInt = 2 by decide) (by omega)) dL_law_935 ?_
        refine z_lit (y := x2) ex2.symm ?_
        refine lv_aload_n hx hb dL_law_936 rfl (lv_at hl 3 rfl) ?_
        refine lv_iload_n hx hb dL_law_937 rfl (lv_at hl 0 rfl) ?_
        refine lv_iconst (v := 3) hx hb dL_law_938 (by decide) ?_
        refine lv_iadd hx hb dL_law_939 ?_
        refine z_lit (y := 3) (by decide) ?_
        refine va_sld hx hb hX hbl hbA hw.2.2 (z_ix (show (3 : Int32).toInt = 3 by decide) (by omega)) dL_law_940 ?_
        refine z_lit (y := x3) ex3.symm ?_
        refine lv_aload_n hx hb dL_law_941 rfl (lv_at hl 3 rfl) ?_
        refine lv_iload_n hx hb dL_law_942 rfl (lv_at hl 0 rfl) ?_
        refine lv_iconst (v := 4) hx hb dL_law_943 (by decide) ?_
        refine lv_iadd hx hb dL_law_944 ?_
        refine z_lit (y := 4) (by decide) ?_
        refine va_sld hx hb hX hbl hbA hw.2.2 (z_ix (show (4 : Int32).toInt = 4 by decide) (by omega)) dL_law_945 ?_
        refine z_lit (y := x4) ex4.symm ?_
        refine z_calliV (cells := 164) (slots := 16321) (b := me) (As := [.int x1, .int x2, .int x3, .int x4]) (rest := [.int r182]) (ci := 10) (q0 := (RX10, TX10, 54)) ⟨hx, hb, hml, hown, hT⟩ (c_X10_waits l hm_me hm_ml hm_mh hf_me hf_ml hf_mh) (cwV 4 hT (z_goodV (fun _ h => h) kw_1677 kw_1678 kw_1679 kw_96 kw_1680) rfl rfl rfl (by decide +kernel) ⟨by decide, by decide⟩) z_mv hKK hK hw hA hm_me hf_me rfl rfl rfl hl.1 rfl (Nat.le_of_ble_eq_true rfl) dL_law_946 ⟨by decide, by decide⟩ (fun r183 u H locs hp hw => ?_)
        obtain ⟨L184, f185⟩ := u
        obtain ⟨hsb, hfm, hp⟩ := hp
        have hw : z_H D vwCl ((fun q : Nat => s.heap.size ≤ q)) s.heap L184 f185 H locs := hw
        have hf_hs : f185 hs = .inr (9, [.ref tp, .ref rd, .ref mo, .ref dr, .ref im, .ref kp, .ref sl, .ref wk, .ref pl, .ref ex, .ref mx]) := (hfm hs hm_hs ne_hs_me).trans hf_hs
        have hf_mo : f185 mo = .inr (2, [.int 0, .int 0, .int 0, .int 0, .int 0, .int 0, .int 0, .ref la, .ref sa, .ref mi, .ref da]) := (hfm mo hm_mo ne_mo_me).trans hf_mo
        have hf_ml : f185 ml = .inl (cy 1, 5, .inl (fun _ => 0)) := (hfm ml hm_ml (Ne.symm ne_me_ml)).trans hf_ml
        have hf_mh : f185 mh = .inl (cy 1, 30, .inl (fun _ => 0)) := (hfm mh hm_mh (Ne.symm ne_me_mh)).trans hf_mh
        have hm_hs : hs ∈ L184 := hsb _ hm_hs
        have hm_mo : mo ∈ L184 := hsb _ hm_mo
        have hm_me : me ∈ L184 := hsb _ hm_me
        have hm_ml : ml ∈ L184 := hsb _ hm_ml
        have hm_mh : mh ∈ L184 := hsb _ hm_mh
        have hpB := hp
        refine z_icmp_eq (tgt := 1615) hx hb rfl rfl dL_law_949 (by decide) (fun c186 => ?_) (fun c186 => False.elim (by omega))
        refine lv_iinc (v := 6) (lv' := [(3, .int 6), (2, .ref me), (1, .ref hs), (0, .ref b)]) hx hb dL_law_1615 hl (k := 0) rfl (by decide) (by decide) rfl (fun ls hl => ?_)
        refine lv_goto (tgt := 18) hx hb dL_law_1618 (by decide) ?_
        refine lv_iload_n hx hb dL_law_18 rfl (lv_at hl 0 rfl) ?_
        refine lv_aload_n hx hb dL_law_19 rfl (lv_at hl 3 rfl) ?_
        refine va_slen hx hb hX hbl hbA hw.2.2 dL_law_20 ?_
        refine lv_topi (fun ln e_ln => ?_)
        have i_ln : ln.toInt = L := by rw [e_ln]; exact nI_toInt (by omega)
        refine lv_bipush (v := 6) hx hb dL_law_21 (by decide) ?_
        refine lv_isub hx hb dL_law_23 ?_
        refine lv_topi (fun w187 e_w187 => ?_)
        have i_w187 : w187.toInt = ((L : Int) - 6) := z_subI e_w187 i_ln (show (6 : Int32).toInt = 6 by decide) (by omega)
        refine z_icmp_gt (tgt := 1621) hx hb (show (6 : Int32).toInt = 6 by decide) i_w187 dL_law_24 (by decide) (fun c188 => ?_) (fun c188 => False.elim (by omega))
        refine lv_iconst (v := 1) hx hb dL_law_1621 (by decide) ?_
        refine va_forget (fun q hq => hw.2.2.2.2 q hq) ?_
        refine W.widen (k := 600000) (n := 7302250) (by decide) (by decide) ?_
        exact lw_ret hx hb hr hlocks dL_law_1622
      · skip
        refine lv_tableIn (off := 921) (tgt := 954) hx hb dL_law_33 (by omega) (by omega) (by rw [show w11.toInt = 24 from c12]; rfl) (by decide) ?_
        refine lv_aload_n hx hb dL_law_954 rfl (lv_at hl 2 rfl) ?_
        refine lv_aload_n hx hb dL_law_955 rfl (lv_at hl 3 rfl) ?_
        refine lv_iload_n hx hb dL_law_956 rfl (lv_at hl 0 rfl) ?_
        refine lv_iconst (v := 1) hx hb dL_law_957 (by decide) ?_
        refine lv_iadd hx hb dL_law_958 ?_
        refine z_lit (y := 1) (by decide) ?_
        refine va_sld hx hb hX hbl hbA hw.2.2 (z_ix (show (1 : Int32).toInt = 1 by decide) (by omega)) dL_law_959 ?_
        refine z_lit (y := x1) ex1.symm ?_
        refine lv_aload_n hx hb dL_law_960 rfl (lv_at hl 3 rfl) ?_
        refine lv_iload_n hx hb dL_law_961 rfl (lv_at hl 0 rfl) ?_
        refine lv_iconst (v := 2) hx hb dL_law_962 (by decide) ?_
        refine lv_iadd hx hb dL_law_963 ?_
        refine z_lit (y := 2) (by decide) ?_
        refine va_sld hx hb hX hbl hbA hw.2.2 (z_ix (show (2 : Int32).toInt = 2 by decide) (by omega)) dL_law_964 ?_
        refine z_lit (y := x2) ex2.symm ?_
        refine lv_aload_n hx hb dL_law_965 rfl (lv_at hl 3 rfl) ?_
        refine lv_iload_n hx hb dL_law_966 rfl (lv_at hl 0 rfl) ?_
        refine lv_iconst (v := 3) hx hb dL_law_967 (by decide) ?_
        refine lv_iadd hx hb dL_law_968 ?_
        refine z_lit (y := 3) (by decide) ?_
        refine va_sld hx hb hX hbl hbA hw.2.2 (z_ix (show (3 : Int32).toInt = 3 by decide) (by omega)) dL_law_969 ?_
        refine z_lit (y := x3) ex3.symm ?_
        refine z_calliV (cells := 164) (slots := 16321) (b := hs) (As := [.int x1, .int x2, .int x3]) (rest := []) (ci := 9) (q0 := (RX9, TX9, 11)) ⟨hx, hb, hml, hown, hT⟩ (c_X9_ring l hm_hs hm_mo hf_hs hf_mo) (cwV 3 hT (z_goodV (fun _ h => h) kw_977 kw_978 kw_979 kw_85 kw_980) rfl rfl rfl (by decide +kernel) ⟨by decide, by decide⟩) z_mv hKK hK hw hA hm_hs hf_hs rfl rfl rfl hl.1 rfl (Nat.le_of_ble_eq_true rfl) dL_law_970 ⟨by decide, by decide⟩ (fun r189 u H locs hp hw => ?_)
        obtain ⟨rfl, hp⟩ := hp
        have hw : z_H D vwCl ((fun q : Nat => s.heap.size ≤ q)) s.heap L7 f8 H locs := hw
        have hpA := hp
        refine lv_aload_n hx hb dL_law_973 rfl (lv_at hl 1 rfl) ?_
        refine lv_aload_n hx hb dL_law_974 rfl (lv_at hl 3 rfl) ?_
        refine lv_iload_n hx hb dL_law_975 rfl (lv_at hl 0 rfl) ?_
        refine lv_iconst (v := 1) hx hb dL_law_976 (by decide) ?_
        refine lv_iadd hx hb dL_law_977 ?_
        refine z_lit (y := 1) (by decide) ?_
        refine va_sld hx hb hX hbl hbA hw.2.2 (z_ix (show (1 : Int32).toInt = 1 by decide) (by omega)) dL_law_978 ?_
        refine z_lit (y := x1) ex1.symm ?_
        refine lv_aload_n hx hb dL_law_979 rfl (lv_at hl 3 rfl) ?_
        refine lv_iload_n hx hb dL_law_980 rfl (lv_at hl 0 rfl) ?_
        refine lv_iconst (v := 2) hx hb dL_law_981 (by decide) ?_
        refine lv_iadd hx hb dL_law_982 ?_
        refine z_lit (y := 2) (by decide) ?_
        refine va_sld hx hb hX hbl hbA hw.2.2 (z_ix (show (2 : Int32).toInt = 2 by decide) (by omega)) dL_law_983 ?_
        refine z_lit (y := x2) ex2.symm ?_
        refine lv_aload_n hx hb dL_law_984 rfl (lv_at hl 3 rfl) ?_
        refine lv_iload_n hx hb dL_law_985 rfl (lv_at hl 0 rfl) ?_
        refine lv_iconst (v := 3) hx hb dL_law_986 (by decide) ?_
        refine lv_iadd hx hb dL_law_987 ?_
        refine z_lit (y := 3) (by decide) ?_
        refine va_sld hx hb hX hbl hbA hw.2.2 (z_ix (show (3 : Int32).toInt = 3 by decide) (by omega)) dL_law_988 ?_
        refine z_lit (y := x3) ex3.symm ?_
        refine z_calliV (cells := 164) (slots := 16321) (b := me) (As := [.int x1, .int x2, .int x3]) (rest := [.int r189]) (ci := 10) (q0 := (RX10, TX10, 54)) ⟨hx, hb, hml, hown, hT⟩ (c_X10_ring l hm_me hm_ml hm_mh hf_me hf_ml hf_mh) (cwV 3 hT (z_goodV (fun _ h => h) kw_1681 kw_1682 kw_1683 kw_96 kw_1684) rfl rfl rfl (by decide +kernel) ⟨by decide, by decide⟩) z_mv hKK hK hw hA hm_me hf_me rfl rfl rfl hl.1 rfl (Nat.le_of_ble_eq_true rfl) dL_law_989 ⟨by decide, by decide⟩ (fun r190 u H locs hp hw => ?_)
        obtain ⟨L191, f192⟩ := u
        obtain ⟨hsb, hfm, hp⟩ := hp
        have hw : z_H D vwCl ((fun q : Nat => s.heap.size ≤ q)) s.heap L191 f192 H locs := hw
        have hf_hs : f192 hs = .inr (9, [.ref tp, .ref rd, .ref mo, .ref dr, .ref im, .ref kp, .ref sl, .ref wk, .ref pl, .ref ex, .ref mx]) := (hfm hs hm_hs ne_hs_me).trans hf_hs
        have hf_mo : f192 mo = .inr (2, [.int 0, .int 0, .int 0, .int 0, .int 0, .int 0, .int 0, .ref la, .ref sa, .ref mi, .ref da]) := (hfm mo hm_mo ne_mo_me).trans hf_mo
        have hf_ml : f192 ml = .inl (cy 1, 5, .inl (fun _ => 0)) := (hfm ml hm_ml (Ne.symm ne_me_ml)).trans hf_ml
        have hf_mh : f192 mh = .inl (cy 1, 30, .inl (fun _ => 0)) := (hfm mh hm_mh (Ne.symm ne_me_mh)).trans hf_mh
        have hm_hs : hs ∈ L191 := hsb _ hm_hs
        have hm_mo : mo ∈ L191 := hsb _ hm_mo
        have hm_me : me ∈ L191 := hsb _ hm_me
        have hm_ml : ml ∈ L191 := hsb _ hm_ml
        have hm_mh : mh ∈ L191 := hsb _ hm_mh
        have hpB := hp
        refine z_icmp_eq (tgt := 1615) hx hb rfl rfl dL_law_992 (by decide) (fun c193 => ?_) (fun c193 => False.elim (by omega))
        refine lv_iinc (v := 6) (lv' := [(3, .int 6), (2, .ref me), (1, .ref hs), (0, .ref b)]) hx hb dL_law_1615 hl (k := 0) rfl (by decide) (by decide) rfl (fun ls hl => ?_)
        refine lv_goto (tgt := 18) hx hb dL_law_1618 (by decide) ?_
        refine lv_iload_n hx hb dL_law_18 rfl (lv_at hl 0 rfl) ?_
        refine lv_aload_n hx hb dL_law_19 rfl (lv_at hl 3 rfl) ?_
        refine va_slen hx hb hX hbl hbA hw.2.2 dL_law_20 ?_
        refine lv_topi (fun ln e_ln => ?_)
        have i_ln : ln.toInt = L := by rw [e_ln]; exact nI_toInt (by omega)
        refine lv_bipush (v := 6) hx hb dL_law_21 (by decide) ?_
        refine lv_isub hx hb dL_law_23 ?_
        refine lv_topi (fun w194 e_w194 => ?_)
        have i_w194 : w194.toInt = ((L : Int) - 6) := z_subI e_w194 i_ln (show (6 : Int32).toInt = 6 by decide) (by omega)
        refine z_icmp_gt (tgt := 1621) hx hb (show (6 : Int32).toInt = 6 by decide) i_w194 dL_law_24 (by decide) (fun c195 => ?_) (fun c195 => False.elim (by omega))
        refine lv_iconst (v := 1) hx hb dL_law_1621 (by decide) ?_
        refine va_forget (fun q hq => hw.2.2.2.2 q hq) ?_
        refine W.widen (k := 600000) (n := 7302250) (by decide) (by decide) ?_
        exact lw_ret hx hb hr hlocks dL_law_1622
      · skip
        refine lv_tableIn (off := 964) (tgt := 997) hx hb dL_law_33 (by omega) (by omega) (by rw [show w11.toInt = 25 from c12]; rfl) (by decide) ?_
        refine lv_aload_n hx hb dL_law_997 rfl (lv_at hl 2 rfl) ?_
        refine lv_aload_n hx hb dL_law_998 rfl (lv_at hl 3 rfl) ?_
        refine lv_iload_n hx hb dL_law_999 rfl (lv_at hl 0 rfl) ?_
        refine lv_iconst (v := 1) hx hb dL_law_1000 (by decide) ?_
        refine lv_iadd hx hb dL_law_1001 ?_
        refine z_lit (y := 1) (by decide) ?_
        refine va_sld hx hb hX hbl hbA hw.2.2 (z_ix (show (1 : Int32).toInt = 1 by decide) (by omega)) dL_law_1002 ?_
        refine z_lit (y := x1) ex1.symm ?_
        refine lv_aload_n hx hb dL_law_1003 rfl (lv_at hl 3 rfl) ?_
        refine lv_iload_n hx hb dL_law_1004 rfl (lv_at hl 0 rfl) ?_
        refine lv_iconst (v := 2) hx hb dL_law_1005 (by decide) ?_
        refine lv_iadd hx hb dL_law_1006 ?_
        refine z_lit (y := 2) (by decide) ?_
        refine va_sld hx hb hX hbl hbA hw.2.2 (z_ix (show (2 : Int32).toInt = 2 by decide) (by omega)) dL_law_1007 ?_
        refine z_lit (y := x2) ex2.symm ?_
        refine z_calliV (cells := 164) (slots := 16321) (b := hs) (As := [.int x1, .int x2]) (rest := []) (ci := 9) (q0 := (RX9, TX9, 11)) ⟨hx, hb, hml, hown, hT⟩ (c_X9_rounds l hm_hs hm_mo hf_hs hf_mo) (cwV 2 hT (z_goodV (fun _ h => h) kw_987 kw_988 kw_989 kw_85 kw_990) rfl rfl rfl (by decide +kernel) ⟨by decide, by decide⟩) z_mv hKK hK hw hA hm_hs hf_hs rfl rfl rfl hl.1 rfl (Nat.le_of_ble_eq_true rfl) dL_law_1008 ⟨by decide, by decide⟩ (fun r196 u H locs hp hw => ?_)
        obtain ⟨rfl, hp⟩ := hp
        have hw : z_H D vwCl ((fun q : Nat => s.heap.size ≤ q)) s.heap L7 f8 H locs := hw
        have hpA := hp
        refine lv_aload_n hx hb dL_law_1011 rfl (lv_at hl 1 rfl) ?_
        refine lv_aload_n hx hb dL_law_1012 rfl (lv_at hl 3 rfl) ?_
        refine lv_iload_n hx hb dL_law_1013 rfl (lv_at hl 0 rfl) ?_
        refine lv_iconst (v := 1) hx hb dL_law_1014 (by decide) ?_
        refine lv_iadd hx hb dL_law_1015 ?_
        refine z_lit (y := 1) (by decide) ?_
        refine va_sld hx hb hX hbl hbA hw.2.2 (z_ix (show (1 : Int32).toInt = 1 by decide) (by omega)) dL_law_1016 ?_
        refine z_lit (y := x1) ex1.symm ?_
        refine lv_aload_n hx hb dL_law_1017 rfl (lv_at hl 3 rfl) ?_
        refine lv_iload_n hx hb dL_law_1018 rfl (lv_at hl 0 rfl) ?_
        refine lv_iconst (v := 2) hx hb dL_law_1019 (by decide) ?_
        refine lv_iadd hx hb dL_law_1020 ?_
        refine z_lit (y := 2) (by decide) ?_
        refine va_sld hx hb hX hbl hbA hw.2.2 (z_ix (show (2 : Int32).toInt = 2 by decide) (by omega)) dL_law_1021 ?_
        refine z_lit (y := x2) ex2.symm ?_
        refine z_calliV (cells := 164) (slots := 16321) (b := me) (As := [.int x1, .int x2]) (rest := [.int r196]) (ci := 10) (q0 := (RX10, TX10, 54)) ⟨hx, hb, hml, hown, hT⟩ (c_X10_rounds l hm_me hm_ml hm_mh hf_me hf_ml hf_mh) (cwV 2 hT (z_goodV (fun _ h => h) kw_1686 kw_1687 kw_1688 kw_96 kw_1689) rfl rfl rfl (by decide +kernel) ⟨by decide, by decide⟩) z_mv hKK hK hw hA hm_me hf_me rfl rfl rfl hl.1 rfl (Nat.le_of_ble_eq_true rfl) dL_law_1022 ⟨by decide, by decide⟩ (fun r197 u H locs hp hw => ?_)
        obtain ⟨L198, f199⟩ := u
        obtain ⟨hsb, hfm, hp⟩ := hp
        have hw : z_H D vwCl ((fun q : Nat => s.heap.size ≤ q)) s.heap L198 f199 H locs := hw
        have hf_hs : f199 hs = .inr (9, [.ref tp, .ref rd, .ref mo, .ref dr, .ref im, .ref kp, .ref sl, .ref wk, .ref pl, .ref ex, .ref mx]) := (hfm hs hm_hs ne_hs_me).trans hf_hs
        have hf_mo : f199 mo = .inr (2, [.int 0, .int 0, .int 0, .int 0, .int 0, .int 0, .int 0, .ref la, .ref sa, .ref mi, .ref da]) := (hfm mo hm_mo ne_mo_me).trans hf_mo
        have hf_ml : f199 ml = .inl (cy 1, 5, .inl (fun _ => 0)) := (hfm ml hm_ml (Ne.symm ne_me_ml)).trans hf_ml
        have hf_mh : f199 mh = .inl (cy 1, 30, .inl (fun _ => 0)) := (hfm mh hm_mh (Ne.symm ne_me_mh)).trans hf_mh
        have hm_hs : hs ∈ L198 := hsb _ hm_hs
        have hm_mo : mo ∈ L198 := hsb _ hm_mo
        have hm_me : me ∈ L198 := hsb _ hm_me
        have hm_ml : ml ∈ L198 := hsb _ hm_ml
        have hm_mh : mh ∈ L198 := hsb _ hm_mh
        have hpB := hp
        refine z_icmp_eq (tgt := 1615) hx hb rfl rfl dL_law_1025 (by decide) (fun c200 => ?_) (fun c200 => False.elim (by omega))
        refine lv_iinc (v := 6) (lv' := [(3, .int 6), (2, .ref me), (1, .ref hs), (0, .ref b)]) hx hb dL_law_1615 hl (k := 0) rfl (by decide) (by decide) rfl (fun ls hl => ?_)
        refine lv_goto (tgt := 18) hx hb dL_law_1618 (by decide) ?_
        refine lv_iload_n hx hb dL_law_18 rfl (lv_at hl 0 rfl) ?_
        refine lv_aload_n hx hb dL_law_19 rfl (lv_at hl 3 rfl) ?_
        refine va_slen hx hb hX hbl hbA hw.2.2 dL_law_20 ?_
        refine lv_topi (fun ln e_ln => ?_)
        have i_ln : ln.toInt = L := by rw [e_ln]; exact nI_toInt (by omega)
        refine lv_bipush (v := 6) hx hb dL_law_21 (by decide) ?_
        refine lv_isub hx hb dL_law_23 ?_
        refine lv_topi (fun w201 e_w201 => ?_)
        have i_w201 : w201.toInt = ((L : Int) - 6) := z_subI e_w201 i_ln (show (6 : Int32).toInt = 6 by decide) (by omega)
        refine z_icmp_gt (tgt := 1621) hx hb (show (6 : Int32).toInt = 6 by decide) i_w201 dL_law_24 (by decide) (fun c202 => ?_) (fun c202 => False.elim (by omega))
        refine lv_iconst (v := 1) hx hb dL_law_1621 (by decide) ?_
        refine va_forget (fun q hq => hw.2.2.2.2 q hq) ?_
        refine W.widen (k := 600000) (n := 7302250) (by decide) (by decide) ?_
        exact lw_ret hx hb hr hlocks dL_law_1622
      · skip
        refine lv_tableIn (off := 997) (tgt := 1030) hx hb dL_law_33 (by omega) (by omega) (by rw [show w11.toInt = 26 from c12]; rfl) (by decide) ?_
        refine lv_aload_n hx hb dL_law_1030 rfl (lv_at hl 2 rfl) ?_
        refine lv_aload_n hx hb dL_law_1031 rfl (lv_at hl 3 rfl) ?_
        refine lv_iload_n hx hb dL_law_1032 rfl (lv_at hl 0 rfl) ?_
        refine lv_iconst (v := 1) hx hb dL_law_1033 (by decide) ?_
        refine lv_iadd hx hb dL_law_1034 ?_
        refine z_lit (y := 1) (by decide) ?_
        refine va_sld hx hb hX hbl hbA hw.2.2 (z_ix (show (1 : Int32).toInt = 1 by decide) (by omega)) dL_law_1035 ?_
        refine z_lit (y := x1) ex1.symm ?_
        refine lv_aload_n hx hb dL_law_1036 rfl (lv_at hl 3 rfl) ?_
        refine lv_iload_n hx hb dL_law_1037 rfl (lv_at hl 0 rfl) ?_
        refine lv_iconst (v := 2) hx hb dL_law_1038 (by decide) ?_
        refine lv_iadd hx hb dL_law_1039 ?_
        refine z_lit (y := 2) (by decide) ?_
        refine va_sld hx hb hX hbl hbA hw.2.2 (z_ix (show (2 : Int32).toInt = 2 by decide) (by omega)) dL_law_1040 ?_
        refine z_lit (y := x2) ex2.symm ?_
        refine lv_aload_n hx hb dL_law_1041 rfl (lv_at hl 3 rfl) ?_
        refine lv_iload_n hx hb dL_law_1042 rfl (lv_at hl 0 rfl) ?_
        refine lv_iconst (v := 3) hx hb dL_law_1043 (by decide) ?_
        refine lv_iadd hx hb dL_law_1044 ?_
        refine z_lit (y := 3) (by decide) ?_
        refine va_sld hx hb hX hbl hbA hw.2.2 (z_ix (show (3 : Int32).toInt = 3 by decide) (by omega)) dL_law_1045 ?_
        refine z_lit (y := x3) ex3.symm ?_
        refine z_calliV (cells := 164) (slots := 16321) (b := hs) (As := [.int x1, .int x2, .int x3]) (rest := []) (ci := 9) (q0 := (RX9, TX9, 11)) ⟨hx, hb, hml, hown, hT⟩ (c_X9_orders l hm_hs hm_mo hf_hs hf_mo) (cwV 3 hT (z_goodV (fun _ h => h) kw_991 kw_992 kw_993 kw_85 kw_994) rfl rfl rfl (by decide +kernel) ⟨by decide, by decide⟩) z_mv hKK hK hw hA hm_hs hf_hs rfl rfl rfl hl.1 rfl (Nat.le_of_ble_eq_true rfl) dL_law_1046 ⟨by decide, by decide⟩ (fun r203 u H locs hp hw => ?_)
        obtain ⟨rfl, hp⟩ := hp
        have hw : z_H D vwCl ((fun q : Nat => s.heap.size ≤ q)) s.heap L7 f8 H locs := hw
        have hpA := hp
        refine lv_aload_n hx hb dL_law_1049 rfl (lv_at hl 1 rfl) ?_
        refine lv_aload_n hx hb dL_law_1050 rfl (lv_at hl 3 rfl) ?_
        refine lv_iload_n hx hb dL_law_1051 rfl (lv_at hl 0 rfl) ?_
        refine lv_iconst (v := 1) hx hb dL_law_1052 (by decide) ?_
        refine lv_iadd hx hb dL_law_1053 ?_
        refine z_lit (y := 1) (by decide) ?_
        refine va_sld hx hb hX hbl hbA hw.2.2 (z_ix (show (1 : Int32).toInt = 1 by decide) (by omega)) dL_law_1054 ?_
        refine z_lit (y := x1) ex1.symm ?_
        refine lv_aload_n hx hb dL_law_1055 rfl (lv_at hl 3 rfl) ?_
        refine lv_iload_n hx hb dL_law_1056 rfl (lv_at hl 0 rfl) ?_
        refine lv_iconst (v := 2) hx hb dL_law_1057 (by decide) ?_
        refine lv_iadd hx hb dL_law_1058 ?_
        refine z_lit (y := 2) (by decide) ?_
        refine va_sld hx hb hX hbl hbA hw.2.2 (z_ix (show (2 : Int32).toInt = 2 by decide) (by omega)) dL_law_1059 ?_
        refine z_lit (y := x2) ex2.symm ?_
        refine lv_aload_n hx hb dL_law_1060 rfl (lv_at hl 3 rfl) ?_
        refine lv_iload_n hx hb dL_law_1061 rfl (lv_at hl 0 rfl) ?_
        refine lv_iconst (v := 3) hx hb dL_law_1062 (by decide) ?_
        refine lv_iadd hx hb dL_law_1063 ?_
        refine z_lit (y := 3) (by decide) ?_
        refine va_sld hx hb hX hbl hbA hw.2.2 (z_ix (show (3 : Int32).toInt = 3 by decide) (by omega)) dL_law_1064 ?_
        refine z_lit (y := x3) ex3.symm ?_
        refine z_calliV (cells := 164) (slots := 16321) (b := me) (As := [.int x1, .int x2, .int x3]) (rest := [.int r203]) (ci := 10) (q0 := (RX10, TX10, 54)) ⟨hx, hb, hml, hown, hT⟩ (c_X10_orders l hm_me hm_ml hm_mh hf_me hf_ml hf_mh) (cwV 3 hT (z_goodV (fun _ h => h) kw_1690 kw_1691 kw_1692 kw_96 kw_1693) rfl rfl rfl (by decide +kernel) ⟨by decide, by decide⟩) z_mv hKK hK hw hA hm_me hf_me rfl rfl rfl hl.1 rfl (Nat.le_of_ble_eq_true rfl) dL_law_1065 ⟨by decide, by decide⟩ (fun r204 u H locs hp hw => ?_)
        obtain ⟨L205, f206⟩ := u
        obtain ⟨hsb, hfm, hp⟩ := hp
        have hw : z_H D vwCl ((fun q : Nat => s.heap.size ≤ q)) s.heap L205 f206 H locs := hw
        have hf_hs : f206 hs = .inr (9, [.ref tp, .ref rd, .ref mo, .ref dr, .ref im, .ref kp, .ref sl, .ref wk, .ref pl, .ref ex, .ref mx]) := (hfm hs hm_hs ne_hs_me).trans hf_hs
        have hf_mo : f206 mo = .inr (2, [.int 0, .int 0, .int 0, .int 0, .int 0, .int 0, .int 0, .ref la, .ref sa, .ref mi, .ref da]) := (hfm mo hm_mo ne_mo_me).trans hf_mo
        have hf_ml : f206 ml = .inl (cy 1, 5, .inl (fun _ => 0)) := (hfm ml hm_ml (Ne.symm ne_me_ml)).trans hf_ml
        have hf_mh : f206 mh = .inl (cy 1, 30, .inl (fun _ => 0)) := (hfm mh hm_mh (Ne.symm ne_me_mh)).trans hf_mh
        have hm_hs : hs ∈ L205 := hsb _ hm_hs
        have hm_mo : mo ∈ L205 := hsb _ hm_mo
        have hm_me : me ∈ L205 := hsb _ hm_me
        have hm_ml : ml ∈ L205 := hsb _ hm_ml
        have hm_mh : mh ∈ L205 := hsb _ hm_mh
        have hpB := hp
        refine z_icmp_eq (tgt := 1615) hx hb rfl rfl dL_law_1068 (by decide) (fun c207 => ?_) (fun c207 => False.elim (by omega))
        refine lv_iinc (v := 6) (lv' := [(3, .int 6), (2, .ref me), (1, .ref hs), (0, .ref b)]) hx hb dL_law_1615 hl (k := 0) rfl (by decide) (by decide) rfl (fun ls hl => ?_)
        refine lv_goto (tgt := 18) hx hb dL_law_1618 (by decide) ?_
        refine lv_iload_n hx hb dL_law_18 rfl (lv_at hl 0 rfl) ?_
        refine lv_aload_n hx hb dL_law_19 rfl (lv_at hl 3 rfl) ?_
        refine va_slen hx hb hX hbl hbA hw.2.2 dL_law_20 ?_
        refine lv_topi (fun ln e_ln => ?_)
        have i_ln : ln.toInt = L := by rw [e_ln]; exact nI_toInt (by omega)
        refine lv_bipush (v := 6) hx hb dL_law_21 (by decide) ?_
        refine lv_isub hx hb dL_law_23 ?_
        refine lv_topi (fun w208 e_w208 => ?_)
        have i_w208 : w208.toInt = ((L : Int) - 6) := z_subI e_w208 i_ln (show (6 : Int32).toInt = 6 by decide) (by omega)
        refine z_icmp_gt (tgt := 1621) hx hb (show (6 : Int32).toInt = 6 by decide) i_w208 dL_law_24 (by decide) (fun c209 => ?_) (fun c209 => False.elim (by omega))
        refine lv_iconst (v := 1) hx hb dL_law_1621 (by decide) ?_
        refine va_forget (fun q hq => hw.2.2.2.2 q hq) ?_
        refine W.widen (k := 600000) (n := 7302250) (by decide) (by decide) ?_
        exact lw_ret hx hb hr hlocks dL_law_1622
      · skip
        refine lv_tableIn (off := 1040) (tgt := 1073) hx hb dL_law_33 (by omega) (by omega) (by rw [show w11.toInt = 27 from c12]; rfl) (by decide) ?_
        refine lv_aload_n hx hb dL_law_1073 rfl (lv_at hl 2 rfl) ?_
        refine lv_aload_n hx hb dL_law_1074 rfl (lv_at hl 3 rfl) ?_
        refine lv_iload_n hx hb dL_law_1075 rfl (lv_at hl 0 rfl) ?_
        refine lv_iconst (v := 1) hx hb dL_law_1076 (by decide) ?_
        refine lv_iadd hx hb dL_law_1077 ?_
        refine z_lit (y := 1) (by decide) ?_
        refine va_sld hx hb hX hbl hbA hw.2.2 (z_ix (show (1 : Int32).toInt = 1 by decide) (by omega)) dL_law_1078 ?_
        refine z_lit (y := x1) ex1.symm ?_
        refine lv_aload_n hx hb dL_law_1079 rfl (lv_at hl 3 rfl) ?_
        refine lv_iload_n hx hb dL_law_1080 rfl (lv_at hl 0 rfl) ?_
        refine lv_iconst (v := 2) hx hb dL_law_1081 (by decide) ?_
        refine lv_iadd hx hb dL_law_1082 ?_
        refine z_lit (y := 2) (by decide) ?_
        refine va_sld hx hb hX hbl hbA hw.2.2 (z_ix (show (2 : Int32).toInt = 2 by decide) (by omega)) dL_law_1083 ?_
        refine z_lit (y := x2) ex2.symm ?_
        refine lv_aload_n hx hb dL_law_1084 rfl (lv_at hl 3 rfl) ?_
        refine lv_iload_n hx hb dL_law_1085 rfl (lv_at hl 0 rfl) ?_
        refine lv_iconst (v := 3) hx hb dL_law_1086 (by decide) ?_
        refine lv_iadd hx hb dL_law_1087 ?_
        refine z_lit (y := 3) (by decide) ?_
        refine va_sld hx hb hX hbl hbA hw.2.2 (z_ix (show (3 : Int32).toInt = 3 by decide) (by omega)) dL_law_1088 ?_
        refine z_lit (y := x3) ex3.symm ?_
        refine lv_aload_n hx hb dL_law_1089 rfl (lv_at hl 3 rfl) ?_
        refine lv_iload_n hx hb dL_law_1090 rfl (lv_at hl 0 rfl) ?_
        refine lv_iconst (v := 4) hx hb dL_law_1091 (by decide) ?_
        refine lv_iadd hx hb dL_law_1092 ?_
        refine z_lit (y := 4) (by decide) ?_
        refine va_sld hx hb hX hbl hbA hw.2.2 (z_ix (show (4 : Int32).toInt = 4 by decide) (by omega)) dL_law_1093 ?_
        refine z_lit (y := x4) ex4.symm ?_
        refine z_calliV (cells := 164) (slots := 16321) (b := hs) (As := [.int x1, .int x2, .int x3, .int x4]) (rest := []) (ci := 9) (q0 := (RX9, TX9, 11)) ⟨hx, hb, hml, hown, hT⟩ (c_X9_order l hm_hs hm_mo hf_hs hf_mo) (cwV 4 hT (z_goodV (fun _ h => h) kw_1043 kw_1044 kw_1045 kw_85 kw_1046) rfl rfl rfl (by decide +kernel) ⟨by decide, by decide⟩) z_mv hKK hK hw hA hm_hs hf_hs rfl rfl rfl hl.1 rfl (Nat.le_of_ble_eq_true rfl) dL_law_1094 ⟨by decide, by decide⟩ (fun r210 u H locs hp hw => ?_)
        obtain ⟨rfl, hp⟩ := hp
        have hw : z_H D vwCl ((fun q : Nat => s.heap.size ≤ q)) s.heap L7 f8 H locs := hw
        have hpA := hp
        refine lv_aload_n hx hb dL_law_1097 rfl (lv_at hl 1 rfl) ?_
        refine lv_aload_n hx hb dL_law_1098 rfl (lv_at hl 3 rfl) ?_
        refine lv_iload_n hx hb dL_law_1099 rfl (lv_at hl 0 rfl) ?_
        refine lv_iconst (v := 1) hx hb dL_law_1100 (by decide) ?_
        refine lv_iadd hx hb dL_law_1101 ?_
        refine z_lit (y := 1) (by decide) ?_
        refine va_sld hx hb hX hbl hbA hw.2.2 (z_ix (show (1 : Int32).toInt = 1 by decide) (by omega)) dL_law_1102 ?_
        refine z_lit (y := x1) ex1.symm ?_
        refine lv_aload_n hx hb dL_law_1103 rfl (lv_at hl 3 rfl) ?_
        refine lv_iload_n hx hb dL_law_1104 rfl (lv_at hl 0 rfl) ?_
        refine lv_iconst (v := 2) hx hb dL_law_1105 (by decide) ?_
        refine lv_iadd hx hb dL_law_1106 ?_
        refine z_lit (y := 2) (by decide) ?_
        refine va_sld hx hb hX hbl hbA hw.2.2 (z_ix (show (2 : Int32).toInt = 2 by decide) (by omega)) dL_law_1107 ?_
        refine z_lit (y := x2) ex2.symm ?_
        refine lv_aload_n hx hb dL_law_1108 rfl (lv_at hl 3 rfl) ?_
        refine lv_iload_n hx hb dL_law_1109 rfl (lv_at hl 0 rfl) ?_
        refine lv_iconst (v := 3) hx hb dL_law_1110 (by decide) ?_
        refine lv_iadd hx hb dL_law_1111 ?_
        refine z_lit (y := 3) (by decide) ?_
        refine va_sld hx hb hX hbl hbA hw.2.2 (z_ix (show (3 : Int32).toInt = 3 by decide) (by omega)) dL_law_1112 ?_
        refine z_lit (y := x3) ex3.symm ?_
        refine lv_aload_n hx hb dL_law_1113 rfl (lv_at hl 3 rfl) ?_
        refine lv_iload_n hx hb dL_law_1114 rfl (lv_at hl 0 rfl) ?_
        refine lv_iconst (v := 4) hx hb dL_law_1115 (by decide) ?_
        refine lv_iadd hx hb dL_law_1116 ?_
        refine z_lit (y := 4) (by decide) ?_
        refine va_sld hx hb hX hbl hbA hw.2.2 (z_ix (show (4 : Int32).toInt = 4 by decide) (by omega)) dL_law_1117 ?_
        refine z_lit (y := x4) ex4.symm ?_
        refine z_calliV (cells := 164) (slots := 16321) (b := me) (As := [.int x1, .int x2, .int x3, .int x4]) (rest := [.int r210]) (ci := 10) (q0 := (RX10, TX10, 54)) ⟨hx, hb, hml, hown, hT⟩ (c_X10_order l hm_me hm_ml hm_mh hf_me hf_ml hf_mh) (cwV 4 hT (z_goodV (fun _ h => h) kw_1710 kw_1711 kw_1712 kw_96 kw_1713) rfl rfl rfl (by decide +kernel) ⟨by decide, by decide⟩) z_mv hKK hK hw hA hm_me hf_me rfl rfl rfl hl.1 rfl (Nat.le_of_ble_eq_true rfl) dL_law_1118 ⟨by decide, by decide⟩ (fun r211 u H locs hp hw => ?_)
        obtain ⟨L212, f213⟩ := u
        obtain ⟨hsb, hfm, hp⟩ := hp
        have hw : z_H D vwCl ((fun q : Nat => s.heap.size ≤ q)) s.heap L212 f213 H locs := hw
        have hf_hs : f213 hs = .inr (9, [.ref tp, .ref rd, .ref mo, .ref dr, .ref im, .ref kp, .ref sl, .ref wk, .ref pl, .ref ex, .ref mx]) := (hfm hs hm_hs ne_hs_me).trans hf_hs
        have hf_mo : f213 mo = .inr (2, [.int 0, .int 0, .int 0, .int 0, .int 0, .int 0, .int 0, .ref la, .ref sa, .ref mi, .ref da]) := (hfm mo hm_mo ne_mo_me).trans hf_mo
        have hf_ml : f213 ml = .inl (cy 1, 5, .inl (fun _ => 0)) := (hfm ml hm_ml (Ne.symm ne_me_ml)).trans hf_ml
        have hf_mh : f213 mh = .inl (cy 1, 30, .inl (fun _ => 0)) := (hfm mh hm_mh (Ne.symm ne_me_mh)).trans hf_mh
        have hm_hs : hs ∈ L212 := hsb _ hm_hs
        have hm_mo : mo ∈ L212 := hsb _ hm_mo
        have hm_me : me ∈ L212 := hsb _ hm_me
        have hm_ml : ml ∈ L212 := hsb _ hm_ml
        have hm_mh : mh ∈ L212 := hsb _ hm_mh
        have hpB := hp
        refine z_icmp_eq (tgt := 1615) hx hb rfl rfl dL_law_1121 (by decide) (fun c214 => ?_) (fun c214 => False.elim (by omega))
        refine lv_iinc (v := 6) (lv' := [(3, .int 6), (2, .ref me), (1, .ref hs), (0, .ref b)]) hx hb dL_law_1615 hl (k := 0) rfl (by decide) (by decide) rfl (fun ls hl => ?_)
        refine lv_goto (tgt := 18) hx hb dL_law_1618 (by decide) ?_
        refine lv_iload_n hx hb dL_law_18 rfl (lv_at hl 0 rfl) ?_
        refine lv_aload_n hx hb dL_law_19 rfl (lv_at hl 3 rfl) ?_
        refine va_slen hx hb hX hbl hbA hw.2.2 dL_law_20 ?_
        refine lv_topi (fun ln e_ln => ?_)
        have i_ln : ln.toInt = L := by rw [e_ln]; exact nI_toInt (by omega)
        refine lv_bipush (v := 6) hx hb dL_law_21 (by decide) ?_
        refine lv_isub hx hb dL_law_23 ?_
        refine lv_topi (fun w215 e_w215 => ?_)
        have i_w215 : w215.toInt = ((L : Int) - 6) := z_subI e_w215 i_ln (show (6 : Int32).toInt = 6 by decide) (by omega)
        refine z_icmp_gt (tgt := 1621) hx hb (show (6 : Int32).toInt = 6 by decide) i_w215 dL_law_24 (by decide) (fun c216 => ?_) (fun c216 => False.elim (by omega))
        refine lv_iconst (v := 1) hx hb dL_law_1621 (by decide) ?_
        refine va_forget (fun q hq => hw.2.2.2.2 q hq) ?_
        refine W.widen (k := 600000) (n := 7302250) (by decide) (by decide) ?_
        exact lw_ret hx hb hr hlocks dL_law_1622
      · skip
        refine lv_tableIn (off := 1093) (tgt := 1126) hx hb dL_law_33 (by omega) (by omega) (by rw [show w11.toInt = 28 from c12]; rfl) (by decide) ?_
        refine lv_aload_n hx hb dL_law_1126 rfl (lv_at hl 2 rfl) ?_
        refine lv_aload_n hx hb dL_law_1127 rfl (lv_at hl 3 rfl) ?_
        refine lv_iload_n hx hb dL_law_1128 rfl (lv_at hl 0 rfl) ?_
        refine lv_iconst (v := 1) hx hb dL_law_1129 (by decide) ?_
        refine lv_iadd hx hb dL_law_1130 ?_
        refine z_lit (y := 1) (by decide) ?_
        refine va_sld hx hb hX hbl hbA hw.2.2 (z_ix (show (1 : Int32).toInt = 1 by decide) (by omega)) dL_law_1131 ?_
        refine z_lit (y := x1) ex1.symm ?_
        refine lv_aload_n hx hb dL_law_1132 rfl (lv_at hl 3 rfl) ?_
        refine lv_iload_n hx hb dL_law_1133 rfl (lv_at hl 0 rfl) ?_
        refine lv_iconst (v := 2) hx hb dL_law_1134 (by decide) ?_
        refine lv_iadd hx hb dL_law_1135 ?_
        refine z_lit (y := 2) (by decide) ?_
        refine va_sld hx hb hX hbl hbA hw.2.2 (z_ix (show (2 : Int32).toInt = 2 by decide) (by omega)) dL_law_1136 ?_
        refine z_lit (y := x2) ex2.symm ?_
        refine lv_aload_n hx hb dL_law_1137 rfl (lv_at hl 3 rfl) ?_
        refine lv_iload_n hx hb dL_law_1138 rfl (lv_at hl 0 rfl) ?_
        refine lv_iconst (v := 3) hx hb dL_law_1139 (by decide) ?_
        refine lv_iadd hx hb dL_law_1140 ?_
        refine z_lit (y := 3) (by decide) ?_
        refine va_sld hx hb hX hbl hbA hw.2.2 (z_ix (show (3 : Int32).toInt = 3 by decide) (by omega)) dL_law_1141 ?_
        refine z_lit (y := x3) ex3.symm ?_
        refine lv_aload_n hx hb dL_law_1142 rfl (lv_at hl 3 rfl) ?_
        refine lv_iload_n hx hb dL_law_1143 rfl (lv_at hl 0 rfl) ?_
        refine lv_iconst (v := 4) hx hb dL_law_1144 (by decide) ?_
        refine lv_iadd hx hb dL_law_1145 ?_
        refine z_lit (y := 4) (by decide) ?_
        refine va_sld hx hb hX hbl hbA hw.2.2 (z_ix (show (4 : Int32).toInt = 4 by decide) (by omega)) dL_law_1146 ?_
        refine z_lit (y := x4) ex4.symm ?_
        refine z_calliV (cells := 164) (slots := 16321) (b := hs) (As := [.int x1, .int x2, .int x3, .int x4]) (rest := []) (ci := 9) (q0 := (RX9, TX9, 11)) ⟨hx, hb, hml, hown, hT⟩ (c_X9_sure l hm_hs hm_mo hf_hs hf_mo) (cwV 4 hT (z_goodV (fun _ h => h) kw_1047 kw_1048 kw_1049 kw_85 kw_1050) rfl rfl rfl (by decide +kernel) ⟨by decide, by decide⟩) z_mv hKK hK hw hA hm_hs hf_hs rfl rfl rfl hl.1 rfl (Nat.le_of_ble_eq_true rfl) dL_law_1147 ⟨by decide, by decide⟩ (fun r217 u H locs hp hw => ?_)
        obtain ⟨rfl, hp⟩ := hp
        have hw : z_H D vwCl ((fun q : Nat => s.heap.size ≤ q)) s.heap L7 f8 H locs := hw
        have hpA := hp
        refine lv_aload_n hx hb dL_law_1150 rfl (lv_at hl 1 rfl) ?_
        refine lv_aload_n hx hb dL_law_1151 rfl (lv_at hl 3 rfl) ?_
        refine lv_iload_n hx hb dL_law_1152 rfl (lv_at hl 0 rfl) ?_
        refine lv_iconst (v := 1) hx hb dL_law_1153 (by decide) ?_
        refine lv_iadd hx hb dL_law_1154 ?_
        refine z_lit (y := 1) (by decide) ?_
        refine va_sld hx hb hX hbl hbA hw.2.2 (z_ix (show (1 : Int32).toInt = 1 by decide) (by omega)) dL_law_1155 ?_
        refine z_lit (y := x1) ex1.symm ?_
        refine lv_aload_n hx hb dL_law_1156 rfl (lv_at hl 3 rfl) ?_
        refine lv_iload_n hx hb dL_law_1157 rfl (lv_at hl 0 rfl) ?_
        refine lv_iconst (v := 2) hx hb dL_law_1158 (by decide) ?_
        refine lv_iadd hx hb dL_law_1159 ?_
        refine z_lit (y := 2) (by decide) ?_
        refine va_sld hx hb hX hbl hbA hw.2.2 (z_ix (show (2 : Int32).toInt = 2 by decide) (by omega)) dL_law_1160 ?_
        refine z_lit (y := x2) ex2.symm ?_
        refine lv_aload_n hx hb dL_law_1161 rfl (lv_at hl 3 rfl) ?_
        refine lv_iload_n hx hb dL_law_1162 rfl (lv_at hl 0 rfl) ?_
        refine lv_iconst (v := 3) hx hb dL_law_1163 (by decide) ?_
        refine lv_iadd hx hb dL_law_1164 ?_
        refine z_lit (y := 3) (by decide) ?_
        refine va_sld hx hb hX hbl hbA hw.2.2 (z_ix (show (3 : Int32).toInt = 3 by decide) (by omega)) dL_law_1165 ?_
        refine z_lit (y := x3) ex3.symm ?_
        refine lv_aload_n hx hb dL_law_1166 rfl (lv_at hl 3 rfl) ?_
        refine lv_iload_n hx hb dL_law_1167 rfl (lv_at hl 0 rfl) ?_
        refine lv_iconst (v := 4) hx hb dL_law_1168 (by decide) ?_
        refine lv_iadd hx hb dL_law_1169 ?_
        refine z_lit (y := 4) (by decide) ?_
        refine va_sld hx hb hX hbl hbA hw.2.2 (z_ix (show (4 : Int32).toInt = 4 by decide) (by omega)) dL_law_1170 ?_
        refine z_lit (y := x4) ex4.symm ?_
        refine z_calliV (cells := 164) (slots := 16321) (b := me) (As := [.int x1, .int x2, .int x3, .int x4]) (rest := [.int r217]) (ci := 10) (q0 := (RX10, TX10, 54)) ⟨hx, hb, hml, hown, hT⟩ (c_X10_sure l hm_me hm_ml hm_mh hf_me hf_ml hf_mh) (cwV 4 hT (z_goodV (fun _ h => h) kw_1714 kw_1715 kw_1716 kw_96 kw_1717) rfl rfl rfl (by decide +kernel) ⟨by decide, by decide⟩) z_mv hKK hK hw hA hm_me hf_me rfl rfl rfl hl.1 rfl (Nat.le_of_ble_eq_true rfl) dL_law_1171 ⟨by decide, by decide⟩ (fun r218 u H locs hp hw => ?_)
        obtain ⟨L219, f220⟩ := u
        obtain ⟨hsb, hfm, hp⟩ := hp
        have hw : z_H D vwCl ((fun q : Nat => s.heap.size ≤ q)) s.heap L219 f220 H locs := hw
        have hf_hs : f220 hs = .inr (9, [.ref tp, .ref rd, .ref mo, .ref dr, .ref im, .ref kp, .ref sl, .ref wk, .ref pl, .ref ex, .ref mx]) := (hfm hs hm_hs ne_hs_me).trans hf_hs
        have hf_mo : f220 mo = .inr (2, [.int 0, .int 0, .int 0, .int 0, .int 0, .int 0, .int 0, .ref la, .ref sa, .ref mi, .ref da]) := (hfm mo hm_mo ne_mo_me).trans hf_mo
        have hf_ml : f220 ml = .inl (cy 1, 5, .inl (fun _ => 0)) := (hfm ml hm_ml (Ne.symm ne_me_ml)).trans hf_ml
        have hf_mh : f220 mh = .inl (cy 1, 30, .inl (fun _ => 0)) := (hfm mh hm_mh (Ne.symm ne_me_mh)).trans hf_mh
        have hm_hs : hs ∈ L219 := hsb _ hm_hs
        have hm_mo : mo ∈ L219 := hsb _ hm_mo
        have hm_me : me ∈ L219 := hsb _ hm_me
        have hm_ml : ml ∈ L219 := hsb _ hm_ml
        have hm_mh : mh ∈ L219 := hsb _ hm_mh
        have hpB := hp
        refine z_icmp_eq (tgt := 1615) hx hb rfl rfl dL_law_1174 (by decide) (fun c221 => ?_) (fun c221 => False.elim (by omega))
        refine lv_iinc (v := 6) (lv' := [(3, .int 6), (2, .ref me), (1, .ref hs), (0, .ref b)]) hx hb dL_law_1615 hl (k := 0) rfl (by decide) (by decide) rfl (fun ls hl => ?_)
        refine lv_goto (tgt := 18) hx hb dL_law_1618 (by decide) ?_
        refine lv_iload_n hx hb dL_law_18 rfl (lv_at hl 0 rfl) ?_
        refine lv_aload_n hx hb dL_law_19 rfl (lv_at hl 3 rfl) ?_
        refine va_slen hx hb hX hbl hbA hw.2.2 dL_law_20 ?_
        refine lv_topi (fun ln e_ln => ?_)
        have i_ln : ln.toInt = L := by rw [e_ln]; exact nI_toInt (by omega)
        refine lv_bipush (v := 6) hx hb dL_law_21 (by decide) ?_
        refine lv_isub hx hb dL_law_23 ?_
        refine lv_topi (fun w222 e_w222 => ?_)
        have i_w222 : w222.toInt = ((L : Int) - 6) := z_subI e_w222 i_ln (show (6 : Int32).toInt = 6 by decide) (by omega)
        refine z_icmp_gt (tgt := 1621) hx hb (show (6 : Int32).toInt = 6 by decide) i_w222 dL_law_24 (by decide) (fun c223 => ?_) (fun c223 => False.elim (by omega))
        refine lv_iconst (v := 1) hx hb dL_law_1621 (by decide) ?_
        refine va_forget (fun q hq => hw.2.2.2.2 q hq) ?_
        refine W.widen (k := 600000) (n := 7302250) (by decide) (by decide) ?_
        exact lw_ret hx hb hr hlocks dL_law_1622
      · skip
        refine lv_tableIn (off := 1146) (tgt := 1179) hx hb dL_law_33 (by omega) (by omega) (by rw [show w11.toInt = 29 from c12]; rfl) (by decide) ?_
        refine lv_aload_n hx hb dL_law_1179 rfl (lv_at hl 2 rfl) ?_
        refine lv_aload_n hx hb dL_law_1180 rfl (lv_at hl 3 rfl) ?_
        refine lv_iload_n hx hb dL_law_1181 rfl (lv_at hl 0 rfl) ?_
        refine lv_iconst (v := 1) hx hb dL_law_1182 (by decide) ?_
        refine lv_iadd hx hb dL_law_1183 ?_
        refine z_lit (y := 1) (by decide) ?_
        refine va_sld hx hb hX hbl hbA hw.2.2 (z_ix (show (1 : Int32).toInt = 1 by decide) (by omega)) dL_law_1184 ?_
        refine z_lit (y := x1) ex1.symm ?_
        refine lv_aload_n hx hb dL_law_1185 rfl (lv_at hl 3 rfl) ?_
        refine lv_iload_n hx hb dL_law_1186 rfl (lv_at hl 0 rfl) ?_
        refine lv_iconst (v := 2) hx hb dL_law_1187 (by decide) ?_
        refine lv_iadd hx hb dL_law_1188 ?_
        refine z_lit (y := 2) (by decide) ?_
        refine va_sld hx hb hX hbl hbA hw.2.2 (z_ix (show (2 : Int32).toInt = 2 by decide) (by omega)) dL_law_1189 ?_
        refine z_lit (y := x2) ex2.symm ?_
        refine z_calliV (cells := 164) (slots := 16321) (b := hs) (As := [.int x1, .int x2]) (rest := []) (ci := 9) (q0 := (RX9, TX9, 11)) ⟨hx, hb, hml, hown, hT⟩ (c_X9_wrong l hm_hs hm_mo hf_hs hf_mo) (cwV 2 hT (z_goodV (fun _ h => h) kw_1051 kw_1052 kw_1053 kw_85 kw_1054) rfl rfl rfl (by decide +kernel) ⟨by decide, by decide⟩) z_mv hKK hK hw hA hm_hs hf_hs rfl rfl rfl hl.1 rfl (Nat.le_of_ble_eq_true rfl) dL_law_1190 ⟨by decide, by decide⟩ (fun r224 u H locs hp hw => ?_)
        obtain ⟨rfl, hp⟩ := hp
        have hw : z_H D vwCl ((fun q : Nat => s.heap.size ≤ q)) s.heap L7 f8 H locs := hw
        have hpA := hp
        refine lv_aload_n hx hb dL_law_1193 rfl (lv_at hl 1 rfl) ?_
        refine lv_aload_n hx hb dL_law_1194 rfl (lv_at hl 3 rfl) ?_
        refine lv_iload_n hx hb dL_law_1195 rfl (lv_at hl 0 rfl) ?_
        refine lv_iconst (v := 1) hx hb dL_law_1196 (by decide) ?_
        refine lv_iadd hx hb dL_law_1197 ?_
        refine z_lit (y := 1) (by decide) ?_
        refine va_sld hx hb hX hbl hbA hw.2.2 (z_ix (show (1 : Int32).toInt = 1 by decide) (by omega)) dL_law_1198 ?_
        refine z_lit (y := x1) ex1.symm ?_
        refine lv_aload_n hx hb dL_law_1199 rfl (lv_at hl 3 rfl) ?_
        refine lv_iload_n hx hb dL_law_1200 rfl (lv_at hl 0 rfl) ?_
        refine lv_iconst (v := 2) hx hb dL_law_1201 (by decide) ?_
        refine lv_iadd hx hb dL_law_1202 ?_
        refine z_lit (y := 2) (by decide) ?_
        refine va_sld hx hb hX hbl hbA hw.2.2 (z_ix (show (2 : Int32).toInt = 2 by decide) (by omega)) dL_law_1203 ?_
        refine z_lit (y := x2) ex2.symm ?_
        refine z_calliV (cells := 164) (slots := 16321) (b := me) (As := [.int x1, .int x2]) (rest := [.int r224]) (ci := 10) (q0 := (RX10, TX10, 54)) ⟨hx, hb, hml, hown, hT⟩ (c_X10_wrong l hm_me hm_ml hm_mh hf_me hf_ml hf_mh) (cwV 2 hT (z_goodV (fun _ h => h) kw_1718 kw_1719 kw_1720 kw_96 kw_1721) rfl rfl rfl (by decide +kernel) ⟨by decide, by decide⟩) z_mv hKK hK hw hA hm_me hf_me rfl rfl rfl hl.1 rfl (Nat.le_of_ble_eq_true rfl) dL_law_1204 ⟨by decide, by decide⟩ (fun r225 u H locs hp hw => ?_)
        obtain ⟨L226, f227⟩ := u
        obtain ⟨hsb, hfm, hp⟩ := hp
        have hw : z_H D vwCl ((fun q : Nat => s.heap.size ≤ q)) s.heap L226 f227 H locs := hw
        have hf_hs : f227 hs = .inr (9, [.ref tp, .ref rd, .ref mo, .ref dr, .ref im, .ref kp, .ref sl, .ref wk, .ref pl, .ref ex, .ref mx]) := (hfm hs hm_hs ne_hs_me).trans hf_hs
        have hf_mo : f227 mo = .inr (2, [.int 0, .int 0, .int 0, .int 0, .int 0, .int 0, .int 0, .ref la, .ref sa, .ref mi, .ref da]) := (hfm mo hm_mo ne_mo_me).trans hf_mo
        have hf_ml : f227 ml = .inl (cy 1, 5, .inl (fun _ => 0)) := (hfm ml hm_ml (Ne.symm ne_me_ml)).trans hf_ml
        have hf_mh : f227 mh = .inl (cy 1, 30, .inl (fun _ => 0)) := (hfm mh hm_mh (Ne.symm ne_me_mh)).trans hf_mh
        have hm_hs : hs ∈ L226 := hsb _ hm_hs
        have hm_mo : mo ∈ L226 := hsb _ hm_mo
        have hm_me : me ∈ L226 := hsb _ hm_me
        have hm_ml : ml ∈ L226 := hsb _ hm_ml
        have hm_mh : mh ∈ L226 := hsb _ hm_mh
        have hpB := hp
        refine z_icmp_eq (tgt := 1615) hx hb rfl rfl dL_law_1207 (by decide) (fun c228 => ?_) (fun c228 => False.elim (by omega))
        refine lv_iinc (v := 6) (lv' := [(3, .int 6), (2, .ref me), (1, .ref hs), (0, .ref b)]) hx hb dL_law_1615 hl (k := 0) rfl (by decide) (by decide) rfl (fun ls hl => ?_)
        refine lv_goto (tgt := 18) hx hb dL_law_1618 (by decide) ?_
        refine lv_iload_n hx hb dL_law_18 rfl (lv_at hl 0 rfl) ?_
        refine lv_aload_n hx hb dL_law_19 rfl (lv_at hl 3 rfl) ?_
        refine va_slen hx hb hX hbl hbA hw.2.2 dL_law_20 ?_
        refine lv_topi (fun ln e_ln => ?_)
        have i_ln : ln.toInt = L := by rw [e_ln]; exact nI_toInt (by omega)
        refine lv_bipush (v := 6) hx hb dL_law_21 (by decide) ?_
        refine lv_isub hx hb dL_law_23 ?_
        refine lv_topi (fun w229 e_w229 => ?_)
        have i_w229 : w229.toInt = ((L : Int) - 6) := z_subI e_w229 i_ln (show (6 : Int32).toInt = 6 by decide) (by omega)
        refine z_icmp_gt (tgt := 1621) hx hb (show (6 : Int32).toInt = 6 by decide) i_w229 dL_law_24 (by decide) (fun c230 => ?_) (fun c230 => False.elim (by omega))
        refine lv_iconst (v := 1) hx hb dL_law_1621 (by decide) ?_
        refine va_forget (fun q hq => hw.2.2.2.2 q hq) ?_
        refine W.widen (k := 600000) (n := 7302250) (by decide) (by decide) ?_
        exact lw_ret hx hb hr hlocks dL_law_1622
      · skip
        refine lv_tableIn (off := 1179) (tgt := 1212) hx hb dL_law_33 (by omega) (by omega) (by rw [show w11.toInt = 30 from c12]; rfl) (by decide) ?_
        refine lv_aload_n hx hb dL_law_1212 rfl (lv_at hl 2 rfl) ?_
        refine lv_aload_n hx hb dL_law_1213 rfl (lv_at hl 3 rfl) ?_
        refine lv_iload_n hx hb dL_law_1214 rfl (lv_at hl 0 rfl) ?_
        refine lv_iconst (v := 1) hx hb dL_law_1215 (by decide) ?_
        refine lv_iadd hx hb dL_law_1216 ?_
        refine z_lit (y := 1) (by decide) ?_
        refine va_sld hx hb hX hbl hbA hw.2.2 (z_ix (show (1 : Int32).toInt = 1 by decide) (by omega)) dL_law_1217 ?_
        refine z_lit (y := x1) ex1.symm ?_
        refine lv_aload_n hx hb dL_law_1218 rfl (lv_at hl 3 rfl) ?_
        refine lv_iload_n hx hb dL_law_1219 rfl (lv_at hl 0 rfl) ?_
        refine lv_iconst (v := 2) hx hb dL_law_1220 (by decide) ?_
        refine lv_iadd hx hb dL_law_1221 ?_
        refine z_lit (y := 2) (by decide) ?_
        refine va_sld hx hb hX hbl hbA hw.2.2 (z_ix (show (2 : Int32).toInt = 2 by decide) (by omega)) dL_law_1222 ?_
        refine z_lit (y := x2) ex2.symm ?_
        refine z_calliV (cells := 164) (slots := 16321) (b := hs) (As := [.int x1, .int x2]) (rest := []) (ci := 9) (q0 := (RX9, TX9, 11)) ⟨hx, hb, hml, hown, hT⟩ (c_X9_anew l hm_hs hm_mo hf_hs hf_mo) (cwV 2 hT (z_goodV (fun _ h => h) kw_1059 kw_1060 kw_1061 kw_85 kw_1062) rfl rfl rfl (by decide +kernel) ⟨by decide, by decide⟩) z_mv hKK hK hw hA hm_hs hf_hs rfl rfl rfl hl.1 rfl (Nat.le_of_ble_eq_true rfl) dL_law_1223 ⟨by decide, by decide⟩ (fun r231 u H locs hp hw => ?_)
        obtain ⟨rfl, hp⟩ := hp
        have hw : z_H D vwCl ((fun q : Nat => s.heap.size ≤ q)) s.heap L7 f8 H locs := hw
        have hpA := hp
        refine lv_aload_n hx hb dL_law_1226 rfl (lv_at hl 1 rfl) ?_
        refine lv_aload_n hx hb dL_law_1227 rfl (lv_at hl 3 rfl) ?_
        refine lv_iload_n hx hb dL_law_1228 rfl (lv_at hl 0 rfl) ?_
        refine lv_iconst (v := 1) hx hb dL_law_1229 (by decide) ?_
        refine lv_iadd hx hb dL_law_1230 ?_
        refine z_lit (y := 1) (by decide) ?_
        refine va_sld hx hb hX hbl hbA hw.2.2 (z_ix (show (1 : Int32).toInt = 1 by decide) (by omega)) dL_law_1231 ?_
        refine z_lit (y := x1) ex1.symm ?_
        refine lv_aload_n hx hb dL_law_1232 rfl (lv_at hl 3 rfl) ?_
        refine lv_iload_n hx hb dL_law_1233 rfl (lv_at hl 0 rfl) ?_
        refine lv_iconst (v := 2) hx hb dL_law_1234 (by decide) ?_
        refine lv_iadd hx hb dL_law_1235 ?_
        refine z_lit (y := 2) (by decide) ?_
        refine va_sld hx hb hX hbl hbA hw.2.2 (z_ix (show (2 : Int32).toInt = 2 by decide) (by omega)) dL_law_1236 ?_
        refine z_lit (y := x2) ex2.symm ?_
        refine z_calliV (cells := 164) (slots := 16321) (b := me) (As := [.int x1, .int x2]) (rest := [.int r231]) (ci := 10) (q0 := (RX10, TX10, 54)) ⟨hx, hb, hml, hown, hT⟩ (c_X10_anew l hm_me hm_ml hm_mh hf_me hf_ml hf_mh) (cwV 2 hT (z_goodV (fun _ h => h) kw_1727 kw_1728 kw_1729 kw_96 kw_1730) rfl rfl rfl (by decide +kernel) ⟨by decide, by decide⟩) z_mv hKK hK hw hA hm_me hf_me rfl rfl rfl hl.1 rfl (Nat.le_of_ble_eq_true rfl) dL_law_1237 ⟨by decide, by decide⟩ (fun r232 u H locs hp hw => ?_)
        obtain ⟨L233, f234⟩ := u
        obtain ⟨hsb, hfm, hp⟩ := hp
        have hw : z_H D vwCl ((fun q : Nat => s.heap.size ≤ q)) s.heap L233 f234 H locs := hw
        have hf_hs : f234 hs = .inr (9, [.ref tp, .ref rd, .ref mo, .ref dr, .ref im, .ref kp, .ref sl, .ref wk, .ref pl, .ref ex, .ref mx]) := (hfm hs hm_hs ne_hs_me).trans hf_hs
        have hf_mo : f234 mo = .inr (2, [.int 0, .int 0, .int 0, .int 0, .int 0, .int 0, .int 0, .ref la, .ref sa, .ref mi, .ref da]) := (hfm mo hm_mo ne_mo_me).trans hf_mo
        have hf_ml : f234 ml = .inl (cy 1, 5, .inl (fun _ => 0)) := (hfm ml hm_ml (Ne.symm ne_me_ml)).trans hf_ml
        have hf_mh : f234 mh = .inl (cy 1, 30, .inl (fun _ => 0)) := (hfm mh hm_mh (Ne.symm ne_me_mh)).trans hf_mh
        have hm_hs : hs ∈ L233 := hsb _ hm_hs
        have hm_mo : mo ∈ L233 := hsb _ hm_mo
        have hm_me : me ∈ L233 := hsb _ hm_me
        have hm_ml : ml ∈ L233 := hsb _ hm_ml
        have hm_mh : mh ∈ L233 := hsb _ hm_mh
        have hpB := hp
        refine z_icmp_eq (tgt := 1615) hx hb rfl rfl dL_law_1240 (by decide) (fun c235 => ?_) (fun c235 => False.elim (by omega))
        refine lv_iinc (v := 6) (lv' := [(3, .int 6), (2, .ref me), (1, .ref hs), (0, .ref b)]) hx hb dL_law_1615 hl (k := 0) rfl (by decide) (by decide) rfl (fun ls hl => ?_)
        refine lv_goto (tgt := 18) hx hb dL_law_1618 (by decide) ?_
        refine lv_iload_n hx hb dL_law_18 rfl (lv_at hl 0 rfl) ?_
        refine lv_aload_n hx hb dL_law_19 rfl (lv_at hl 3 rfl) ?_
        refine va_slen hx hb hX hbl hbA hw.2.2 dL_law_20 ?_
        refine lv_topi (fun ln e_ln => ?_)
        have i_ln : ln.toInt = L := by rw [e_ln]; exact nI_toInt (by omega)
        refine lv_bipush (v := 6) hx hb dL_law_21 (by decide) ?_
        refine lv_isub hx hb dL_law_23 ?_
        refine lv_topi (fun w236 e_w236 => ?_)
        have i_w236 : w236.toInt = ((L : Int) - 6) := z_subI e_w236 i_ln (show (6 : Int32).toInt = 6 by decide) (by omega)
        refine z_icmp_gt (tgt := 1621) hx hb (show (6 : Int32).toInt = 6 by decide) i_w236 dL_law_24 (by decide) (fun c237 => ?_) (fun c237 => False.elim (by omega))
        refine lv_iconst (v := 1) hx hb dL_law_1621 (by decide) ?_
        refine va_forget (fun q hq => hw.2.2.2.2 q hq) ?_
        refine W.widen (k := 600000) (n := 7302250) (by decide) (by decide) ?_
        exact lw_ret hx hb hr hlocks dL_law_1622
      · skip
        refine lv_tableIn (off := 1212) (tgt := 1245) hx hb dL_law_33 (by omega) (by omega) (by rw [show w11.toInt = 31 from c12]; rfl) (by decide) ?_
        refine lv_aload_n hx hb dL_law_1245 rfl (lv_at hl 2 rfl) ?_
        refine lv_aload_n hx hb dL_law_1246 rfl (lv_at hl 3 rfl) ?_
        refine lv_iload_n hx hb dL_law_1247 rfl (lv_at hl 0 rfl) ?_
        refine lv_iconst (v := 1) hx hb dL_law_1248 (by decide) ?_
        refine lv_iadd hx hb dL_law_1249 ?_
        refine z_lit (y := 1) (by decide) ?_
        refine va_sld hx hb hX hbl hbA hw.2.2 (z_ix (show (1 : Int32).toInt = 1 by decide) (by omega)) dL_law_1250 ?_
        refine z_lit (y := x1) ex1.symm ?_
        refine lv_aload_n hx hb dL_law_1251 rfl (lv_at hl 3 rfl) ?_
        refine lv_iload_n hx hb dL_law_1252 rfl (lv_at hl 0 rfl) ?_
        refine lv_iconst (v := 2) hx hb dL_law_1253 (by decide) ?_
        refine lv_iadd hx hb dL_law_1254 ?_
        refine z_lit (y := 2) (by decide) ?_
        refine va_sld hx hb hX hbl hbA hw.2.2 (z_ix (show (2 : Int32).toInt = 2 by decide) (by omega)) dL_law_1255 ?_
        refine z_lit (y := x2) ex2.symm ?_
        refine z_calliV (cells := 164) (slots := 16321) (b := hs) (As := [.int x1, .int x2]) (rest := []) (ci := 9) (q0 := (RX9, TX9, 11)) ⟨hx, hb, hml, hown, hT⟩ (c_X9_mixed l hm_hs hm_mo hf_hs hf_mo) (cwV 2 hT (z_goodV (fun _ h => h) kw_1063 kw_1064 kw_1065 kw_85 kw_1066) rfl rfl rfl (by decide +kernel) ⟨by decide, by decide⟩) z_mv hKK hK hw hA hm_hs hf_hs rfl rfl rfl hl.1 rfl (Nat.le_of_ble_eq_true rfl) dL_law_1256 ⟨by decide, by decide⟩ (fun r238 u H locs hp hw => ?_)
        obtain ⟨rfl, hp⟩ := hp
        have hw : z_H D vwCl ((fun q : Nat => s.heap.size ≤ q)) s.heap L7 f8 H locs := hw
        have hpA := hp
        refine lv_aload_n hx hb dL_law_1259 rfl (lv_at hl 1 rfl) ?_
        refine lv_aload_n hx hb dL_law_1260 rfl (lv_at hl 3 rfl) ?_
        refine lv_iload_n hx hb dL_law_1261 rfl (lv_at hl 0 rfl) ?_
        refine lv_iconst (v := 1) hx hb dL_law_1262 (by decide) ?_
        refine lv_iadd hx hb dL_law_1263 ?_
        refine z_lit (y := 1) (by decide) ?_
        refine va_sld hx hb hX hbl hbA hw.2.2 (z_ix (show (1 : Int32).toInt = 1 by decide) (by omega)) dL_law_1264 ?_
        refine z_lit (y := x1) ex1.symm ?_
        refine lv_aload_n hx hb dL_law_1265 rfl (lv_at hl 3 rfl) ?_
        refine lv_iload_n hx hb dL_law_1266 rfl (lv_at hl 0 rfl) ?_
        refine lv_iconst (v := 2) hx hb dL_law_1267 (by decide) ?_
        refine lv_iadd hx hb dL_law_1268 ?_
        refine z_lit (y := 2) (by decide) ?_
        refine va_sld hx hb hX hbl hbA hw.2.2 (z_ix (show (2 : Int32).toInt = 2 by decide) (by omega)) dL_law_1269 ?_
        refine z_lit (y := x2) ex2.symm ?_
        refine z_calliV (cells := 164) (slots := 16321) (b := me) (As := [.int x1, .int x2]) (rest := [.int r238]) (ci := 10) (q0 := (RX10, TX10, 54)) ⟨hx, hb, hml, hown, hT⟩ (c_X10_mixed l hm_me hm_ml hm_mh hf_me hf_ml hf_mh) (cwV 2 hT (z_goodV (fun _ h => h) kw_1735 kw_1736 kw_1737 kw_96 kw_1738) rfl rfl rfl (by decide +kernel) ⟨by decide, by decide⟩) z_mv hKK hK hw hA hm_me hf_me rfl rfl rfl hl.1 rfl (Nat.le_of_ble_eq_true rfl) dL_law_1270 ⟨by decide, by decide⟩ (fun r239 u H locs hp hw => ?_)
        obtain ⟨L240, f241⟩ := u
        obtain ⟨hsb, hfm, hp⟩ := hp
        have hw : z_H D vwCl ((fun q : Nat => s.heap.size ≤ q)) s.heap L240 f241 H locs := hw
        have hf_hs : f241 hs = .inr (9, [.ref tp, .ref rd, .ref mo, .ref dr, .ref im, .ref kp, .ref sl, .ref wk, .ref pl, .ref ex, .ref mx]) := (hfm hs hm_hs ne_hs_me).trans hf_hs
        have hf_mo : f241 mo = .inr (2, [.int 0, .int 0, .int 0, .int 0, .int 0, .int 0, .int 0, .ref la, .ref sa, .ref mi, .ref da]) := (hfm mo hm_mo ne_mo_me).trans hf_mo
        have hf_ml : f241 ml = .inl (cy 1, 5, .inl (fun _ => 0)) := (hfm ml hm_ml (Ne.symm ne_me_ml)).trans hf_ml
        have hf_mh : f241 mh = .inl (cy 1, 30, .inl (fun _ => 0)) := (hfm mh hm_mh (Ne.symm ne_me_mh)).trans hf_mh
        have hm_hs : hs ∈ L240 := hsb _ hm_hs
        have hm_mo : mo ∈ L240 := hsb _ hm_mo
        have hm_me : me ∈ L240 := hsb _ hm_me
        have hm_ml : ml ∈ L240 := hsb _ hm_ml
        have hm_mh : mh ∈ L240 := hsb _ hm_mh
        have hpB := hp
        refine z_icmp_eq (tgt := 1615) hx hb rfl rfl dL_law_1273 (by decide) (fun c242 => ?_) (fun c242 => False.elim (by omega))
        refine lv_iinc (v := 6) (lv' := [(3, .int 6), (2, .ref me), (1, .ref hs), (0, .ref b)]) hx hb dL_law_1615 hl (k := 0) rfl (by decide) (by decide) rfl (fun ls hl => ?_)
        refine lv_goto (tgt := 18) hx hb dL_law_1618 (by decide) ?_
        refine lv_iload_n hx hb dL_law_18 rfl (lv_at hl 0 rfl) ?_
        refine lv_aload_n hx hb dL_law_19 rfl (lv_at hl 3 rfl) ?_
        refine va_slen hx hb hX hbl hbA hw.2.2 dL_law_20 ?_
        refine lv_topi (fun ln e_ln => ?_)
        have i_ln : ln.toInt = L := by rw [e_ln]; exact nI_toInt (by omega)
        refine lv_bipush (v := 6) hx hb dL_law_21 (by decide) ?_
        refine lv_isub hx hb dL_law_23 ?_
        refine lv_topi (fun w243 e_w243 => ?_)
        have i_w243 : w243.toInt = ((L : Int) - 6) := z_subI e_w243 i_ln (show (6 : Int32).toInt = 6 by decide) (by omega)
        refine z_icmp_gt (tgt := 1621) hx hb (show (6 : Int32).toInt = 6 by decide) i_w243 dL_law_24 (by decide) (fun c244 => ?_) (fun c244 => False.elim (by omega))
        refine lv_iconst (v := 1) hx hb dL_law_1621 (by decide) ?_
        refine va_forget (fun q hq => hw.2.2.2.2 q hq) ?_
        refine W.widen (k := 600000) (n := 7302250) (by decide) (by decide) ?_
        exact lw_ret hx hb hr hlocks dL_law_1622
      · skip
        refine lv_tableIn (off := 1245) (tgt := 1278) hx hb dL_law_33 (by omega) (by omega) (by rw [show w11.toInt = 32 from c12]; rfl) (by decide) ?_
        refine lv_aload_n hx hb dL_law_1278 rfl (lv_at hl 2 rfl) ?_
        refine lv_aload_n hx hb dL_law_1279 rfl (lv_at hl 3 rfl) ?_
        refine lv_iload_n hx hb dL_law_1280 rfl (lv_at hl 0 rfl) ?_
        refine lv_iconst (v := 1) hx hb dL_law_1281 (by decide) ?_
        refine lv_iadd hx hb dL_law_1282 ?_
        refine z_lit (y := 1) (by decide) ?_
        refine va_sld hx hb hX hbl hbA hw.2.2 (z_ix (show (1 : Int32).toInt = 1 by decide) (by omega)) dL_law_1283 ?_
        refine z_lit (y := x1) ex1.symm ?_
        refine lv_aload_n hx hb dL_law_1284 rfl (lv_at hl 3 rfl) ?_
        refine lv_iload_n hx hb dL_law_1285 rfl (lv_at hl 0 rfl) ?_
        refine lv_iconst (v := 2) hx hb dL_law_1286 (by decide) ?_
        refine lv_iadd hx hb dL_law_1287 ?_
        refine z_lit (y := 2) (by decide) ?_
        refine va_sld hx hb hX hbl hbA hw.2.2 (z_ix (show (2 : Int32).toInt = 2 by decide) (by omega)) dL_law_1288 ?_
        refine z_lit (y := x2) ex2.symm ?_
        refine lv_aload_n hx hb dL_law_1289 rfl (lv_at hl 3 rfl) ?_
        refine lv_iload_n hx hb dL_law_1290 rfl (lv_at hl 0 rfl) ?_
        refine lv_iconst (v := 3) hx hb dL_law_1291 (by decide) ?_
        refine lv_iadd hx hb dL_law_1292 ?_
        refine z_lit (y := 3) (by decide) ?_
        refine va_sld hx hb hX hbl hbA hw.2.2 (z_ix (show (3 : Int32).toInt = 3 by decide) (by omega)) dL_law_1293 ?_
        refine z_lit (y := x3) ex3.symm ?_
        refine z_calliV (cells := 164) (slots := 16321) (b := hs) (As := [.int x1, .int x2, .int x3]) (rest := []) (ci := 9) (q0 := (RX9, TX9, 11)) ⟨hx, hb, hml, hown, hT⟩ (c_X9_luck l hm_hs hm_mo hf_hs hf_mo) (cwV 3 hT (z_goodV (fun _ h => h) kw_1106 kw_1107 kw_1108 kw_85 kw_1109) rfl rfl rfl (by decide +kernel) ⟨by decide, by decide⟩) z_mv hKK hK hw hA hm_hs hf_hs rfl rfl rfl hl.1 rfl (Nat.le_of_ble_eq_true rfl) dL_law_1294 ⟨by decide, by decide⟩ (fun r245 u H locs hp hw => ?_)
        obtain ⟨rfl, hp⟩ := hp
        have hw : z_H D vwCl ((fun q : Nat => s.heap.size ≤ q)) s.heap L7 f8 H locs := hw
        have hpA := hp
        refine lv_aload_n hx hb dL_law_1297 rfl (lv_at hl 1 rfl) ?_
        refine lv_aload_n hx hb dL_law_1298 rfl (lv_at hl 3 rfl) ?_
        refine lv_iload_n hx hb dL_law_1299 rfl (lv_at hl 0 rfl) ?_
        refine lv_iconst (v := 1) hx hb dL_law_1300 (by decide) ?_
        refine lv_iadd hx hb dL_law_1301 ?_
        refine z_lit (y := 1) (by decide) ?_
        refine va_sld hx hb hX hbl hbA hw.2.2 (z_ix (show (1 : Int32).toInt = 1 by decide) (by omega)) dL_law_1302 ?_
        refine z_lit (y := x1) ex1.symm ?_
        refine lv_aload_n hx hb dL_law_1303 rfl (lv_at hl 3 rfl) ?_
        refine lv_iload_n hx hb dL_law_1304 rfl (lv_at hl 0 rfl) ?_
        refine lv_iconst (v := 2) hx hb dL_law_1305 (by decide) ?_
        refine lv_iadd hx hb dL_law_1306 ?_
        refine z_lit (y := 2) (by decide) ?_
        refine va_sld hx hb hX hbl hbA hw.2.2 (z_ix (show (2 : Int32).toInt = 2 by decide) (by omega)) dL_law_1307 ?_
        refine z_lit (y := x2) ex2.symm ?_
        refine lv_aload_n hx hb dL_law_1308 rfl (lv_at hl 3 rfl) ?_
        refine lv_iload_n hx hb dL_law_1309 rfl (lv_at hl 0 rfl) ?_
        refine lv_iconst (v := 3) hx hb dL_law_1310 (by decide) ?_
        refine lv_iadd hx hb dL_law_1311 ?_
        refine z_lit (y := 3) (by decide) ?_
        refine va_sld hx hb hX hbl hbA hw.2.2 (z_ix (show (3 : Int32).toInt = 3 by decide) (by omega)) dL_law_1312 ?_
        refine z_lit (y := x3) ex3.symm ?_
        refine z_calliV (cells := 164) (slots := 16321) (b := me) (As := [.int x1, .int x2, .int x3]) (rest := [.int r245]) (ci := 10) (q0 := (RX10, TX10, 54)) ⟨hx, hb, hml, hown, hT⟩ (c_X10_luck l hm_me hm_ml hm_mh hf_me hf_ml hf_mh) (cwV 3 hT (z_goodV (fun _ h => h) kw_1747 kw_1748 kw_1749 kw_96 kw_1750) rfl rfl rfl (by decide +kernel) ⟨by decide, by decide⟩) z_mv hKK hK hw hA hm_me hf_me rfl rfl rfl hl.1 rfl (Nat.le_of_ble_eq_true rfl) dL_law_1313 ⟨by decide, by decide⟩ (fun r246 u H locs hp hw => ?_)
        obtain ⟨L247, f248⟩ := u
        obtain ⟨hsb, hfm, hp⟩ := hp
        have hw : z_H D vwCl ((fun q : Nat => s.heap.size ≤ q)) s.heap L247 f248 H locs := hw
        have hf_hs : f248 hs = .inr (9, [.ref tp, .ref rd, .ref mo, .ref dr, .ref im, .ref kp, .ref sl, .ref wk, .ref pl, .ref ex, .ref mx]) := (hfm hs hm_hs ne_hs_me).trans hf_hs
        have hf_mo : f248 mo = .inr (2, [.int 0, .int 0, .int 0, .int 0, .int 0, .int 0, .int 0, .ref la, .ref sa, .ref mi, .ref da]) := (hfm mo hm_mo ne_mo_me).trans hf_mo
        have hf_ml : f248 ml = .inl (cy 1, 5, .inl (fun _ => 0)) := (hfm ml hm_ml (Ne.symm ne_me_ml)).trans hf_ml
        have hf_mh : f248 mh = .inl (cy 1, 30, .inl (fun _ => 0)) := (hfm mh hm_mh (Ne.symm ne_me_mh)).trans hf_mh
        have hm_hs : hs ∈ L247 := hsb _ hm_hs
        have hm_mo : mo ∈ L247 := hsb _ hm_mo
        have hm_me : me ∈ L247 := hsb _ hm_me
        have hm_ml : ml ∈ L247 := hsb _ hm_ml
        have hm_mh : mh ∈ L247 := hsb _ hm_mh
        have hpB := hp
        refine z_icmp_eq (tgt := 1615) hx hb rfl rfl dL_law_1316 (by decide) (fun c249 => ?_) (fun c249 => False.elim (by omega))
        refine lv_iinc (v := 6) (lv' := [(3, .int 6), (2, .ref me), (1, .ref hs), (0, .ref b)]) hx hb dL_law_1615 hl (k := 0) rfl (by decide) (by decide) rfl (fun ls hl => ?_)
        refine lv_goto (tgt := 18) hx hb dL_law_1618 (by decide) ?_
        refine lv_iload_n hx hb dL_law_18 rfl (lv_at hl 0 rfl) ?_
        refine lv_aload_n hx hb dL_law_19 rfl (lv_at hl 3 rfl) ?_
        refine va_slen hx hb hX hbl hbA hw.2.2 dL_law_20 ?_
        refine lv_topi (fun ln e_ln => ?_)
        have i_ln : ln.toInt = L := by rw [e_ln]; exact nI_toInt (by omega)
        refine lv_bipush (v := 6) hx hb dL_law_21 (by decide) ?_
        refine lv_isub hx hb dL_law_23 ?_
        refine lv_topi (fun w250 e_w250 => ?_)
        have i_w250 : w250.toInt = ((L : Int) - 6) := z_subI e_w250 i_ln (show (6 : Int32).toInt = 6 by decide) (by omega)
        refine z_icmp_gt (tgt := 1621) hx hb (show (6 : Int32).toInt = 6 by decide) i_w250 dL_law_24 (by decide) (fun c251 => ?_) (fun c251 => False.elim (by omega))
        refine lv_iconst (v := 1) hx hb dL_law_1621 (by decide) ?_
        refine va_forget (fun q hq => hw.2.2.2.2 q hq) ?_
        refine W.widen (k := 600000) (n := 7302250) (by decide) (by decide) ?_
        exact lw_ret hx hb hr hlocks dL_law_1622
      · skip
        refine lv_tableIn (off := 1288) (tgt := 1321) hx hb dL_law_33 (by omega) (by omega) (by rw [show w11.toInt = 33 from c12]; rfl) (by decide) ?_
        refine lv_aload_n hx hb dL_law_1321 rfl (lv_at hl 2 rfl) ?_
        refine lv_aload_n hx hb dL_law_1322 rfl (lv_at hl 3 rfl) ?_
        refine lv_iload_n hx hb dL_law_1323 rfl (lv_at hl 0 rfl) ?_
        refine lv_iconst (v := 1) hx hb dL_law_1324 (by decide) ?_
        refine lv_iadd hx hb dL_law_1325 ?_
        refine z_lit (y := 1) (by decide) ?_
        refine va_sld hx hb hX hbl hbA hw.2.2 (z_ix (show (1 : Int32).toInt = 1 by decide) (by omega)) dL_law_1326 ?_
        refine z_lit (y := x1) ex1.symm ?_
        refine z_calliV (cells := 164) (slots := 16321) (b := hs) (As := [.int x1]) (rest := []) (ci := 9) (q0 := (RX9, TX9, 11)) ⟨hx, hb, hml, hown, hT⟩ (c_X9_free l hm_hs hm_mo hf_hs hf_mo) (cwV 1 hT (z_goodV (fun _ h => h) kw_1110 kw_1111 kw_1112 kw_85 kw_1113) rfl rfl rfl (by decide +kernel) ⟨by decide, by decide⟩) z_mv hKK hK hw hA hm_hs hf_hs rfl rfl rfl hl.1 rfl (Nat.le_of_ble_eq_true rfl) dL_law_1327 ⟨by decide, by decide⟩ (fun r252 u H locs hp hw => ?_)
        obtain ⟨rfl, hp⟩ := hp
        have hw : z_H D vwCl ((fun q : Nat => s.heap.size ≤ q)) s.heap L7 f8 H locs := hw
        have hpA := hp
        refine lv_aload_n hx hb dL_law_1330 rfl (lv_at hl 1 rfl) ?_
        refine lv_aload_n hx hb dL_law_1331 rfl (lv_at hl 3 rfl) ?_
        refine lv_iload_n hx hb dL_law_1332 rfl (lv_at hl 0 rfl) ?_
        refine lv_iconst (v := 1) hx hb dL_law_1333 (by decide) ?_
        refine lv_iadd hx hb dL_law_1334 ?_
        refine z_lit (y := 1) (by decide) ?_
        refine va_sld hx hb hX hbl hbA hw.2.2 (z_ix (show (1 : Int32).toInt = 1 by decide) (by omega)) dL_law_1335 ?_
        refine z_lit (y := x1) ex1.symm ?_
        refine z_calliV (cells := 164) (slots := 16321) (b := me) (As := [.int x1]) (rest := [.int r252]) (ci := 10) (q0 := (RX10, TX10, 54)) ⟨hx, hb, hml, hown, hT⟩ (c_X10_free l hm_me hm_ml hm_mh hf_me hf_ml hf_mh) (cwV 1 hT (z_goodV (fun _ h => h) kw_1752 kw_1753 kw_1754 kw_96 kw_1755) rfl rfl rfl (by decide +kernel) ⟨by decide, by decide⟩) z_mv hKK hK hw hA hm_me hf_me rfl rfl rfl hl.1 rfl (Nat.le_of_ble_eq_true rfl) dL_law_1336 ⟨by decide, by decide⟩ (fun r253 u H locs hp hw => ?_)
        obtain ⟨L254, f255⟩ := u
        obtain ⟨hsb, hfm, hp⟩ := hp
        have hw : z_H D vwCl ((fun q : Nat => s.heap.size ≤ q)) s.heap L254 f255 H locs := hw
        have hf_hs : f255 hs = .inr (9, [.ref tp, .ref rd, .ref mo, .ref dr, .ref im, .ref kp, .ref sl, .ref wk, .ref pl, .ref ex, .ref mx]) := (hfm hs hm_hs ne_hs_me).trans hf_hs
        have hf_mo : f255 mo = .inr (2, [.int 0, .int 0, .int 0, .int 0, .int 0, .int 0, .int 0, .ref la, .ref sa, .ref mi, .ref da]) := (hfm mo hm_mo ne_mo_me).trans hf_mo
        have hf_ml : f255 ml = .inl (cy 1, 5, .inl (fun _ => 0)) := (hfm ml hm_ml (Ne.symm ne_me_ml)).trans hf_ml
        have hf_mh : f255 mh = .inl (cy 1, 30, .inl (fun _ => 0)) := (hfm mh hm_mh (Ne.symm ne_me_mh)).trans hf_mh
        have hm_hs : hs ∈ L254 := hsb _ hm_hs
        have hm_mo : mo ∈ L254 := hsb _ hm_mo
        have hm_me : me ∈ L254 := hsb _ hm_me
        have hm_ml : ml ∈ L254 := hsb _ hm_ml
        have hm_mh : mh ∈ L254 := hsb _ hm_mh
        have hpB := hp
        refine z_icmp_eq (tgt := 1615) hx hb rfl rfl dL_law_1339 (by decide) (fun c256 => ?_) (fun c256 => False.elim (by omega))
        refine lv_iinc (v := 6) (lv' := [(3, .int 6), (2, .ref me), (1, .ref hs), (0, .ref b)]) hx hb dL_law_1615 hl (k := 0) rfl (by decide) (by decide) rfl (fun ls hl => ?_)
        refine lv_goto (tgt := 18) hx hb dL_law_1618 (by decide) ?_
        refine lv_iload_n hx hb dL_law_18 rfl (lv_at hl 0 rfl) ?_
        refine lv_aload_n hx hb dL_law_19 rfl (lv_at hl 3 rfl) ?_
        refine va_slen hx hb hX hbl hbA hw.2.2 dL_law_20 ?_
        refine lv_topi (fun ln e_ln => ?_)
        have i_ln : ln.toInt = L := by rw [e_ln]; exact nI_toInt (by omega)
        refine lv_bipush (v := 6) hx hb dL_law_21 (by decide) ?_
        refine lv_isub hx hb dL_law_23 ?_
        refine lv_topi (fun w257 e_w257 => ?_)
        have i_w257 : w257.toInt = ((L : Int) - 6) := z_subI e_w257 i_ln (show (6 : Int32).toInt = 6 by decide) (by omega)
        refine z_icmp_gt (tgt := 1621) hx hb (show (6 : Int32).toInt = 6 by decide) i_w257 dL_law_24 (by decide) (fun c258 => ?_) (fun c258 => False.elim (by omega))
        refine lv_iconst (v := 1) hx hb dL_law_1621 (by decide) ?_
        refine va_forget (fun q hq => hw.2.2.2.2 q hq) ?_
        refine W.widen (k := 600000) (n := 7302250) (by decide) (by decide) ?_
        exact lw_ret hx hb hr hlocks dL_law_1622
      · skip
        refine lv_tableIn (off := 1311) (tgt := 1344) hx hb dL_law_33 (by omega) (by omega) (by rw [show w11.toInt = 34 from c12]; rfl) (by decide) ?_
        refine lv_aload_n hx hb dL_law_1344 rfl (lv_at hl 2 rfl) ?_
        refine lv_aload_n hx hb dL_law_1345 rfl (lv_at hl 3 rfl) ?_
        refine lv_iload_n hx hb dL_law_1346 rfl (lv_at hl 0 rfl) ?_
        refine lv_iconst (v := 1) hx hb dL_law_1347 (by decide) ?_
        refine lv_iadd hx hb dL_law_1348 ?_
        refine z_lit (y := 1) (by decide) ?_
        refine va_sld hx hb hX hbl hbA hw.2.2 (z_ix (show (1 : Int32).toInt = 1 by decide) (by omega)) dL_law_1349 ?_
        refine z_lit (y := x1) ex1.symm ?_
        refine z_calliV (cells := 164) (slots := 16321) (b := hs) (As := [.int x1]) (rest := []) (ci := 9) (q0 := (RX9, TX9, 11)) ⟨hx, hb, hml, hown, hT⟩ (c_X9_all l hm_hs hm_mo hf_hs hf_mo) (cwV 1 hT (z_goodV (fun _ h => h) kw_1114 kw_1115 kw_1116 kw_85 kw_1117) rfl rfl rfl (by decide +kernel) ⟨by decide, by decide⟩) z_mv hKK hK hw hA hm_hs hf_hs rfl rfl rfl hl.1 rfl (Nat.le_of_ble_eq_true rfl) dL_law_1350 ⟨by decide, by decide⟩ (fun r259 u H locs hp hw => ?_)
        obtain ⟨rfl, hp⟩ := hp
        have hw : z_H D vwCl ((fun q : Nat => s.heap.size ≤ q)) s.heap L7 f8 H locs := hw
        have hpA := hp
        refine lv_aload_n hx hb dL_law_1353 rfl (lv_at hl 1 rfl) ?_
        refine lv_aload_n hx hb dL_law_1354 rfl (lv_at hl 3 rfl) ?_
        refine lv_iload_n hx hb dL_law_1355 rfl (lv_at hl 0 rfl) ?_
        refine lv_iconst (v := 1) hx hb dL_law_1356 (by decide) ?_
        refine lv_iadd hx hb dL_law_1357 ?_
        refine z_lit (y := 1) (by decide) ?_
        refine va_sld hx hb hX hbl hbA hw.2.2 (z_ix (show (1 : Int32).toInt = 1 by decide) (by omega)) dL_law_1358 ?_
        refine z_lit (y := x1) ex1.symm ?_
        refine z_calliV (cells := 164) (slots := 16321) (b := me) (As := [.int x1]) (rest := [.int r259]) (ci := 10) (q0 := (RX10, TX10, 54)) ⟨hx, hb, hml, hown, hT⟩ (c_X10_all l hm_me hm_ml hm_mh hf_me hf_ml hf_mh) (cwV 1 hT (z_goodV (fun _ h => h) kw_1756 kw_1757 kw_1758 kw_96 kw_1759) rfl rfl rfl (by decide +kernel) ⟨by decide, by decide⟩) z_mv hKK hK hw hA hm_me hf_me rfl rfl rfl hl.1 rfl (Nat.le_of_ble_eq_true rfl) dL_law_1359 ⟨by decide, by decide⟩ (fun r260 u H locs hp hw => ?_)
        obtain ⟨L261, f262⟩ := u
        obtain ⟨hsb, hfm, hp⟩ := hp
        have hw : z_H D vwCl ((fun q : Nat => s.heap.size ≤ q)) s.heap L261 f262 H locs := hw
        have hf_hs : f262 hs = .inr (9, [.ref tp, .ref rd, .ref mo, .ref dr, .ref im, .ref kp, .ref sl, .ref wk, .ref pl, .ref ex, .ref mx]) := (hfm hs hm_hs ne_hs_me).trans hf_hs
        have hf_mo : f262 mo = .inr (2, [.int 0, .int 0, .int 0, .int 0, .int 0, .int 0, .int 0, .ref la, .ref sa, .ref mi, .ref da]) := (hfm mo hm_mo ne_mo_me).trans hf_mo
        have hf_ml : f262 ml = .inl (cy 1, 5, .inl (fun _ => 0)) := (hfm ml hm_ml (Ne.symm ne_me_ml)).trans hf_ml
        have hf_mh : f262 mh = .inl (cy 1, 30, .inl (fun _ => 0)) := (hfm mh hm_mh (Ne.symm ne_me_mh)).trans hf_mh
        have hm_hs : hs ∈ L261 := hsb _ hm_hs
        have hm_mo : mo ∈ L261 := hsb _ hm_mo
        have hm_me : me ∈ L261 := hsb _ hm_me
        have hm_ml : ml ∈ L261 := hsb _ hm_ml
        have hm_mh : mh ∈ L261 := hsb _ hm_mh
        have hpB := hp
        refine z_icmp_eq (tgt := 1615) hx hb rfl rfl dL_law_1362 (by decide) (fun c263 => ?_) (fun c263 => False.elim (by omega))
        refine lv_iinc (v := 6) (lv' := [(3, .int 6), (2, .ref me), (1, .ref hs), (0, .ref b)]) hx hb dL_law_1615 hl (k := 0) rfl (by decide) (by decide) rfl (fun ls hl => ?_)
        refine lv_goto (tgt := 18) hx hb dL_law_1618 (by decide) ?_
        refine lv_iload_n hx hb dL_law_18 rfl (lv_at hl 0 rfl) ?_
        refine lv_aload_n hx hb dL_law_19 rfl (lv_at hl 3 rfl) ?_
        refine va_slen hx hb hX hbl hbA hw.2.2 dL_law_20 ?_
        refine lv_topi (fun ln e_ln => ?_)
        have i_ln : ln.toInt = L := by rw [e_ln]; exact nI_toInt (by omega)
        refine lv_bipush (v := 6) hx hb dL_law_21 (by decide) ?_
        refine lv_isub hx hb dL_law_23 ?_
        refine lv_topi (fun w264 e_w264 => ?_)
        have i_w264 : w264.toInt = ((L : Int) - 6) := z_subI e_w264 i_ln (show (6 : Int32).toInt = 6 by decide) (by omega)
        refine z_icmp_gt (tgt := 1621) hx hb (show (6 : Int32).toInt = 6 by decide) i_w264 dL_law_24 (by decide) (fun c265 => ?_) (fun c265 => False.elim (by omega))
        refine lv_iconst (v := 1) hx hb dL_law_1621 (by decide) ?_
        refine va_forget (fun q hq => hw.2.2.2.2 q hq) ?_
        refine W.widen (k := 600000) (n := 7302250) (by decide) (by decide) ?_
        exact lw_ret hx hb hr hlocks dL_law_1622
      · skip
        refine lv_tableIn (off := 1334) (tgt := 1367) hx hb dL_law_33 (by omega) (by omega) (by rw [show w11.toInt = 35 from c12]; rfl) (by decide) ?_
        refine lv_aload_n hx hb dL_law_1367 rfl (lv_at hl 2 rfl) ?_
        refine lv_aload_n hx hb dL_law_1368 rfl (lv_at hl 3 rfl) ?_
        refine lv_iload_n hx hb dL_law_1369 rfl (lv_at hl 0 rfl) ?_
        refine lv_iconst (v := 1) hx hb dL_law_1370 (by decide) ?_
        refine lv_iadd hx hb dL_law_1371 ?_
        refine z_lit (y := 1) (by decide) ?_
        refine va_sld hx hb hX hbl hbA hw.2.2 (z_ix (show (1 : Int32).toInt = 1 by decide) (by omega)) dL_law_1372 ?_
        refine z_lit (y := x1) ex1.symm ?_
        refine z_calliV (cells := 164) (slots := 16321) (b := hs) (As := [.int x1]) (rest := []) (ci := 9) (q0 := (RX9, TX9, 11)) ⟨hx, hb, hml, hown, hT⟩ (c_X9_count l hm_hs hm_mo hm_tp hm_sl hm_si hf_hs hf_mo hf_tp hf_sl hf_si hpX.2.2.2.2.2.2.2.1) (cwV 1 hT (z_goodV (fun _ h => h) kw_1118 kw_1119 kw_1120 kw_85 kw_1121) rfl rfl rfl (by decide +kernel) ⟨by decide, by decide⟩) z_mv hKK hK hw hA hm_hs hf_hs rfl rfl rfl hl.1 rfl (Nat.le_of_ble_eq_true rfl) dL_law_1373 ⟨by decide, by decide⟩ (fun r266 u H locs hp hw => ?_)
        obtain ⟨rfl, hp⟩ := hp
        have hw : z_H D vwCl ((fun q : Nat => s.heap.size ≤ q)) s.heap L7 f8 H locs := hw
        have hpA := hp
        refine lv_aload_n hx hb dL_law_1376 rfl (lv_at hl 1 rfl) ?_
        refine lv_aload_n hx hb dL_law_1377 rfl (lv_at hl 3 rfl) ?_
        refine lv_iload_n hx hb dL_law_1378 rfl (lv_at hl 0 rfl) ?_
        refine lv_iconst (v := 1) hx hb dL_law_1379 (by decide) ?_
        refine lv_iadd hx hb dL_law_1380 ?_
        refine z_lit (y := 1) (by decide) ?_
        refine va_sld hx hb hX hbl hbA hw.2.2 (z_ix (show (1 : Int32).toInt = 1 by decide) (by omega)) dL_law_1381 ?_
        refine z_lit (y := x1) ex1.symm ?_
        refine z_calliV (cells := 164) (slots := 16321) (b := me) (As := [.int x1]) (rest := [.int r266]) (ci := 10) (q0 := (RX10, TX10, 54)) ⟨hx, hb, hml, hown, hT⟩ (c_X10_count l hm_me hm_ml hm_mh hm_mw hf_me hf_ml hf_mh hf_mw hpM.1) (cwV 1 hT (z_goodV (fun _ h => h) kw_1760 kw_1761 kw_1762 kw_96 kw_1763) rfl rfl rfl (by decide +kernel) ⟨by decide, by decide⟩) z_mv hKK hK hw hA hm_me hf_me rfl rfl rfl hl.1 rfl (Nat.le_of_ble_eq_true rfl) dL_law_1382 ⟨by decide, by decide⟩ (fun r267 u H locs hp hw => ?_)
        obtain ⟨L268, f269⟩ := u
        obtain ⟨hsb, hfm, hp⟩ := hp
        have hw : z_H D vwCl ((fun q : Nat => s.heap.size ≤ q)) s.heap L268 f269 H locs := hw
        have hf_hs : f269 hs = .inr (9, [.ref tp, .ref rd, .ref mo, .ref dr, .ref im, .ref kp, .ref sl, .ref wk, .ref pl, .ref ex, .ref mx]) := (hfm hs hm_hs ne_hs_me).trans hf_hs
        have hf_tp : f269 tp = .inr (7, [.ref ba, .int 0]) := (hfm tp hm_tp ne_tp_me).trans hf_tp
        have hf_mo : f269 mo = .inr (2, [.int 0, .int 0, .int 0, .int 0, .int 0, .int 0, .int 0, .ref la, .ref sa, .ref mi, .ref da]) := (hfm mo hm_mo ne_mo_me).trans hf_mo
        have hf_sl : f269 sl = .inr (6, [.ref nu, .ref wi, .ref si]) := (hfm sl hm_sl ne_sl_me).trans hf_sl
        have hf_si : f269 si = .inl (cy 1, 4, .inl gs) := (hfm si hm_si ne_si_me).trans hf_si
        have hf_mw : f269 mw = .inl (cy 1, 4, .inl gw) := (hfm mw hm_mw (Ne.symm ne_me_mw)).trans hf_mw
        have hf_ml : f269 ml = .inl (cy 1, 5, .inl (fun _ => 0)) := (hfm ml hm_ml (Ne.symm ne_me_ml)).trans hf_ml
        have hf_mh : f269 mh = .inl (cy 1, 30, .inl (fun _ => 0)) := (hfm mh hm_mh (Ne.symm ne_me_mh)).trans hf_mh
        have hm_hs : hs ∈ L268 := hsb _ hm_hs
        have hm_tp : tp ∈ L268 := hsb _ hm_tp
        have hm_mo : mo ∈ L268 := hsb _ hm_mo
        have hm_sl : sl ∈ L268 := hsb _ hm_sl
        have hm_si : si ∈ L268 := hsb _ hm_si
        have hm_me : me ∈ L268 := hsb _ hm_me
        have hm_mw : mw ∈ L268 := hsb _ hm_mw
        have hm_ml : ml ∈ L268 := hsb _ hm_ml
        have hm_mh : mh ∈ L268 := hsb _ hm_mh
        have hpB := hp
        refine z_icmp_eq (tgt := 1615) hx hb rfl rfl dL_law_1385 (by decide) (fun c270 => ?_) (fun c270 => False.elim (by omega))
        refine lv_iinc (v := 6) (lv' := [(3, .int 6), (2, .ref me), (1, .ref hs), (0, .ref b)]) hx hb dL_law_1615 hl (k := 0) rfl (by decide) (by decide) rfl (fun ls hl => ?_)
        refine lv_goto (tgt := 18) hx hb dL_law_1618 (by decide) ?_
        refine lv_iload_n hx hb dL_law_18 rfl (lv_at hl 0 rfl) ?_
        refine lv_aload_n hx hb dL_law_19 rfl (lv_at hl 3 rfl) ?_
        refine va_slen hx hb hX hbl hbA hw.2.2 dL_law_20 ?_
        refine lv_topi (fun ln e_ln => ?_)
        have i_ln : ln.toInt = L := by rw [e_ln]; exact nI_toInt (by omega)
        refine lv_bipush (v := 6) hx hb dL_law_21 (by decide) ?_
        refine lv_isub hx hb dL_law_23 ?_
        refine lv_topi (fun w271 e_w271 => ?_)
        have i_w271 : w271.toInt = ((L : Int) - 6) := z_subI e_w271 i_ln (show (6 : Int32).toInt = 6 by decide) (by omega)
        refine z_icmp_gt (tgt := 1621) hx hb (show (6 : Int32).toInt = 6 by decide) i_w271 dL_law_24 (by decide) (fun c272 => ?_) (fun c272 => False.elim (by omega))
        refine lv_iconst (v := 1) hx hb dL_law_1621 (by decide) ?_
        refine va_forget (fun q hq => hw.2.2.2.2 q hq) ?_
        refine W.widen (k := 600000) (n := 7302250) (by decide) (by decide) ?_
        exact lw_ret hx hb hr hlocks dL_law_1622
      · skip
        refine lv_tableIn (off := 1357) (tgt := 1390) hx hb dL_law_33 (by omega) (by omega) (by rw [show w11.toInt = 36 from c12]; rfl) (by decide) ?_
        refine lv_aload_n hx hb dL_law_1390 rfl (lv_at hl 2 rfl) ?_
        refine lv_aload_n hx hb dL_law_1391 rfl (lv_at hl 3 rfl) ?_
        refine lv_iload_n hx hb dL_law_1392 rfl (lv_at hl 0 rfl) ?_
        refine lv_iconst (v := 1) hx hb dL_law_1393 (by decide) ?_
        refine lv_iadd hx hb dL_law_1394 ?_
        refine z_lit (y := 1) (by decide) ?_
        refine va_sld hx hb hX hbl hbA hw.2.2 (z_ix (show (1 : Int32).toInt = 1 by decide) (by omega)) dL_law_1395 ?_
        refine z_lit (y := x1) ex1.symm ?_
        refine z_calliV (cells := 164) (slots := 16321) (b := hs) (As := [.int x1]) (rest := []) (ci := 9) (q0 := (RX9, TX9, 11)) ⟨hx, hb, hml, hown, hT⟩ (c_X9_keep l hm_hs hm_mo hm_la hm_sa hm_mi hm_im hm_kp hm_i0 hm_la0 hm_sa0 hm_mi0 hm_i1 hm_la1 hm_sa1 hm_mi1 hm_i2 hm_la2 hm_sa2 hm_mi2 hf_hs hf_mo hf_la hf_sa hf_mi hf_im hf_kp hf_i0 hf_la0 hf_sa0 hf_mi0 hf_i1 hf_la1 hf_sa1 hf_mi1 hf_i2 hf_la2 hf_sa2 hf_mi2 ne_i0_mo ne_la0_la ne_sa0_sa ne_mi0_mi ne_i1_mo ne_la1_la ne_sa1_sa ne_mi1_mi ne_i2_mo ne_la2_la ne_sa2_sa ne_mi2_mi hpX.1 hpX.2.1 hpX.2.2.1) (cwV 1 hT (z_goodV (fun _ h => h) kw_1127 kw_1128 kw_1129 kw_85 kw_1130) rfl rfl rfl (by decide +kernel) ⟨by decide, by decide⟩) z_mv hKK hK hw hA hm_hs hf_hs rfl rfl rfl hl.1 rfl (Nat.le_of_ble_eq_true rfl) dL_law_1396 ⟨by decide, by decide⟩ (fun r273 u H locs hp hw => ?_)
        obtain ⟨L274, f275⟩ := u
        obtain ⟨hsb, hfm, hp⟩ := hp
        have hw : z_H D vwCl ((fun q : Nat => s.heap.size ≤ q)) s.heap L274 f275 H locs := hw
        have hf_hs : f275 hs = .inr (9, [.ref tp, .ref rd, .ref mo, .ref dr, .ref im, .ref kp, .ref sl, .ref wk, .ref pl, .ref ex, .ref mx]) := (hfm hs hm_hs ne_hs_i0 ne_hs_la0 ne_hs_sa0 ne_hs_mi0 ne_hs_i1 ne_hs_la1 ne_hs_sa1 ne_hs_mi1 ne_hs_i2 ne_hs_la2 ne_hs_sa2 ne_hs_mi2 ne_hs_kp).trans hf_hs
        have hf_mo : f275 mo = .inr (2, [.int 0, .int 0, .int 0, .int 0, .int 0, .int 0, .int 0, .ref la, .ref sa, .ref mi, .ref da]) := (hfm mo hm_mo (Ne.symm ne_i0_mo) (z_tne hf_mo hf_la0 (m := 2) (n := 140) rfl rfl (by decide)) (z_tne hf_mo hf_sa0 (m := 2) (n := 132) rfl rfl (by decide)) (z_tne hf_mo hf_mi0 (m := 2) (n := 388) rfl rfl (by decide)) (Ne.symm ne_i1_mo) (z_tne hf_mo hf_la1 (m := 2) (n := 140) rfl rfl (by decide)) (z_tne hf_mo hf_sa1 (m := 2) (n := 132) rfl rfl (by decide)) (z_tne hf_mo hf_mi1 (m := 2) (n := 388) rfl rfl (by decide)) (Ne.symm ne_i2_mo) (z_tne hf_mo hf_la2 (m := 2) (n := 140) rfl rfl (by decide)) (z_tne hf_mo hf_sa2 (m := 2) (n := 132) rfl rfl (by decide)) (z_tne hf_mo hf_mi2 (m := 2) (n := 388) rfl rfl (by decide)) (z_tne hf_mo hf_kp (m := 2) (n := 124) rfl rfl (by decide))).trans hf_mo
        have hf_la : f275 la = .inl (cy 1, 5, .inl (fun _ => 0)) := (hfm la hm_la (z_tne hf_la hf_i0 (m := 140) (n := 2) rfl rfl (by decide)) (Ne.symm ne_la0_la) (z_tne hf_la hf_sa0 (m := 140) (n := 132) rfl rfl (by decide)) (z_tne hf_la hf_mi0 (m := 140) (n := 388) rfl rfl (by decide)) (z_tne hf_la hf_i1 (m := 140) (n := 2) rfl rfl (by decide)) (Ne.symm ne_la1_la) (z_tne hf_la hf_sa1 (m := 140) (n := 132) rfl rfl (by decide)) (z_tne hf_la hf_mi1 (m := 140) (n := 388) rfl rfl (by decide)) (z_tne hf_la hf_i2 (m := 140) (n := 2) rfl rfl (by decide)) (Ne.symm ne_la2_la) (z_tne hf_la hf_sa2 (m := 140) (n := 132) rfl rfl (by decide)) (z_tne hf_la hf_mi2 (m := 140) (n := 388) rfl rfl (by decide)) (z_tne hf_la hf_kp (m := 140) (n := 124) rfl rfl (by decide))).trans hf_la
        have hf_sa : f275 sa = .inl (cy 1, 4, .inl (fun _ => 0)) := (hfm sa hm_sa (z_tne hf_sa hf_i0 (m := 132) (n := 2) rfl rfl (by decide)) (z_tne hf_sa hf_la0 (m := 132) (n := 140) rfl rfl (by decide)) (Ne.symm ne_sa0_sa) (z_tne hf_sa hf_mi0 (m := 132) (n := 388) rfl rfl (by decide)) (z_tne hf_sa hf_i1 (m := 132) (n := 2) rfl rfl (by decide)) (z_tne hf_sa hf_la1 (m := 132) (n := 140) rfl rfl (by decide)) (Ne.symm ne_sa1_sa) (z_tne hf_sa hf_mi1 (m := 132) (n := 388) rfl rfl (by decide)) (z_tne hf_sa hf_i2 (m := 132) (n := 2) rfl rfl (by decide)) (z_tne hf_sa hf_la2 (m := 132) (n := 140) rfl rfl (by decide)) (Ne.symm ne_sa2_sa) (z_tne hf_sa hf_mi2 (m := 132) (n := 388) rfl rfl (by decide)) (z_tne hf_sa hf_kp (m := 132) (n := 124) rfl rfl (by decide))).trans hf_sa
        have hf_mi : f275 mi = .inl (cy 1, 36, .inl (fun _ => 0)) := (hfm mi hm_mi (z_tne hf_mi hf_i0 (m := 388) (n := 2) rfl rfl (by decide)) (z_tne hf_mi hf_la0 (m := 388) (n := 140) rfl rfl (by decide)) (z_tne hf_mi hf_sa0 (m := 388) (n := 132) rfl rfl (by decide)) (Ne.symm ne_mi0_mi) (z_tne hf_mi hf_i1 (m := 388) (n := 2) rfl rfl (by decide)) (z_tne hf_mi hf_la1 (m := 388) (n := 140) rfl rfl (by decide)) (z_tne hf_mi hf_sa1 (m := 388) (n := 132) rfl rfl (by decide)) (Ne.symm ne_mi1_mi) (z_tne hf_mi hf_i2 (m := 388) (n := 2) rfl rfl (by decide)) (z_tne hf_mi hf_la2 (m := 388) (n := 140) rfl rfl (by decide)) (z_tne hf_mi hf_sa2 (m := 388) (n := 132) rfl rfl (by decide)) (Ne.symm ne_mi2_mi) (z_tne hf_mi hf_kp (m := 388) (n := 124) rfl rfl (by decide))).trans hf_mi
        have hf_im : f275 im = .inl (cy 5, 3, .inr (.inr (.inr (.inr gi)))) := (hfm im hm_im (z_tne hf_im hf_i0 (m := 126) (n := 2) rfl rfl (by decide)) (z_tne hf_im hf_la0 (m := 126) (n := 140) rfl rfl (by decide)) (z_tne hf_im hf_sa0 (m := 126) (n := 132) rfl rfl (by decide)) (z_tne hf_im hf_mi0 (m := 126) (n := 388) rfl rfl (by decide)) (z_tne hf_im hf_i1 (m := 126) (n := 2) rfl rfl (by decide)) (z_tne hf_im hf_la1 (m := 126) (n := 140) rfl rfl (by decide)) (z_tne hf_im hf_sa1 (m := 126) (n := 132) rfl rfl (by decide)) (z_tne hf_im hf_mi1 (m := 126) (n := 388) rfl rfl (by decide)) (z_tne hf_im hf_i2 (m := 126) (n := 2) rfl rfl (by decide)) (z_tne hf_im hf_la2 (m := 126) (n := 140) rfl rfl (by decide)) (z_tne hf_im hf_sa2 (m := 126) (n := 132) rfl rfl (by decide)) (z_tne hf_im hf_mi2 (m := 126) (n := 388) rfl rfl (by decide)) (z_tne hf_im hf_kp (m := 126) (n := 124) rfl rfl (by decide))).trans hf_im
        have hf_me : f275 me = .inr (10, [.int 0, .ref mw, .ref mn, .ref mc, .ref mv, .ref mt, .int 0, .int 0, .int 0, .int 0, .int 0, .long 0, .int 0, .int 0, .int 0, .int (-1), .ref ml, .ref mh, .ref mj, .ref ms, .ref mg, .ref md, .int 0, .ref mk, .int (-1), .int 0, .long 0, .int 0, .int 0, .ref z29, .int 0, .ref z31, .ref z32, .ref z33, .ref z34, .ref z35, .int 0, .ref z37, .int 0, .ref z39, .int 0, .int 0, .int 0, .ref z43, .ref z44, .ref z45, .ref z46, .ref z47, .int 0, .ref z49, .ref z50, .ref z51, .int 0, .int 0]) := (hfm me hm_me (Ne.symm ne_i0_me) (Ne.symm ne_la0_me) (Ne.symm ne_sa0_me) (Ne.symm ne_mi0_me) (Ne.symm ne_i1_me) (Ne.symm ne_la1_me) (Ne.symm ne_sa1_me) (Ne.symm ne_mi1_me) (Ne.symm ne_i2_me) (Ne.symm ne_la2_me) (Ne.symm ne_sa2_me) (Ne.symm ne_mi2_me) (Ne.symm ne_kp_me)).trans hf_me
        have hf_ml : f275 ml = .inl (cy 1, 5, .inl (fun _ => 0)) := (hfm ml hm_ml (Ne.symm ne_i0_ml) (Ne.symm ne_la0_ml) (Ne.symm ne_sa0_ml) (Ne.symm ne_mi0_ml) (Ne.symm ne_i1_ml) (Ne.symm ne_la1_ml) (Ne.symm ne_sa1_ml) (Ne.symm ne_mi1_ml) (Ne.symm ne_i2_ml) (Ne.symm ne_la2_ml) (Ne.symm ne_sa2_ml) (Ne.symm ne_mi2_ml) (Ne.symm ne_kp_ml)).trans hf_ml
        have hf_mh : f275 mh = .inl (cy 1, 30, .inl (fun _ => 0)) := (hfm mh hm_mh (Ne.symm ne_i0_mh) (Ne.symm ne_la0_mh) (Ne.symm ne_sa0_mh) (Ne.symm ne_mi0_mh) (Ne.symm ne_i1_mh) (Ne.symm ne_la1_mh) (Ne.symm ne_sa1_mh) (Ne.symm ne_mi1_mh) (Ne.symm ne_i2_mh) (Ne.symm ne_la2_mh) (Ne.symm ne_sa2_mh) (Ne.symm ne_mi2_mh) (Ne.symm ne_kp_mh)).trans hf_mh
        have hf_mj : f275 mj = .inl (cy 1, 25, .inl (fun _ => 0)) := (hfm mj hm_mj (Ne.symm ne_i0_mj) (Ne.symm ne_la0_mj) (Ne.symm ne_sa0_mj) (Ne.symm ne_mi0_mj) (Ne.symm ne_i1_mj) (Ne.symm ne_la1_mj) (Ne.symm ne_sa1_mj) (Ne.symm ne_mi1_mj) (Ne.symm ne_i2_mj) (Ne.symm ne_la2_mj) (Ne.symm ne_sa2_mj) (Ne.symm ne_mi2_mj) (Ne.symm ne_kp_mj)).trans hf_mj
        have hf_ms : f275 ms = .inl (cy 1, 20, .inl (fun _ => 0)) := (hfm ms hm_ms (Ne.symm ne_i0_ms) (Ne.symm ne_la0_ms) (Ne.symm ne_sa0_ms) (Ne.symm ne_mi0_ms) (Ne.symm ne_i1_ms) (Ne.symm ne_la1_ms) (Ne.symm ne_sa1_ms) (Ne.symm ne_mi1_ms) (Ne.symm ne_i2_ms) (Ne.symm ne_la2_ms) (Ne.symm ne_sa2_ms) (Ne.symm ne_mi2_ms) (Ne.symm ne_kp_ms)).trans hf_ms
        have hf_mg : f275 mg = .inl (cy 1, 180, .inl (fun _ => 0)) := (hfm mg hm_mg (Ne.symm ne_i0_mg) (Ne.symm ne_la0_mg) (Ne.symm ne_sa0_mg) (Ne.symm ne_mi0_mg) (Ne.symm ne_i1_mg) (Ne.symm ne_la1_mg) (Ne.symm ne_sa1_mg) (Ne.symm ne_mi1_mg) (Ne.symm ne_i2_mg) (Ne.symm ne_la2_mg) (Ne.symm ne_sa2_mg) (Ne.symm ne_mi2_mg) (Ne.symm ne_kp_mg)).trans hf_mg
        have hf_md : f275 md = .inl (cy 1, 520, .inl (fun _ => 0)) := (hfm md hm_md (Ne.symm ne_i0_md) (Ne.symm ne_la0_md) (Ne.symm ne_sa0_md) (Ne.symm ne_mi0_md) (Ne.symm ne_i1_md) (Ne.symm ne_la1_md) (Ne.symm ne_sa1_md) (Ne.symm ne_mi1_md) (Ne.symm ne_i2_md) (Ne.symm ne_la2_md) (Ne.symm ne_sa2_md) (Ne.symm ne_mi2_md) (Ne.symm ne_kp_md)).trans hf_md
        have hf_mk : f275 mk = .inl (cy 3, 3, .inl (fun _ => 0)) := (hfm mk hm_mk (Ne.symm ne_i0_mk) (Ne.symm ne_la0_mk) (Ne.symm ne_sa0_mk) (Ne.symm ne_mi0_mk) (Ne.symm ne_i1_mk) (Ne.symm ne_la1_mk) (Ne.symm ne_sa1_mk) (Ne.symm ne_mi1_mk) (Ne.symm ne_i2_mk) (Ne.symm ne_la2_mk) (Ne.symm ne_sa2_mk) (Ne.symm ne_mi2_mk) (Ne.symm ne_kp_mk)).trans hf_mk
        have hm_hs : hs ∈ L274 := hsb _ hm_hs
        have hm_mo : mo ∈ L274 := hsb _ hm_mo
        have hm_la : la ∈ L274 := hsb _ hm_la
        have hm_sa : sa ∈ L274 := hsb _ hm_sa
        have hm_mi : mi ∈ L274 := hsb _ hm_mi
        have hm_im : im ∈ L274 := hsb _ hm_im
        have hm_i0 : i0 ∈ L274 := hsb _ hm_i0
        have hm_la0 : la0 ∈ L274 := hsb _ hm_la0
        have hm_sa0 : sa0 ∈ L274 := hsb _ hm_sa0
        have hm_mi0 : mi0 ∈ L274 := hsb _ hm_mi0
        have hm_i1 : i1 ∈ L274 := hsb _ hm_i1
        have hm_la1 : la1 ∈ L274 := hsb _ hm_la1
        have hm_sa1 : sa1 ∈ L274 := hsb _ hm_sa1
        have hm_mi1 : mi1 ∈ L274 := hsb _ hm_mi1
        have hm_i2 : i2 ∈ L274 := hsb _ hm_i2
        have hm_la2 : la2 ∈ L274 := hsb _ hm_la2
        have hm_sa2 : sa2 ∈ L274 := hsb _ hm_sa2
        have hm_mi2 : mi2 ∈ L274 := hsb _ hm_mi2
        have hm_kp : kp ∈ L274 := hsb _ hm_kp
        have hm_me : me ∈ L274 := hsb _ hm_me
        have hm_ml : ml ∈ L274 := hsb _ hm_ml
        have hm_mh : mh ∈ L274 := hsb _ hm_mh
        have hm_mj : mj ∈ L274 := hsb _ hm_mj
        have hm_ms : ms ∈ L274 := hsb _ hm_ms
        have hm_mg : mg ∈ L274 := hsb _ hm_mg
        have hm_md : md ∈ L274 := hsb _ hm_md
        have hm_mk : mk ∈ L274 := hsb _ hm_mk
        have hpA := hp
        refine lv_aload_n hx hb dL_law_1399 rfl (lv_at hl 1 rfl) ?_
        refine lv_aload_n hx hb dL_law_1400 rfl (lv_at hl 3 rfl) ?_
        refine lv_iload_n hx hb dL_law_1401 rfl (lv_at hl 0 rfl) ?_
        refine lv_iconst (v := 1) hx hb dL_law_1402 (by decide) ?_
        refine lv_iadd hx hb dL_law_1403 ?_
        refine z_lit (y := 1) (by decide) ?_
        refine va_sld hx hb hX hbl hbA hw.2.2 (z_ix (show (1 : Int32).toInt = 1 by decide) (by omega)) dL_law_1404 ?_
        refine z_lit (y := x1) ex1.symm ?_
        refine z_calliV (cells := 164) (slots := 16321) (b := me) (As := [.int x1]) (rest := [.int r273]) (ci := 10) (q0 := (RX10, TX10, 54)) ⟨hx, hb, hml, hown, hT⟩ (c_X10_keep l hm_me hm_ml hm_mh hm_mj hm_ms hm_mg hm_md hm_mk hf_me hf_ml hf_mh hf_mj hf_ms hf_mg hf_md hf_mk) (cwV 1 hT (z_goodV (fun _ h => h) kw_1764 kw_1765 kw_1766 kw_96 kw_1767) rfl rfl rfl (by decide +kernel) ⟨by decide, by decide⟩) z_mv hKK hK hw hA hm_me hf_me rfl rfl rfl hl.1 rfl (Nat.le_of_ble_eq_true rfl) dL_law_1405 ⟨by decide, by decide⟩ (fun r276 u H locs hp hw => ?_)
        obtain ⟨L277, f278⟩ := u
        obtain ⟨hsb, hfm, hp⟩ := hp
        have hw : z_H D vwCl ((fun q : Nat => s.heap.size ≤ q)) s.heap L277 f278 H locs := hw
        have hf_hs : f278 hs = .inr (9, [.ref tp, .ref rd, .ref mo, .ref dr, .ref im, .ref kp, .ref sl, .ref wk, .ref pl, .ref ex, .ref mx]) := (hfm hs hm_hs ne_hs_me ne_hs_ml ne_hs_mh ne_hs_mj ne_hs_ms ne_hs_mg ne_hs_md ne_hs_mk).trans hf_hs
        have hf_mo : f278 mo = .inr (2, [.int 0, .int 0, .int 0, .int 0, .int 0, .int 0, .int 0, .ref la, .ref sa, .ref mi, .ref da]) := (hfm mo hm_mo ne_mo_me ne_mo_ml ne_mo_mh ne_mo_mj ne_mo_ms ne_mo_mg ne_mo_md ne_mo_mk).trans hf_mo
        have hf_la : f278 la = .inl (cy 1, 5, .inl (fun _ => 0)) := (hfm la hm_la ne_la_me ne_la_ml ne_la_mh ne_la_mj ne_la_ms ne_la_mg ne_la_md ne_la_mk).trans hf_la
        have hf_sa : f278 sa = .inl (cy 1, 4, .inl (fun _ => 0)) := (hfm sa hm_sa ne_sa_me ne_sa_ml ne_sa_mh ne_sa_mj ne_sa_ms ne_sa_mg ne_sa_md ne_sa_mk).trans hf_sa
        have hf_mi : f278 mi = .inl (cy 1, 36, .inl (fun _ => 0)) := (hfm mi hm_mi ne_mi_me ne_mi_ml ne_mi_mh ne_mi_mj ne_mi_ms ne_mi_mg ne_mi_md ne_mi_mk).trans hf_mi
        have hf_im : f278 im = .inl (cy 5, 3, .inr (.inr (.inr (.inr gi)))) := (hfm im hm_im ne_im_me ne_im_ml ne_im_mh ne_im_mj ne_im_ms ne_im_mg ne_im_md ne_im_mk).trans hf_im
        have hm_hs : hs ∈ L277 := hsb _ hm_hs
        have hm_mo : mo ∈ L277 := hsb _ hm_mo
        have hm_la : la ∈ L277 := hsb _ hm_la
        have hm_sa : sa ∈ L277 := hsb _ hm_sa
        have hm_mi : mi ∈ L277 := hsb _ hm_mi
        have hm_im : im ∈ L277 := hsb _ hm_im
        have hm_me : me ∈ L277 := hsb _ hm_me
        have hm_ml : ml ∈ L277 := hsb _ hm_ml
        have hm_mh : mh ∈ L277 := hsb _ hm_mh
        have hm_mj : mj ∈ L277 := hsb _ hm_mj
        have hm_ms : ms ∈ L277 := hsb _ hm_ms
        have hm_mg : mg ∈ L277 := hsb _ hm_mg
        have hm_md : md ∈ L277 := hsb _ hm_md
        have hm_mk : mk ∈ L277 := hsb _ hm_mk
        have hpB := hp
        refine z_icmp_eq (tgt := 1615) hx hb rfl rfl dL_law_1408 (by decide) (fun c279 => ?_) (fun c279 => False.elim (by omega))
        refine lv_iinc (v := 6) (lv' := [(3, .int 6), (2, .ref me), (1, .ref hs), (0, .ref b)]) hx hb dL_law_1615 hl (k := 0) rfl (by decide) (by decide) rfl (fun ls hl => ?_)
        refine lv_goto (tgt := 18) hx hb dL_law_1618 (by decide) ?_
        refine lv_iload_n hx hb dL_law_18 rfl (lv_at hl 0 rfl) ?_
        refine lv_aload_n hx hb dL_law_19 rfl (lv_at hl 3 rfl) ?_
        refine va_slen hx hb hX hbl hbA hw.2.2 dL_law_20 ?_
        refine lv_topi (fun ln e_ln => ?_)
        have i_ln : ln.toInt = L := by rw [e_ln]; exact nI_toInt (by omega)
        refine lv_bipush (v := 6) hx hb dL_law_21 (by decide) ?_
        refine lv_isub hx hb dL_law_23 ?_
        refine lv_topi (fun w280 e_w280 => ?_)
        have i_w280 : w280.toInt = ((L : Int) - 6) := z_subI e_w280 i_ln (show (6 : Int32).toInt = 6 by decide) (by omega)
        refine z_icmp_gt (tgt := 1621) hx hb (show (6 : Int32).toInt = 6 by decide) i_w280 dL_law_24 (by decide) (fun c281 => ?_) (fun c281 => False.elim (by omega))
        refine lv_iconst (v := 1) hx hb dL_law_1621 (by decide) ?_
        refine va_forget (fun q hq => hw.2.2.2.2 q hq) ?_
        refine W.widen (k := 600000) (n := 7302250) (by decide) (by decide) ?_
        exact lw_ret hx hb hr hlocks dL_law_1622
      · skip
        refine lv_tableIn (off := 1380) (tgt := 1413) hx hb dL_law_33 (by omega) (by omega) (by rw [show w11.toInt = 37 from c12]; rfl) (by decide) ?_
        refine lv_aload_n hx hb dL_law_1413 rfl (lv_at hl 2 rfl) ?_
        refine lv_aload_n hx hb dL_law_1414 rfl (lv_at hl 3 rfl) ?_
        refine lv_iload_n hx hb dL_law_1415 rfl (lv_at hl 0 rfl) ?_
        refine lv_iconst (v := 1) hx hb dL_law_1416 (by decide) ?_
        refine lv_iadd hx hb dL_law_1417 ?_
        refine z_lit (y := 1) (by decide) ?_
        refine va_sld hx hb hX hbl hbA hw.2.2 (z_ix (show (1 : Int32).toInt = 1 by decide) (by omega)) dL_law_1418 ?_
        refine z_lit (y := x1) ex1.symm ?_
        refine z_calliV (cells := 164) (slots := 16321) (b := hs) (As := [.int x1]) (rest := []) (ci := 9) (q0 := (RX9, TX9, 11)) ⟨hx, hb, hml, hown, hT⟩ (c_X9_back l hm_hs hm_kp hf_hs hf_kp) (cwV 1 hT (z_goodV (fun _ h => h) kw_1131 kw_1132 kw_1133 kw_85 kw_1134) rfl rfl rfl (by decide +kernel) ⟨by decide, by decide⟩) z_mv hKK hK hw hA hm_hs hf_hs rfl rfl rfl hl.1 rfl (Nat.le_of_ble_eq_true rfl) dL_law_1419 ⟨by decide, by decide⟩ (fun r282 u H locs hp hw => ?_)
        obtain ⟨rfl, hp⟩ := hp
        have hw : z_H D vwCl ((fun q : Nat => s.heap.size ≤ q)) s.heap L7 f8 H locs := hw
        have hpA := hp
        refine lv_aload_n hx hb dL_law_1422 rfl (lv_at hl 1 rfl) ?_
        refine lv_aload_n hx hb dL_law_1423 rfl (lv_at hl 3 rfl) ?_
        refine lv_iload_n hx hb dL_law_1424 rfl (lv_at hl 0 rfl) ?_
        refine lv_iconst (v := 1) hx hb dL_law_1425 (by decide) ?_
        refine lv_iadd hx hb dL_law_1426 ?_
        refine z_lit (y := 1) (by decide) ?_
        refine va_sld hx hb hX hbl hbA hw.2.2 (z_ix (show (1 : Int32).toInt = 1 by decide) (by omega)) dL_law_1427 ?_
        refine z_lit (y := x1) ex1.symm ?_
        refine z_calliV (cells := 164) (slots := 16321) (b := me) (As := [.int x1]) (rest := [.int r282]) (ci := 10) (q0 := (RX10, TX10, 54)) ⟨hx, hb, hml, hown, hT⟩ (c_X10_back l hm_me hm_mk hf_me hf_mk) (cwV 1 hT (z_goodV (fun _ h => h) kw_1768 kw_1769 kw_1770 kw_96 kw_1771) rfl rfl rfl (by decide +kernel) ⟨by decide, by decide⟩) z_mv hKK hK hw hA hm_me hf_me rfl rfl rfl hl.1 rfl (Nat.le_of_ble_eq_true rfl) dL_law_1428 ⟨by decide, by decide⟩ (fun r283 u H locs hp hw => ?_)
        obtain ⟨L284, f285⟩ := u
        obtain ⟨hsb, hfm, hp⟩ := hp
        have hw : z_H D vwCl ((fun q : Nat => s.heap.size ≤ q)) s.heap L284 f285 H locs := hw
        have hf_hs : f285 hs = .inr (9, [.ref tp, .ref rd, .ref mo, .ref dr, .ref im, .ref kp, .ref sl, .ref wk, .ref pl, .ref ex, .ref mx]) := (hfm hs hm_hs ne_hs_me).trans hf_hs
        have hf_kp : f285 kp = .inl (cy 3, 3, .inl (fun _ => 0)) := (hfm kp hm_kp ne_kp_me).trans hf_kp
        have hf_mk : f285 mk = .inl (cy 3, 3, .inl (fun _ => 0)) := (hfm mk hm_mk (Ne.symm ne_me_mk)).trans hf_mk
        have hm_hs : hs ∈ L284 := hsb _ hm_hs
        have hm_kp : kp ∈ L284 := hsb _ hm_kp
        have hm_me : me ∈ L284 := hsb _ hm_me
        have hm_mk : mk ∈ L284 := hsb _ hm_mk
        have hpB := hp
        refine z_icmp_eq (tgt := 1615) hx hb rfl rfl dL_law_1431 (by decide) (fun c286 => ?_) (fun c286 => False.elim (by omega))
        refine lv_iinc (v := 6) (lv' := [(3, .int 6), (2, .ref me), (1, .ref hs), (0, .ref b)]) hx hb dL_law_1615 hl (k := 0) rfl (by decide) (by decide) rfl (fun ls hl => ?_)
        refine lv_goto (tgt := 18) hx hb dL_law_1618 (by decide) ?_
        refine lv_iload_n hx hb dL_law_18 rfl (lv_at hl 0 rfl) ?_
        refine lv_aload_n hx hb dL_law_19 rfl (lv_at hl 3 rfl) ?_
        refine va_slen hx hb hX hbl hbA hw.2.2 dL_law_20 ?_
        refine lv_topi (fun ln e_ln => ?_)
        have i_ln : ln.toInt = L := by rw [e_ln]; exact nI_toInt (by omega)
        refine lv_bipush (v := 6) hx hb dL_law_21 (by decide) ?_
        refine lv_isub hx hb dL_law_23 ?_
        refine lv_topi (fun w287 e_w287 => ?_)
        have i_w287 : w287.toInt = ((L : Int) - 6) := z_subI e_w287 i_ln (show (6 : Int32).toInt = 6 by decide) (by omega)
        refine z_icmp_gt (tgt := 1621) hx hb (show (6 : Int32).toInt = 6 by decide) i_w287 dL_law_24 (by decide) (fun c288 => ?_) (fun c288 => False.elim (by omega))
        refine lv_iconst (v := 1) hx hb dL_law_1621 (by decide) ?_
        refine va_forget (fun q hq => hw.2.2.2.2 q hq) ?_
        refine W.widen (k := 600000) (n := 7302250) (by decide) (by decide) ?_
        exact lw_ret hx hb hr hlocks dL_law_1622
      · skip
        refine lv_tableIn (off := 1403) (tgt := 1436) hx hb dL_law_33 (by omega) (by omega) (by rw [show w11.toInt = 38 from c12]; rfl) (by decide) ?_
        refine lv_aload_n hx hb dL_law_1436 rfl (lv_at hl 2 rfl) ?_
        refine lv_aload_n hx hb dL_law_1437 rfl (lv_at hl 3 rfl) ?_
        refine lv_iload_n hx hb dL_law_1438 rfl (lv_at hl 0 rfl) ?_
        refine lv_iconst (v := 1) hx hb dL_law_1439 (by decide) ?_
        refine lv_iadd hx hb dL_law_1440 ?_
        refine z_lit (y := 1) (by decide) ?_
        refine va_sld hx hb hX hbl hbA hw.2.2 (z_ix (show (1 : Int32).toInt = 1 by decide) (by omega)) dL_law_1441 ?_
        refine z_lit (y := x1) ex1.symm ?_
        refine lv_aload_n hx hb dL_law_1442 rfl (lv_at hl 3 rfl) ?_
        refine lv_iload_n hx hb dL_law_1443 rfl (lv_at hl 0 rfl) ?_
        refine lv_iconst (v := 2) hx hb dL_law_1444 (by decide) ?_
        refine lv_iadd hx hb dL_law_1445 ?_
        refine z_lit (y := 2) (by decide) ?_
        refine va_sld hx hb hX hbl hbA hw.2.2 (z_ix (show (2 : Int32).toInt = 2 by decide) (by omega)) dL_law_1446 ?_
        refine z_lit (y := x2) ex2.symm ?_
        refine lv_aload_n hx hb dL_law_1447 rfl (lv_at hl 3 rfl) ?_
        refine lv_iload_n hx hb dL_law_1448 rfl (lv_at hl 0 rfl) ?_
        refine lv_iconst (v := 3) hx hb dL_law_1449 (by decide) ?_
        refine lv_iadd hx hb dL_law_1450 ?_
        refine z_lit (y := 3) (by decide) ?_
        refine va_sld hx hb hX hbl hbA hw.2.2 (z_ix (show (3 : Int32).toInt = 3 by decide) (by omega)) dL_law_1451 ?_
        refine z_lit (y := x3) ex3.symm ?_
        refine z_calliV (cells := 164) (slots := 16321) (b := hs) (As := [.int x1, .int x2, .int x3]) (rest := []) (ci := 9) (q0 := (RX9, TX9, 11)) ⟨hx, hb, hml, hown, hT⟩ (c_X9_row l hm_hs hm_sl hm_nu hm_r0 hm_r1 hm_r2 hm_r3 hm_wi hm_si hf_hs hf_sl hf_nu hf_r0 hf_r1 hf_r2 hf_r3 hf_wi hf_si ne_wi_si hpX.2.2.2.1 hpX.2.2.2.2.1 hpX.2.2.2.2.2.1 hpX.2.2.2.2.2.2.1) (cwV 3 hT (z_goodV (fun _ h => h) kw_1135 kw_1136 kw_1137 kw_85 kw_1138) rfl rfl rfl (by decide +kernel) ⟨by decide, by decide⟩) z_mv hKK hK hw hA hm_hs hf_hs rfl rfl rfl hl.1 rfl (Nat.le_of_ble_eq_true rfl) dL_law_1452 ⟨by decide, by decide⟩ (fun r289 u H locs hp hw => ?_)
        obtain ⟨L290, f291⟩ := u
        obtain ⟨hsb, hfm, hp⟩ := hp
        have hw : z_H D vwCl ((fun q : Nat => s.heap.size ≤ q)) s.heap L290 f291 H locs := hw
        have hf_hs : f291 hs = .inr (9, [.ref tp, .ref rd, .ref mo, .ref dr, .ref im, .ref kp, .ref sl, .ref wk, .ref pl, .ref ex, .ref mx]) := (hfm hs hm_hs ne_hs_r0 ne_hs_r1 ne_hs_r2 ne_hs_r3 ne_hs_wi ne_hs_si).trans hf_hs
        have hf_sl : f291 sl = .inr (6, [.ref nu, .ref wi, .ref si]) := (hfm sl hm_sl (z_tne hf_sl hf_r0 (m := 6) (n := 581) rfl rfl (by decide)) (z_tne hf_sl hf_r1 (m := 6) (n := 581) rfl rfl (by decide)) (z_tne hf_sl hf_r2 (m := 6) (n := 581) rfl rfl (by decide)) (z_tne hf_sl hf_r3 (m := 6) (n := 581) rfl rfl (by decide)) (z_tne hf_sl hf_wi (m := 6) (n := 132) rfl rfl (by decide)) (z_tne hf_sl hf_si (m := 6) (n := 132) rfl rfl (by decide))).trans hf_sl
        have hf_nu : f291 nu = .inl (cy 6, 4, .inr (.inr (.inr (.inr gn)))) := (hfm nu hm_nu (z_tne hf_nu hf_r0 (m := 134) (n := 581) rfl rfl (by decide)) (z_tne hf_nu hf_r1 (m := 134) (n := 581) rfl rfl (by decide)) (z_tne hf_nu hf_r2 (m := 134) (n := 581) rfl rfl (by decide)) (z_tne hf_nu hf_r3 (m := 134) (n := 581) rfl rfl (by decide)) (z_tne hf_nu hf_wi (m := 134) (n := 132) rfl rfl (by decide)) (z_tne hf_nu hf_si (m := 134) (n := 132) rfl rfl (by decide))).trans hf_nu
        have hf_me : f291 me = .inr (10, [.int 0, .ref mw, .ref mn, .ref mc, .ref mv, .ref mt, .int 0, .int 0, .int 0, .int 0, .int 0, .long 0, .int 0, .int 0, .int 0, .int (-1), .ref ml, .ref mh, .ref mj, .ref ms, .ref mg, .ref md, .int 0, .ref mk, .int (-1), .int 0, .long 0, .int 0, .int 0, .ref z29, .int 0, .ref z31, .ref z32, .ref z33, .ref z34, .ref z35, .int 0, .ref z37, .int 0, .ref z39, .int 0, .int 0, .int 0, .ref z43, .ref z44, .ref z45, .ref z46, .ref z47, .int 0, .ref z49, .ref z50, .ref z51, .int 0, .int 0]) := (hfm me hm_me (Ne.symm ne_r0_me) (Ne.symm ne_r1_me) (Ne.symm ne_r2_me) (Ne.symm ne_r3_me) (Ne.symm ne_wi_me) (Ne.symm ne_si_me)).trans hf_me
        have hf_mw : f291 mw = .inl (cy 1, 4, .inl gw) := (hfm mw hm_mw (Ne.symm ne_r0_mw) (Ne.symm ne_r1_mw) (Ne.symm ne_r2_mw) (Ne.symm ne_r3_mw) (Ne.symm ne_wi_mw) (Ne.symm ne_si_mw)).trans hf_mw
        have hf_mn : f291 mn = .inl (cy 1, 4, .inl (fun _ => 0)) := (hfm mn hm_mn (Ne.symm ne_r0_mn) (Ne.symm ne_r1_mn) (Ne.symm ne_r2_mn) (Ne.symm ne_r3_mn) (Ne.symm ne_wi_mn) (Ne.symm ne_si_mn)).trans hf_mn
        have hf_mc : f291 mc = .inl (cy 2, 240, .inr (.inl (fun _ => 0))) := (hfm mc hm_mc (Ne.symm ne_r0_mc) (Ne.symm ne_r1_mc) (Ne.symm ne_r2_mc) (Ne.symm ne_r3_mc) (Ne.symm ne_wi_mc) (Ne.symm ne_si_mc)).trans hf_mc
        have hm_hs : hs ∈ L290 := hsb _ hm_hs
        have hm_sl : sl ∈ L290 := hsb _ hm_sl
        have hm_nu : nu ∈ L290 := hsb _ hm_nu
        have hm_r0 : r0 ∈ L290 := hsb _ hm_r0
        have hm_r1 : r1 ∈ L290 := hsb _ hm_r1
        have hm_r2 : r2 ∈ L290 := hsb _ hm_r2
        have hm_r3 : r3 ∈ L290 := hsb _ hm_r3
        have hm_wi : wi ∈ L290 := hsb _ hm_wi
        have hm_si : si ∈ L290 := hsb _ hm_si
        have hm_me : me ∈ L290 := hsb _ hm_me
        have hm_mw : mw ∈ L290 := hsb _ hm_mw
        have hm_mn : mn ∈ L290 := hsb _ hm_mn
        have hm_mc : mc ∈ L290 := hsb _ hm_mc
        have hpA := hp
        refine lv_aload_n hx hb dL_law_1455 rfl (lv_at hl 1 rfl) ?_
        refine lv_aload_n hx hb dL_law_1456 rfl (lv_at hl 3 rfl) ?_
        refine lv_iload_n hx hb dL_law_1457 rfl (lv_at hl 0 rfl) ?_
        refine lv_iconst (v := 1) hx hb dL_law_1458 (by decide) ?_
        refine lv_iadd hx hb dL_law_1459 ?_
        refine z_lit (y := 1) (by decide) ?_
        refine va_sld hx hb hX hbl hbA hw.2.2 (z_ix (show (1 : Int32).toInt = 1 by decide) (by omega)) dL_law_1460 ?_
        refine z_lit (y := x1) ex1.symm ?_
        refine lv_aload_n hx hb dL_law_1461 rfl (lv_at hl 3 rfl) ?_
        refine lv_iload_n hx hb dL_law_1462 rfl (lv_at hl 0 rfl) ?_
        refine lv_iconst (v := 2) hx hb dL_law_1463 (by decide) ?_
        refine lv_iadd hx hb dL_law_1464 ?_
        refine z_lit (y := 2) (by decide) ?_
        refine va_sld hx hb hX hbl hbA hw.2.2 (z_ix (show (2 : Int32).toInt = 2 by decide) (by omega)) dL_law_1465 ?_
        refine z_lit (y := x2) ex2.symm ?_
        refine lv_aload_n hx hb dL_law_1466 rfl (lv_at hl 3 rfl) ?_
        refine lv_iload_n hx hb dL_law_1467 rfl (lv_at hl 0 rfl) ?_
        refine lv_iconst (v := 3) hx hb dL_law_1468 (by decide) ?_
        refine lv_iadd hx hb dL_law_1469 ?_
        refine z_lit (y := 3) (by decide) ?_
        refine va_sld hx hb hX hbl hbA hw.2.2 (z_ix (show (3 : Int32).toInt = 3 by decide) (by omega)) dL_law_1470 ?_
        refine z_lit (y := x3) ex3.symm ?_
        refine z_calliV (cells := 164) (slots := 16321) (b := me) (As := [.int x1, .int x2, .int x3]) (rest := [.int r289]) (ci := 10) (q0 := (RX10, TX10, 54)) ⟨hx, hb, hml, hown, hT⟩ (c_X10_row l hm_me hm_mw hm_mn hm_mc hf_me hf_mw hf_mn hf_mc ne_mw_mn) (cwV 3 hT (z_goodV (fun _ h => h) kw_1331 kw_1332 kw_1333 kw_96 kw_1334) rfl rfl rfl (by decide +kernel) ⟨by decide, by decide⟩) z_mv hKK hK hw hA hm_me hf_me rfl rfl rfl hl.1 rfl (Nat.le_of_ble_eq_true rfl) dL_law_1471 ⟨by decide, by decide⟩ (fun r292 u H locs hp hw => ?_)
        obtain ⟨L293, f294⟩ := u
        obtain ⟨hsb, hfm, hp⟩ := hp
        have hw : z_H D vwCl ((fun q : Nat => s.heap.size ≤ q)) s.heap L293 f294 H locs := hw
        have hf_hs : f294 hs = .inr (9, [.ref tp, .ref rd, .ref mo, .ref dr, .ref im, .ref kp, .ref sl, .ref wk, .ref pl, .ref ex, .ref mx]) := (hfm hs hm_hs ne_hs_me ne_hs_mw ne_hs_mn ne_hs_mc).trans hf_hs
        have hf_sl : f294 sl = .inr (6, [.ref nu, .ref wi, .ref si]) := (hfm sl hm_sl ne_sl_me ne_sl_mw ne_sl_mn ne_sl_mc).trans hf_sl
        have hf_nu : f294 nu = .inl (cy 6, 4, .inr (.inr (.inr (.inr gn)))) := (hfm nu hm_nu ne_nu_me ne_nu_mw ne_nu_mn ne_nu_mc).trans hf_nu
        have hm_hs : hs ∈ L293 := hsb _ hm_hs
        have hm_sl : sl ∈ L293 := hsb _ hm_sl
        have hm_nu : nu ∈ L293 := hsb _ hm_nu
        have hm_me : me ∈ L293 := hsb _ hm_me
        have hm_mw : mw ∈ L293 := hsb _ hm_mw
        have hm_mn : mn ∈ L293 := hsb _ hm_mn
        have hm_mc : mc ∈ L293 := hsb _ hm_mc
        have hpB := hp
        refine z_icmp_eq (tgt := 1615) hx hb rfl rfl dL_law_1474 (by decide) (fun c295 => ?_) (fun c295 => False.elim (by omega))
        refine lv_iinc (v := 6) (lv' := [(3, .int 6), (2, .ref me), (1, .ref hs), (0, .ref b)]) hx hb dL_law_1615 hl (k := 0) rfl (by decide) (by decide) rfl (fun ls hl => ?_)
        refine lv_goto (tgt := 18) hx hb dL_law_1618 (by decide) ?_
        refine lv_iload_n hx hb dL_law_18 rfl (lv_at hl 0 rfl) ?_
        refine lv_aload_n hx hb dL_law_19 rfl (lv_at hl 3 rfl) ?_
        refine va_slen hx hb hX hbl hbA hw.2.2 dL_law_20 ?_
        refine lv_topi (fun ln e_ln => ?_)
        have i_ln : ln.toInt = L := by rw [e_ln]; exact nI_toInt (by omega)
        refine lv_bipush (v := 6) hx hb dL_law_21 (by decide) ?_
        refine lv_isub hx hb dL_law_23 ?_
        refine lv_topi (fun w296 e_w296 => ?_)
        have i_w296 : w296.toInt = ((L : Int) - 6) := z_subI e_w296 i_ln (show (6 : Int32).toInt = 6 by decide) (by omega)
        refine z_icmp_gt (tgt := 1621) hx hb (show (6 : Int32).toInt = 6 by decide) i_w296 dL_law_24 (by decide) (fun c297 => ?_) (fun c297 => False.elim (by omega))
        refine lv_iconst (v := 1) hx hb dL_law_1621 (by decide) ?_
        refine va_forget (fun q hq => hw.2.2.2.2 q hq) ?_
        refine W.widen (k := 600000) (n := 7302250) (by decide) (by decide) ?_
        exact lw_ret hx hb hr hlocks dL_law_1622
      · skip
        refine lv_tableIn (off := 1446) (tgt := 1479) hx hb dL_law_33 (by omega) (by omega) (by rw [show w11.toInt = 39 from c12]; rfl) (by decide) ?_
        refine lv_aload_n hx hb dL_law_1479 rfl (lv_at hl 2 rfl) ?_
        refine lv_aload_n hx hb dL_law_1480 rfl (lv_at hl 3 rfl) ?_
        refine lv_iload_n hx hb dL_law_1481 rfl (lv_at hl 0 rfl) ?_
        refine lv_iconst (v := 1) hx hb dL_law_1482 (by decide) ?_
        refine lv_iadd hx hb dL_law_1483 ?_
        refine z_lit (y := 1) (by decide) ?_
        refine va_sld hx hb hX hbl hbA hw.2.2 (z_ix (show (1 : Int32).toInt = 1 by decide) (by omega)) dL_law_1484 ?_
        refine z_lit (y := x1) ex1.symm ?_
        refine lv_aload_n hx hb dL_law_1485 rfl (lv_at hl 3 rfl) ?_
        refine lv_iload_n hx hb dL_law_1486 rfl (lv_at hl 0 rfl) ?_
        refine lv_iconst (v := 2) hx hb dL_law_1487 (by decide) ?_
        refine lv_iadd hx hb dL_law_1488 ?_
        refine z_lit (y := 2) (by decide) ?_
        refine va_sld hx hb hX hbl hbA hw.2.2 (z_ix (show (2 : Int32).toInt = 2 by decide) (by omega)) dL_law_1489 ?_
        refine z_lit (y := x2) ex2.symm ?_
        refine lv_aload_n hx hb dL_law_1490 rfl (lv_at hl 3 rfl) ?_
        refine lv_iload_n hx hb dL_law_1491 rfl (lv_at hl 0 rfl) ?_
        refine lv_iconst (v := 3) hx hb dL_law_1492 (by decide) ?_
        refine lv_iadd hx hb dL_law_1493 ?_
        refine z_lit (y := 3) (by decide) ?_
        refine va_sld hx hb hX hbl hbA hw.2.2 (z_ix (show (3 : Int32).toInt = 3 by decide) (by omega)) dL_law_1494 ?_
        refine z_lit (y := x3) ex3.symm ?_
        refine lv_i2l hx hb dL_law_1495 rfl ?_
        refine lv_topl (fun w298 e_w298 => ?_)
        have i_w298 : w298.toInt = x3.toInt := z_i2l e_w298 rfl
        refine lv_bipush (v := 32) hx hb dL_law_1496 (by decide) ?_
        refine lv_lshl hx hb dL_law_1498 rfl ?_
        refine lv_topl (fun w299 e_w299 => ?_)
        refine lv_aload_n hx hb dL_law_1499 rfl (lv_at hl 3 rfl) ?_
        refine lv_iload_n hx hb dL_law_1500 rfl (lv_at hl 0 rfl) ?_
        refine lv_iconst (v := 4) hx hb dL_law_1501 (by decide) ?_
        refine lv_iadd hx hb dL_law_1502 ?_
        refine z_lit (y := 4) (by decide) ?_
        refine va_sld hx hb hX hbl hbA hw.2.2 (z_ix (show (4 : Int32).toInt = 4 by decide) (by omega)) dL_law_1503 ?_
        refine z_lit (y := x4) ex4.symm ?_
        refine lv_i2l hx hb dL_law_1504 rfl ?_
        refine lv_topl (fun w300 e_w300 => ?_)
        have i_w300 : w300.toInt = x4.toInt := z_i2l e_w300 rfl
        refine lv_ldc2 (v := 4294967295) hx hb hown (hT _ kw_1772) dL_law_1505 ?_
        refine lv_land hx hb dL_law_1508 ?_
        refine lv_topl (fun w301 e_w301 => ?_)
        refine lv_lor hx hb dL_law_1509 ?_
        refine lv_topl (fun w302 e_w302 => ?_)
        refine z_calliV (cells := 164) (slots := 16321) (b := hs) (As := [.int x1, .int x2, .long w302]) (rest := []) (ci := 9) (q0 := (RX9, TX9, 11)) ⟨hx, hb, hml, hown, hT⟩ (c_X9_write l hm_hs hm_sl hm_si hf_hs hf_sl hf_si hpX.2.2.2.2.2.2.2.1) (cwV 3 hT (z_goodV (fun _ h => h) kw_1146 kw_1147 kw_1148 kw_85 kw_1149) rfl rfl rfl (by decide +kernel) ⟨by decide, by decide⟩) z_mv hKK hK hw hA hm_hs hf_hs rfl rfl rfl hl.1 rfl (Nat.le_of_ble_eq_true rfl) dL_law_1510 ⟨by decide, by decide⟩ (fun r303 u H locs hp hw => ?_)
        obtain ⟨rfl, hp⟩ := hp
        have hw : z_H D vwCl ((fun q : Nat => s.heap.size ≤ q)) s.heap L7 f8 H locs := hw
        have hpA := hp
        refine lv_aload_n hx hb dL_law_1513 rfl (lv_at hl 1 rfl) ?_
        refine lv_aload_n hx hb dL_law_1514 rfl (lv_at hl 3 rfl) ?_
        refine lv_iload_n hx hb dL_law_1515 rfl (lv_at hl 0 rfl) ?_
        refine lv_iconst (v := 1) hx hb dL_law_1516 (by decide) ?_
        refine lv_iadd hx hb dL_law_1517 ?_
        refine z_lit (y := 1) (by decide) ?_
        refine va_sld hx hb hX hbl hbA hw.2.2 (z_ix (show (1 : Int32).toInt = 1 by decide) (by omega)) dL_law_1518 ?_
        refine z_lit (y := x1) ex1.symm ?_
        refine lv_aload_n hx hb dL_law_1519 rfl (lv_at hl 3 rfl) ?_
        refine lv_iload_n hx hb dL_law_1520 rfl (lv_at hl 0 rfl) ?_
        refine lv_iconst (v := 2) hx hb dL_law_1521 (by decide) ?_
        refine lv_iadd hx hb dL_law_1522 ?_
        refine z_lit (y := 2) (by decide) ?_
        refine va_sld hx hb hX hbl hbA hw.2.2 (z_ix (show (2 : Int32).toInt = 2 by decide) (by omega)) dL_law_1523 ?_
        refine z_lit (y := x2) ex2.symm ?_
        refine lv_aload_n hx hb dL_law_1524 rfl (lv_at hl 3 rfl) ?_
        refine lv_iload_n hx hb dL_law_1525 rfl (lv_at hl 0 rfl) ?_
        refine lv_iconst (v := 3) hx hb dL_law_1526 (by decide) ?_
        refine lv_iadd hx hb dL_law_1527 ?_
        refine z_lit (y := 3) (by decide) ?_
        refine va_sld hx hb hX hbl hbA hw.2.2 (z_ix (show (3 : Int32).toInt = 3 by decide) (by omega)) dL_law_1528 ?_
        refine z_lit (y := x3) ex3.symm ?_
        refine lv_i2l hx hb dL_law_1529 rfl ?_
        refine lv_topl (fun w304 e_w304 => ?_)
        have i_w304 : w304.toInt = x3.toInt := z_i2l e_w304 rfl
        refine lv_bipush (v := 32) hx hb dL_law_1530 (by decide) ?_
        refine lv_lshl hx hb dL_law_1532 rfl ?_
        refine lv_topl (fun w305 e_w305 => ?_)
        refine lv_aload_n hx hb dL_law_1533 rfl (lv_at hl 3 rfl) ?_
        refine lv_iload_n hx hb dL_law_1534 rfl (lv_at hl 0 rfl) ?_
        refine lv_iconst (v := 4) hx hb dL_law_1535 (by decide) ?_
        refine lv_iadd hx hb dL_law_1536 ?_
        refine z_lit (y := 4) (by decide) ?_
        refine va_sld hx hb hX hbl hbA hw.2.2 (z_ix (show (4 : Int32).toInt = 4 by decide) (by omega)) dL_law_1537 ?_
        refine z_lit (y := x4) ex4.symm ?_
        refine lv_i2l hx hb dL_law_1538 rfl ?_
        refine lv_topl (fun w306 e_w306 => ?_)
        have i_w306 : w306.toInt = x4.toInt := z_i2l e_w306 rfl
        refine lv_ldc2 (v := 4294967295) hx hb hown (hT _ kw_1772) dL_law_1539 ?_
        refine lv_land hx hb dL_law_1542 ?_
        refine lv_topl (fun w307 e_w307 => ?_)
        refine lv_lor hx hb dL_law_1543 ?_
        refine lv_topl (fun w308 e_w308 => ?_)
        refine z_calliV (cells := 164) (slots := 16321) (b := me) (As := [.int x1, .int x2, .long w308]) (rest := [.int r303]) (ci := 10) (q0 := (RX10, TX10, 54)) ⟨hx, hb, hml, hown, hT⟩ (c_X10_write l hm_me hm_mw hf_me hf_mw hpM.1) (cwV 3 hT (z_goodV (fun _ h => h) kw_1342 kw_1343 kw_1344 kw_96 kw_1345) rfl rfl rfl (by decide +kernel) ⟨by decide, by decide⟩) z_mv hKK hK hw hA hm_me hf_me rfl rfl rfl hl.1 rfl (Nat.le_of_ble_eq_true rfl) dL_law_1544 ⟨by decide, by decide⟩ (fun r309 u H locs hp hw => ?_)
        obtain ⟨L310, f311⟩ := u
        obtain ⟨hsb, hfm, hp⟩ := hp
        have hw : z_H D vwCl ((fun q : Nat => s.heap.size ≤ q)) s.heap L310 f311 H locs := hw
        have hf_hs : f311 hs = .inr (9, [.ref tp, .ref rd, .ref mo, .ref dr, .ref im, .ref kp, .ref sl, .ref wk, .ref pl, .ref ex, .ref mx]) := (hfm hs hm_hs ne_hs_me).trans hf_hs
        have hf_sl : f311 sl = .inr (6, [.ref nu, .ref wi, .ref si]) := (hfm sl hm_sl ne_sl_me).trans hf_sl
        have hf_si : f311 si = .inl (cy 1, 4, .inl gs) := (hfm si hm_si ne_si_me).trans hf_si
        have hf_mw : f311 mw = .inl (cy 1, 4, .inl gw) := (hfm mw hm_mw (Ne.symm ne_me_mw)).trans hf_mw
        have hm_hs : hs ∈ L310 := hsb _ hm_hs
        have hm_sl : sl ∈ L310 := hsb _ hm_sl
        have hm_si : si ∈ L310 := hsb _ hm_si
        have hm_me : me ∈ L310 := hsb _ hm_me
        have hm_mw : mw ∈ L310 := hsb _ hm_mw
        have hpB := hp
        refine z_icmp_eq (tgt := 1615) hx hb rfl rfl dL_law_1547 (by decide) (fun c312 => ?_) (fun c312 => False.elim (by omega))
        refine lv_iinc (v := 6) (lv' := [(3, .int 6), (2, .ref me), (1, .ref hs), (0, .ref b)]) hx hb dL_law_1615 hl (k := 0) rfl (by decide) (by decide) rfl (fun ls hl => ?_)
        refine lv_goto (tgt := 18) hx hb dL_law_1618 (by decide) ?_
        refine lv_iload_n hx hb dL_law_18 rfl (lv_at hl 0 rfl) ?_
        refine lv_aload_n hx hb dL_law_19 rfl (lv_at hl 3 rfl) ?_
        refine va_slen hx hb hX hbl hbA hw.2.2 dL_law_20 ?_
        refine lv_topi (fun ln e_ln => ?_)
        have i_ln : ln.toInt = L := by rw [e_ln]; exact nI_toInt (by omega)
        refine lv_bipush (v := 6) hx hb dL_law_21 (by decide) ?_
        refine lv_isub hx hb dL_law_23 ?_
        refine lv_topi (fun w313 e_w313 => ?_)
        have i_w313 : w313.toInt = ((L : Int) - 6) := z_subI e_w313 i_ln (show (6 : Int32).toInt = 6 by decide) (by omega)
        refine z_icmp_gt (tgt := 1621) hx hb (show (6 : Int32).toInt = 6 by decide) i_w313 dL_law_24 (by decide) (fun c314 => ?_) (fun c314 => False.elim (by omega))
        refine lv_iconst (v := 1) hx hb dL_law_1621 (by decide) ?_
        refine va_forget (fun q hq => hw.2.2.2.2 q hq) ?_
        refine W.widen (k := 600000) (n := 7302250) (by decide) (by decide) ?_
        exact lw_ret hx hb hr hlocks dL_law_1622
      · skip
        refine lv_tableIn (off := 1519) (tgt := 1552) hx hb dL_law_33 (by omega) (by omega) (by rw [show w11.toInt = 40 from c12]; rfl) (by decide) ?_
        refine lv_aload_n hx hb dL_law_1552 rfl (lv_at hl 2 rfl) ?_
        refine lv_aload_n hx hb dL_law_1553 rfl (lv_at hl 3 rfl) ?_
        refine lv_iload_n hx hb dL_law_1554 rfl (lv_at hl 0 rfl) ?_
        refine lv_iconst (v := 1) hx hb dL_law_1555 (by decide) ?_
        refine lv_iadd hx hb dL_law_1556 ?_
        refine z_lit (y := 1) (by decide) ?_
        refine va_sld hx hb hX hbl hbA hw.2.2 (z_ix (show (1 : Int32).toInt = 1 by decide) (by omega)) dL_law_1557 ?_
        refine z_lit (y := x1) ex1.symm ?_
        refine lv_aload_n hx hb dL_law_1558 rfl (lv_at hl 3 rfl) ?_
        refine lv_iload_n hx hb dL_law_1559 rfl (lv_at hl 0 rfl) ?_
        refine lv_iconst (v := 2) hx hb dL_law_1560 (by decide) ?_
        refine lv_iadd hx hb dL_law_1561 ?_
        refine z_lit (y := 2) (by decide) ?_
        refine va_sld hx hb hX hbl hbA hw.2.2 (z_ix (show (2 : Int32).toInt = 2 by decide) (by omega)) dL_law_1562 ?_
        refine z_lit (y := x2) ex2.symm ?_
        refine lv_aload_n hx hb dL_law_1563 rfl (lv_at hl 3 rfl) ?_
        refine lv_iload_n hx hb dL_law_1564 rfl (lv_at hl 0 rfl) ?_
        refine lv_iconst (v := 3) hx hb dL_law_1565 (by decide) ?_
        refine lv_iadd hx hb dL_law_1566 ?_
        refine z_lit (y := 3) (by decide) ?_
        refine va_sld hx hb hX hbl hbA hw.2.2 (z_ix (show (3 : Int32).toInt = 3 by decide) (by omega)) dL_law_1567 ?_
        refine z_lit (y := x3) ex3.symm ?_
        refine lv_aload_n hx hb dL_law_1568 rfl (lv_at hl 3 rfl) ?_
        refine lv_iload_n hx hb dL_law_1569 rfl (lv_at hl 0 rfl) ?_
        refine lv_iconst (v := 4) hx hb dL_law_1570 (by decide) ?_
        refine lv_iadd hx hb dL_law_1571 ?_
        refine z_lit (y := 4) (by decide) ?_
        refine va_sld hx hb hX hbl hbA hw.2.2 (z_ix (show (4 : Int32).toInt = 4 by decide) (by omega)) dL_law_1572 ?_
        refine z_lit (y := x4) ex4.symm ?_
        refine lv_aload_n hx hb dL_law_1573 rfl (lv_at hl 3 rfl) ?_
        refine lv_iload_n hx hb dL_law_1574 rfl (lv_at hl 0 rfl) ?_
        refine lv_iconst (v := 5) hx hb dL_law_1575 (by decide) ?_
        refine lv_iadd hx hb dL_law_1576 ?_
        refine z_lit (y := 5) (by decide) ?_
        refine va_sld hx hb hX hbl hbA hw.2.2 (z_ix (show (5 : Int32).toInt = 5 by decide) (by omega)) dL_law_1577 ?_
        refine z_lit (y := x5) ex5.symm ?_
        refine z_calliV (cells := 164) (slots := 16321) (b := hs) (As := [.int x1, .int x2, .int x3, .int x4, .int x5]) (rest := []) (ci := 9) (q0 := (RX9, TX9, 11)) ⟨hx, hb, hml, hown, hT⟩ (c_X9_paste l hm_hs hm_sl hm_si hf_hs hf_sl hf_si hpX.2.2.2.2.2.2.2.1) (cwV 5 hT (z_goodV (fun _ h => h) kw_1153 kw_1154 kw_1155 kw_85 kw_1156) rfl rfl rfl (by decide +kernel) ⟨by decide, by decide⟩) z_mv hKK hK hw hA hm_hs hf_hs rfl rfl rfl hl.1 rfl (Nat.le_of_ble_eq_true rfl) dL_law_1578 ⟨by decide, by decide⟩ (fun r315 u H locs hp hw => ?_)
        obtain ⟨rfl, hp⟩ := hp
        have hw : z_H D vwCl ((fun q : Nat => s.heap.size ≤ q)) s.heap L7 f8 H locs := hw
        have hpA := hp
        refine lv_aload_n hx hb dL_law_1581 rfl (lv_at hl 1 rfl) ?_
        refine lv_aload_n hx hb dL_law_1582 rfl (lv_at hl 3 rfl) ?_
        refine lv_iload_n hx hb dL_law_1583 rfl (lv_at hl 0 rfl) ?_
        refine lv_iconst (v := 1) hx hb dL_law_1584 (by decide) ?_
        refine lv_iadd hx hb dL_law_1585 ?_
        refine z_lit (y := 1) (by decide) ?_
        refine va_sld hx hb hX hbl hbA hw.2.2 (z_ix (show (1 : Int32).toInt = 1 by decide) (by omega)) dL_law_1586 ?_
        refine z_lit (y := x1) ex1.symm ?_
        refine lv_aload_n hx hb dL_law_1587 rfl (lv_at hl 3 rfl) ?_
        refine lv_iload_n hx hb dL_law_1588 rfl (lv_at hl 0 rfl) ?_
        refine lv_iconst (v := 2) hx hb dL_law_1589 (by decide) ?_
        refine lv_iadd hx hb dL_law_1590 ?_
        refine z_lit (y := 2) (by decide) ?_
        refine va_sld hx hb hX hbl hbA hw.2.2 (z_ix (show (2 : Int32).toInt = 2 by decide) (by omega)) dL_law_1591 ?_
        refine z_lit (y := x2) ex2.symm ?_
        refine lv_aload_n hx hb dL_law_1592 rfl (lv_at hl 3 rfl) ?_
        refine lv_iload_n hx hb dL_law_1593 rfl (lv_at hl 0 rfl) ?_
        refine lv_iconst (v := 3) hx hb dL_law_1594 (by decide) ?_
        refine lv_iadd hx hb dL_law_1595 ?_
        refine z_lit (y := 3) (by decide) ?_
        refine va_sld hx hb hX hbl hbA hw.2.2 (z_ix (show (3 : Int32).toInt = 3 by decide) (by omega)) dL_law_1596 ?_
        refine z_lit (y := x3) ex3.symm ?_
        refine lv_aload_n hx hb dL_law_1597 rfl (lv_at hl 3 rfl) ?_
        refine lv_iload_n hx hb dL_law_1598 rfl (lv_at hl 0 rfl) ?_
        refine lv_iconst (v := 4) hx hb dL_law_1599 (by decide) ?_
        refine lv_iadd hx hb dL_law_1600 ?_
        refine z_lit (y := 4) (by decide) ?_
        refine va_sld hx hb hX hbl hbA hw.2.2 (z_ix (show (4 : Int32).toInt = 4 by decide) (by omega)) dL_law_1601 ?_
        refine z_lit (y := x4) ex4.symm ?_
        refine lv_aload_n hx hb dL_law_1602 rfl (lv_at hl 3 rfl) ?_
        refine lv_iload_n hx hb dL_law_1603 rfl (lv_at hl 0 rfl) ?_
        refine lv_iconst (v := 5) hx hb dL_law_1604 (by decide) ?_
        refine lv_iadd hx hb dL_law_1605 ?_
        refine z_lit (y := 5) (by decide) ?_
        refine va_sld hx hb hX hbl hbA hw.2.2 (z_ix (show (5 : Int32).toInt = 5 by decide) (by omega)) dL_law_1606 ?_
        refine z_lit (y := x5) ex5.symm ?_
        refine z_calliV (cells := 164) (slots := 16321) (b := me) (As := [.int x1, .int x2, .int x3, .int x4, .int x5]) (rest := [.int r315]) (ci := 10) (q0 := (RX10, TX10, 54)) ⟨hx, hb, hml, hown, hT⟩ (c_X10_paste l hm_me hm_mw hf_me hf_mw hpM.1) (cwV 5 hT (z_goodV (fun _ h => h) kw_1349 kw_1350 kw_1351 kw_96 kw_1352) rfl rfl rfl (by decide +kernel) ⟨by decide, by decide⟩) z_mv hKK hK hw hA hm_me hf_me rfl rfl rfl hl.1 rfl (Nat.le_of_ble_eq_true rfl) dL_law_1607 ⟨by decide, by decide⟩ (fun r316 u H locs hp hw => ?_)
        obtain ⟨L317, f318⟩ := u
        obtain ⟨hsb, hfm, hp⟩ := hp
        have hw : z_H D vwCl ((fun q : Nat => s.heap.size ≤ q)) s.heap L317 f318 H locs := hw
        have hf_hs : f318 hs = .inr (9, [.ref tp, .ref rd, .ref mo, .ref dr, .ref im, .ref kp, .ref sl, .ref wk, .ref pl, .ref ex, .ref mx]) := (hfm hs hm_hs ne_hs_me).trans hf_hs
        have hf_sl : f318 sl = .inr (6, [.ref nu, .ref wi, .ref si]) := (hfm sl hm_sl ne_sl_me).trans hf_sl
        have hf_si : f318 si = .inl (cy 1, 4, .inl gs) := (hfm si hm_si ne_si_me).trans hf_si
        have hf_mw : f318 mw = .inl (cy 1, 4, .inl gw) := (hfm mw hm_mw (Ne.symm ne_me_mw)).trans hf_mw
        have hm_hs : hs ∈ L317 := hsb _ hm_hs
        have hm_sl : sl ∈ L317 := hsb _ hm_sl
        have hm_si : si ∈ L317 := hsb _ hm_si
        have hm_me : me ∈ L317 := hsb _ hm_me
        have hm_mw : mw ∈ L317 := hsb _ hm_mw
        have hpB := hp
        refine z_icmp_eq (tgt := 1615) hx hb rfl rfl dL_law_1610 (by decide) (fun c319 => ?_) (fun c319 => False.elim (by omega))
        refine lv_iinc (v := 6) (lv' := [(3, .int 6), (2, .ref me), (1, .ref hs), (0, .ref b)]) hx hb dL_law_1615 hl (k := 0) rfl (by decide) (by decide) rfl (fun ls hl => ?_)
        refine lv_goto (tgt := 18) hx hb dL_law_1618 (by decide) ?_
        refine lv_iload_n hx hb dL_law_18 rfl (lv_at hl 0 rfl) ?_
        refine lv_aload_n hx hb dL_law_19 rfl (lv_at hl 3 rfl) ?_
        refine va_slen hx hb hX hbl hbA hw.2.2 dL_law_20 ?_
        refine lv_topi (fun ln e_ln => ?_)
        have i_ln : ln.toInt = L := by rw [e_ln]; exact nI_toInt (by omega)
        refine lv_bipush (v := 6) hx hb dL_law_21 (by decide) ?_
        refine lv_isub hx hb dL_law_23 ?_
        refine lv_topi (fun w320 e_w320 => ?_)
        have i_w320 : w320.toInt = ((L : Int) - 6) := z_subI e_w320 i_ln (show (6 : Int32).toInt = 6 by decide) (by omega)
        refine z_icmp_gt (tgt := 1621) hx hb (show (6 : Int32).toInt = 6 by decide) i_w320 dL_law_24 (by decide) (fun c321 => ?_) (fun c321 => False.elim (by omega))
        refine lv_iconst (v := 1) hx hb dL_law_1621 (by decide) ?_
        refine va_forget (fun q hq => hw.2.2.2.2 q hq) ?_
        refine W.widen (k := 600000) (n := 7302250) (by decide) (by decide) ?_
        exact lw_ret hx hb hr hlocks dL_law_1622
