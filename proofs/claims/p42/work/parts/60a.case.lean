set_option maxHeartbeats 4000000 in
set_option maxRecDepth 100000 in
theorem lc_paste {p : Program} {e : Env} {s : State} {m : MethodId} {below : List Frame} {meth : Method} {c : Code} (l : Launch) {b Ln : Nat} {xs : Nat → Int32} {D : va_G} {cy : Nat → ClassId} {adK adV : Nat → Nat} {L : List Nat} {F : Nat → va_E} {H : Heap} {locs : List Loc} {ls : Array Slot} {ad bd : Nat → Nat} {gkp gw gz gik gwd gmy : Nat → Int32} {K : Int32} {xo me : Nat} (C0 : lw_At p s m meth c b Ln xs) (hKK : z_KK D cy adK adV (fun q : Nat => s.heap.size ≤ q) s) (hxo : ad 0 = xo) (hme : bd 0 = me) (hSX : z_SX L F cy ad gkp gw gz) (hSM : z_SM L F cy bd gik gwd gmy) (hdis : ∀ i j : Nat, i < 135 → j < 29 → ad i ≠ bd j) (hrel : z_rel gkp gw gz gik gwd gmy) (hw : z_H D vwCl (fun q : Nat => s.heap.size ≤ q) s.heap L F H locs) (hl : lv_has ls 4 [(3, .int K), (2, .ref me), (1, .ref xo), (0, .ref b)]) (hKr : 0 ≤ K.toInt ∧ K.toInt + 6 ≤ Ln) (hLn : Ln ≤ 3072) (kk : ∀ (F2 : Nat → va_E) (H2 : Heap) (locs2 : List Loc) (a1 a2 a3 a4 a5 a6 : Nat → Int32), z_SX L F2 cy ad a1 a2 a3 → z_SM L F2 cy bd a4 a5 a6 → z_rel a1 a2 a3 a4 a5 a6 → z_H D vwCl (fun q : Nat => s.heap.size ≤ q) s.heap L F2 H2 locs2 → W p l e room_1 s m #[Value.ref b] below meth c H2 locs2 164 16321 (lw_Z below #[Value.ref b] s) (F0 m 1615 ls [])) : W p l e room_1 s m #[Value.ref b] below meth c H locs 164 16321 (lw_Z below #[Value.ref b] s) (F0 m 1552 ls []) := by
  subst hxo
  subst hme
  obtain ⟨hx, hb, hr, hml, hown, hts, hX, hbl, hlocks, hgv⟩ := C0
  have hA : ∀ q : Nat, s.heap.size ≤ q → (fun q : Nat => s.heap.size ≤ q) q := fun _ h => h
  have hbA : ¬ (fun q : Nat => s.heap.size ≤ q) b := Nat.not_le.mpr hbl
  have hT : ∀ w ∈ lw_all, w.before #[Value.ref b] s = true := fun w h => hts w (z_all_in w h)
  have hown : s.vm.findClass RL = some m.cls := hown
  have hK := hKK.1.1
  obtain ⟨x1, ex1⟩ : ∃ z, z = xs (K.toNatClampNeg + 1) := ⟨_, rfl⟩
  obtain ⟨x2, ex2⟩ : ∃ z, z = xs (K.toNatClampNeg + 2) := ⟨_, rfl⟩
  obtain ⟨x3, ex3⟩ : ∃ z, z = xs (K.toNatClampNeg + 3) := ⟨_, rfl⟩
  obtain ⟨x4, ex4⟩ : ∃ z, z = xs (K.toNatClampNeg + 4) := ⟨_, rfl⟩
  obtain ⟨x5, ex5⟩ : ∃ z, z = xs (K.toNatClampNeg + 5) := ⟨_, rfl⟩
  refine lv_aload_n hx hb dL_law_1552 rfl (lv_at hl 2 rfl) ?_
  refine lv_aload_n hx hb dL_law_1553 rfl (lv_at hl 3 rfl) ?_
  refine lv_iload_n hx hb dL_law_1554 rfl (lv_at hl 0 rfl) ?_
  refine lv_iconst (v := 1) hx hb dL_law_1555 (by decide) ?_
  refine lv_iadd hx hb dL_law_1556 ?_
  refine lv_topi (fun w1 e_w1 => ?_)
  have i_w1 : w1.toInt = (K.toInt + 1) := z_add e_w1 rfl (show (1 : Int32).toInt = 1 by decide) (by omega)
  refine va_sld hx hb hX hbl hbA hw.2.2 (z_ix i_w1 (by omega)) dL_law_1557 ?_
  refine z_lit (y := x1) (by rw [ex1, z_ixK (K := K) (k := 1) i_w1 (by omega)]) ?_
  refine lv_aload_n hx hb dL_law_1558 rfl (lv_at hl 3 rfl) ?_
  refine lv_iload_n hx hb dL_law_1559 rfl (lv_at hl 0 rfl) ?_
  refine lv_iconst (v := 2) hx hb dL_law_1560 (by decide) ?_
  refine lv_iadd hx hb dL_law_1561 ?_
  refine lv_topi (fun w2 e_w2 => ?_)
  have i_w2 : w2.toInt = (K.toInt + 2) := z_add e_w2 rfl (show (2 : Int32).toInt = 2 by decide) (by omega)
  refine va_sld hx hb hX hbl hbA hw.2.2 (z_ix i_w2 (by omega)) dL_law_1562 ?_
  refine z_lit (y := x2) (by rw [ex2, z_ixK (K := K) (k := 2) i_w2 (by omega)]) ?_
  refine lv_aload_n hx hb dL_law_1563 rfl (lv_at hl 3 rfl) ?_
  refine lv_iload_n hx hb dL_law_1564 rfl (lv_at hl 0 rfl) ?_
  refine lv_iconst (v := 3) hx hb dL_law_1565 (by decide) ?_
  refine lv_iadd hx hb dL_law_1566 ?_
  refine lv_topi (fun w3 e_w3 => ?_)
  have i_w3 : w3.toInt = (K.toInt + 3) := z_add e_w3 rfl (show (3 : Int32).toInt = 3 by decide) (by omega)
  refine va_sld hx hb hX hbl hbA hw.2.2 (z_ix i_w3 (by omega)) dL_law_1567 ?_
  refine z_lit (y := x3) (by rw [ex3, z_ixK (K := K) (k := 3) i_w3 (by omega)]) ?_
  refine lv_aload_n hx hb dL_law_1568 rfl (lv_at hl 3 rfl) ?_
  refine lv_iload_n hx hb dL_law_1569 rfl (lv_at hl 0 rfl) ?_
  refine lv_iconst (v := 4) hx hb dL_law_1570 (by decide) ?_
  refine lv_iadd hx hb dL_law_1571 ?_
  refine lv_topi (fun w4 e_w4 => ?_)
  have i_w4 : w4.toInt = (K.toInt + 4) := z_add e_w4 rfl (show (4 : Int32).toInt = 4 by decide) (by omega)
  refine va_sld hx hb hX hbl hbA hw.2.2 (z_ix i_w4 (by omega)) dL_law_1572 ?_
  refine z_lit (y := x4) (by rw [ex4, z_ixK (K := K) (k := 4) i_w4 (by omega)]) ?_
  refine lv_aload_n hx hb dL_law_1573 rfl (lv_at hl 3 rfl) ?_
  refine lv_iload_n hx hb dL_law_1574 rfl (lv_at hl 0 rfl) ?_
  refine lv_iconst (v := 5) hx hb dL_law_1575 (by decide) ?_
  refine lv_iadd hx hb dL_law_1576 ?_
  refine lv_topi (fun w5 e_w5 => ?_)
  have i_w5 : w5.toInt = (K.toInt + 5) := z_add e_w5 rfl (show (5 : Int32).toInt = 5 by decide) (by omega)
  refine va_sld hx hb hX hbl hbA hw.2.2 (z_ix i_w5 (by omega)) dL_law_1577 ?_
  refine z_lit (y := x5) (by rw [ex5, z_ixK (K := K) (k := 5) i_w5 (by omega)]) ?_
  obtain ⟨fs_, hfo⟩ := z_SX_xo hSX
  refine z_calliV (cells := 164) (slots := 16321) (b := ad 0) (As := [.int x1, .int x2, .int x3, .int x4, .int x5]) (rest := []) (ci := 9) (q0 := (RX9, TX9, 11)) ⟨hx, hb, hml, hown, hT⟩ (s_X9_paste l hSX) (cwV 5 hT (z_goodV (fun _ h => h) kw_1153 kw_1154 kw_1155 kw_85 kw_1156) rfl rfl rfl (by decide +kernel) ⟨by decide, by decide⟩) z_mv hKK hK hw hA (z_SX_mem hSX (by decide)) hfo rfl rfl rfl hl.1 rfl (Nat.le_of_ble_eq_true rfl) dL_law_1578 ⟨by decide, by decide⟩ (fun r7 u H locs hp hw => ?_)
  obtain ⟨L2, F6⟩ := u
  obtain ⟨hL2, hfr, hS2⟩ := hp
  have hL2 : L = L2 := hL2
  subst hL2
  have hw : z_H D vwCl (fun q : Nat => s.heap.size ≤ q) s.heap L F6 H locs := hw
  have hSM := z_SM_fr (f2 := F6) hSM (fun i hi => hfr _ (z_SM_mem hSM hi) (fun j hj => (hdis j i hj hi).symm))
  obtain ⟨hSX, hrx⟩ := hS2
  have hSX : z_SX L F6 cy ad gkp gw gz := hSX
  refine lv_aload_n hx hb dL_law_1581 rfl (lv_at hl 1 rfl) ?_
  refine lv_aload_n hx hb dL_law_1582 rfl (lv_at hl 3 rfl) ?_
  refine lv_iload_n hx hb dL_law_1583 rfl (lv_at hl 0 rfl) ?_
  refine lv_iconst (v := 1) hx hb dL_law_1584 (by decide) ?_
  refine lv_iadd hx hb dL_law_1585 ?_
  refine lv_topi (fun w8 e_w8 => ?_)
  have i_w8 : w8.toInt = (K.toInt + 1) := z_add e_w8 rfl (show (1 : Int32).toInt = 1 by decide) (by omega)
  refine va_sld hx hb hX hbl hbA hw.2.2 (z_ix i_w8 (by omega)) dL_law_1586 ?_
  refine z_lit (y := x1) (by rw [ex1, z_ixK (K := K) (k := 1) i_w8 (by omega)]) ?_
  refine lv_aload_n hx hb dL_law_1587 rfl (lv_at hl 3 rfl) ?_
  refine lv_iload_n hx hb dL_law_1588 rfl (lv_at hl 0 rfl) ?_
  refine lv_iconst (v := 2) hx hb dL_law_1589 (by decide) ?_
  refine lv_iadd hx hb dL_law_1590 ?_
  refine lv_topi (fun w9 e_w9 => ?_)
  have i_w9 : w9.toInt = (K.toInt + 2) := z_add e_w9 rfl (show (2 : Int32).toInt = 2 by decide) (by omega)
  refine va_sld hx hb hX hbl hbA hw.2.2 (z_ix i_w9 (by omega)) dL_law_1591 ?_
  refine z_lit (y := x2) (by rw [ex2, z_ixK (K := K) (k := 2) i_w9 (by omega)]) ?_
  refine lv_aload_n hx hb dL_law_1592 rfl (lv_at hl 3 rfl) ?_
  refine lv_iload_n hx hb dL_law_1593 rfl (lv_at hl 0 rfl) ?_
  refine lv_iconst (v := 3) hx hb dL_law_1594 (by decide) ?_
  refine lv_iadd hx hb dL_law_1595 ?_
  refine lv_topi (fun w10 e_w10 => ?_)
  have i_w10 : w10.toInt = (K.toInt + 3) := z_add e_w10 rfl (show (3 : Int32).toInt = 3 by decide) (by omega)
  refine va_sld hx hb hX hbl hbA hw.2.2 (z_ix i_w10 (by omega)) dL_law_1596 ?_
  refine z_lit (y := x3) (by rw [ex3, z_ixK (K := K) (k := 3) i_w10 (by omega)]) ?_
  refine lv_aload_n hx hb dL_law_1597 rfl (lv_at hl 3 rfl) ?_
  refine lv_iload_n hx hb dL_law_1598 rfl (lv_at hl 0 rfl) ?_
  refine lv_iconst (v := 4) hx hb dL_law_1599 (by decide) ?_
  refine lv_iadd hx hb dL_law_1600 ?_
  refine lv_topi (fun w11 e_w11 => ?_)
  have i_w11 : w11.toInt = (K.toInt + 4) := z_add e_w11 rfl (show (4 : Int32).toInt = 4 by decide) (by omega)
  refine va_sld hx hb hX hbl hbA hw.2.2 (z_ix i_w11 (by omega)) dL_law_1601 ?_
  refine z_lit (y := x4) (by rw [ex4, z_ixK (K := K) (k := 4) i_w11 (by omega)]) ?_
  refine lv_aload_n hx hb dL_law_1602 rfl (lv_at hl 3 rfl) ?_
  refine lv_iload_n hx hb dL_law_1603 rfl (lv_at hl 0 rfl) ?_
  refine lv_iconst (v := 5) hx hb dL_law_1604 (by decide) ?_
  refine lv_iadd hx hb dL_law_1605 ?_
  refine lv_topi (fun w12 e_w12 => ?_)
  have i_w12 : w12.toInt = (K.toInt + 5) := z_add e_w12 rfl (show (5 : Int32).toInt = 5 by decide) (by omega)
  refine va_sld hx hb hX hbl hbA hw.2.2 (z_ix i_w12 (by omega)) dL_law_1606 ?_
  refine z_lit (y := x5) (by rw [ex5, z_ixK (K := K) (k := 5) i_w12 (by omega)]) ?_
  obtain ⟨fs_, hfo⟩ := z_SM_xo hSM
  refine z_calliV (cells := 164) (slots := 16321) (b := bd 0) (As := [.int x1, .int x2, .int x3, .int x4, .int x5]) (rest := [.int r7]) (ci := 10) (q0 := (RX10, TX10, 54)) ⟨hx, hb, hml, hown, hT⟩ (s_X10_paste l hSM) (cwV 5 hT (z_goodV (fun _ h => h) kw_1349 kw_1350 kw_1351 kw_96 kw_1352) rfl rfl rfl (by decide +kernel) ⟨by decide, by decide⟩) z_mv hKK hK hw hA (z_SM_mem hSM (by decide)) hfo rfl rfl rfl hl.1 rfl (Nat.le_of_ble_eq_true rfl) dL_law_1607 ⟨by decide, by decide⟩ (fun r14 u H locs hp hw => ?_)
  obtain ⟨L2, F13⟩ := u
  obtain ⟨hL2, hfr, hS2⟩ := hp
  have hL2 : L = L2 := hL2
  subst hL2
  have hw : z_H D vwCl (fun q : Nat => s.heap.size ≤ q) s.heap L F13 H locs := hw
  have hSX := z_SX_frL (f2 := F13) hSX (fun _ h => h) (fun i hi => hfr _ (z_SX_mem hSX hi) (fun j hj => hdis i j hi hj))
  obtain ⟨hSM, hrm⟩ := hS2
  have hSM : z_SM L F13 cy bd gik gwd gmy := hSM
  have hrel0 := hrel
  have hreq : r7 = r14 := by have h3 : (0 ≤ x1.toInt ∧ x1.toInt ≤ 3) → _ := fun h => hrel0.2 x1.toNatClampNeg (z_clI rfl (by omega)); have h4 : (0 ≤ x3.toInt ∧ x3.toInt ≤ 3) → _ := fun h => hrel0.2 x3.toNatClampNeg (z_clI rfl (by omega)); rcases hrx with ⟨a, b⟩ | ⟨a, b⟩ | ⟨a, b⟩ | ⟨a, b⟩ | ⟨a, b⟩ <;> rcases hrm with ⟨c, d⟩ | ⟨c, d⟩ | ⟨c, d⟩ | ⟨c, d⟩ | ⟨c, d⟩ <;> first | (rw [a, c]; done) | (exfalso; omega)
  refine z_icmp_eq (tgt := 1615) hx hb rfl rfl dL_law_1610 (by decide) (fun _ => ?_) (fun h => absurd (congrArg Int32.toInt hreq) h)
  exact kk _ _ _ _ _ _ _ _ _ hSX hSM hrel hw
