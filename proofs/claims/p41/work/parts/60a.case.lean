set_option maxHeartbeats 4000000 in
set_option maxRecDepth 100000 in
theorem lc_write {p : Program} {e : Env} {s : State} {m : MethodId} {below : List Frame} {meth : Method} {c : Code} (l : Launch) {b Ln : Nat} {xs : Nat → Int32} {D : va_G} {cy : Nat → ClassId} {adK adV : Nat → Nat} {L : List Nat} {F : Nat → va_E} {H : Heap} {locs : List Loc} {ls : Array Slot} {ad bd : Nat → Nat} {gkp gw gz gik gwd gmy : Nat → Int32} {K : Int32} {xo me : Nat} (C0 : lw_At p s m meth c b Ln xs) (hKK : z_KK D cy adK adV (fun q : Nat => s.heap.size ≤ q) s) (hxo : ad 0 = xo) (hme : bd 0 = me) (hSX : z_SX L F cy ad gkp gw gz) (hSM : z_SM L F cy bd gik gwd gmy) (hdis : ∀ i j : Nat, i < 135 → j < 29 → ad i ≠ bd j) (hrel : z_rel gkp gw gz gik gwd gmy) (hw : z_H D vwCl (fun q : Nat => s.heap.size ≤ q) s.heap L F H locs) (hl : lv_has ls 4 [(3, .int K), (2, .ref me), (1, .ref xo), (0, .ref b)]) (hKr : 0 ≤ K.toInt ∧ K.toInt + 6 ≤ Ln) (hLn : Ln ≤ 3072) (kk : ∀ (F2 : Nat → va_E) (H2 : Heap) (locs2 : List Loc) (a1 a2 a3 a4 a5 a6 : Nat → Int32), z_SX L F2 cy ad a1 a2 a3 → z_SM L F2 cy bd a4 a5 a6 → z_rel a1 a2 a3 a4 a5 a6 → z_H D vwCl (fun q : Nat => s.heap.size ≤ q) s.heap L F2 H2 locs2 → W p l e room_1 s m #[Value.ref b] below meth c H2 locs2 164 16321 (lw_Z below #[Value.ref b] s) (F0 m 1615 ls [])) : W p l e room_1 s m #[Value.ref b] below meth c H locs 164 16321 (lw_Z below #[Value.ref b] s) (F0 m 1479 ls []) := by
  subst hxo
  subst hme
  obtain ⟨hx, hb, hr, hml, hown, hts, hX, hbl, hlocks, hgv⟩ := C0
  have hA : ∀ q : Nat, s.heap.size ≤ q → (fun q : Nat => s.heap.size ≤ q) q := fun _ h => h
  have hbA : ¬ (fun q : Nat => s.heap.size ≤ q) b := Nat.not_le.mpr hbl
  have hT : ∀ w ∈ lw_all, w.before #[Value.ref b] s = true := fun w h => hts w (z_all_in w h)
  have hown : s.vm.findClass RL = some m.cls := hown
  have hK := hKK.1.1
  obtain ⟨x1, ex1⟩ : ∃ z, z = xs (K.toNatClampNeg + 1) := ⟨_, rfl⟩
  obtain ⟨x2, ex2⟩ : ∃ z, z = xs (K.toNatClampNeg + 2) := ⟨_, rfl⟩
  obtain ⟨x3, ex3⟩ : ∃ z, z = xs (K.toNatClampNeg + 3) := ⟨_, rfl⟩
  obtain ⟨x4, ex4⟩ : ∃ z, z = xs (K.toNatClampNeg + 4) := ⟨_, rfl⟩
  obtain ⟨x5, ex5⟩ : ∃ z, z = xs (K.toNatClampNeg + 5) := ⟨_, rfl⟩
  refine lv_aload_n hx hb dL_law_1479 rfl (lv_at hl 2 rfl) ?_
  refine lv_aload_n hx hb dL_law_1480 rfl (lv_at hl 3 rfl) ?_
  refine lv_iload_n hx hb dL_law_1481 rfl (lv_at hl 0 rfl) ?_
  refine lv_iconst (v := 1) hx hb dL_law_1482 (by decide) ?_
  refine lv_iadd hx hb dL_law_1483 ?_
  refine lv_topi (fun w1 e_w1 => ?_)
  have i_w1 : w1.toInt = (K.toInt + 1) := z_add e_w1 rfl (show (1 : Int32).toInt = 1 by decide) (by omega)
  refine va_sld hx hb hX hbl hbA hw.2.2 (z_ix i_w1 (by omega)) dL_law_1484 ?_
  refine z_lit (y := x1) (by rw [ex1, z_ixK (K := K) (k := 1) i_w1 (by omega)]) ?_
  refine lv_aload_n hx hb dL_law_1485 rfl (lv_at hl 3 rfl) ?_
  refine lv_iload_n hx hb dL_law_1486 rfl (lv_at hl 0 rfl) ?_
  refine lv_iconst (v := 2) hx hb dL_law_1487 (by decide) ?_
  refine lv_iadd hx hb dL_law_1488 ?_
  refine lv_topi (fun w2 e_w2 => ?_)
  have i_w2 : w2.toInt = (K.toInt + 2) := z_add e_w2 rfl (show (2 : Int32).toInt = 2 by decide) (by omega)
  refine va_sld hx hb hX hbl hbA hw.2.2 (z_ix i_w2 (by omega)) dL_law_1489 ?_
  refine z_lit (y := x2) (by rw [ex2, z_ixK (K := K) (k := 2) i_w2 (by omega)]) ?_
  refine lv_aload_n hx hb dL_law_1490 rfl (lv_at hl 3 rfl) ?_
  refine lv_iload_n hx hb dL_law_1491 rfl (lv_at hl 0 rfl) ?_
  refine lv_iconst (v := 3) hx hb dL_law_1492 (by decide) ?_
  refine lv_iadd hx hb dL_law_1493 ?_
  refine lv_topi (fun w3 e_w3 => ?_)
  have i_w3 : w3.toInt = (K.toInt + 3) := z_add e_w3 rfl (show (3 : Int32).toInt = 3 by decide) (by omega)
  refine va_sld hx hb hX hbl hbA hw.2.2 (z_ix i_w3 (by omega)) dL_law_1494 ?_
  refine z_lit (y := x3) (by rw [ex3, z_ixK (K := K) (k := 3) i_w3 (by omega)]) ?_
  refine lv_i2l hx hb dL_law_1495 rfl ?_
  refine lv_topl (fun w4 e_w4 => ?_)
  have i_w4 : w4.toInt = x3.toInt := z_i2l e_w4 rfl
  refine lv_bipush (v := 32) hx hb dL_law_1496 (by decide) ?_
  refine lv_lshl hx hb dL_law_1498 rfl ?_
  refine lv_topl (fun w5 e_w5 => ?_)
  refine lv_aload_n hx hb dL_law_1499 rfl (lv_at hl 3 rfl) ?_
  refine lv_iload_n hx hb dL_law_1500 rfl (lv_at hl 0 rfl) ?_
  refine lv_iconst (v := 4) hx hb dL_law_1501 (by decide) ?_
  refine lv_iadd hx hb dL_law_1502 ?_
  refine lv_topi (fun w6 e_w6 => ?_)
  have i_w6 : w6.toInt = (K.toInt + 4) := z_add e_w6 rfl (show (4 : Int32).toInt = 4 by decide) (by omega)
  refine va_sld hx hb hX hbl hbA hw.2.2 (z_ix i_w6 (by omega)) dL_law_1503 ?_
  refine z_lit (y := x4) (by rw [ex4, z_ixK (K := K) (k := 4) i_w6 (by omega)]) ?_
  refine lv_i2l hx hb dL_law_1504 rfl ?_
  refine lv_topl (fun w7 e_w7 => ?_)
  have i_w7 : w7.toInt = x4.toInt := z_i2l e_w7 rfl
  refine lv_ldc2 (v := 4294967295) hx hb hown (hT _ kw_1772) dL_law_1505 ?_
  refine lv_land hx hb dL_law_1508 ?_
  refine lv_topl (fun w8 e_w8 => ?_)
  refine lv_lor hx hb dL_law_1509 ?_
  refine lv_topl (fun w9 e_w9 => ?_)
  obtain ⟨fs_, hfo⟩ := z_SX_xo hSX
  refine z_calliV (cells := 164) (slots := 16321) (b := ad 0) (As := [.int x1, .int x2, .long w9]) (rest := []) (ci := 9) (q0 := (RX9, TX9, 11)) ⟨hx, hb, hml, hown, hT⟩ (s_X9_write l hSX) (cwV 3 hT (z_goodV (fun _ h => h) kw_1146 kw_1147 kw_1148 kw_85 kw_1149) rfl rfl rfl (by decide +kernel) ⟨by decide, by decide⟩) z_mv hKK hK hw hA (z_SX_mem hSX (by decide)) hfo rfl rfl rfl hl.1 rfl (Nat.le_of_ble_eq_true rfl) dL_law_1510 ⟨by decide, by decide⟩ (fun r11 u H locs hp hw => ?_)
  obtain ⟨L2, F10⟩ := u
  obtain ⟨hL2, hfr, hS2⟩ := hp
  have hL2 : L = L2 := hL2
  subst hL2
  have hw : z_H D vwCl (fun q : Nat => s.heap.size ≤ q) s.heap L F10 H locs := hw
  have hSM := z_SM_fr (f2 := F10) hSM (fun i hi => hfr _ (z_SM_mem hSM hi) (fun j hj => (hdis j i hj hi).symm))
  obtain ⟨hSX, hrx⟩ := hS2
  have hSX : z_SX L F10 cy ad gkp gw gz := hSX
  refine lv_aload_n hx hb dL_law_1513 rfl (lv_at hl 1 rfl) ?_
  refine lv_aload_n hx hb dL_law_1514 rfl (lv_at hl 3 rfl) ?_
  refine lv_iload_n hx hb dL_law_1515 rfl (lv_at hl 0 rfl) ?_
  refine lv_iconst (v := 1) hx hb dL_law_1516 (by decide) ?_
  refine lv_iadd hx hb dL_law_1517 ?_
  refine lv_topi (fun w12 e_w12 => ?_)
  have i_w12 : w12.toInt = (K.toInt + 1) := z_add e_w12 rfl (show (1 : Int32).toInt = 1 by decide) (by omega)
  refine va_sld hx hb hX hbl hbA hw.2.2 (z_ix i_w12 (by omega)) dL_law_1518 ?_
  refine z_lit (y := x1) (by rw [ex1, z_ixK (K := K) (k := 1) i_w12 (by omega)]) ?_
  refine lv_aload_n hx hb dL_law_1519 rfl (lv_at hl 3 rfl) ?_
  refine lv_iload_n hx hb dL_law_1520 rfl (lv_at hl 0 rfl) ?_
  refine lv_iconst (v := 2) hx hb dL_law_1521 (by decide) ?_
  refine lv_iadd hx hb dL_law_1522 ?_
  refine lv_topi (fun w13 e_w13 => ?_)
  have i_w13 : w13.toInt = (K.toInt + 2) := z_add e_w13 rfl (show (2 : Int32).toInt = 2 by decide) (by omega)
  refine va_sld hx hb hX hbl hbA hw.2.2 (z_ix i_w13 (by omega)) dL_law_1523 ?_
  refine z_lit (y := x2) (by rw [ex2, z_ixK (K := K) (k := 2) i_w13 (by omega)]) ?_
  refine lv_aload_n hx hb dL_law_1524 rfl (lv_at hl 3 rfl) ?_
  refine lv_iload_n hx hb dL_law_1525 rfl (lv_at hl 0 rfl) ?_
  refine lv_iconst (v := 3) hx hb dL_law_1526 (by decide) ?_
  refine lv_iadd hx hb dL_law_1527 ?_
  refine lv_topi (fun w14 e_w14 => ?_)
  have i_w14 : w14.toInt = (K.toInt + 3) := z_add e_w14 rfl (show (3 : Int32).toInt = 3 by decide) (by omega)
  refine va_sld hx hb hX hbl hbA hw.2.2 (z_ix i_w14 (by omega)) dL_law_1528 ?_
  refine z_lit (y := x3) (by rw [ex3, z_ixK (K := K) (k := 3) i_w14 (by omega)]) ?_
  refine lv_i2l hx hb dL_law_1529 rfl ?_
  refine lv_topl (fun w15 e_w15 => ?_)
  have i_w15 : w15.toInt = x3.toInt := z_i2l e_w15 rfl
  refine lv_bipush (v := 32) hx hb dL_law_1530 (by decide) ?_
  refine lv_lshl hx hb dL_law_1532 rfl ?_
  refine lv_topl (fun w16 e_w16 => ?_)
  refine lv_aload_n hx hb dL_law_1533 rfl (lv_at hl 3 rfl) ?_
  refine lv_iload_n hx hb dL_law_1534 rfl (lv_at hl 0 rfl) ?_
  refine lv_iconst (v := 4) hx hb dL_law_1535 (by decide) ?_
  refine lv_iadd hx hb dL_law_1536 ?_
  refine lv_topi (fun w17 e_w17 => ?_)
  have i_w17 : w17.toInt = (K.toInt + 4) := z_add e_w17 rfl (show (4 : Int32).toInt = 4 by decide) (by omega)
  refine va_sld hx hb hX hbl hbA hw.2.2 (z_ix i_w17 (by omega)) dL_law_1537 ?_
  refine z_lit (y := x4) (by rw [ex4, z_ixK (K := K) (k := 4) i_w17 (by omega)]) ?_
  refine lv_i2l hx hb dL_law_1538 rfl ?_
  refine lv_topl (fun w18 e_w18 => ?_)
  have i_w18 : w18.toInt = x4.toInt := z_i2l e_w18 rfl
  refine lv_ldc2 (v := 4294967295) hx hb hown (hT _ kw_1772) dL_law_1539 ?_
  refine lv_land hx hb dL_law_1542 ?_
  refine lv_topl (fun w19 e_w19 => ?_)
  refine lv_lor hx hb dL_law_1543 ?_
  refine lv_topl (fun w20 e_w20 => ?_)
  obtain ⟨fs_, hfo⟩ := z_SM_xo hSM
  refine z_calliV (cells := 164) (slots := 16321) (b := bd 0) (As := [.int x1, .int x2, .long w20]) (rest := [.int r11]) (ci := 10) (q0 := (RX10, TX10, 54)) ⟨hx, hb, hml, hown, hT⟩ (s_X10_write l hSM) (cwV 3 hT (z_goodV (fun _ h => h) kw_1342 kw_1343 kw_1344 kw_96 kw_1345) rfl rfl rfl (by decide +kernel) ⟨by decide, by decide⟩) z_mv hKK hK hw hA (z_SM_mem hSM (by decide)) hfo rfl rfl rfl hl.1 rfl (Nat.le_of_ble_eq_true rfl) dL_law_1544 ⟨by decide, by decide⟩ (fun r22 u H locs hp hw => ?_)
  obtain ⟨L2, F21⟩ := u
  obtain ⟨hL2, hfr, hS2⟩ := hp
  have hL2 : L = L2 := hL2
  subst hL2
  have hw : z_H D vwCl (fun q : Nat => s.heap.size ≤ q) s.heap L F21 H locs := hw
  have hSX := z_SX_frL (f2 := F21) hSX (fun _ h => h) (fun i hi => hfr _ (z_SX_mem hSX hi) (fun j hj => hdis i j hi hj))
  obtain ⟨hSM, hrm⟩ := hS2
  have hSM : z_SM L F21 cy bd gik gwd gmy := hSM
  have hrel0 := hrel
  have hreq : r11 = r22 := by have h3 : (0 ≤ x1.toInt ∧ x1.toInt ≤ 3) → _ := fun h => hrel0.2 x1.toNatClampNeg (z_clI rfl (by omega)); rcases hrx with ⟨a, b⟩ | ⟨a, b⟩ | ⟨a, b⟩ | ⟨a, b⟩ <;> rcases hrm with ⟨c, d⟩ | ⟨c, d⟩ | ⟨c, d⟩ | ⟨c, d⟩ <;> first | (rw [a, c]; done) | (exfalso; omega)
  refine z_icmp_eq (tgt := 1615) hx hb rfl rfl dL_law_1547 (by decide) (fun _ => ?_) (fun h => absurd (congrArg Int32.toInt hreq) h)
  exact kk _ _ _ _ _ _ _ _ _ hSX hSM hrel hw
