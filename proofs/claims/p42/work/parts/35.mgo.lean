set_option maxHeartbeats 2000000 in
set_option maxRecDepth 100000 in
theorem c_X10_of (l : Launch) {D : va_G} {cy : Nat → ClassId} {L : List Nat} {f : Nat → va_E} {sz : Nat} {adK adV : Nat → Nat} {mm wd my ce mv ta li ha lw st fo dr ik ro ct se th cn be du db pn wg wh tn he tr fd po : Nat} {m0 m6 m7 m8 m9 m10 m12 m13 m14 m15 m22 m24 m25 m27 m28 m30 m36 m38 m40 m41 m42 m48 m52 m53 : Int32} {m11 m26 : Int64} {gdr : Nat → Int32}  {kk wt : Int32} (hm_mm : mm ∈ L) (hm_dr : dr ∈ L) (hf_mm : f mm = .inr (10, [.int m0, .ref wd, .ref my, .ref ce, .ref mv, .ref ta, .int m6, .int m7, .int m8, .int m9, .int m10, .long m11, .int m12, .int m13, .int m14, .int m15, .ref li, .ref ha, .ref lw, .ref st, .ref fo, .ref dr, .int m22, .ref ik, .int m24, .int m25, .long m26, .int m27, .int m28, .ref ro, .int m30, .ref ct, .ref se, .ref th, .ref cn, .ref be, .int m36, .ref du, .int m38, .ref db, .int m40, .int m41, .int m42, .ref pn, .ref wg, .ref wh, .ref tn, .ref he, .int m48, .ref tr, .ref fd, .ref po, .int m52, .int m53])) (hf_dr : f dr = .inl (cy 1, 520, .inl gdr)) (hq_dr : ∀ j : Nat, q_drv j (gdr j)) (hkk : 0 ≤ kk.toInt ∧ kk.toInt ≤ 12) (hwt : 0 ≤ wt.toInt ∧ wt.toInt ≤ 7) : Met l yX10_of (z_ws yX10_of cX10_of 3 (some .int)) (z_R 1 0 0) (va_Pc [.ref mm, .int kk, .int wt] (z_Pre D vwCl (z_KK D cy adK adV) L f sz)) (z_Qi D vwCl (fun r u => u = (L, f) ∧ (r = gdr (8 * kk.toNatClampNeg + wt.toNatClampNeg))) L sz) 0 0 (z_A L sz) := by
  refine z_met (cc := cX10_of) (maxL := 3) (ret := (some .int)) (lv := [(0, .ref mm), (1, .int kk), (2, .int wt)]) (by decide) rfl (Nat.le_of_ble_eq_true rfl) rfl ?_
  intro p e s m below meth c ls hx hb hr hlk hml hown hnm hts hKK hA hw hl
  have hK := hKK.1.1
  have hown : s.vm.findClass RX10 = some m.cls := hown
  have hT : ∀ w ∈ lw_all, w.before ([.ref mm, .int kk, .int wt] : List Value).toArray s = true := fun w h => hts w (z_cons w h)
  refine lv_aload_n hx hb dX10_of_0 rfl (lv_at hl 0 rfl) ?_
  refine z_get (C := RX10) (T := TX10) (N := 54) (ci := 10) (v := .ref dr) hx hb hT zin_X10 hown hK hw hm_mm hf_mm rfl 21 (by decide) (hT _ kw_1189) rfl dX10_of_1 ?_
  refine lv_bipush (v := 8) hx hb dX10_of_4 (by decide) ?_
  refine lv_iload_n hx hb dX10_of_6 rfl (lv_at hl 1 rfl) ?_
  refine lv_imul hx hb dX10_of_7 ?_
  refine lv_topi (fun w1 e_w1 => ?_)
  have i_w1 : w1.toInt = (8 * kk.toInt) := z_mul e_w1 (show (8 : Int32).toInt = 8 by decide) rfl (by omega)
  refine lv_iload_n hx hb dX10_of_8 rfl (lv_at hl 2 rfl) ?_
  refine lv_iadd hx hb dX10_of_9 ?_
  refine lv_topi (fun w2 e_w2 => ?_)
  have i_w2 : w2.toInt = ((8 * kk.toInt) + wt.toInt) := z_add e_w2 i_w1 rfl (by omega)
  refine z_iald hx hb hK hw 1 hm_dr hf_dr rfl (z_ix i_w2 (by omega)) dX10_of_10 ?_
  refine lv_topi (fun w3 e_w3 => ?_)
  exact z_iret hx hb hr hlk (by decide) (by decide) hw (⟨rfl, by rw [e_w3]; exact congrArg gdr (z_idx8 i_w2 (by omega))⟩) dX10_of_11

set_option maxHeartbeats 2000000 in
set_option maxRecDepth 100000 in
theorem c_X10_timeOf (l : Launch) {D : va_G} {cy : Nat → ClassId} {L : List Nat} {f : Nat → va_E} {sz : Nat} {adK adV : Nat → Nat} {mm wd my ce mv ta li ha lw st fo dr ik ro ct se th cn be du db pn wg wh tn he tr fd po : Nat} {m0 m6 m7 m8 m9 m10 m12 m13 m14 m15 m22 m24 m25 m27 m28 m30 m36 m38 m40 m41 m42 m48 m52 m53 : Int32} {m11 m26 : Int64} {gdr : Nat → Int32}  {kk : Int32} (hm_mm : mm ∈ L) (hm_dr : dr ∈ L) (hf_mm : f mm = .inr (10, [.int m0, .ref wd, .ref my, .ref ce, .ref mv, .ref ta, .int m6, .int m7, .int m8, .int m9, .int m10, .long m11, .int m12, .int m13, .int m14, .int m15, .ref li, .ref ha, .ref lw, .ref st, .ref fo, .ref dr, .int m22, .ref ik, .int m24, .int m25, .long m26, .int m27, .int m28, .ref ro, .int m30, .ref ct, .ref se, .ref th, .ref cn, .ref be, .int m36, .ref du, .int m38, .ref db, .int m40, .int m41, .int m42, .ref pn, .ref wg, .ref wh, .ref tn, .ref he, .int m48, .ref tr, .ref fd, .ref po, .int m52, .int m53])) (hf_dr : f dr = .inl (cy 1, 520, .inl gdr)) (hq_dr : ∀ j : Nat, q_drv j (gdr j)) (hkk : 0 ≤ kk.toInt ∧ kk.toInt ≤ 12) : Met l yX10_timeOf (z_ws yX10_timeOf cX10_timeOf 2 (some .int)) (z_R 2 0 0) (va_Pc [.ref mm, .int kk] (z_Pre D vwCl (z_KK D cy adK adV) L f sz)) (z_Qi D vwCl (fun r u => u = (L, f) ∧ (r.toInt = z_tm gdr kk.toNatClampNeg ∧ 0 ≤ r.toInt ∧ r.toInt ≤ 216)) L sz) 0 0 (z_A L sz) := by
  refine z_met (cc := cX10_timeOf) (maxL := 2) (ret := (some .int)) (lv := [(0, .ref mm), (1, .int kk)]) (by decide) rfl (Nat.le_of_ble_eq_true rfl) rfl ?_
  intro p e s m below meth c ls hx hb hr hlk hml hown hnm hts hKK hA hw hl
  have hK := hKK.1.1
  have hown : s.vm.findClass RX10 = some m.cls := hown
  have hT : ∀ w ∈ lw_all, w.before ([.ref mm, .int kk] : List Value).toArray s = true := fun w h => hts w (z_cons w h)
  refine lv_bipush (v := 24) hx hb dX10_timeOf_0 (by decide) ?_
  refine lv_aload_n hx hb dX10_timeOf_2 rfl (lv_at hl 0 rfl) ?_
  refine lv_iload_n hx hb dX10_timeOf_3 rfl (lv_at hl 1 rfl) ?_
  refine lv_iconst (v := 2) hx hb dX10_timeOf_4 (by decide) ?_
  have hz1 := (show (2 : Int32).toInt = 2 by decide)
  refine z_calliV (cells := 0) (slots := 0) (b := mm) (As := [.int kk, .int 2]) (rest := [.int 24]) (ci := 10) (q0 := (RX10, TX10, 54)) ⟨hx, hb, hml, hown, hT⟩ (c_X10_of l hm_mm hm_dr hf_mm hf_dr hq_dr (by first | omega | decide | assumption) (by decide)) (cwV 2 hT (z_goodV (fun _ h => h) kw_1487 kw_1489 kw_51 kw_96 kw_1490) rfl rfl rfl (by decide +kernel) ⟨by decide, by decide⟩) z_mv hKK hK hw hA hm_mm hf_mm rfl rfl rfl hl.1 rfl (Nat.le_of_ble_eq_true rfl) dX10_timeOf_5 ⟨by decide, by decide⟩ (fun r2 u H locs hp hw => ?_)
  obtain ⟨rfl, hp⟩ := hp
  have hw : z_H D vwCl (z_A L sz) s.heap L f H locs := hw
  have hof_r2 : r2 = gdr (8 * kk.toNatClampNeg + 2) := hp
  have hh_r2 : 0 ≤ r2.toInt ∧ r2.toInt ≤ 8 := by rw [hof_r2]; exact (hq_dr _).2.2.1 (by omega)
  refine lv_imul hx hb dX10_timeOf_8 ?_
  refine lv_topi (fun w3 e_w3 => ?_)
  have i_w3 : w3.toInt = (24 * r2.toInt) := z_mul e_w3 (show (24 : Int32).toInt = 24 by decide) rfl (by omega)
  refine lv_aload_n hx hb dX10_timeOf_9 rfl (lv_at hl 0 rfl) ?_
  refine lv_iload_n hx hb dX10_timeOf_10 rfl (lv_at hl 1 rfl) ?_
  refine lv_iconst (v := 3) hx hb dX10_timeOf_11 (by decide) ?_
  have hz4 := (show (3 : Int32).toInt = 3 by decide)
  refine z_calliV (cells := 0) (slots := 0) (b := mm) (As := [.int kk, .int 3]) (rest := [.int w3]) (ci := 10) (q0 := (RX10, TX10, 54)) ⟨hx, hb, hml, hown, hT⟩ (c_X10_of l hm_mm hm_dr hf_mm hf_dr hq_dr (by first | omega | decide | assumption) (by decide)) (cwV 2 hT (z_goodV (fun _ h => h) kw_1487 kw_1489 kw_51 kw_96 kw_1490) rfl rfl rfl (by decide +kernel) ⟨by decide, by decide⟩) z_mv hKK hK hw hA hm_mm hf_mm rfl rfl rfl hl.1 rfl (Nat.le_of_ble_eq_true rfl) dX10_timeOf_12 ⟨by decide, by decide⟩ (fun r5 u H locs hp hw => ?_)
  obtain ⟨rfl, hp⟩ := hp
  have hw : z_H D vwCl (z_A L sz) s.heap L f H locs := hw
  have hof_r5 : r5 = gdr (8 * kk.toNatClampNeg + 3) := hp
  have hh_r5 : 0 ≤ r5.toInt ∧ r5.toInt ≤ 23 := by rw [hof_r5]; exact (hq_dr _).2.2.2.1 (by omega)
  refine lv_iadd hx hb dX10_timeOf_15 ?_
  refine lv_topi (fun w6 e_w6 => ?_)
  have i_w6 : w6.toInt = ((24 * r2.toInt) + r5.toInt) := z_add e_w6 i_w3 rfl (by omega)
  refine lv_aload_n hx hb dX10_timeOf_16 rfl (lv_at hl 0 rfl) ?_
  refine lv_iload_n hx hb dX10_timeOf_17 rfl (lv_at hl 1 rfl) ?_
  refine lv_bipush (v := 7) hx hb dX10_timeOf_18 (by decide) ?_
  have hz7 := (show (7 : Int32).toInt = 7 by decide)
  refine z_calliV (cells := 0) (slots := 0) (b := mm) (As := [.int kk, .int 7]) (rest := [.int w6]) (ci := 10) (q0 := (RX10, TX10, 54)) ⟨hx, hb, hml, hown, hT⟩ (c_X10_of l hm_mm hm_dr hf_mm hf_dr hq_dr (by first | omega | decide | assumption) (by decide)) (cwV 2 hT (z_goodV (fun _ h => h) kw_1487 kw_1489 kw_51 kw_96 kw_1490) rfl rfl rfl (by decide +kernel) ⟨by decide, by decide⟩) z_mv hKK hK hw hA hm_mm hf_mm rfl rfl rfl hl.1 rfl (Nat.le_of_ble_eq_true rfl) dX10_timeOf_20 ⟨by decide, by decide⟩ (fun r8 u H locs hp hw => ?_)
  obtain ⟨rfl, hp⟩ := hp
  have hw : z_H D vwCl (z_A L sz) s.heap L f H locs := hw
  have hof_r8 : r8 = gdr (8 * kk.toNatClampNeg + 7) := hp
  have hh_r8 : 0 ≤ r8.toInt ∧ r8.toInt ≤ 1 := by rw [hof_r8]; exact (hq_dr _).2.2.2.2.2.2.2 (by omega)
  refine lv_iadd hx hb dX10_timeOf_23 ?_
  refine lv_topi (fun w9 e_w9 => ?_)
  have i_w9 : w9.toInt = (((24 * r2.toInt) + r5.toInt) + r8.toInt) := z_add e_w9 i_w6 rfl (by omega)
  exact z_iret hx hb hr hlk (by decide) (by decide) hw (⟨rfl, by have h1_ := congrArg Int32.toInt hof_r2; have h2_ := congrArg Int32.toInt hof_r5; have h3_ := congrArg Int32.toInt hof_r8; unfold z_tm; omega, by omega⟩) dX10_timeOf_24

set_option maxHeartbeats 2000000 in
set_option maxRecDepth 100000 in
theorem c_X10_end_ (l : Launch) {D : va_G} {cy : Nat → ClassId} {L : List Nat} {f : Nat → va_E} {sz : Nat} {adK adV : Nat → Nat} {mm wd my ce mv ta li ha lw st fo dr ik ro ct se th cn be du db pn wg wh tn he tr fd po : Nat} {m0 m6 m7 m8 m9 m10 m12 m13 m14 m15 m22 m24 m25 m27 m28 m30 m36 m38 m40 m41 m42 m48 m52 m53 : Int32} {m11 m26 : Int64} {gha : Nat → Int32}  (hm_mm : mm ∈ L) (hm_ha : ha ∈ L) (hf_mm : f mm = .inr (10, [.int m0, .ref wd, .ref my, .ref ce, .ref mv, .ref ta, .int m6, .int m7, .int m8, .int m9, .int m10, .long m11, .int m12, .int m13, .int m14, .int m15, .ref li, .ref ha, .ref lw, .ref st, .ref fo, .ref dr, .int m22, .ref ik, .int m24, .int m25, .long m26, .int m27, .int m28, .ref ro, .int m30, .ref ct, .ref se, .ref th, .ref cn, .ref be, .int m36, .ref du, .int m38, .ref db, .int m40, .int m41, .int m42, .ref pn, .ref wg, .ref wh, .ref tn, .ref he, .int m48, .ref tr, .ref fd, .ref po, .int m52, .int m53])) (hf_ha : f ha = .inl (cy 1, 30, .inl gha)) (hq_ha : ∀ j : Nat, q_has j (gha j)) : Met l yX10_end_ (z_ws yX10_end_ cX10_end_ 1 (some .int)) (z_R 1 0 0) (va_Pc [.ref mm] (z_Pre D vwCl (z_KK D cy adK adV) L f sz)) (z_Qi D vwCl (fun r u => u = (L, f) ∧ (r.toInt = 24 * (gha 1).toInt ∧ 0 ≤ r.toInt ∧ r.toInt ≤ 216)) L sz) 0 0 (z_A L sz) := by
  refine z_met (cc := cX10_end_) (maxL := 1) (ret := (some .int)) (lv := [(0, .ref mm)]) (by decide) rfl (Nat.le_of_ble_eq_true rfl) rfl ?_
  intro p e s m below meth c ls hx hb hr hlk hml hown hnm hts hKK hA hw hl
  have hK := hKK.1.1
  have hown : s.vm.findClass RX10 = some m.cls := hown
  have hT : ∀ w ∈ lw_all, w.before ([.ref mm] : List Value).toArray s = true := fun w h => hts w (z_cons w h)
  refine lv_bipush (v := 24) hx hb dX10_end__0 (by decide) ?_
  refine lv_aload_n hx hb dX10_end__2 rfl (lv_at hl 0 rfl) ?_
  refine z_get (C := RX10) (T := TX10) (N := 54) (ci := 10) (v := .ref ha) hx hb hT zin_X10 hown hK hw hm_mm hf_mm rfl 17 (by decide) (hT _ kw_1185) rfl dX10_end__3 ?_
  refine lv_iconst (v := 1) hx hb dX10_end__6 (by decide) ?_
  refine z_iald hx hb hK hw 1 hm_ha hf_ha rfl (z_ix (show (1 : Int32).toInt = 1 by decide) (by decide)) dX10_end__7 ?_
  refine lv_topi (fun w1 e_w1 => ?_)
  have hv_w1 : 0 ≤ w1.toInt ∧ w1.toInt ≤ 9 := by rw [e_w1]; exact (hq_ha _).2.1 rfl
  have hw1 : w1.toInt = (gha 1).toInt := by rw [e_w1]; rfl
  refine lv_imul hx hb dX10_end__8 ?_
  refine lv_topi (fun w2 e_w2 => ?_)
  have i_w2 : w2.toInt = (24 * w1.toInt) := z_mul e_w2 (show (24 : Int32).toInt = 24 by decide) rfl (by omega)
  exact z_iret hx hb hr hlk (by decide) (by decide) hw (⟨rfl, by omega, by omega⟩) dX10_end__9

set_option maxHeartbeats 2000000 in
set_option maxRecDepth 100000 in
theorem c_X10_isAhead (l : Launch) {D : va_G} {cy : Nat → ClassId} {L : List Nat} {f : Nat → va_E} {sz : Nat} {adK adV : Nat → Nat} {mm wd my ce mv ta li ha lw st fo dr ik ro ct se th cn be du db pn wg wh tn he tr fd po : Nat} {m0 m6 m7 m8 m9 m10 m12 m13 m14 m15 m22 m24 m25 m27 m28 m30 m36 m38 m40 m41 m42 m48 m52 m53 : Int32} {m11 m26 : Int64} {gdr : Nat → Int32}  {aa bb : Int32} (hm_mm : mm ∈ L) (hm_dr : dr ∈ L) (hf_mm : f mm = .inr (10, [.int m0, .ref wd, .ref my, .ref ce, .ref mv, .ref ta, .int m6, .int m7, .int m8, .int m9, .int m10, .long m11, .int m12, .int m13, .int m14, .int m15, .ref li, .ref ha, .ref lw, .ref st, .ref fo, .ref dr, .int m22, .ref ik, .int m24, .int m25, .long m26, .int m27, .int m28, .ref ro, .int m30, .ref ct, .ref se, .ref th, .ref cn, .ref be, .int m36, .ref du, .int m38, .ref db, .int m40, .int m41, .int m42, .ref pn, .ref wg, .ref wh, .ref tn, .ref he, .int m48, .ref tr, .ref fd, .ref po, .int m52, .int m53])) (hf_dr : f dr = .inl (cy 1, 520, .inl gdr)) (hq_dr : ∀ j : Nat, q_drv j (gdr j)) (haa : 0 ≤ aa.toInt ∧ aa.toInt ≤ 12) (hbb : 0 ≤ bb.toInt ∧ bb.toInt ≤ 12) : Met l yX10_isAhead (z_ws yX10_isAhead cX10_isAhead 3 (some .boolean)) (z_R 3 0 0) (va_Pc [.ref mm, .int aa, .int bb] (z_Pre D vwCl (z_KK D cy adK adV) L f sz)) (z_Qi D vwCl (fun r u => u = (L, f) ∧ ((r = 1 ∧ True) ∨ (r = 0 ∧ True))) L sz) 0 0 (z_A L sz) := by
  refine z_met (cc := cX10_isAhead) (maxL := 3) (ret := (some .boolean)) (lv := [(0, .ref mm), (1, .int aa), (2, .int bb)]) (by decide) rfl (Nat.le_of_ble_eq_true rfl) rfl ?_
  intro p e s m below meth c ls hx hb hr hlk hml hown hnm hts hKK hA hw hl
  have hK := hKK.1.1
  have hown : s.vm.findClass RX10 = some m.cls := hown
  have hT : ∀ w ∈ lw_all, w.before ([.ref mm, .int aa, .int bb] : List Value).toArray s = true := fun w h => hts w (z_cons w h)
  refine lv_aload_n hx hb dX10_isAhead_0 rfl (lv_at hl 0 rfl) ?_
  refine lv_iload_n hx hb dX10_isAhead_1 rfl (lv_at hl 1 rfl) ?_
  refine z_calliV (cells := 0) (slots := 0) (b := mm) (As := [.int aa]) (rest := []) (ci := 10) (q0 := (RX10, TX10, 54)) ⟨hx, hb, hml, hown, hT⟩ (c_X10_timeOf l hm_mm hm_dr hf_mm hf_dr hq_dr (by first | omega | decide | assumption)) (cwV 1 hT (z_goodV (fun _ h => h) kw_1495 kw_1497 kw_52 kw_96 kw_1498) rfl rfl rfl (by decide +kernel) ⟨by decide, by decide⟩) z_mv hKK hK hw hA hm_mm hf_mm rfl rfl rfl hl.1 rfl (Nat.le_of_ble_eq_true rfl) dX10_isAhead_2 ⟨by decide, by decide⟩ (fun r1 u H locs hp hw => ?_)
  obtain ⟨rfl, hp⟩ := hp
  have hw : z_H D vwCl (z_A L sz) s.heap L f H locs := hw
  have ht_r1 := hp
  refine lv_aload_n hx hb dX10_isAhead_5 rfl (lv_at hl 0 rfl) ?_
  refine lv_iload_n hx hb dX10_isAhead_6 rfl (lv_at hl 2 rfl) ?_
  refine z_calliV (cells := 0) (slots := 0) (b := mm) (As := [.int bb]) (rest := [.int r1]) (ci := 10) (q0 := (RX10, TX10, 54)) ⟨hx, hb, hml, hown, hT⟩ (c_X10_timeOf l hm_mm hm_dr hf_mm hf_dr hq_dr (by first | omega | decide | assumption)) (cwV 1 hT (z_goodV (fun _ h => h) kw_1495 kw_1497 kw_52 kw_96 kw_1498) rfl rfl rfl (by decide +kernel) ⟨by decide, by decide⟩) z_mv hKK hK hw hA hm_mm hf_mm rfl rfl rfl hl.1 rfl (Nat.le_of_ble_eq_true rfl) dX10_isAhead_7 ⟨by decide, by decide⟩ (fun r2 u H locs hp hw => ?_)
  obtain ⟨rfl, hp⟩ := hp
  have hw : z_H D vwCl (z_A L sz) s.heap L f H locs := hw
  have ht_r2 := hp
  refine z_icmp_eq (tgt := 34) hx hb rfl rfl dX10_isAhead_10 (by decide) (fun c3 => ?_) (fun c3 => ?_)
  · skip
    refine lv_aload_n hx hb dX10_isAhead_34 rfl (lv_at hl 0 rfl) ?_
    refine lv_iload_n hx hb dX10_isAhead_35 rfl (lv_at hl 1 rfl) ?_
    refine lv_iconst (v := 1) hx hb dX10_isAhead_36 (by decide) ?_
    have hz4 := (show (1 : Int32).toInt = 1 by decide)
    refine z_calliV (cells := 0) (slots := 0) (b := mm) (As := [.int aa, .int 1]) (rest := []) (ci := 10) (q0 := (RX10, TX10, 54)) ⟨hx, hb, hml, hown, hT⟩ (c_X10_of l hm_mm hm_dr hf_mm hf_dr hq_dr (by first | omega | decide | assumption) (by decide)) (cwV 2 hT (z_goodV (fun _ h => h) kw_1487 kw_1489 kw_51 kw_96 kw_1490) rfl rfl rfl (by decide +kernel) ⟨by decide, by decide⟩) z_mv hKK hK hw hA hm_mm hf_mm rfl rfl rfl hl.1 rfl (Nat.le_of_ble_eq_true rfl) dX10_isAhead_37 ⟨by decide, by decide⟩ (fun r5 u H locs hp hw => ?_)
    obtain ⟨rfl, hp⟩ := hp
    have hw : z_H D vwCl (z_A L sz) s.heap L f H locs := hw
    have hof_r5 : r5 = gdr (8 * aa.toNatClampNeg + 1) := hp
    have hh_r5 : 0 ≤ r5.toInt ∧ r5.toInt ≤ 3 := by rw [hof_r5]; exact (hq_dr _).2.1 (by omega)
    refine lv_aload_n hx hb dX10_isAhead_40 rfl (lv_at hl 0 rfl) ?_
    refine lv_iload_n hx hb dX10_isAhead_41 rfl (lv_at hl 2 rfl) ?_
    refine lv_iconst (v := 1) hx hb dX10_isAhead_42 (by decide) ?_
    have hz6 := (show (1 : Int32).toInt = 1 by decide)
    refine z_calliV (cells := 0) (slots := 0) (b := mm) (As := [.int bb, .int 1]) (rest := [.int r5]) (ci := 10) (q0 := (RX10, TX10, 54)) ⟨hx, hb, hml, hown, hT⟩ (c_X10_of l hm_mm hm_dr hf_mm hf_dr hq_dr (by first | omega | decide | assumption) (by decide)) (cwV 2 hT (z_goodV (fun _ h => h) kw_1487 kw_1489 kw_51 kw_96 kw_1490) rfl rfl rfl (by decide +kernel) ⟨by decide, by decide⟩) z_mv hKK hK hw hA hm_mm hf_mm rfl rfl rfl hl.1 rfl (Nat.le_of_ble_eq_true rfl) dX10_isAhead_43 ⟨by decide, by decide⟩ (fun r7 u H locs hp hw => ?_)
    obtain ⟨rfl, hp⟩ := hp
    have hw : z_H D vwCl (z_A L sz) s.heap L f H locs := hw
    have hof_r7 : r7 = gdr (8 * bb.toNatClampNeg + 1) := hp
    have hh_r7 : 0 ≤ r7.toInt ∧ r7.toInt ≤ 3 := by rw [hof_r7]; exact (hq_dr _).2.1 (by omega)
    refine z_icmp_ge (tgt := 53) hx hb rfl rfl dX10_isAhead_46 (by decide) (fun c8 => ?_) (fun c8 => ?_)
    · skip
      refine lv_iconst (v := 0) hx hb dX10_isAhead_53 (by decide) ?_
      exact z_zret hx hb hr rfl hlk (by decide) (by decide) hw (⟨rfl, Or.inr ⟨rfl, trivial⟩⟩) dX10_isAhead_54
    · skip
      refine lv_iconst (v := 1) hx hb dX10_isAhead_49 (by decide) ?_
      refine lv_goto (tgt := 54) hx hb dX10_isAhead_50 (by decide) ?_
      exact z_zret hx hb hr rfl hlk (by decide) (by decide) hw (⟨rfl, Or.inl ⟨rfl, trivial⟩⟩) dX10_isAhead_54
  · skip
    refine lv_aload_n hx hb dX10_isAhead_13 rfl (lv_at hl 0 rfl) ?_
    refine lv_iload_n hx hb dX10_isAhead_14 rfl (lv_at hl 1 rfl) ?_
    refine z_calliV (cells := 0) (slots := 0) (b := mm) (As := [.int aa]) (rest := []) (ci := 10) (q0 := (RX10, TX10, 54)) ⟨hx, hb, hml, hown, hT⟩ (c_X10_timeOf l hm_mm hm_dr hf_mm hf_dr hq_dr (by first | omega | decide | assumption)) (cwV 1 hT (z_goodV (fun _ h => h) kw_1495 kw_1497 kw_52 kw_96 kw_1498) rfl rfl rfl (by decide +kernel) ⟨by decide, by decide⟩) z_mv hKK hK hw hA hm_mm hf_mm rfl rfl rfl hl.1 rfl (Nat.le_of_ble_eq_true rfl) dX10_isAhead_15 ⟨by decide, by decide⟩ (fun r9 u H locs hp hw => ?_)
    obtain ⟨rfl, hp⟩ := hp
    have hw : z_H D vwCl (z_A L sz) s.heap L f H locs := hw
    have ht_r9 := hp
    refine lv_aload_n hx hb dX10_isAhead_18 rfl (lv_at hl 0 rfl) ?_
    refine lv_iload_n hx hb dX10_isAhead_19 rfl (lv_at hl 2 rfl) ?_
    refine z_calliV (cells := 0) (slots := 0) (b := mm) (As := [.int bb]) (rest := [.int r9]) (ci := 10) (q0 := (RX10, TX10, 54)) ⟨hx, hb, hml, hown, hT⟩ (c_X10_timeOf l hm_mm hm_dr hf_mm hf_dr hq_dr (by first | omega | decide | assumption)) (cwV 1 hT (z_goodV (fun _ h => h) kw_1495 kw_1497 kw_52 kw_96 kw_1498) rfl rfl rfl (by decide +kernel) ⟨by decide, by decide⟩) z_mv hKK hK hw hA hm_mm hf_mm rfl rfl rfl hl.1 rfl (Nat.le_of_ble_eq_true rfl) dX10_isAhead_20 ⟨by decide, by decide⟩ (fun r10 u H locs hp hw => ?_)
    obtain ⟨rfl, hp⟩ := hp
    have hw : z_H D vwCl (z_A L sz) s.heap L f H locs := hw
    have ht_r10 := hp
    refine z_icmp_ge (tgt := 30) hx hb rfl rfl dX10_isAhead_23 (by decide) (fun c11 => ?_) (fun c11 => ?_)
    · skip
      refine lv_iconst (v := 0) hx hb dX10_isAhead_30 (by decide) ?_
      refine lv_goto (tgt := 54) hx hb dX10_isAhead_31 (by decide) ?_
      exact z_zret hx hb hr rfl hlk (by decide) (by decide) hw (⟨rfl, Or.inr ⟨rfl, trivial⟩⟩) dX10_isAhead_54
    · skip
      refine lv_iconst (v := 1) hx hb dX10_isAhead_26 (by decide) ?_
      refine lv_goto (tgt := 54) hx hb dX10_isAhead_27 (by decide) ?_
      exact z_zret hx hb hr rfl hlk (by decide) (by decide) hw (⟨rfl, Or.inl ⟨rfl, trivial⟩⟩) dX10_isAhead_54

set_option maxHeartbeats 2000000 in
set_option maxRecDepth 100000 in
theorem c_X10_sorts (l : Launch) {D : va_G} {cy : Nat → ClassId} {L : List Nat} {f : Nat → va_E} {sz : Nat} {adK adV : Nat → Nat} {mm wd my ce mv ta li ha lw st fo dr ik ro ct se th cn be du db pn wg wh tn he tr fd po : Nat} {m0 m6 m7 m8 m9 m10 m12 m13 m14 m15 m22 m24 m25 m27 m28 m30 m36 m38 m40 m41 m42 m48 m52 m53 : Int32} {m11 m26 : Int64} {gha gdr gro : Nat → Int32}  (hm_mm : mm ∈ L) (hm_ha : ha ∈ L) (hm_dr : dr ∈ L) (hm_ro : ro ∈ L) (hf_mm : f mm = .inr (10, [.int m0, .ref wd, .ref my, .ref ce, .ref mv, .ref ta, .int m6, .int m7, .int m8, .int m9, .int m10, .long m11, .int m12, .int m13, .int m14, .int m15, .ref li, .ref ha, .ref lw, .ref st, .ref fo, .ref dr, .int m22, .ref ik, .int m24, .int m25, .long m26, .int m27, .int m28, .ref ro, .int m30, .ref ct, .ref se, .ref th, .ref cn, .ref be, .int m36, .ref du, .int m38, .ref db, .int m40, .int m41, .int m42, .ref pn, .ref wg, .ref wh, .ref tn, .ref he, .int m48, .ref tr, .ref fd, .ref po, .int m52, .int m53])) (hf_ha : f ha = .inl (cy 1, 30, .inl gha)) (hf_dr : f dr = .inl (cy 1, 520, .inl gdr)) (hf_ro : f ro = .inl (cy 1, 13, .inl gro)) (hq_ha : ∀ j : Nat, q_has j (gha j)) (hq_dr : ∀ j : Nat, q_drv j (gdr j)) (hq_ro : ∀ j : Nat, q_12 j (gro j)) (hmn : 0 ≤ m25.toInt ∧ m25.toInt ≤ 13) : Met l yX10_sorts (z_ws yX10_sorts cX10_sorts 3 none) (z_R 4 0 0) (va_Pc [.ref mm] (z_Pre D vwCl (z_KK D cy adK adV) L f sz)) (z_Qv D vwCl (fun u => L = u.1 ∧ (∀ b ∈ L, b ≠ mm → b ≠ ro → u.2 b = f b) ∧ (∃ (n2 : Int32) (nro : Nat → Int32), (u.2 mm = .inr (10, [.int m0, .ref wd, .ref my, .ref ce, .ref mv, .ref ta, .int m6, .int m7, .int m8, .int m9, .int m10, .long m11, .int m12, .int m13, .int m14, .int m15, .ref li, .ref ha, .ref lw, .ref st, .ref fo, .ref dr, .int m22, .ref ik, .int m24, .int m25, .long m26, .int m27, .int m28, .ref ro, .int n2, .ref ct, .ref se, .ref th, .ref cn, .ref be, .int m36, .ref du, .int m38, .ref db, .int m40, .int m41, .int m42, .ref pn, .ref wg, .ref wh, .ref tn, .ref he, .int m48, .ref tr, .ref fd, .ref po, .int m52, .int m53])) ∧ (u.2 ro = .inl (cy 1, 13, .inl nro)) ∧ (∀ j : Nat, q_12 j (nro j)) ∧ ((0 ≤ n2.toInt ∧ n2.toInt ≤ m25.toInt) ∧ ∀ j : Nat, (j : Int) < n2.toInt → z_tr gdr (24 * (gha 1).toInt) (nro j)))) L sz) 0 0 (z_A L sz) := by
  refine z_met (cc := cX10_sorts) (maxL := 3) (ret := none) (lv := [(0, .ref mm)]) (by decide) rfl (Nat.le_of_ble_eq_true rfl) rfl ?_
  intro p e s m below meth c ls hx hb hr hlk hml hown hnm hts hKK hA hw hl
  have hK := hKK.1.1
  have hown : s.vm.findClass RX10 = some m.cls := hown
  have hT : ∀ w ∈ lw_all, w.before ([.ref mm] : List Value).toArray s = true := fun w h => hts w (z_cons w h)
  have hsub : L = L := rfl
  have hfr : ∀ b ∈ L, b ≠ mm → b ≠ ro → f b = f b := fun _ _ _ _ => rfl
  have hz_0 : (0 : Int32).toInt = 0 := by decide
  refine lv_aload_n hx hb dX10_sorts_0 rfl (lv_at hl 0 rfl) ?_
  refine lv_iconst (v := 0) hx hb dX10_sorts_1 (by decide) ?_
  refine z_put (C := RX10) (T := TX10) (N := 54) (ci := 10) (v := .int 0) (fs' := [.int m0, .ref wd, .ref my, .ref ce, .ref mv, .ref ta, .int m6, .int m7, .int m8, .int m9, .int m10, .long m11, .int m12, .int m13, .int m14, .int m15, .ref li, .ref ha, .ref lw, .ref st, .ref fo, .ref dr, .int m22, .ref ik, .int m24, .int m25, .long m26, .int m27, .int m28, .ref ro, .int 0, .ref ct, .ref se, .ref th, .ref cn, .ref be, .int m36, .ref du, .int m38, .ref db, .int m40, .int m41, .int m42, .ref pn, .ref wg, .ref wh, .ref tn, .ref he, .int m48, .ref tr, .ref fd, .ref po, .int m52, .int m53]) hx hb hT zin_X10 tyX10_ok nmX10 hown hK hw hm_mm hf_mm rfl 30 (by decide) (hT _ kw_1198) rfl rfl rfl (Nat.le_of_ble_eq_true rfl) rfl dX10_sorts_2 (fun H locs hw => ?_)
  obtain ⟨f1, e_f1⟩ : ∃ z, z = va_up f mm (.inr (10, [.int m0, .ref wd, .ref my, .ref ce, .ref mv, .ref ta, .int m6, .int m7, .int m8, .int m9, .int m10, .long m11, .int m12, .int m13, .int m14, .int m15, .ref li, .ref ha, .ref lw, .ref st, .ref fo, .ref dr, .int m22, .ref ik, .int m24, .int m25, .long m26, .int m27, .int m28, .ref ro, .int 0, .ref ct, .ref se, .ref th, .ref cn, .ref be, .int m36, .ref du, .int m38, .ref db, .int m40, .int m41, .int m42, .ref pn, .ref wg, .ref wh, .ref tn, .ref he, .int m48, .ref tr, .ref fd, .ref po, .int m52, .int m53])) := ⟨_, rfl⟩
  rw [← e_f1] at hw
  have hf_ha : f1 ha = .inl (cy 1, 30, .inl gha) := (congrFun e_f1 ha).trans (z_up_ne (z_tne hf_ha hf_mm (m := 340) (n := 10) rfl rfl (by decide)) hf_ha)
  have hf_dr : f1 dr = .inl (cy 1, 520, .inl gdr) := (congrFun e_f1 dr).trans (z_up_ne (z_tne hf_dr hf_mm (m := 4260) (n := 10) rfl rfl (by decide)) hf_dr)
  have hf_ro : f1 ro = .inl (cy 1, 13, .inl gro) := (congrFun e_f1 ro).trans (z_up_ne (z_tne hf_ro hf_mm (m := 204) (n := 10) rfl rfl (by decide)) hf_ro)
  have hf_mm : f1 mm = .inr (10, [.int m0, .ref wd, .ref my, .ref ce, .ref mv, .ref ta, .int m6, .int m7, .int m8, .int m9, .int m10, .long m11, .int m12, .int m13, .int m14, .int m15, .ref li, .ref ha, .ref lw, .ref st, .ref fo, .ref dr, .int m22, .ref ik, .int m24, .int m25, .long m26, .int m27, .int m28, .ref ro, .int 0, .ref ct, .ref se, .ref th, .ref cn, .ref be, .int m36, .ref du, .int m38, .ref db, .int m40, .int m41, .int m42, .ref pn, .ref wg, .ref wh, .ref tn, .ref he, .int m48, .ref tr, .ref fd, .ref po, .int m52, .int m53]) := (congrFun e_f1 mm).trans z_up_self
  have hfr : ∀ b ∈ L, b ≠ mm → b ≠ ro → f1 b = f b := fun b hb h0 h1 => (congrFun e_f1 b).trans (z_up_ne h0 (hfr b hb h0 h1))
  refine lv_iconst (v := 0) hx hb dX10_sorts_5 (by decide) ?_
  refine lv_istore_n (lv' := [(1, .int 0), (0, .ref mm)]) hx hb dX10_sorts_6 rfl hl (by decide) rfl (fun ls hl => ?_)
  have hzk : (0 : Int32).toInt = 0 := by decide
  refine z_loop (fun n H locs ls => ∃ (K2 : Int32) (G5 : Nat → Int32) (RM4 : Int32) (f3 : Nat → va_E), (n = (m25.toInt - K2.toInt).toNat) ∧ (0 ≤ K2.toInt) ∧ (K2.toInt ≤ m25.toInt) ∧ (0 ≤ RM4.toInt ∧ RM4.toInt ≤ K2.toInt) ∧ (∀ j : Nat, (j : Int) < RM4.toInt → z_tr gdr (24 * (gha 1).toInt) (G5 j)) ∧ (z_H D vwCl (z_A L sz) s.heap L f3 H locs) ∧ (f3 mm = .inr (10, [.int m0, .ref wd, .ref my, .ref ce, .ref mv, .ref ta, .int m6, .int m7, .int m8, .int m9, .int m10, .long m11, .int m12, .int m13, .int m14, .int m15, .ref li, .ref ha, .ref lw, .ref st, .ref fo, .ref dr, .int m22, .ref ik, .int m24, .int m25, .long m26, .int m27, .int m28, .ref ro, .int RM4, .ref ct, .ref se, .ref th, .ref cn, .ref be, .int m36, .ref du, .int m38, .ref db, .int m40, .int m41, .int m42, .ref pn, .ref wg, .ref wh, .ref tn, .ref he, .int m48, .ref tr, .ref fd, .ref po, .int m52, .int m53])) ∧ (f3 ha = .inl (cy 1, 30, .inl gha)) ∧ (f3 dr = .inl (cy 1, 520, .inl gdr)) ∧ (f3 ro = .inl (cy 1, 13, .inl G5)) ∧ (∀ b ∈ L, b ≠ mm → b ≠ ro → f3 b = f b) ∧ (∀ j : Nat, q_12 j (G5 j)) ∧ (lv_has ls 3 [(1, .int K2), (0, .ref mm)])) _ ⟨0, gro, 0, f1, rfl, (by first | decide | omega), (by first | decide | omega), (by omega), (fun j hj => absurd hj (by omega)), hw, hf_mm, hf_ha, hf_dr, hf_ro, hfr, hq_ro, (lv_sub hl [0, 1] rfl)⟩ (fun n H locs ls hI ih_7 => ?_)
  obtain ⟨K2, G5, RM4, f3, hn, hk0, hk1, hi0, hi1, hw, hf_mm, hf_ha, hf_dr, hf_ro, hfr, hq_ro, hl⟩ := hI
  refine lv_iload_n hx hb dX10_sorts_7 rfl (lv_at hl 0 rfl) ?_
  refine lv_aload_n hx hb dX10_sorts_8 rfl (lv_at hl 1 rfl) ?_
  refine z_get (C := RX10) (T := TX10) (N := 54) (ci := 10) (v := .int m25) hx hb hT zin_X10 hown hK hw hm_mm hf_mm rfl 25 (by decide) (hT _ kw_1193) rfl dX10_sorts_9 ?_
  refine z_icmp_ge (tgt := 106) hx hb rfl rfl dX10_sorts_12 (by decide) (fun c6 => ?_) (fun c6 => ?_)
  · skip
    exact z_vret hx hb hr hlk (by decide) (by decide) hw (⟨hsub, hfr, RM4, G5, hf_mm, hf_ro, hq_ro, by omega, hi1⟩) dX10_sorts_106
  · skip
    refine lv_iload_n hx hb dX10_sorts_15 rfl (lv_at hl 0 rfl) ?_
    refine lv_aload_n hx hb dX10_sorts_16 rfl (lv_at hl 1 rfl) ?_
    refine z_get (C := RX10) (T := TX10) (N := 54) (ci := 10) (v := .int m24) hx hb hT zin_X10 hown hK hw hm_mm hf_mm rfl 24 (by decide) (hT _ kw_1192) rfl dX10_sorts_17 ?_
    refine z_icmp_eq (tgt := 100) hx hb rfl rfl dX10_sorts_20 (by decide) (fun c7 => ?_) (fun c7 => ?_)
    · skip
      obtain ⟨k8, e_k8⟩ : ∃ z : Int32, z = K2 + 1 := ⟨_, rfl⟩
      refine lv_iinc (v := k8) (lv' := [(1, .int k8), (0, .ref mm)]) hx hb dX10_sorts_100 hl (k := 0) rfl (by rw [e_k8]; rfl) (by decide) rfl (fun ls hl => ?_)
      have i_k8 : k8.toInt = (K2.toInt + 1) := z_add e_k8 rfl (by decide) (by omega)
      refine lv_goto (tgt := 7) hx hb dX10_sorts_103 (by decide) ?_
      exact ih_7 _ (by omega) _ _ _ ⟨k8, G5, RM4, f3, rfl, (by first | decide | omega), (by first | decide | omega), (by omega), hi1, hw, hf_mm, hf_ha, hf_dr, hf_ro, hfr, hq_ro, (lv_sub hl [0, 1] rfl)⟩
    · skip
      refine lv_aload_n hx hb dX10_sorts_23 rfl (lv_at hl 1 rfl) ?_
      refine lv_iload_n hx hb dX10_sorts_24 rfl (lv_at hl 0 rfl) ?_
      refine z_calliV (cells := 0) (slots := 0) (b := mm) (As := [.int K2]) (rest := []) (ci := 10) (q0 := (RX10, TX10, 54)) ⟨hx, hb, hml, hown, hT⟩ (c_X10_timeOf l hm_mm hm_dr hf_mm hf_dr hq_dr (by first | omega | decide | assumption)) (cwV 1 hT (z_goodV (fun _ h => h) kw_1495 kw_1497 kw_52 kw_96 kw_1498) rfl rfl rfl (by decide +kernel) ⟨by decide, by decide⟩) z_mv hKK hK hw hA hm_mm hf_mm rfl rfl rfl hl.1 rfl (Nat.le_of_ble_eq_true rfl) dX10_sorts_25 ⟨by decide, by decide⟩ (fun r9 u H locs hp hw => ?_)
      obtain ⟨rfl, hp⟩ := hp
      have hw : z_H D vwCl (z_A L sz) s.heap L f3 H locs := hw
      have ht25 := hp
      refine lv_aload_n hx hb dX10_sorts_28 rfl (lv_at hl 1 rfl) ?_
      refine z_calliV (cells := 0) (slots := 0) (b := mm) (As := []) (rest := [.int r9]) (ci := 10) (q0 := (RX10, TX10, 54)) ⟨hx, hb, hml, hown, hT⟩ (c_X10_end_ l hm_mm hm_ha hf_mm hf_ha hq_ha) (cwV 0 hT (z_goodV (fun _ h => h) kw_1499 kw_1501 kw_53 kw_96 kw_1502) rfl rfl rfl (by decide +kernel) ⟨by decide, by decide⟩) z_mv hKK hK hw hA hm_mm hf_mm rfl rfl rfl hl.1 rfl (Nat.le_of_ble_eq_true rfl) dX10_sorts_29 ⟨by decide, by decide⟩ (fun r10 u H locs hp hw => ?_)
      obtain ⟨rfl, hp⟩ := hp
      have hw : z_H D vwCl (z_A L sz) s.heap L f3 H locs := hw
      have he29 := hp
      refine z_icmp_lt (tgt := 38) hx hb rfl rfl dX10_sorts_32 (by decide) (fun c11 => ?_) (fun c11 => ?_)
      · skip
        refine lv_aload_n hx hb dX10_sorts_38 rfl (lv_at hl 1 rfl) ?_
        refine z_get (C := RX10) (T := TX10) (N := 54) (ci := 10) (v := .int RM4) hx hb hT zin_X10 hown hK hw hm_mm hf_mm rfl 30 (by decide) (hT _ kw_1198) rfl dX10_sorts_39 ?_
        refine lv_istore_n (lv' := [(2, .int RM4), (1, .int K2), (0, .ref mm)]) hx hb dX10_sorts_42 rfl hl (by decide) rfl (fun ls hl => ?_)
        refine z_loop (fun n H locs ls => ∃ (K12 : Int32) (G14 : Nat → Int32) (f13 : Nat → va_E), (n = (K12.toInt).toNat) ∧ (0 ≤ K12.toInt) ∧ (K12.toInt ≤ RM4.toInt) ∧ (∀ j : Nat, (j : Int) < RM4.toInt + 1 → (j : Int) ≠ K12.toInt → z_tr gdr (24 * (gha 1).toInt) (G14 j)) ∧ (z_H D vwCl (z_A L sz) s.heap L f13 H locs) ∧ (f13 mm = .inr (10, [.int m0, .ref wd, .ref my, .ref ce, .ref mv, .ref ta, .int m6, .int m7, .int m8, .int m9, .int m10, .long m11, .int m12, .int m13, .int m14, .int m15, .ref li, .ref ha, .ref lw, .ref st, .ref fo, .ref dr, .int m22, .ref ik, .int m24, .int m25, .long m26, .int m27, .int m28, .ref ro, .int RM4, .ref ct, .ref se, .ref th, .ref cn, .ref be, .int m36, .ref du, .int m38, .ref db, .int m40, .int m41, .int m42, .ref pn, .ref wg, .ref wh, .ref tn, .ref he, .int m48, .ref tr, .ref fd, .ref po, .int m52, .int m53])) ∧ (f13 ha = .inl (cy 1, 30, .inl gha)) ∧ (f13 dr = .inl (cy 1, 520, .inl gdr)) ∧ (f13 ro = .inl (cy 1, 13, .inl G14)) ∧ (∀ b ∈ L, b ≠ mm → b ≠ ro → f13 b = f b) ∧ (∀ j : Nat, q_12 j (G14 j)) ∧ (lv_has ls 3 [(2, .int K12), (1, .int K2), (0, .ref mm)])) _ ⟨RM4, G5, f3, rfl, (by first | decide | omega), (by first | decide | omega), (fun j h1 h2 => hi1 j (by omega)), hw, hf_mm, hf_ha, hf_dr, hf_ro, hfr, hq_ro, (lv_sub hl [0, 1, 2] rfl)⟩ (fun n H locs ls hI ih_43 => ?_)
        obtain ⟨K12, G14, f13, hn, hk0, hk1, hi0, hw, hf_mm, hf_ha, hf_dr, hf_ro, hfr, hq_ro, hl⟩ := hI
        refine lv_iload_n hx hb dX10_sorts_43 rfl (lv_at hl 0 rfl) ?_
        refine z_if_le (tgt := 83) hx hb rfl dX10_sorts_44 (by decide) (fun c15 => ?_) (fun c15 => ?_)
        · skip
          refine lv_aload_n hx hb dX10_sorts_83 rfl (lv_at hl 2 rfl) ?_
          refine z_get (C := RX10) (T := TX10) (N := 54) (ci := 10) (v := .ref ro) hx hb hT zin_X10 hown hK hw hm_mm hf_mm rfl 29 (by decide) (hT _ kw_1197) rfl dX10_sorts_84 ?_
          refine lv_iload_n hx hb dX10_sorts_87 rfl (lv_at hl 0 rfl) ?_
          refine lv_iload_n hx hb dX10_sorts_88 rfl (lv_at hl 1 rfl) ?_
          have hT_ : z_tr gdr (24 * (gha 1).toInt) K2 := by unfold z_tr; omega
          refine z_iast hx hb hK hw 1 hm_ro hf_ro rfl (z_ix rfl (by omega)) dX10_sorts_89 (fun H locs hw => ?_)
          obtain ⟨f17, e_f17⟩ : ∃ z, z = va_up f13 ro (.inl (cy 1, 13, .inl (upd G14 K12.toNatClampNeg K2))) := ⟨_, rfl⟩
          rw [← e_f17] at hw
          have hf_mm : f17 mm = .inr (10, [.int m0, .ref wd, .ref my, .ref ce, .ref mv, .ref ta, .int m6, .int m7, .int m8, .int m9, .int m10, .long m11, .int m12, .int m13, .int m14, .int m15, .ref li, .ref ha, .ref lw, .ref st, .ref fo, .ref dr, .int m22, .ref ik, .int m24, .int m25, .long m26, .int m27, .int m28, .ref ro, .int RM4, .ref ct, .ref se, .ref th, .ref cn, .ref be, .int m36, .ref du, .int m38, .ref db, .int m40, .int m41, .int m42, .ref pn, .ref wg, .ref wh, .ref tn, .ref he, .int m48, .ref tr, .ref fd, .ref po, .int m52, .int m53]) := (congrFun e_f17 mm).trans (z_up_ne (z_tne hf_mm hf_ro (m := 10) (n := 204) rfl rfl (by decide)) hf_mm)
          have hf_ha : f17 ha = .inl (cy 1, 30, .inl gha) := (congrFun e_f17 ha).trans (z_up_ne (z_tne hf_ha hf_ro (m := 340) (n := 204) rfl rfl (by decide)) hf_ha)
          have hf_dr : f17 dr = .inl (cy 1, 520, .inl gdr) := (congrFun e_f17 dr).trans (z_up_ne (z_tne hf_dr hf_ro (m := 4260) (n := 204) rfl rfl (by decide)) hf_dr)
          have hf_ro : f17 ro = .inl (cy 1, 13, .inl (upd G14 K12.toNatClampNeg K2)) := (congrFun e_f17 ro).trans z_up_self
          have hfr : ∀ b ∈ L, b ≠ mm → b ≠ ro → f17 b = f b := fun b hb h0 h1 => (congrFun e_f17 b).trans (z_up_ne h1 (hfr b hb h0 h1))
          obtain ⟨g16, e_g16⟩ : ∃ z, z = (upd G14 K12.toNatClampNeg K2) := ⟨_, rfl⟩
          rw [← e_g16] at hf_ro
          have hq_ro : ∀ j : Nat, q_12 j (g16 j) := z_updQ hq_ro e_g16 (show 0 ≤ (K2 : Int32).toInt ∧ (K2 : Int32).toInt ≤ 12 by first | decide | omega)
          refine lv_aload_n hx hb dX10_sorts_90 rfl (lv_at hl 2 rfl) ?_
          refine lv_dup hx hb dX10_sorts_91 rfl ?_
          refine z_get (C := RX10) (T := TX10) (N := 54) (ci := 10) (v := .int RM4) hx hb hT zin_X10 hown hK hw hm_mm hf_mm rfl 30 (by decide) (hT _ kw_1198) rfl dX10_sorts_92 ?_
          refine lv_iconst (v := 1) hx hb dX10_sorts_95 (by decide) ?_
          refine lv_iadd hx hb dX10_sorts_96 ?_
          refine lv_topi (fun w18 e_w18 => ?_)
          have i_w18 : w18.toInt = (RM4.toInt + 1) := z_add e_w18 rfl (show (1 : Int32).toInt = 1 by decide) (by omega)
          refine z_put (C := RX10) (T := TX10) (N := 54) (ci := 10) (v := .int w18) (fs' := [.int m0, .ref wd, .ref my, .ref ce, .ref mv, .ref ta, .int m6, .int m7, .int m8, .int m9, .int m10, .long m11, .int m12, .int m13, .int m14, .int m15, .ref li, .ref ha, .ref lw, .ref st, .ref fo, .ref dr, .int m22, .ref ik, .int m24, .int m25, .long m26, .int m27, .int m28, .ref ro, .int w18, .ref ct, .ref se, .ref th, .ref cn, .ref be, .int m36, .ref du, .int m38, .ref db, .int m40, .int m41, .int m42, .ref pn, .ref wg, .ref wh, .ref tn, .ref he, .int m48, .ref tr, .ref fd, .ref po, .int m52, .int m53]) hx hb hT zin_X10 tyX10_ok nmX10 hown hK hw hm_mm hf_mm rfl 30 (by decide) (hT _ kw_1198) rfl rfl rfl (Nat.le_of_ble_eq_true rfl) rfl dX10_sorts_97 (fun H locs hw => ?_)
          obtain ⟨f19, e_f19⟩ : ∃ z, z = va_up f17 mm (.inr (10, [.int m0, .ref wd, .ref my, .ref ce, .ref mv, .ref ta, .int m6, .int m7, .int m8, .int m9, .int m10, .long m11, .int m12, .int m13, .int m14, .int m15, .ref li, .ref ha, .ref lw, .ref st, .ref fo, .ref dr, .int m22, .ref ik, .int m24, .int m25, .long m26, .int m27, .int m28, .ref ro, .int w18, .ref ct, .ref se, .ref th, .ref cn, .ref be, .int m36, .ref du, .int m38, .ref db, .int m40, .int m41, .int m42, .ref pn, .ref wg, .ref wh, .ref tn, .ref he, .int m48, .ref tr, .ref fd, .ref po, .int m52, .int m53])) := ⟨_, rfl⟩
          rw [← e_f19] at hw
          have hf_ha : f19 ha = .inl (cy 1, 30, .inl gha) := (congrFun e_f19 ha).trans (z_up_ne (z_tne hf_ha hf_mm (m := 340) (n := 10) rfl rfl (by decide)) hf_ha)
          have hf_dr : f19 dr = .inl (cy 1, 520, .inl gdr) := (congrFun e_f19 dr).trans (z_up_ne (z_tne hf_dr hf_mm (m := 4260) (n := 10) rfl rfl (by decide)) hf_dr)
          have hf_ro : f19 ro = .inl (cy 1, 13, .inl g16) := (congrFun e_f19 ro).trans (z_up_ne (z_tne hf_ro hf_mm (m := 204) (n := 10) rfl rfl (by decide)) hf_ro)
          have hf_mm : f19 mm = .inr (10, [.int m0, .ref wd, .ref my, .ref ce, .ref mv, .ref ta, .int m6, .int m7, .int m8, .int m9, .int m10, .long m11, .int m12, .int m13, .int m14, .int m15, .ref li, .ref ha, .ref lw, .ref st, .ref fo, .ref dr, .int m22, .ref ik, .int m24, .int m25, .long m26, .int m27, .int m28, .ref ro, .int w18, .ref ct, .ref se, .ref th, .ref cn, .ref be, .int m36, .ref du, .int m38, .ref db, .int m40, .int m41, .int m42, .ref pn, .ref wg, .ref wh, .ref tn, .ref he, .int m48, .ref tr, .ref fd, .ref po, .int m52, .int m53]) := (congrFun e_f19 mm).trans z_up_self
          have hfr : ∀ b ∈ L, b ≠ mm → b ≠ ro → f19 b = f b := fun b hb h0 h1 => (congrFun e_f19 b).trans (z_up_ne h0 (hfr b hb h0 h1))
          have hrop := z_holeE hi0 (by omega) e_g16 hT_ (show w18.toInt = _ by omega)
          obtain ⟨k20, e_k20⟩ : ∃ z : Int32, z = K2 + 1 := ⟨_, rfl⟩
          refine lv_iinc (v := k20) (lv' := [(1, .int k20), (2, .int K12), (0, .ref mm)]) hx hb dX10_sorts_100 hl (k := 1) rfl (by rw [e_k20]; rfl) (by decide) rfl (fun ls hl => ?_)
          have i_k20 : k20.toInt = (K2.toInt + 1) := z_add e_k20 rfl (by decide) (by omega)
          refine lv_goto (tgt := 7) hx hb dX10_sorts_103 (by decide) ?_
          exact ih_7 _ (by omega) _ _ _ ⟨k20, g16, w18, f19, rfl, (by first | decide | omega), (by first | decide | omega), (by omega), hrop, hw, hf_mm, hf_ha, hf_dr, hf_ro, hfr, hq_ro, (lv_sub hl [0, 2] rfl)⟩
        · skip
          refine lv_aload_n hx hb dX10_sorts_47 rfl (lv_at hl 2 rfl) ?_
          refine lv_iload_n hx hb dX10_sorts_48 rfl (lv_at hl 1 rfl) ?_
          refine lv_aload_n hx hb dX10_sorts_49 rfl (lv_at hl 2 rfl) ?_
          refine z_get (C := RX10) (T := TX10) (N := 54) (ci := 10) (v := .ref ro) hx hb hT zin_X10 hown hK hw hm_mm hf_mm rfl 29 (by decide) (hT _ kw_1197) rfl dX10_sorts_50 ?_
          refine lv_iload_n hx hb dX10_sorts_53 rfl (lv_at hl 0 rfl) ?_
          refine lv_iconst (v := 1) hx hb dX10_sorts_54 (by decide) ?_
          refine lv_isub hx hb dX10_sorts_55 ?_
          refine lv_topi (fun w21 e_w21 => ?_)
          have i_w21 : w21.toInt = (K12.toInt - 1) := z_subI e_w21 rfl (show (1 : Int32).toInt = 1 by decide) (by omega)
          refine z_iald hx hb hK hw 1 hm_ro hf_ro rfl (z_ix i_w21 (by omega)) dX10_sorts_56 ?_
          refine lv_topi (fun w22 e_w22 => ?_)
          have hv_w22 : 0 ≤ w22.toInt ∧ w22.toInt ≤ 12 := by rw [e_w22]; exact hq_ro _
          refine z_calliV (cells := 0) (slots := 0) (b := mm) (As := [.int K2, .int w22]) (rest := []) (ci := 10) (q0 := (RX10, TX10, 54)) ⟨hx, hb, hml, hown, hT⟩ (c_X10_isAhead l hm_mm hm_dr hf_mm hf_dr hq_dr (by first | omega | decide | assumption) (by first | omega | decide | assumption)) (cwV 2 hT (z_goodV (fun _ h => h) kw_1551 kw_1553 kw_61 kw_96 kw_1554) rfl rfl rfl (by decide +kernel) ⟨by decide, by decide⟩) z_mv hKK hK hw hA hm_mm hf_mm rfl rfl rfl hl.1 rfl (Nat.le_of_ble_eq_true rfl) dX10_sorts_57 ⟨by decide, by decide⟩ (fun r23 u H locs hp hw => ?_)
          obtain ⟨rfl, hp⟩ := hp
          have hw : z_H D vwCl (z_A L sz) s.heap L f13 H locs := hw
          rcases hp with ⟨rfl, h24⟩ | ⟨rfl, h24⟩
          · skip
            refine z_if_eq (tgt := 83) hx hb (show (1 : Int32).toInt = 1 by decide) dX10_sorts_60 (by decide) (fun h => absurd h (by decide)) (fun _ => ?_)
            refine lv_aload_n hx hb dX10_sorts_63 rfl (lv_at hl 2 rfl) ?_
            refine z_get (C := RX10) (T := TX10) (N := 54) (ci := 10) (v := .ref ro) hx hb hT zin_X10 hown hK hw hm_mm hf_mm rfl 29 (by decide) (hT _ kw_1197) rfl dX10_sorts_64 ?_
            refine lv_iload_n hx hb dX10_sorts_67 rfl (lv_at hl 0 rfl) ?_
            refine lv_aload_n hx hb dX10_sorts_68 rfl (lv_at hl 2 rfl) ?_
            refine z_get (C := RX10) (T := TX10) (N := 54) (ci := 10) (v := .ref ro) hx hb hT zin_X10 hown hK hw hm_mm hf_mm rfl 29 (by decide) (hT _ kw_1197) rfl dX10_sorts_69 ?_
            refine lv_iload_n hx hb dX10_sorts_72 rfl (lv_at hl 0 rfl) ?_
            refine lv_iconst (v := 1) hx hb dX10_sorts_73 (by decide) ?_
            refine lv_isub hx hb dX10_sorts_74 ?_
            refine lv_topi (fun w25 e_w25 => ?_)
            have i_w25 : w25.toInt = (K12.toInt - 1) := z_subI e_w25 rfl (show (1 : Int32).toInt = 1 by decide) (by omega)
            refine z_iald hx hb hK hw 1 hm_ro hf_ro rfl (z_ix i_w25 (by omega)) dX10_sorts_75 ?_
            refine lv_topi (fun w26 e_w26 => ?_)
            have hv_w26 : 0 ≤ w26.toInt ∧ w26.toInt ≤ 12 := by rw [e_w26]; exact hq_ro _
            refine z_iast hx hb hK hw 1 hm_ro hf_ro rfl (z_ix rfl (by omega)) dX10_sorts_76 (fun H locs hw => ?_)
            obtain ⟨f28, e_f28⟩ : ∃ z, z = va_up f13 ro (.inl (cy 1, 13, .inl (upd G14 K12.toNatClampNeg w26))) := ⟨_, rfl⟩
            rw [← e_f28] at hw
            have hf_mm : f28 mm = .inr (10, [.int m0, .ref wd, .ref my, .ref ce, .ref mv, .ref ta, .int m6, .int m7, .int m8, .int m9, .int m10, .long m11, .int m12, .int m13, .int m14, .int m15, .ref li, .ref ha, .ref lw, .ref st, .ref fo, .ref dr, .int m22, .ref ik, .int m24, .int m25, .long m26, .int m27, .int m28, .ref ro, .int RM4, .ref ct, .ref se, .ref th, .ref cn, .ref be, .int m36, .ref du, .int m38, .ref db, .int m40, .int m41, .int m42, .ref pn, .ref wg, .ref wh, .ref tn, .ref he, .int m48, .ref tr, .ref fd, .ref po, .int m52, .int m53]) := (congrFun e_f28 mm).trans (z_up_ne (z_tne hf_mm hf_ro (m := 10) (n := 204) rfl rfl (by decide)) hf_mm)
            have hf_ha : f28 ha = .inl (cy 1, 30, .inl gha) := (congrFun e_f28 ha).trans (z_up_ne (z_tne hf_ha hf_ro (m := 340) (n := 204) rfl rfl (by decide)) hf_ha)
            have hf_dr : f28 dr = .inl (cy 1, 520, .inl gdr) := (congrFun e_f28 dr).trans (z_up_ne (z_tne hf_dr hf_ro (m := 4260) (n := 204) rfl rfl (by decide)) hf_dr)
            have hf_ro : f28 ro = .inl (cy 1, 13, .inl (upd G14 K12.toNatClampNeg w26)) := (congrFun e_f28 ro).trans z_up_self
            have hfr : ∀ b ∈ L, b ≠ mm → b ≠ ro → f28 b = f b := fun b hb h0 h1 => (congrFun e_f28 b).trans (z_up_ne h1 (hfr b hb h0 h1))
            obtain ⟨g27, e_g27⟩ : ∃ z, z = (upd G14 K12.toNatClampNeg w26) := ⟨_, rfl⟩
            rw [← e_g27] at hf_ro
            have hq_ro : ∀ j : Nat, q_12 j (g27 j) := z_updQ hq_ro e_g27 (show 0 ≤ (w26 : Int32).toInt ∧ (w26 : Int32).toInt ≤ 12 by first | decide | omega)
            obtain ⟨k29, e_k29⟩ : ∃ z : Int32, z = K12 + (-1) := ⟨_, rfl⟩
            refine lv_iinc (v := k29) (lv' := [(2, .int k29), (1, .int K2), (0, .ref mm)]) hx hb dX10_sorts_77 hl (k := 0) rfl (by rw [e_k29]; rfl) (by decide) rfl (fun ls hl => ?_)
            have i_k29 : k29.toInt = (K12.toInt + (-1)) := z_add e_k29 rfl (by decide) (by omega)
            refine lv_goto (tgt := 43) hx hb dX10_sorts_80 (by decide) ?_
            exact ih_43 _ (by omega) _ _ _ ⟨k29, g27, f28, rfl, (by first | decide | omega), (by first | decide | omega), (z_hole hi0 (by omega) i_k29 i_w25 e_g27 e_w26), hw, hf_mm, hf_ha, hf_dr, hf_ro, hfr, hq_ro, (lv_sub hl [0, 1, 2] rfl)⟩
          · skip
            refine z_if_eq (tgt := 83) hx hb (show (0 : Int32).toInt = 0 by decide) dX10_sorts_60 (by decide) (fun _ => ?_) (fun h => absurd h (by decide))
            refine lv_aload_n hx hb dX10_sorts_83 rfl (lv_at hl 2 rfl) ?_
            refine z_get (C := RX10) (T := TX10) (N := 54) (ci := 10) (v := .ref ro) hx hb hT zin_X10 hown hK hw hm_mm hf_mm rfl 29 (by decide) (hT _ kw_1197) rfl dX10_sorts_84 ?_
            refine lv_iload_n hx hb dX10_sorts_87 rfl (lv_at hl 0 rfl) ?_
            refine lv_iload_n hx hb dX10_sorts_88 rfl (lv_at hl 1 rfl) ?_
            have hT_ : z_tr gdr (24 * (gha 1).toInt) K2 := by unfold z_tr; omega
            refine z_iast hx hb hK hw 1 hm_ro hf_ro rfl (z_ix rfl (by omega)) dX10_sorts_89 (fun H locs hw => ?_)
            obtain ⟨f31, e_f31⟩ : ∃ z, z = va_up f13 ro (.inl (cy 1, 13, .inl (upd G14 K12.toNatClampNeg K2))) := ⟨_, rfl⟩
            rw [← e_f31] at hw
            have hf_mm : f31 mm = .inr (10, [.int m0, .ref wd, .ref my, .ref ce, .ref mv, .ref ta, .int m6, .int m7, .int m8, .int m9, .int m10, .long m11, .int m12, .int m13, .int m14, .int m15, .ref li, .ref ha, .ref lw, .ref st, .ref fo, .ref dr, .int m22, .ref ik, .int m24, .int m25, .long m26, .int m27, .int m28, .ref ro, .int RM4, .ref ct, .ref se, .ref th, .ref cn, .ref be, .int m36, .ref du, .int m38, .ref db, .int m40, .int m41, .int m42, .ref pn, .ref wg, .ref wh, .ref tn, .ref he, .int m48, .ref tr, .ref fd, .ref po, .int m52, .int m53]) := (congrFun e_f31 mm).trans (z_up_ne (z_tne hf_mm hf_ro (m := 10) (n := 204) rfl rfl (by decide)) hf_mm)
            have hf_ha : f31 ha = .inl (cy 1, 30, .inl gha) := (congrFun e_f31 ha).trans (z_up_ne (z_tne hf_ha hf_ro (m := 340) (n := 204) rfl rfl (by decide)) hf_ha)
            have hf_dr : f31 dr = .inl (cy 1, 520, .inl gdr) := (congrFun e_f31 dr).trans (z_up_ne (z_tne hf_dr hf_ro (m := 4260) (n := 204) rfl rfl (by decide)) hf_dr)
            have hf_ro : f31 ro = .inl (cy 1, 13, .inl (upd G14 K12.toNatClampNeg K2)) := (congrFun e_f31 ro).trans z_up_self
            have hfr : ∀ b ∈ L, b ≠ mm → b ≠ ro → f31 b = f b := fun b hb h0 h1 => (congrFun e_f31 b).trans (z_up_ne h1 (hfr b hb h0 h1))
            obtain ⟨g30, e_g30⟩ : ∃ z, z = (upd G14 K12.toNatClampNeg K2) := ⟨_, rfl⟩
            rw [← e_g30] at hf_ro
            have hq_ro : ∀ j : Nat, q_12 j (g30 j) := z_updQ hq_ro e_g30 (show 0 ≤ (K2 : Int32).toInt ∧ (K2 : Int32).toInt ≤ 12 by first | decide | omega)
            refine lv_aload_n hx hb dX10_sorts_90 rfl (lv_at hl 2 rfl) ?_
            refine lv_dup hx hb dX10_sorts_91 rfl ?_
            refine z_get (C := RX10) (T := TX10) (N := 54) (ci := 10) (v := .int RM4) hx hb hT zin_X10 hown hK hw hm_mm hf_mm rfl 30 (by decide) (hT _ kw_1198) rfl dX10_sorts_92 ?_
            refine lv_iconst (v := 1) hx hb dX10_sorts_95 (by decide) ?_
            refine lv_iadd hx hb dX10_sorts_96 ?_
            refine lv_topi (fun w32 e_w32 => ?_)
            have i_w32 : w32.toInt = (RM4.toInt + 1) := z_add e_w32 rfl (show (1 : Int32).toInt = 1 by decide) (by omega)
            refine z_put (C := RX10) (T := TX10) (N := 54) (ci := 10) (v := .int w32) (fs' := [.int m0, .ref wd, .ref my, .ref ce, .ref mv, .ref ta, .int m6, .int m7, .int m8, .int m9, .int m10, .long m11, .int m12, .int m13, .int m14, .int m15, .ref li, .ref ha, .ref lw, .ref st, .ref fo, .ref dr, .int m22, .ref ik, .int m24, .int m25, .long m26, .int m27, .int m28, .ref ro, .int w32, .ref ct, .ref se, .ref th, .ref cn, .ref be, .int m36, .ref du, .int m38, .ref db, .int m40, .int m41, .int m42, .ref pn, .ref wg, .ref wh, .ref tn, .ref he, .int m48, .ref tr, .ref fd, .ref po, .int m52, .int m53]) hx hb hT zin_X10 tyX10_ok nmX10 hown hK hw hm_mm hf_mm rfl 30 (by decide) (hT _ kw_1198) rfl rfl rfl (Nat.le_of_ble_eq_true rfl) rfl dX10_sorts_97 (fun H locs hw => ?_)
            obtain ⟨f33, e_f33⟩ : ∃ z, z = va_up f31 mm (.inr (10, [.int m0, .ref wd, .ref my, .ref ce, .ref mv, .ref ta, .int m6, .int m7, .int m8, .int m9, .int m10, .long m11, .int m12, .int m13, .int m14, .int m15, .ref li, .ref ha, .ref lw, .ref st, .ref fo, .ref dr, .int m22, .ref ik, .int m24, .int m25, .long m26, .int m27, .int m28, .ref ro, .int w32, .ref ct, .ref se, .ref th, .ref cn, .ref be, .int m36, .ref du, .int m38, .ref db, .int m40, .int m41, .int m42, .ref pn, .ref wg, .ref wh, .ref tn, .ref he, .int m48, .ref tr, .ref fd, .ref po, .int m52, .int m53])) := ⟨_, rfl⟩
            rw [← e_f33] at hw
            have hf_ha : f33 ha = .inl (cy 1, 30, .inl gha) := (congrFun e_f33 ha).trans (z_up_ne (z_tne hf_ha hf_mm (m := 340) (n := 10) rfl rfl (by decide)) hf_ha)
            have hf_dr : f33 dr = .inl (cy 1, 520, .inl gdr) := (congrFun e_f33 dr).trans (z_up_ne (z_tne hf_dr hf_mm (m := 4260) (n := 10) rfl rfl (by decide)) hf_dr)
            have hf_ro : f33 ro = .inl (cy 1, 13, .inl g30) := (congrFun e_f33 ro).trans (z_up_ne (z_tne hf_ro hf_mm (m := 204) (n := 10) rfl rfl (by decide)) hf_ro)
            have hf_mm : f33 mm = .inr (10, [.int m0, .ref wd, .ref my, .ref ce, .ref mv, .ref ta, .int m6, .int m7, .int m8, .int m9, .int m10, .long m11, .int m12, .int m13, .int m14, .int m15, .ref li, .ref ha, .ref lw, .ref st, .ref fo, .ref dr, .int m22, .ref ik, .int m24, .int m25, .long m26, .int m27, .int m28, .ref ro, .int w32, .ref ct, .ref se, .ref th, .ref cn, .ref be, .int m36, .ref du, .int m38, .ref db, .int m40, .int m41, .int m42, .ref pn, .ref wg, .ref wh, .ref tn, .ref he, .int m48, .ref tr, .ref fd, .ref po, .int m52, .int m53]) := (congrFun e_f33 mm).trans z_up_self
            have hfr : ∀ b ∈ L, b ≠ mm → b ≠ ro → f33 b = f b := fun b hb h0 h1 => (congrFun e_f33 b).trans (z_up_ne h0 (hfr b hb h0 h1))
            have hrop := z_holeE hi0 (by omega) e_g30 hT_ (show w32.toInt = _ by omega)
            obtain ⟨k34, e_k34⟩ : ∃ z : Int32, z = K2 + 1 := ⟨_, rfl⟩
            refine lv_iinc (v := k34) (lv' := [(1, .int k34), (2, .int K12), (0, .ref mm)]) hx hb dX10_sorts_100 hl (k := 1) rfl (by rw [e_k34]; rfl) (by decide) rfl (fun ls hl => ?_)
            have i_k34 : k34.toInt = (K2.toInt + 1) := z_add e_k34 rfl (by decide) (by omega)
            refine lv_goto (tgt := 7) hx hb dX10_sorts_103 (by decide) ?_
            exact ih_7 _ (by omega) _ _ _ ⟨k34, g30, w32, f33, rfl, (by first | decide | omega), (by first | decide | omega), (by omega), hrop, hw, hf_mm, hf_ha, hf_dr, hf_ro, hfr, hq_ro, (lv_sub hl [0, 2] rfl)⟩
      · skip
        refine lv_goto (tgt := 100) hx hb dX10_sorts_35 (by decide) ?_
        obtain ⟨k35, e_k35⟩ : ∃ z : Int32, z = K2 + 1 := ⟨_, rfl⟩
        refine lv_iinc (v := k35) (lv' := [(1, .int k35), (0, .ref mm)]) hx hb dX10_sorts_100 hl (k := 0) rfl (by rw [e_k35]; rfl) (by decide) rfl (fun ls hl => ?_)
        have i_k35 : k35.toInt = (K2.toInt + 1) := z_add e_k35 rfl (by decide) (by omega)
        refine lv_goto (tgt := 7) hx hb dX10_sorts_103 (by decide) ?_
        exact ih_7 _ (by omega) _ _ _ ⟨k35, G5, RM4, f3, rfl, (by first | decide | omega), (by first | decide | omega), (by omega), hi1, hw, hf_mm, hf_ha, hf_dr, hf_ro, hfr, hq_ro, (lv_sub hl [0, 1] rfl)⟩
