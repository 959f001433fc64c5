set_option maxHeartbeats 4000000 in
set_option maxRecDepth 100000 in
theorem c_X10_isGoodB (l : Launch) {D : va_G} {cy : Nat → ClassId} {L : List Nat} {f : Nat → va_E} {sz : Nat} {me mw mn mc mv mt ml mh mj ms mg md mk z29 z31 z32 z33 z34 z35 z37 z39 z43 z44 z45 z46 z47 z49 z50 z51 : Nat} {t13 : Int32} (hm_me : me ∈ L) (hf_me : f me = .inr (10, [.int 0, .ref mw, .ref mn, .ref mc, .ref mv, .ref mt, .int 0, .int 0, .int 0, .int 0, .int 0, .long 0, .int 0, .int t13, .int 0, .int (-1), .ref ml, .ref mh, .ref mj, .ref ms, .ref mg, .ref md, .int 0, .ref mk, .int (-1), .int 0, .long 0, .int 0, .int 0, .ref z29, .int 0, .ref z31, .ref z32, .ref z33, .ref z34, .ref z35, .int 0, .ref z37, .int 0, .ref z39, .int 0, .int 0, .int 0, .ref z43, .ref z44, .ref z45, .ref z46, .ref z47, .int 0, .ref z49, .ref z50, .ref z51, .int 0, .int 0])) : Met l yX10_isGood (z_ws yX10_isGood cX10_isGood 1 (some .boolean)) (z_R 1 0 0) (va_Pc [.ref me] (z_Pre D vwCl (z_K D cy) L f sz)) (z_Qi D vwCl (fun r u => u = (L, f) ∧ (r = 1)) L sz) 0 0 (z_A L sz) := by
  refine z_met (cc := cX10_isGood) (maxL := 1) (ret := (some .boolean)) (lv := [(0, .ref me)]) (by decide) rfl (Nat.le_of_ble_eq_true rfl) rfl ?_
  intro p e s m below meth c ls hx hb hr hlk hml hown hnm hts hKK hA hw hl
  have hK := hKK.1
  have hown : s.vm.findClass RX10 = some m.cls := hown
  have hT : ∀ w ∈ lw_all, w.before ([.ref me] : List Value).toArray s = true := fun w h => hts w (z_cons w h)
  refine lv_aload_n hx hb dX10_isGood_0 rfl (lv_at hl 0 rfl) ?_
  refine z_get (C := RX10) (T := TX10) (N := 54) (ci := 10) (v := .int 0) hx hb hT zin_X10 hown hK hw hm_me hf_me rfl 12 (by decide) (hT _ kw_1180) rfl dX10_isGood_1 ?_
  refine z_if_ne (tgt := 11) hx hb (show (0 : Int32).toInt = 0 by decide) dX10_isGood_4 (by decide) (fun h => absurd h (by decide)) (fun _ => ?_)
  refine lv_iconst (v := 1) hx hb dX10_isGood_7 (by decide) ?_
  refine lv_goto (tgt := 12) hx hb dX10_isGood_8 (by decide) ?_
  exact z_zret hx hb hr rfl hlk (by decide) (by decide) hw (⟨rfl, rfl⟩) dX10_isGood_12

set_option maxHeartbeats 4000000 in
set_option maxRecDepth 100000 in
theorem c_X10_moor (l : Launch) {D : va_G} {cy : Nat → ClassId} {L : List Nat} {f : Nat → va_E} {sz : Nat} {me mw mn mc mv mt ml mh mj ms mg md mk z29 z31 z32 z33 z34 z35 z37 z39 z43 z44 z45 z46 z47 z49 z50 z51 : Nat}  (hm_me : me ∈ L) (hm_ml : ml ∈ L) (hm_mh : mh ∈ L) (hm_mj : mj ∈ L) (hm_ms : ms ∈ L) (hm_mg : mg ∈ L) (hm_md : md ∈ L) (hf_me : f me = .inr (10, [.int 0, .ref mw, .ref mn, .ref mc, .ref mv, .ref mt, .int 0, .int 0, .int 0, .int 0, .int 0, .long 0, .int 0, .int 0, .int 0, .int (-1), .ref ml, .ref mh, .ref mj, .ref ms, .ref mg, .ref md, .int 0, .ref mk, .int (-1), .int 0, .long 0, .int 0, .int 0, .ref z29, .int 0, .ref z31, .ref z32, .ref z33, .ref z34, .ref z35, .int 0, .ref z37, .int 0, .ref z39, .int 0, .int 0, .int 0, .ref z43, .ref z44, .ref z45, .ref z46, .ref z47, .int 0, .ref z49, .ref z50, .ref z51, .int 0, .int 0])) (hf_ml : f ml = .inl (cy 1, 5, .inl (fun _ => 0))) (hf_mh : f mh = .inl (cy 1, 30, .inl (fun _ => 0))) (hf_mj : f mj = .inl (cy 1, 25, .inl (fun _ => 0))) (hf_ms : f ms = .inl (cy 1, 20, .inl (fun _ => 0))) (hf_mg : f mg = .inl (cy 1, 180, .inl (fun _ => 0))) (hf_md : f md = .inl (cy 1, 520, .inl (fun _ => 0))) : Met l yX10_moor (z_ws yX10_moor cX10_moor 1 (some .int)) (z_R 6 0 0) (va_Pc [.ref me] (z_Pre D vwCl (z_K D cy) L f sz)) (z_Qi D vwCl (fun r u => (∀ b ∈ L, b ∈ u.1) ∧ (∀ b ∈ L, b ≠ me → b ≠ ml → b ≠ mh → b ≠ mj → b ≠ ms → b ≠ mg → b ≠ md → u.2 b = f b) ∧ ((r.toInt = 0))) L sz) 0 0 (z_A L sz) := by
  refine z_met (cc := cX10_moor) (maxL := 1) (ret := (some .int)) (lv := [(0, .ref me)]) (by decide) rfl (Nat.le_of_ble_eq_true rfl) rfl ?_
  intro p e s m below meth c ls hx hb hr hlk hml hown hnm hts hKK hA hw hl
  have hK := hKK.1
  have hown : s.vm.findClass RX10 = some m.cls := hown
  have hT : ∀ w ∈ lw_all, w.before ([.ref me] : List Value).toArray s = true := fun w h => hts w (z_cons w h)
  have hsub : ∀ b ∈ L, b ∈ L := fun _ h => h
  have hfr : ∀ b ∈ L, b ≠ me → b ≠ ml → b ≠ mh → b ≠ mj → b ≠ ms → b ≠ mg → b ≠ md → f b = f b := fun _ _ _ _ _ _ _ _ _ => rfl
  refine lv_aload_n hx hb dX10_moor_0 rfl (lv_at hl 0 rfl) ?_
  refine lv_iconst (v := 0) hx hb dX10_moor_1 (by decide) ?_
  refine z_put (C := RX10) (T := TX10) (N := 54) (ci := 10) (v := .int 0) (fs' := [.int 0, .ref mw, .ref mn, .ref mc, .ref mv, .ref mt, .int 0, .int 0, .int 0, .int 0, .int 0, .long 0, .int 0, .int 0, .int 0, .int (-1), .ref ml, .ref mh, .ref mj, .ref ms, .ref mg, .ref md, .int 0, .ref mk, .int (-1), .int 0, .long 0, .int 0, .int 0, .ref z29, .int 0, .ref z31, .ref z32, .ref z33, .ref z34, .ref z35, .int 0, .ref z37, .int 0, .ref z39, .int 0, .int 0, .int 0, .ref z43, .ref z44, .ref z45, .ref z46, .ref z47, .int 0, .ref z49, .ref z50, .ref z51, .int 0, .int 0]) hx hb hT zin_X10 tyX10_ok nmX10 hown hK hw hm_me hf_me rfl 0 (by decide) (hT _ kw_1168) rfl rfl rfl (Nat.le_of_ble_eq_true rfl) rfl dX10_moor_2 (fun H locs hw => ?_)
  obtain ⟨f1, e_f1⟩ : ∃ z, z = va_up f me (.inr (10, [.int 0, .ref mw, .ref mn, .ref mc, .ref mv, .ref mt, .int 0, .int 0, .int 0, .int 0, .int 0, .long 0, .int 0, .int 0, .int 0, .int (-1), .ref ml, .ref mh, .ref mj, .ref ms, .ref mg, .ref md, .int 0, .ref mk, .int (-1), .int 0, .long 0, .int 0, .int 0, .ref z29, .int 0, .ref z31, .ref z32, .ref z33, .ref z34, .ref z35, .int 0, .ref z37, .int 0, .ref z39, .int 0, .int 0, .int 0, .ref z43, .ref z44, .ref z45, .ref z46, .ref z47, .int 0, .ref z49, .ref z50, .ref z51, .int 0, .int 0])) := ⟨_, rfl⟩
  rw [← e_f1] at hw
  have hf_ml : f1 ml = .inl (cy 1, 5, .inl (fun _ => 0)) := (congrFun e_f1 ml).trans (z_up_ne (z_tne hf_ml hf_me (m := 140) (n := 10) rfl rfl (by decide)) hf_ml)
  have hf_mh : f1 mh = .inl (cy 1, 30, .inl (fun _ => 0)) := (congrFun e_f1 mh).trans (z_up_ne (z_tne hf_mh hf_me (m := 340) (n := 10) rfl rfl (by decide)) hf_mh)
  have hf_mj : f1 mj = .inl (cy 1, 25, .inl (fun _ => 0)) := (congrFun e_f1 mj).trans (z_up_ne (z_tne hf_mj hf_me (m := 300) (n := 10) rfl rfl (by decide)) hf_mj)
  have hf_ms : f1 ms = .inl (cy 1, 20, .inl (fun _ => 0)) := (congrFun e_f1 ms).trans (z_up_ne (z_tne hf_ms hf_me (m := 260) (n := 10) rfl rfl (by decide)) hf_ms)
  have hf_mg : f1 mg = .inl (cy 1, 180, .inl (fun _ => 0)) := (congrFun e_f1 mg).trans (z_up_ne (z_tne hf_mg hf_me (m := 1540) (n := 10) rfl rfl (by decide)) hf_mg)
  have hf_md : f1 md = .inl (cy 1, 520, .inl (fun _ => 0)) := (congrFun e_f1 md).trans (z_up_ne (z_tne hf_md hf_me (m := 4260) (n := 10) rfl rfl (by decide)) hf_md)
  have hf_me : f1 me = .inr (10, [.int 0, .ref mw, .ref mn, .ref mc, .ref mv, .ref mt, .int 0, .int 0, .int 0, .int 0, .int 0, .long 0, .int 0, .int 0, .int 0, .int (-1), .ref ml, .ref mh, .ref mj, .ref ms, .ref mg, .ref md, .int 0, .ref mk, .int (-1), .int 0, .long 0, .int 0, .int 0, .ref z29, .int 0, .ref z31, .ref z32, .ref z33, .ref z34, .ref z35, .int 0, .ref z37, .int 0, .ref z39, .int 0, .int 0, .int 0, .ref z43, .ref z44, .ref z45, .ref z46, .ref z47, .int 0, .ref z49, .ref z50, .ref z51, .int 0, .int 0]) := (congrFun e_f1 me).trans z_up_self
  have hfr : ∀ b ∈ L, b ≠ me → b ≠ ml → b ≠ mh → b ≠ mj → b ≠ ms → b ≠ mg → b ≠ md → f1 b = f b := fun b hb h0 h1 h2 h3 h4 h5 h6 => (congrFun e_f1 b).trans (z_up_ne h0 (hfr b hb h0 h1 h2 h3 h4 h5 h6))
  refine lv_aload_n hx hb dX10_moor_5 rfl (lv_at hl 0 rfl) ?_
  refine z_callvV (cells := 0) (slots := 0) (b := me) (As := []) (rest := []) (ci := 10) (q0 := (RX10, TX10, 54)) ⟨hx, hb, hml, hown, hT⟩ (c_X10_clears l hm_me hm_ml hm_mh hm_mj hm_ms hm_mg hf_me hf_ml hf_mh hf_mj hf_ms hf_mg) (cwV 0 hT (z_goodV (fun _ h => h) kw_1373 kw_1375 kw_32 kw_96 kw_1376) rfl rfl rfl (by decide +kernel) ⟨by decide, by decide⟩) z_mv hKK hK hw hA hm_me hf_me rfl rfl rfl hl.1 rfl (Nat.le_of_ble_eq_true rfl) dX10_moor_6 ⟨by decide, by decide⟩ (fun u H locs hp hw => ?_)
  obtain ⟨L2, f3⟩ := u
  obtain ⟨hsb, hfm, k1_4, k2_5, k3_6, k4_7, k5_8, ha_0, ha_1, ha_2, ha_3, ha_4, ha_5, hp⟩ := hp
  have hw : z_H D vwCl (z_A L sz) s.heap L2 f3 H locs := hw
  have hfr : ∀ b ∈ L, b ≠ me → b ≠ ml → b ≠ mh → b ≠ mj → b ≠ ms → b ≠ mg → b ≠ md → f3 b = f b := fun b hb h0 h1 h2 h3 h4 h5 h6 => (hfm b (hsub b hb) h0 h1 h2 h3 h4 h5).trans (hfr b hb h0 h1 h2 h3 h4 h5 h6)
  have hsub : ∀ b ∈ L, b ∈ L2 := fun b h => hsb b (hsub b h)
  have hf_md : f3 md = .inl (cy 1, 520, .inl (fun _ => 0)) := (hfm md hm_md (z_tne hf_md hf_me (m := 4260) (n := 10) rfl rfl (by decide)) (z_tne hf_md hf_ml (m := 4260) (n := 140) rfl rfl (by decide)) (z_tne hf_md hf_mh (m := 4260) (n := 340) rfl rfl (by decide)) (z_tne hf_md hf_mj (m := 4260) (n := 300) rfl rfl (by decide)) (z_tne hf_md hf_ms (m := 4260) (n := 260) rfl rfl (by decide)) (z_tne hf_md hf_mg (m := 4260) (n := 1540) rfl rfl (by decide))).trans hf_md
  have hm_me : me ∈ L2 := hsb _ hm_me
  have hm_ml : ml ∈ L2 := hsb _ hm_ml
  have hm_mh : mh ∈ L2 := hsb _ hm_mh
  have hm_mj : mj ∈ L2 := hsb _ hm_mj
  have hm_ms : ms ∈ L2 := hsb _ hm_ms
  have hm_mg : mg ∈ L2 := hsb _ hm_mg
  have hm_md : md ∈ L2 := hsb _ hm_md
  have hf_me : f3 me = .inr (10, [.int 0, .ref mw, .ref mn, .ref mc, .ref mv, .ref mt, .int 0, .int 0, .int 0, .int 0, .int 0, .long 0, .int 0, .int 0, .int 0, .int (-1), .ref ml, .ref mh, .ref mj, .ref ms, .ref mg, .ref md, .int 0, .ref mk, .int (-1), .int 0, .long 0, .int 0, .int 0, .ref z29, .int 0, .ref z31, .ref z32, .ref z33, .ref z34, .ref z35, .int 0, .ref z37, .int 0, .ref z39, .int 0, .int 0, .int 0, .ref z43, .ref z44, .ref z45, .ref z46, .ref z47, .int 0, .ref z49, .ref z50, .ref z51, .int 0, .int 0]) := ha_0
  have hf_ml : f3 ml = .inl (cy 1, 5, .inl k1_4) := ha_1
  have hf_mh : f3 mh = .inl (cy 1, 30, .inl k2_5) := ha_2
  have hf_mj : f3 mj = .inl (cy 1, 25, .inl k3_6) := ha_3
  have hf_ms : f3 ms = .inl (cy 1, 20, .inl k4_7) := ha_4
  have hf_mg : f3 mg = .inl (cy 1, 180, .inl k5_8) := ha_5
  have hk1 := hp
  refine lv_aload_n hx hb dX10_moor_9 rfl (lv_at hl 0 rfl) ?_
  refine z_callvV (cells := 0) (slots := 0) (b := me) (As := []) (rest := []) (ci := 10) (q0 := (RX10, TX10, 54)) ⟨hx, hb, hml, hown, hT⟩ (c_X10_begins l hm_me hf_me) (cwV 0 hT (z_goodV (fun _ h => h) kw_1377 kw_1379 kw_33 kw_96 kw_1380) rfl rfl rfl (by decide +kernel) ⟨by decide, by decide⟩) z_mv hKK hK hw hA hm_me hf_me rfl rfl rfl hl.1 rfl (Nat.le_of_ble_eq_true rfl) dX10_moor_10 ⟨by decide, by decide⟩ (fun u H locs hp hw => ?_)
  obtain ⟨L9, f10⟩ := u
  obtain ⟨hsb, hfm, ha_0, hp⟩ := hp
  have hw : z_H D vwCl (z_A L sz) s.heap L9 f10 H locs := hw
  have hfr : ∀ b ∈ L, b ≠ me → b ≠ ml → b ≠ mh → b ≠ mj → b ≠ ms → b ≠ mg → b ≠ md → f10 b = f b := fun b hb h0 h1 h2 h3 h4 h5 h6 => (hfm b (hsub b hb) h0).trans (hfr b hb h0 h1 h2 h3 h4 h5 h6)
  have hsub : ∀ b ∈ L, b ∈ L9 := fun b h => hsb b (hsub b h)
  have hf_ml : f10 ml = .inl (cy 1, 5, .inl k1_4) := (hfm ml hm_ml (z_tne hf_ml hf_me (m := 140) (n := 10) rfl rfl (by decide))).trans hf_ml
  have hf_mh : f10 mh = .inl (cy 1, 30, .inl k2_5) := (hfm mh hm_mh (z_tne hf_mh hf_me (m := 340) (n := 10) rfl rfl (by decide))).trans hf_mh
  have hf_mj : f10 mj = .inl (cy 1, 25, .inl k3_6) := (hfm mj hm_mj (z_tne hf_mj hf_me (m := 300) (n := 10) rfl rfl (by decide))).trans hf_mj
  have hf_ms : f10 ms = .inl (cy 1, 20, .inl k4_7) := (hfm ms hm_ms (z_tne hf_ms hf_me (m := 260) (n := 10) rfl rfl (by decide))).trans hf_ms
  have hf_mg : f10 mg = .inl (cy 1, 180, .inl k5_8) := (hfm mg hm_mg (z_tne hf_mg hf_me (m := 1540) (n := 10) rfl rfl (by decide))).trans hf_mg
  have hf_md : f10 md = .inl (cy 1, 520, .inl (fun _ => 0)) := (hfm md hm_md (z_tne hf_md hf_me (m := 4260) (n := 10) rfl rfl (by decide))).trans hf_md
  have hm_me : me ∈ L9 := hsb _ hm_me
  have hm_ml : ml ∈ L9 := hsb _ hm_ml
  have hm_mh : mh ∈ L9 := hsb _ hm_mh
  have hm_mj : mj ∈ L9 := hsb _ hm_mj
  have hm_ms : ms ∈ L9 := hsb _ hm_ms
  have hm_mg : mg ∈ L9 := hsb _ hm_mg
  have hm_md : md ∈ L9 := hsb _ hm_md
  have hf_me : f10 me = .inr (10, [.int 0, .ref mw, .ref mn, .ref mc, .ref mv, .ref mt, .int 0, .int 0, .int 0, .int 0, .int 0, .long 0, .int 0, .int (-1), .int 0, .int (-1), .ref ml, .ref mh, .ref mj, .ref ms, .ref mg, .ref md, .int 0, .ref mk, .int (-1), .int 0, .long 0, .int 0, .int 0, .ref z29, .int 0, .ref z31, .ref z32, .ref z33, .ref z34, .ref z35, .int 0, .ref z37, .int 0, .ref z39, .int 0, .int 0, .int 0, .ref z43, .ref z44, .ref z45, .ref z46, .ref z47, .int 0, .ref z49, .ref z50, .ref z51, .int 0, .int 0]) := ha_0
  refine lv_aload_n hx hb dX10_moor_13 rfl (lv_at hl 0 rfl) ?_
  refine z_calliV (cells := 0) (slots := 0) (b := me) (As := []) (rest := []) (ci := 10) (q0 := (RX10, TX10, 54)) ⟨hx, hb, hml, hown, hT⟩ (c_X10_isGoodB l hm_me hf_me) (cwV 0 hT (z_goodV (fun _ h => h) kw_1394 kw_1396 kw_36 kw_96 kw_1397) rfl rfl rfl (by decide +kernel) ⟨by decide, by decide⟩) z_mv hKK hK hw hA hm_me hf_me rfl rfl rfl hl.1 rfl (Nat.le_of_ble_eq_true rfl) dX10_moor_14 ⟨by decide, by decide⟩ (fun r11 u H locs hp hw => ?_)
  obtain ⟨rfl, hp⟩ := hp
  have hw : z_H D vwCl (z_A L sz) s.heap L9 f10 H locs := hw
  obtain rfl := hp
  refine z_if_eq (tgt := 142) hx hb (show (1 : Int32).toInt = 1 by decide) dX10_moor_17 (by decide) (fun h => absurd h (by decide)) (fun _ => ?_)
  refine lv_aload_n hx hb dX10_moor_20 rfl (lv_at hl 0 rfl) ?_
  refine z_get (C := RX10) (T := TX10) (N := 54) (ci := 10) (v := .int 0) hx hb hT zin_X10 hown hK hw hm_me hf_me rfl 8 (by decide) (hT _ kw_1176) rfl dX10_moor_21 ?_
  refine z_if_eq (tgt := 142) hx hb (show (0 : Int32).toInt = 0 by decide) dX10_moor_24 (by decide) (fun _ => ?_) (fun h => absurd h (by decide))
  refine lv_aload_n hx hb dX10_moor_142 rfl (lv_at hl 0 rfl) ?_
  refine z_callvV (cells := 0) (slots := 0) (b := me) (As := []) (rest := []) (ci := 10) (q0 := (RX10, TX10, 54)) ⟨hx, hb, hml, hown, hT⟩ (c_X10_isOver l hm_me hf_me) (cwV 0 hT (z_goodV (fun _ h => h) kw_1467 kw_1469 kw_48 kw_96 kw_1470) rfl rfl rfl (by decide +kernel) ⟨by decide, by decide⟩) z_mv hKK hK hw hA hm_me hf_me rfl rfl rfl hl.1 rfl (Nat.le_of_ble_eq_true rfl) dX10_moor_143 ⟨by decide, by decide⟩ (fun u H locs hp hw => ?_)
  obtain ⟨L12, f13⟩ := u
  obtain ⟨hsb, hfm, ha_0, hp⟩ := hp
  have hw : z_H D vwCl (z_A L sz) s.heap L12 f13 H locs := hw
  have hfr : ∀ b ∈ L, b ≠ me → b ≠ ml → b ≠ mh → b ≠ mj → b ≠ ms → b ≠ mg → b ≠ md → f13 b = f b := fun b hb h0 h1 h2 h3 h4 h5 h6 => (hfm b (hsub b hb) h0).trans (hfr b hb h0 h1 h2 h3 h4 h5 h6)
  have hsub : ∀ b ∈ L, b ∈ L12 := fun b h => hsb b (hsub b h)
  have hf_ml : f13 ml = .inl (cy 1, 5, .inl k1_4) := (hfm ml hm_ml (z_tne hf_ml hf_me (m := 140) (n := 10) rfl rfl (by decide))).trans hf_ml
  have hf_mh : f13 mh = .inl (cy 1, 30, .inl k2_5) := (hfm mh hm_mh (z_tne hf_mh hf_me (m := 340) (n := 10) rfl rfl (by decide))).trans hf_mh
  have hf_mj : f13 mj = .inl (cy 1, 25, .inl k3_6) := (hfm mj hm_mj (z_tne hf_mj hf_me (m := 300) (n := 10) rfl rfl (by decide))).trans hf_mj
  have hf_ms : f13 ms = .inl (cy 1, 20, .inl k4_7) := (hfm ms hm_ms (z_tne hf_ms hf_me (m := 260) (n := 10) rfl rfl (by decide))).trans hf_ms
  have hf_mg : f13 mg = .inl (cy 1, 180, .inl k5_8) := (hfm mg hm_mg (z_tne hf_mg hf_me (m := 1540) (n := 10) rfl rfl (by decide))).trans hf_mg
  have hf_md : f13 md = .inl (cy 1, 520, .inl (fun _ => 0)) := (hfm md hm_md (z_tne hf_md hf_me (m := 4260) (n := 10) rfl rfl (by decide))).trans hf_md
  have hm_me : me ∈ L12 := hsb _ hm_me
  have hm_ml : ml ∈ L12 := hsb _ hm_ml
  have hm_mh : mh ∈ L12 := hsb _ hm_mh
  have hm_mj : mj ∈ L12 := hsb _ hm_mj
  have hm_ms : ms ∈ L12 := hsb _ hm_ms
  have hm_mg : mg ∈ L12 := hsb _ hm_mg
  have hm_md : md ∈ L12 := hsb _ hm_md
  have hf_me : f13 me = .inr (10, [.int 0, .ref mw, .ref mn, .ref mc, .ref mv, .ref mt, .int 0, .int 0, .int 0, .int 0, .int 0, .long 0, .int 0, .int (-1), .int 0, .int (-1), .ref ml, .ref mh, .ref mj, .ref ms, .ref mg, .ref md, .int 0, .ref mk, .int (-1), .int 0, .long 0, .int 0, .int 0, .ref z29, .int 0, .ref z31, .ref z32, .ref z33, .ref z34, .ref z35, .int 0, .ref z37, .int 0, .ref z39, .int 0, .int 0, .int 0, .ref z43, .ref z44, .ref z45, .ref z46, .ref z47, .int 0, .ref z49, .ref z50, .ref z51, .int 0, .int 0]) := ha_0
  refine lv_aload_n hx hb dX10_moor_146 rfl (lv_at hl 0 rfl) ?_
  refine z_get (C := RX10) (T := TX10) (N := 54) (ci := 10) (v := .int 0) hx hb hT zin_X10 hown hK hw hm_me hf_me rfl 12 (by decide) (hT _ kw_1180) rfl dX10_moor_147 ?_
  refine z_if_eq (tgt := 156) hx hb (show (0 : Int32).toInt = 0 by decide) dX10_moor_150 (by decide) (fun _ => ?_) (fun h => absurd h (by decide))
  refine lv_aload_n hx hb dX10_moor_156 rfl (lv_at hl 0 rfl) ?_
  refine lv_iconst (v := 4) hx hb dX10_moor_157 (by decide) ?_
  refine lv_iconst (v := 0) hx hb dX10_moor_158 (by decide) ?_
  have hz14 := (show (4 : Int32).toInt = 4 by decide)
  have hz15 := (show (0 : Int32).toInt = 0 by decide)
  refine z_callvV (cells := 0) (slots := 0) (b := me) (As := [.int 4, .int 0]) (rest := []) (ci := 10) (q0 := (RX10, TX10, 54)) ⟨hx, hb, hml, hown, hT⟩ (c_X10_copyMoor l hm_me hm_ml hm_mh hm_mj hm_ms hm_mg hm_md hf_me hf_ml hf_mh hf_mj hf_ms hf_mg hf_md (by first | omega | decide | assumption) (by first | omega | decide | assumption)) (cwV 2 hT (z_goodV (fun _ h => h) kw_1471 kw_1473 kw_49 kw_96 kw_1474) rfl rfl rfl (by decide +kernel) ⟨by decide, by decide⟩) z_mv hKK hK hw hA hm_me hf_me rfl rfl rfl hl.1 rfl (Nat.le_of_ble_eq_true rfl) dX10_moor_159 ⟨by decide, by decide⟩ (fun u H locs hp hw => ?_)
  obtain ⟨L16, f17⟩ := u
  obtain ⟨hsb, hfm, k1_18, k2_19, k3_20, k4_21, k5_22, k6_23, ha_0, ha_1, ha_2, ha_3, ha_4, ha_5, hp⟩ := hp
  have hw : z_H D vwCl (z_A L sz) s.heap L16 f17 H locs := hw
  have hfr : ∀ b ∈ L, b ≠ me → b ≠ ml → b ≠ mh → b ≠ mj → b ≠ ms → b ≠ mg → b ≠ md → f17 b = f b := fun b hb h0 h1 h2 h3 h4 h5 h6 => (hfm b (hsub b hb) h1 h2 h3 h4 h5 h6).trans (hfr b hb h0 h1 h2 h3 h4 h5 h6)
  have hsub : ∀ b ∈ L, b ∈ L16 := fun b h => hsb b (hsub b h)
  have hf_me : f17 me = .inr (10, [.int 0, .ref mw, .ref mn, .ref mc, .ref mv, .ref mt, .int 0, .int 0, .int 0, .int 0, .int 0, .long 0, .int 0, .int (-1), .int 0, .int (-1), .ref ml, .ref mh, .ref mj, .ref ms, .ref mg, .ref md, .int 0, .ref mk, .int (-1), .int 0, .long 0, .int 0, .int 0, .ref z29, .int 0, .ref z31, .ref z32, .ref z33, .ref z34, .ref z35, .int 0, .ref z37, .int 0, .ref z39, .int 0, .int 0, .int 0, .ref z43, .ref z44, .ref z45, .ref z46, .ref z47, .int 0, .ref z49, .ref z50, .ref z51, .int 0, .int 0]) := (hfm me hm_me (z_tne hf_me hf_ml (m := 10) (n := 140) rfl rfl (by decide)) (z_tne hf_me hf_mh (m := 10) (n := 340) rfl rfl (by decide)) (z_tne hf_me hf_mj (m := 10) (n := 300) rfl rfl (by decide)) (z_tne hf_me hf_ms (m := 10) (n := 260) rfl rfl (by decide)) (z_tne hf_me hf_mg (m := 10) (n := 1540) rfl rfl (by decide)) (z_tne hf_me hf_md (m := 10) (n := 4260) rfl rfl (by decide))).trans hf_me
  have hm_me : me ∈ L16 := hsb _ hm_me
  have hm_ml : ml ∈ L16 := hsb _ hm_ml
  have hm_mh : mh ∈ L16 := hsb _ hm_mh
  have hm_mj : mj ∈ L16 := hsb _ hm_mj
  have hm_ms : ms ∈ L16 := hsb _ hm_ms
  have hm_mg : mg ∈ L16 := hsb _ hm_mg
  have hm_md : md ∈ L16 := hsb _ hm_md
  have hf_ml : f17 ml = .inl (cy 1, 5, .inl k1_18) := ha_0
  have hf_mh : f17 mh = .inl (cy 1, 30, .inl k2_19) := ha_1
  have hf_mj : f17 mj = .inl (cy 1, 25, .inl k3_20) := ha_2
  have hf_ms : f17 ms = .inl (cy 1, 20, .inl k4_21) := ha_3
  have hf_mg : f17 mg = .inl (cy 1, 180, .inl k5_22) := ha_4
  have hf_md : f17 md = .inl (cy 1, 520, .inl k6_23) := ha_5
  have hk2 := hp hk1
  refine lv_aload_n hx hb dX10_moor_162 rfl (lv_at hl 0 rfl) ?_
  refine z_get (C := RX10) (T := TX10) (N := 54) (ci := 10) (v := .ref ml) hx hb hT zin_X10 hown hK hw hm_me hf_me rfl 16 (by decide) (hT _ kw_1184) rfl dX10_moor_163 ?_
  refine lv_iconst (v := 0) hx hb dX10_moor_166 (by decide) ?_
  refine z_iald hx hb hK hw 1 hm_ml hf_ml rfl (z_ix (show (0 : Int32).toInt = 0 by decide) (by decide)) dX10_moor_167 ?_
  refine z_lit (y := 0) (hk2 _) ?_
  refine z_if_ne (tgt := 178) hx hb (show (0 : Int32).toInt = 0 by decide) dX10_moor_168 (by decide) (fun h => absurd h (by decide)) (fun _ => ?_)
  refine lv_aload_n hx hb dX10_moor_171 rfl (lv_at hl 0 rfl) ?_
  refine z_get (C := RX10) (T := TX10) (N := 54) (ci := 10) (v := .ref mh) hx hb hT zin_X10 hown hK hw hm_me hf_me rfl 17 (by decide) (hT _ kw_1185) rfl dX10_moor_172 ?_
  refine lv_iconst (v := 2) hx hb dX10_moor_175 (by decide) ?_
  refine lv_iconst (v := 0) hx hb dX10_moor_176 (by decide) ?_
  refine z_iast hx hb hK hw 1 hm_mh hf_mh rfl (z_ix (show (2 : Int32).toInt = 2 by decide) (by decide)) dX10_moor_177 (fun H locs hw => ?_)
  obtain ⟨f25, e_f25⟩ : ∃ z, z = va_up f17 mh (.inl (cy 1, 30, .inl (upd k2_19 (2 : Int32).toNatClampNeg 0))) := ⟨_, rfl⟩
  rw [← e_f25] at hw
  have hf_me : f25 me = .inr (10, [.int 0, .ref mw, .ref mn, .ref mc, .ref mv, .ref mt, .int 0, .int 0, .int 0, .int 0, .int 0, .long 0, .int 0, .int (-1), .int 0, .int (-1), .ref ml, .ref mh, .ref mj, .ref ms, .ref mg, .ref md, .int 0, .ref mk, .int (-1), .int 0, .long 0, .int 0, .int 0, .ref z29, .int 0, .ref z31, .ref z32, .ref z33, .ref z34, .ref z35, .int 0, .ref z37, .int 0, .ref z39, .int 0, .int 0, .int 0, .ref z43, .ref z44, .ref z45, .ref z46, .ref z47, .int 0, .ref z49, .ref z50, .ref z51, .int 0, .int 0]) := (congrFun e_f25 me).trans (z_up_ne (z_tne hf_me hf_mh (m := 10) (n := 340) rfl rfl (by decide)) hf_me)
  have hf_ml : f25 ml = .inl (cy 1, 5, .inl k1_18) := (congrFun e_f25 ml).trans (z_up_ne (z_tne hf_ml hf_mh (m := 140) (n := 340) rfl rfl (by decide)) hf_ml)
  have hf_mj : f25 mj = .inl (cy 1, 25, .inl k3_20) := (congrFun e_f25 mj).trans (z_up_ne (z_tne hf_mj hf_mh (m := 300) (n := 340) rfl rfl (by decide)) hf_mj)
  have hf_ms : f25 ms = .inl (cy 1, 20, .inl k4_21) := (congrFun e_f25 ms).trans (z_up_ne (z_tne hf_ms hf_mh (m := 260) (n := 340) rfl rfl (by decide)) hf_ms)
  have hf_mg : f25 mg = .inl (cy 1, 180, .inl k5_22) := (congrFun e_f25 mg).trans (z_up_ne (z_tne hf_mg hf_mh (m := 1540) (n := 340) rfl rfl (by decide)) hf_mg)
  have hf_md : f25 md = .inl (cy 1, 520, .inl k6_23) := (congrFun e_f25 md).trans (z_up_ne (z_tne hf_md hf_mh (m := 4260) (n := 340) rfl rfl (by decide)) hf_md)
  have hf_mh : f25 mh = .inl (cy 1, 30, .inl (upd k2_19 (2 : Int32).toNatClampNeg 0)) := (congrFun e_f25 mh).trans z_up_self
  have hfr : ∀ b ∈ L, b ≠ me → b ≠ ml → b ≠ mh → b ≠ mj → b ≠ ms → b ≠ mg → b ≠ md → f25 b = f b := fun b hb h0 h1 h2 h3 h4 h5 h6 => (congrFun e_f25 b).trans (z_up_ne h2 (hfr b hb h0 h1 h2 h3 h4 h5 h6))
  obtain ⟨g24, e_g24⟩ : ∃ z, z = (upd k2_19 (2 : Int32).toNatClampNeg 0) := ⟨_, rfl⟩
  rw [← e_g24] at hf_mh
  refine lv_aload_n hx hb dX10_moor_178 rfl (lv_at hl 0 rfl) ?_
  refine z_get (C := RX10) (T := TX10) (N := 54) (ci := 10) (v := .ref ml) hx hb hT zin_X10 hown hK hw hm_me hf_me rfl 16 (by decide) (hT _ kw_1184) rfl dX10_moor_179 ?_
  refine lv_iconst (v := 0) hx hb dX10_moor_182 (by decide) ?_
  refine z_iald hx hb hK hw 1 hm_ml hf_ml rfl (z_ix (show (0 : Int32).toInt = 0 by decide) (by decide)) dX10_moor_183 ?_
  refine z_lit (y := 0) (hk2 _) ?_
  exact z_iret hx hb hr hlk (by decide) (by decide) hw (⟨hsub, hfr, by decide⟩) dX10_moor_184

set_option maxHeartbeats 4000000 in
set_option maxRecDepth 100000 in
theorem c_X10_keep (l : Launch) {D : va_G} {cy : Nat → ClassId} {L : List Nat} {f : Nat → va_E} {sz : Nat} {me mw mn mc mv mt ml mh mj ms mg md mk z29 z31 z32 z33 z34 z35 z37 z39 z43 z44 z45 z46 z47 z49 z50 z51 : Nat}  {xa : Int32} (hm_me : me ∈ L) (hm_ml : ml ∈ L) (hm_mh : mh ∈ L) (hm_mj : mj ∈ L) (hm_ms : ms ∈ L) (hm_mg : mg ∈ L) (hm_md : md ∈ L) (hm_mk : mk ∈ L) (hf_me : f me = .inr (10, [.int 0, .ref mw, .ref mn, .ref mc, .ref mv, .ref mt, .int 0, .int 0, .int 0, .int 0, .int 0, .long 0, .int 0, .int 0, .int 0, .int (-1), .ref ml, .ref mh, .ref mj, .ref ms, .ref mg, .ref md, .int 0, .ref mk, .int (-1), .int 0, .long 0, .int 0, .int 0, .ref z29, .int 0, .ref z31, .ref z32, .ref z33, .ref z34, .ref z35, .int 0, .ref z37, .int 0, .ref z39, .int 0, .int 0, .int 0, .ref z43, .ref z44, .ref z45, .ref z46, .ref z47, .int 0, .ref z49, .ref z50, .ref z51, .int 0, .int 0])) (hf_ml : f ml = .inl (cy 1, 5, .inl (fun _ => 0))) (hf_mh : f mh = .inl (cy 1, 30, .inl (fun _ => 0))) (hf_mj : f mj = .inl (cy 1, 25, .inl (fun _ => 0))) (hf_ms : f ms = .inl (cy 1, 20, .inl (fun _ => 0))) (hf_mg : f mg = .inl (cy 1, 180, .inl (fun _ => 0))) (hf_md : f md = .inl (cy 1, 520, .inl (fun _ => 0))) (hf_mk : f mk = .inl (cy 3, 3, .inl (fun _ => 0))) : Met l yX10_keep (z_ws yX10_keep cX10_keep 2 (some .int)) (z_R 6 0 0) (va_Pc [.ref me, .int xa] (z_Pre D vwCl (z_K D cy) L f sz)) (z_Qi D vwCl (fun r u => (∀ b ∈ L, b ∈ u.1) ∧ (∀ b ∈ L, b ≠ me → b ≠ ml → b ≠ mh → b ≠ mj → b ≠ ms → b ≠ mg → b ≠ md → b ≠ mk → u.2 b = f b) ∧ (((r.toInt = 0 ∧ (0 ≤ xa.toInt ∧ xa.toInt < 3)) ∨ (r.toInt = -2 ∧ ¬ (0 ≤ xa.toInt ∧ xa.toInt < 3))))) L sz) 0 0 (z_A L sz) := by
  refine z_met (cc := cX10_keep) (maxL := 2) (ret := (some .int)) (lv := [(0, .ref me), (1, .int xa)]) (by decide) rfl (Nat.le_of_ble_eq_true rfl) rfl ?_
  intro p e s m below meth c ls hx hb hr hlk hml hown hnm hts hKK hA hw hl
  have hK := hKK.1
  have hown : s.vm.findClass RX10 = some m.cls := hown
  have hT : ∀ w ∈ lw_all, w.before ([.ref me, .int xa] : List Value).toArray s = true := fun w h => hts w (z_cons w h)
  have hsub : ∀ b ∈ L, b ∈ L := fun _ h => h
  have hfr : ∀ b ∈ L, b ≠ me → b ≠ ml → b ≠ mh → b ≠ mj → b ≠ ms → b ≠ mg → b ≠ md → b ≠ mk → f b = f b := fun _ _ _ _ _ _ _ _ _ _ => rfl
  refine lv_aload_n hx hb dX10_keep_0 rfl (lv_at hl 0 rfl) ?_
  refine lv_iconst (v := 0) hx hb dX10_keep_1 (by decide) ?_
  refine z_put (C := RX10) (T := TX10) (N := 54) (ci := 10) (v := .int 0) (fs' := [.int 0, .ref mw, .ref mn, .ref mc, .ref mv, .ref mt, .int 0, .int 0, .int 0, .int 0, .int 0, .long 0, .int 0, .int 0, .int 0, .int (-1), .ref ml, .ref mh, .ref mj, .ref ms, .ref mg, .ref md, .int 0, .ref mk, .int (-1), .int 0, .long 0, .int 0, .int 0, .ref z29, .int 0, .ref z31, .ref z32, .ref z33, .ref z34, .ref z35, .int 0, .ref z37, .int 0, .ref z39, .int 0, .int 0, .int 0, .ref z43, .ref z44, .ref z45, .ref z46, .ref z47, .int 0, .ref z49, .ref z50, .ref z51, .int 0, .int 0]) hx hb hT zin_X10 tyX10_ok nmX10 hown hK hw hm_me hf_me rfl 0 (by decide) (hT _ kw_1168) rfl rfl rfl (Nat.le_of_ble_eq_true rfl) rfl dX10_keep_2 (fun H locs hw => ?_)
  obtain ⟨f1, e_f1⟩ : ∃ z, z = va_up f me (.inr (10, [.int 0, .ref mw, .ref mn, .ref mc, .ref mv, .ref mt, .int 0, .int 0, .int 0, .int 0, .int 0, .long 0, .int 0, .int 0, .int 0, .int (-1), .ref ml, .ref mh, .ref mj, .ref ms, .ref mg, .ref md, .int 0, .ref mk, .int (-1), .int 0, .long 0, .int 0, .int 0, .ref z29, .int 0, .ref z31, .ref z32, .ref z33, .ref z34, .ref z35, .int 0, .ref z37, .int 0, .ref z39, .int 0, .int 0, .int 0, .ref z43, .ref z44, .ref z45, .ref z46, .ref z47, .int 0, .ref z49, .ref z50, .ref z51, .int 0, .int 0])) := ⟨_, rfl⟩
  rw [← e_f1] at hw
  have hf_ml : f1 ml = .inl (cy 1, 5, .inl (fun _ => 0)) := (congrFun e_f1 ml).trans (z_up_ne (z_tne hf_ml hf_me (m := 140) (n := 10) rfl rfl (by decide)) hf_ml)
  have hf_mh : f1 mh = .inl (cy 1, 30, .inl (fun _ => 0)) := (congrFun e_f1 mh).trans (z_up_ne (z_tne hf_mh hf_me (m := 340) (n := 10) rfl rfl (by decide)) hf_mh)
  have hf_mj : f1 mj = .inl (cy 1, 25, .inl (fun _ => 0)) := (congrFun e_f1 mj).trans (z_up_ne (z_tne hf_mj hf_me (m := 300) (n := 10) rfl rfl (by decide)) hf_mj)
  have hf_ms : f1 ms = .inl (cy 1, 20, .inl (fun _ => 0)) := (congrFun e_f1 ms).trans (z_up_ne (z_tne hf_ms hf_me (m := 260) (n := 10) rfl rfl (by decide)) hf_ms)
  have hf_mg : f1 mg = .inl (cy 1, 180, .inl (fun _ => 0)) := (congrFun e_f1 mg).trans (z_up_ne (z_tne hf_mg hf_me (m := 1540) (n := 10) rfl rfl (by decide)) hf_mg)
  have hf_md : f1 md = .inl (cy 1, 520, .inl (fun _ => 0)) := (congrFun e_f1 md).trans (z_up_ne (z_tne hf_md hf_me (m := 4260) (n := 10) rfl rfl (by decide)) hf_md)
  have hf_mk : f1 mk = .inl (cy 3, 3, .inl (fun _ => 0)) := (congrFun e_f1 mk).trans (z_up_ne (z_tne hf_mk hf_me (m := 124) (n := 10) rfl rfl (by decide)) hf_mk)
  have hf_me : f1 me = .inr (10, [.int 0, .ref mw, .ref mn, .ref mc, .ref mv, .ref mt, .int 0, .int 0, .int 0, .int 0, .int 0, .long 0, .int 0, .int 0, .int 0, .int (-1), .ref ml, .ref mh, .ref mj, .ref ms, .ref mg, .ref md, .int 0, .ref mk, .int (-1), .int 0, .long 0, .int 0, .int 0, .ref z29, .int 0, .ref z31, .ref z32, .ref z33, .ref z34, .ref z35, .int 0, .ref z37, .int 0, .ref z39, .int 0, .int 0, .int 0, .ref z43, .ref z44, .ref z45, .ref z46, .ref z47, .int 0, .ref z49, .ref z50, .ref z51, .int 0, .int 0]) := (congrFun e_f1 me).trans z_up_self
  have hfr : ∀ b ∈ L, b ≠ me → b ≠ ml → b ≠ mh → b ≠ mj → b ≠ ms → b ≠ mg → b ≠ md → b ≠ mk → f1 b = f b := fun b hb h0 h1 h2 h3 h4 h5 h6 h7 => (congrFun e_f1 b).trans (z_up_ne h0 (hfr b hb h0 h1 h2 h3 h4 h5 h6 h7))
  refine lv_iload_n hx hb dX10_keep_5 rfl (lv_at hl 1 rfl) ?_
  refine lv_i2l hx hb dX10_keep_6 rfl ?_
  refine lv_topl (fun w2 e_w2 => ?_)
  have i_w2 : w2.toInt = xa.toInt := z_i2l e_w2 rfl
  refine lv_lconst (v := 0) hx hb dX10_keep_7 (by decide) ?_
  refine lv_ldc2 (v := 2) hx hb hown (hT _ kw_1512) dX10_keep_8 ?_
  have hz3 := (show (0 : Int64).toInt = 0 by decide)
  have hz4 := (show (2 : Int64).toInt = 2 by decide)
  refine z_calliS (cells := 0) (slots := 0) (As := [.long w2, .long 0, .long 2]) (rest := []) ⟨hx, hb, hml, hown, hT⟩ (c_X10_in l ) (va_cwS 3 hT (z_goodS (fun _ h => h) kw_1339 kw_1340 kw_96 kw_1341) rfl rfl rfl (by decide +kernel) ⟨by decide, by decide⟩) z_mv hKK hw hA rfl hl.1 rfl (Nat.le_of_ble_eq_true rfl) dX10_keep_11 ⟨by decide, by decide⟩ (fun r5 u H locs hp hw => ?_)
  obtain ⟨rfl, hp⟩ := hp
  have hw : z_H D vwCl (z_A L sz) s.heap L f1 H locs := hw
  rcases hp with ⟨rfl, h6⟩ | ⟨rfl, h6⟩
  · skip
    refine z_if_ne (tgt := 20) hx hb (show (1 : Int32).toInt = 1 by decide) dX10_keep_14 (by decide) (fun _ => ?_) (fun h => absurd h (by decide))
    refine lv_aload_n hx hb dX10_keep_20 rfl (lv_at hl 0 rfl) ?_
    refine lv_iconst (v := 0) hx hb dX10_keep_21 (by decide) ?_
    refine lv_iconst (v := 1) hx hb dX10_keep_22 (by decide) ?_
    refine lv_iload_n hx hb dX10_keep_23 rfl (lv_at hl 1 rfl) ?_
    refine lv_iadd hx hb dX10_keep_24 ?_
    refine lv_topi (fun w7 e_w7 => ?_)
    have i_w7 : w7.toInt = (1 + xa.toInt) := z_add e_w7 (show (1 : Int32).toInt = 1 by decide) rfl (by omega)
    have hz8 := (show (0 : Int32).toInt = 0 by decide)
    refine z_callvV (cells := 0) (slots := 0) (b := me) (As := [.int 0, .int w7]) (rest := []) (ci := 10) (q0 := (RX10, TX10, 54)) ⟨hx, hb, hml, hown, hT⟩ (c_X10_copyMoor l hm_me hm_ml hm_mh hm_mj hm_ms hm_mg hm_md hf_me hf_ml hf_mh hf_mj hf_ms hf_mg hf_md (by first | omega | decide | assumption) (by first | omega | decide | assumption)) (cwV 2 hT (z_goodV (fun _ h => h) kw_1471 kw_1473 kw_49 kw_96 kw_1474) rfl rfl rfl (by decide +kernel) ⟨by decide, by decide⟩) z_mv hKK hK hw hA hm_me hf_me rfl rfl rfl hl.1 rfl (Nat.le_of_ble_eq_true rfl) dX10_keep_25 ⟨by decide, by decide⟩ (fun u H locs hp hw => ?_)
    obtain ⟨L9, f10⟩ := u
    obtain ⟨hsb, hfm, k1_11, k2_12, k3_13, k4_14, k5_15, k6_16, ha_0, ha_1, ha_2, ha_3, ha_4, ha_5, hp⟩ := hp
    have hw : z_H D vwCl (z_A L sz) s.heap L9 f10 H locs := hw
    have hfr : ∀ b ∈ L, b ≠ me → b ≠ ml → b ≠ mh → b ≠ mj → b ≠ ms → b ≠ mg → b ≠ md → b ≠ mk → f10 b = f b := fun b hb h0 h1 h2 h3 h4 h5 h6 h7 => (hfm b (hsub b hb) h1 h2 h3 h4 h5 h6).trans (hfr b hb h0 h1 h2 h3 h4 h5 h6 h7)
    have hsub : ∀ b ∈ L, b ∈ L9 := fun b h => hsb b (hsub b h)
    have hf_me : f10 me = .inr (10, [.int 0, .ref mw, .ref mn, .ref mc, .ref mv, .ref mt, .int 0, .int 0, .int 0, .int 0, .int 0, .long 0, .int 0, .int 0, .int 0, .int (-1), .ref ml, .ref mh, .ref mj, .ref ms, .ref mg, .ref md, .int 0, .ref mk, .int (-1), .int 0, .long 0, .int 0, .int 0, .ref z29, .int 0, .ref z31, .ref z32, .ref z33, .ref z34, .ref z35, .int 0, .ref z37, .int 0, .ref z39, .int 0, .int 0, .int 0, .ref z43, .ref z44, .ref z45, .ref z46, .ref z47, .int 0, .ref z49, .ref z50, .ref z51, .int 0, .int 0]) := (hfm me hm_me (z_tne hf_me hf_ml (m := 10) (n := 140) rfl rfl (by decide)) (z_tne hf_me hf_mh (m := 10) (n := 340) rfl rfl (by decide)) (z_tne hf_me hf_mj (m := 10) (n := 300) rfl rfl (by decide)) (z_tne hf_me hf_ms (m := 10) (n := 260) rfl rfl (by decide)) (z_tne hf_me hf_mg (m := 10) (n := 1540) rfl rfl (by decide)) (z_tne hf_me hf_md (m := 10) (n := 4260) rfl rfl (by decide))).trans hf_me
    have hf_mk : f10 mk = .inl (cy 3, 3, .inl (fun _ => 0)) := (hfm mk hm_mk (z_tne hf_mk hf_ml (m := 124) (n := 140) rfl rfl (by decide)) (z_tne hf_mk hf_mh (m := 124) (n := 340) rfl rfl (by decide)) (z_tne hf_mk hf_mj (m := 124) (n := 300) rfl rfl (by decide)) (z_tne hf_mk hf_ms (m := 124) (n := 260) rfl rfl (by decide)) (z_tne hf_mk hf_mg (m := 124) (n := 1540) rfl rfl (by decide)) (z_tne hf_mk hf_md (m := 124) (n := 4260) rfl rfl (by decide))).trans hf_mk
    have hm_me : me ∈ L9 := hsb _ hm_me
    have hm_ml : ml ∈ L9 := hsb _ hm_ml
    have hm_mh : mh ∈ L9 := hsb _ hm_mh
    have hm_mj : mj ∈ L9 := hsb _ hm_mj
    have hm_ms : ms ∈ L9 := hsb _ hm_ms
    have hm_mg : mg ∈ L9 := hsb _ hm_mg
    have hm_md : md ∈ L9 := hsb _ hm_md
    have hm_mk : mk ∈ L9 := hsb _ hm_mk
    have hf_ml : f10 ml = .inl (cy 1, 5, .inl k1_11) := ha_0
    have hf_mh : f10 mh = .inl (cy 1, 30, .inl k2_12) := ha_1
    have hf_mj : f10 mj = .inl (cy 1, 25, .inl k3_13) := ha_2
    have hf_ms : f10 ms = .inl (cy 1, 20, .inl k4_14) := ha_3
    have hf_mg : f10 mg = .inl (cy 1, 180, .inl k5_15) := ha_4
    have hf_md : f10 md = .inl (cy 1, 520, .inl k6_16) := ha_5
    refine lv_aload_n hx hb dX10_keep_28 rfl (lv_at hl 0 rfl) ?_
    refine z_get (C := RX10) (T := TX10) (N := 54) (ci := 10) (v := .ref mk) hx hb hT zin_X10 hown hK hw hm_me hf_me rfl 23 (by decide) (hT _ kw_1191) rfl dX10_keep_29 ?_
    refine lv_iload_n hx hb dX10_keep_32 rfl (lv_at hl 1 rfl) ?_
    refine lv_iconst (v := 1) hx hb dX10_keep_33 (by decide) ?_
    refine z_zast hx hb hK hw 3 hm_mk hf_mk rfl (z_ix rfl (by omega)) dX10_keep_34 (fun H locs hw => ?_)
    obtain ⟨f18, e_f18⟩ : ∃ z, z = va_up f10 mk (.inl (cy 3, 3, .inl (upd (fun _ => 0) xa.toNatClampNeg (vp_nar .boolean 1)))) := ⟨_, rfl⟩
    rw [← e_f18] at hw
    have hf_me : f18 me = .inr (10, [.int 0, .ref mw, .ref mn, .ref mc, .ref mv, .ref mt, .int 0, .int 0, .int 0, .int 0, .int 0, .long 0, .int 0, .int 0, .int 0, .int (-1), .ref ml, .ref mh, .ref mj, .ref ms, .ref mg, .ref md, .int 0, .ref mk, .int (-1), .int 0, .long 0, .int 0, .int 0, .ref z29, .int 0, .ref z31, .ref z32, .ref z33, .ref z34, .ref z35, .int 0, .ref z37, .int 0, .ref z39, .int 0, .int 0, .int 0, .ref z43, .ref z44, .ref z45, .ref z46, .ref z47, .int 0, .ref z49, .ref z50, .ref z51, .int 0, .int 0]) := (congrFun e_f18 me).trans (z_up_ne (z_tne hf_me hf_mk (m := 10) (n := 124) rfl rfl (by decide)) hf_me)
    have hf_ml : f18 ml = .inl (cy 1, 5, .inl k1_11) := (congrFun e_f18 ml).trans (z_up_ne (z_tne hf_ml hf_mk (m := 140) (n := 124) rfl rfl (by decide)) hf_ml)
    have hf_mh : f18 mh = .inl (cy 1, 30, .inl k2_12) := (congrFun e_f18 mh).trans (z_up_ne (z_tne hf_mh hf_mk (m := 340) (n := 124) rfl rfl (by decide)) hf_mh)
    have hf_mj : f18 mj = .inl (cy 1, 25, .inl k3_13) := (congrFun e_f18 mj).trans (z_up_ne (z_tne hf_mj hf_mk (m := 300) (n := 124) rfl rfl (by decide)) hf_mj)
    have hf_ms : f18 ms = .inl (cy 1, 20, .inl k4_14) := (congrFun e_f18 ms).trans (z_up_ne (z_tne hf_ms hf_mk (m := 260) (n := 124) rfl rfl (by decide)) hf_ms)
    have hf_mg : f18 mg = .inl (cy 1, 180, .inl k5_15) := (congrFun e_f18 mg).trans (z_up_ne (z_tne hf_mg hf_mk (m := 1540) (n := 124) rfl rfl (by decide)) hf_mg)
    have hf_md : f18 md = .inl (cy 1, 520, .inl k6_16) := (congrFun e_f18 md).trans (z_up_ne (z_tne hf_md hf_mk (m := 4260) (n := 124) rfl rfl (by decide)) hf_md)
    have hf_mk : f18 mk = .inl (cy 3, 3, .inl (upd (fun _ => 0) xa.toNatClampNeg (vp_nar .boolean 1))) := (congrFun e_f18 mk).trans z_up_self
    have hfr : ∀ b ∈ L, b ≠ me → b ≠ ml → b ≠ mh → b ≠ mj → b ≠ ms → b ≠ mg → b ≠ md → b ≠ mk → f18 b = f b := fun b hb h0 h1 h2 h3 h4 h5 h6 h7 => (congrFun e_f18 b).trans (z_up_ne h7 (hfr b hb h0 h1 h2 h3 h4 h5 h6 h7))
    obtain ⟨g17, e_g17⟩ : ∃ z, z = (upd (fun _ => 0) xa.toNatClampNeg (vp_nar .boolean 1)) := ⟨_, rfl⟩
    rw [← e_g17] at hf_mk
    refine lv_iconst (v := 0) hx hb dX10_keep_35 (by decide) ?_
    exact z_iret hx hb hr hlk (by decide) (by decide) hw (⟨hsub, hfr, Or.inl ⟨by decide, by omega⟩⟩) dX10_keep_36
  · skip
    refine z_if_ne (tgt := 20) hx hb (show (0 : Int32).toInt = 0 by decide) dX10_keep_14 (by decide) (fun h => absurd h (by decide)) (fun _ => ?_)
    refine lv_bipush (v := (-2)) hx hb dX10_keep_17 (by decide) ?_
    exact z_iret hx hb hr hlk (by decide) (by decide) hw (⟨hsub, hfr, Or.inr ⟨by decide, by omega⟩⟩) dX10_keep_19

set_option maxHeartbeats 4000000 in
set_option maxRecDepth 100000 in
theorem c_X10_row (l : Launch) {D : va_G} {cy : Nat → ClassId} {L : List Nat} {f : Nat → va_E} {sz : Nat} {me mw mn mc mv mt ml mh mj ms mg md mk z29 z31 z32 z33 z34 z35 z37 z39 z43 z44 z45 z46 z47 z49 z50 z51 : Nat} {gw : Nat → Int32} {xa xb xc : Int32} (hm_me : me ∈ L) (hm_mw : mw ∈ L) (hm_mn : mn ∈ L) (hm_mc : mc ∈ L) (hf_me : f me = .inr (10, [.int 0, .ref mw, .ref mn, .ref mc, .ref mv, .ref mt, .int 0, .int 0, .int 0, .int 0, .int 0, .long 0, .int 0, .int 0, .int 0, .int (-1), .ref ml, .ref mh, .ref mj, .ref ms, .ref mg, .ref md, .int 0, .ref mk, .int (-1), .int 0, .long 0, .int 0, .int 0, .ref z29, .int 0, .ref z31, .ref z32, .ref z33, .ref z34, .ref z35, .int 0, .ref z37, .int 0, .ref z39, .int 0, .int 0, .int 0, .ref z43, .ref z44, .ref z45, .ref z46, .ref z47, .int 0, .ref z49, .ref z50, .ref z51, .int 0, .int 0])) (hf_mw : f mw = .inl (cy 1, 4, .inl gw)) (hf_mn : f mn = .inl (cy 1, 4, .inl (fun _ => 0))) (hf_mc : f mc = .inl (cy 2, 240, .inr (.inl (fun _ => 0)))) (ne_mw_mn : mw ≠ mn) : Met l yX10_row (z_ws yX10_row cX10_row 5 (some .int)) (z_R 6 0 0) (va_Pc [.ref me, .int xa, .int xb, .int xc] (z_Pre D vwCl (z_K D cy) L f sz)) (z_Qi D vwCl (fun r u => (∀ b ∈ L, b ∈ u.1) ∧ (∀ b ∈ L, b ≠ me → b ≠ mw → b ≠ mn → b ≠ mc → u.2 b = f b) ∧ (((r.toInt = -2 ∧ ¬ (0 ≤ xa.toInt ∧ xa.toInt < 4 ∧ 0 ≤ xb.toInt ∧ xb.toInt < 4 ∧ xc.toInt ≤ 60)) ∨ (r.toInt = -3 ∧ (0 ≤ xa.toInt ∧ xa.toInt < 4 ∧ 0 ≤ xb.toInt ∧ xb.toInt < 4 ∧ xc.toInt ≤ 60) ∧ xc.toInt < 0) ∨ (r.toInt = 0 ∧ (0 ≤ xa.toInt ∧ xa.toInt < 4 ∧ 0 ≤ xb.toInt ∧ xb.toInt < 4 ∧ xc.toInt ≤ 60) ∧ 0 ≤ xc.toInt)))) L sz) 0 0 (z_A L sz) := by
  refine z_met (cc := cX10_row) (maxL := 5) (ret := (some .int)) (lv := [(0, .ref me), (1, .int xa), (2, .int xb), (3, .int xc)]) (by decide) rfl (Nat.le_of_ble_eq_true rfl) rfl ?_
  intro p e s m below meth c ls hx hb hr hlk hml hown hnm hts hKK hA hw hl
  have hK := hKK.1
  have hown : s.vm.findClass RX10 = some m.cls := hown
  have hT : ∀ w ∈ lw_all, w.before ([.ref me, .int xa, .int xb, .int xc] : List Value).toArray s = true := fun w h => hts w (z_cons w h)
  have hsub : ∀ b ∈ L, b ∈ L := fun _ h => h
  have hfr : ∀ b ∈ L, b ≠ me → b ≠ mw → b ≠ mn → b ≠ mc → f b = f b := fun _ _ _ _ _ _ => rfl
  refine lv_aload_n hx hb dX10_row_0 rfl (lv_at hl 0 rfl) ?_
  refine lv_iconst (v := 0) hx hb dX10_row_1 (by decide) ?_
  refine z_put (C := RX10) (T := TX10) (N := 54) (ci := 10) (v := .int 0) (fs' := [.int 0, .ref mw, .ref mn, .ref mc, .ref mv, .ref mt, .int 0, .int 0, .int 0, .int 0, .int 0, .long 0, .int 0, .int 0, .int 0, .int (-1), .ref ml, .ref mh, .ref mj, .ref ms, .ref mg, .ref md, .int 0, .ref mk, .int (-1), .int 0, .long 0, .int 0, .int 0, .ref z29, .int 0, .ref z31, .ref z32, .ref z33, .ref z34, .ref z35, .int 0, .ref z37, .int 0, .ref z39, .int 0, .int 0, .int 0, .ref z43, .ref z44, .ref z45, .ref z46, .ref z47, .int 0, .ref z49, .ref z50, .ref z51, .int 0, .int 0]) hx hb hT zin_X10 tyX10_ok nmX10 hown hK hw hm_me hf_me rfl 0 (by decide) (hT _ kw_1168) rfl rfl rfl (Nat.le_of_ble_eq_true rfl) rfl dX10_row_2 (fun H locs hw => ?_)
  obtain ⟨f1, e_f1⟩ : ∃ z, z = va_up f me (.inr (10, [.int 0, .ref mw, .ref mn, .ref mc, .ref mv, .ref mt, .int 0, .int 0, .int 0, .int 0, .int 0, .long 0, .int 0, .int 0, .int 0, .int (-1), .ref ml, .ref mh, .ref mj, .ref ms, .ref mg, .ref md, .int 0, .ref mk, .int (-1), .int 0, .long 0, .int 0, .int 0, .ref z29, .int 0, .ref z31, .ref z32, .ref z33, .ref z34, .ref z35, .int 0, .ref z37, .int 0, .ref z39, .int 0, .int 0, .int 0, .ref z43, .ref z44, .ref z45, .ref z46, .ref z47, .int 0, .ref z49, .ref z50, .ref z51, .int 0, .int 0])) := ⟨_, rfl⟩
  rw [← e_f1] at hw
  have hf_mw : f1 mw = .inl (cy 1, 4, .inl gw) := (congrFun e_f1 mw).trans (z_up_ne (z_tne hf_mw hf_me (m := 132) (n := 10) rfl rfl (by decide)) hf_mw)
  have hf_mn : f1 mn = .inl (cy 1, 4, .inl (fun _ => 0)) := (congrFun e_f1 mn).trans (z_up_ne (z_tne hf_mn hf_me (m := 132) (n := 10) rfl rfl (by decide)) hf_mn)
  have hf_mc : f1 mc = .inl (cy 2, 240, .inr (.inl (fun _ => 0))) := (congrFun e_f1 mc).trans (z_up_ne (z_tne hf_mc hf_me (m := 2021) (n := 10) rfl rfl (by decide)) hf_mc)
  have hf_me : f1 me = .inr (10, [.int 0, .ref mw, .ref mn, .ref mc, .ref mv, .ref mt, .int 0, .int 0, .int 0, .int 0, .int 0, .long 0, .int 0, .int 0, .int 0, .int (-1), .ref ml, .ref mh, .ref mj, .ref ms, .ref mg, .ref md, .int 0, .ref mk, .int (-1), .int 0, .long 0, .int 0, .int 0, .ref z29, .int 0, .ref z31, .ref z32, .ref z33, .ref z34, .ref z35, .int 0, .ref z37, .int 0, .ref z39, .int 0, .int 0, .int 0, .ref z43, .ref z44, .ref z45, .ref z46, .ref z47, .int 0, .ref z49, .ref z50, .ref z51, .int 0, .int 0]) := (congrFun e_f1 me).trans z_up_self
  have hfr : ∀ b ∈ L, b ≠ me → b ≠ mw → b ≠ mn → b ≠ mc → f1 b = f b := fun b hb h0 h1 h2 h3 => (congrFun e_f1 b).trans (z_up_ne h0 (hfr b hb h0 h1 h2 h3))
  refine lv_iload_n hx hb dX10_row_5 rfl (lv_at hl 1 rfl) ?_
  refine z_calliS (cells := 0) (slots := 0) (As := [.int xa]) (rest := []) ⟨hx, hb, hml, hown, hT⟩ (c_X10_isSlot l ) (va_cwS 1 hT (z_goodS (fun _ h => h) kw_1335 kw_1336 kw_96 kw_1337) rfl rfl rfl (by decide +kernel) ⟨by decide, by decide⟩) z_mv hKK hw hA rfl hl.1 rfl (Nat.le_of_ble_eq_true rfl) dX10_row_6 ⟨by decide, by decide⟩ (fun r2 u H locs hp hw => ?_)
  obtain ⟨rfl, hp⟩ := hp
  have hw : z_H D vwCl (z_A L sz) s.heap L f1 H locs := hw
  rcases hp with ⟨rfl, h3⟩ | ⟨rfl, h3⟩
  · skip
    refine z_if_eq (tgt := 30) hx hb (show (1 : Int32).toInt = 1 by decide) dX10_row_9 (by decide) (fun h => absurd h (by decide)) (fun _ => ?_)
    refine lv_iload_n hx hb dX10_row_12 rfl (lv_at hl 2 rfl) ?_
    refine lv_i2l hx hb dX10_row_13 rfl ?_
    refine lv_topl (fun w4 e_w4 => ?_)
    have i_w4 : w4.toInt = xb.toInt := z_i2l e_w4 rfl
    refine lv_lconst (v := 0) hx hb dX10_row_14 (by decide) ?_
    refine lv_ldc2 (v := 3) hx hb hown (hT _ kw_1338) dX10_row_15 ?_
    have hz5 := (show (0 : Int64).toInt = 0 by decide)
    have hz6 := (show (3 : Int64).toInt = 3 by decide)
    refine z_calliS (cells := 0) (slots := 0) (As := [.long w4, .long 0, .long 3]) (rest := []) ⟨hx, hb, hml, hown, hT⟩ (c_X10_in l ) (va_cwS 3 hT (z_goodS (fun _ h => h) kw_1339 kw_1340 kw_96 kw_1341) rfl rfl rfl (by decide +kernel) ⟨by decide, by decide⟩) z_mv hKK hw hA rfl hl.1 rfl (Nat.le_of_ble_eq_true rfl) dX10_row_18 ⟨by decide, by decide⟩ (fun r7 u H locs hp hw => ?_)
    obtain ⟨rfl, hp⟩ := hp
    have hw : z_H D vwCl (z_A L sz) s.heap L f1 H locs := hw
    rcases hp with ⟨rfl, h8⟩ | ⟨rfl, h8⟩
    · skip
      refine z_if_eq (tgt := 30) hx hb (show (1 : Int32).toInt = 1 by decide) dX10_row_21 (by decide) (fun h => absurd h (by decide)) (fun _ => ?_)
      refine lv_iload_n hx hb dX10_row_24 rfl (lv_at hl 3 rfl) ?_
      refine lv_bipush (v := 60) hx hb dX10_row_25 (by decide) ?_
      refine z_icmp_le (tgt := 33) hx hb rfl (show (60 : Int32).toInt = 60 by decide) dX10_row_27 (by decide) (fun c9 => ?_) (fun c9 => ?_)
      · skip
        refine lv_iload_n hx hb dX10_row_33 rfl (lv_at hl 3 rfl) ?_
        refine z_if_ge (tgt := 40) hx hb rfl dX10_row_34 (by decide) (fun c10 => ?_) (fun c10 => ?_)
        · skip
          refine lv_aload_n hx hb dX10_row_40 rfl (lv_at hl 0 rfl) ?_
          refine z_get (C := RX10) (T := TX10) (N := 54) (ci := 10) (v := .ref mw) hx hb hT zin_X10 hown hK hw hm_me hf_me rfl 1 (by decide) (hT _ kw_1169) rfl dX10_row_41 ?_
          refine lv_iload_n hx hb dX10_row_44 rfl (lv_at hl 1 rfl) ?_
          refine lv_iload_n hx hb dX10_row_45 rfl (lv_at hl 2 rfl) ?_
          refine z_iast hx hb hK hw 1 hm_mw hf_mw rfl (z_ix rfl (by omega)) dX10_row_46 (fun H locs hw => ?_)
          obtain ⟨f12, e_f12⟩ : ∃ z, z = va_up f1 mw (.inl (cy 1, 4, .inl (upd gw xa.toNatClampNeg xb))) := ⟨_, rfl⟩
          rw [← e_f12] at hw
          have hf_me : f12 me = .inr (10, [.int 0, .ref mw, .ref mn, .ref mc, .ref mv, .ref mt, .int 0, .int 0, .int 0, .int 0, .int 0, .long 0, .int 0, .int 0, .int 0, .int (-1), .ref ml, .ref mh, .ref mj, .ref ms, .ref mg, .ref md, .int 0, .ref mk, .int (-1), .int 0, .long 0, .int 0, .int 0, .ref z29, .int 0, .ref z31, .ref z32, .ref z33, .ref z34, .ref z35, .int 0, .ref z37, .int 0, .ref z39, .int 0, .int 0, .int 0, .ref z43, .ref z44, .ref z45, .ref z46, .ref z47, .int 0, .ref z49, .ref z50, .ref z51, .int 0, .int 0]) := (congrFun e_f12 me).trans (z_up_ne (z_tne hf_me hf_mw (m := 10) (n := 132) rfl rfl (by decide)) hf_me)
          have hf_mn : f12 mn = .inl (cy 1, 4, .inl (fun _ => 0)) := (congrFun e_f12 mn).trans (z_up_ne (Ne.symm ne_mw_mn) hf_mn)
          have hf_mc : f12 mc = .inl (cy 2, 240, .inr (.inl (fun _ => 0))) := (congrFun e_f12 mc).trans (z_up_ne (z_tne hf_mc hf_mw (m := 2021) (n := 132) rfl rfl (by decide)) hf_mc)
          have hf_mw : f12 mw = .inl (cy 1, 4, .inl (upd gw xa.toNatClampNeg xb)) := (congrFun e_f12 mw).trans z_up_self
          have hfr : ∀ b ∈ L, b ≠ me → b ≠ mw → b ≠ mn → b ≠ mc → f12 b = f b := fun b hb h0 h1 h2 h3 => (congrFun e_f12 b).trans (z_up_ne h1 (hfr b hb h0 h1 h2 h3))
          obtain ⟨g11, e_g11⟩ : ∃ z, z = (upd gw xa.toNatClampNeg xb) := ⟨_, rfl⟩
          rw [← e_g11] at hf_mw
          refine lv_aload_n hx hb dX10_row_47 rfl (lv_at hl 0 rfl) ?_
          refine z_get (C := RX10) (T := TX10) (N := 54) (ci := 10) (v := .ref mn) hx hb hT zin_X10 hown hK hw hm_me hf_me rfl 2 (by decide) (hT _ kw_1170) rfl dX10_row_48 ?_
          refine lv_iload_n hx hb dX10_row_51 rfl (lv_at hl 1 rfl) ?_
          refine lv_iload_n hx hb dX10_row_52 rfl (lv_at hl 3 rfl) ?_
          refine z_iast hx hb hK hw 1 hm_mn hf_mn rfl (z_ix rfl (by omega)) dX10_row_53 (fun H locs hw => ?_)
          obtain ⟨f14, e_f14⟩ : ∃ z, z = va_up f12 mn (.inl (cy 1, 4, .inl (upd (fun _ => 0) xa.toNatClampNeg xc))) := ⟨_, rfl⟩
          rw [← e_f14] at hw
          have hf_me : f14 me = .inr (10, [.int 0, .ref mw, .ref mn, .ref mc, .ref mv, .ref mt, .int 0, .int 0, .int 0, .int 0, .int 0, .long 0, .int 0, .int 0, .int 0, .int (-1), .ref ml, .ref mh, .ref mj, .ref ms, .ref mg, .ref md, .int 0, .ref mk, .int (-1), .int 0, .long 0, .int 0, .int 0, .ref z29, .int 0, .ref z31, .ref z32, .ref z33, .ref z34, .ref z35, .int 0, .ref z37, .int 0, .ref z39, .int 0, .int 0, .int 0, .ref z43, .ref z44, .ref z45, .ref z46, .ref z47, .int 0, .ref z49, .ref z50, .ref z51, .int 0, .int 0]) := (congrFun e_f14 me).trans (z_up_ne (z_tne hf_me hf_mn (m := 10) (n := 132) rfl rfl (by decide)) hf_me)
          have hf_mw : f14 mw = .inl (cy 1, 4, .inl g11) := (congrFun e_f14 mw).trans (z_up_ne ne_mw_mn hf_mw)
          have hf_mc : f14 mc = .inl (cy 2, 240, .inr (.inl (fun _ => 0))) := (congrFun e_f14 mc).trans (z_up_ne (z_tne hf_mc hf_mn (m := 2021) (n := 132) rfl rfl (by decide)) hf_mc)
          have hf_mn : f14 mn = .inl (cy 1, 4, .inl (upd (fun _ => 0) xa.toNatClampNeg xc)) := (congrFun e_f14 mn).trans z_up_self
          have hfr : ∀ b ∈ L, b ≠ me → b ≠ mw → b ≠ mn → b ≠ mc → f14 b = f b := fun b hb h0 h1 h2 h3 => (congrFun e_f14 b).trans (z_up_ne h2 (hfr b hb h0 h1 h2 h3))
          obtain ⟨g13, e_g13⟩ : ∃ z, z = (upd (fun _ => 0) xa.toNatClampNeg xc) := ⟨_, rfl⟩
          rw [← e_g13] at hf_mn
          refine lv_iconst (v := 0) hx hb dX10_row_54 (by decide) ?_
          refine lv_istore (lv' := [(4, .int 0), (0, .ref me), (1, .int xa), (2, .int xb), (3, .int xc)]) hx hb dX10_row_55 hl (by decide) rfl (fun ls hl => ?_)
          have hzk : (0 : Int32).toInt = 0 := by decide
          refine z_loop (fun n H locs ls => ∃ (K15 : Int32) (G17 : Nat → Int64) (f16 : Nat → va_E), (n = (xc.toInt - K15.toInt).toNat) ∧ (0 ≤ K15.toInt) ∧ (K15.toInt ≤ xc.toInt) ∧ (z_H D vwCl (z_A L sz) s.heap L f16 H locs) ∧ (f16 me = .inr (10, [.int 0, .ref mw, .ref mn, .ref mc, .ref mv, .ref mt, .int 0, .int 0, .int 0, .int 0, .int 0, .long 0, .int 0, .int 0, .int 0, .int (-1), .ref ml, .ref mh, .ref mj, .ref ms, .ref mg, .ref md, .int 0, .ref mk, .int (-1), .int 0, .long 0, .int 0, .int 0, .ref z29, .int 0, .ref z31, .ref z32, .ref z33, .ref z34, .ref z35, .int 0, .ref z37, .int 0, .ref z39, .int 0, .int 0, .int 0, .ref z43, .ref z44, .ref z45, .ref z46, .ref z47, .int 0, .ref z49, .ref z50, .ref z51, .int 0, .int 0])) ∧ (f16 mw = .inl (cy 1, 4, .inl g11)) ∧ (f16 mn = .inl (cy 1, 4, .inl g13)) ∧ (f16 mc = .inl (cy 2, 240, .inr (.inl G17))) ∧ (∀ b ∈ L, b ≠ me → b ≠ mw → b ≠ mn → b ≠ mc → f16 b = f b) ∧ (lv_has ls 5 [(4, .int K15), (0, .ref me), (1, .int xa), (2, .int xb), (3, .int xc)])) _ ⟨0, (fun _ => 0), f14, rfl, (by first | decide | omega), (by first | decide | omega), hw, hf_me, hf_mw, hf_mn, hf_mc, hfr, (lv_sub hl [0, 1, 2, 3, 4] rfl)⟩ (fun n H locs ls hI ih => ?_)
          obtain ⟨K15, G17, f16, hn, hk0, hk1, hw, hf_me, hf_mw, hf_mn, hf_mc, hfr, hl⟩ := hI
          refine lv_iload hx hb dX10_row_57 (lv_at hl 0 rfl) ?_
          refine lv_iload_n hx hb dX10_row_59 rfl (lv_at hl 4 rfl) ?_
          refine z_icmp_ge (tgt := 82) hx hb rfl rfl dX10_row_60 (by decide) (fun c18 => ?_) (fun c18 => ?_)
          · skip
            refine lv_iconst (v := 0) hx hb dX10_row_82 (by decide) ?_
            exact z_iret hx hb hr hlk (by decide) (by decide) hw (⟨hsub, hfr, Or.inr (Or.inr ⟨by decide, by omega⟩)⟩) dX10_row_83
          · skip
            refine lv_aload_n hx hb dX10_row_63 rfl (lv_at hl 1 rfl) ?_
            refine z_get (C := RX10) (T := TX10) (N := 54) (ci := 10) (v := .ref mc) hx hb hT zin_X10 hown hK hw hm_me hf_me rfl 3 (by decide) (hT _ kw_1171) rfl dX10_row_64 ?_
            refine lv_bipush (v := 60) hx hb dX10_row_67 (by decide) ?_
            refine lv_iload_n hx hb dX10_row_69 rfl (lv_at hl 2 rfl) ?_
            refine lv_imul hx hb dX10_row_70 ?_
            refine lv_topi (fun w19 e_w19 => ?_)
            have i_w19 : w19.toInt = (60 * xa.toInt) := z_mul e_w19 (show (60 : Int32).toInt = 60 by decide) rfl (by omega)
            refine lv_iload hx hb dX10_row_71 (lv_at hl 0 rfl) ?_
            refine lv_iadd hx hb dX10_row_73 ?_
            refine lv_topi (fun w20 e_w20 => ?_)
            have i_w20 : w20.toInt = ((60 * xa.toInt) + K15.toInt) := z_add e_w20 i_w19 rfl (by omega)
            refine lv_lconst (v := 0) hx hb dX10_row_74 (by decide) ?_
            refine z_last hx hb hK hw 2 hm_mc hf_mc rfl (z_ix i_w20 (by omega)) dX10_row_75 (fun H locs hw => ?_)
            obtain ⟨f22, e_f22⟩ : ∃ z, z = va_up f16 mc (.inl (cy 2, 240, .inr (.inl (vp_updL G17 w20.toNatClampNeg 0)))) := ⟨_, rfl⟩
            rw [← e_f22] at hw
            have hf_me : f22 me = .inr (10, [.int 0, .ref mw, .ref mn, .ref mc, .ref mv, .ref mt, .int 0, .int 0, .int 0, .int 0, .int 0, .long 0, .int 0, .int 0, .int 0, .int (-1), .ref ml, .ref mh, .ref mj, .ref ms, .ref mg, .ref md, .int 0, .ref mk, .int (-1), .int 0, .long 0, .int 0, .int 0, .ref z29, .int 0, .ref z31, .ref z32, .ref z33, .ref z34, .ref z35, .int 0, .ref z37, .int 0, .ref z39, .int 0, .int 0, .int 0, .ref z43, .ref z44, .ref z45, .ref z46, .ref z47, .int 0, .ref z49, .ref z50, .ref z51, .int 0, .int 0]) := (congrFun e_f22 me).trans (z_up_ne (z_tne hf_me hf_mc (m := 10) (n := 2021) rfl rfl (by decide)) hf_me)
            have hf_mw : f22 mw = .inl (cy 1, 4, .inl g11) := (congrFun e_f22 mw).trans (z_up_ne (z_tne hf_mw hf_mc (m := 132) (n := 2021) rfl rfl (by decide)) hf_mw)
            have hf_mn : f22 mn = .inl (cy 1, 4, .inl g13) := (congrFun e_f22 mn).trans (z_up_ne (z_tne hf_mn hf_mc (m := 132) (n := 2021) rfl rfl (by decide)) hf_mn)
            have hf_mc : f22 mc = .inl (cy 2, 240, .inr (.inl (vp_updL G17 w20.toNatClampNeg 0))) := (congrFun e_f22 mc).trans z_up_self
            have hfr : ∀ b ∈ L, b ≠ me → b ≠ mw → b ≠ mn → b ≠ mc → f22 b = f b := fun b hb h0 h1 h2 h3 => (congrFun e_f22 b).trans (z_up_ne h3 (hfr b hb h0 h1 h2 h3))
            obtain ⟨g21, e_g21⟩ : ∃ z, z = (vp_updL G17 w20.toNatClampNeg 0) := ⟨_, rfl⟩
            rw [← e_g21] at hf_mc
            obtain ⟨k23, e_k23⟩ : ∃ z : Int32, z = K15 + 1 := ⟨_, rfl⟩
            refine lv_iinc (v := k23) (lv' := [(4, .int k23), (0, .ref me), (1, .int xa), (2, .int xb), (3, .int xc)]) hx hb dX10_row_76 hl (k := 0) rfl (by rw [e_k23]; rfl) (by decide) rfl (fun ls hl => ?_)
            have i_k23 : k23.toInt = (K15.toInt + 1) := z_add e_k23 rfl (by decide) (by omega)
            refine lv_goto (tgt := 57) hx hb dX10_row_79 (by decide) ?_
            exact ih _ (by omega) _ _ _ ⟨k23, g21, f22, rfl, (by first | decide | omega), (by first | decide | omega), hw, hf_me, hf_mw, hf_mn, hf_mc, hfr, (lv_sub hl [0, 1, 2, 3, 4] rfl)⟩
        · skip
          refine lv_bipush (v := (-3)) hx hb dX10_row_37 (by decide) ?_
          exact z_iret hx hb hr hlk (by decide) (by decide) hw (⟨hsub, hfr, Or.inr (Or.inl ⟨by decide, by omega⟩)⟩) dX10_row_39
      · skip
        refine lv_bipush (v := (-2)) hx hb dX10_row_30 (by decide) ?_
        exact z_iret hx hb hr hlk (by decide) (by decide) hw (⟨hsub, hfr, Or.inl ⟨by decide, by omega⟩⟩) dX10_row_32
    · skip
      refine z_if_eq (tgt := 30) hx hb (show (0 : Int32).toInt = 0 by decide) dX10_row_21 (by decide) (fun _ => ?_) (fun h => absurd h (by decide))
      refine lv_bipush (v := (-2)) hx hb dX10_row_30 (by decide) ?_
      exact z_iret hx hb hr hlk (by decide) (by decide) hw (⟨hsub, hfr, Or.inl ⟨by decide, by omega⟩⟩) dX10_row_32
  · skip
    refine z_if_eq (tgt := 30) hx hb (show (0 : Int32).toInt = 0 by decide) dX10_row_9 (by decide) (fun _ => ?_) (fun h => absurd h (by decide))
    refine lv_bipush (v := (-2)) hx hb dX10_row_30 (by decide) ?_
    exact z_iret hx hb hr hlk (by decide) (by decide) hw (⟨hsub, hfr, Or.inl ⟨by decide, by omega⟩⟩) dX10_row_32

set_option maxHeartbeats 4000000 in
set_option maxRecDepth 100000 in
theorem c_X10_init (l : Launch) {D : va_G} {cy : Nat → ClassId} {L : List Nat} {f : Nat → va_E} {sz : Nat} {me : Nat} (hm_me : me ∈ L) (hf_me : f me = .inr (10, [.int 0, .null, .null, .null, .null, .null, .int 0, .int 0, .int 0, .int 0, .int 0, .long 0, .int 0, .int 0, .int 0, .int 0, .null, .null, .null, .null, .null, .null, .int 0, .null, .int 0, .int 0, .long 0, .int 0, .int 0, .null, .int 0, .null, .null, .null, .null, .null, .int 0, .null, .int 0, .null, .int 0, .int 0, .int 0, .null, .null, .null, .null, .null, .int 0, .null, .null, .null, .int 0, .int 0])) : Met l yX10_init (z_ws yX10_init cX10_init 2 none) (z_R 2 28 10674) (va_Pc [.ref me] (z_Pre D vwCl (z_K D cy) L f sz)) (z_Qv D vwCl (fun u => (∀ b ∈ L, b ∈ u.1) ∧ (∀ b ∈ L, b ≠ me → u.2 b = f b) ∧ (∃ (mw mn mc mv mt ml mh mj ms mg md mk z29 z31 z32 z33 z34 z35 z37 z39 z43 z44 z45 z46 z47 z49 z50 z51 : Nat) (gw : Nat → Int32), (u.2 me = .inr (10, [.int 0, .ref mw, .ref mn, .ref mc, .ref mv, .ref mt, .int 0, .int 0, .int 0, .int 0, .int 0, .long 0, .int 0, .int 0, .int 0, .int (-1), .ref ml, .ref mh, .ref mj, .ref ms, .ref mg, .ref md, .int 0, .ref mk, .int (-1), .int 0, .long 0, .int 0, .int 0, .ref z29, .int 0, .ref z31, .ref z32, .ref z33, .ref z34, .ref z35, .int 0, .ref z37, .int 0, .ref z39, .int 0, .int 0, .int 0, .ref z43, .ref z44, .ref z45, .ref z46, .ref z47, .int 0, .ref z49, .ref z50, .ref z51, .int 0, .int 0])) ∧ (mw ∉ L ∧ mw ∈ u.1 ∧ u.2 mw = .inl (cy 1, 4, .inl gw)) ∧ (mn ∉ L ∧ mn ∈ u.1 ∧ u.2 mn = .inl (cy 1, 4, .inl (fun _ => 0))) ∧ (mc ∉ L ∧ mc ∈ u.1 ∧ u.2 mc = .inl (cy 2, 240, .inr (.inl (fun _ => 0)))) ∧ (mt ∉ L ∧ mt ∈ u.1 ∧ u.2 mt = .inl (cy 0, 1600, .inl (fun _ => 0))) ∧ (ml ∉ L ∧ ml ∈ u.1 ∧ u.2 ml = .inl (cy 1, 5, .inl (fun _ => 0))) ∧ (mh ∉ L ∧ mh ∈ u.1 ∧ u.2 mh = .inl (cy 1, 30, .inl (fun _ => 0))) ∧ (mj ∉ L ∧ mj ∈ u.1 ∧ u.2 mj = .inl (cy 1, 25, .inl (fun _ => 0))) ∧ (ms ∉ L ∧ ms ∈ u.1 ∧ u.2 ms = .inl (cy 1, 20, .inl (fun _ => 0))) ∧ (mg ∉ L ∧ mg ∈ u.1 ∧ u.2 mg = .inl (cy 1, 180, .inl (fun _ => 0))) ∧ (md ∉ L ∧ md ∈ u.1 ∧ u.2 md = .inl (cy 1, 520, .inl (fun _ => 0))) ∧ (mk ∉ L ∧ mk ∈ u.1 ∧ u.2 mk = .inl (cy 3, 3, .inl (fun _ => 0))) ∧ ((∀ j : Nat, j < 4 → gw j = -1) ∧ mw ≠ mn))) L sz) 28 10674 (z_A L sz) := by
  refine z_met (cc := cX10_init) (maxL := 2) (ret := none) (lv := [(0, .ref me)]) (by decide) rfl (Nat.le_of_ble_eq_true rfl) rfl ?_
  intro p e s m below meth c ls hx hb hr hlk hml hown hnm hts hKK hA hw hl
  have hK := hKK.1
  have hown : s.vm.findClass RX10 = some m.cls := hown
  have hT : ∀ w ∈ lw_all, w.before ([.ref me] : List Value).toArray s = true := fun w h => hts w (z_cons w h)
  have hsub : ∀ b ∈ L, b ∈ L := fun _ h => h
  have hfr : ∀ b ∈ L, b ≠ me → f b = f b := fun _ _ _ => rfl
  refine lv_aload_n hx hb dX10_init_0 rfl (lv_at hl 0 rfl) ?_
  refine W.objInit hx hb hown (hT _ ko_RX10) (hT _ ko_i) (hT _ ko_c) rfl (by rw [hml]; exact hl.1) rfl dX10_init_1 (Nat.le_of_ble_eq_true rfl) (Nat.le_of_ble_eq_true rfl) ?_
  refine W.eq (g2 := F0 m 4 ls []) rfl ?_
  refine lv_aload_n hx hb dX10_init_4 rfl (lv_at hl 0 rfl) ?_
  refine lv_iconst (v := 4) hx hb dX10_init_5 (by decide) ?_
  refine z_newa (atype := .int) (n := 4) (N' := 4) (a0 := (4, .inl (fun _ => 0))) (cells := 0) (slots := 0) hx hb (hT _ kw_203) rfl 1 rfl (fun _ h => by cases h) hK hw hA (fun _ => rfl) (by decide) (by decide) (by decide) (by decide) (by decide) dX10_init_6 (fun qmw H hq_qmw hw => ?_)
  refine W.widen (k := 1) (n := 4) (by decide) (by decide) ?_
  have ne_me_qmw : me ≠ qmw := z_ne hm_me hq_qmw
  have hn_qmw : qmw ∉ L := fun h => hq_qmw (hsub _ h)
  obtain ⟨f2, e_f2⟩ : ∃ z, z = va_up f qmw (.inl (cy 1, 4, .inl (fun _ => 0))) := ⟨_, rfl⟩
  obtain ⟨L1, e_L1⟩ : ∃ z, z = L ++ [qmw] := ⟨_, rfl⟩
  rw [← e_f2, ← e_L1] at hw
  have hm_me : me ∈ L1 := by rw [e_L1]; exact List.mem_append_left _ hm_me
  have hf_me : f2 me = .inr (10, [.int 0, .null, .null, .null, .null, .null, .int 0, .int 0, .int 0, .int 0, .int 0, .long 0, .int 0, .int 0, .int 0, .int 0, .null, .null, .null, .null, .null, .null, .int 0, .null, .int 0, .int 0, .long 0, .int 0, .int 0, .null, .int 0, .null, .null, .null, .null, .null, .int 0, .null, .int 0, .null, .int 0, .int 0, .int 0, .null, .null, .null, .null, .null, .int 0, .null, .null, .null, .int 0, .int 0]) := (congrFun e_f2 me).trans (z_up_ne ne_me_qmw hf_me)
  have hm_qmw : qmw ∈ L1 := by rw [e_L1]; exact List.mem_append_right _ (List.mem_singleton.mpr rfl)
  have hf_qmw : f2 qmw = .inl (cy 1, 4, .inl (fun _ => 0)) := (congrFun e_f2 qmw).trans z_up_self
  have hsub : ∀ b ∈ L, b ∈ L1 := fun b h => by rw [e_L1]; exact List.mem_append_left _ (hsub b h)
  have hfr : ∀ b ∈ L, b ≠ me → f2 b = f b := fun b hb h0 => (congrFun e_f2 b).trans (z_up_ne (z_ne hb hn_qmw) (hfr b hb h0))
  refine z_putF (C := RX10) (T := TX10) (N := 54) (ci := 10) (v := .ref qmw) (fs' := [.int 0, .ref qmw, .null, .null, .null, .null, .int 0, .int 0, .int 0, .int 0, .int 0, .long 0, .int 0, .int 0, .int 0, .int 0, .null, .null, .null, .null, .null, .null, .int 0, .null, .int 0, .int 0, .long 0, .int 0, .int 0, .null, .int 0, .null, .null, .null, .null, .null, .int 0, .null, .int 0, .null, .int 0, .int 0, .int 0, .null, .null, .null, .null, .null, .int 0, .null, .null, .null, .int 0, .int 0]) hx hb hT zin_X10 tyX10_ok nmX10 hown hK hw hm_me hf_me rfl 1 (by decide) (hT _ kw_1169) rfl hnm rfl rfl rfl (Nat.le_of_ble_eq_true rfl) rfl dX10_init_8 (fun H locs hw => ?_)
  obtain ⟨f3, e_f3⟩ : ∃ z, z = va_up f2 me (.inr (10, [.int 0, .ref qmw, .null, .null, .null, .null, .int 0, .int 0, .int 0, .int 0, .int 0, .long 0, .int 0, .int 0, .int 0, .int 0, .null, .null, .null, .null, .null, .null, .int 0, .null, .int 0, .int 0, .long 0, .int 0, .int 0, .null, .int 0, .null, .null, .null, .null, .null, .int 0, .null, .int 0, .null, .int 0, .int 0, .int 0, .null, .null, .null, .null, .null, .int 0, .null, .null, .null, .int 0, .int 0])) := ⟨_, rfl⟩
  rw [← e_f3] at hw
  have hf_qmw : f3 qmw = .inl (cy 1, 4, .inl (fun _ => 0)) := (congrFun e_f3 qmw).trans (z_up_ne (Ne.symm ne_me_qmw) hf_qmw)
  have hf_me : f3 me = .inr (10, [.int 0, .ref qmw, .null, .null, .null, .null, .int 0, .int 0, .int 0, .int 0, .int 0, .long 0, .int 0, .int 0, .int 0, .int 0, .null, .null, .null, .null, .null, .null, .int 0, .null, .int 0, .int 0, .long 0, .int 0, .int 0, .null, .int 0, .null, .null, .null, .null, .null, .int 0, .null, .int 0, .null, .int 0, .int 0, .int 0, .null, .null, .null, .null, .null, .int 0, .null, .null, .null, .int 0, .int 0]) := (congrFun e_f3 me).trans z_up_self
  have hfr : ∀ b ∈ L, b ≠ me → f3 b = f b := fun b hb h0 => (congrFun e_f3 b).trans (z_up_ne h0 (hfr b hb h0))
  refine lv_aload_n hx hb dX10_init_11 rfl (lv_at hl 0 rfl) ?_
  refine lv_iconst (v := 4) hx hb dX10_init_12 (by decide) ?_
  refine z_newa (atype := .int) (n := 4) (N' := 4) (a0 := (4, .inl (fun _ => 0))) (cells := 1) (slots := 4) hx hb (hT _ kw_203) rfl 1 rfl (fun _ h => by cases h) hK hw hA (fun _ => rfl) (by decide) (by decide) (by decide) (by decide) (by decide) dX10_init_13 (fun qmn H hq_qmn hw => ?_)
  refine W.widen (k := 2) (n := 8) (by decide) (by decide) ?_
  have ne_me_qmn : me ≠ qmn := z_ne hm_me hq_qmn
  have ne_qmw_qmn : qmw ≠ qmn := z_ne hm_qmw hq_qmn
  have hn_qmn : qmn ∉ L := fun h => hq_qmn (hsub _ h)
  obtain ⟨f5, e_f5⟩ : ∃ z, z = va_up f3 qmn (.inl (cy 1, 4, .inl (fun _ => 0))) := ⟨_, rfl⟩
  obtain ⟨L4, e_L4⟩ : ∃ z, z = L1 ++ [qmn] := ⟨_, rfl⟩
  rw [← e_f5, ← e_L4] at hw
  have hm_me : me ∈ L4 := by rw [e_L4]; exact List.mem_append_left _ hm_me
  have hf_me : f5 me = .inr (10, [.int 0, .ref qmw, .null, .null, .null, .null, .int 0, .int 0, .int 0, .int 0, .int 0, .long 0, .int 0, .int 0, .int 0, .int 0, .null, .null, .null, .null, .null, .null, .int 0, .null, .int 0, .int 0, .long 0, .int 0, .int 0, .null, .int 0, .null, .null, .null, .null, .null, .int 0, .null, .int 0, .null, .int 0, .int 0, .int 0, .null, .null, .null, .null, .null, .int 0, .null, .null, .null, .int 0, .int 0]) := (congrFun e_f5 me).trans (z_up_ne ne_me_qmn hf_me)
  have hm_qmw : qmw ∈ L4 := by rw [e_L4]; exact List.mem_append_left _ hm_qmw
  have hf_qmw : f5 qmw = .inl (cy 1, 4, .inl (fun _ => 0)) := (congrFun e_f5 qmw).trans (z_up_ne ne_qmw_qmn hf_qmw)
  have hm_qmn : qmn ∈ L4 := by rw [e_L4]; exact List.mem_append_right _ (List.mem_singleton.mpr rfl)
  have hf_qmn : f5 qmn = .inl (cy 1, 4, .inl (fun _ => 0)) := (congrFun e_f5 qmn).trans z_up_self
  have hsub : ∀ b ∈ L, b ∈ L4 := fun b h => by rw [e_L4]; exact List.mem_append_left _ (hsub b h)
  have hfr : ∀ b ∈ L, b ≠ me → f5 b = f b := fun b hb h0 => (congrFun e_f5 b).trans (z_up_ne (z_ne hb hn_qmn) (hfr b hb h0))
  refine z_putF (C := RX10) (T := TX10) (N := 54) (ci := 10) (v := .ref qmn) (fs' := [.int 0, .ref qmw, .ref qmn, .null, .null, .null, .int 0, .int 0, .int 0, .int 0, .int 0, .long 0, .int 0, .int 0, .int 0, .int 0, .null, .null, .null, .null, .null, .null, .int 0, .null, .int 0, .int 0, .long 0, .int 0, .int 0, .null, .int 0, .null, .null, .null, .null, .null, .int 0, .null, .int 0, .null, .int 0, .int 0, .int 0, .null, .null, .null, .null, .null, .int 0, .null, .null, .null, .int 0, .int 0]) hx hb hT zin_X10 tyX10_ok nmX10 hown hK hw hm_me hf_me rfl 2 (by decide) (hT _ kw_1170) rfl hnm rfl rfl rfl (Nat.le_of_ble_eq_true rfl) rfl dX10_init_15 (fun H locs hw => ?_)
  obtain ⟨f6, e_f6⟩ : ∃ z, z = va_up f5 me (.inr (10, [.int 0, .ref qmw, .ref qmn, .null, .null, .null, .int 0, .int 0, .int 0, .int 0, .int 0, .long 0, .int 0, .int 0, .int 0, .int 0, .null, .null, .null, .null, .null, .null, .int 0, .null, .int 0, .int 0, .long 0, .int 0, .int 0, .null, .int 0, .null, .null, .null, .null, .null, .int 0, .null, .int 0, .null, .int 0, .int 0, .int 0, .null, .null, .null, .null, .null, .int 0, .null, .null, .null, .int 0, .int 0])) := ⟨_, rfl⟩
  rw [← e_f6] at hw
  have hf_qmw : f6 qmw = .inl (cy 1, 4, .inl (fun _ => 0)) := (congrFun e_f6 qmw).trans (z_up_ne (Ne.symm ne_me_qmw) hf_qmw)
  have hf_qmn : f6 qmn = .inl (cy 1, 4, .inl (fun _ => 0)) := (congrFun e_f6 qmn).trans (z_up_ne (Ne.symm ne_me_qmn) hf_qmn)
  have hf_me : f6 me = .inr (10, [.int 0, .ref qmw, .ref qmn, .null, .null, .null, .int 0, .int 0, .int 0, .int 0, .int 0, .long 0, .int 0, .int 0, .int 0, .int 0, .null, .null, .null, .null, .null, .null, .int 0, .null, .int 0, .int 0, .long 0, .int 0, .int 0, .null, .int 0, .null, .null, .null, .null, .null, .int 0, .null, .int 0, .null, .int 0, .int 0, .int 0, .null, .null, .null, .null, .null, .int 0, .null, .null, .null, .int 0, .int 0]) := (congrFun e_f6 me).trans z_up_self
  have hfr : ∀ b ∈ L, b ≠ me → f6 b = f b := fun b hb h0 => (congrFun e_f6 b).trans (z_up_ne h0 (hfr b hb h0))
  refine lv_aload_n hx hb dX10_init_18 rfl (lv_at hl 0 rfl) ?_
  refine lv_sipush (v := 240) hx hb dX10_init_19 (by decide) ?_
  refine z_newa (atype := .long) (n := 240) (N' := 240) (a0 := (240, .inr (.inl (fun _ => 0)))) (cells := 2) (slots := 8) hx hb (hT _ kw_335) rfl 2 rfl (fun _ h => by cases h) hK hw hA (fun _ => rfl) (by decide) (by decide) (by decide) (by decide) (by decide) dX10_init_22 (fun qmc H hq_qmc hw => ?_)
  refine W.widen (k := 3) (n := 248) (by decide) (by decide) ?_
  have ne_me_qmc : me ≠ qmc := z_ne hm_me hq_qmc
  have ne_qmw_qmc : qmw ≠ qmc := z_ne hm_qmw hq_qmc
  have ne_qmn_qmc : qmn ≠ qmc := z_ne hm_qmn hq_qmc
  have hn_qmc : qmc ∉ L := fun h => hq_qmc (hsub _ h)
  obtain ⟨f8, e_f8⟩ : ∃ z, z = va_up f6 qmc (.inl (cy 2, 240, .inr (.inl (fun _ => 0)))) := ⟨_, rfl⟩
  obtain ⟨L7, e_L7⟩ : ∃ z, z = L4 ++ [qmc] := ⟨_, rfl⟩
  rw [← e_f8, ← e_L7] at hw
  have hm_me : me ∈ L7 := by rw [e_L7]; exact List.mem_append_left _ hm_me
  have hf_me : f8 me = .inr (10, [.int 0, .ref qmw, .ref qmn, .null, .null, .null, .int 0, .int 0, .int 0, .int 0, .int 0, .long 0, .int 0, .int 0, .int 0, .int 0, .null, .null, .null, .null, .null, .null, .int 0, .null, .int 0, .int 0, .long 0, .int 0, .int 0, .null, .int 0, .null, .null, .null, .null, .null, .int 0, .null, .int 0, .null, .int 0, .int 0, .int 0, .null, .null, .null, .null, .null, .int 0, .null, .null, .null, .int 0, .int 0]) := (congrFun e_f8 me).trans (z_up_ne ne_me_qmc hf_me)
  have hm_qmw : qmw ∈ L7 := by rw [e_L7]; exact List.mem_append_left _ hm_qmw
  have hf_qmw : f8 qmw = .inl (cy 1, 4, .inl (fun _ => 0)) := (congrFun e_f8 qmw).trans (z_up_ne ne_qmw_qmc hf_qmw)
  have hm_qmn : qmn ∈ L7 := by rw [e_L7]; exact List.mem_append_left _ hm_qmn
  have hf_qmn : f8 qmn = .inl (cy 1, 4, .inl (fun _ => 0)) := (congrFun e_f8 qmn).trans (z_up_ne ne_qmn_qmc hf_qmn)
  have hm_qmc : qmc ∈ L7 := by rw [e_L7]; exact List.mem_append_right _ (List.mem_singleton.mpr rfl)
  have hf_qmc : f8 qmc = .inl (cy 2, 240, .inr (.inl (fun _ => 0))) := (congrFun e_f8 qmc).trans z_up_self
  have hsub : ∀ b ∈ L, b ∈ L7 := fun b h => by rw [e_L7]; exact List.mem_append_left _ (hsub b h)
  have hfr : ∀ b ∈ L, b ≠ me → f8 b = f b := fun b hb h0 => (congrFun e_f8 b).trans (z_up_ne (z_ne hb hn_qmc) (hfr b hb h0))
  refine z_putF (C := RX10) (T := TX10) (N := 54) (ci := 10) (v := .ref qmc) (fs' := [.int 0, .ref qmw, .ref qmn, .ref qmc, .null, .null, .int 0, .int 0, .int 0, .int 0, .int 0, .long 0, .int 0, .int 0, .int 0, .int 0, .null, .null, .null, .null, .null, .null, .int 0, .null, .int 0, .int 0, .long 0, .int 0, .int 0, .null, .int 0, .null, .null, .null, .null, .null, .int 0, .null, .int 0, .null, .int 0, .int 0, .int 0, .null, .null, .null, .null, .null, .int 0, .null, .null, .null, .int 0, .int 0]) hx hb hT zin_X10 tyX10_ok nmX10 hown hK hw hm_me hf_me rfl 3 (by decide) (hT _ kw_1171) rfl hnm rfl rfl rfl (Nat.le_of_ble_eq_true rfl) rfl dX10_init_24 (fun H locs hw => ?_)
  obtain ⟨f9, e_f9⟩ : ∃ z, z = va_up f8 me (.inr (10, [.int 0, .ref qmw, .ref qmn, .ref qmc, .null, .null, .int 0, .int 0, .int 0, .int 0, .int 0, .long 0, .int 0, .int 0, .int 0, .int 0, .null, .null, .null, .null, .null, .null, .int 0, .null, .int 0, .int 0, .long 0, .int 0, .int 0, .null, .int 0, .null, .null, .null, .null, .null, .int 0, .null, .int 0, .null, .int 0, .int 0, .int 0, .null, .null, .null, .null, .null, .int 0, .null, .null, .null, .int 0, .int 0])) := ⟨_, rfl⟩
  rw [← e_f9] at hw
  have hf_qmw : f9 qmw = .inl (cy 1, 4, .inl (fun _ => 0)) := (congrFun e_f9 qmw).trans (z_up_ne (Ne.symm ne_me_qmw) hf_qmw)
  have hf_qmn : f9 qmn = .inl (cy 1, 4, .inl (fun _ => 0)) := (congrFun e_f9 qmn).trans (z_up_ne (Ne.symm ne_me_qmn) hf_qmn)
  have hf_qmc : f9 qmc = .inl (cy 2, 240, .inr (.inl (fun _ => 0))) := (congrFun e_f9 qmc).trans (z_up_ne (Ne.symm ne_me_qmc) hf_qmc)
  have hf_me : f9 me = .inr (10, [.int 0, .ref qmw, .ref qmn, .ref qmc, .null, .null, .int 0, .int 0, .int 0, .int 0, .int 0, .long 0, .int 0, .int 0, .int 0, .int 0, .null, .null, .null, .null, .null, .null, .int 0, .null, .int 0, .int 0, .long 0, .int 0, .int 0, .null, .int 0, .null, .null, .null, .null, .null, .int 0, .null, .int 0, .null, .int 0, .int 0, .int 0, .null, .null, .null, .null, .null, .int 0, .null, .null, .null, .int 0, .int 0]) := (congrFun e_f9 me).trans z_up_self
  have hfr : ∀ b ∈ L, b ≠ me → f9 b = f b := fun b hb h0 => (congrFun e_f9 b).trans (z_up_ne h0 (hfr b hb h0))
  refine lv_aload_n hx hb dX10_init_27 rfl (lv_at hl 0 rfl) ?_
  refine lv_bipush (v := 60) hx hb dX10_init_28 (by decide) ?_
  refine z_newa (atype := .long) (n := 60) (N' := 60) (a0 := (60, .inr (.inl (fun _ => 0)))) (cells := 3) (slots := 248) hx hb (hT _ kw_335) rfl 2 rfl (fun _ h => by cases h) hK hw hA (fun _ => rfl) (by decide) (by decide) (by decide) (by decide) (by decide) dX10_init_30 (fun qmv H hq_qmv hw => ?_)
  refine W.widen (k := 4) (n := 308) (by decide) (by decide) ?_
  have ne_me_qmv : me ≠ qmv := z_ne hm_me hq_qmv
  have ne_qmw_qmv : qmw ≠ qmv := z_ne hm_qmw hq_qmv
  have ne_qmn_qmv : qmn ≠ qmv := z_ne hm_qmn hq_qmv
  have ne_qmc_qmv : qmc ≠ qmv := z_ne hm_qmc hq_qmv
  have hn_qmv : qmv ∉ L := fun h => hq_qmv (hsub _ h)
  obtain ⟨f11, e_f11⟩ : ∃ z, z = va_up f9 qmv (.inl (cy 2, 60, .inr (.inl (fun _ => 0)))) := ⟨_, rfl⟩
  obtain ⟨L10, e_L10⟩ : ∃ z, z = L7 ++ [qmv] := ⟨_, rfl⟩
  rw [← e_f11, ← e_L10] at hw
  have hm_me : me ∈ L10 := by rw [e_L10]; exact List.mem_append_left _ hm_me
  have hf_me : f11 me = .inr (10, [.int 0, .ref qmw, .ref qmn, .ref qmc, .null, .null, .int 0, .int 0, .int 0, .int 0, .int 0, .long 0, .int 0, .int 0, .int 0, .int 0, .null, .null, .null, .null, .null, .null, .int 0, .null, .int 0, .int 0, .long 0, .int 0, .int 0, .null, .int 0, .null, .null, .null, .null, .null, .int 0, .null, .int 0, .null, .int 0, .int 0, .int 0, .null, .null, .null, .null, .null, .int 0, .null, .null, .null, .int 0, .int 0]) := (congrFun e_f11 me).trans (z_up_ne ne_me_qmv hf_me)
  have hm_qmw : qmw ∈ L10 := by rw [e_L10]; exact List.mem_append_left _ hm_qmw
  have hf_qmw : f11 qmw = .inl (cy 1, 4, .inl (fun _ => 0)) := (congrFun e_f11 qmw).trans (z_up_ne ne_qmw_qmv hf_qmw)
  have hm_qmn : qmn ∈ L10 := by rw [e_L10]; exact List.mem_append_left _ hm_qmn
  have hf_qmn : f11 qmn = .inl (cy 1, 4, .inl (fun _ => 0)) := (congrFun e_f11 qmn).trans (z_up_ne ne_qmn_qmv hf_qmn)
  have hm_qmc : qmc ∈ L10 := by rw [e_L10]; exact List.mem_append_left _ hm_qmc
  have hf_qmc : f11 qmc = .inl (cy 2, 240, .inr (.inl (fun _ => 0))) := (congrFun e_f11 qmc).trans (z_up_ne ne_qmc_qmv hf_qmc)
  have hm_qmv : qmv ∈ L10 := by rw [e_L10]; exact List.mem_append_right _ (List.mem_singleton.mpr rfl)
  have hf_qmv : f11 qmv = .inl (cy 2, 60, .inr (.inl (fun _ => 0))) := (congrFun e_f11 qmv).trans z_up_self
  have hsub : ∀ b ∈ L, b ∈ L10 := fun b h => by rw [e_L10]; exact List.mem_append_left _ (hsub b h)
  have hfr : ∀ b ∈ L, b ≠ me → f11 b = f b := fun b hb h0 => (congrFun e_f11 b).trans (z_up_ne (z_ne hb hn_qmv) (hfr b hb h0))
  refine z_putF (C := RX10) (T := TX10) (N := 54) (ci := 10) (v := .ref qmv) (fs' := [.int 0, .ref qmw, .ref qmn, .ref qmc, .ref qmv, .null, .int 0, .int 0, .int 0, .int 0, .int 0, .long 0, .int 0, .int 0, .int 0, .int 0, .null, .null, .null, .null, .null, .null, .int 0, .null, .int 0, .int 0, .long 0, .int 0, .int 0, .null, .int 0, .null, .null, .null, .null, .null, .int 0, .null, .int 0, .null, .int 0, .int 0, .int 0, .null, .null, .null, .null, .null, .int 0, .null, .null, .null, .int 0, .int 0]) hx hb hT zin_X10 tyX10_ok nmX10 hown hK hw hm_me hf_me rfl 4 (by decide) (hT _ kw_1172) rfl hnm rfl rfl rfl (Nat.le_of_ble_eq_true rfl) rfl dX10_init_32 (fun H locs hw => ?_)
  obtain ⟨f12, e_f12⟩ : ∃ z, z = va_up f11 me (.inr (10, [.int 0, .ref qmw, .ref qmn, .ref qmc, .ref qmv, .null, .int 0, .int 0, .int 0, .int 0, .int 0, .long 0, .int 0, .int 0, .int 0, .int 0, .null, .null, .null, .null, .null, .null, .int 0, .null, .int 0, .int 0, .long 0, .int 0, .int 0, .null, .int 0, .null, .null, .null, .null, .null, .int 0, .null, .int 0, .null, .int 0, .int 0, .int 0, .null, .null, .null, .null, .null, .int 0, .null, .null, .null, .int 0, .int 0])) := ⟨_, rfl⟩
  rw [← e_f12] at hw
  have hf_qmw : f12 qmw = .inl (cy 1, 4, .inl (fun _ => 0)) := (congrFun e_f12 qmw).trans (z_up_ne (Ne.symm ne_me_qmw) hf_qmw)
  have hf_qmn : f12 qmn = .inl (cy 1, 4, .inl (fun _ => 0)) := (congrFun e_f12 qmn).trans (z_up_ne (Ne.symm ne_me_qmn) hf_qmn)
  have hf_qmc : f12 qmc = .inl (cy 2, 240, .inr (.inl (fun _ => 0))) := (congrFun e_f12 qmc).trans (z_up_ne (Ne.symm ne_me_qmc) hf_qmc)
  have hf_qmv : f12 qmv = .inl (cy 2, 60, .inr (.inl (fun _ => 0))) := (congrFun e_f12 qmv).trans (z_up_ne (Ne.symm ne_me_qmv) hf_qmv)
  have hf_me : f12 me = .inr (10, [.int 0, .ref qmw, .ref qmn, .ref qmc, .ref qmv, .null, .int 0, .int 0, .int 0, .int 0, .int 0, .long 0, .int 0, .int 0, .int 0, .int 0, .null, .null, .null, .null, .null, .null, .int 0, .null, .int 0, .int 0, .long 0, .int 0, .int 0, .null, .int 0, .null, .null, .null, .null, .null, .int 0, .null, .int 0, .null, .int 0, .int 0, .int 0, .null, .null, .null, .null, .null, .int 0, .null, .null, .null, .int 0, .int 0]) := (congrFun e_f12 me).trans z_up_self
  have hfr : ∀ b ∈ L, b ≠ me → f12 b = f b := fun b hb h0 => (congrFun e_f12 b).trans (z_up_ne h0 (hfr b hb h0))
  refine lv_aload_n hx hb dX10_init_35 rfl (lv_at hl 0 rfl) ?_
  refine lv_sipush (v := 1600) hx hb dX10_init_36 (by decide) ?_
  refine z_newa (atype := .byte) (n := 1600) (N' := 1600) (a0 := (1600, .inl (fun _ => 0))) (cells := 4) (slots := 308) hx hb (hT _ kw_127) rfl 0 rfl (fun _ h => by cases h) hK hw hA (fun _ => rfl) (by decide) (by decide) (by decide) (by decide) (by decide) dX10_init_39 (fun qmt H hq_qmt hw => ?_)
  refine W.widen (k := 5) (n := 1908) (by decide) (by decide) ?_
  have ne_me_qmt : me ≠ qmt := z_ne hm_me hq_qmt
  have ne_qmw_qmt : qmw ≠ qmt := z_ne hm_qmw hq_qmt
  have ne_qmn_qmt : qmn ≠ qmt := z_ne hm_qmn hq_qmt
  have ne_qmc_qmt : qmc ≠ qmt := z_ne hm_qmc hq_qmt
  have ne_qmv_qmt : qmv ≠ qmt := z_ne hm_qmv hq_qmt
  have hn_qmt : qmt ∉ L := fun h => hq_qmt (hsub _ h)
  obtain ⟨f14, e_f14⟩ : ∃ z, z = va_up f12 qmt (.inl (cy 0, 1600, .inl (fun _ => 0))) := ⟨_, rfl⟩
  obtain ⟨L13, e_L13⟩ : ∃ z, z = L10 ++ [qmt] := ⟨_, rfl⟩
  rw [← e_f14, ← e_L13] at hw
  have hm_me : me ∈ L13 := by rw [e_L13]; exact List.mem_append_left _ hm_me
  have hf_me : f14 me = .inr (10, [.int 0, .ref qmw, .ref qmn, .ref qmc, .ref qmv, .null, .int 0, .int 0, .int 0, .int 0, .int 0, .long 0, .int 0, .int 0, .int 0, .int 0, .null, .null, .null, .null, .null, .null, .int 0, .null, .int 0, .int 0, .long 0, .int 0, .int 0, .null, .int 0, .null, .null, .null, .null, .null, .int 0, .null, .int 0, .null, .int 0, .int 0, .int 0, .null, .null, .null, .null, .null, .int 0, .null, .null, .null, .int 0, .int 0]) := (congrFun e_f14 me).trans (z_up_ne ne_me_qmt hf_me)
  have hm_qmw : qmw ∈ L13 := by rw [e_L13]; exact List.mem_append_left _ hm_qmw
  have hf_qmw : f14 qmw = .inl (cy 1, 4, .inl (fun _ => 0)) := (congrFun e_f14 qmw).trans (z_up_ne ne_qmw_qmt hf_qmw)
  have hm_qmn : qmn ∈ L13 := by rw [e_L13]; exact List.mem_append_left _ hm_qmn
  have hf_qmn : f14 qmn = .inl (cy 1, 4, .inl (fun _ => 0)) := (congrFun e_f14 qmn).trans (z_up_ne ne_qmn_qmt hf_qmn)
  have hm_qmc : qmc ∈ L13 := by rw [e_L13]; exact List.mem_append_left _ hm_qmc
  have hf_qmc : f14 qmc = .inl (cy 2, 240, .inr (.inl (fun _ => 0))) := (congrFun e_f14 qmc).trans (z_up_ne ne_qmc_qmt hf_qmc)
  have hm_qmv : qmv ∈ L13 := by rw [e_L13]; exact List.mem_append_left _ hm_qmv
  have hf_qmv : f14 qmv = .inl (cy 2, 60, .inr (.inl (fun _ => 0))) := (congrFun e_f14 qmv).trans (z_up_ne ne_qmv_qmt hf_qmv)
  have hm_qmt : qmt ∈ L13 := by rw [e_L13]; exact List.mem_append_right _ (List.mem_singleton.mpr rfl)
  have hf_qmt : f14 qmt = .inl (cy 0, 1600, .inl (fun _ => 0)) := (congrFun e_f14 qmt).trans z_up_self
  have hsub : ∀ b ∈ L, b ∈ L13 := fun b h => by rw [e_L13]; exact List.mem_append_left _ (hsub b h)
  have hfr : ∀ b ∈ L, b ≠ me → f14 b = f b := fun b hb h0 => (congrFun e_f14 b).trans (z_up_ne (z_ne hb hn_qmt) (hfr b hb h0))
  refine z_putF (C := RX10) (T := TX10) (N := 54) (ci := 10) (v := .ref qmt) (fs' := [.int 0, .ref qmw, .ref qmn, .ref qmc, .ref qmv, .ref qmt, .int 0, .int 0, .int 0, .int 0, .int 0, .long 0, .int 0, .int 0, .int 0, .int 0, .null, .null, .null, .null, .null, .null, .int 0, .null, .int 0, .int 0, .long 0, .int 0, .int 0, .null, .int 0, .null, .null, .null, .null, .null, .int 0, .null, .int 0, .null, .int 0, .int 0, .int 0, .null, .null, .null, .null, .null, .int 0, .null, .null, .null, .int 0, .int 0]) hx hb hT zin_X10 tyX10_ok nmX10 hown hK hw hm_me hf_me rfl 5 (by decide) (hT _ kw_1173) rfl hnm rfl rfl rfl (Nat.le_of_ble_eq_true rfl) rfl dX10_init_41 (fun H locs hw => ?_)
  obtain ⟨f15, e_f15⟩ : ∃ z, z = va_up f14 me (.inr (10, [.int 0, .ref qmw, .ref qmn, .ref qmc, .ref qmv, .ref qmt, .int 0, .int 0, .int 0, .int 0, .int 0, .long 0, .int 0, .int 0, .int 0, .int 0, .null, .null, .null, .null, .null, .null, .int 0, .null, .int 0, .int 0, .long 0, .int 0, .int 0, .null, .int 0, .null, .null, .null, .null, .null, .int 0, .null, .int 0, .null, .int 0, .int 0, .int 0, .null, .null, .null, .null, .null, .int 0, .null, .null, .null, .int 0, .int 0])) := ⟨_, rfl⟩
  rw [← e_f15] at hw
  have hf_qmw : f15 qmw = .inl (cy 1, 4, .inl (fun _ => 0)) := (congrFun e_f15 qmw).trans (z_up_ne (Ne.symm ne_me_qmw) hf_qmw)
  have hf_qmn : f15 qmn = .inl (cy 1, 4, .inl (fun _ => 0)) := (congrFun e_f15 qmn).trans (z_up_ne (Ne.symm ne_me_qmn) hf_qmn)
  have hf_qmc : f15 qmc = .inl (cy 2, 240, .inr (.inl (fun _ => 0))) := (congrFun e_f15 qmc).trans (z_up_ne (Ne.symm ne_me_qmc) hf_qmc)
  have hf_qmv : f15 qmv = .inl (cy 2, 60, .inr (.inl (fun _ => 0))) := (congrFun e_f15 qmv).trans (z_up_ne (Ne.symm ne_me_qmv) hf_qmv)
  have hf_qmt : f15 qmt = .inl (cy 0, 1600, .inl (fun _ => 0)) := (congrFun e_f15 qmt).trans (z_up_ne (Ne.symm ne_me_qmt) hf_qmt)
  have hf_me : f15 me = .inr (10, [.int 0, .ref qmw, .ref qmn, .ref qmc, .ref qmv, .ref qmt, .int 0, .int 0, .int 0, .int 0, .int 0, .long 0, .int 0, .int 0, .int 0, .int 0, .null, .null, .null, .null, .null, .null, .int 0, .null, .int 0, .int 0, .long 0, .int 0, .int 0, .null, .int 0, .null, .null, .null, .null, .null, .int 0, .null, .int 0, .null, .int 0, .int 0, .int 0, .null, .null, .null, .null, .null, .int 0, .null, .null, .null, .int 0, .int 0]) := (congrFun e_f15 me).trans z_up_self
  have hfr : ∀ b ∈ L, b ≠ me → f15 b = f b := fun b hb h0 => (congrFun e_f15 b).trans (z_up_ne h0 (hfr b hb h0))
  refine lv_aload_n hx hb dX10_init_44 rfl (lv_at hl 0 rfl) ?_
  refine lv_iconst (v := (-1)) hx hb dX10_init_45 (by decide) ?_
  refine z_put (C := RX10) (T := TX10) (N := 54) (ci := 10) (v := .int (-1)) (fs' := [.int 0, .ref qmw, .ref qmn, .ref qmc, .ref qmv, .ref qmt, .int 0, .int 0, .int 0, .int 0, .int 0, .long 0, .int 0, .int 0, .int 0, .int (-1), .null, .null, .null, .null, .null, .null, .int 0, .null, .int 0, .int 0, .long 0, .int 0, .int 0, .null, .int 0, .null, .null, .null, .null, .null, .int 0, .null, .int 0, .null, .int 0, .int 0, .int 0, .null, .null, .null, .null, .null, .int 0, .null, .null, .null, .int 0, .int 0]) hx hb hT zin_X10 tyX10_ok nmX10 hown hK hw hm_me hf_me rfl 15 (by decide) (hT _ kw_1183) rfl rfl rfl (Nat.le_of_ble_eq_true rfl) rfl dX10_init_46 (fun H locs hw => ?_)
  obtain ⟨f16, e_f16⟩ : ∃ z, z = va_up f15 me (.inr (10, [.int 0, .ref qmw, .ref qmn, .ref qmc, .ref qmv, .ref qmt, .int 0, .int 0, .int 0, .int 0, .int 0, .long 0, .int 0, .int 0, .int 0, .int (-1), .null, .null, .null, .null, .null, .null, .int 0, .null, .int 0, .int 0, .long 0, .int 0, .int 0, .null, .int 0, .null, .null, .null, .null, .null, .int 0, .null, .int 0, .null, .int 0, .int 0, .int 0, .null, .null, .null, .null, .null, .int 0, .null, .null, .null, .int 0, .int 0])) := ⟨_, rfl⟩
  rw [← e_f16] at hw
  have hf_qmw : f16 qmw = .inl (cy 1, 4, .inl (fun _ => 0)) := (congrFun e_f16 qmw).trans (z_up_ne (Ne.symm ne_me_qmw) hf_qmw)
  have hf_qmn : f16 qmn = .inl (cy 1, 4, .inl (fun _ => 0)) := (congrFun e_f16 qmn).trans (z_up_ne (Ne.symm ne_me_qmn) hf_qmn)
  have hf_qmc : f16 qmc = .inl (cy 2, 240, .inr (.inl (fun _ => 0))) := (congrFun e_f16 qmc).trans (z_up_ne (Ne.symm ne_me_qmc) hf_qmc)
  have hf_qmv : f16 qmv = .inl (cy 2, 60, .inr (.inl (fun _ => 0))) := (congrFun e_f16 qmv).trans (z_up_ne (Ne.symm ne_me_qmv) hf_qmv)
  have hf_qmt : f16 qmt = .inl (cy 0, 1600, .inl (fun _ => 0)) := (congrFun e_f16 qmt).trans (z_up_ne (Ne.symm ne_me_qmt) hf_qmt)
  have hf_me : f16 me = .inr (10, [.int 0, .ref qmw, .ref qmn, .ref qmc, .ref qmv, .ref qmt, .int 0, .int 0, .int 0, .int 0, .int 0, .long 0, .int 0, .int 0, .int 0, .int (-1), .null, .null, .null, .null, .null, .null, .int 0, .null, .int 0, .int 0, .long 0, .int 0, .int 0, .null, .int 0, .null, .null, .null, .null, .null, .int 0, .null, .int 0, .null, .int 0, .int 0, .int 0, .null, .null, .null, .null, .null, .int 0, .null, .null, .null, .int 0, .int 0]) := (congrFun e_f16 me).trans z_up_self
  have hfr : ∀ b ∈ L, b ≠ me → f16 b = f b := fun b hb h0 => (congrFun e_f16 b).trans (z_up_ne h0 (hfr b hb h0))
  refine lv_aload_n hx hb dX10_init_49 rfl (lv_at hl 0 rfl) ?_
  refine lv_iconst (v := 5) hx hb dX10_init_50 (by decide) ?_
  refine z_newa (atype := .int) (n := 5) (N' := 5) (a0 := (5, .inl (fun _ => 0))) (cells := 5) (slots := 1908) hx hb (hT _ kw_203) rfl 1 rfl (fun _ h => by cases h) hK hw hA (fun _ => rfl) (by decide) (by decide) (by decide) (by decide) (by decide) dX10_init_51 (fun qml H hq_qml hw => ?_)
  refine W.widen (k := 6) (n := 1913) (by decide) (by decide) ?_
  have ne_me_qml : me ≠ qml := z_ne hm_me hq_qml
  have ne_qmw_qml : qmw ≠ qml := z_ne hm_qmw hq_qml
  have ne_qmn_qml : qmn ≠ qml := z_ne hm_qmn hq_qml
  have ne_qmc_qml : qmc ≠ qml := z_ne hm_qmc hq_qml
  have ne_qmv_qml : qmv ≠ qml := z_ne hm_qmv hq_qml
  have ne_qmt_qml : qmt ≠ qml := z_ne hm_qmt hq_qml
  have hn_qml : qml ∉ L := fun h => hq_qml (hsub _ h)
  obtain ⟨f18, e_f18⟩ : ∃ z, z = va_up f16 qml (.inl (cy 1, 5, .inl (fun _ => 0))) := ⟨_, rfl⟩
  obtain ⟨L17, e_L17⟩ : ∃ z, z = L13 ++ [qml] := ⟨_, rfl⟩
  rw [← e_f18, ← e_L17] at hw
  have hm_me : me ∈ L17 := by rw [e_L17]; exact List.mem_append_left _ hm_me
  have hf_me : f18 me = .inr (10, [.int 0, .ref qmw, .ref qmn, .ref qmc, .ref qmv, .ref qmt, .int 0, .int 0, .int 0, .int 0, .int 0, .long 0, .int 0, .int 0, .int 0, .int (-1), .null, .null, .null, .null, .null, .null, .int 0, .null, .int 0, .int 0, .long 0, .int 0, .int 0, .null, .int 0, .null, .null, .null, .null, .null, .int 0, .null, .int 0, .null, .int 0, .int 0, .int 0, .null, .null, .null, .null, .null, .int 0, .null, .null, .null, .int 0, .int 0]) := (congrFun e_f18 me).trans (z_up_ne ne_me_qml hf_me)
  have hm_qmw : qmw ∈ L17 := by rw [e_L17]; exact List.mem_append_left _ hm_qmw
  have hf_qmw : f18 qmw = .inl (cy 1, 4, .inl (fun _ => 0)) := (congrFun e_f18 qmw).trans (z_up_ne ne_qmw_qml hf_qmw)
  have hm_qmn : qmn ∈ L17 := by rw [e_L17]; exact List.mem_append_left _ hm_qmn
  have hf_qmn : f18 qmn = .inl (cy 1, 4, .inl (fun _ => 0)) := (congrFun e_f18 qmn).trans (z_up_ne ne_qmn_qml hf_qmn)
  have hm_qmc : qmc ∈ L17 := by rw [e_L17]; exact List.mem_append_left _ hm_qmc
  have hf_qmc : f18 qmc = .inl (cy 2, 240, .inr (.inl (fun _ => 0))) := (congrFun e_f18 qmc).trans (z_up_ne ne_qmc_qml hf_qmc)
  have hm_qmv : qmv ∈ L17 := by rw [e_L17]; exact List.mem_append_left _ hm_qmv
  have hf_qmv : f18 qmv = .inl (cy 2, 60, .inr (.inl (fun _ => 0))) := (congrFun e_f18 qmv).trans (z_up_ne ne_qmv_qml hf_qmv)
  have hm_qmt : qmt ∈ L17 := by rw [e_L17]; exact List.mem_append_left _ hm_qmt
  have hf_qmt : f18 qmt = .inl (cy 0, 1600, .inl (fun _ => 0)) := (congrFun e_f18 qmt).trans (z_up_ne ne_qmt_qml hf_qmt)
  have hm_qml : qml ∈ L17 := by rw [e_L17]; exact List.mem_append_right _ (List.mem_singleton.mpr rfl)
  have hf_qml : f18 qml = .inl (cy 1, 5, .inl (fun _ => 0)) := (congrFun e_f18 qml).trans z_up_self
  have hsub : ∀ b ∈ L, b ∈ L17 := fun b h => by rw [e_L17]; exact List.mem_append_left _ (hsub b h)
  have hfr : ∀ b ∈ L, b ≠ me → f18 b = f b := fun b hb h0 => (congrFun e_f18 b).trans (z_up_ne (z_ne hb hn_qml) (hfr b hb h0))
  refine z_putF (C := RX10) (T := TX10) (N := 54) (ci := 10) (v := .ref qml) (fs' := [.int 0, .ref qmw, .ref qmn, .ref qmc, .ref qmv, .ref qmt, .int 0, .int 0, .int 0, .int 0, .int 0, .long 0, .int 0, .int 0, .int 0, .int (-1), .ref qml, .null, .null, .null, .null, .null, .int 0, .null, .int 0, .int 0, .long 0, .int 0, .int 0, .null, .int 0, .null, .null, .null, .null, .null, .int 0, .null, .int 0, .null, .int 0, .int 0, .int 0, .null, .null, .null, .null, .null, .int 0, .null, .null, .null, .int 0, .int 0]) hx hb hT zin_X10 tyX10_ok nmX10 hown hK hw hm_me hf_me rfl 16 (by decide) (hT _ kw_1184) rfl hnm rfl rfl rfl (Nat.le_of_ble_eq_true rfl) rfl dX10_init_53 (fun H locs hw => ?_)
  obtain ⟨f19, e_f19⟩ : ∃ z, z = va_up f18 me (.inr (10, [.int 0, .ref qmw, .ref qmn, .ref qmc, .ref qmv, .ref qmt, .int 0, .int 0, .int 0, .int 0, .int 0, .long 0, .int 0, .int 0, .int 0, .int (-1), .ref qml, .null, .null, .null, .null, .null, .int 0, .null, .int 0, .int 0, .long 0, .int 0, .int 0, .null, .int 0, .null, .null, .null, .null, .null, .int 0, .null, .int 0, .null, .int 0, .int 0, .int 0, .null, .null, .null, .null, .null, .int 0, .null, .null, .null, .int 0, .int 0])) := ⟨_, rfl⟩
  rw [← e_f19] at hw
  have hf_qmw : f19 qmw = .inl (cy 1, 4, .inl (fun _ => 0)) := (congrFun e_f19 qmw).trans (z_up_ne (Ne.symm ne_me_qmw) hf_qmw)
  have hf_qmn : f19 qmn = .inl (cy 1, 4, .inl (fun _ => 0)) := (congrFun e_f19 qmn).trans (z_up_ne (Ne.symm ne_me_qmn) hf_qmn)
  have hf_qmc : f19 qmc = .inl (cy 2, 240, .inr (.inl (fun _ => 0))) := (congrFun e_f19 qmc).trans (z_up_ne (Ne.symm ne_me_qmc) hf_qmc)
  have hf_qmv : f19 qmv = .inl (cy 2, 60, .inr (.inl (fun _ => 0))) := (congrFun e_f19 qmv).trans (z_up_ne (Ne.symm ne_me_qmv) hf_qmv)
  have hf_qmt : f19 qmt = .inl (cy 0, 1600, .inl (fun _ => 0)) := (congrFun e_f19 qmt).trans (z_up_ne (Ne.symm ne_me_qmt) hf_qmt)
  have hf_qml : f19 qml = .inl (cy 1, 5, .inl (fun _ => 0)) := (congrFun e_f19 qml).trans (z_up_ne (Ne.symm ne_me_qml) hf_qml)
  have hf_me : f19 me = .inr (10, [.int 0, .ref qmw, .ref qmn, .ref qmc, .ref qmv, .ref qmt, .int 0, .int 0, .int 0, .int 0, .int 0, .long 0, .int 0, .int 0, .int 0, .int (-1), .ref qml, .null, .null, .null, .null, .null, .int 0, .null, .int 0, .int 0, .long 0, .int 0, .int 0, .null, .int 0, .null, .null, .null, .null, .null, .int 0, .null, .int 0, .null, .int 0, .int 0, .int 0, .null, .null, .null, .null, .null, .int 0, .null, .null, .null, .int 0, .int 0]) := (congrFun e_f19 me).trans z_up_self
  have hfr : ∀ b ∈ L, b ≠ me → f19 b = f b := fun b hb h0 => (congrFun e_f19 b).trans (z_up_ne h0 (hfr b hb h0))
  refine lv_aload_n hx hb dX10_init_56 rfl (lv_at hl 0 rfl) ?_
  refine lv_bipush (v := 30) hx hb dX10_init_57 (by decide) ?_
  refine z_newa (atype := .int) (n := 30) (N' := 30) (a0 := (30, .inl (fun _ => 0))) (cells := 6) (slots := 1913) hx hb (hT _ kw_203) rfl 1 rfl (fun _ h => by cases h) hK hw hA (fun _ => rfl) (by decide) (by decide) (by decide) (by decide) (by decide) dX10_init_59 (fun qmh H hq_qmh hw => ?_)
  refine W.widen (k := 7) (n := 1943) (by decide) (by decide) ?_
  have ne_me_qmh : me ≠ qmh := z_ne hm_me hq_qmh
  have ne_qmw_qmh : qmw ≠ qmh := z_ne hm_qmw hq_qmh
  have ne_qmn_qmh : qmn ≠ qmh := z_ne hm_qmn hq_qmh
  have ne_qmc_qmh : qmc ≠ qmh := z_ne hm_qmc hq_qmh
  have ne_qmv_qmh : qmv ≠ qmh := z_ne hm_qmv hq_qmh
  have ne_qmt_qmh : qmt ≠ qmh := z_ne hm_qmt hq_qmh
  have ne_qml_qmh : qml ≠ qmh := z_ne hm_qml hq_qmh
  have hn_qmh : qmh ∉ L := fun h => hq_qmh (hsub _ h)
  obtain ⟨f21, e_f21⟩ : ∃ z, z = va_up f19 qmh (.inl (cy 1, 30, .inl (fun _ => 0))) := ⟨_, rfl⟩
  obtain ⟨L20, e_L20⟩ : ∃ z, z = L17 ++ [qmh] := ⟨_, rfl⟩
  rw [← e_f21, ← e_L20] at hw
  have hm_me : me ∈ L20 := by rw [e_L20]; exact List.mem_append_left _ hm_me
  have hf_me : f21 me = .inr (10, [.int 0, .ref qmw, .ref qmn, .ref qmc, .ref qmv, .ref qmt, .int 0, .int 0, .int 0, .int 0, .int 0, .long 0, .int 0, .int 0, .int 0, .int (-1), .ref qml, .null, .null, .null, .null, .null, .int 0, .null, .int 0, .int 0, .long 0, .int 0, .int 0, .null, .int 0, .null, .null, .null, .null, .null, .int 0, .null, .int 0, .null, .int 0, .int 0, .int 0, .null, .null, .null, .null, .null, .int 0, .null, .null, .null, .int 0, .int 0]) := (congrFun e_f21 me).trans (z_up_ne ne_me_qmh hf_me)
  have hm_qmw : qmw ∈ L20 := by rw [e_L20]; exact List.mem_append_left _ hm_qmw
  have hf_qmw : f21 qmw = .inl (cy 1, 4, .inl (fun _ => 0)) := (congrFun e_f21 qmw).trans (z_up_ne ne_qmw_qmh hf_qmw)
  have hm_qmn : qmn ∈ L20 := by rw [e_L20]; exact List.mem_append_left _ hm_qmn
  have hf_qmn : f21 qmn = .inl (cy 1, 4, .inl (fun _ => 0)) := (congrFun e_f21 qmn).trans (z_up_ne ne_qmn_qmh hf_qmn)
  have hm_qmc : qmc ∈ L20 := by rw [e_L20]; exact List.mem_append_left _ hm_qmc
  have hf_qmc : f21 qmc = .inl (cy 2, 240, .inr (.inl (fun _ => 0))) := (congrFun e_f21 qmc).trans (z_up_ne ne_qmc_qmh hf_qmc)
  have hm_qmv : qmv ∈ L20 := by rw [e_L20]; exact List.mem_append_left _ hm_qmv
  have hf_qmv : f21 qmv = .inl (cy 2, 60, .inr (.inl (fun _ => 0))) := (congrFun e_f21 qmv).trans (z_up_ne ne_qmv_qmh hf_qmv)
  have hm_qmt : qmt ∈ L20 := by rw [e_L20]; exact List.mem_append_left _ hm_qmt
  have hf_qmt : f21 qmt = .inl (cy 0, 1600, .inl (fun _ => 0)) := (congrFun e_f21 qmt).trans (z_up_ne ne_qmt_qmh hf_qmt)
  have hm_qml : qml ∈ L20 := by rw [e_L20]; exact List.mem_append_left _ hm_qml
  have hf_qml : f21 qml = .inl (cy 1, 5, .inl (fun _ => 0)) := (congrFun e_f21 qml).trans (z_up_ne ne_qml_qmh hf_qml)
  have hm_qmh : qmh ∈ L20 := by rw [e_L20]; exact List.mem_append_right _ (List.mem_singleton.mpr rfl)
  have hf_qmh : f21 qmh = .inl (cy 1, 30, .inl (fun _ => 0)) := (congrFun e_f21 qmh).trans z_up_self
  have hsub : ∀ b ∈ L, b ∈ L20 := fun b h => by rw [e_L20]; exact List.mem_append_left _ (hsub b h)
  have hfr : ∀ b ∈ L, b ≠ me → f21 b = f b := fun b hb h0 => (congrFun e_f21 b).trans (z_up_ne (z_ne hb hn_qmh) (hfr b hb h0))
  refine z_putF (C := RX10) (T := TX10) (N := 54) (ci := 10) (v := .ref qmh) (fs' := [.int 0, .ref qmw, .ref qmn, .ref qmc, .ref qmv, .ref qmt, .int 0, .int 0, .int 0, .int 0, .int 0, .long 0, .int 0, .int 0, .int 0, .int (-1), .ref qml, .ref qmh, .null, .null, .null, .null, .int 0, .null, .int 0, .int 0, .long 0, .int 0, .int 0, .null, .int 0, .null, .null, .null, .null, .null, .int 0, .null, .int 0, .null, .int 0, .int 0, .int 0, .null, .null, .null, .null, .null, .int 0, .null, .null, .null, .int 0, .int 0]) hx hb hT zin_X10 tyX10_ok nmX10 hown hK hw hm_me hf_me rfl 17 (by decide) (hT _ kw_1185) rfl hnm rfl rfl rfl (Nat.le_of_ble_eq_true rfl) rfl dX10_init_61 (fun H locs hw => ?_)
  obtain ⟨f22, e_f22⟩ : ∃ z, z = va_up f21 me (.inr (10, [.int 0, .ref qmw, .ref qmn, .ref qmc, .ref qmv, .ref qmt, .int 0, .int 0, .int 0, .int 0, .int 0, .long 0, .int 0, .int 0, .int 0, .int (-1), .ref qml, .ref qmh, .null, .null, .null, .null, .int 0, .null, .int 0, .int 0, .long 0, .int 0, .int 0, .null, .int 0, .null, .null, .null, .null, .null, .int 0, .null, .int 0, .null, .int 0, .int 0, .int 0, .null, .null, .null, .null, .null, .int 0, .null, .null, .null, .int 0, .int 0])) := ⟨_, rfl⟩
  rw [← e_f22] at hw
  have hf_qmw : f22 qmw = .inl (cy 1, 4, .inl (fun _ => 0)) := (congrFun e_f22 qmw).trans (z_up_ne (Ne.symm ne_me_qmw) hf_qmw)
  have hf_qmn : f22 qmn = .inl (cy 1, 4, .inl (fun _ => 0)) := (congrFun e_f22 qmn).trans (z_up_ne (Ne.symm ne_me_qmn) hf_qmn)
  have hf_qmc : f22 qmc = .inl (cy 2, 240, .inr (.inl (fun _ => 0))) := (congrFun e_f22 qmc).trans (z_up_ne (Ne.symm ne_me_qmc) hf_qmc)
  have hf_qmv : f22 qmv = .inl (cy 2, 60, .inr (.inl (fun _ => 0))) := (congrFun e_f22 qmv).trans (z_up_ne (Ne.symm ne_me_qmv) hf_qmv)
  have hf_qmt : f22 qmt = .inl (cy 0, 1600, .inl (fun _ => 0)) := (congrFun e_f22 qmt).trans (z_up_ne (Ne.symm ne_me_qmt) hf_qmt)
  have hf_qml : f22 qml = .inl (cy 1, 5, .inl (fun _ => 0)) := (congrFun e_f22 qml).trans (z_up_ne (Ne.symm ne_me_qml) hf_qml)
  have hf_qmh : f22 qmh = .inl (cy 1, 30, .inl (fun _ => 0)) := (congrFun e_f22 qmh).trans (z_up_ne (Ne.symm ne_me_qmh) hf_qmh)
  have hf_me : f22 me = .inr (10, [.int 0, .ref qmw, .ref qmn, .ref qmc, .ref qmv, .ref qmt, .int 0, .int 0, .int 0, .int 0, .int 0, .long 0, .int 0, .int 0, .int 0, .int (-1), .ref qml, .ref qmh, .null, .null, .null, .null, .int 0, .null, .int 0, .int 0, .long 0, .int 0, .int 0, .null, .int 0, .null, .null, .null, .null, .null, .int 0, .null, .int 0, .null, .int 0, .int 0, .int 0, .null, .null, .null, .null, .null, .int 0, .null, .null, .null, .int 0, .int 0]) := (congrFun e_f22 me).trans z_up_self
  have hfr : ∀ b ∈ L, b ≠ me → f22 b = f b := fun b hb h0 => (congrFun e_f22 b).trans (z_up_ne h0 (hfr b hb h0))
  refine lv_aload_n hx hb dX10_init_64 rfl (lv_at hl 0 rfl) ?_
  refine lv_bipush (v := 25) hx hb dX10_init_65 (by decide) ?_
  refine z_newa (atype := .int) (n := 25) (N' := 25) (a0 := (25, .inl (fun _ => 0))) (cells := 7) (slots := 1943) hx hb (hT _ kw_203) rfl 1 rfl (fun _ h => by cases h) hK hw hA (fun _ => rfl) (by decide) (by decide) (by decide) (by decide) (by decide) dX10_init_67 (fun qmj H hq_qmj hw => ?_)
  refine W.widen (k := 8) (n := 1968) (by decide) (by decide) ?_
  have ne_me_qmj : me ≠ qmj := z_ne hm_me hq_qmj
  have ne_qmw_qmj : qmw ≠ qmj := z_ne hm_qmw hq_qmj
  have ne_qmn_qmj : qmn ≠ qmj := z_ne hm_qmn hq_qmj
  have ne_qmc_qmj : qmc ≠ qmj := z_ne hm_qmc hq_qmj
  have ne_qmv_qmj : qmv ≠ qmj := z_ne hm_qmv hq_qmj
  have ne_qmt_qmj : qmt ≠ qmj := z_ne hm_qmt hq_qmj
  have ne_qml_qmj : qml ≠ qmj := z_ne hm_qml hq_qmj
  have ne_qmh_qmj : qmh ≠ qmj := z_ne hm_qmh hq_qmj
  have hn_qmj : qmj ∉ L := fun h => hq_qmj (hsub _ h)
  obtain ⟨f24, e_f24⟩ : ∃ z, z = va_up f22 qmj (.inl (cy 1, 25, .inl (fun _ => 0))) := ⟨_, rfl⟩
  obtain ⟨L23, e_L23⟩ : ∃ z, z = L20 ++ [qmj] := ⟨_, rfl⟩
  rw [← e_f24, ← e_L23] at hw
  have hm_me : me ∈ L23 := by rw [e_L23]; exact List.mem_append_left _ hm_me
  have hf_me : f24 me = .inr (10, [.int 0, .ref qmw, .ref qmn, .ref qmc, .ref qmv, .ref qmt, .int 0, .int 0, .int 0, .int 0, .int 0, .long 0, .int 0, .int 0, .int 0, .int (-1), .ref qml, .ref qmh, .null, .null, .null, .null, .int 0, .null, .int 0, .int 0, .long 0, .int 0, .int 0, .null, .int 0, .null, .null, .null, .null, .null, .int 0, .null, .int 0, .null, .int 0, .int 0, .int 0, .null, .null, .null, .null, .null, .int 0, .null, .null, .null, .int 0, .int 0]) := (congrFun e_f24 me).trans (z_up_ne ne_me_qmj hf_me)
  have hm_qmw : qmw ∈ L23 := by rw [e_L23]; exact List.mem_append_left _ hm_qmw
  have hf_qmw : f24 qmw = .inl (cy 1, 4, .inl (fun _ => 0)) := (congrFun e_f24 qmw).trans (z_up_ne ne_qmw_qmj hf_qmw)
  have hm_qmn : qmn ∈ L23 := by rw [e_L23]; exact List.mem_append_left _ hm_qmn
  have hf_qmn : f24 qmn = .inl (cy 1, 4, .inl (fun _ => 0)) := (congrFun e_f24 qmn).trans (z_up_ne ne_qmn_qmj hf_qmn)
  have hm_qmc : qmc ∈ L23 := by rw [e_L23]; exact List.mem_append_left _ hm_qmc
  have hf_qmc : f24 qmc = .inl (cy 2, 240, .inr (.inl (fun _ => 0))) := (congrFun e_f24 qmc).trans (z_up_ne ne_qmc_qmj hf_qmc)
  have hm_qmv : qmv ∈ L23 := by rw [e_L23]; exact List.mem_append_left _ hm_qmv
  have hf_qmv : f24 qmv = .inl (cy 2, 60, .inr (.inl (fun _ => 0))) := (congrFun e_f24 qmv).trans (z_up_ne ne_qmv_qmj hf_qmv)
  have hm_qmt : qmt ∈ L23 := by rw [e_L23]; exact List.mem_append_left _ hm_qmt
  have hf_qmt : f24 qmt = .inl (cy 0, 1600, .inl (fun _ => 0)) := (congrFun e_f24 qmt).trans (z_up_ne ne_qmt_qmj hf_qmt)
  have hm_qml : qml ∈ L23 := by rw [e_L23]; exact List.mem_append_left _ hm_qml
  have hf_qml : f24 qml = .inl (cy 1, 5, .inl (fun _ => 0)) := (congrFun e_f24 qml).trans (z_up_ne ne_qml_qmj hf_qml)
  have hm_qmh : qmh ∈ L23 := by rw [e_L23]; exact List.mem_append_left _ hm_qmh
  have hf_qmh : f24 qmh = .inl (cy 1, 30, .inl (fun _ => 0)) := (congrFun e_f24 qmh).trans (z_up_ne ne_qmh_qmj hf_qmh)
  have hm_qmj : qmj ∈ L23 := by rw [e_L23]; exact List.mem_append_right _ (List.mem_singleton.mpr rfl)
  have hf_qmj : f24 qmj = .inl (cy 1, 25, .inl (fun _ => 0)) := (congrFun e_f24 qmj).trans z_up_self
  have hsub : ∀ b ∈ L, b ∈ L23 := fun b h => by rw [e_L23]; exact List.mem_append_left _ (hsub b h)
  have hfr : ∀ b ∈ L, b ≠ me → f24 b = f b := fun b hb h0 => (congrFun e_f24 b).trans (z_up_ne (z_ne hb hn_qmj) (hfr b hb h0))
  refine z_putF (C := RX10) (T := TX10) (N := 54) (ci := 10) (v := .ref qmj) (fs' := [.int 0, .ref qmw, .ref qmn, .ref qmc, .ref qmv, .ref qmt, .int 0, .int 0, .int 0, .int 0, .int 0, .long 0, .int 0, .int 0, .int 0, .int (-1), .ref qml, .ref qmh, .ref qmj, .null, .null, .null, .int 0, .null, .int 0, .int 0, .long 0, .int 0, .int 0, .null, .int 0, .null, .null, .null, .null, .null, .int 0, .null, .int 0, .null, .int 0, .int 0, .int 0, .null, .null, .null, .null, .null, .int 0, .null, .null, .null, .int 0, .int 0]) hx hb hT zin_X10 tyX10_ok nmX10 hown hK hw hm_me hf_me rfl 18 (by decide) (hT _ kw_1186) rfl hnm rfl rfl rfl (Nat.le_of_ble_eq_true rfl) rfl dX10_init_69 (fun H locs hw => ?_)
  obtain ⟨f25, e_f25⟩ : ∃ z, z = va_up f24 me (.inr (10, [.int 0, .ref qmw, .ref qmn, .ref qmc, .ref qmv, .ref qmt, .int 0, .int 0, .int 0, .int 0, .int 0, .long 0, .int 0, .int 0, .int 0, .int (-1), .ref qml, .ref qmh, .ref qmj, .null, .null, .null, .int 0, .null, .int 0, .int 0, .long 0, .int 0, .int 0, .null, .int 0, .null, .null, .null, .null, .null, .int 0, .null, .int 0, .null, .int 0, .int 0, .int 0, .null, .null, .null, .null, .null, .int 0, .null, .null, .null, .int 0, .int 0])) := ⟨_, rfl⟩
  rw [← e_f25] at hw
  have hf_qmw : f25 qmw = .inl (cy 1, 4, .inl (fun _ => 0)) := (congrFun e_f25 qmw).trans (z_up_ne (Ne.symm ne_me_qmw) hf_qmw)
  have hf_qmn : f25 qmn = .inl (cy 1, 4, .inl (fun _ => 0)) := (congrFun e_f25 qmn).trans (z_up_ne (Ne.symm ne_me_qmn) hf_qmn)
  have hf_qmc : f25 qmc = .inl (cy 2, 240, .inr (.inl (fun _ => 0))) := (congrFun e_f25 qmc).trans (z_up_ne (Ne.symm ne_me_qmc) hf_qmc)
  have hf_qmv : f25 qmv = .inl (cy 2, 60, .inr (.inl (fun _ => 0))) := (congrFun e_f25 qmv).trans (z_up_ne (Ne.symm ne_me_qmv) hf_qmv)
  have hf_qmt : f25 qmt = .inl (cy 0, 1600, .inl (fun _ => 0)) := (congrFun e_f25 qmt).trans (z_up_ne (Ne.symm ne_me_qmt) hf_qmt)
  have hf_qml : f25 qml = .inl (cy 1, 5, .inl (fun _ => 0)) := (congrFun e_f25 qml).trans (z_up_ne (Ne.symm ne_me_qml) hf_qml)
  have hf_qmh : f25 qmh = .inl (cy 1, 30, .inl (fun _ => 0)) := (congrFun e_f25 qmh).trans (z_up_ne (Ne.symm ne_me_qmh) hf_qmh)
  have hf_qmj : f25 qmj = .inl (cy 1, 25, .inl (fun _ => 0)) := (congrFun e_f25 qmj).trans (z_up_ne (Ne.symm ne_me_qmj) hf_qmj)
  have hf_me : f25 me = .inr (10, [.int 0, .ref qmw, .ref qmn, .ref qmc, .ref qmv, .ref qmt, .int 0, .int 0, .int 0, .int 0, .int 0, .long 0, .int 0, .int 0, .int 0, .int (-1), .ref qml, .ref qmh, .ref qmj, .null, .null, .null, .int 0, .null, .int 0, .int 0, .long 0, .int 0, .int 0, .null, .int 0, .null, .null, .null, .null, .null, .int 0, .null, .int 0, .null, .int 0, .int 0, .int 0, .null, .null, .null, .null, .null, .int 0, .null, .null, .null, .int 0, .int 0]) := (congrFun e_f25 me).trans z_up_self
  have hfr : ∀ b ∈ L, b ≠ me → f25 b = f b := fun b hb h0 => (congrFun e_f25 b).trans (z_up_ne h0 (hfr b hb h0))
  refine lv_aload_n hx hb dX10_init_72 rfl (lv_at hl 0 rfl) ?_
  refine lv_bipush (v := 20) hx hb dX10_init_73 (by decide) ?_
  refine z_newa (atype := .int) (n := 20) (N' := 20) (a0 := (20, .inl (fun _ => 0))) (cells := 8) (slots := 1968) hx hb (hT _ kw_203) rfl 1 rfl (fun _ h => by cases h) hK hw hA (fun _ => rfl) (by decide) (by decide) (by decide) (by decide) (by decide) dX10_init_75 (fun qms H hq_qms hw => ?_)
  refine W.widen (k := 9) (n := 1988) (by decide) (by decide) ?_
  have ne_me_qms : me ≠ qms := z_ne hm_me hq_qms
  have ne_qmw_qms : qmw ≠ qms := z_ne hm_qmw hq_qms
  have ne_qmn_qms : qmn ≠ qms := z_ne hm_qmn hq_qms
  have ne_qmc_qms : qmc ≠ qms := z_ne hm_qmc hq_qms
  have ne_qmv_qms : qmv ≠ qms := z_ne hm_qmv hq_qms
  have ne_qmt_qms : qmt ≠ qms := z_ne hm_qmt hq_qms
  have ne_qml_qms : qml ≠ qms := z_ne hm_qml hq_qms
  have ne_qmh_qms : qmh ≠ qms := z_ne hm_qmh hq_qms
  have ne_qmj_qms : qmj ≠ qms := z_ne hm_qmj hq_qms
  have hn_qms : qms ∉ L := fun h => hq_qms (hsub _ h)
  obtain ⟨f27, e_f27⟩ : ∃ z, z = va_up f25 qms (.inl (cy 1, 20, .inl (fun _ => 0))) := ⟨_, rfl⟩
  obtain ⟨L26, e_L26⟩ : ∃ z, z = L23 ++ [qms] := ⟨_, rfl⟩
  rw [← e_f27, ← e_L26] at hw
  have hm_me : me ∈ L26 := by rw [e_L26]; exact List.mem_append_left _ hm_me
  have hf_me : f27 me = .inr (10, [.int 0, .ref qmw, .ref qmn, .ref qmc, .ref qmv, .ref qmt, .int 0, .int 0, .int 0, .int 0, .int 0, .long 0, .int 0, .int 0, .int 0, .int (-1), .ref qml, .ref qmh, .ref qmj, .null, .null, .null, .int 0, .null, .int 0, .int 0, .long 0, .int 0, .int 0, .null, .int 0, .null, .null, .null, .null, .null, .int 0, .null, .int 0, .null, .int 0, .int 0, .int 0, .null, .null, .null, .null, .null, .int 0, .null, .null, .null, .int 0, .int 0]) := (congrFun e_f27 me).trans (z_up_ne ne_me_qms hf_me)
  have hm_qmw : qmw ∈ L26 := by rw [e_L26]; exact List.mem_append_left _ hm_qmw
  have hf_qmw : f27 qmw = .inl (cy 1, 4, .inl (fun _ => 0)) := (congrFun e_f27 qmw).trans (z_up_ne ne_qmw_qms hf_qmw)
  have hm_qmn : qmn ∈ L26 := by rw [e_L26]; exact List.mem_append_left _ hm_qmn
  have hf_qmn : f27 qmn = .inl (cy 1, 4, .inl (fun _ => 0)) := (congrFun e_f27 qmn).trans (z_up_ne ne_qmn_qms hf_qmn)
  have hm_qmc : qmc ∈ L26 := by rw [e_L26]; exact List.mem_append_left _ hm_qmc
  have hf_qmc : f27 qmc = .inl (cy 2, 240, .inr (.inl (fun _ => 0))) := (congrFun e_f27 qmc).trans (z_up_ne ne_qmc_qms hf_qmc)
  have hm_qmv : qmv ∈ L26 := by rw [e_L26]; exact List.mem_append_left _ hm_qmv
  have hf_qmv : f27 qmv = .inl (cy 2, 60, .inr (.inl (fun _ => 0))) := (congrFun e_f27 qmv).trans (z_up_ne ne_qmv_qms hf_qmv)
  have hm_qmt : qmt ∈ L26 := by rw [e_L26]; exact List.mem_append_left _ hm_qmt
  have hf_qmt : f27 qmt = .inl (cy 0, 1600, .inl (fun _ => 0)) := (congrFun e_f27 qmt).trans (z_up_ne ne_qmt_qms hf_qmt)
  have hm_qml : qml ∈ L26 := by rw [e_L26]; exact List.mem_append_left _ hm_qml
  have hf_qml : f27 qml = .inl (cy 1, 5, .inl (fun _ => 0)) := (congrFun e_f27 qml).trans (z_up_ne ne_qml_qms hf_qml)
  have hm_qmh : qmh ∈ L26 := by rw [e_L26]; exact List.mem_append_left _ hm_qmh
  have hf_qmh : f27 qmh = .inl (cy 1, 30, .inl (fun _ => 0)) := (congrFun e_f27 qmh).trans (z_up_ne ne_qmh_qms hf_qmh)
  have hm_qmj : qmj ∈ L26 := by rw [e_L26]; exact List.mem_append_left _ hm_qmj
  have hf_qmj : f27 qmj = .inl (cy 1, 25, .inl (fun _ => 0)) := (congrFun e_f27 qmj).trans (z_up_ne ne_qmj_qms hf_qmj)
  have hm_qms : qms ∈ L26 := by rw [e_L26]; exact List.mem_append_right _ (List.mem_singleton.mpr rfl)
  have hf_qms : f27 qms = .inl (cy 1, 20, .inl (fun _ => 0)) := (congrFun e_f27 qms).trans z_up_self
  have hsub : ∀ b ∈ L, b ∈ L26 := fun b h => by rw [e_L26]; exact List.mem_append_left _ (hsub b h)
  have hfr : ∀ b ∈ L, b ≠ me → f27 b = f b := fun b hb h0 => (congrFun e_f27 b).trans (z_up_ne (z_ne hb hn_qms) (hfr b hb h0))
  refine z_putF (C := RX10) (T := TX10) (N := 54) (ci := 10) (v := .ref qms) (fs' := [.int 0, .ref qmw, .ref qmn, .ref qmc, .ref qmv, .ref qmt, .int 0, .int 0, .int 0, .int 0, .int 0, .long 0, .int 0, .int 0, .int 0, .int (-1), .ref qml, .ref qmh, .ref qmj, .ref qms, .null, .null, .int 0, .null, .int 0, .int 0, .long 0, .int 0, .int 0, .null, .int 0, .null, .null, .null, .null, .null, .int 0, .null, .int 0, .null, .int 0, .int 0, .int 0, .null, .null, .null, .null, .null, .int 0, .null, .null, .null, .int 0, .int 0]) hx hb hT zin_X10 tyX10_ok nmX10 hown hK hw hm_me hf_me rfl 19 (by decide) (hT _ kw_1187) rfl hnm rfl rfl rfl (Nat.le_of_ble_eq_true rfl) rfl dX10_init_77 (fun H locs hw => ?_)
  obtain ⟨f28, e_f28⟩ : ∃ z, z = va_up f27 me (.inr (10, [.int 0, .ref qmw, .ref qmn, .ref qmc, .ref qmv, .ref qmt, .int 0, .int 0, .int 0, .int 0, .int 0, .long 0, .int 0, .int 0, .int 0, .int (-1), .ref qml, .ref qmh, .ref qmj, .ref qms, .null, .null, .int 0, .null, .int 0, .int 0, .long 0, .int 0, .int 0, .null, .int 0, .null, .null, .null, .null, .null, .int 0, .null, .int 0, .null, .int 0, .int 0, .int 0, .null, .null, .null, .null, .null, .int 0, .null, .null, .null, .int 0, .int 0])) := ⟨_, rfl⟩
  rw [← e_f28] at hw
  have hf_qmw : f28 qmw = .inl (cy 1, 4, .inl (fun _ => 0)) := (congrFun e_f28 qmw).trans (z_up_ne (Ne.symm ne_me_qmw) hf_qmw)
  have hf_qmn : f28 qmn = .inl (cy 1, 4, .inl (fun _ => 0)) := (congrFun e_f28 qmn).trans (z_up_ne (Ne.symm ne_me_qmn) hf_qmn)
  have hf_qmc : f28 qmc = .inl (cy 2, 240, .inr (.inl (fun _ => 0))) := (congrFun e_f28 qmc).trans (z_up_ne (Ne.symm ne_me_qmc) hf_qmc)
  have hf_qmv : f28 qmv = .inl (cy 2, 60, .inr (.inl (fun _ => 0))) := (congrFun e_f28 qmv).trans (z_up_ne (Ne.symm ne_me_qmv) hf_qmv)
  have hf_qmt : f28 qmt = .inl (cy 0, 1600, .inl (fun _ => 0)) := (congrFun e_f28 qmt).trans (z_up_ne (Ne.symm ne_me_qmt) hf_qmt)
  have hf_qml : f28 qml = .inl (cy 1, 5, .inl (fun _ => 0)) := (congrFun e_f28 qml).trans (z_up_ne (Ne.symm ne_me_qml) hf_qml)
  have hf_qmh : f28 qmh = .inl (cy 1, 30, .inl (fun _ => 0)) := (congrFun e_f28 qmh).trans (z_up_ne (Ne.symm ne_me_qmh) hf_qmh)
  have hf_qmj : f28 qmj = .inl (cy 1, 25, .inl (fun _ => 0)) := (congrFun e_f28 qmj).trans (z_up_ne (Ne.symm ne_me_qmj) hf_qmj)
  have hf_qms : f28 qms = .inl (cy 1, 20, .inl (fun _ => 0)) := (congrFun e_f28 qms).trans (z_up_ne (Ne.symm ne_me_qms) hf_qms)
  have hf_me : f28 me = .inr (10, [.int 0, .ref qmw, .ref qmn, .ref qmc, .ref qmv, .ref qmt, .int 0, .int 0, .int 0, .int 0, .int 0, .long 0, .int 0, .int 0, .int 0, .int (-1), .ref qml, .ref qmh, .ref qmj, .ref qms, .null, .null, .int 0, .null, .int 0, .int 0, .long 0, .int 0, .int 0, .null, .int 0, .null, .null, .null, .null, .null, .int 0, .null, .int 0, .null, .int 0, .int 0, .int 0, .null, .null, .null, .null, .null, .int 0, .null, .null, .null, .int 0, .int 0]) := (congrFun e_f28 me).trans z_up_self
  have hfr : ∀ b ∈ L, b ≠ me → f28 b = f b := fun b hb h0 => (congrFun e_f28 b).trans (z_up_ne h0 (hfr b hb h0))
  refine lv_aload_n hx hb dX10_init_80 rfl (lv_at hl 0 rfl) ?_
  refine lv_sipush (v := 180) hx hb dX10_init_81 (by decide) ?_
  refine z_newa (atype := .int) (n := 180) (N' := 180) (a0 := (180, .inl (fun _ => 0))) (cells := 9) (slots := 1988) hx hb (hT _ kw_203) rfl 1 rfl (fun _ h => by cases h) hK hw hA (fun _ => rfl) (by decide) (by decide) (by decide) (by decide) (by decide) dX10_init_84 (fun qmg H hq_qmg hw => ?_)
  refine W.widen (k := 10) (n := 2168) (by decide) (by decide) ?_
  have ne_me_qmg : me ≠ qmg := z_ne hm_me hq_qmg
  have ne_qmw_qmg : qmw ≠ qmg := z_ne hm_qmw hq_qmg
  have ne_qmn_qmg : qmn ≠ qmg := z_ne hm_qmn hq_qmg
  have ne_qmc_qmg : qmc ≠ qmg := z_ne hm_qmc hq_qmg
  have ne_qmv_qmg : qmv ≠ qmg := z_ne hm_qmv hq_qmg
  have ne_qmt_qmg : qmt ≠ qmg := z_ne hm_qmt hq_qmg
  have ne_qml_qmg : qml ≠ qmg := z_ne hm_qml hq_qmg
  have ne_qmh_qmg : qmh ≠ qmg := z_ne hm_qmh hq_qmg
  have ne_qmj_qmg : qmj ≠ qmg := z_ne hm_qmj hq_qmg
  have ne_qms_qmg : qms ≠ qmg := z_ne hm_qms hq_qmg
  have hn_qmg : qmg ∉ L := fun h => hq_qmg (hsub _ h)
  obtain ⟨f30, e_f30⟩ : ∃ z, z = va_up f28 qmg (.inl (cy 1, 180, .inl (fun _ => 0))) := ⟨_, rfl⟩
  obtain ⟨L29, e_L29⟩ : ∃ z, z = L26 ++ [qmg] := ⟨_, rfl⟩
  rw [← e_f30, ← e_L29] at hw
  have hm_me : me ∈ L29 := by rw [e_L29]; exact List.mem_append_left _ hm_me
  have hf_me : f30 me = .inr (10, [.int 0, .ref qmw, .ref qmn, .ref qmc, .ref qmv, .ref qmt, .int 0, .int 0, .int 0, .int 0, .int 0, .long 0, .int 0, .int 0, .int 0, .int (-1), .ref qml, .ref qmh, .ref qmj, .ref qms, .null, .null, .int 0, .null, .int 0, .int 0, .long 0, .int 0, .int 0, .null, .int 0, .null, .null, .null, .null, .null, .int 0, .null, .int 0, .null, .int 0, .int 0, .int 0, .null, .null, .null, .null, .null, .int 0, .null, .null, .null, .int 0, .int 0]) := (congrFun e_f30 me).trans (z_up_ne ne_me_qmg hf_me)
  have hm_qmw : qmw ∈ L29 := by rw [e_L29]; exact List.mem_append_left _ hm_qmw
  have hf_qmw : f30 qmw = .inl (cy 1, 4, .inl (fun _ => 0)) := (congrFun e_f30 qmw).trans (z_up_ne ne_qmw_qmg hf_qmw)
  have hm_qmn : qmn ∈ L29 := by rw [e_L29]; exact List.mem_append_left _ hm_qmn
  have hf_qmn : f30 qmn = .inl (cy 1, 4, .inl (fun _ => 0)) := (congrFun e_f30 qmn).trans (z_up_ne ne_qmn_qmg hf_qmn)
  have hm_qmc : qmc ∈ L29 := by rw [e_L29]; exact List.mem_append_left _ hm_qmc
  have hf_qmc : f30 qmc = .inl (cy 2, 240, .inr (.inl (fun _ => 0))) := (congrFun e_f30 qmc).trans (z_up_ne ne_qmc_qmg hf_qmc)
  have hm_qmv : qmv ∈ L29 := by rw [e_L29]; exact List.mem_append_left _ hm_qmv
  have hf_qmv : f30 qmv = .inl (cy 2, 60, .inr (.inl (fun _ => 0))) := (congrFun e_f30 qmv).trans (z_up_ne ne_qmv_qmg hf_qmv)
  have hm_qmt : qmt ∈ L29 := by rw [e_L29]; exact List.mem_append_left _ hm_qmt
  have hf_qmt : f30 qmt = .inl (cy 0, 1600, .inl (fun _ => 0)) := (congrFun e_f30 qmt).trans (z_up_ne ne_qmt_qmg hf_qmt)
  have hm_qml : qml ∈ L29 := by rw [e_L29]; exact List.mem_append_left _ hm_qml
  have hf_qml : f30 qml = .inl (cy 1, 5, .inl (fun _ => 0)) := (congrFun e_f30 qml).trans (z_up_ne ne_qml_qmg hf_qml)
  have hm_qmh : qmh ∈ L29 := by rw [e_L29]; exact List.mem_append_left _ hm_qmh
  have hf_qmh : f30 qmh = .inl (cy 1, 30, .inl (fun _ => 0)) := (congrFun e_f30 qmh).trans (z_up_ne ne_qmh_qmg hf_qmh)
  have hm_qmj : qmj ∈ L29 := by rw [e_L29]; exact List.mem_append_left _ hm_qmj
  have hf_qmj : f30 qmj = .inl (cy 1, 25, .inl (fun _ => 0)) := (congrFun e_f30 qmj).trans (z_up_ne ne_qmj_qmg hf_qmj)
  have hm_qms : qms ∈ L29 := by rw [e_L29]; exact List.mem_append_left _ hm_qms
  have hf_qms : f30 qms = .inl (cy 1, 20, .inl (fun _ => 0)) := (congrFun e_f30 qms).trans (z_up_ne ne_qms_qmg hf_qms)
  have hm_qmg : qmg ∈ L29 := by rw [e_L29]; exact List.mem_append_right _ (List.mem_singleton.mpr rfl)
  have hf_qmg : f30 qmg = .inl (cy 1, 180, .inl (fun _ => 0)) := (congrFun e_f30 qmg).trans z_up_self
  have hsub : ∀ b ∈ L, b ∈ L29 := fun b h => by rw [e_L29]; exact List.mem_append_left _ (hsub b h)
  have hfr : ∀ b ∈ L, b ≠ me → f30 b = f b := fun b hb h0 => (congrFun e_f30 b).trans (z_up_ne (z_ne hb hn_qmg) (hfr b hb h0))
  refine z_putF (C := RX10) (T := TX10) (N := 54) (ci := 10) (v := .ref qmg) (fs' := [.int 0, .ref qmw, .ref qmn, .ref qmc, .ref qmv, .ref qmt, .int 0, .int 0, .int 0, .int 0, .int 0, .long 0, .int 0, .int 0, .int 0, .int (-1), .ref qml, .ref qmh, .ref qmj, .ref qms, .ref qmg, .null, .int 0, .null, .int 0, .int 0, .long 0, .int 0, .int 0, .null, .int 0, .null, .null, .null, .null, .null, .int 0, .null, .int 0, .null, .int 0, .int 0, .int 0, .null, .null, .null, .null, .null, .int 0, .null, .null, .null, .int 0, .int 0]) hx hb hT zin_X10 tyX10_ok nmX10 hown hK hw hm_me hf_me rfl 20 (by decide) (hT _ kw_1188) rfl hnm rfl rfl rfl (Nat.le_of_ble_eq_true rfl) rfl dX10_init_86 (fun H locs hw => ?_)
  obtain ⟨f31, e_f31⟩ : ∃ z, z = va_up f30 me (.inr (10, [.int 0, .ref qmw, .ref qmn, .ref qmc, .ref qmv, .ref qmt, .int 0, .int 0, .int 0, .int 0, .int 0, .long 0, .int 0, .int 0, .int 0, .int (-1), .ref qml, .ref qmh, .ref qmj, .ref qms, .ref qmg, .null, .int 0, .null, .int 0, .int 0, .long 0, .int 0, .int 0, .null, .int 0, .null, .null, .null, .null, .null, .int 0, .null, .int 0, .null, .int 0, .int 0, .int 0, .null, .null, .null, .null, .null, .int 0, .null, .null, .null, .int 0, .int 0])) := ⟨_, rfl⟩
  rw [← e_f31] at hw
  have hf_qmw : f31 qmw = .inl (cy 1, 4, .inl (fun _ => 0)) := (congrFun e_f31 qmw).trans (z_up_ne (Ne.symm ne_me_qmw) hf_qmw)
  have hf_qmn : f31 qmn = .inl (cy 1, 4, .inl (fun _ => 0)) := (congrFun e_f31 qmn).trans (z_up_ne (Ne.symm ne_me_qmn) hf_qmn)
  have hf_qmc : f31 qmc = .inl (cy 2, 240, .inr (.inl (fun _ => 0))) := (congrFun e_f31 qmc).trans (z_up_ne (Ne.symm ne_me_qmc) hf_qmc)
  have hf_qmv : f31 qmv = .inl (cy 2, 60, .inr (.inl (fun _ => 0))) := (congrFun e_f31 qmv).trans (z_up_ne (Ne.symm ne_me_qmv) hf_qmv)
  have hf_qmt : f31 qmt = .inl (cy 0, 1600, .inl (fun _ => 0)) := (congrFun e_f31 qmt).trans (z_up_ne (Ne.symm ne_me_qmt) hf_qmt)
  have hf_qml : f31 qml = .inl (cy 1, 5, .inl (fun _ => 0)) := (congrFun e_f31 qml).trans (z_up_ne (Ne.symm ne_me_qml) hf_qml)
  have hf_qmh : f31 qmh = .inl (cy 1, 30, .inl (fun _ => 0)) := (congrFun e_f31 qmh).trans (z_up_ne (Ne.symm ne_me_qmh) hf_qmh)
  have hf_qmj : f31 qmj = .inl (cy 1, 25, .inl (fun _ => 0)) := (congrFun e_f31 qmj).trans (z_up_ne (Ne.symm ne_me_qmj) hf_qmj)
  have hf_qms : f31 qms = .inl (cy 1, 20, .inl (fun _ => 0)) := (congrFun e_f31 qms).trans (z_up_ne (Ne.symm ne_me_qms) hf_qms)
  have hf_qmg : f31 qmg = .inl (cy 1, 180, .inl (fun _ => 0)) := (congrFun e_f31 qmg).trans (z_up_ne (Ne.symm ne_me_qmg) hf_qmg)
  have hf_me : f31 me = .inr (10, [.int 0, .ref qmw, .ref qmn, .ref qmc, .ref qmv, .ref qmt, .int 0, .int 0, .int 0, .int 0, .int 0, .long 0, .int 0, .int 0, .int 0, .int (-1), .ref qml, .ref qmh, .ref qmj, .ref qms, .ref qmg, .null, .int 0, .null, .int 0, .int 0, .long 0, .int 0, .int 0, .null, .int 0, .null, .null, .null, .null, .null, .int 0, .null, .int 0, .null, .int 0, .int 0, .int 0, .null, .null, .null, .null, .null, .int 0, .null, .null, .null, .int 0, .int 0]) := (congrFun e_f31 me).trans z_up_self
  have hfr : ∀ b ∈ L, b ≠ me → f31 b = f b := fun b hb h0 => (congrFun e_f31 b).trans (z_up_ne h0 (hfr b hb h0))
  refine lv_aload_n hx hb dX10_init_89 rfl (lv_at hl 0 rfl) ?_
  refine lv_sipush (v := 520) hx hb dX10_init_90 (by decide) ?_
  refine z_newa (atype := .int) (n := 520) (N' := 520) (a0 := (520, .inl (fun _ => 0))) (cells := 10) (slots := 2168) hx hb (hT _ kw_203) rfl 1 rfl (fun _ h => by cases h) hK hw hA (fun _ => rfl) (by decide) (by decide) (by decide) (by decide) (by decide) dX10_init_93 (fun qmd H hq_qmd hw => ?_)
  refine W.widen (k := 11) (n := 2688) (by decide) (by decide) ?_
  have ne_me_qmd : me ≠ qmd := z_ne hm_me hq_qmd
  have ne_qmw_qmd : qmw ≠ qmd := z_ne hm_qmw hq_qmd
  have ne_qmn_qmd : qmn ≠ qmd := z_ne hm_qmn hq_qmd
  have ne_qmc_qmd : qmc ≠ qmd := z_ne hm_qmc hq_qmd
  have ne_qmv_qmd : qmv ≠ qmd := z_ne hm_qmv hq_qmd
  have ne_qmt_qmd : qmt ≠ qmd := z_ne hm_qmt hq_qmd
  have ne_qml_qmd : qml ≠ qmd := z_ne hm_qml hq_qmd
  have ne_qmh_qmd : qmh ≠ qmd := z_ne hm_qmh hq_qmd
  have ne_qmj_qmd : qmj ≠ qmd := z_ne hm_qmj hq_qmd
  have ne_qms_qmd : qms ≠ qmd := z_ne hm_qms hq_qmd
  have ne_qmg_qmd : qmg ≠ qmd := z_ne hm_qmg hq_qmd
  have hn_qmd : qmd ∉ L := fun h => hq_qmd (hsub _ h)
  obtain ⟨f33, e_f33⟩ : ∃ z, z = va_up f31 qmd (.inl (cy 1, 520, .inl (fun _ => 0))) := ⟨_, rfl⟩
  obtain ⟨L32, e_L32⟩ : ∃ z, z = L29 ++ [qmd] := ⟨_, rfl⟩
  rw [← e_f33, ← e_L32] at hw
  have hm_me : me ∈ L32 := by rw [e_L32]; exact List.mem_append_left _ hm_me
  have hf_me : f33 me = .inr (10, [.int 0, .ref qmw, .ref qmn, .ref qmc, .ref qmv, .ref qmt, .int 0, .int 0, .int 0, .int 0, .int 0, .long 0, .int 0, .int 0, .int 0, .int (-1), .ref qml, .ref qmh, .ref qmj, .ref qms, .ref qmg, .null, .int 0, .null, .int 0, .int 0, .long 0, .int 0, .int 0, .null, .int 0, .null, .null, .null, .null, .null, .int 0, .null, .int 0, .null, .int 0, .int 0, .int 0, .null, .null, .null, .null, .null, .int 0, .null, .null, .null, .int 0, .int 0]) := (congrFun e_f33 me).trans (z_up_ne ne_me_qmd hf_me)
  have hm_qmw : qmw ∈ L32 := by rw [e_L32]; exact List.mem_append_left _ hm_qmw
  have hf_qmw : f33 qmw = .inl (cy 1, 4, .inl (fun _ => 0)) := (congrFun e_f33 qmw).trans (z_up_ne ne_qmw_qmd hf_qmw)
  have hm_qmn : qmn ∈ L32 := by rw [e_L32]; exact List.mem_append_left _ hm_qmn
  have hf_qmn : f33 qmn = .inl (cy 1, 4, .inl (fun _ => 0)) := (congrFun e_f33 qmn).trans (z_up_ne ne_qmn_qmd hf_qmn)
  have hm_qmc : qmc ∈ L32 := by rw [e_L32]; exact List.mem_append_left _ hm_qmc
  have hf_qmc : f33 qmc = .inl (cy 2, 240, .inr (.inl (fun _ => 0))) := (congrFun e_f33 qmc).trans (z_up_ne ne_qmc_qmd hf_qmc)
  have hm_qmv : qmv ∈ L32 := by rw [e_L32]; exact List.mem_append_left _ hm_qmv
  have hf_qmv : f33 qmv = .inl (cy 2, 60, .inr (.inl (fun _ => 0))) := (congrFun e_f33 qmv).trans (z_up_ne ne_qmv_qmd hf_qmv)
  have hm_qmt : qmt ∈ L32 := by rw [e_L32]; exact List.mem_append_left _ hm_qmt
  have hf_qmt : f33 qmt = .inl (cy 0, 1600, .inl (fun _ => 0)) := (congrFun e_f33 qmt).trans (z_up_ne ne_qmt_qmd hf_qmt)
  have hm_qml : qml ∈ L32 := by rw [e_L32]; exact List.mem_append_left _ hm_qml
  have hf_qml : f33 qml = .inl (cy 1, 5, .inl (fun _ => 0)) := (congrFun e_f33 qml).trans (z_up_ne ne_qml_qmd hf_qml)
  have hm_qmh : qmh ∈ L32 := by rw [e_L32]; exact List.mem_append_left _ hm_qmh
  have hf_qmh : f33 qmh = .inl (cy 1, 30, .inl (fun _ => 0)) := (congrFun e_f33 qmh).trans (z_up_ne ne_qmh_qmd hf_qmh)
  have hm_qmj : qmj ∈ L32 := by rw [e_L32]; exact List.mem_append_left _ hm_qmj
  have hf_qmj : f33 qmj = .inl (cy 1, 25, .inl (fun _ => 0)) := (congrFun e_f33 qmj).trans (z_up_ne ne_qmj_qmd hf_qmj)
  have hm_qms : qms ∈ L32 := by rw [e_L32]; exact List.mem_append_left _ hm_qms
  have hf_qms : f33 qms = .inl (cy 1, 20, .inl (fun _ => 0)) := (congrFun e_f33 qms).trans (z_up_ne ne_qms_qmd hf_qms)
  have hm_qmg : qmg ∈ L32 := by rw [e_L32]; exact List.mem_append_left _ hm_qmg
  have hf_qmg : f33 qmg = .inl (cy 1, 180, .inl (fun _ => 0)) := (congrFun e_f33 qmg).trans (z_up_ne ne_qmg_qmd hf_qmg)
  have hm_qmd : qmd ∈ L32 := by rw [e_L32]; exact List.mem_append_right _ (List.mem_singleton.mpr rfl)
  have hf_qmd : f33 qmd = .inl (cy 1, 520, .inl (fun _ => 0)) := (congrFun e_f33 qmd).trans z_up_self
  have hsub : ∀ b ∈ L, b ∈ L32 := fun b h => by rw [e_L32]; exact List.mem_append_left _ (hsub b h)
  have hfr : ∀ b ∈ L, b ≠ me → f33 b = f b := fun b hb h0 => (congrFun e_f33 b).trans (z_up_ne (z_ne hb hn_qmd) (hfr b hb h0))
  refine z_putF (C := RX10) (T := TX10) (N := 54) (ci := 10) (v := .ref qmd) (fs' := [.int 0, .ref qmw, .ref qmn, .ref qmc, .ref qmv, .ref qmt, .int 0, .int 0, .int 0, .int 0, .int 0, .long 0, .int 0, .int 0, .int 0, .int (-1), .ref qml, .ref qmh, .ref qmj, .ref qms, .ref qmg, .ref qmd, .int 0, .null, .int 0, .int 0, .long 0, .int 0, .int 0, .null, .int 0, .null, .null, .null, .null, .null, .int 0, .null, .int 0, .null, .int 0, .int 0, .int 0, .null, .null, .null, .null, .null, .int 0, .null, .null, .null, .int 0, .int 0]) hx hb hT zin_X10 tyX10_ok nmX10 hown hK hw hm_me hf_me rfl 21 (by decide) (hT _ kw_1189) rfl hnm rfl rfl rfl (Nat.le_of_ble_eq_true rfl) rfl dX10_init_95 (fun H locs hw => ?_)
  obtain ⟨f34, e_f34⟩ : ∃ z, z = va_up f33 me (.inr (10, [.int 0, .ref qmw, .ref qmn, .ref qmc, .ref qmv, .ref qmt, .int 0, .int 0, .int 0, .int 0, .int 0, .long 0, .int 0, .int 0, .int 0, .int (-1), .ref qml, .ref qmh, .ref qmj, .ref qms, .ref qmg, .ref qmd, .int 0, .null, .int 0, .int 0, .long 0, .int 0, .int 0, .null, .int 0, .null, .null, .null, .null, .null, .int 0, .null, .int 0, .null, .int 0, .int 0, .int 0, .null, .null, .null, .null, .null, .int 0, .null, .null, .null, .int 0, .int 0])) := ⟨_, rfl⟩
  rw [← e_f34] at hw
  have hf_qmw : f34 qmw = .inl (cy 1, 4, .inl (fun _ => 0)) := (congrFun e_f34 qmw).trans (z_up_ne (Ne.symm ne_me_qmw) hf_qmw)
  have hf_qmn : f34 qmn = .inl (cy 1, 4, .inl (fun _ => 0)) := (congrFun e_f34 qmn).trans (z_up_ne (Ne.symm ne_me_qmn) hf_qmn)
  have hf_qmc : f34 qmc = .inl (cy 2, 240, .inr (.inl (fun _ => 0))) := (congrFun e_f34 qmc).trans (z_up_ne (Ne.symm ne_me_qmc) hf_qmc)
  have hf_qmv : f34 qmv = .inl (cy 2, 60, .inr (.inl (fun _ => 0))) := (congrFun e_f34 qmv).trans (z_up_ne (Ne.symm ne_me_qmv) hf_qmv)
  have hf_qmt : f34 qmt = .inl (cy 0, 1600, .inl (fun _ => 0)) := (congrFun e_f34 qmt).trans (z_up_ne (Ne.symm ne_me_qmt) hf_qmt)
  have hf_qml : f34 qml = .inl (cy 1, 5, .inl (fun _ => 0)) := (congrFun e_f34 qml).trans (z_up_ne (Ne.symm ne_me_qml) hf_qml)
  have hf_qmh : f34 qmh = .inl (cy 1, 30, .inl (fun _ => 0)) := (congrFun e_f34 qmh).trans (z_up_ne (Ne.symm ne_me_qmh) hf_qmh)
  have hf_qmj : f34 qmj = .inl (cy 1, 25, .inl (fun _ => 0)) := (congrFun e_f34 qmj).trans (z_up_ne (Ne.symm ne_me_qmj) hf_qmj)
  have hf_qms : f34 qms = .inl (cy 1, 20, .inl (fun _ => 0)) := (congrFun e_f34 qms).trans (z_up_ne (Ne.symm ne_me_qms) hf_qms)
  have hf_qmg : f34 qmg = .inl (cy 1, 180, .inl (fun _ => 0)) := (congrFun e_f34 qmg).trans (z_up_ne (Ne.symm ne_me_qmg) hf_qmg)
  have hf_qmd : f34 qmd = .inl (cy 1, 520, .inl (fun _ => 0)) := (congrFun e_f34 qmd).trans (z_up_ne (Ne.symm ne_me_qmd) hf_qmd)
  have hf_me : f34 me = .inr (10, [.int 0, .ref qmw, .ref qmn, .ref qmc, .ref qmv, .ref qmt, .int 0, .int 0, .int 0, .int 0, .int 0, .long 0, .int 0, .int 0, .int 0, .int (-1), .ref qml, .ref qmh, .ref qmj, .ref qms, .ref qmg, .ref qmd, .int 0, .null, .int 0, .int 0, .long 0, .int 0, .int 0, .null, .int 0, .null, .null, .null, .null, .null, .int 0, .null, .int 0, .null, .int 0, .int 0, .int 0, .null, .null, .null, .null, .null, .int 0, .null, .null, .null, .int 0, .int 0]) := (congrFun e_f34 me).trans z_up_self
  have hfr : ∀ b ∈ L, b ≠ me → f34 b = f b := fun b hb h0 => (congrFun e_f34 b).trans (z_up_ne h0 (hfr b hb h0))
  refine lv_aload_n hx hb dX10_init_98 rfl (lv_at hl 0 rfl) ?_
  refine lv_iconst (v := 3) hx hb dX10_init_99 (by decide) ?_
  refine z_newa (atype := .boolean) (n := 3) (N' := 3) (a0 := (3, .inl (fun _ => 0))) (cells := 11) (slots := 2688) hx hb (hT _ kw_334) rfl 3 rfl (fun _ h => by cases h) hK hw hA (fun _ => rfl) (by decide) (by decide) (by decide) (by decide) (by decide) dX10_init_100 (fun qmk H hq_qmk hw => ?_)
  refine W.widen (k := 12) (n := 2691) (by decide) (by decide) ?_
  have ne_me_qmk : me ≠ qmk := z_ne hm_me hq_qmk
  have ne_qmw_qmk : qmw ≠ qmk := z_ne hm_qmw hq_qmk
  have ne_qmn_qmk : qmn ≠ qmk := z_ne hm_qmn hq_qmk
  have ne_qmc_qmk : qmc ≠ qmk := z_ne hm_qmc hq_qmk
  have ne_qmv_qmk : qmv ≠ qmk := z_ne hm_qmv hq_qmk
  have ne_qmt_qmk : qmt ≠ qmk := z_ne hm_qmt hq_qmk
  have ne_qml_qmk : qml ≠ qmk := z_ne hm_qml hq_qmk
  have ne_qmh_qmk : qmh ≠ qmk := z_ne hm_qmh hq_qmk
  have ne_qmj_qmk : qmj ≠ qmk := z_ne hm_qmj hq_qmk
  have ne_qms_qmk : qms ≠ qmk := z_ne hm_qms hq_qmk
  have ne_qmg_qmk : qmg ≠ qmk := z_ne hm_qmg hq_qmk
  have ne_qmd_qmk : qmd ≠ qmk := z_ne hm_qmd hq_qmk
  have hn_qmk : qmk ∉ L := fun h => hq_qmk (hsub _ h)
  obtain ⟨f36, e_f36⟩ : ∃ z, z = va_up f34 qmk (.inl (cy 3, 3, .inl (fun _ => 0))) := ⟨_, rfl⟩
  obtain ⟨L35, e_L35⟩ : ∃ z, z = L32 ++ [qmk] := ⟨_, rfl⟩
  rw [← e_f36, ← e_L35] at hw
  have hm_me : me ∈ L35 := by rw [e_L35]; exact List.mem_append_left _ hm_me
  have hf_me : f36 me = .inr (10, [.int 0, .ref qmw, .ref qmn, .ref qmc, .ref qmv, .ref qmt, .int 0, .int 0, .int 0, .int 0, .int 0, .long 0, .int 0, .int 0, .int 0, .int (-1), .ref qml, .ref qmh, .ref qmj, .ref qms, .ref qmg, .ref qmd, .int 0, .null, .int 0, .int 0, .long 0, .int 0, .int 0, .null, .int 0, .null, .null, .null, .null, .null, .int 0, .null, .int 0, .null, .int 0, .int 0, .int 0, .null, .null, .null, .null, .null, .int 0, .null, .null, .null, .int 0, .int 0]) := (congrFun e_f36 me).trans (z_up_ne ne_me_qmk hf_me)
  have hm_qmw : qmw ∈ L35 := by rw [e_L35]; exact List.mem_append_left _ hm_qmw
  have hf_qmw : f36 qmw = .inl (cy 1, 4, .inl (fun _ => 0)) := (congrFun e_f36 qmw).trans (z_up_ne ne_qmw_qmk hf_qmw)
  have hm_qmn : qmn ∈ L35 := by rw [e_L35]; exact List.mem_append_left _ hm_qmn
  have hf_qmn : f36 qmn = .inl (cy 1, 4, .inl (fun _ => 0)) := (congrFun e_f36 qmn).trans (z_up_ne ne_qmn_qmk hf_qmn)
  have hm_qmc : qmc ∈ L35 := by rw [e_L35]; exact List.mem_append_left _ hm_qmc
  have hf_qmc : f36 qmc = .inl (cy 2, 240, .inr (.inl (fun _ => 0))) := (congrFun e_f36 qmc).trans (z_up_ne ne_qmc_qmk hf_qmc)
  have hm_qmv : qmv ∈ L35 := by rw [e_L35]; exact List.mem_append_left _ hm_qmv
  have hf_qmv : f36 qmv = .inl (cy 2, 60, .inr (.inl (fun _ => 0))) := (congrFun e_f36 qmv).trans (z_up_ne ne_qmv_qmk hf_qmv)
  have hm_qmt : qmt ∈ L35 := by rw [e_L35]; exact List.mem_append_left _ hm_qmt
  have hf_qmt : f36 qmt = .inl (cy 0, 1600, .inl (fun _ => 0)) := (congrFun e_f36 qmt).trans (z_up_ne ne_qmt_qmk hf_qmt)
  have hm_qml : qml ∈ L35 := by rw [e_L35]; exact List.mem_append_left _ hm_qml
  have hf_qml : f36 qml = .inl (cy 1, 5, .inl (fun _ => 0)) := (congrFun e_f36 qml).trans (z_up_ne ne_qml_qmk hf_qml)
  have hm_qmh : qmh ∈ L35 := by rw [e_L35]; exact List.mem_append_left _ hm_qmh
  have hf_qmh : f36 qmh = .inl (cy 1, 30, .inl (fun _ => 0)) := (congrFun e_f36 qmh).trans (z_up_ne ne_qmh_qmk hf_qmh)
  have hm_qmj : qmj ∈ L35 := by rw [e_L35]; exact List.mem_append_left _ hm_qmj
  have hf_qmj : f36 qmj = .inl (cy 1, 25, .inl (fun _ => 0)) := (congrFun e_f36 qmj).trans (z_up_ne ne_qmj_qmk hf_qmj)
  have hm_qms : qms ∈ L35 := by rw [e_L35]; exact List.mem_append_left _ hm_qms
  have hf_qms : f36 qms = .inl (cy 1, 20, .inl (fun _ => 0)) := (congrFun e_f36 qms).trans (z_up_ne ne_qms_qmk hf_qms)
  have hm_qmg : qmg ∈ L35 := by rw [e_L35]; exact List.mem_append_left _ hm_qmg
  have hf_qmg : f36 qmg = .inl (cy 1, 180, .inl (fun _ => 0)) := (congrFun e_f36 qmg).trans (z_up_ne ne_qmg_qmk hf_qmg)
  have hm_qmd : qmd ∈ L35 := by rw [e_L35]; exact List.mem_append_left _ hm_qmd
  have hf_qmd : f36 qmd = .inl (cy 1, 520, .inl (fun _ => 0)) := (congrFun e_f36 qmd).trans (z_up_ne ne_qmd_qmk hf_qmd)
  have hm_qmk : qmk ∈ L35 := by rw [e_L35]; exact List.mem_append_right _ (List.mem_singleton.mpr rfl)
  have hf_qmk : f36 qmk = .inl (cy 3, 3, .inl (fun _ => 0)) := (congrFun e_f36 qmk).trans z_up_self
  have hsub : ∀ b ∈ L, b ∈ L35 := fun b h => by rw [e_L35]; exact List.mem_append_left _ (hsub b h)
  have hfr : ∀ b ∈ L, b ≠ me → f36 b = f b := fun b hb h0 => (congrFun e_f36 b).trans (z_up_ne (z_ne hb hn_qmk) (hfr b hb h0))
  refine z_putF (C := RX10) (T := TX10) (N := 54) (ci := 10) (v := .ref qmk) (fs' := [.int 0, .ref qmw, .ref qmn, .ref qmc, .ref qmv, .ref qmt, .int 0, .int 0, .int 0, .int 0, .int 0, .long 0, .int 0, .int 0, .int 0, .int (-1), .ref qml, .ref qmh, .ref qmj, .ref qms, .ref qmg, .ref qmd, .int 0, .ref qmk, .int 0, .int 0, .long 0, .int 0, .int 0, .null, .int 0, .null, .null, .null, .null, .null, .int 0, .null, .int 0, .null, .int 0, .int 0, .int 0, .null, .null, .null, .null, .null, .int 0, .null, .null, .null, .int 0, .int 0]) hx hb hT zin_X10 tyX10_ok nmX10 hown hK hw hm_me hf_me rfl 23 (by decide) (hT _ kw_1191) rfl hnm rfl rfl rfl (Nat.le_of_ble_eq_true rfl) rfl dX10_init_102 (fun H locs hw => ?_)
  obtain ⟨f37, e_f37⟩ : ∃ z, z = va_up f36 me (.inr (10, [.int 0, .ref qmw, .ref qmn, .ref qmc, .ref qmv, .ref qmt, .int 0, .int 0, .int 0, .int 0, .int 0, .long 0, .int 0, .int 0, .int 0, .int (-1), .ref qml, .ref qmh, .ref qmj, .ref qms, .ref qmg, .ref qmd, .int 0, .ref qmk, .int 0, .int 0, .long 0, .int 0, .int 0, .null, .int 0, .null, .null, .null, .null, .null, .int 0, .null, .int 0, .null, .int 0, .int 0, .int 0, .null, .null, .null, .null, .null, .int 0, .null, .null, .null, .int 0, .int 0])) := ⟨_, rfl⟩
  rw [← e_f37] at hw
  have hf_qmw : f37 qmw = .inl (cy 1, 4, .inl (fun _ => 0)) := (congrFun e_f37 qmw).trans (z_up_ne (Ne.symm ne_me_qmw) hf_qmw)
  have hf_qmn : f37 qmn = .inl (cy 1, 4, .inl (fun _ => 0)) := (congrFun e_f37 qmn).trans (z_up_ne (Ne.symm ne_me_qmn) hf_qmn)
  have hf_qmc : f37 qmc = .inl (cy 2, 240, .inr (.inl (fun _ => 0))) := (congrFun e_f37 qmc).trans (z_up_ne (Ne.symm ne_me_qmc) hf_qmc)
  have hf_qmv : f37 qmv = .inl (cy 2, 60, .inr (.inl (fun _ => 0))) := (congrFun e_f37 qmv).trans (z_up_ne (Ne.symm ne_me_qmv) hf_qmv)
  have hf_qmt : f37 qmt = .inl (cy 0, 1600, .inl (fun _ => 0)) := (congrFun e_f37 qmt).trans (z_up_ne (Ne.symm ne_me_qmt) hf_qmt)
  have hf_qml : f37 qml = .inl (cy 1, 5, .inl (fun _ => 0)) := (congrFun e_f37 qml).trans (z_up_ne (Ne.symm ne_me_qml) hf_qml)
  have hf_qmh : f37 qmh = .inl (cy 1, 30, .inl (fun _ => 0)) := (congrFun e_f37 qmh).trans (z_up_ne (Ne.symm ne_me_qmh) hf_qmh)
  have hf_qmj : f37 qmj = .inl (cy 1, 25, .inl (fun _ => 0)) := (congrFun e_f37 qmj).trans (z_up_ne (Ne.symm ne_me_qmj) hf_qmj)
  have hf_qms : f37 qms = .inl (cy 1, 20, .inl (fun _ => 0)) := (congrFun e_f37 qms).trans (z_up_ne (Ne.symm ne_me_qms) hf_qms)
  have hf_qmg : f37 qmg = .inl (cy 1, 180, .inl (fun _ => 0)) := (congrFun e_f37 qmg).trans (z_up_ne (Ne.symm ne_me_qmg) hf_qmg)
  have hf_qmd : f37 qmd = .inl (cy 1, 520, .inl (fun _ => 0)) := (congrFun e_f37 qmd).trans (z_up_ne (Ne.symm ne_me_qmd) hf_qmd)
  have hf_qmk : f37 qmk = .inl (cy 3, 3, .inl (fun _ => 0)) := (congrFun e_f37 qmk).trans (z_up_ne (Ne.symm ne_me_qmk) hf_qmk)
  have hf_me : f37 me = .inr (10, [.int 0, .ref qmw, .ref qmn, .ref qmc, .ref qmv, .ref qmt, .int 0, .int 0, .int 0, .int 0, .int 0, .long 0, .int 0, .int 0, .int 0, .int (-1), .ref qml, .ref qmh, .ref qmj, .ref qms, .ref qmg, .ref qmd, .int 0, .ref qmk, .int 0, .int 0, .long 0, .int 0, .int 0, .null, .int 0, .null, .null, .null, .null, .null, .int 0, .null, .int 0, .null, .int 0, .int 0, .int 0, .null, .null, .null, .null, .null, .int 0, .null, .null, .null, .int 0, .int 0]) := (congrFun e_f37 me).trans z_up_self
  have hfr : ∀ b ∈ L, b ≠ me → f37 b = f b := fun b hb h0 => (congrFun e_f37 b).trans (z_up_ne h0 (hfr b hb h0))
  refine lv_aload_n hx hb dX10_init_105 rfl (lv_at hl 0 rfl) ?_
  refine lv_iconst (v := (-1)) hx hb dX10_init_106 (by decide) ?_
  refine z_put (C := RX10) (T := TX10) (N := 54) (ci := 10) (v := .int (-1)) (fs' := [.int 0, .ref qmw, .ref qmn, .ref qmc, .ref qmv, .ref qmt, .int 0, .int 0, .int 0, .int 0, .int 0, .long 0, .int 0, .int 0, .int 0, .int (-1), .ref qml, .ref qmh, .ref qmj, .ref qms, .ref qmg, .ref qmd, .int 0, .ref qmk, .int (-1), .int 0, .long 0, .int 0, .int 0, .null, .int 0, .null, .null, .null, .null, .null, .int 0, .null, .int 0, .null, .int 0, .int 0, .int 0, .null, .null, .null, .null, .null, .int 0, .null, .null, .null, .int 0, .int 0]) hx hb hT zin_X10 tyX10_ok nmX10 hown hK hw hm_me hf_me rfl 24 (by decide) (hT _ kw_1192) rfl rfl rfl (Nat.le_of_ble_eq_true rfl) rfl dX10_init_107 (fun H locs hw => ?_)
  obtain ⟨f38, e_f38⟩ : ∃ z, z = va_up f37 me (.inr (10, [.int 0, .ref qmw, .ref qmn, .ref qmc, .ref qmv, .ref qmt, .int 0, .int 0, .int 0, .int 0, .int 0, .long 0, .int 0, .int 0, .int 0, .int (-1), .ref qml, .ref qmh, .ref qmj, .ref qms, .ref qmg, .ref qmd, .int 0, .ref qmk, .int (-1), .int 0, .long 0, .int 0, .int 0, .null, .int 0, .null, .null, .null, .null, .null, .int 0, .null, .int 0, .null, .int 0, .int 0, .int 0, .null, .null, .null, .null, .null, .int 0, .null, .null, .null, .int 0, .int 0])) := ⟨_, rfl⟩
  rw [← e_f38] at hw
  have hf_qmw : f38 qmw = .inl (cy 1, 4, .inl (fun _ => 0)) := (congrFun e_f38 qmw).trans (z_up_ne (Ne.symm ne_me_qmw) hf_qmw)
  have hf_qmn : f38 qmn = .inl (cy 1, 4, .inl (fun _ => 0)) := (congrFun e_f38 qmn).trans (z_up_ne (Ne.symm ne_me_qmn) hf_qmn)
  have hf_qmc : f38 qmc = .inl (cy 2, 240, .inr (.inl (fun _ => 0))) := (congrFun e_f38 qmc).trans (z_up_ne (Ne.symm ne_me_qmc) hf_qmc)
  have hf_qmv : f38 qmv = .inl (cy 2, 60, .inr (.inl (fun _ => 0))) := (congrFun e_f38 qmv).trans (z_up_ne (Ne.symm ne_me_qmv) hf_qmv)
  have hf_qmt : f38 qmt = .inl (cy 0, 1600, .inl (fun _ => 0)) := (congrFun e_f38 qmt).trans (z_up_ne (Ne.symm ne_me_qmt) hf_qmt)
  have hf_qml : f38 qml = .inl (cy 1, 5, .inl (fun _ => 0)) := (congrFun e_f38 qml).trans (z_up_ne (Ne.symm ne_me_qml) hf_qml)
  have hf_qmh : f38 qmh = .inl (cy 1, 30, .inl (fun _ => 0)) := (congrFun e_f38 qmh).trans (z_up_ne (Ne.symm ne_me_qmh) hf_qmh)
  have hf_qmj : f38 qmj = .inl (cy 1, 25, .inl (fun _ => 0)) := (congrFun e_f38 qmj).trans (z_up_ne (Ne.symm ne_me_qmj) hf_qmj)
  have hf_qms : f38 qms = .inl (cy 1, 20, .inl (fun _ => 0)) := (congrFun e_f38 qms).trans (z_up_ne (Ne.symm ne_me_qms) hf_qms)
  have hf_qmg : f38 qmg = .inl (cy 1, 180, .inl (fun _ => 0)) := (congrFun e_f38 qmg).trans (z_up_ne (Ne.symm ne_me_qmg) hf_qmg)
  have hf_qmd : f38 qmd = .inl (cy 1, 520, .inl (fun _ => 0)) := (congrFun e_f38 qmd).trans (z_up_ne (Ne.symm ne_me_qmd) hf_qmd)
  have hf_qmk : f38 qmk = .inl (cy 3, 3, .inl (fun _ => 0)) := (congrFun e_f38 qmk).trans (z_up_ne (Ne.symm ne_me_qmk) hf_qmk)
  have hf_me : f38 me = .inr (10, [.int 0, .ref qmw, .ref qmn, .ref qmc, .ref qmv, .ref qmt, .int 0, .int 0, .int 0, .int 0, .int 0, .long 0, .int 0, .int 0, .int 0, .int (-1), .ref qml, .ref qmh, .ref qmj, .ref qms, .ref qmg, .ref qmd, .int 0, .ref qmk, .int (-1), .int 0, .long 0, .int 0, .int 0, .null, .int 0, .null, .null, .null, .null, .null, .int 0, .null, .int 0, .null, .int 0, .int 0, .int 0, .null, .null, .null, .null, .null, .int 0, .null, .null, .null, .int 0, .int 0]) := (congrFun e_f38 me).trans z_up_self
  have hfr : ∀ b ∈ L, b ≠ me → f38 b = f b := fun b hb h0 => (congrFun e_f38 b).trans (z_up_ne h0 (hfr b hb h0))
  refine lv_aload_n hx hb dX10_init_110 rfl (lv_at hl 0 rfl) ?_
  refine lv_bipush (v := 13) hx hb dX10_init_111 (by decide) ?_
  refine z_newa (atype := .int) (n := 13) (N' := 13) (a0 := (13, .inl (fun _ => 0))) (cells := 12) (slots := 2691) hx hb (hT _ kw_203) rfl 1 rfl (fun _ h => by cases h) hK hw hA (fun _ => rfl) (by decide) (by decide) (by decide) (by decide) (by decide) dX10_init_113 (fun qz29 H hq_qz29 hw => ?_)
  refine W.widen (k := 13) (n := 2704) (by decide) (by decide) ?_
  have ne_me_qz29 : me ≠ qz29 := z_ne hm_me hq_qz29
  have ne_qmw_qz29 : qmw ≠ qz29 := z_ne hm_qmw hq_qz29
  have ne_qmn_qz29 : qmn ≠ qz29 := z_ne hm_qmn hq_qz29
  have ne_qmc_qz29 : qmc ≠ qz29 := z_ne hm_qmc hq_qz29
  have ne_qmv_qz29 : qmv ≠ qz29 := z_ne hm_qmv hq_qz29
  have ne_qmt_qz29 : qmt ≠ qz29 := z_ne hm_qmt hq_qz29
  have ne_qml_qz29 : qml ≠ qz29 := z_ne hm_qml hq_qz29
  have ne_qmh_qz29 : qmh ≠ qz29 := z_ne hm_qmh hq_qz29
  have ne_qmj_qz29 : qmj ≠ qz29 := z_ne hm_qmj hq_qz29
  have ne_qms_qz29 : qms ≠ qz29 := z_ne hm_qms hq_qz29
  have ne_qmg_qz29 : qmg ≠ qz29 := z_ne hm_qmg hq_qz29
  have ne_qmd_qz29 : qmd ≠ qz29 := z_ne hm_qmd hq_qz29
  have ne_qmk_qz29 : qmk ≠ qz29 := z_ne hm_qmk hq_qz29
  have hn_qz29 : qz29 ∉ L := fun h => hq_qz29 (hsub _ h)
  obtain ⟨f40, e_f40⟩ : ∃ z, z = va_up f38 qz29 (.inl (cy 1, 13, .inl (fun _ => 0))) := ⟨_, rfl⟩
  obtain ⟨L39, e_L39⟩ : ∃ z, z = L35 ++ [qz29] := ⟨_, rfl⟩
  rw [← e_f40, ← e_L39] at hw
  have hm_me : me ∈ L39 := by rw [e_L39]; exact List.mem_append_left _ hm_me
  have hf_me : f40 me = .inr (10, [.int 0, .ref qmw, .ref qmn, .ref qmc, .ref qmv, .ref qmt, .int 0, .int 0, .int 0, .int 0, .int 0, .long 0, .int 0, .int 0, .int 0, .int (-1), .ref qml, .ref qmh, .ref qmj, .ref qms, .ref qmg, .ref qmd, .int 0, .ref qmk, .int (-1), .int 0, .long 0, .int 0, .int 0, .null, .int 0, .null, .null, .null, .null, .null, .int 0, .null, .int 0, .null, .int 0, .int 0, .int 0, .null, .null, .null, .null, .null, .int 0, .null, .null, .null, .int 0, .int 0]) := (congrFun e_f40 me).trans (z_up_ne ne_me_qz29 hf_me)
  have hm_qmw : qmw ∈ L39 := by rw [e_L39]; exact List.mem_append_left _ hm_qmw
  have hf_qmw : f40 qmw = .inl (cy 1, 4, .inl (fun _ => 0)) := (congrFun e_f40 qmw).trans (z_up_ne ne_qmw_qz29 hf_qmw)
  have hm_qmn : qmn ∈ L39 := by rw [e_L39]; exact List.mem_append_left _ hm_qmn
  have hf_qmn : f40 qmn = .inl (cy 1, 4, .inl (fun _ => 0)) := (congrFun e_f40 qmn).trans (z_up_ne ne_qmn_qz29 hf_qmn)
  have hm_qmc : qmc ∈ L39 := by rw [e_L39]; exact List.mem_append_left _ hm_qmc
  have hf_qmc : f40 qmc = .inl (cy 2, 240, .inr (.inl (fun _ => 0))) := (congrFun e_f40 qmc).trans (z_up_ne ne_qmc_qz29 hf_qmc)
  have hm_qmv : qmv ∈ L39 := by rw [e_L39]; exact List.mem_append_left _ hm_qmv
  have hf_qmv : f40 qmv = .inl (cy 2, 60, .inr (.inl (fun _ => 0))) := (congrFun e_f40 qmv).trans (z_up_ne ne_qmv_qz29 hf_qmv)
  have hm_qmt : qmt ∈ L39 := by rw [e_L39]; exact List.mem_append_left _ hm_qmt
  have hf_qmt : f40 qmt = .inl (cy 0, 1600, .inl (fun _ => 0)) := (congrFun e_f40 qmt).trans (z_up_ne ne_qmt_qz29 hf_qmt)
  have hm_qml : qml ∈ L39 := by rw [e_L39]; exact List.mem_append_left _ hm_qml
  have hf_qml : f40 qml = .inl (cy 1, 5, .inl (fun _ => 0)) := (congrFun e_f40 qml).trans (z_up_ne ne_qml_qz29 hf_qml)
  have hm_qmh : qmh ∈ L39 := by rw [e_L39]; exact List.mem_append_left _ hm_qmh
  have hf_qmh : f40 qmh = .inl (cy 1, 30, .inl (fun _ => 0)) := (congrFun e_f40 qmh).trans (z_up_ne ne_qmh_qz29 hf_qmh)
  have hm_qmj : qmj ∈ L39 := by rw [e_L39]; exact List.mem_append_left _ hm_qmj
  have hf_qmj : f40 qmj = .inl (cy 1, 25, .inl (fun _ => 0)) := (congrFun e_f40 qmj).trans (z_up_ne ne_qmj_qz29 hf_qmj)
  have hm_qms : qms ∈ L39 := by rw [e_L39]; exact List.mem_append_left _ hm_qms
  have hf_qms : f40 qms = .inl (cy 1, 20, .inl (fun _ => 0)) := (congrFun e_f40 qms).trans (z_up_ne ne_qms_qz29 hf_qms)
  have hm_qmg : qmg ∈ L39 := by rw [e_L39]; exact List.mem_append_left _ hm_qmg
  have hf_qmg : f40 qmg = .inl (cy 1, 180, .inl (fun _ => 0)) := (congrFun e_f40 qmg).trans (z_up_ne ne_qmg_qz29 hf_qmg)
  have hm_qmd : qmd ∈ L39 := by rw [e_L39]; exact List.mem_append_left _ hm_qmd
  have hf_qmd : f40 qmd = .inl (cy 1, 520, .inl (fun _ => 0)) := (congrFun e_f40 qmd).trans (z_up_ne ne_qmd_qz29 hf_qmd)
  have hm_qmk : qmk ∈ L39 := by rw [e_L39]; exact List.mem_append_left _ hm_qmk
  have hf_qmk : f40 qmk = .inl (cy 3, 3, .inl (fun _ => 0)) := (congrFun e_f40 qmk).trans (z_up_ne ne_qmk_qz29 hf_qmk)
  have hm_qz29 : qz29 ∈ L39 := by rw [e_L39]; exact List.mem_append_right _ (List.mem_singleton.mpr rfl)
  have hf_qz29 : f40 qz29 = .inl (cy 1, 13, .inl (fun _ => 0)) := (congrFun e_f40 qz29).trans z_up_self
  have hsub : ∀ b ∈ L, b ∈ L39 := fun b h => by rw [e_L39]; exact List.mem_append_left _ (hsub b h)
  have hfr : ∀ b ∈ L, b ≠ me → f40 b = f b := fun b hb h0 => (congrFun e_f40 b).trans (z_up_ne (z_ne hb hn_qz29) (hfr b hb h0))
  refine z_putF (C := RX10) (T := TX10) (N := 54) (ci := 10) (v := .ref qz29) (fs' := [.int 0, .ref qmw, .ref qmn, .ref qmc, .ref qmv, .ref qmt, .int 0, .int 0, .int 0, .int 0, .int 0, .long 0, .int 0, .int 0, .int 0, .int (-1), .ref qml, .ref qmh, .ref qmj, .ref qms, .ref qmg, .ref qmd, .int 0, .ref qmk, .int (-1), .int 0, .long 0, .int 0, .int 0, .ref qz29, .int 0, .null, .null, .null, .null, .null, .int 0, .null, .int 0, .null, .int 0, .int 0, .int 0, .null, .null, .null, .null, .null, .int 0, .null, .null, .null, .int 0, .int 0]) hx hb hT zin_X10 tyX10_ok nmX10 hown hK hw hm_me hf_me rfl 29 (by decide) (hT _ kw_1197) rfl hnm rfl rfl rfl (Nat.le_of_ble_eq_true rfl) rfl dX10_init_115 (fun H locs hw => ?_)
  obtain ⟨f41, e_f41⟩ : ∃ z, z = va_up f40 me (.inr (10, [.int 0, .ref qmw, .ref qmn, .ref qmc, .ref qmv, .ref qmt, .int 0, .int 0, .int 0, .int 0, .int 0, .long 0, .int 0, .int 0, .int 0, .int (-1), .ref qml, .ref qmh, .ref qmj, .ref qms, .ref qmg, .ref qmd, .int 0, .ref qmk, .int (-1), .int 0, .long 0, .int 0, .int 0, .ref qz29, .int 0, .null, .null, .null, .null, .null, .int 0, .null, .int 0, .null, .int 0, .int 0, .int 0, .null, .null, .null, .null, .null, .int 0, .null, .null, .null, .int 0, .int 0])) := ⟨_, rfl⟩
  rw [← e_f41] at hw
  have hf_qmw : f41 qmw = .inl (cy 1, 4, .inl (fun _ => 0)) := (congrFun e_f41 qmw).trans (z_up_ne (Ne.symm ne_me_qmw) hf_qmw)
  have hf_qmn : f41 qmn = .inl (cy 1, 4, .inl (fun _ => 0)) := (congrFun e_f41 qmn).trans (z_up_ne (Ne.symm ne_me_qmn) hf_qmn)
  have hf_qmc : f41 qmc = .inl (cy 2, 240, .inr (.inl (fun _ => 0))) := (congrFun e_f41 qmc).trans (z_up_ne (Ne.symm ne_me_qmc) hf_qmc)
  have hf_qmv : f41 qmv = .inl (cy 2, 60, .inr (.inl (fun _ => 0))) := (congrFun e_f41 qmv).trans (z_up_ne (Ne.symm ne_me_qmv) hf_qmv)
  have hf_qmt : f41 qmt = .inl (cy 0, 1600, .inl (fun _ => 0)) := (congrFun e_f41 qmt).trans (z_up_ne (Ne.symm ne_me_qmt) hf_qmt)
  have hf_qml : f41 qml = .inl (cy 1, 5, .inl (fun _ => 0)) := (congrFun e_f41 qml).trans (z_up_ne (Ne.symm ne_me_qml) hf_qml)
  have hf_qmh : f41 qmh = .inl (cy 1, 30, .inl (fun _ => 0)) := (congrFun e_f41 qmh).trans (z_up_ne (Ne.symm ne_me_qmh) hf_qmh)
  have hf_qmj : f41 qmj = .inl (cy 1, 25, .inl (fun _ => 0)) := (congrFun e_f41 qmj).trans (z_up_ne (Ne.symm ne_me_qmj) hf_qmj)
  have hf_qms : f41 qms = .inl (cy 1, 20, .inl (fun _ => 0)) := (congrFun e_f41 qms).trans (z_up_ne (Ne.symm ne_me_qms) hf_qms)
  have hf_qmg : f41 qmg = .inl (cy 1, 180, .inl (fun _ => 0)) := (congrFun e_f41 qmg).trans (z_up_ne (Ne.symm ne_me_qmg) hf_qmg)
  have hf_qmd : f41 qmd = .inl (cy 1, 520, .inl (fun _ => 0)) := (congrFun e_f41 qmd).trans (z_up_ne (Ne.symm ne_me_qmd) hf_qmd)
  have hf_qmk : f41 qmk = .inl (cy 3, 3, .inl (fun _ => 0)) := (congrFun e_f41 qmk).trans (z_up_ne (Ne.symm ne_me_qmk) hf_qmk)
  have hf_qz29 : f41 qz29 = .inl (cy 1, 13, .inl (fun _ => 0)) := (congrFun e_f41 qz29).trans (z_up_ne (Ne.symm ne_me_qz29) hf_qz29)
  have hf_me : f41 me = .inr (10, [.int 0, .ref qmw, .ref qmn, .ref qmc, .ref qmv, .ref qmt, .int 0, .int 0, .int 0, .int 0, .int 0, .long 0, .int 0, .int 0, .int 0, .int (-1), .ref qml, .ref qmh, .ref qmj, .ref qms, .ref qmg, .ref qmd, .int 0, .ref qmk, .int (-1), .int 0, .long 0, .int 0, .int 0, .ref qz29, .int 0, .null, .null, .null, .null, .null, .int 0, .null, .int 0, .null, .int 0, .int 0, .int 0, .null, .null, .null, .null, .null, .int 0, .null, .null, .null, .int 0, .int 0]) := (congrFun e_f41 me).trans z_up_self
  have hfr : ∀ b ∈ L, b ≠ me → f41 b = f b := fun b hb h0 => (congrFun e_f41 b).trans (z_up_ne h0 (hfr b hb h0))
  refine lv_aload_n hx hb dX10_init_118 rfl (lv_at hl 0 rfl) ?_
  refine lv_iconst (v := 4) hx hb dX10_init_119 (by decide) ?_
  refine z_newa (atype := .int) (n := 4) (N' := 4) (a0 := (4, .inl (fun _ => 0))) (cells := 13) (slots := 2704) hx hb (hT _ kw_203) rfl 1 rfl (fun _ h => by cases h) hK hw hA (fun _ => rfl) (by decide) (by decide) (by decide) (by decide) (by decide) dX10_init_120 (fun qz31 H hq_qz31 hw => ?_)
  refine W.widen (k := 14) (n := 2708) (by decide) (by decide) ?_
  have ne_me_qz31 : me ≠ qz31 := z_ne hm_me hq_qz31
  have ne_qmw_qz31 : qmw ≠ qz31 := z_ne hm_qmw hq_qz31
  have ne_qmn_qz31 : qmn ≠ qz31 := z_ne hm_qmn hq_qz31
  have ne_qmc_qz31 : qmc ≠ qz31 := z_ne hm_qmc hq_qz31
  have ne_qmv_qz31 : qmv ≠ qz31 := z_ne hm_qmv hq_qz31
  have ne_qmt_qz31 : qmt ≠ qz31 := z_ne hm_qmt hq_qz31
  have ne_qml_qz31 : qml ≠ qz31 := z_ne hm_qml hq_qz31
  have ne_qmh_qz31 : qmh ≠ qz31 := z_ne hm_qmh hq_qz31
  have ne_qmj_qz31 : qmj ≠ qz31 := z_ne hm_qmj hq_qz31
  have ne_qms_qz31 : qms ≠ qz31 := z_ne hm_qms hq_qz31
  have ne_qmg_qz31 : qmg ≠ qz31 := z_ne hm_qmg hq_qz31
  have ne_qmd_qz31 : qmd ≠ qz31 := z_ne hm_qmd hq_qz31
  have ne_qmk_qz31 : qmk ≠ qz31 := z_ne hm_qmk hq_qz31
  have hn_qz31 : qz31 ∉ L := fun h => hq_qz31 (hsub _ h)
  obtain ⟨f43, e_f43⟩ : ∃ z, z = va_up f41 qz31 (.inl (cy 1, 4, .inl (fun _ => 0))) := ⟨_, rfl⟩
  obtain ⟨L42, e_L42⟩ : ∃ z, z = L39 ++ [qz31] := ⟨_, rfl⟩
  rw [← e_f43, ← e_L42] at hw
  have hm_me : me ∈ L42 := by rw [e_L42]; exact List.mem_append_left _ hm_me
  have hf_me : f43 me = .inr (10, [.int 0, .ref qmw, .ref qmn, .ref qmc, .ref qmv, .ref qmt, .int 0, .int 0, .int 0, .int 0, .int 0, .long 0, .int 0, .int 0, .int 0, .int (-1), .ref qml, .ref qmh, .ref qmj, .ref qms, .ref qmg, .ref qmd, .int 0, .ref qmk, .int (-1), .int 0, .long 0, .int 0, .int 0, .ref qz29, .int 0, .null, .null, .null, .null, .null, .int 0, .null, .int 0, .null, .int 0, .int 0, .int 0, .null, .null, .null, .null, .null, .int 0, .null, .null, .null, .int 0, .int 0]) := (congrFun e_f43 me).trans (z_up_ne ne_me_qz31 hf_me)
  have hm_qmw : qmw ∈ L42 := by rw [e_L42]; exact List.mem_append_left _ hm_qmw
  have hf_qmw : f43 qmw = .inl (cy 1, 4, .inl (fun _ => 0)) := (congrFun e_f43 qmw).trans (z_up_ne ne_qmw_qz31 hf_qmw)
  have hm_qmn : qmn ∈ L42 := by rw [e_L42]; exact List.mem_append_left _ hm_qmn
  have hf_qmn : f43 qmn = .inl (cy 1, 4, .inl (fun _ => 0)) := (congrFun e_f43 qmn).trans (z_up_ne ne_qmn_qz31 hf_qmn)
  have hm_qmc : qmc ∈ L42 := by rw [e_L42]; exact List.mem_append_left _ hm_qmc
  have hf_qmc : f43 qmc = .inl (cy 2, 240, .inr (.inl (fun _ => 0))) := (congrFun e_f43 qmc).trans (z_up_ne ne_qmc_qz31 hf_qmc)
  have hm_qmv : qmv ∈ L42 := by rw [e_L42]; exact List.mem_append_left _ hm_qmv
  have hf_qmv : f43 qmv = .inl (cy 2, 60, .inr (.inl (fun _ => 0))) := (congrFun e_f43 qmv).trans (z_up_ne ne_qmv_qz31 hf_qmv)
  have hm_qmt : qmt ∈ L42 := by rw [e_L42]; exact List.mem_append_left _ hm_qmt
  have hf_qmt : f43 qmt = .inl (cy 0, 1600, .inl (fun _ => 0)) := (congrFun e_f43 qmt).trans (z_up_ne ne_qmt_qz31 hf_qmt)
  have hm_qml : qml ∈ L42 := by rw [e_L42]; exact List.mem_append_left _ hm_qml
  have hf_qml : f43 qml = .inl (cy 1, 5, .inl (fun _ => 0)) := (congrFun e_f43 qml).trans (z_up_ne ne_qml_qz31 hf_qml)
  have hm_qmh : qmh ∈ L42 := by rw [e_L42]; exact List.mem_append_left _ hm_qmh
  have hf_qmh : f43 qmh = .inl (cy 1, 30, .inl (fun _ => 0)) := (congrFun e_f43 qmh).trans (z_up_ne ne_qmh_qz31 hf_qmh)
  have hm_qmj : qmj ∈ L42 := by rw [e_L42]; exact List.mem_append_left _ hm_qmj
  have hf_qmj : f43 qmj = .inl (cy 1, 25, .inl (fun _ => 0)) := (congrFun e_f43 qmj).trans (z_up_ne ne_qmj_qz31 hf_qmj)
  have hm_qms : qms ∈ L42 := by rw [e_L42]; exact List.mem_append_left _ hm_qms
  have hf_qms : f43 qms = .inl (cy 1, 20, .inl (fun _ => 0)) := (congrFun e_f43 qms).trans (z_up_ne ne_qms_qz31 hf_qms)
  have hm_qmg : qmg ∈ L42 := by rw [e_L42]; exact List.mem_append_left _ hm_qmg
  have hf_qmg : f43 qmg = .inl (cy 1, 180, .inl (fun _ => 0)) := (congrFun e_f43 qmg).trans (z_up_ne ne_qmg_qz31 hf_qmg)
  have hm_qmd : qmd ∈ L42 := by rw [e_L42]; exact List.mem_append_left _ hm_qmd
  have hf_qmd : f43 qmd = .inl (cy 1, 520, .inl (fun _ => 0)) := (congrFun e_f43 qmd).trans (z_up_ne ne_qmd_qz31 hf_qmd)
  have hm_qmk : qmk ∈ L42 := by rw [e_L42]; exact List.mem_append_left _ hm_qmk
  have hf_qmk : f43 qmk = .inl (cy 3, 3, .inl (fun _ => 0)) := (congrFun e_f43 qmk).trans (z_up_ne ne_qmk_qz31 hf_qmk)
  have hm_qz31 : qz31 ∈ L42 := by rw [e_L42]; exact List.mem_append_right _ (List.mem_singleton.mpr rfl)
  have hf_qz31 : f43 qz31 = .inl (cy 1, 4, .inl (fun _ => 0)) := (congrFun e_f43 qz31).trans z_up_self
  have hsub : ∀ b ∈ L, b ∈ L42 := fun b h => by rw [e_L42]; exact List.mem_append_left _ (hsub b h)
  have hfr : ∀ b ∈ L, b ≠ me → f43 b = f b := fun b hb h0 => (congrFun e_f43 b).trans (z_up_ne (z_ne hb hn_qz31) (hfr b hb h0))
  refine z_putF (C := RX10) (T := TX10) (N := 54) (ci := 10) (v := .ref qz31) (fs' := [.int 0, .ref qmw, .ref qmn, .ref qmc, .ref qmv, .ref qmt, .int 0, .int 0, .int 0, .int 0, .int 0, .long 0, .int 0, .int 0, .int 0, .int (-1), .ref qml, .ref qmh, .ref qmj, .ref qms, .ref qmg, .ref qmd, .int 0, .ref qmk, .int (-1), .int 0, .long 0, .int 0, .int 0, .ref qz29, .int 0, .ref qz31, .null, .null, .null, .null, .int 0, .null, .int 0, .null, .int 0, .int 0, .int 0, .null, .null, .null, .null, .null, .int 0, .null, .null, .null, .int 0, .int 0]) hx hb hT zin_X10 tyX10_ok nmX10 hown hK hw hm_me hf_me rfl 31 (by decide) (hT _ kw_1199) rfl hnm rfl rfl rfl (Nat.le_of_ble_eq_true rfl) rfl dX10_init_122 (fun H locs hw => ?_)
  obtain ⟨f44, e_f44⟩ : ∃ z, z = va_up f43 me (.inr (10, [.int 0, .ref qmw, .ref qmn, .ref qmc, .ref qmv, .ref qmt, .int 0, .int 0, .int 0, .int 0, .int 0, .long 0, .int 0, .int 0, .int 0, .int (-1), .ref qml, .ref qmh, .ref qmj, .ref qms, .ref qmg, .ref qmd, .int 0, .ref qmk, .int (-1), .int 0, .long 0, .int 0, .int 0, .ref qz29, .int 0, .ref qz31, .null, .null, .null, .null, .int 0, .null, .int 0, .null, .int 0, .int 0, .int 0, .null, .null, .null, .null, .null, .int 0, .null, .null, .null, .int 0, .int 0])) := ⟨_, rfl⟩
  rw [← e_f44] at hw
  have hf_qmw : f44 qmw = .inl (cy 1, 4, .inl (fun _ => 0)) := (congrFun e_f44 qmw).trans (z_up_ne (Ne.symm ne_me_qmw) hf_qmw)
  have hf_qmn : f44 qmn = .inl (cy 1, 4, .inl (fun _ => 0)) := (congrFun e_f44 qmn).trans (z_up_ne (Ne.symm ne_me_qmn) hf_qmn)
  have hf_qmc : f44 qmc = .inl (cy 2, 240, .inr (.inl (fun _ => 0))) := (congrFun e_f44 qmc).trans (z_up_ne (Ne.symm ne_me_qmc) hf_qmc)
  have hf_qmv : f44 qmv = .inl (cy 2, 60, .inr (.inl (fun _ => 0))) := (congrFun e_f44 qmv).trans (z_up_ne (Ne.symm ne_me_qmv) hf_qmv)
  have hf_qmt : f44 qmt = .inl (cy 0, 1600, .inl (fun _ => 0)) := (congrFun e_f44 qmt).trans (z_up_ne (Ne.symm ne_me_qmt) hf_qmt)
  have hf_qml : f44 qml = .inl (cy 1, 5, .inl (fun _ => 0)) := (congrFun e_f44 qml).trans (z_up_ne (Ne.symm ne_me_qml) hf_qml)
  have hf_qmh : f44 qmh = .inl (cy 1, 30, .inl (fun _ => 0)) := (congrFun e_f44 qmh).trans (z_up_ne (Ne.symm ne_me_qmh) hf_qmh)
  have hf_qmj : f44 qmj = .inl (cy 1, 25, .inl (fun _ => 0)) := (congrFun e_f44 qmj).trans (z_up_ne (Ne.symm ne_me_qmj) hf_qmj)
  have hf_qms : f44 qms = .inl (cy 1, 20, .inl (fun _ => 0)) := (congrFun e_f44 qms).trans (z_up_ne (Ne.symm ne_me_qms) hf_qms)
  have hf_qmg : f44 qmg = .inl (cy 1, 180, .inl (fun _ => 0)) := (congrFun e_f44 qmg).trans (z_up_ne (Ne.symm ne_me_qmg) hf_qmg)
  have hf_qmd : f44 qmd = .inl (cy 1, 520, .inl (fun _ => 0)) := (congrFun e_f44 qmd).trans (z_up_ne (Ne.symm ne_me_qmd) hf_qmd)
  have hf_qmk : f44 qmk = .inl (cy 3, 3, .inl (fun _ => 0)) := (congrFun e_f44 qmk).trans (z_up_ne (Ne.symm ne_me_qmk) hf_qmk)
  have hf_qz31 : f44 qz31 = .inl (cy 1, 4, .inl (fun _ => 0)) := (congrFun e_f44 qz31).trans (z_up_ne (Ne.symm ne_me_qz31) hf_qz31)
  have hf_me : f44 me = .inr (10, [.int 0, .ref qmw, .ref qmn, .ref qmc, .ref qmv, .ref qmt, .int 0, .int 0, .int 0, .int 0, .int 0, .long 0, .int 0, .int 0, .int 0, .int (-1), .ref qml, .ref qmh, .ref qmj, .ref qms, .ref qmg, .ref qmd, .int 0, .ref qmk, .int (-1), .int 0, .long 0, .int 0, .int 0, .ref qz29, .int 0, .ref qz31, .null, .null, .null, .null, .int 0, .null, .int 0, .null, .int 0, .int 0, .int 0, .null, .null, .null, .null, .null, .int 0, .null, .null, .null, .int 0, .int 0]) := (congrFun e_f44 me).trans z_up_self
  have hfr : ∀ b ∈ L, b ≠ me → f44 b = f b := fun b hb h0 => (congrFun e_f44 b).trans (z_up_ne h0 (hfr b hb h0))
  refine lv_aload_n hx hb dX10_init_125 rfl (lv_at hl 0 rfl) ?_
  refine lv_bipush (v := 36) hx hb dX10_init_126 (by decide) ?_
  refine z_newa (atype := .int) (n := 36) (N' := 36) (a0 := (36, .inl (fun _ => 0))) (cells := 14) (slots := 2708) hx hb (hT _ kw_203) rfl 1 rfl (fun _ h => by cases h) hK hw hA (fun _ => rfl) (by decide) (by decide) (by decide) (by decide) (by decide) dX10_init_128 (fun qz32 H hq_qz32 hw => ?_)
  refine W.widen (k := 15) (n := 2744) (by decide) (by decide) ?_
  have ne_me_qz32 : me ≠ qz32 := z_ne hm_me hq_qz32
  have ne_qmw_qz32 : qmw ≠ qz32 := z_ne hm_qmw hq_qz32
  have ne_qmn_qz32 : qmn ≠ qz32 := z_ne hm_qmn hq_qz32
  have ne_qmc_qz32 : qmc ≠ qz32 := z_ne hm_qmc hq_qz32
  have ne_qmv_qz32 : qmv ≠ qz32 := z_ne hm_qmv hq_qz32
  have ne_qmt_qz32 : qmt ≠ qz32 := z_ne hm_qmt hq_qz32
  have ne_qml_qz32 : qml ≠ qz32 := z_ne hm_qml hq_qz32
  have ne_qmh_qz32 : qmh ≠ qz32 := z_ne hm_qmh hq_qz32
  have ne_qmj_qz32 : qmj ≠ qz32 := z_ne hm_qmj hq_qz32
  have ne_qms_qz32 : qms ≠ qz32 := z_ne hm_qms hq_qz32
  have ne_qmg_qz32 : qmg ≠ qz32 := z_ne hm_qmg hq_qz32
  have ne_qmd_qz32 : qmd ≠ qz32 := z_ne hm_qmd hq_qz32
  have ne_qmk_qz32 : qmk ≠ qz32 := z_ne hm_qmk hq_qz32
  have hn_qz32 : qz32 ∉ L := fun h => hq_qz32 (hsub _ h)
  obtain ⟨f46, e_f46⟩ : ∃ z, z = va_up f44 qz32 (.inl (cy 1, 36, .inl (fun _ => 0))) := ⟨_, rfl⟩
  obtain ⟨L45, e_L45⟩ : ∃ z, z = L42 ++ [qz32] := ⟨_, rfl⟩
  rw [← e_f46, ← e_L45] at hw
  have hm_me : me ∈ L45 := by rw [e_L45]; exact List.mem_append_left _ hm_me
  have hf_me : f46 me = .inr (10, [.int 0, .ref qmw, .ref qmn, .ref qmc, .ref qmv, .ref qmt, .int 0, .int 0, .int 0, .int 0, .int 0, .long 0, .int 0, .int 0, .int 0, .int (-1), .ref qml, .ref qmh, .ref qmj, .ref qms, .ref qmg, .ref qmd, .int 0, .ref qmk, .int (-1), .int 0, .long 0, .int 0, .int 0, .ref qz29, .int 0, .ref qz31, .null, .null, .null, .null, .int 0, .null, .int 0, .null, .int 0, .int 0, .int 0, .null, .null, .null, .null, .null, .int 0, .null, .null, .null, .int 0, .int 0]) := (congrFun e_f46 me).trans (z_up_ne ne_me_qz32 hf_me)
  have hm_qmw : qmw ∈ L45 := by rw [e_L45]; exact List.mem_append_left _ hm_qmw
  have hf_qmw : f46 qmw = .inl (cy 1, 4, .inl (fun _ => 0)) := (congrFun e_f46 qmw).trans (z_up_ne ne_qmw_qz32 hf_qmw)
  have hm_qmn : qmn ∈ L45 := by rw [e_L45]; exact List.mem_append_left _ hm_qmn
  have hf_qmn : f46 qmn = .inl (cy 1, 4, .inl (fun _ => 0)) := (congrFun e_f46 qmn).trans (z_up_ne ne_qmn_qz32 hf_qmn)
  have hm_qmc : qmc ∈ L45 := by rw [e_L45]; exact List.mem_append_left _ hm_qmc
  have hf_qmc : f46 qmc = .inl (cy 2, 240, .inr (.inl (fun _ => 0))) := (congrFun e_f46 qmc).trans (z_up_ne ne_qmc_qz32 hf_qmc)
  have hm_qmv : qmv ∈ L45 := by rw [e_L45]; exact List.mem_append_left _ hm_qmv
  have hf_qmv : f46 qmv = .inl (cy 2, 60, .inr (.inl (fun _ => 0))) := (congrFun e_f46 qmv).trans (z_up_ne ne_qmv_qz32 hf_qmv)
  have hm_qmt : qmt ∈ L45 := by rw [e_L45]; exact List.mem_append_left _ hm_qmt
  have hf_qmt : f46 qmt = .inl (cy 0, 1600, .inl (fun _ => 0)) := (congrFun e_f46 qmt).trans (z_up_ne ne_qmt_qz32 hf_qmt)
  have hm_qml : qml ∈ L45 := by rw [e_L45]; exact List.mem_append_left _ hm_qml
  have hf_qml : f46 qml = .inl (cy 1, 5, .inl (fun _ => 0)) := (congrFun e_f46 qml).trans (z_up_ne ne_qml_qz32 hf_qml)
  have hm_qmh : qmh ∈ L45 := by rw [e_L45]; exact List.mem_append_left _ hm_qmh
  have hf_qmh : f46 qmh = .inl (cy 1, 30, .inl (fun _ => 0)) := (congrFun e_f46 qmh).trans (z_up_ne ne_qmh_qz32 hf_qmh)
  have hm_qmj : qmj ∈ L45 := by rw [e_L45]; exact List.mem_append_left _ hm_qmj
  have hf_qmj : f46 qmj = .inl (cy 1, 25, .inl (fun _ => 0)) := (congrFun e_f46 qmj).trans (z_up_ne ne_qmj_qz32 hf_qmj)
  have hm_qms : qms ∈ L45 := by rw [e_L45]; exact List.mem_append_left _ hm_qms
  have hf_qms : f46 qms = .inl (cy 1, 20, .inl (fun _ => 0)) := (congrFun e_f46 qms).trans (z_up_ne ne_qms_qz32 hf_qms)
  have hm_qmg : qmg ∈ L45 := by rw [e_L45]; exact List.mem_append_left _ hm_qmg
  have hf_qmg : f46 qmg = .inl (cy 1, 180, .inl (fun _ => 0)) := (congrFun e_f46 qmg).trans (z_up_ne ne_qmg_qz32 hf_qmg)
  have hm_qmd : qmd ∈ L45 := by rw [e_L45]; exact List.mem_append_left _ hm_qmd
  have hf_qmd : f46 qmd = .inl (cy 1, 520, .inl (fun _ => 0)) := (congrFun e_f46 qmd).trans (z_up_ne ne_qmd_qz32 hf_qmd)
  have hm_qmk : qmk ∈ L45 := by rw [e_L45]; exact List.mem_append_left _ hm_qmk
  have hf_qmk : f46 qmk = .inl (cy 3, 3, .inl (fun _ => 0)) := (congrFun e_f46 qmk).trans (z_up_ne ne_qmk_qz32 hf_qmk)
  have hm_qz32 : qz32 ∈ L45 := by rw [e_L45]; exact List.mem_append_right _ (List.mem_singleton.mpr rfl)
  have hf_qz32 : f46 qz32 = .inl (cy 1, 36, .inl (fun _ => 0)) := (congrFun e_f46 qz32).trans z_up_self
  have hsub : ∀ b ∈ L, b ∈ L45 := fun b h => by rw [e_L45]; exact List.mem_append_left _ (hsub b h)
  have hfr : ∀ b ∈ L, b ≠ me → f46 b = f b := fun b hb h0 => (congrFun e_f46 b).trans (z_up_ne (z_ne hb hn_qz32) (hfr b hb h0))
  refine z_putF (C := RX10) (T := TX10) (N := 54) (ci := 10) (v := .ref qz32) (fs' := [.int 0, .ref qmw, .ref qmn, .ref qmc, .ref qmv, .ref qmt, .int 0, .int 0, .int 0, .int 0, .int 0, .long 0, .int 0, .int 0, .int 0, .int (-1), .ref qml, .ref qmh, .ref qmj, .ref qms, .ref qmg, .ref qmd, .int 0, .ref qmk, .int (-1), .int 0, .long 0, .int 0, .int 0, .ref qz29, .int 0, .ref qz31, .ref qz32, .null, .null, .null, .int 0, .null, .int 0, .null, .int 0, .int 0, .int 0, .null, .null, .null, .null, .null, .int 0, .null, .null, .null, .int 0, .int 0]) hx hb hT zin_X10 tyX10_ok nmX10 hown hK hw hm_me hf_me rfl 32 (by decide) (hT _ kw_1200) rfl hnm rfl rfl rfl (Nat.le_of_ble_eq_true rfl) rfl dX10_init_130 (fun H locs hw => ?_)
  obtain ⟨f47, e_f47⟩ : ∃ z, z = va_up f46 me (.inr (10, [.int 0, .ref qmw, .ref qmn, .ref qmc, .ref qmv, .ref qmt, .int 0, .int 0, .int 0, .int 0, .int 0, .long 0, .int 0, .int 0, .int 0, .int (-1), .ref qml, .ref qmh, .ref qmj, .ref qms, .ref qmg, .ref qmd, .int 0, .ref qmk, .int (-1), .int 0, .long 0, .int 0, .int 0, .ref qz29, .int 0, .ref qz31, .ref qz32, .null, .null, .null, .int 0, .null, .int 0, .null, .int 0, .int 0, .int 0, .null, .null, .null, .null, .null, .int 0, .null, .null, .null, .int 0, .int 0])) := ⟨_, rfl⟩
  rw [← e_f47] at hw
  have hf_qmw : f47 qmw = .inl (cy 1, 4, .inl (fun _ => 0)) := (congrFun e_f47 qmw).trans (z_up_ne (Ne.symm ne_me_qmw) hf_qmw)
  have hf_qmn : f47 qmn = .inl (cy 1, 4, .inl (fun _ => 0)) := (congrFun e_f47 qmn).trans (z_up_ne (Ne.symm ne_me_qmn) hf_qmn)
  have hf_qmc : f47 qmc = .inl (cy 2, 240, .inr (.inl (fun _ => 0))) := (congrFun e_f47 qmc).trans (z_up_ne (Ne.symm ne_me_qmc) hf_qmc)
  have hf_qmv : f47 qmv = .inl (cy 2, 60, .inr (.inl (fun _ => 0))) := (congrFun e_f47 qmv).trans (z_up_ne (Ne.symm ne_me_qmv) hf_qmv)
  have hf_qmt : f47 qmt = .inl (cy 0, 1600, .inl (fun _ => 0)) := (congrFun e_f47 qmt).trans (z_up_ne (Ne.symm ne_me_qmt) hf_qmt)
  have hf_qml : f47 qml = .inl (cy 1, 5, .inl (fun _ => 0)) := (congrFun e_f47 qml).trans (z_up_ne (Ne.symm ne_me_qml) hf_qml)
  have hf_qmh : f47 qmh = .inl (cy 1, 30, .inl (fun _ => 0)) := (congrFun e_f47 qmh).trans (z_up_ne (Ne.symm ne_me_qmh) hf_qmh)
  have hf_qmj : f47 qmj = .inl (cy 1, 25, .inl (fun _ => 0)) := (congrFun e_f47 qmj).trans (z_up_ne (Ne.symm ne_me_qmj) hf_qmj)
  have hf_qms : f47 qms = .inl (cy 1, 20, .inl (fun _ => 0)) := (congrFun e_f47 qms).trans (z_up_ne (Ne.symm ne_me_qms) hf_qms)
  have hf_qmg : f47 qmg = .inl (cy 1, 180, .inl (fun _ => 0)) := (congrFun e_f47 qmg).trans (z_up_ne (Ne.symm ne_me_qmg) hf_qmg)
  have hf_qmd : f47 qmd = .inl (cy 1, 520, .inl (fun _ => 0)) := (congrFun e_f47 qmd).trans (z_up_ne (Ne.symm ne_me_qmd) hf_qmd)
  have hf_qmk : f47 qmk = .inl (cy 3, 3, .inl (fun _ => 0)) := (congrFun e_f47 qmk).trans (z_up_ne (Ne.symm ne_me_qmk) hf_qmk)
  have hf_qz32 : f47 qz32 = .inl (cy 1, 36, .inl (fun _ => 0)) := (congrFun e_f47 qz32).trans (z_up_ne (Ne.symm ne_me_qz32) hf_qz32)
  have hf_me : f47 me = .inr (10, [.int 0, .ref qmw, .ref qmn, .ref qmc, .ref qmv, .ref qmt, .int 0, .int 0, .int 0, .int 0, .int 0, .long 0, .int 0, .int 0, .int 0, .int (-1), .ref qml, .ref qmh, .ref qmj, .ref qms, .ref qmg, .ref qmd, .int 0, .ref qmk, .int (-1), .int 0, .long 0, .int 0, .int 0, .ref qz29, .int 0, .ref qz31, .ref qz32, .null, .null, .null, .int 0, .null, .int 0, .null, .int 0, .int 0, .int 0, .null, .null, .null, .null, .null, .int 0, .null, .null, .null, .int 0, .int 0]) := (congrFun e_f47 me).trans z_up_self
  have hfr : ∀ b ∈ L, b ≠ me → f47 b = f b := fun b hb h0 => (congrFun e_f47 b).trans (z_up_ne h0 (hfr b hb h0))
  refine lv_aload_n hx hb dX10_init_133 rfl (lv_at hl 0 rfl) ?_
  refine lv_bipush (v := 36) hx hb dX10_init_134 (by decide) ?_
  refine z_newa (atype := .int) (n := 36) (N' := 36) (a0 := (36, .inl (fun _ => 0))) (cells := 15) (slots := 2744) hx hb (hT _ kw_203) rfl 1 rfl (fun _ h => by cases h) hK hw hA (fun _ => rfl) (by decide) (by decide) (by decide) (by decide) (by decide) dX10_init_136 (fun qz33 H hq_qz33 hw => ?_)
  refine W.widen (k := 16) (n := 2780) (by decide) (by decide) ?_
  have ne_me_qz33 : me ≠ qz33 := z_ne hm_me hq_qz33
  have ne_qmw_qz33 : qmw ≠ qz33 := z_ne hm_qmw hq_qz33
  have ne_qmn_qz33 : qmn ≠ qz33 := z_ne hm_qmn hq_qz33
  have ne_qmc_qz33 : qmc ≠ qz33 := z_ne hm_qmc hq_qz33
  have ne_qmv_qz33 : qmv ≠ qz33 := z_ne hm_qmv hq_qz33
  have ne_qmt_qz33 : qmt ≠ qz33 := z_ne hm_qmt hq_qz33
  have ne_qml_qz33 : qml ≠ qz33 := z_ne hm_qml hq_qz33
  have ne_qmh_qz33 : qmh ≠ qz33 := z_ne hm_qmh hq_qz33
  have ne_qmj_qz33 : qmj ≠ qz33 := z_ne hm_qmj hq_qz33
  have ne_qms_qz33 : qms ≠ qz33 := z_ne hm_qms hq_qz33
  have ne_qmg_qz33 : qmg ≠ qz33 := z_ne hm_qmg hq_qz33
  have ne_qmd_qz33 : qmd ≠ qz33 := z_ne hm_qmd hq_qz33
  have ne_qmk_qz33 : qmk ≠ qz33 := z_ne hm_qmk hq_qz33
  have hn_qz33 : qz33 ∉ L := fun h => hq_qz33 (hsub _ h)
  obtain ⟨f49, e_f49⟩ : ∃ z, z = va_up f47 qz33 (.inl (cy 1, 36, .inl (fun _ => 0))) := ⟨_, rfl⟩
  obtain ⟨L48, e_L48⟩ : ∃ z, z = L45 ++ [qz33] := ⟨_, rfl⟩
  rw [← e_f49, ← e_L48] at hw
  have hm_me : me ∈ L48 := by rw [e_L48]; exact List.mem_append_left _ hm_me
  have hf_me : f49 me = .inr (10, [.int 0, .ref qmw, .ref qmn, .ref qmc, .ref qmv, .ref qmt, .int 0, .int 0, .int 0, .int 0, .int 0, .long 0, .int 0, .int 0, .int 0, .int (-1), .ref qml, .ref qmh, .ref qmj, .ref qms, .ref qmg, .ref qmd, .int 0, .ref qmk, .int (-1), .int 0, .long 0, .int 0, .int 0, .ref qz29, .int 0, .ref qz31, .ref qz32, .null, .null, .null, .int 0, .null, .int 0, .null, .int 0, .int 0, .int 0, .null, .null, .null, .null, .null, .int 0, .null, .null, .null, .int 0, .int 0]) := (congrFun e_f49 me).trans (z_up_ne ne_me_qz33 hf_me)
  have hm_qmw : qmw ∈ L48 := by rw [e_L48]; exact List.mem_append_left _ hm_qmw
  have hf_qmw : f49 qmw = .inl (cy 1, 4, .inl (fun _ => 0)) := (congrFun e_f49 qmw).trans (z_up_ne ne_qmw_qz33 hf_qmw)
  have hm_qmn : qmn ∈ L48 := by rw [e_L48]; exact List.mem_append_left _ hm_qmn
  have hf_qmn : f49 qmn = .inl (cy 1, 4, .inl (fun _ => 0)) := (congrFun e_f49 qmn).trans (z_up_ne ne_qmn_qz33 hf_qmn)
  have hm_qmc : qmc ∈ L48 := by rw [e_L48]; exact List.mem_append_left _ hm_qmc
  have hf_qmc : f49 qmc = .inl (cy 2, 240, .inr (.inl (fun _ => 0))) := (congrFun e_f49 qmc).trans (z_up_ne ne_qmc_qz33 hf_qmc)
  have hm_qmv : qmv ∈ L48 := by rw [e_L48]; exact List.mem_append_left _ hm_qmv
  have hf_qmv : f49 qmv = .inl (cy 2, 60, .inr (.inl (fun _ => 0))) := (congrFun e_f49 qmv).trans (z_up_ne ne_qmv_qz33 hf_qmv)
  have hm_qmt : qmt ∈ L48 := by rw [e_L48]; exact List.mem_append_left _ hm_qmt
  have hf_qmt : f49 qmt = .inl (cy 0, 1600, .inl (fun _ => 0)) := (congrFun e_f49 qmt).trans (z_up_ne ne_qmt_qz33 hf_qmt)
  have hm_qml : qml ∈ L48 := by rw [e_L48]; exact List.mem_append_left _ hm_qml
  have hf_qml : f49 qml = .inl (cy 1, 5, .inl (fun _ => 0)) := (congrFun e_f49 qml).trans (z_up_ne ne_qml_qz33 hf_qml)
  have hm_qmh : qmh ∈ L48 := by rw [e_L48]; exact List.mem_append_left _ hm_qmh
  have hf_qmh : f49 qmh = .inl (cy 1, 30, .inl (fun _ => 0)) := (congrFun e_f49 qmh).trans (z_up_ne ne_qmh_qz33 hf_qmh)
  have hm_qmj : qmj ∈ L48 := by rw [e_L48]; exact List.mem_append_left _ hm_qmj
  have hf_qmj : f49 qmj = .inl (cy 1, 25, .inl (fun _ => 0)) := (congrFun e_f49 qmj).trans (z_up_ne ne_qmj_qz33 hf_qmj)
  have hm_qms : qms ∈ L48 := by rw [e_L48]; exact List.mem_append_left _ hm_qms
  have hf_qms : f49 qms = .inl (cy 1, 20, .inl (fun _ => 0)) := (congrFun e_f49 qms).trans (z_up_ne ne_qms_qz33 hf_qms)
  have hm_qmg : qmg ∈ L48 := by rw [e_L48]; exact List.mem_append_left _ hm_qmg
  have hf_qmg : f49 qmg = .inl (cy 1, 180, .inl (fun _ => 0)) := (congrFun e_f49 qmg).trans (z_up_ne ne_qmg_qz33 hf_qmg)
  have hm_qmd : qmd ∈ L48 := by rw [e_L48]; exact List.mem_append_left _ hm_qmd
  have hf_qmd : f49 qmd = .inl (cy 1, 520, .inl (fun _ => 0)) := (congrFun e_f49 qmd).trans (z_up_ne ne_qmd_qz33 hf_qmd)
  have hm_qmk : qmk ∈ L48 := by rw [e_L48]; exact List.mem_append_left _ hm_qmk
  have hf_qmk : f49 qmk = .inl (cy 3, 3, .inl (fun _ => 0)) := (congrFun e_f49 qmk).trans (z_up_ne ne_qmk_qz33 hf_qmk)
  have hm_qz33 : qz33 ∈ L48 := by rw [e_L48]; exact List.mem_append_right _ (List.mem_singleton.mpr rfl)
  have hf_qz33 : f49 qz33 = .inl (cy 1, 36, .inl (fun _ => 0)) := (congrFun e_f49 qz33).trans z_up_self
  have hsub : ∀ b ∈ L, b ∈ L48 := fun b h => by rw [e_L48]; exact List.mem_append_left _ (hsub b h)
  have hfr : ∀ b ∈ L, b ≠ me → f49 b = f b := fun b hb h0 => (congrFun e_f49 b).trans (z_up_ne (z_ne hb hn_qz33) (hfr b hb h0))
  refine z_putF (C := RX10) (T := TX10) (N := 54) (ci := 10) (v := .ref qz33) (fs' := [.int 0, .ref qmw, .ref qmn, .ref qmc, .ref qmv, .ref qmt, .int 0, .int 0, .int 0, .int 0, .int 0, .long 0, .int 0, .int 0, .int 0, .int (-1), .ref qml, .ref qmh, .ref qmj, .ref qms, .ref qmg, .ref qmd, .int 0, .ref qmk, .int (-1), .int 0, .long 0, .int 0, .int 0, .ref qz29, .int 0, .ref qz31, .ref qz32, .ref qz33, .null, .null, .int 0, .null, .int 0, .null, .int 0, .int 0, .int 0, .null, .null, .null, .null, .null, .int 0, .null, .null, .null, .int 0, .int 0]) hx hb hT zin_X10 tyX10_ok nmX10 hown hK hw hm_me hf_me rfl 33 (by decide) (hT _ kw_1201) rfl hnm rfl rfl rfl (Nat.le_of_ble_eq_true rfl) rfl dX10_init_138 (fun H locs hw => ?_)
  obtain ⟨f50, e_f50⟩ : ∃ z, z = va_up f49 me (.inr (10, [.int 0, .ref qmw, .ref qmn, .ref qmc, .ref qmv, .ref qmt, .int 0, .int 0, .int 0, .int 0, .int 0, .long 0, .int 0, .int 0, .int 0, .int (-1), .ref qml, .ref qmh, .ref qmj, .ref qms, .ref qmg, .ref qmd, .int 0, .ref qmk, .int (-1), .int 0, .long 0, .int 0, .int 0, .ref qz29, .int 0, .ref qz31, .ref qz32, .ref qz33, .null, .null, .int 0, .null, .int 0, .null, .int 0, .int 0, .int 0, .null, .null, .null, .null, .null, .int 0, .null, .null, .null, .int 0, .int 0])) := ⟨_, rfl⟩
  rw [← e_f50] at hw
  have hf_qmw : f50 qmw = .inl (cy 1, 4, .inl (fun _ => 0)) := (congrFun e_f50 qmw).trans (z_up_ne (Ne.symm ne_me_qmw) hf_qmw)
  have hf_qmn : f50 qmn = .inl (cy 1, 4, .inl (fun _ => 0)) := (congrFun e_f50 qmn).trans (z_up_ne (Ne.symm ne_me_qmn) hf_qmn)
  have hf_qmc : f50 qmc = .inl (cy 2, 240, .inr (.inl (fun _ => 0))) := (congrFun e_f50 qmc).trans (z_up_ne (Ne.symm ne_me_qmc) hf_qmc)
  have hf_qmv : f50 qmv = .inl (cy 2, 60, .inr (.inl (fun _ => 0))) := (congrFun e_f50 qmv).trans (z_up_ne (Ne.symm ne_me_qmv) hf_qmv)
  have hf_qmt : f50 qmt = .inl (cy 0, 1600, .inl (fun _ => 0)) := (congrFun e_f50 qmt).trans (z_up_ne (Ne.symm ne_me_qmt) hf_qmt)
  have hf_qml : f50 qml = .inl (cy 1, 5, .inl (fun _ => 0)) := (congrFun e_f50 qml).trans (z_up_ne (Ne.symm ne_me_qml) hf_qml)
  have hf_qmh : f50 qmh = .inl (cy 1, 30, .inl (fun _ => 0)) := (congrFun e_f50 qmh).trans (z_up_ne (Ne.symm ne_me_qmh) hf_qmh)
  have hf_qmj : f50 qmj = .inl (cy 1, 25, .inl (fun _ => 0)) := (congrFun e_f50 qmj).trans (z_up_ne (Ne.symm ne_me_qmj) hf_qmj)
  have hf_qms : f50 qms = .inl (cy 1, 20, .inl (fun _ => 0)) := (congrFun e_f50 qms).trans (z_up_ne (Ne.symm ne_me_qms) hf_qms)
  have hf_qmg : f50 qmg = .inl (cy 1, 180, .inl (fun _ => 0)) := (congrFun e_f50 qmg).trans (z_up_ne (Ne.symm ne_me_qmg) hf_qmg)
  have hf_qmd : f50 qmd = .inl (cy 1, 520, .inl (fun _ => 0)) := (congrFun e_f50 qmd).trans (z_up_ne (Ne.symm ne_me_qmd) hf_qmd)
  have hf_qmk : f50 qmk = .inl (cy 3, 3, .inl (fun _ => 0)) := (congrFun e_f50 qmk).trans (z_up_ne (Ne.symm ne_me_qmk) hf_qmk)
  have hf_qz33 : f50 qz33 = .inl (cy 1, 36, .inl (fun _ => 0)) := (congrFun e_f50 qz33).trans (z_up_ne (Ne.symm ne_me_qz33) hf_qz33)
  have hf_me : f50 me = .inr (10, [.int 0, .ref qmw, .ref qmn, .ref qmc, .ref qmv, .ref qmt, .int 0, .int 0, .int 0, .int 0, .int 0, .long 0, .int 0, .int 0, .int 0, .int (-1), .ref qml, .ref qmh, .ref qmj, .ref qms, .ref qmg, .ref qmd, .int 0, .ref qmk, .int (-1), .int 0, .long 0, .int 0, .int 0, .ref qz29, .int 0, .ref qz31, .ref qz32, .ref qz33, .null, .null, .int 0, .null, .int 0, .null, .int 0, .int 0, .int 0, .null, .null, .null, .null, .null, .int 0, .null, .null, .null, .int 0, .int 0]) := (congrFun e_f50 me).trans z_up_self
  have hfr : ∀ b ∈ L, b ≠ me → f50 b = f b := fun b hb h0 => (congrFun e_f50 b).trans (z_up_ne h0 (hfr b hb h0))
  refine lv_aload_n hx hb dX10_init_141 rfl (lv_at hl 0 rfl) ?_
  refine lv_bipush (v := 36) hx hb dX10_init_142 (by decide) ?_
  refine z_newa (atype := .int) (n := 36) (N' := 36) (a0 := (36, .inl (fun _ => 0))) (cells := 16) (slots := 2780) hx hb (hT _ kw_203) rfl 1 rfl (fun _ h => by cases h) hK hw hA (fun _ => rfl) (by decide) (by decide) (by decide) (by decide) (by decide) dX10_init_144 (fun qz34 H hq_qz34 hw => ?_)
  refine W.widen (k := 17) (n := 2816) (by decide) (by decide) ?_
  have ne_me_qz34 : me ≠ qz34 := z_ne hm_me hq_qz34
  have ne_qmw_qz34 : qmw ≠ qz34 := z_ne hm_qmw hq_qz34
  have ne_qmn_qz34 : qmn ≠ qz34 := z_ne hm_qmn hq_qz34
  have ne_qmc_qz34 : qmc ≠ qz34 := z_ne hm_qmc hq_qz34
  have ne_qmv_qz34 : qmv ≠ qz34 := z_ne hm_qmv hq_qz34
  have ne_qmt_qz34 : qmt ≠ qz34 := z_ne hm_qmt hq_qz34
  have ne_qml_qz34 : qml ≠ qz34 := z_ne hm_qml hq_qz34
  have ne_qmh_qz34 : qmh ≠ qz34 := z_ne hm_qmh hq_qz34
  have ne_qmj_qz34 : qmj ≠ qz34 := z_ne hm_qmj hq_qz34
  have ne_qms_qz34 : qms ≠ qz34 := z_ne hm_qms hq_qz34
  have ne_qmg_qz34 : qmg ≠ qz34 := z_ne hm_qmg hq_qz34
  have ne_qmd_qz34 : qmd ≠ qz34 := z_ne hm_qmd hq_qz34
  have ne_qmk_qz34 : qmk ≠ qz34 := z_ne hm_qmk hq_qz34
  have hn_qz34 : qz34 ∉ L := fun h => hq_qz34 (hsub _ h)
  obtain ⟨f52, e_f52⟩ : ∃ z, z = va_up f50 qz34 (.inl (cy 1, 36, .inl (fun _ => 0))) := ⟨_, rfl⟩
  obtain ⟨L51, e_L51⟩ : ∃ z, z = L48 ++ [qz34] := ⟨_, rfl⟩
  rw [← e_f52, ← e_L51] at hw
  have hm_me : me ∈ L51 := by rw [e_L51]; exact List.mem_append_left _ hm_me
  have hf_me : f52 me = .inr (10, [.int 0, .ref qmw, .ref qmn, .ref qmc, .ref qmv, .ref qmt, .int 0, .int 0, .int 0, .int 0, .int 0, .long 0, .int 0, .int 0, .int 0, .int (-1), .ref qml, .ref qmh, .ref qmj, .ref qms, .ref qmg, .ref qmd, .int 0, .ref qmk, .int (-1), .int 0, .long 0, .int 0, .int 0, .ref qz29, .int 0, .ref qz31, .ref qz32, .ref qz33, .null, .null, .int 0, .null, .int 0, .null, .int 0, .int 0, .int 0, .null, .null, .null, .null, .null, .int 0, .null, .null, .null, .int 0, .int 0]) := (congrFun e_f52 me).trans (z_up_ne ne_me_qz34 hf_me)
  have hm_qmw : qmw ∈ L51 := by rw [e_L51]; exact List.mem_append_left _ hm_qmw
  have hf_qmw : f52 qmw = .inl (cy 1, 4, .inl (fun _ => 0)) := (congrFun e_f52 qmw).trans (z_up_ne ne_qmw_qz34 hf_qmw)
  have hm_qmn : qmn ∈ L51 := by rw [e_L51]; exact List.mem_append_left _ hm_qmn
  have hf_qmn : f52 qmn = .inl (cy 1, 4, .inl (fun _ => 0)) := (congrFun e_f52 qmn).trans (z_up_ne ne_qmn_qz34 hf_qmn)
  have hm_qmc : qmc ∈ L51 := by rw [e_L51]; exact List.mem_append_left _ hm_qmc
  have hf_qmc : f52 qmc = .inl (cy 2, 240, .inr (.inl (fun _ => 0))) := (congrFun e_f52 qmc).trans (z_up_ne ne_qmc_qz34 hf_qmc)
  have hm_qmv : qmv ∈ L51 := by rw [e_L51]; exact List.mem_append_left _ hm_qmv
  have hf_qmv : f52 qmv = .inl (cy 2, 60, .inr (.inl (fun _ => 0))) := (congrFun e_f52 qmv).trans (z_up_ne ne_qmv_qz34 hf_qmv)
  have hm_qmt : qmt ∈ L51 := by rw [e_L51]; exact List.mem_append_left _ hm_qmt
  have hf_qmt : f52 qmt = .inl (cy 0, 1600, .inl (fun _ => 0)) := (congrFun e_f52 qmt).trans (z_up_ne ne_qmt_qz34 hf_qmt)
  have hm_qml : qml ∈ L51 := by rw [e_L51]; exact List.mem_append_left _ hm_qml
  have hf_qml : f52 qml = .inl (cy 1, 5, .inl (fun _ => 0)) := (congrFun e_f52 qml).trans (z_up_ne ne_qml_qz34 hf_qml)
  have hm_qmh : qmh ∈ L51 := by rw [e_L51]; exact List.mem_append_left _ hm_qmh
  have hf_qmh : f52 qmh = .inl (cy 1, 30, .inl (fun _ => 0)) := (congrFun e_f52 qmh).trans (z_up_ne ne_qmh_qz34 hf_qmh)
  have hm_qmj : qmj ∈ L51 := by rw [e_L51]; exact List.mem_append_left _ hm_qmj
  have hf_qmj : f52 qmj = .inl (cy 1, 25, .inl (fun _ => 0)) := (congrFun e_f52 qmj).trans (z_up_ne ne_qmj_qz34 hf_qmj)
  have hm_qms : qms ∈ L51 := by rw [e_L51]; exact List.mem_append_left _ hm_qms
  have hf_qms : f52 qms = .inl (cy 1, 20, .inl (fun _ => 0)) := (congrFun e_f52 qms).trans (z_up_ne ne_qms_qz34 hf_qms)
  have hm_qmg : qmg ∈ L51 := by rw [e_L51]; exact List.mem_append_left _ hm_qmg
  have hf_qmg : f52 qmg = .inl (cy 1, 180, .inl (fun _ => 0)) := (congrFun e_f52 qmg).trans (z_up_ne ne_qmg_qz34 hf_qmg)
  have hm_qmd : qmd ∈ L51 := by rw [e_L51]; exact List.mem_append_left _ hm_qmd
  have hf_qmd : f52 qmd = .inl (cy 1, 520, .inl (fun _ => 0)) := (congrFun e_f52 qmd).trans (z_up_ne ne_qmd_qz34 hf_qmd)
  have hm_qmk : qmk ∈ L51 := by rw [e_L51]; exact List.mem_append_left _ hm_qmk
  have hf_qmk : f52 qmk = .inl (cy 3, 3, .inl (fun _ => 0)) := (congrFun e_f52 qmk).trans (z_up_ne ne_qmk_qz34 hf_qmk)
  have hm_qz34 : qz34 ∈ L51 := by rw [e_L51]; exact List.mem_append_right _ (List.mem_singleton.mpr rfl)
  have hf_qz34 : f52 qz34 = .inl (cy 1, 36, .inl (fun _ => 0)) := (congrFun e_f52 qz34).trans z_up_self
  have hsub : ∀ b ∈ L, b ∈ L51 := fun b h => by rw [e_L51]; exact List.mem_append_left _ (hsub b h)
  have hfr : ∀ b ∈ L, b ≠ me → f52 b = f b := fun b hb h0 => (congrFun e_f52 b).trans (z_up_ne (z_ne hb hn_qz34) (hfr b hb h0))
  refine z_putF (C := RX10) (T := TX10) (N := 54) (ci := 10) (v := .ref qz34) (fs' := [.int 0, .ref qmw, .ref qmn, .ref qmc, .ref qmv, .ref qmt, .int 0, .int 0, .int 0, .int 0, .int 0, .long 0, .int 0, .int 0, .int 0, .int (-1), .ref qml, .ref qmh, .ref qmj, .ref qms, .ref qmg, .ref qmd, .int 0, .ref qmk, .int (-1), .int 0, .long 0, .int 0, .int 0, .ref qz29, .int 0, .ref qz31, .ref qz32, .ref qz33, .ref qz34, .null, .int 0, .null, .int 0, .null, .int 0, .int 0, .int 0, .null, .null, .null, .null, .null, .int 0, .null, .null, .null, .int 0, .int 0]) hx hb hT zin_X10 tyX10_ok nmX10 hown hK hw hm_me hf_me rfl 34 (by decide) (hT _ kw_1202) rfl hnm rfl rfl rfl (Nat.le_of_ble_eq_true rfl) rfl dX10_init_146 (fun H locs hw => ?_)
  obtain ⟨f53, e_f53⟩ : ∃ z, z = va_up f52 me (.inr (10, [.int 0, .ref qmw, .ref qmn, .ref qmc, .ref qmv, .ref qmt, .int 0, .int 0, .int 0, .int 0, .int 0, .long 0, .int 0, .int 0, .int 0, .int (-1), .ref qml, .ref qmh, .ref qmj, .ref qms, .ref qmg, .ref qmd, .int 0, .ref qmk, .int (-1), .int 0, .long 0, .int 0, .int 0, .ref qz29, .int 0, .ref qz31, .ref qz32, .ref qz33, .ref qz34, .null, .int 0, .null, .int 0, .null, .int 0, .int 0, .int 0, .null, .null, .null, .null, .null, .int 0, .null, .null, .null, .int 0, .int 0])) := ⟨_, rfl⟩
  rw [← e_f53] at hw
  have hf_qmw : f53 qmw = .inl (cy 1, 4, .inl (fun _ => 0)) := (congrFun e_f53 qmw).trans (z_up_ne (Ne.symm ne_me_qmw) hf_qmw)
  have hf_qmn : f53 qmn = .inl (cy 1, 4, .inl (fun _ => 0)) := (congrFun e_f53 qmn).trans (z_up_ne (Ne.symm ne_me_qmn) hf_qmn)
  have hf_qmc : f53 qmc = .inl (cy 2, 240, .inr (.inl (fun _ => 0))) := (congrFun e_f53 qmc).trans (z_up_ne (Ne.symm ne_me_qmc) hf_qmc)
  have hf_qmv : f53 qmv = .inl (cy 2, 60, .inr (.inl (fun _ => 0))) := (congrFun e_f53 qmv).trans (z_up_ne (Ne.symm ne_me_qmv) hf_qmv)
  have hf_qmt : f53 qmt = .inl (cy 0, 1600, .inl (fun _ => 0)) := (congrFun e_f53 qmt).trans (z_up_ne (Ne.symm ne_me_qmt) hf_qmt)
  have hf_qml : f53 qml = .inl (cy 1, 5, .inl (fun _ => 0)) := (congrFun e_f53 qml).trans (z_up_ne (Ne.symm ne_me_qml) hf_qml)
  have hf_qmh : f53 qmh = .inl (cy 1, 30, .inl (fun _ => 0)) := (congrFun e_f53 qmh).trans (z_up_ne (Ne.symm ne_me_qmh) hf_qmh)
  have hf_qmj : f53 qmj = .inl (cy 1, 25, .inl (fun _ => 0)) := (congrFun e_f53 qmj).trans (z_up_ne (Ne.symm ne_me_qmj) hf_qmj)
  have hf_qms : f53 qms = .inl (cy 1, 20, .inl (fun _ => 0)) := (congrFun e_f53 qms).trans (z_up_ne (Ne.symm ne_me_qms) hf_qms)
  have hf_qmg : f53 qmg = .inl (cy 1, 180, .inl (fun _ => 0)) := (congrFun e_f53 qmg).trans (z_up_ne (Ne.symm ne_me_qmg) hf_qmg)
  have hf_qmd : f53 qmd = .inl (cy 1, 520, .inl (fun _ => 0)) := (congrFun e_f53 qmd).trans (z_up_ne (Ne.symm ne_me_qmd) hf_qmd)
  have hf_qmk : f53 qmk = .inl (cy 3, 3, .inl (fun _ => 0)) := (congrFun e_f53 qmk).trans (z_up_ne (Ne.symm ne_me_qmk) hf_qmk)
  have hf_qz34 : f53 qz34 = .inl (cy 1, 36, .inl (fun _ => 0)) := (congrFun e_f53 qz34).trans (z_up_ne (Ne.symm ne_me_qz34) hf_qz34)
  have hf_me : f53 me = .inr (10, [.int 0, .ref qmw, .ref qmn, .ref qmc, .ref qmv, .ref qmt, .int 0, .int 0, .int 0, .int 0, .int 0, .long 0, .int 0, .int 0, .int 0, .int (-1), .ref qml, .ref qmh, .ref qmj, .ref qms, .ref qmg, .ref qmd, .int 0, .ref qmk, .int (-1), .int 0, .long 0, .int 0, .int 0, .ref qz29, .int 0, .ref qz31, .ref qz32, .ref qz33, .ref qz34, .null, .int 0, .null, .int 0, .null, .int 0, .int 0, .int 0, .null, .null, .null, .null, .null, .int 0, .null, .null, .null, .int 0, .int 0]) := (congrFun e_f53 me).trans z_up_self
  have hfr : ∀ b ∈ L, b ≠ me → f53 b = f b := fun b hb h0 => (congrFun e_f53 b).trans (z_up_ne h0 (hfr b hb h0))
  refine lv_aload_n hx hb dX10_init_149 rfl (lv_at hl 0 rfl) ?_
  refine lv_sipush (v := 2574) hx hb dX10_init_150 (by decide) ?_
  refine z_newa (atype := .int) (n := 2574) (N' := 2574) (a0 := (2574, .inl (fun _ => 0))) (cells := 17) (slots := 2816) hx hb (hT _ kw_203) rfl 1 rfl (fun _ h => by cases h) hK hw hA (fun _ => rfl) (by decide) (by decide) (by decide) (by decide) (by decide) dX10_init_153 (fun qz35 H hq_qz35 hw => ?_)
  refine W.widen (k := 18) (n := 5390) (by decide) (by decide) ?_
  have ne_me_qz35 : me ≠ qz35 := z_ne hm_me hq_qz35
  have ne_qmw_qz35 : qmw ≠ qz35 := z_ne hm_qmw hq_qz35
  have ne_qmn_qz35 : qmn ≠ qz35 := z_ne hm_qmn hq_qz35
  have ne_qmc_qz35 : qmc ≠ qz35 := z_ne hm_qmc hq_qz35
  have ne_qmv_qz35 : qmv ≠ qz35 := z_ne hm_qmv hq_qz35
  have ne_qmt_qz35 : qmt ≠ qz35 := z_ne hm_qmt hq_qz35
  have ne_qml_qz35 : qml ≠ qz35 := z_ne hm_qml hq_qz35
  have ne_qmh_qz35 : qmh ≠ qz35 := z_ne hm_qmh hq_qz35
  have ne_qmj_qz35 : qmj ≠ qz35 := z_ne hm_qmj hq_qz35
  have ne_qms_qz35 : qms ≠ qz35 := z_ne hm_qms hq_qz35
  have ne_qmg_qz35 : qmg ≠ qz35 := z_ne hm_qmg hq_qz35
  have ne_qmd_qz35 : qmd ≠ qz35 := z_ne hm_qmd hq_qz35
  have ne_qmk_qz35 : qmk ≠ qz35 := z_ne hm_qmk hq_qz35
  have hn_qz35 : qz35 ∉ L := fun h => hq_qz35 (hsub _ h)
  obtain ⟨f55, e_f55⟩ : ∃ z, z = va_up f53 qz35 (.inl (cy 1, 2574, .inl (fun _ => 0))) := ⟨_, rfl⟩
  obtain ⟨L54, e_L54⟩ : ∃ z, z = L51 ++ [qz35] := ⟨_, rfl⟩
  rw [← e_f55, ← e_L54] at hw
  have hm_me : me ∈ L54 := by rw [e_L54]; exact List.mem_append_left _ hm_me
  have hf_me : f55 me = .inr (10, [.int 0, .ref qmw, .ref qmn, .ref qmc, .ref qmv, .ref qmt, .int 0, .int 0, .int 0, .int 0, .int 0, .long 0, .int 0, .int 0, .int 0, .int (-1), .ref qml, .ref qmh, .ref qmj, .ref qms, .ref qmg, .ref qmd, .int 0, .ref qmk, .int (-1), .int 0, .long 0, .int 0, .int 0, .ref qz29, .int 0, .ref qz31, .ref qz32, .ref qz33, .ref qz34, .null, .int 0, .null, .int 0, .null, .int 0, .int 0, .int 0, .null, .null, .null, .null, .null, .int 0, .null, .null, .null, .int 0, .int 0]) := (congrFun e_f55 me).trans (z_up_ne ne_me_qz35 hf_me)
  have hm_qmw : qmw ∈ L54 := by rw [e_L54]; exact List.mem_append_left _ hm_qmw
  have hf_qmw : f55 qmw = .inl (cy 1, 4, .inl (fun _ => 0)) := (congrFun e_f55 qmw).trans (z_up_ne ne_qmw_qz35 hf_qmw)
  have hm_qmn : qmn ∈ L54 := by rw [e_L54]; exact List.mem_append_left _ hm_qmn
  have hf_qmn : f55 qmn = .inl (cy 1, 4, .inl (fun _ => 0)) := (congrFun e_f55 qmn).trans (z_up_ne ne_qmn_qz35 hf_qmn)
  have hm_qmc : qmc ∈ L54 := by rw [e_L54]; exact List.mem_append_left _ hm_qmc
  have hf_qmc : f55 qmc = .inl (cy 2, 240, .inr (.inl (fun _ => 0))) := (congrFun e_f55 qmc).trans (z_up_ne ne_qmc_qz35 hf_qmc)
  have hm_qmv : qmv ∈ L54 := by rw [e_L54]; exact List.mem_append_left _ hm_qmv
  have hf_qmv : f55 qmv = .inl (cy 2, 60, .inr (.inl (fun _ => 0))) := (congrFun e_f55 qmv).trans (z_up_ne ne_qmv_qz35 hf_qmv)
  have hm_qmt : qmt ∈ L54 := by rw [e_L54]; exact List.mem_append_left _ hm_qmt
  have hf_qmt : f55 qmt = .inl (cy 0, 1600, .inl (fun _ => 0)) := (congrFun e_f55 qmt).trans (z_up_ne ne_qmt_qz35 hf_qmt)
  have hm_qml : qml ∈ L54 := by rw [e_L54]; exact List.mem_append_left _ hm_qml
  have hf_qml : f55 qml = .inl (cy 1, 5, .inl (fun _ => 0)) := (congrFun e_f55 qml).trans (z_up_ne ne_qml_qz35 hf_qml)
  have hm_qmh : qmh ∈ L54 := by rw [e_L54]; exact List.mem_append_left _ hm_qmh
  have hf_qmh : f55 qmh = .inl (cy 1, 30, .inl (fun _ => 0)) := (congrFun e_f55 qmh).trans (z_up_ne ne_qmh_qz35 hf_qmh)
  have hm_qmj : qmj ∈ L54 := by rw [e_L54]; exact List.mem_append_left _ hm_qmj
  have hf_qmj : f55 qmj = .inl (cy 1, 25, .inl (fun _ => 0)) := (congrFun e_f55 qmj).trans (z_up_ne ne_qmj_qz35 hf_qmj)
  have hm_qms : qms ∈ L54 := by rw [e_L54]; exact List.mem_append_left _ hm_qms
  have hf_qms : f55 qms = .inl (cy 1, 20, .inl (fun _ => 0)) := (congrFun e_f55 qms).trans (z_up_ne ne_qms_qz35 hf_qms)
  have hm_qmg : qmg ∈ L54 := by rw [e_L54]; exact List.mem_append_left _ hm_qmg
  have hf_qmg : f55 qmg = .inl (cy 1, 180, .inl (fun _ => 0)) := (congrFun e_f55 qmg).trans (z_up_ne ne_qmg_qz35 hf_qmg)
  have hm_qmd : qmd ∈ L54 := by rw [e_L54]; exact List.mem_append_left _ hm_qmd
  have hf_qmd : f55 qmd = .inl (cy 1, 520, .inl (fun _ => 0)) := (congrFun e_f55 qmd).trans (z_up_ne ne_qmd_qz35 hf_qmd)
  have hm_qmk : qmk ∈ L54 := by rw [e_L54]; exact List.mem_append_left _ hm_qmk
  have hf_qmk : f55 qmk = .inl (cy 3, 3, .inl (fun _ => 0)) := (congrFun e_f55 qmk).trans (z_up_ne ne_qmk_qz35 hf_qmk)
  have hm_qz35 : qz35 ∈ L54 := by rw [e_L54]; exact List.mem_append_right _ (List.mem_singleton.mpr rfl)
  have hf_qz35 : f55 qz35 = .inl (cy 1, 2574, .inl (fun _ => 0)) := (congrFun e_f55 qz35).trans z_up_self
  have hsub : ∀ b ∈ L, b ∈ L54 := fun b h => by rw [e_L54]; exact List.mem_append_left _ (hsub b h)
  have hfr : ∀ b ∈ L, b ≠ me → f55 b = f b := fun b hb h0 => (congrFun e_f55 b).trans (z_up_ne (z_ne hb hn_qz35) (hfr b hb h0))
  refine z_putF (C := RX10) (T := TX10) (N := 54) (ci := 10) (v := .ref qz35) (fs' := [.int 0, .ref qmw, .ref qmn, .ref qmc, .ref qmv, .ref qmt, .int 0, .int 0, .int 0, .int 0, .int 0, .long 0, .int 0, .int 0, .int 0, .int (-1), .ref qml, .ref qmh, .ref qmj, .ref qms, .ref qmg, .ref qmd, .int 0, .ref qmk, .int (-1), .int 0, .long 0, .int 0, .int 0, .ref qz29, .int 0, .ref qz31, .ref qz32, .ref qz33, .ref qz34, .ref qz35, .int 0, .null, .int 0, .null, .int 0, .int 0, .int 0, .null, .null, .null, .null, .null, .int 0, .null, .null, .null, .int 0, .int 0]) hx hb hT zin_X10 tyX10_ok nmX10 hown hK hw hm_me hf_me rfl 35 (by decide) (hT _ kw_1203) rfl hnm rfl rfl rfl (Nat.le_of_ble_eq_true rfl) rfl dX10_init_155 (fun H locs hw => ?_)
  obtain ⟨f56, e_f56⟩ : ∃ z, z = va_up f55 me (.inr (10, [.int 0, .ref qmw, .ref qmn, .ref qmc, .ref qmv, .ref qmt, .int 0, .int 0, .int 0, .int 0, .int 0, .long 0, .int 0, .int 0, .int 0, .int (-1), .ref qml, .ref qmh, .ref qmj, .ref qms, .ref qmg, .ref qmd, .int 0, .ref qmk, .int (-1), .int 0, .long 0, .int 0, .int 0, .ref qz29, .int 0, .ref qz31, .ref qz32, .ref qz33, .ref qz34, .ref qz35, .int 0, .null, .int 0, .null, .int 0, .int 0, .int 0, .null, .null, .null, .null, .null, .int 0, .null, .null, .null, .int 0, .int 0])) := ⟨_, rfl⟩
  rw [← e_f56] at hw
  have hf_qmw : f56 qmw = .inl (cy 1, 4, .inl (fun _ => 0)) := (congrFun e_f56 qmw).trans (z_up_ne (Ne.symm ne_me_qmw) hf_qmw)
  have hf_qmn : f56 qmn = .inl (cy 1, 4, .inl (fun _ => 0)) := (congrFun e_f56 qmn).trans (z_up_ne (Ne.symm ne_me_qmn) hf_qmn)
  have hf_qmc : f56 qmc = .inl (cy 2, 240, .inr (.inl (fun _ => 0))) := (congrFun e_f56 qmc).trans (z_up_ne (Ne.symm ne_me_qmc) hf_qmc)
  have hf_qmv : f56 qmv = .inl (cy 2, 60, .inr (.inl (fun _ => 0))) := (congrFun e_f56 qmv).trans (z_up_ne (Ne.symm ne_me_qmv) hf_qmv)
  have hf_qmt : f56 qmt = .inl (cy 0, 1600, .inl (fun _ => 0)) := (congrFun e_f56 qmt).trans (z_up_ne (Ne.symm ne_me_qmt) hf_qmt)
  have hf_qml : f56 qml = .inl (cy 1, 5, .inl (fun _ => 0)) := (congrFun e_f56 qml).trans (z_up_ne (Ne.symm ne_me_qml) hf_qml)
  have hf_qmh : f56 qmh = .inl (cy 1, 30, .inl (fun _ => 0)) := (congrFun e_f56 qmh).trans (z_up_ne (Ne.symm ne_me_qmh) hf_qmh)
  have hf_qmj : f56 qmj = .inl (cy 1, 25, .inl (fun _ => 0)) := (congrFun e_f56 qmj).trans (z_up_ne (Ne.symm ne_me_qmj) hf_qmj)
  have hf_qms : f56 qms = .inl (cy 1, 20, .inl (fun _ => 0)) := (congrFun e_f56 qms).trans (z_up_ne (Ne.symm ne_me_qms) hf_qms)
  have hf_qmg : f56 qmg = .inl (cy 1, 180, .inl (fun _ => 0)) := (congrFun e_f56 qmg).trans (z_up_ne (Ne.symm ne_me_qmg) hf_qmg)
  have hf_qmd : f56 qmd = .inl (cy 1, 520, .inl (fun _ => 0)) := (congrFun e_f56 qmd).trans (z_up_ne (Ne.symm ne_me_qmd) hf_qmd)
  have hf_qmk : f56 qmk = .inl (cy 3, 3, .inl (fun _ => 0)) := (congrFun e_f56 qmk).trans (z_up_ne (Ne.symm ne_me_qmk) hf_qmk)
  have hf_qz35 : f56 qz35 = .inl (cy 1, 2574, .inl (fun _ => 0)) := (congrFun e_f56 qz35).trans (z_up_ne (Ne.symm ne_me_qz35) hf_qz35)
  have hf_me : f56 me = .inr (10, [.int 0, .ref qmw, .ref qmn, .ref qmc, .ref qmv, .ref qmt, .int 0, .int 0, .int 0, .int 0, .int 0, .long 0, .int 0, .int 0, .int 0, .int (-1), .ref qml, .ref qmh, .ref qmj, .ref qms, .ref qmg, .ref qmd, .int 0, .ref qmk, .int (-1), .int 0, .long 0, .int 0, .int 0, .ref qz29, .int 0, .ref qz31, .ref qz32, .ref qz33, .ref qz34, .ref qz35, .int 0, .null, .int 0, .null, .int 0, .int 0, .int 0, .null, .null, .null, .null, .null, .int 0, .null, .null, .null, .int 0, .int 0]) := (congrFun e_f56 me).trans z_up_self
  have hfr : ∀ b ∈ L, b ≠ me → f56 b = f b := fun b hb h0 => (congrFun e_f56 b).trans (z_up_ne h0 (hfr b hb h0))
  refine lv_aload_n hx hb dX10_init_158 rfl (lv_at hl 0 rfl) ?_
  refine lv_sipush (v := 5200) hx hb dX10_init_159 (by decide) ?_
  refine z_newa (atype := .int) (n := 5200) (N' := 5200) (a0 := (5200, .inl (fun _ => 0))) (cells := 18) (slots := 5390) hx hb (hT _ kw_203) rfl 1 rfl (fun _ h => by cases h) hK hw hA (fun _ => rfl) (by decide) (by decide) (by decide) (by decide) (by decide) dX10_init_162 (fun qz37 H hq_qz37 hw => ?_)
  refine W.widen (k := 19) (n := 10590) (by decide) (by decide) ?_
  have ne_me_qz37 : me ≠ qz37 := z_ne hm_me hq_qz37
  have ne_qmw_qz37 : qmw ≠ qz37 := z_ne hm_qmw hq_qz37
  have ne_qmn_qz37 : qmn ≠ qz37 := z_ne hm_qmn hq_qz37
  have ne_qmc_qz37 : qmc ≠ qz37 := z_ne hm_qmc hq_qz37
  have ne_qmv_qz37 : qmv ≠ qz37 := z_ne hm_qmv hq_qz37
  have ne_qmt_qz37 : qmt ≠ qz37 := z_ne hm_qmt hq_qz37
  have ne_qml_qz37 : qml ≠ qz37 := z_ne hm_qml hq_qz37
  have ne_qmh_qz37 : qmh ≠ qz37 := z_ne hm_qmh hq_qz37
  have ne_qmj_qz37 : qmj ≠ qz37 := z_ne hm_qmj hq_qz37
  have ne_qms_qz37 : qms ≠ qz37 := z_ne hm_qms hq_qz37
  have ne_qmg_qz37 : qmg ≠ qz37 := z_ne hm_qmg hq_qz37
  have ne_qmd_qz37 : qmd ≠ qz37 := z_ne hm_qmd hq_qz37
  have ne_qmk_qz37 : qmk ≠ qz37 := z_ne hm_qmk hq_qz37
  have hn_qz37 : qz37 ∉ L := fun h => hq_qz37 (hsub _ h)
  obtain ⟨f58, e_f58⟩ : ∃ z, z = va_up f56 qz37 (.inl (cy 1, 5200, .inl (fun _ => 0))) := ⟨_, rfl⟩
  obtain ⟨L57, e_L57⟩ : ∃ z, z = L54 ++ [qz37] := ⟨_, rfl⟩
  rw [← e_f58, ← e_L57] at hw
  have hm_me : me ∈ L57 := by rw [e_L57]; exact List.mem_append_left _ hm_me
  have hf_me : f58 me = .inr (10, [.int 0, .ref qmw, .ref qmn, .ref qmc, .ref qmv, .ref qmt, .int 0, .int 0, .int 0, .int 0, .int 0, .long 0, .int 0, .int 0, .int 0, .int (-1), .ref qml, .ref qmh, .ref qmj, .ref qms, .ref qmg, .ref qmd, .int 0, .ref qmk, .int (-1), .int 0, .long 0, .int 0, .int 0, .ref qz29, .int 0, .ref qz31, .ref qz32, .ref qz33, .ref qz34, .ref qz35, .int 0, .null, .int 0, .null, .int 0, .int 0, .int 0, .null, .null, .null, .null, .null, .int 0, .null, .null, .null, .int 0, .int 0]) := (congrFun e_f58 me).trans (z_up_ne ne_me_qz37 hf_me)
  have hm_qmw : qmw ∈ L57 := by rw [e_L57]; exact List.mem_append_left _ hm_qmw
  have hf_qmw : f58 qmw = .inl (cy 1, 4, .inl (fun _ => 0)) := (congrFun e_f58 qmw).trans (z_up_ne ne_qmw_qz37 hf_qmw)
  have hm_qmn : qmn ∈ L57 := by rw [e_L57]; exact List.mem_append_left _ hm_qmn
  have hf_qmn : f58 qmn = .inl (cy 1, 4, .inl (fun _ => 0)) := (congrFun e_f58 qmn).trans (z_up_ne ne_qmn_qz37 hf_qmn)
  have hm_qmc : qmc ∈ L57 := by rw [e_L57]; exact List.mem_append_left _ hm_qmc
  have hf_qmc : f58 qmc = .inl (cy 2, 240, .inr (.inl (fun _ => 0))) := (congrFun e_f58 qmc).trans (z_up_ne ne_qmc_qz37 hf_qmc)
  have hm_qmv : qmv ∈ L57 := by rw [e_L57]; exact List.mem_append_left _ hm_qmv
  have hf_qmv : f58 qmv = .inl (cy 2, 60, .inr (.inl (fun _ => 0))) := (congrFun e_f58 qmv).trans (z_up_ne ne_qmv_qz37 hf_qmv)
  have hm_qmt : qmt ∈ L57 := by rw [e_L57]; exact List.mem_append_left _ hm_qmt
  have hf_qmt : f58 qmt = .inl (cy 0, 1600, .inl (fun _ => 0)) := (congrFun e_f58 qmt).trans (z_up_ne ne_qmt_qz37 hf_qmt)
  have hm_qml : qml ∈ L57 := by rw [e_L57]; exact List.mem_append_left _ hm_qml
  have hf_qml : f58 qml = .inl (cy 1, 5, .inl (fun _ => 0)) := (congrFun e_f58 qml).trans (z_up_ne ne_qml_qz37 hf_qml)
  have hm_qmh : qmh ∈ L57 := by rw [e_L57]; exact List.mem_append_left _ hm_qmh
  have hf_qmh : f58 qmh = .inl (cy 1, 30, .inl (fun _ => 0)) := (congrFun e_f58 qmh).trans (z_up_ne ne_qmh_qz37 hf_qmh)
  have hm_qmj : qmj ∈ L57 := by rw [e_L57]; exact List.mem_append_left _ hm_qmj
  have hf_qmj : f58 qmj = .inl (cy 1, 25, .inl (fun _ => 0)) := (congrFun e_f58 qmj).trans (z_up_ne ne_qmj_qz37 hf_qmj)
  have hm_qms : qms ∈ L57 := by rw [e_L57]; exact List.mem_append_left _ hm_qms
  have hf_qms : f58 qms = .inl (cy 1, 20, .inl (fun _ => 0)) := (congrFun e_f58 qms).trans (z_up_ne ne_qms_qz37 hf_qms)
  have hm_qmg : qmg ∈ L57 := by rw [e_L57]; exact List.mem_append_left _ hm_qmg
  have hf_qmg : f58 qmg = .inl (cy 1, 180, .inl (fun _ => 0)) := (congrFun e_f58 qmg).trans (z_up_ne ne_qmg_qz37 hf_qmg)
  have hm_qmd : qmd ∈ L57 := by rw [e_L57]; exact List.mem_append_left _ hm_qmd
  have hf_qmd : f58 qmd = .inl (cy 1, 520, .inl (fun _ => 0)) := (congrFun e_f58 qmd).trans (z_up_ne ne_qmd_qz37 hf_qmd)
  have hm_qmk : qmk ∈ L57 := by rw [e_L57]; exact List.mem_append_left _ hm_qmk
  have hf_qmk : f58 qmk = .inl (cy 3, 3, .inl (fun _ => 0)) := (congrFun e_f58 qmk).trans (z_up_ne ne_qmk_qz37 hf_qmk)
  have hm_qz37 : qz37 ∈ L57 := by rw [e_L57]; exact List.mem_append_right _ (List.mem_singleton.mpr rfl)
  have hf_qz37 : f58 qz37 = .inl (cy 1, 5200, .inl (fun _ => 0)) := (congrFun e_f58 qz37).trans z_up_self
  have hsub : ∀ b ∈ L, b ∈ L57 := fun b h => by rw [e_L57]; exact List.mem_append_left _ (hsub b h)
  have hfr : ∀ b ∈ L, b ≠ me → f58 b = f b := fun b hb h0 => (congrFun e_f58 b).trans (z_up_ne (z_ne hb hn_qz37) (hfr b hb h0))
  refine z_putF (C := RX10) (T := TX10) (N := 54) (ci := 10) (v := .ref qz37) (fs' := [.int 0, .ref qmw, .ref qmn, .ref qmc, .ref qmv, .ref qmt, .int 0, .int 0, .int 0, .int 0, .int 0, .long 0, .int 0, .int 0, .int 0, .int (-1), .ref qml, .ref qmh, .ref qmj, .ref qms, .ref qmg, .ref qmd, .int 0, .ref qmk, .int (-1), .int 0, .long 0, .int 0, .int 0, .ref qz29, .int 0, .ref qz31, .ref qz32, .ref qz33, .ref qz34, .ref qz35, .int 0, .ref qz37, .int 0, .null, .int 0, .int 0, .int 0, .null, .null, .null, .null, .null, .int 0, .null, .null, .null, .int 0, .int 0]) hx hb hT zin_X10 tyX10_ok nmX10 hown hK hw hm_me hf_me rfl 37 (by decide) (hT _ kw_1205) rfl hnm rfl rfl rfl (Nat.le_of_ble_eq_true rfl) rfl dX10_init_164 (fun H locs hw => ?_)
  obtain ⟨f59, e_f59⟩ : ∃ z, z = va_up f58 me (.inr (10, [.int 0, .ref qmw, .ref qmn, .ref qmc, .ref qmv, .ref qmt, .int 0, .int 0, .int 0, .int 0, .int 0, .long 0, .int 0, .int 0, .int 0, .int (-1), .ref qml, .ref qmh, .ref qmj, .ref qms, .ref qmg, .ref qmd, .int 0, .ref qmk, .int (-1), .int 0, .long 0, .int 0, .int 0, .ref qz29, .int 0, .ref qz31, .ref qz32, .ref qz33, .ref qz34, .ref qz35, .int 0, .ref qz37, .int 0, .null, .int 0, .int 0, .int 0, .null, .null, .null, .null, .null, .int 0, .null, .null, .null, .int 0, .int 0])) := ⟨_, rfl⟩
  rw [← e_f59] at hw
  have hf_qmw : f59 qmw = .inl (cy 1, 4, .inl (fun _ => 0)) := (congrFun e_f59 qmw).trans (z_up_ne (Ne.symm ne_me_qmw) hf_qmw)
  have hf_qmn : f59 qmn = .inl (cy 1, 4, .inl (fun _ => 0)) := (congrFun e_f59 qmn).trans (z_up_ne (Ne.symm ne_me_qmn) hf_qmn)
  have hf_qmc : f59 qmc = .inl (cy 2, 240, .inr (.inl (fun _ => 0))) := (congrFun e_f59 qmc).trans (z_up_ne (Ne.symm ne_me_qmc) hf_qmc)
  have hf_qmv : f59 qmv = .inl (cy 2, 60, .inr (.inl (fun _ => 0))) := (congrFun e_f59 qmv).trans (z_up_ne (Ne.symm ne_me_qmv) hf_qmv)
  have hf_qmt : f59 qmt = .inl (cy 0, 1600, .inl (fun _ => 0)) := (congrFun e_f59 qmt).trans (z_up_ne (Ne.symm ne_me_qmt) hf_qmt)
  have hf_qml : f59 qml = .inl (cy 1, 5, .inl (fun _ => 0)) := (congrFun e_f59 qml).trans (z_up_ne (Ne.symm ne_me_qml) hf_qml)
  have hf_qmh : f59 qmh = .inl (cy 1, 30, .inl (fun _ => 0)) := (congrFun e_f59 qmh).trans (z_up_ne (Ne.symm ne_me_qmh) hf_qmh)
  have hf_qmj : f59 qmj = .inl (cy 1, 25, .inl (fun _ => 0)) := (congrFun e_f59 qmj).trans (z_up_ne (Ne.symm ne_me_qmj) hf_qmj)
  have hf_qms : f59 qms = .inl (cy 1, 20, .inl (fun _ => 0)) := (congrFun e_f59 qms).trans (z_up_ne (Ne.symm ne_me_qms) hf_qms)
  have hf_qmg : f59 qmg = .inl (cy 1, 180, .inl (fun _ => 0)) := (congrFun e_f59 qmg).trans (z_up_ne (Ne.symm ne_me_qmg) hf_qmg)
  have hf_qmd : f59 qmd = .inl (cy 1, 520, .inl (fun _ => 0)) := (congrFun e_f59 qmd).trans (z_up_ne (Ne.symm ne_me_qmd) hf_qmd)
  have hf_qmk : f59 qmk = .inl (cy 3, 3, .inl (fun _ => 0)) := (congrFun e_f59 qmk).trans (z_up_ne (Ne.symm ne_me_qmk) hf_qmk)
  have hf_qz37 : f59 qz37 = .inl (cy 1, 5200, .inl (fun _ => 0)) := (congrFun e_f59 qz37).trans (z_up_ne (Ne.symm ne_me_qz37) hf_qz37)
  have hf_me : f59 me = .inr (10, [.int 0, .ref qmw, .ref qmn, .ref qmc, .ref qmv, .ref qmt, .int 0, .int 0, .int 0, .int 0, .int 0, .long 0, .int 0, .int 0, .int 0, .int (-1), .ref qml, .ref qmh, .ref qmj, .ref qms, .ref qmg, .ref qmd, .int 0, .ref qmk, .int (-1), .int 0, .long 0, .int 0, .int 0, .ref qz29, .int 0, .ref qz31, .ref qz32, .ref qz33, .ref qz34, .ref qz35, .int 0, .ref qz37, .int 0, .null, .int 0, .int 0, .int 0, .null, .null, .null, .null, .null, .int 0, .null, .null, .null, .int 0, .int 0]) := (congrFun e_f59 me).trans z_up_self
  have hfr : ∀ b ∈ L, b ≠ me → f59 b = f b := fun b hb h0 => (congrFun e_f59 b).trans (z_up_ne h0 (hfr b hb h0))
  refine lv_aload_n hx hb dX10_init_167 rfl (lv_at hl 0 rfl) ?_
  refine lv_iconst (v := 5) hx hb dX10_init_168 (by decide) ?_
  refine z_newa (atype := .int) (n := 5) (N' := 5) (a0 := (5, .inl (fun _ => 0))) (cells := 19) (slots := 10590) hx hb (hT _ kw_203) rfl 1 rfl (fun _ h => by cases h) hK hw hA (fun _ => rfl) (by decide) (by decide) (by decide) (by decide) (by decide) dX10_init_169 (fun qz39 H hq_qz39 hw => ?_)
  refine W.widen (k := 20) (n := 10595) (by decide) (by decide) ?_
  have ne_me_qz39 : me ≠ qz39 := z_ne hm_me hq_qz39
  have ne_qmw_qz39 : qmw ≠ qz39 := z_ne hm_qmw hq_qz39
  have ne_qmn_qz39 : qmn ≠ qz39 := z_ne hm_qmn hq_qz39
  have ne_qmc_qz39 : qmc ≠ qz39 := z_ne hm_qmc hq_qz39
  have ne_qmv_qz39 : qmv ≠ qz39 := z_ne hm_qmv hq_qz39
  have ne_qmt_qz39 : qmt ≠ qz39 := z_ne hm_qmt hq_qz39
  have ne_qml_qz39 : qml ≠ qz39 := z_ne hm_qml hq_qz39
  have ne_qmh_qz39 : qmh ≠ qz39 := z_ne hm_qmh hq_qz39
  have ne_qmj_qz39 : qmj ≠ qz39 := z_ne hm_qmj hq_qz39
  have ne_qms_qz39 : qms ≠ qz39 := z_ne hm_qms hq_qz39
  have ne_qmg_qz39 : qmg ≠ qz39 := z_ne hm_qmg hq_qz39
  have ne_qmd_qz39 : qmd ≠ qz39 := z_ne hm_qmd hq_qz39
  have ne_qmk_qz39 : qmk ≠ qz39 := z_ne hm_qmk hq_qz39
  have hn_qz39 : qz39 ∉ L := fun h => hq_qz39 (hsub _ h)
  obtain ⟨f61, e_f61⟩ : ∃ z, z = va_up f59 qz39 (.inl (cy 1, 5, .inl (fun _ => 0))) := ⟨_, rfl⟩
  obtain ⟨L60, e_L60⟩ : ∃ z, z = L57 ++ [qz39] := ⟨_, rfl⟩
  rw [← e_f61, ← e_L60] at hw
  have hm_me : me ∈ L60 := by rw [e_L60]; exact List.mem_append_left _ hm_me
  have hf_me : f61 me = .inr (10, [.int 0, .ref qmw, .ref qmn, .ref qmc, .ref qmv, .ref qmt, .int 0, .int 0, .int 0, .int 0, .int 0, .long 0, .int 0, .int 0, .int 0, .int (-1), .ref qml, .ref qmh, .ref qmj, .ref qms, .ref qmg, .ref qmd, .int 0, .ref qmk, .int (-1), .int 0, .long 0, .int 0, .int 0, .ref qz29, .int 0, .ref qz31, .ref qz32, .ref qz33, .ref qz34, .ref qz35, .int 0, .ref qz37, .int 0, .null, .int 0, .int 0, .int 0, .null, .null, .null, .null, .null, .int 0, .null, .null, .null, .int 0, .int 0]) := (congrFun e_f61 me).trans (z_up_ne ne_me_qz39 hf_me)
  have hm_qmw : qmw ∈ L60 := by rw [e_L60]; exact List.mem_append_left _ hm_qmw
  have hf_qmw : f61 qmw = .inl (cy 1, 4, .inl (fun _ => 0)) := (congrFun e_f61 qmw).trans (z_up_ne ne_qmw_qz39 hf_qmw)
  have hm_qmn : qmn ∈ L60 := by rw [e_L60]; exact List.mem_append_left _ hm_qmn
  have hf_qmn : f61 qmn = .inl (cy 1, 4, .inl (fun _ => 0)) := (congrFun e_f61 qmn).trans (z_up_ne ne_qmn_qz39 hf_qmn)
  have hm_qmc : qmc ∈ L60 := by rw [e_L60]; exact List.mem_append_left _ hm_qmc
  have hf_qmc : f61 qmc = .inl (cy 2, 240, .inr (.inl (fun _ => 0))) := (congrFun e_f61 qmc).trans (z_up_ne ne_qmc_qz39 hf_qmc)
  have hm_qmv : qmv ∈ L60 := by rw [e_L60]; exact List.mem_append_left _ hm_qmv
  have hf_qmv : f61 qmv = .inl (cy 2, 60, .inr (.inl (fun _ => 0))) := (congrFun e_f61 qmv).trans (z_up_ne ne_qmv_qz39 hf_qmv)
  have hm_qmt : qmt ∈ L60 := by rw [e_L60]; exact List.mem_append_left _ hm_qmt
  have hf_qmt : f61 qmt = .inl (cy 0, 1600, .inl (fun _ => 0)) := (congrFun e_f61 qmt).trans (z_up_ne ne_qmt_qz39 hf_qmt)
  have hm_qml : qml ∈ L60 := by rw [e_L60]; exact List.mem_append_left _ hm_qml
  have hf_qml : f61 qml = .inl (cy 1, 5, .inl (fun _ => 0)) := (congrFun e_f61 qml).trans (z_up_ne ne_qml_qz39 hf_qml)
  have hm_qmh : qmh ∈ L60 := by rw [e_L60]; exact List.mem_append_left _ hm_qmh
  have hf_qmh : f61 qmh = .inl (cy 1, 30, .inl (fun _ => 0)) := (congrFun e_f61 qmh).trans (z_up_ne ne_qmh_qz39 hf_qmh)
  have hm_qmj : qmj ∈ L60 := by rw [e_L60]; exact List.mem_append_left _ hm_qmj
  have hf_qmj : f61 qmj = .inl (cy 1, 25, .inl (fun _ => 0)) := (congrFun e_f61 qmj).trans (z_up_ne ne_qmj_qz39 hf_qmj)
  have hm_qms : qms ∈ L60 := by rw [e_L60]; exact List.mem_append_left _ hm_qms
  have hf_qms : f61 qms = .inl (cy 1, 20, .inl (fun _ => 0)) := (congrFun e_f61 qms).trans (z_up_ne ne_qms_qz39 hf_qms)
  have hm_qmg : qmg ∈ L60 := by rw [e_L60]; exact List.mem_append_left _ hm_qmg
  have hf_qmg : f61 qmg = .inl (cy 1, 180, .inl (fun _ => 0)) := (congrFun e_f61 qmg).trans (z_up_ne ne_qmg_qz39 hf_qmg)
  have hm_qmd : qmd ∈ L60 := by rw [e_L60]; exact List.mem_append_left _ hm_qmd
  have hf_qmd : f61 qmd = .inl (cy 1, 520, .inl (fun _ => 0)) := (congrFun e_f61 qmd).trans (z_up_ne ne_qmd_qz39 hf_qmd)
  have hm_qmk : qmk ∈ L60 := by rw [e_L60]; exact List.mem_append_left _ hm_qmk
  have hf_qmk : f61 qmk = .inl (cy 3, 3, .inl (fun _ => 0)) := (congrFun e_f61 qmk).trans (z_up_ne ne_qmk_qz39 hf_qmk)
  have hm_qz39 : qz39 ∈ L60 := by rw [e_L60]; exact List.mem_append_right _ (List.mem_singleton.mpr rfl)
  have hf_qz39 : f61 qz39 = .inl (cy 1, 5, .inl (fun _ => 0)) := (congrFun e_f61 qz39).trans z_up_self
  have hsub : ∀ b ∈ L, b ∈ L60 := fun b h => by rw [e_L60]; exact List.mem_append_left _ (hsub b h)
  have hfr : ∀ b ∈ L, b ≠ me → f61 b = f b := fun b hb h0 => (congrFun e_f61 b).trans (z_up_ne (z_ne hb hn_qz39) (hfr b hb h0))
  refine z_putF (C := RX10) (T := TX10) (N := 54) (ci := 10) (v := .ref qz39) (fs' := [.int 0, .ref qmw, .ref qmn, .ref qmc, .ref qmv, .ref qmt, .int 0, .int 0, .int 0, .int 0, .int 0, .long 0, .int 0, .int 0, .int 0, .int (-1), .ref qml, .ref qmh, .ref qmj, .ref qms, .ref qmg, .ref qmd, .int 0, .ref qmk, .int (-1), .int 0, .long 0, .int 0, .int 0, .ref qz29, .int 0, .ref qz31, .ref qz32, .ref qz33, .ref qz34, .ref qz35, .int 0, .ref qz37, .int 0, .ref qz39, .int 0, .int 0, .int 0, .null, .null, .null, .null, .null, .int 0, .null, .null, .null, .int 0, .int 0]) hx hb hT zin_X10 tyX10_ok nmX10 hown hK hw hm_me hf_me rfl 39 (by decide) (hT _ kw_1207) rfl hnm rfl rfl rfl (Nat.le_of_ble_eq_true rfl) rfl dX10_init_171 (fun H locs hw => ?_)
  obtain ⟨f62, e_f62⟩ : ∃ z, z = va_up f61 me (.inr (10, [.int 0, .ref qmw, .ref qmn, .ref qmc, .ref qmv, .ref qmt, .int 0, .int 0, .int 0, .int 0, .int 0, .long 0, .int 0, .int 0, .int 0, .int (-1), .ref qml, .ref qmh, .ref qmj, .ref qms, .ref qmg, .ref qmd, .int 0, .ref qmk, .int (-1), .int 0, .long 0, .int 0, .int 0, .ref qz29, .int 0, .ref qz31, .ref qz32, .ref qz33, .ref qz34, .ref qz35, .int 0, .ref qz37, .int 0, .ref qz39, .int 0, .int 0, .int 0, .null, .null, .null, .null, .null, .int 0, .null, .null, .null, .int 0, .int 0])) := ⟨_, rfl⟩
  rw [← e_f62] at hw
  have hf_qmw : f62 qmw = .inl (cy 1, 4, .inl (fun _ => 0)) := (congrFun e_f62 qmw).trans (z_up_ne (Ne.symm ne_me_qmw) hf_qmw)
  have hf_qmn : f62 qmn = .inl (cy 1, 4, .inl (fun _ => 0)) := (congrFun e_f62 qmn).trans (z_up_ne (Ne.symm ne_me_qmn) hf_qmn)
  have hf_qmc : f62 qmc = .inl (cy 2, 240, .inr (.inl (fun _ => 0))) := (congrFun e_f62 qmc).trans (z_up_ne (Ne.symm ne_me_qmc) hf_qmc)
  have hf_qmv : f62 qmv = .inl (cy 2, 60, .inr (.inl (fun _ => 0))) := (congrFun e_f62 qmv).trans (z_up_ne (Ne.symm ne_me_qmv) hf_qmv)
  have hf_qmt : f62 qmt = .inl (cy 0, 1600, .inl (fun _ => 0)) := (congrFun e_f62 qmt).trans (z_up_ne (Ne.symm ne_me_qmt) hf_qmt)
  have hf_qml : f62 qml = .inl (cy 1, 5, .inl (fun _ => 0)) := (congrFun e_f62 qml).trans (z_up_ne (Ne.symm ne_me_qml) hf_qml)
  have hf_qmh : f62 qmh = .inl (cy 1, 30, .inl (fun _ => 0)) := (congrFun e_f62 qmh).trans (z_up_ne (Ne.symm ne_me_qmh) hf_qmh)
  have hf_qmj : f62 qmj = .inl (cy 1, 25, .inl (fun _ => 0)) := (congrFun e_f62 qmj).trans (z_up_ne (Ne.symm ne_me_qmj) hf_qmj)
  have hf_qms : f62 qms = .inl (cy 1, 20, .inl (fun _ => 0)) := (congrFun e_f62 qms).trans (z_up_ne (Ne.symm ne_me_qms) hf_qms)
  have hf_qmg : f62 qmg = .inl (cy 1, 180, .inl (fun _ => 0)) := (congrFun e_f62 qmg).trans (z_up_ne (Ne.symm ne_me_qmg) hf_qmg)
  have hf_qmd : f62 qmd = .inl (cy 1, 520, .inl (fun _ => 0)) := (congrFun e_f62 qmd).trans (z_up_ne (Ne.symm ne_me_qmd) hf_qmd)
  have hf_qmk : f62 qmk = .inl (cy 3, 3, .inl (fun _ => 0)) := (congrFun e_f62 qmk).trans (z_up_ne (Ne.symm ne_me_qmk) hf_qmk)
  have hf_qz39 : f62 qz39 = .inl (cy 1, 5, .inl (fun _ => 0)) := (congrFun e_f62 qz39).trans (z_up_ne (Ne.symm ne_me_qz39) hf_qz39)
  have hf_me : f62 me = .inr (10, [.int 0, .ref qmw, .ref qmn, .ref qmc, .ref qmv, .ref qmt, .int 0, .int 0, .int 0, .int 0, .int 0, .long 0, .int 0, .int 0, .int 0, .int (-1), .ref qml, .ref qmh, .ref qmj, .ref qms, .ref qmg, .ref qmd, .int 0, .ref qmk, .int (-1), .int 0, .long 0, .int 0, .int 0, .ref qz29, .int 0, .ref qz31, .ref qz32, .ref qz33, .ref qz34, .ref qz35, .int 0, .ref qz37, .int 0, .ref qz39, .int 0, .int 0, .int 0, .null, .null, .null, .null, .null, .int 0, .null, .null, .null, .int 0, .int 0]) := (congrFun e_f62 me).trans z_up_self
  have hfr : ∀ b ∈ L, b ≠ me → f62 b = f b := fun b hb h0 => (congrFun e_f62 b).trans (z_up_ne h0 (hfr b hb h0))
  refine lv_aload_n hx hb dX10_init_174 rfl (lv_at hl 0 rfl) ?_
  refine lv_iconst (v := 5) hx hb dX10_init_175 (by decide) ?_
  refine z_newa (atype := .int) (n := 5) (N' := 5) (a0 := (5, .inl (fun _ => 0))) (cells := 20) (slots := 10595) hx hb (hT _ kw_203) rfl 1 rfl (fun _ h => by cases h) hK hw hA (fun _ => rfl) (by decide) (by decide) (by decide) (by decide) (by decide) dX10_init_176 (fun qz43 H hq_qz43 hw => ?_)
  refine W.widen (k := 21) (n := 10600) (by decide) (by decide) ?_
  have ne_me_qz43 : me ≠ qz43 := z_ne hm_me hq_qz43
  have ne_qmw_qz43 : qmw ≠ qz43 := z_ne hm_qmw hq_qz43
  have ne_qmn_qz43 : qmn ≠ qz43 := z_ne hm_qmn hq_qz43
  have ne_qmc_qz43 : qmc ≠ qz43 := z_ne hm_qmc hq_qz43
  have ne_qmv_qz43 : qmv ≠ qz43 := z_ne hm_qmv hq_qz43
  have ne_qmt_qz43 : qmt ≠ qz43 := z_ne hm_qmt hq_qz43
  have ne_qml_qz43 : qml ≠ qz43 := z_ne hm_qml hq_qz43
  have ne_qmh_qz43 : qmh ≠ qz43 := z_ne hm_qmh hq_qz43
  have ne_qmj_qz43 : qmj ≠ qz43 := z_ne hm_qmj hq_qz43
  have ne_qms_qz43 : qms ≠ qz43 := z_ne hm_qms hq_qz43
  have ne_qmg_qz43 : qmg ≠ qz43 := z_ne hm_qmg hq_qz43
  have ne_qmd_qz43 : qmd ≠ qz43 := z_ne hm_qmd hq_qz43
  have ne_qmk_qz43 : qmk ≠ qz43 := z_ne hm_qmk hq_qz43
  have hn_qz43 : qz43 ∉ L := fun h => hq_qz43 (hsub _ h)
  obtain ⟨f64, e_f64⟩ : ∃ z, z = va_up f62 qz43 (.inl (cy 1, 5, .inl (fun _ => 0))) := ⟨_, rfl⟩
  obtain ⟨L63, e_L63⟩ : ∃ z, z = L60 ++ [qz43] := ⟨_, rfl⟩
  rw [← e_f64, ← e_L63] at hw
  have hm_me : me ∈ L63 := by rw [e_L63]; exact List.mem_append_left _ hm_me
  have hf_me : f64 me = .inr (10, [.int 0, .ref qmw, .ref qmn, .ref qmc, .ref qmv, .ref qmt, .int 0, .int 0, .int 0, .int 0, .int 0, .long 0, .int 0, .int 0, .int 0, .int (-1), .ref qml, .ref qmh, .ref qmj, .ref qms, .ref qmg, .ref qmd, .int 0, .ref qmk, .int (-1), .int 0, .long 0, .int 0, .int 0, .ref qz29, .int 0, .ref qz31, .ref qz32, .ref qz33, .ref qz34, .ref qz35, .int 0, .ref qz37, .int 0, .ref qz39, .int 0, .int 0, .int 0, .null, .null, .null, .null, .null, .int 0, .null, .null, .null, .int 0, .int 0]) := (congrFun e_f64 me).trans (z_up_ne ne_me_qz43 hf_me)
  have hm_qmw : qmw ∈ L63 := by rw [e_L63]; exact List.mem_append_left _ hm_qmw
  have hf_qmw : f64 qmw = .inl (cy 1, 4, .inl (fun _ => 0)) := (congrFun e_f64 qmw).trans (z_up_ne ne_qmw_qz43 hf_qmw)
  have hm_qmn : qmn ∈ L63 := by rw [e_L63]; exact List.mem_append_left _ hm_qmn
  have hf_qmn : f64 qmn = .inl (cy 1, 4, .inl (fun _ => 0)) := (congrFun e_f64 qmn).trans (z_up_ne ne_qmn_qz43 hf_qmn)
  have hm_qmc : qmc ∈ L63 := by rw [e_L63]; exact List.mem_append_left _ hm_qmc
  have hf_qmc : f64 qmc = .inl (cy 2, 240, .inr (.inl (fun _ => 0))) := (congrFun e_f64 qmc).trans (z_up_ne ne_qmc_qz43 hf_qmc)
  have hm_qmv : qmv ∈ L63 := by rw [e_L63]; exact List.mem_append_left _ hm_qmv
  have hf_qmv : f64 qmv = .inl (cy 2, 60, .inr (.inl (fun _ => 0))) := (congrFun e_f64 qmv).trans (z_up_ne ne_qmv_qz43 hf_qmv)
  have hm_qmt : qmt ∈ L63 := by rw [e_L63]; exact List.mem_append_left _ hm_qmt
  have hf_qmt : f64 qmt = .inl (cy 0, 1600, .inl (fun _ => 0)) := (congrFun e_f64 qmt).trans (z_up_ne ne_qmt_qz43 hf_qmt)
  have hm_qml : qml ∈ L63 := by rw [e_L63]; exact List.mem_append_left _ hm_qml
  have hf_qml : f64 qml = .inl (cy 1, 5, .inl (fun _ => 0)) := (congrFun e_f64 qml).trans (z_up_ne ne_qml_qz43 hf_qml)
  have hm_qmh : qmh ∈ L63 := by rw [e_L63]; exact List.mem_append_left _ hm_qmh
  have hf_qmh : f64 qmh = .inl (cy 1, 30, .inl (fun _ => 0)) := (congrFun e_f64 qmh).trans (z_up_ne ne_qmh_qz43 hf_qmh)
  have hm_qmj : qmj ∈ L63 := by rw [e_L63]; exact List.mem_append_left _ hm_qmj
  have hf_qmj : f64 qmj = .inl (cy 1, 25, .inl (fun _ => 0)) := (congrFun e_f64 qmj).trans (z_up_ne ne_qmj_qz43 hf_qmj)
  have hm_qms : qms ∈ L63 := by rw [e_L63]; exact List.mem_append_left _ hm_qms
  have hf_qms : f64 qms = .inl (cy 1, 20, .inl (fun _ => 0)) := (congrFun e_f64 qms).trans (z_up_ne ne_qms_qz43 hf_qms)
  have hm_qmg : qmg ∈ L63 := by rw [e_L63]; exact List.mem_append_left _ hm_qmg
  have hf_qmg : f64 qmg = .inl (cy 1, 180, .inl (fun _ => 0)) := (congrFun e_f64 qmg).trans (z_up_ne ne_qmg_qz43 hf_qmg)
  have hm_qmd : qmd ∈ L63 := by rw [e_L63]; exact List.mem_append_left _ hm_qmd
  have hf_qmd : f64 qmd = .inl (cy 1, 520, .inl (fun _ => 0)) := (congrFun e_f64 qmd).trans (z_up_ne ne_qmd_qz43 hf_qmd)
  have hm_qmk : qmk ∈ L63 := by rw [e_L63]; exact List.mem_append_left _ hm_qmk
  have hf_qmk : f64 qmk = .inl (cy 3, 3, .inl (fun _ => 0)) := (congrFun e_f64 qmk).trans (z_up_ne ne_qmk_qz43 hf_qmk)
  have hm_qz43 : qz43 ∈ L63 := by rw [e_L63]; exact List.mem_append_right _ (List.mem_singleton.mpr rfl)
  have hf_qz43 : f64 qz43 = .inl (cy 1, 5, .inl (fun _ => 0)) := (congrFun e_f64 qz43).trans z_up_self
  have hsub : ∀ b ∈ L, b ∈ L63 := fun b h => by rw [e_L63]; exact List.mem_append_left _ (hsub b h)
  have hfr : ∀ b ∈ L, b ≠ me → f64 b = f b := fun b hb h0 => (congrFun e_f64 b).trans (z_up_ne (z_ne hb hn_qz43) (hfr b hb h0))
  refine z_putF (C := RX10) (T := TX10) (N := 54) (ci := 10) (v := .ref qz43) (fs' := [.int 0, .ref qmw, .ref qmn, .ref qmc, .ref qmv, .ref qmt, .int 0, .int 0, .int 0, .int 0, .int 0, .long 0, .int 0, .int 0, .int 0, .int (-1), .ref qml, .ref qmh, .ref qmj, .ref qms, .ref qmg, .ref qmd, .int 0, .ref qmk, .int (-1), .int 0, .long 0, .int 0, .int 0, .ref qz29, .int 0, .ref qz31, .ref qz32, .ref qz33, .ref qz34, .ref qz35, .int 0, .ref qz37, .int 0, .ref qz39, .int 0, .int 0, .int 0, .ref qz43, .null, .null, .null, .null, .int 0, .null, .null, .null, .int 0, .int 0]) hx hb hT zin_X10 tyX10_ok nmX10 hown hK hw hm_me hf_me rfl 43 (by decide) (hT _ kw_1211) rfl hnm rfl rfl rfl (Nat.le_of_ble_eq_true rfl) rfl dX10_init_178 (fun H locs hw => ?_)
  obtain ⟨f65, e_f65⟩ : ∃ z, z = va_up f64 me (.inr (10, [.int 0, .ref qmw, .ref qmn, .ref qmc, .ref qmv, .ref qmt, .int 0, .int 0, .int 0, .int 0, .int 0, .long 0, .int 0, .int 0, .int 0, .int (-1), .ref qml, .ref qmh, .ref qmj, .ref qms, .ref qmg, .ref qmd, .int 0, .ref qmk, .int (-1), .int 0, .long 0, .int 0, .int 0, .ref qz29, .int 0, .ref qz31, .ref qz32, .ref qz33, .ref qz34, .ref qz35, .int 0, .ref qz37, .int 0, .ref qz39, .int 0, .int 0, .int 0, .ref qz43, .null, .null, .null, .null, .int 0, .null, .null, .null, .int 0, .int 0])) := ⟨_, rfl⟩
  rw [← e_f65] at hw
  have hf_qmw : f65 qmw = .inl (cy 1, 4, .inl (fun _ => 0)) := (congrFun e_f65 qmw).trans (z_up_ne (Ne.symm ne_me_qmw) hf_qmw)
  have hf_qmn : f65 qmn = .inl (cy 1, 4, .inl (fun _ => 0)) := (congrFun e_f65 qmn).trans (z_up_ne (Ne.symm ne_me_qmn) hf_qmn)
  have hf_qmc : f65 qmc = .inl (cy 2, 240, .inr (.inl (fun _ => 0))) := (congrFun e_f65 qmc).trans (z_up_ne (Ne.symm ne_me_qmc) hf_qmc)
  have hf_qmv : f65 qmv = .inl (cy 2, 60, .inr (.inl (fun _ => 0))) := (congrFun e_f65 qmv).trans (z_up_ne (Ne.symm ne_me_qmv) hf_qmv)
  have hf_qmt : f65 qmt = .inl (cy 0, 1600, .inl (fun _ => 0)) := (congrFun e_f65 qmt).trans (z_up_ne (Ne.symm ne_me_qmt) hf_qmt)
  have hf_qml : f65 qml = .inl (cy 1, 5, .inl (fun _ => 0)) := (congrFun e_f65 qml).trans (z_up_ne (Ne.symm ne_me_qml) hf_qml)
  have hf_qmh : f65 qmh = .inl (cy 1, 30, .inl (fun _ => 0)) := (congrFun e_f65 qmh).trans (z_up_ne (Ne.symm ne_me_qmh) hf_qmh)
  have hf_qmj : f65 qmj = .inl (cy 1, 25, .inl (fun _ => 0)) := (congrFun e_f65 qmj).trans (z_up_ne (Ne.symm ne_me_qmj) hf_qmj)
  have hf_qms : f65 qms = .inl (cy 1, 20, .inl (fun _ => 0)) := (congrFun e_f65 qms).trans (z_up_ne (Ne.symm ne_me_qms) hf_qms)
  have hf_qmg : f65 qmg = .inl (cy 1, 180, .inl (fun _ => 0)) := (congrFun e_f65 qmg).trans (z_up_ne (Ne.symm ne_me_qmg) hf_qmg)
  have hf_qmd : f65 qmd = .inl (cy 1, 520, .inl (fun _ => 0)) := (congrFun e_f65 qmd).trans (z_up_ne (Ne.symm ne_me_qmd) hf_qmd)
  have hf_qmk : f65 qmk = .inl (cy 3, 3, .inl (fun _ => 0)) := (congrFun e_f65 qmk).trans (z_up_ne (Ne.symm ne_me_qmk) hf_qmk)
  have hf_qz43 : f65 qz43 = .inl (cy 1, 5, .inl (fun _ => 0)) := (congrFun e_f65 qz43).trans (z_up_ne (Ne.symm ne_me_qz43) hf_qz43)
  have hf_me : f65 me = .inr (10, [.int 0, .ref qmw, .ref qmn, .ref qmc, .ref qmv, .ref qmt, .int 0, .int 0, .int 0, .int 0, .int 0, .long 0, .int 0, .int 0, .int 0, .int (-1), .ref qml, .ref qmh, .ref qmj, .ref qms, .ref qmg, .ref qmd, .int 0, .ref qmk, .int (-1), .int 0, .long 0, .int 0, .int 0, .ref qz29, .int 0, .ref qz31, .ref qz32, .ref qz33, .ref qz34, .ref qz35, .int 0, .ref qz37, .int 0, .ref qz39, .int 0, .int 0, .int 0, .ref qz43, .null, .null, .null, .null, .int 0, .null, .null, .null, .int 0, .int 0]) := (congrFun e_f65 me).trans z_up_self
  have hfr : ∀ b ∈ L, b ≠ me → f65 b = f b := fun b hb h0 => (congrFun e_f65 b).trans (z_up_ne h0 (hfr b hb h0))
  refine lv_aload_n hx hb dX10_init_181 rfl (lv_at hl 0 rfl) ?_
  refine lv_bipush (v := 12) hx hb dX10_init_182 (by decide) ?_
  refine z_newa (atype := .int) (n := 12) (N' := 12) (a0 := (12, .inl (fun _ => 0))) (cells := 21) (slots := 10600) hx hb (hT _ kw_203) rfl 1 rfl (fun _ h => by cases h) hK hw hA (fun _ => rfl) (by decide) (by decide) (by decide) (by decide) (by decide) dX10_init_184 (fun qz44 H hq_qz44 hw => ?_)
  refine W.widen (k := 22) (n := 10612) (by decide) (by decide) ?_
  have ne_me_qz44 : me ≠ qz44 := z_ne hm_me hq_qz44
  have ne_qmw_qz44 : qmw ≠ qz44 := z_ne hm_qmw hq_qz44
  have ne_qmn_qz44 : qmn ≠ qz44 := z_ne hm_qmn hq_qz44
  have ne_qmc_qz44 : qmc ≠ qz44 := z_ne hm_qmc hq_qz44
  have ne_qmv_qz44 : qmv ≠ qz44 := z_ne hm_qmv hq_qz44
  have ne_qmt_qz44 : qmt ≠ qz44 := z_ne hm_qmt hq_qz44
  have ne_qml_qz44 : qml ≠ qz44 := z_ne hm_qml hq_qz44
  have ne_qmh_qz44 : qmh ≠ qz44 := z_ne hm_qmh hq_qz44
  have ne_qmj_qz44 : qmj ≠ qz44 := z_ne hm_qmj hq_qz44
  have ne_qms_qz44 : qms ≠ qz44 := z_ne hm_qms hq_qz44
  have ne_qmg_qz44 : qmg ≠ qz44 := z_ne hm_qmg hq_qz44
  have ne_qmd_qz44 : qmd ≠ qz44 := z_ne hm_qmd hq_qz44
  have ne_qmk_qz44 : qmk ≠ qz44 := z_ne hm_qmk hq_qz44
  have hn_qz44 : qz44 ∉ L := fun h => hq_qz44 (hsub _ h)
  obtain ⟨f67, e_f67⟩ : ∃ z, z = va_up f65 qz44 (.inl (cy 1, 12, .inl (fun _ => 0))) := ⟨_, rfl⟩
  obtain ⟨L66, e_L66⟩ : ∃ z, z = L63 ++ [qz44] := ⟨_, rfl⟩
  rw [← e_f67, ← e_L66] at hw
  have hm_me : me ∈ L66 := by rw [e_L66]; exact List.mem_append_left _ hm_me
  have hf_me : f67 me = .inr (10, [.int 0, .ref qmw, .ref qmn, .ref qmc, .ref qmv, .ref qmt, .int 0, .int 0, .int 0, .int 0, .int 0, .long 0, .int 0, .int 0, .int 0, .int (-1), .ref qml, .ref qmh, .ref qmj, .ref qms, .ref qmg, .ref qmd, .int 0, .ref qmk, .int (-1), .int 0, .long 0, .int 0, .int 0, .ref qz29, .int 0, .ref qz31, .ref qz32, .ref qz33, .ref qz34, .ref qz35, .int 0, .ref qz37, .int 0, .ref qz39, .int 0, .int 0, .int 0, .ref qz43, .null, .null, .null, .null, .int 0, .null, .null, .null, .int 0, .int 0]) := (congrFun e_f67 me).trans (z_up_ne ne_me_qz44 hf_me)
  have hm_qmw : qmw ∈ L66 := by rw [e_L66]; exact List.mem_append_left _ hm_qmw
  have hf_qmw : f67 qmw = .inl (cy 1, 4, .inl (fun _ => 0)) := (congrFun e_f67 qmw).trans (z_up_ne ne_qmw_qz44 hf_qmw)
  have hm_qmn : qmn ∈ L66 := by rw [e_L66]; exact List.mem_append_left _ hm_qmn
  have hf_qmn : f67 qmn = .inl (cy 1, 4, .inl (fun _ => 0)) := (congrFun e_f67 qmn).trans (z_up_ne ne_qmn_qz44 hf_qmn)
  have hm_qmc : qmc ∈ L66 := by rw [e_L66]; exact List.mem_append_left _ hm_qmc
  have hf_qmc : f67 qmc = .inl (cy 2, 240, .inr (.inl (fun _ => 0))) := (congrFun e_f67 qmc).trans (z_up_ne ne_qmc_qz44 hf_qmc)
  have hm_qmv : qmv ∈ L66 := by rw [e_L66]; exact List.mem_append_left _ hm_qmv
  have hf_qmv : f67 qmv = .inl (cy 2, 60, .inr (.inl (fun _ => 0))) := (congrFun e_f67 qmv).trans (z_up_ne ne_qmv_qz44 hf_qmv)
  have hm_qmt : qmt ∈ L66 := by rw [e_L66]; exact List.mem_append_left _ hm_qmt
  have hf_qmt : f67 qmt = .inl (cy 0, 1600, .inl (fun _ => 0)) := (congrFun e_f67 qmt).trans (z_up_ne ne_qmt_qz44 hf_qmt)
  have hm_qml : qml ∈ L66 := by rw [e_L66]; exact List.mem_append_left _ hm_qml
  have hf_qml : f67 qml = .inl (cy 1, 5, .inl (fun _ => 0)) := (congrFun e_f67 qml).trans (z_up_ne ne_qml_qz44 hf_qml)
  have hm_qmh : qmh ∈ L66 := by rw [e_L66]; exact List.mem_append_left _ hm_qmh
  have hf_qmh : f67 qmh = .inl (cy 1, 30, .inl (fun _ => 0)) := (congrFun e_f67 qmh).trans (z_up_ne ne_qmh_qz44 hf_qmh)
  have hm_qmj : qmj ∈ L66 := by rw [e_L66]; exact List.mem_append_left _ hm_qmj
  have hf_qmj : f67 qmj = .inl (cy 1, 25, .inl (fun _ => 0)) := (congrFun e_f67 qmj).trans (z_up_ne ne_qmj_qz44 hf_qmj)
  have hm_qms : qms ∈ L66 := by rw [e_L66]; exact List.mem_append_left _ hm_qms
  have hf_qms : f67 qms = .inl (cy 1, 20, .inl (fun _ => 0)) := (congrFun e_f67 qms).trans (z_up_ne ne_qms_qz44 hf_qms)
  have hm_qmg : qmg ∈ L66 := by rw [e_L66]; exact List.mem_append_left _ hm_qmg
  have hf_qmg : f67 qmg = .inl (cy 1, 180, .inl (fun _ => 0)) := (congrFun e_f67 qmg).trans (z_up_ne ne_qmg_qz44 hf_qmg)
  have hm_qmd : qmd ∈ L66 := by rw [e_L66]; exact List.mem_append_left _ hm_qmd
  have hf_qmd : f67 qmd = .inl (cy 1, 520, .inl (fun _ => 0)) := (congrFun e_f67 qmd).trans (z_up_ne ne_qmd_qz44 hf_qmd)
  have hm_qmk : qmk ∈ L66 := by rw [e_L66]; exact List.mem_append_left _ hm_qmk
  have hf_qmk : f67 qmk = .inl (cy 3, 3, .inl (fun _ => 0)) := (congrFun e_f67 qmk).trans (z_up_ne ne_qmk_qz44 hf_qmk)
  have hm_qz44 : qz44 ∈ L66 := by rw [e_L66]; exact List.mem_append_right _ (List.mem_singleton.mpr rfl)
  have hf_qz44 : f67 qz44 = .inl (cy 1, 12, .inl (fun _ => 0)) := (congrFun e_f67 qz44).trans z_up_self
  have hsub : ∀ b ∈ L, b ∈ L66 := fun b h => by rw [e_L66]; exact List.mem_append_left _ (hsub b h)
  have hfr : ∀ b ∈ L, b ≠ me → f67 b = f b := fun b hb h0 => (congrFun e_f67 b).trans (z_up_ne (z_ne hb hn_qz44) (hfr b hb h0))
  refine z_putF (C := RX10) (T := TX10) (N := 54) (ci := 10) (v := .ref qz44) (fs' := [.int 0, .ref qmw, .ref qmn, .ref qmc, .ref qmv, .ref qmt, .int 0, .int 0, .int 0, .int 0, .int 0, .long 0, .int 0, .int 0, .int 0, .int (-1), .ref qml, .ref qmh, .ref qmj, .ref qms, .ref qmg, .ref qmd, .int 0, .ref qmk, .int (-1), .int 0, .long 0, .int 0, .int 0, .ref qz29, .int 0, .ref qz31, .ref qz32, .ref qz33, .ref qz34, .ref qz35, .int 0, .ref qz37, .int 0, .ref qz39, .int 0, .int 0, .int 0, .ref qz43, .ref qz44, .null, .null, .null, .int 0, .null, .null, .null, .int 0, .int 0]) hx hb hT zin_X10 tyX10_ok nmX10 hown hK hw hm_me hf_me rfl 44 (by decide) (hT _ kw_1212) rfl hnm rfl rfl rfl (Nat.le_of_ble_eq_true rfl) rfl dX10_init_186 (fun H locs hw => ?_)
  obtain ⟨f68, e_f68⟩ : ∃ z, z = va_up f67 me (.inr (10, [.int 0, .ref qmw, .ref qmn, .ref qmc, .ref qmv, .ref qmt, .int 0, .int 0, .int 0, .int 0, .int 0, .long 0, .int 0, .int 0, .int 0, .int (-1), .ref qml, .ref qmh, .ref qmj, .ref qms, .ref qmg, .ref qmd, .int 0, .ref qmk, .int (-1), .int 0, .long 0, .int 0, .int 0, .ref qz29, .int 0, .ref qz31, .ref qz32, .ref qz33, .ref qz34, .ref qz35, .int 0, .ref qz37, .int 0, .ref qz39, .int 0, .int 0, .int 0, .ref qz43, .ref qz44, .null, .null, .null, .int 0, .null, .null, .null, .int 0, .int 0])) := ⟨_, rfl⟩
  rw [← e_f68] at hw
  have hf_qmw : f68 qmw = .inl (cy 1, 4, .inl (fun _ => 0)) := (congrFun e_f68 qmw).trans (z_up_ne (Ne.symm ne_me_qmw) hf_qmw)
  have hf_qmn : f68 qmn = .inl (cy 1, 4, .inl (fun _ => 0)) := (congrFun e_f68 qmn).trans (z_up_ne (Ne.symm ne_me_qmn) hf_qmn)
  have hf_qmc : f68 qmc = .inl (cy 2, 240, .inr (.inl (fun _ => 0))) := (congrFun e_f68 qmc).trans (z_up_ne (Ne.symm ne_me_qmc) hf_qmc)
  have hf_qmv : f68 qmv = .inl (cy 2, 60, .inr (.inl (fun _ => 0))) := (congrFun e_f68 qmv).trans (z_up_ne (Ne.symm ne_me_qmv) hf_qmv)
  have hf_qmt : f68 qmt = .inl (cy 0, 1600, .inl (fun _ => 0)) := (congrFun e_f68 qmt).trans (z_up_ne (Ne.symm ne_me_qmt) hf_qmt)
  have hf_qml : f68 qml = .inl (cy 1, 5, .inl (fun _ => 0)) := (congrFun e_f68 qml).trans (z_up_ne (Ne.symm ne_me_qml) hf_qml)
  have hf_qmh : f68 qmh = .inl (cy 1, 30, .inl (fun _ => 0)) := (congrFun e_f68 qmh).trans (z_up_ne (Ne.symm ne_me_qmh) hf_qmh)
  have hf_qmj : f68 qmj = .inl (cy 1, 25, .inl (fun _ => 0)) := (congrFun e_f68 qmj).trans (z_up_ne (Ne.symm ne_me_qmj) hf_qmj)
  have hf_qms : f68 qms = .inl (cy 1, 20, .inl (fun _ => 0)) := (congrFun e_f68 qms).trans (z_up_ne (Ne.symm ne_me_qms) hf_qms)
  have hf_qmg : f68 qmg = .inl (cy 1, 180, .inl (fun _ => 0)) := (congrFun e_f68 qmg).trans (z_up_ne (Ne.symm ne_me_qmg) hf_qmg)
  have hf_qmd : f68 qmd = .inl (cy 1, 520, .inl (fun _ => 0)) := (congrFun e_f68 qmd).trans (z_up_ne (Ne.symm ne_me_qmd) hf_qmd)
  have hf_qmk : f68 qmk = .inl (cy 3, 3, .inl (fun _ => 0)) := (congrFun e_f68 qmk).trans (z_up_ne (Ne.symm ne_me_qmk) hf_qmk)
  have hf_qz44 : f68 qz44 = .inl (cy 1, 12, .inl (fun _ => 0)) := (congrFun e_f68 qz44).trans (z_up_ne (Ne.symm ne_me_qz44) hf_qz44)
  have hf_me : f68 me = .inr (10, [.int 0, .ref qmw, .ref qmn, .ref qmc, .ref qmv, .ref qmt, .int 0, .int 0, .int 0, .int 0, .int 0, .long 0, .int 0, .int 0, .int 0, .int (-1), .ref qml, .ref qmh, .ref qmj, .ref qms, .ref qmg, .ref qmd, .int 0, .ref qmk, .int (-1), .int 0, .long 0, .int 0, .int 0, .ref qz29, .int 0, .ref qz31, .ref qz32, .ref qz33, .ref qz34, .ref qz35, .int 0, .ref qz37, .int 0, .ref qz39, .int 0, .int 0, .int 0, .ref qz43, .ref qz44, .null, .null, .null, .int 0, .null, .null, .null, .int 0, .int 0]) := (congrFun e_f68 me).trans z_up_self
  have hfr : ∀ b ∈ L, b ≠ me → f68 b = f b := fun b hb h0 => (congrFun e_f68 b).trans (z_up_ne h0 (hfr b hb h0))
  refine lv_aload_n hx hb dX10_init_189 rfl (lv_at hl 0 rfl) ?_
  refine lv_bipush (v := 12) hx hb dX10_init_190 (by decide) ?_
  refine z_newa (atype := .int) (n := 12) (N' := 12) (a0 := (12, .inl (fun _ => 0))) (cells := 22) (slots := 10612) hx hb (hT _ kw_203) rfl 1 rfl (fun _ h => by cases h) hK hw hA (fun _ => rfl) (by decide) (by decide) (by decide) (by decide) (by decide) dX10_init_192 (fun qz45 H hq_qz45 hw => ?_)
  refine W.widen (k := 23) (n := 10624) (by decide) (by decide) ?_
  have ne_me_qz45 : me ≠ qz45 := z_ne hm_me hq_qz45
  have ne_qmw_qz45 : qmw ≠ qz45 := z_ne hm_qmw hq_qz45
  have ne_qmn_qz45 : qmn ≠ qz45 := z_ne hm_qmn hq_qz45
  have ne_qmc_qz45 : qmc ≠ qz45 := z_ne hm_qmc hq_qz45
  have ne_qmv_qz45 : qmv ≠ qz45 := z_ne hm_qmv hq_qz45
  have ne_qmt_qz45 : qmt ≠ qz45 := z_ne hm_qmt hq_qz45
  have ne_qml_qz45 : qml ≠ qz45 := z_ne hm_qml hq_qz45
  have ne_qmh_qz45 : qmh ≠ qz45 := z_ne hm_qmh hq_qz45
  have ne_qmj_qz45 : qmj ≠ qz45 := z_ne hm_qmj hq_qz45
  have ne_qms_qz45 : qms ≠ qz45 := z_ne hm_qms hq_qz45
  have ne_qmg_qz45 : qmg ≠ qz45 := z_ne hm_qmg hq_qz45
  have ne_qmd_qz45 : qmd ≠ qz45 := z_ne hm_qmd hq_qz45
  have ne_qmk_qz45 : qmk ≠ qz45 := z_ne hm_qmk hq_qz45
  have hn_qz45 : qz45 ∉ L := fun h => hq_qz45 (hsub _ h)
  obtain ⟨f70, e_f70⟩ : ∃ z, z = va_up f68 qz45 (.inl (cy 1, 12, .inl (fun _ => 0))) := ⟨_, rfl⟩
  obtain ⟨L69, e_L69⟩ : ∃ z, z = L66 ++ [qz45] := ⟨_, rfl⟩
  rw [← e_f70, ← e_L69] at hw
  have hm_me : me ∈ L69 := by rw [e_L69]; exact List.mem_append_left _ hm_me
  have hf_me : f70 me = .inr (10, [.int 0, .ref qmw, .ref qmn, .ref qmc, .ref qmv, .ref qmt, .int 0, .int 0, .int 0, .int 0, .int 0, .long 0, .int 0, .int 0, .int 0, .int (-1), .ref qml, .ref qmh, .ref qmj, .ref qms, .ref qmg, .ref qmd, .int 0, .ref qmk, .int (-1), .int 0, .long 0, .int 0, .int 0, .ref qz29, .int 0, .ref qz31, .ref qz32, .ref qz33, .ref qz34, .ref qz35, .int 0, .ref qz37, .int 0, .ref qz39, .int 0, .int 0, .int 0, .ref qz43, .ref qz44, .null, .null, .null, .int 0, .null, .null, .null, .int 0, .int 0]) := (congrFun e_f70 me).trans (z_up_ne ne_me_qz45 hf_me)
  have hm_qmw : qmw ∈ L69 := by rw [e_L69]; exact List.mem_append_left _ hm_qmw
  have hf_qmw : f70 qmw = .inl (cy 1, 4, .inl (fun _ => 0)) := (congrFun e_f70 qmw).trans (z_up_ne ne_qmw_qz45 hf_qmw)
  have hm_qmn : qmn ∈ L69 := by rw [e_L69]; exact List.mem_append_left _ hm_qmn
  have hf_qmn : f70 qmn = .inl (cy 1, 4, .inl (fun _ => 0)) := (congrFun e_f70 qmn).trans (z_up_ne ne_qmn_qz45 hf_qmn)
  have hm_qmc : qmc ∈ L69 := by rw [e_L69]; exact List.mem_append_left _ hm_qmc
  have hf_qmc : f70 qmc = .inl (cy 2, 240, .inr (.inl (fun _ => 0))) := (congrFun e_f70 qmc).trans (z_up_ne ne_qmc_qz45 hf_qmc)
  have hm_qmv : qmv ∈ L69 := by rw [e_L69]; exact List.mem_append_left _ hm_qmv
  have hf_qmv : f70 qmv = .inl (cy 2, 60, .inr (.inl (fun _ => 0))) := (congrFun e_f70 qmv).trans (z_up_ne ne_qmv_qz45 hf_qmv)
  have hm_qmt : qmt ∈ L69 := by rw [e_L69]; exact List.mem_append_left _ hm_qmt
  have hf_qmt : f70 qmt = .inl (cy 0, 1600, .inl (fun _ => 0)) := (congrFun e_f70 qmt).trans (z_up_ne ne_qmt_qz45 hf_qmt)
  have hm_qml : qml ∈ L69 := by rw [e_L69]; exact List.mem_append_left _ hm_qml
  have hf_qml : f70 qml = .inl (cy 1, 5, .inl (fun _ => 0)) := (congrFun e_f70 qml).trans (z_up_ne ne_qml_qz45 hf_qml)
  have hm_qmh : qmh ∈ L69 := by rw [e_L69]; exact List.mem_append_left _ hm_qmh
  have hf_qmh : f70 qmh = .inl (cy 1, 30, .inl (fun _ => 0)) := (congrFun e_f70 qmh).trans (z_up_ne ne_qmh_qz45 hf_qmh)
  have hm_qmj : qmj ∈ L69 := by rw [e_L69]; exact List.mem_append_left _ hm_qmj
  have hf_qmj : f70 qmj = .inl (cy 1, 25, .inl (fun _ => 0)) := (congrFun e_f70 qmj).trans (z_up_ne ne_qmj_qz45 hf_qmj)
  have hm_qms : qms ∈ L69 := by rw [e_L69]; exact List.mem_append_left _ hm_qms
  have hf_qms : f70 qms = .inl (cy 1, 20, .inl (fun _ => 0)) := (congrFun e_f70 qms).trans (z_up_ne ne_qms_qz45 hf_qms)
  have hm_qmg : qmg ∈ L69 := by rw [e_L69]; exact List.mem_append_left _ hm_qmg
  have hf_qmg : f70 qmg = .inl (cy 1, 180, .inl (fun _ => 0)) := (congrFun e_f70 qmg).trans (z_up_ne ne_qmg_qz45 hf_qmg)
  have hm_qmd : qmd ∈ L69 := by rw [e_L69]; exact List.mem_append_left _ hm_qmd
  have hf_qmd : f70 qmd = .inl (cy 1, 520, .inl (fun _ => 0)) := (congrFun e_f70 qmd).trans (z_up_ne ne_qmd_qz45 hf_qmd)
  have hm_qmk : qmk ∈ L69 := by rw [e_L69]; exact List.mem_append_left _ hm_qmk
  have hf_qmk : f70 qmk = .inl (cy 3, 3, .inl (fun _ => 0)) := (congrFun e_f70 qmk).trans (z_up_ne ne_qmk_qz45 hf_qmk)
  have hm_qz45 : qz45 ∈ L69 := by rw [e_L69]; exact List.mem_append_right _ (List.mem_singleton.mpr rfl)
  have hf_qz45 : f70 qz45 = .inl (cy 1, 12, .inl (fun _ => 0)) := (congrFun e_f70 qz45).trans z_up_self
  have hsub : ∀ b ∈ L, b ∈ L69 := fun b h => by rw [e_L69]; exact List.mem_append_left _ (hsub b h)
  have hfr : ∀ b ∈ L, b ≠ me → f70 b = f b := fun b hb h0 => (congrFun e_f70 b).trans (z_up_ne (z_ne hb hn_qz45) (hfr b hb h0))
  refine z_putF (C := RX10) (T := TX10) (N := 54) (ci := 10) (v := .ref qz45) (fs' := [.int 0, .ref qmw, .ref qmn, .ref qmc, .ref qmv, .ref qmt, .int 0, .int 0, .int 0, .int 0, .int 0, .long 0, .int 0, .int 0, .int 0, .int (-1), .ref qml, .ref qmh, .ref qmj, .ref qms, .ref qmg, .ref qmd, .int 0, .ref qmk, .int (-1), .int 0, .long 0, .int 0, .int 0, .ref qz29, .int 0, .ref qz31, .ref qz32, .ref qz33, .ref qz34, .ref qz35, .int 0, .ref qz37, .int 0, .ref qz39, .int 0, .int 0, .int 0, .ref qz43, .ref qz44, .ref qz45, .null, .null, .int 0, .null, .null, .null, .int 0, .int 0]) hx hb hT zin_X10 tyX10_ok nmX10 hown hK hw hm_me hf_me rfl 45 (by decide) (hT _ kw_1213) rfl hnm rfl rfl rfl (Nat.le_of_ble_eq_true rfl) rfl dX10_init_194 (fun H locs hw => ?_)
  obtain ⟨f71, e_f71⟩ : ∃ z, z = va_up f70 me (.inr (10, [.int 0, .ref qmw, .ref qmn, .ref qmc, .ref qmv, .ref qmt, .int 0, .int 0, .int 0, .int 0, .int 0, .long 0, .int 0, .int 0, .int 0, .int (-1), .ref qml, .ref qmh, .ref qmj, .ref qms, .ref qmg, .ref qmd, .int 0, .ref qmk, .int (-1), .int 0, .long 0, .int 0, .int 0, .ref qz29, .int 0, .ref qz31, .ref qz32, .ref qz33, .ref qz34, .ref qz35, .int 0, .ref qz37, .int 0, .ref qz39, .int 0, .int 0, .int 0, .ref qz43, .ref qz44, .ref qz45, .null, .null, .int 0, .null, .null, .null, .int 0, .int 0])) := ⟨_, rfl⟩
  rw [← e_f71] at hw
  have hf_qmw : f71 qmw = .inl (cy 1, 4, .inl (fun _ => 0)) := (congrFun e_f71 qmw).trans (z_up_ne (Ne.symm ne_me_qmw) hf_qmw)
  have hf_qmn : f71 qmn = .inl (cy 1, 4, .inl (fun _ => 0)) := (congrFun e_f71 qmn).trans (z_up_ne (Ne.symm ne_me_qmn) hf_qmn)
  have hf_qmc : f71 qmc = .inl (cy 2, 240, .inr (.inl (fun _ => 0))) := (congrFun e_f71 qmc).trans (z_up_ne (Ne.symm ne_me_qmc) hf_qmc)
  have hf_qmv : f71 qmv = .inl (cy 2, 60, .inr (.inl (fun _ => 0))) := (congrFun e_f71 qmv).trans (z_up_ne (Ne.symm ne_me_qmv) hf_qmv)
  have hf_qmt : f71 qmt = .inl (cy 0, 1600, .inl (fun _ => 0)) := (congrFun e_f71 qmt).trans (z_up_ne (Ne.symm ne_me_qmt) hf_qmt)
  have hf_qml : f71 qml = .inl (cy 1, 5, .inl (fun _ => 0)) := (congrFun e_f71 qml).trans (z_up_ne (Ne.symm ne_me_qml) hf_qml)
  have hf_qmh : f71 qmh = .inl (cy 1, 30, .inl (fun _ => 0)) := (congrFun e_f71 qmh).trans (z_up_ne (Ne.symm ne_me_qmh) hf_qmh)
  have hf_qmj : f71 qmj = .inl (cy 1, 25, .inl (fun _ => 0)) := (congrFun e_f71 qmj).trans (z_up_ne (Ne.symm ne_me_qmj) hf_qmj)
  have hf_qms : f71 qms = .inl (cy 1, 20, .inl (fun _ => 0)) := (congrFun e_f71 qms).trans (z_up_ne (Ne.symm ne_me_qms) hf_qms)
  have hf_qmg : f71 qmg = .inl (cy 1, 180, .inl (fun _ => 0)) := (congrFun e_f71 qmg).trans (z_up_ne (Ne.symm ne_me_qmg) hf_qmg)
  have hf_qmd : f71 qmd = .inl (cy 1, 520, .inl (fun _ => 0)) := (congrFun e_f71 qmd).trans (z_up_ne (Ne.symm ne_me_qmd) hf_qmd)
  have hf_qmk : f71 qmk = .inl (cy 3, 3, .inl (fun _ => 0)) := (congrFun e_f71 qmk).trans (z_up_ne (Ne.symm ne_me_qmk) hf_qmk)
  have hf_qz45 : f71 qz45 = .inl (cy 1, 12, .inl (fun _ => 0)) := (congrFun e_f71 qz45).trans (z_up_ne (Ne.symm ne_me_qz45) hf_qz45)
  have hf_me : f71 me = .inr (10, [.int 0, .ref qmw, .ref qmn, .ref qmc, .ref qmv, .ref qmt, .int 0, .int 0, .int 0, .int 0, .int 0, .long 0, .int 0, .int 0, .int 0, .int (-1), .ref qml, .ref qmh, .ref qmj, .ref qms, .ref qmg, .ref qmd, .int 0, .ref qmk, .int (-1), .int 0, .long 0, .int 0, .int 0, .ref qz29, .int 0, .ref qz31, .ref qz32, .ref qz33, .ref qz34, .ref qz35, .int 0, .ref qz37, .int 0, .ref qz39, .int 0, .int 0, .int 0, .ref qz43, .ref qz44, .ref qz45, .null, .null, .int 0, .null, .null, .null, .int 0, .int 0]) := (congrFun e_f71 me).trans z_up_self
  have hfr : ∀ b ∈ L, b ≠ me → f71 b = f b := fun b hb h0 => (congrFun e_f71 b).trans (z_up_ne h0 (hfr b hb h0))
  refine lv_aload_n hx hb dX10_init_197 rfl (lv_at hl 0 rfl) ?_
  refine lv_bipush (v := 12) hx hb dX10_init_198 (by decide) ?_
  refine z_newa (atype := .int) (n := 12) (N' := 12) (a0 := (12, .inl (fun _ => 0))) (cells := 23) (slots := 10624) hx hb (hT _ kw_203) rfl 1 rfl (fun _ h => by cases h) hK hw hA (fun _ => rfl) (by decide) (by decide) (by decide) (by decide) (by decide) dX10_init_200 (fun qz46 H hq_qz46 hw => ?_)
  refine W.widen (k := 24) (n := 10636) (by decide) (by decide) ?_
  have ne_me_qz46 : me ≠ qz46 := z_ne hm_me hq_qz46
  have ne_qmw_qz46 : qmw ≠ qz46 := z_ne hm_qmw hq_qz46
  have ne_qmn_qz46 : qmn ≠ qz46 := z_ne hm_qmn hq_qz46
  have ne_qmc_qz46 : qmc ≠ qz46 := z_ne hm_qmc hq_qz46
  have ne_qmv_qz46 : qmv ≠ qz46 := z_ne hm_qmv hq_qz46
  have ne_qmt_qz46 : qmt ≠ qz46 := z_ne hm_qmt hq_qz46
  have ne_qml_qz46 : qml ≠ qz46 := z_ne hm_qml hq_qz46
  have ne_qmh_qz46 : qmh ≠ qz46 := z_ne hm_qmh hq_qz46
  have ne_qmj_qz46 : qmj ≠ qz46 := z_ne hm_qmj hq_qz46
  have ne_qms_qz46 : qms ≠ qz46 := z_ne hm_qms hq_qz46
  have ne_qmg_qz46 : qmg ≠ qz46 := z_ne hm_qmg hq_qz46
  have ne_qmd_qz46 : qmd ≠ qz46 := z_ne hm_qmd hq_qz46
  have ne_qmk_qz46 : qmk ≠ qz46 := z_ne hm_qmk hq_qz46
  have hn_qz46 : qz46 ∉ L := fun h => hq_qz46 (hsub _ h)
  obtain ⟨f73, e_f73⟩ : ∃ z, z = va_up f71 qz46 (.inl (cy 1, 12, .inl (fun _ => 0))) := ⟨_, rfl⟩
  obtain ⟨L72, e_L72⟩ : ∃ z, z = L69 ++ [qz46] := ⟨_, rfl⟩
  rw [← e_f73, ← e_L72] at hw
  have hm_me : me ∈ L72 := by rw [e_L72]; exact List.mem_append_left _ hm_me
  have hf_me : f73 me = .inr (10, [.int 0, .ref qmw, .ref qmn, .ref qmc, .ref qmv, .ref qmt, .int 0, .int 0, .int 0, .int 0, .int 0, .long 0, .int 0, .int 0, .int 0, .int (-1), .ref qml, .ref qmh, .ref qmj, .ref qms, .ref qmg, .ref qmd, .int 0, .ref qmk, .int (-1), .int 0, .long 0, .int 0, .int 0, .ref qz29, .int 0, .ref qz31, .ref qz32, .ref qz33, .ref qz34, .ref qz35, .int 0, .ref qz37, .int 0, .ref qz39, .int 0, .int 0, .int 0, .ref qz43, .ref qz44, .ref qz45, .null, .null, .int 0, .null, .null, .null, .int 0, .int 0]) := (congrFun e_f73 me).trans (z_up_ne ne_me_qz46 hf_me)
  have hm_qmw : qmw ∈ L72 := by rw [e_L72]; exact List.mem_append_left _ hm_qmw
  have hf_qmw : f73 qmw = .inl (cy 1, 4, .inl (fun _ => 0)) := (congrFun e_f73 qmw).trans (z_up_ne ne_qmw_qz46 hf_qmw)
  have hm_qmn : qmn ∈ L72 := by rw [e_L72]; exact List.mem_append_left _ hm_qmn
  have hf_qmn : f73 qmn = .inl (cy 1, 4, .inl (fun _ => 0)) := (congrFun e_f73 qmn).trans (z_up_ne ne_qmn_qz46 hf_qmn)
  have hm_qmc : qmc ∈ L72 := by rw [e_L72]; exact List.mem_append_left _ hm_qmc
  have hf_qmc : f73 qmc = .inl (cy 2, 240, .inr (.inl (fun _ => 0))) := (congrFun e_f73 qmc).trans (z_up_ne ne_qmc_qz46 hf_qmc)
  have hm_qmv : qmv ∈ L72 := by rw [e_L72]; exact List.mem_append_left _ hm_qmv
  have hf_qmv : f73 qmv = .inl (cy 2, 60, .inr (.inl (fun _ => 0))) := (congrFun e_f73 qmv).trans (z_up_ne ne_qmv_qz46 hf_qmv)
  have hm_qmt : qmt ∈ L72 := by rw [e_L72]; exact List.mem_append_left _ hm_qmt
  have hf_qmt : f73 qmt = .inl (cy 0, 1600, .inl (fun _ => 0)) := (congrFun e_f73 qmt).trans (z_up_ne ne_qmt_qz46 hf_qmt)
  have hm_qml : qml ∈ L72 := by rw [e_L72]; exact List.mem_append_left _ hm_qml
  have hf_qml : f73 qml = .inl (cy 1, 5, .inl (fun _ => 0)) := (congrFun e_f73 qml).trans (z_up_ne ne_qml_qz46 hf_qml)
  have hm_qmh : qmh ∈ L72 := by rw [e_L72]; exact List.mem_append_left _ hm_qmh
  have hf_qmh : f73 qmh = .inl (cy 1, 30, .inl (fun _ => 0)) := (congrFun e_f73 qmh).trans (z_up_ne ne_qmh_qz46 hf_qmh)
  have hm_qmj : qmj ∈ L72 := by rw [e_L72]; exact List.mem_append_left _ hm_qmj
  have hf_qmj : f73 qmj = .inl (cy 1, 25, .inl (fun _ => 0)) := (congrFun e_f73 qmj).trans (z_up_ne ne_qmj_qz46 hf_qmj)
  have hm_qms : qms ∈ L72 := by rw [e_L72]; exact List.mem_append_left _ hm_qms
  have hf_qms : f73 qms = .inl (cy 1, 20, .inl (fun _ => 0)) := (congrFun e_f73 qms).trans (z_up_ne ne_qms_qz46 hf_qms)
  have hm_qmg : qmg ∈ L72 := by rw [e_L72]; exact List.mem_append_left _ hm_qmg
  have hf_qmg : f73 qmg = .inl (cy 1, 180, .inl (fun _ => 0)) := (congrFun e_f73 qmg).trans (z_up_ne ne_qmg_qz46 hf_qmg)
  have hm_qmd : qmd ∈ L72 := by rw [e_L72]; exact List.mem_append_left _ hm_qmd
  have hf_qmd : f73 qmd = .inl (cy 1, 520, .inl (fun _ => 0)) := (congrFun e_f73 qmd).trans (z_up_ne ne_qmd_qz46 hf_qmd)
  have hm_qmk : qmk ∈ L72 := by rw [e_L72]; exact List.mem_append_left _ hm_qmk
  have hf_qmk : f73 qmk = .inl (cy 3, 3, .inl (fun _ => 0)) := (congrFun e_f73 qmk).trans (z_up_ne ne_qmk_qz46 hf_qmk)
  have hm_qz46 : qz46 ∈ L72 := by rw [e_L72]; exact List.mem_append_right _ (List.mem_singleton.mpr rfl)
  have hf_qz46 : f73 qz46 = .inl (cy 1, 12, .inl (fun _ => 0)) := (congrFun e_f73 qz46).trans z_up_self
  have hsub : ∀ b ∈ L, b ∈ L72 := fun b h => by rw [e_L72]; exact List.mem_append_left _ (hsub b h)
  have hfr : ∀ b ∈ L, b ≠ me → f73 b = f b := fun b hb h0 => (congrFun e_f73 b).trans (z_up_ne (z_ne hb hn_qz46) (hfr b hb h0))
  refine z_putF (C := RX10) (T := TX10) (N := 54) (ci := 10) (v := .ref qz46) (fs' := [.int 0, .ref qmw, .ref qmn, .ref qmc, .ref qmv, .ref qmt, .int 0, .int 0, .int 0, .int 0, .int 0, .long 0, .int 0, .int 0, .int 0, .int (-1), .ref qml, .ref qmh, .ref qmj, .ref qms, .ref qmg, .ref qmd, .int 0, .ref qmk, .int (-1), .int 0, .long 0, .int 0, .int 0, .ref qz29, .int 0, .ref qz31, .ref qz32, .ref qz33, .ref qz34, .ref qz35, .int 0, .ref qz37, .int 0, .ref qz39, .int 0, .int 0, .int 0, .ref qz43, .ref qz44, .ref qz45, .ref qz46, .null, .int 0, .null, .null, .null, .int 0, .int 0]) hx hb hT zin_X10 tyX10_ok nmX10 hown hK hw hm_me hf_me rfl 46 (by decide) (hT _ kw_1214) rfl hnm rfl rfl rfl (Nat.le_of_ble_eq_true rfl) rfl dX10_init_202 (fun H locs hw => ?_)
  obtain ⟨f74, e_f74⟩ : ∃ z, z = va_up f73 me (.inr (10, [.int 0, .ref qmw, .ref qmn, .ref qmc, .ref qmv, .ref qmt, .int 0, .int 0, .int 0, .int 0, .int 0, .long 0, .int 0, .int 0, .int 0, .int (-1), .ref qml, .ref qmh, .ref qmj, .ref qms, .ref qmg, .ref qmd, .int 0, .ref qmk, .int (-1), .int 0, .long 0, .int 0, .int 0, .ref qz29, .int 0, .ref qz31, .ref qz32, .ref qz33, .ref qz34, .ref qz35, .int 0, .ref qz37, .int 0, .ref qz39, .int 0, .int 0, .int 0, .ref qz43, .ref qz44, .ref qz45, .ref qz46, .null, .int 0, .null, .null, .null, .int 0, .int 0])) := ⟨_, rfl⟩
  rw [← e_f74] at hw
  have hf_qmw : f74 qmw = .inl (cy 1, 4, .inl (fun _ => 0)) := (congrFun e_f74 qmw).trans (z_up_ne (Ne.symm ne_me_qmw) hf_qmw)
  have hf_qmn : f74 qmn = .inl (cy 1, 4, .inl (fun _ => 0)) := (congrFun e_f74 qmn).trans (z_up_ne (Ne.symm ne_me_qmn) hf_qmn)
  have hf_qmc : f74 qmc = .inl (cy 2, 240, .inr (.inl (fun _ => 0))) := (congrFun e_f74 qmc).trans (z_up_ne (Ne.symm ne_me_qmc) hf_qmc)
  have hf_qmv : f74 qmv = .inl (cy 2, 60, .inr (.inl (fun _ => 0))) := (congrFun e_f74 qmv).trans (z_up_ne (Ne.symm ne_me_qmv) hf_qmv)
  have hf_qmt : f74 qmt = .inl (cy 0, 1600, .inl (fun _ => 0)) := (congrFun e_f74 qmt).trans (z_up_ne (Ne.symm ne_me_qmt) hf_qmt)
  have hf_qml : f74 qml = .inl (cy 1, 5, .inl (fun _ => 0)) := (congrFun e_f74 qml).trans (z_up_ne (Ne.symm ne_me_qml) hf_qml)
  have hf_qmh : f74 qmh = .inl (cy 1, 30, .inl (fun _ => 0)) := (congrFun e_f74 qmh).trans (z_up_ne (Ne.symm ne_me_qmh) hf_qmh)
  have hf_qmj : f74 qmj = .inl (cy 1, 25, .inl (fun _ => 0)) := (congrFun e_f74 qmj).trans (z_up_ne (Ne.symm ne_me_qmj) hf_qmj)
  have hf_qms : f74 qms = .inl (cy 1, 20, .inl (fun _ => 0)) := (congrFun e_f74 qms).trans (z_up_ne (Ne.symm ne_me_qms) hf_qms)
  have hf_qmg : f74 qmg = .inl (cy 1, 180, .inl (fun _ => 0)) := (congrFun e_f74 qmg).trans (z_up_ne (Ne.symm ne_me_qmg) hf_qmg)
  have hf_qmd : f74 qmd = .inl (cy 1, 520, .inl (fun _ => 0)) := (congrFun e_f74 qmd).trans (z_up_ne (Ne.symm ne_me_qmd) hf_qmd)
  have hf_qmk : f74 qmk = .inl (cy 3, 3, .inl (fun _ => 0)) := (congrFun e_f74 qmk).trans (z_up_ne (Ne.symm ne_me_qmk) hf_qmk)
  have hf_qz46 : f74 qz46 = .inl (cy 1, 12, .inl (fun _ => 0)) := (congrFun e_f74 qz46).trans (z_up_ne (Ne.symm ne_me_qz46) hf_qz46)
  have hf_me : f74 me = .inr (10, [.int 0, .ref qmw, .ref qmn, .ref qmc, .ref qmv, .ref qmt, .int 0, .int 0, .int 0, .int 0, .int 0, .long 0, .int 0, .int 0, .int 0, .int (-1), .ref qml, .ref qmh, .ref qmj, .ref qms, .ref qmg, .ref qmd, .int 0, .ref qmk, .int (-1), .int 0, .long 0, .int 0, .int 0, .ref qz29, .int 0, .ref qz31, .ref qz32, .ref qz33, .ref qz34, .ref qz35, .int 0, .ref qz37, .int 0, .ref qz39, .int 0, .int 0, .int 0, .ref qz43, .ref qz44, .ref qz45, .ref qz46, .null, .int 0, .null, .null, .null, .int 0, .int 0]) := (congrFun e_f74 me).trans z_up_self
  have hfr : ∀ b ∈ L, b ≠ me → f74 b = f b := fun b hb h0 => (congrFun e_f74 b).trans (z_up_ne h0 (hfr b hb h0))
  refine lv_aload_n hx hb dX10_init_205 rfl (lv_at hl 0 rfl) ?_
  refine lv_bipush (v := 13) hx hb dX10_init_206 (by decide) ?_
  refine z_newa (atype := .int) (n := 13) (N' := 13) (a0 := (13, .inl (fun _ => 0))) (cells := 24) (slots := 10636) hx hb (hT _ kw_203) rfl 1 rfl (fun _ h => by cases h) hK hw hA (fun _ => rfl) (by decide) (by decide) (by decide) (by decide) (by decide) dX10_init_208 (fun qz47 H hq_qz47 hw => ?_)
  refine W.widen (k := 25) (n := 10649) (by decide) (by decide) ?_
  have ne_me_qz47 : me ≠ qz47 := z_ne hm_me hq_qz47
  have ne_qmw_qz47 : qmw ≠ qz47 := z_ne hm_qmw hq_qz47
  have ne_qmn_qz47 : qmn ≠ qz47 := z_ne hm_qmn hq_qz47
  have ne_qmc_qz47 : qmc ≠ qz47 := z_ne hm_qmc hq_qz47
  have ne_qmv_qz47 : qmv ≠ qz47 := z_ne hm_qmv hq_qz47
  have ne_qmt_qz47 : qmt ≠ qz47 := z_ne hm_qmt hq_qz47
  have ne_qml_qz47 : qml ≠ qz47 := z_ne hm_qml hq_qz47
  have ne_qmh_qz47 : qmh ≠ qz47 := z_ne hm_qmh hq_qz47
  have ne_qmj_qz47 : qmj ≠ qz47 := z_ne hm_qmj hq_qz47
  have ne_qms_qz47 : qms ≠ qz47 := z_ne hm_qms hq_qz47
  have ne_qmg_qz47 : qmg ≠ qz47 := z_ne hm_qmg hq_qz47
  have ne_qmd_qz47 : qmd ≠ qz47 := z_ne hm_qmd hq_qz47
  have ne_qmk_qz47 : qmk ≠ qz47 := z_ne hm_qmk hq_qz47
  have hn_qz47 : qz47 ∉ L := fun h => hq_qz47 (hsub _ h)
  obtain ⟨f76, e_f76⟩ : ∃ z, z = va_up f74 qz47 (.inl (cy 1, 13, .inl (fun _ => 0))) := ⟨_, rfl⟩
  obtain ⟨L75, e_L75⟩ : ∃ z, z = L72 ++ [qz47] := ⟨_, rfl⟩
  rw [← e_f76, ← e_L75] at hw
  have hm_me : me ∈ L75 := by rw [e_L75]; exact List.mem_append_left _ hm_me
  have hf_me : f76 me = .inr (10, [.int 0, .ref qmw, .ref qmn, .ref qmc, .ref qmv, .ref qmt, .int 0, .int 0, .int 0, .int 0, .int 0, .long 0, .int 0, .int 0, .int 0, .int (-1), .ref qml, .ref qmh, .ref qmj, .ref qms, .ref qmg, .ref qmd, .int 0, .ref qmk, .int (-1), .int 0, .long 0, .int 0, .int 0, .ref qz29, .int 0, .ref qz31, .ref qz32, .ref qz33, .ref qz34, .ref qz35, .int 0, .ref qz37, .int 0, .ref qz39, .int 0, .int 0, .int 0, .ref qz43, .ref qz44, .ref qz45, .ref qz46, .null, .int 0, .null, .null, .null, .int 0, .int 0]) := (congrFun e_f76 me).trans (z_up_ne ne_me_qz47 hf_me)
  have hm_qmw : qmw ∈ L75 := by rw [e_L75]; exact List.mem_append_left _ hm_qmw
  have hf_qmw : f76 qmw = .inl (cy 1, 4, .inl (fun _ => 0)) := (congrFun e_f76 qmw).trans (z_up_ne ne_qmw_qz47 hf_qmw)
  have hm_qmn : qmn ∈ L75 := by rw [e_L75]; exact List.mem_append_left _ hm_qmn
  have hf_qmn : f76 qmn = .inl (cy 1, 4, .inl (fun _ => 0)) := (congrFun e_f76 qmn).trans (z_up_ne ne_qmn_qz47 hf_qmn)
  have hm_qmc : qmc ∈ L75 := by rw [e_L75]; exact List.mem_append_left _ hm_qmc
  have hf_qmc : f76 qmc = .inl (cy 2, 240, .inr (.inl (fun _ => 0))) := (congrFun e_f76 qmc).trans (z_up_ne ne_qmc_qz47 hf_qmc)
  have hm_qmv : qmv ∈ L75 := by rw [e_L75]; exact List.mem_append_left _ hm_qmv
  have hf_qmv : f76 qmv = .inl (cy 2, 60, .inr (.inl (fun _ => 0))) := (congrFun e_f76 qmv).trans (z_up_ne ne_qmv_qz47 hf_qmv)
  have hm_qmt : qmt ∈ L75 := by rw [e_L75]; exact List.mem_append_left _ hm_qmt
  have hf_qmt : f76 qmt = .inl (cy 0, 1600, .inl (fun _ => 0)) := (congrFun e_f76 qmt).trans (z_up_ne ne_qmt_qz47 hf_qmt)
  have hm_qml : qml ∈ L75 := by rw [e_L75]; exact List.mem_append_left _ hm_qml
  have hf_qml : f76 qml = .inl (cy 1, 5, .inl (fun _ => 0)) := (congrFun e_f76 qml).trans (z_up_ne ne_qml_qz47 hf_qml)
  have hm_qmh : qmh ∈ L75 := by rw [e_L75]; exact List.mem_append_left _ hm_qmh
  have hf_qmh : f76 qmh = .inl (cy 1, 30, .inl (fun _ => 0)) := (congrFun e_f76 qmh).trans (z_up_ne ne_qmh_qz47 hf_qmh)
  have hm_qmj : qmj ∈ L75 := by rw [e_L75]; exact List.mem_append_left _ hm_qmj
  have hf_qmj : f76 qmj = .inl (cy 1, 25, .inl (fun _ => 0)) := (congrFun e_f76 qmj).trans (z_up_ne ne_qmj_qz47 hf_qmj)
  have hm_qms : qms ∈ L75 := by rw [e_L75]; exact List.mem_append_left _ hm_qms
  have hf_qms : f76 qms = .inl (cy 1, 20, .inl (fun _ => 0)) := (congrFun e_f76 qms).trans (z_up_ne ne_qms_qz47 hf_qms)
  have hm_qmg : qmg ∈ L75 := by rw [e_L75]; exact List.mem_append_left _ hm_qmg
  have hf_qmg : f76 qmg = .inl (cy 1, 180, .inl (fun _ => 0)) := (congrFun e_f76 qmg).trans (z_up_ne ne_qmg_qz47 hf_qmg)
  have hm_qmd : qmd ∈ L75 := by rw [e_L75]; exact List.mem_append_left _ hm_qmd
  have hf_qmd : f76 qmd = .inl (cy 1, 520, .inl (fun _ => 0)) := (congrFun e_f76 qmd).trans (z_up_ne ne_qmd_qz47 hf_qmd)
  have hm_qmk : qmk ∈ L75 := by rw [e_L75]; exact List.mem_append_left _ hm_qmk
  have hf_qmk : f76 qmk = .inl (cy 3, 3, .inl (fun _ => 0)) := (congrFun e_f76 qmk).trans (z_up_ne ne_qmk_qz47 hf_qmk)
  have hm_qz47 : qz47 ∈ L75 := by rw [e_L75]; exact List.mem_append_right _ (List.mem_singleton.mpr rfl)
  have hf_qz47 : f76 qz47 = .inl (cy 1, 13, .inl (fun _ => 0)) := (congrFun e_f76 qz47).trans z_up_self
  have hsub : ∀ b ∈ L, b ∈ L75 := fun b h => by rw [e_L75]; exact List.mem_append_left _ (hsub b h)
  have hfr : ∀ b ∈ L, b ≠ me → f76 b = f b := fun b hb h0 => (congrFun e_f76 b).trans (z_up_ne (z_ne hb hn_qz47) (hfr b hb h0))
  refine z_putF (C := RX10) (T := TX10) (N := 54) (ci := 10) (v := .ref qz47) (fs' := [.int 0, .ref qmw, .ref qmn, .ref qmc, .ref qmv, .ref qmt, .int 0, .int 0, .int 0, .int 0, .int 0, .long 0, .int 0, .int 0, .int 0, .int (-1), .ref qml, .ref qmh, .ref qmj, .ref qms, .ref qmg, .ref qmd, .int 0, .ref qmk, .int (-1), .int 0, .long 0, .int 0, .int 0, .ref qz29, .int 0, .ref qz31, .ref qz32, .ref qz33, .ref qz34, .ref qz35, .int 0, .ref qz37, .int 0, .ref qz39, .int 0, .int 0, .int 0, .ref qz43, .ref qz44, .ref qz45, .ref qz46, .ref qz47, .int 0, .null, .null, .null, .int 0, .int 0]) hx hb hT zin_X10 tyX10_ok nmX10 hown hK hw hm_me hf_me rfl 47 (by decide) (hT _ kw_1215) rfl hnm rfl rfl rfl (Nat.le_of_ble_eq_true rfl) rfl dX10_init_210 (fun H locs hw => ?_)
  obtain ⟨f77, e_f77⟩ : ∃ z, z = va_up f76 me (.inr (10, [.int 0, .ref qmw, .ref qmn, .ref qmc, .ref qmv, .ref qmt, .int 0, .int 0, .int 0, .int 0, .int 0, .long 0, .int 0, .int 0, .int 0, .int (-1), .ref qml, .ref qmh, .ref qmj, .ref qms, .ref qmg, .ref qmd, .int 0, .ref qmk, .int (-1), .int 0, .long 0, .int 0, .int 0, .ref qz29, .int 0, .ref qz31, .ref qz32, .ref qz33, .ref qz34, .ref qz35, .int 0, .ref qz37, .int 0, .ref qz39, .int 0, .int 0, .int 0, .ref qz43, .ref qz44, .ref qz45, .ref qz46, .ref qz47, .int 0, .null, .null, .null, .int 0, .int 0])) := ⟨_, rfl⟩
  rw [← e_f77] at hw
  have hf_qmw : f77 qmw = .inl (cy 1, 4, .inl (fun _ => 0)) := (congrFun e_f77 qmw).trans (z_up_ne (Ne.symm ne_me_qmw) hf_qmw)
  have hf_qmn : f77 qmn = .inl (cy 1, 4, .inl (fun _ => 0)) := (congrFun e_f77 qmn).trans (z_up_ne (Ne.symm ne_me_qmn) hf_qmn)
  have hf_qmc : f77 qmc = .inl (cy 2, 240, .inr (.inl (fun _ => 0))) := (congrFun e_f77 qmc).trans (z_up_ne (Ne.symm ne_me_qmc) hf_qmc)
  have hf_qmv : f77 qmv = .inl (cy 2, 60, .inr (.inl (fun _ => 0))) := (congrFun e_f77 qmv).trans (z_up_ne (Ne.symm ne_me_qmv) hf_qmv)
  have hf_qmt : f77 qmt = .inl (cy 0, 1600, .inl (fun _ => 0)) := (congrFun e_f77 qmt).trans (z_up_ne (Ne.symm ne_me_qmt) hf_qmt)
  have hf_qml : f77 qml = .inl (cy 1, 5, .inl (fun _ => 0)) := (congrFun e_f77 qml).trans (z_up_ne (Ne.symm ne_me_qml) hf_qml)
  have hf_qmh : f77 qmh = .inl (cy 1, 30, .inl (fun _ => 0)) := (congrFun e_f77 qmh).trans (z_up_ne (Ne.symm ne_me_qmh) hf_qmh)
  have hf_qmj : f77 qmj = .inl (cy 1, 25, .inl (fun _ => 0)) := (congrFun e_f77 qmj).trans (z_up_ne (Ne.symm ne_me_qmj) hf_qmj)
  have hf_qms : f77 qms = .inl (cy 1, 20, .inl (fun _ => 0)) := (congrFun e_f77 qms).trans (z_up_ne (Ne.symm ne_me_qms) hf_qms)
  have hf_qmg : f77 qmg = .inl (cy 1, 180, .inl (fun _ => 0)) := (congrFun e_f77 qmg).trans (z_up_ne (Ne.symm ne_me_qmg) hf_qmg)
  have hf_qmd : f77 qmd = .inl (cy 1, 520, .inl (fun _ => 0)) := (congrFun e_f77 qmd).trans (z_up_ne (Ne.symm ne_me_qmd) hf_qmd)
  have hf_qmk : f77 qmk = .inl (cy 3, 3, .inl (fun _ => 0)) := (congrFun e_f77 qmk).trans (z_up_ne (Ne.symm ne_me_qmk) hf_qmk)
  have hf_qz47 : f77 qz47 = .inl (cy 1, 13, .inl (fun _ => 0)) := (congrFun e_f77 qz47).trans (z_up_ne (Ne.symm ne_me_qz47) hf_qz47)
  have hf_me : f77 me = .inr (10, [.int 0, .ref qmw, .ref qmn, .ref qmc, .ref qmv, .ref qmt, .int 0, .int 0, .int 0, .int 0, .int 0, .long 0, .int 0, .int 0, .int 0, .int (-1), .ref qml, .ref qmh, .ref qmj, .ref qms, .ref qmg, .ref qmd, .int 0, .ref qmk, .int (-1), .int 0, .long 0, .int 0, .int 0, .ref qz29, .int 0, .ref qz31, .ref qz32, .ref qz33, .ref qz34, .ref qz35, .int 0, .ref qz37, .int 0, .ref qz39, .int 0, .int 0, .int 0, .ref qz43, .ref qz44, .ref qz45, .ref qz46, .ref qz47, .int 0, .null, .null, .null, .int 0, .int 0]) := (congrFun e_f77 me).trans z_up_self
  have hfr : ∀ b ∈ L, b ≠ me → f77 b = f b := fun b hb h0 => (congrFun e_f77 b).trans (z_up_ne h0 (hfr b hb h0))
  refine lv_aload_n hx hb dX10_init_213 rfl (lv_at hl 0 rfl) ?_
  refine lv_bipush (v := 6) hx hb dX10_init_214 (by decide) ?_
  refine z_newa (atype := .int) (n := 6) (N' := 6) (a0 := (6, .inl (fun _ => 0))) (cells := 25) (slots := 10649) hx hb (hT _ kw_203) rfl 1 rfl (fun _ h => by cases h) hK hw hA (fun _ => rfl) (by decide) (by decide) (by decide) (by decide) (by decide) dX10_init_216 (fun qz49 H hq_qz49 hw => ?_)
  refine W.widen (k := 26) (n := 10655) (by decide) (by decide) ?_
  have ne_me_qz49 : me ≠ qz49 := z_ne hm_me hq_qz49
  have ne_qmw_qz49 : qmw ≠ qz49 := z_ne hm_qmw hq_qz49
  have ne_qmn_qz49 : qmn ≠ qz49 := z_ne hm_qmn hq_qz49
  have ne_qmc_qz49 : qmc ≠ qz49 := z_ne hm_qmc hq_qz49
  have ne_qmv_qz49 : qmv ≠ qz49 := z_ne hm_qmv hq_qz49
  have ne_qmt_qz49 : qmt ≠ qz49 := z_ne hm_qmt hq_qz49
  have ne_qml_qz49 : qml ≠ qz49 := z_ne hm_qml hq_qz49
  have ne_qmh_qz49 : qmh ≠ qz49 := z_ne hm_qmh hq_qz49
  have ne_qmj_qz49 : qmj ≠ qz49 := z_ne hm_qmj hq_qz49
  have ne_qms_qz49 : qms ≠ qz49 := z_ne hm_qms hq_qz49
  have ne_qmg_qz49 : qmg ≠ qz49 := z_ne hm_qmg hq_qz49
  have ne_qmd_qz49 : qmd ≠ qz49 := z_ne hm_qmd hq_qz49
  have ne_qmk_qz49 : qmk ≠ qz49 := z_ne hm_qmk hq_qz49
  have hn_qz49 : qz49 ∉ L := fun h => hq_qz49 (hsub _ h)
  obtain ⟨f79, e_f79⟩ : ∃ z, z = va_up f77 qz49 (.inl (cy 1, 6, .inl (fun _ => 0))) := ⟨_, rfl⟩
  obtain ⟨L78, e_L78⟩ : ∃ z, z = L75 ++ [qz49] := ⟨_, rfl⟩
  rw [← e_f79, ← e_L78] at hw
  have hm_me : me ∈ L78 := by rw [e_L78]; exact List.mem_append_left _ hm_me
  have hf_me : f79 me = .inr (10, [.int 0, .ref qmw, .ref qmn, .ref qmc, .ref qmv, .ref qmt, .int 0, .int 0, .int 0, .int 0, .int 0, .long 0, .int 0, .int 0, .int 0, .int (-1), .ref qml, .ref qmh, .ref qmj, .ref qms, .ref qmg, .ref qmd, .int 0, .ref qmk, .int (-1), .int 0, .long 0, .int 0, .int 0, .ref qz29, .int 0, .ref qz31, .ref qz32, .ref qz33, .ref qz34, .ref qz35, .int 0, .ref qz37, .int 0, .ref qz39, .int 0, .int 0, .int 0, .ref qz43, .ref qz44, .ref qz45, .ref qz46, .ref qz47, .int 0, .null, .null, .null, .int 0, .int 0]) := (congrFun e_f79 me).trans (z_up_ne ne_me_qz49 hf_me)
  have hm_qmw : qmw ∈ L78 := by rw [e_L78]; exact List.mem_append_left _ hm_qmw
  have hf_qmw : f79 qmw = .inl (cy 1, 4, .inl (fun _ => 0)) := (congrFun e_f79 qmw).trans (z_up_ne ne_qmw_qz49 hf_qmw)
  have hm_qmn : qmn ∈ L78 := by rw [e_L78]; exact List.mem_append_left _ hm_qmn
  have hf_qmn : f79 qmn = .inl (cy 1, 4, .inl (fun _ => 0)) := (congrFun e_f79 qmn).trans (z_up_ne ne_qmn_qz49 hf_qmn)
  have hm_qmc : qmc ∈ L78 := by rw [e_L78]; exact List.mem_append_left _ hm_qmc
  have hf_qmc : f79 qmc = .inl (cy 2, 240, .inr (.inl (fun _ => 0))) := (congrFun e_f79 qmc).trans (z_up_ne ne_qmc_qz49 hf_qmc)
  have hm_qmv : qmv ∈ L78 := by rw [e_L78]; exact List.mem_append_left _ hm_qmv
  have hf_qmv : f79 qmv = .inl (cy 2, 60, .inr (.inl (fun _ => 0))) := (congrFun e_f79 qmv).trans (z_up_ne ne_qmv_qz49 hf_qmv)
  have hm_qmt : qmt ∈ L78 := by rw [e_L78]; exact List.mem_append_left _ hm_qmt
  have hf_qmt : f79 qmt = .inl (cy 0, 1600, .inl (fun _ => 0)) := (congrFun e_f79 qmt).trans (z_up_ne ne_qmt_qz49 hf_qmt)
  have hm_qml : qml ∈ L78 := by rw [e_L78]; exact List.mem_append_left _ hm_qml
  have hf_qml : f79 qml = .inl (cy 1, 5, .inl (fun _ => 0)) := (congrFun e_f79 qml).trans (z_up_ne ne_qml_qz49 hf_qml)
  have hm_qmh : qmh ∈ L78 := by rw [e_L78]; exact List.mem_append_left _ hm_qmh
  have hf_qmh : f79 qmh = .inl (cy 1, 30, .inl (fun _ => 0)) := (congrFun e_f79 qmh).trans (z_up_ne ne_qmh_qz49 hf_qmh)
  have hm_qmj : qmj ∈ L78 := by rw [e_L78]; exact List.mem_append_left _ hm_qmj
  have hf_qmj : f79 qmj = .inl (cy 1, 25, .inl (fun _ => 0)) := (congrFun e_f79 qmj).trans (z_up_ne ne_qmj_qz49 hf_qmj)
  have hm_qms : qms ∈ L78 := by rw [e_L78]; exact List.mem_append_left _ hm_qms
  have hf_qms : f79 qms = .inl (cy 1, 20, .inl (fun _ => 0)) := (congrFun e_f79 qms).trans (z_up_ne ne_qms_qz49 hf_qms)
  have hm_qmg : qmg ∈ L78 := by rw [e_L78]; exact List.mem_append_left _ hm_qmg
  have hf_qmg : f79 qmg = .inl (cy 1, 180, .inl (fun _ => 0)) := (congrFun e_f79 qmg).trans (z_up_ne ne_qmg_qz49 hf_qmg)
  have hm_qmd : qmd ∈ L78 := by rw [e_L78]; exact List.mem_append_left _ hm_qmd
  have hf_qmd : f79 qmd = .inl (cy 1, 520, .inl (fun _ => 0)) := (congrFun e_f79 qmd).trans (z_up_ne ne_qmd_qz49 hf_qmd)
  have hm_qmk : qmk ∈ L78 := by rw [e_L78]; exact List.mem_append_left _ hm_qmk
  have hf_qmk : f79 qmk = .inl (cy 3, 3, .inl (fun _ => 0)) := (congrFun e_f79 qmk).trans (z_up_ne ne_qmk_qz49 hf_qmk)
  have hm_qz49 : qz49 ∈ L78 := by rw [e_L78]; exact List.mem_append_right _ (List.mem_singleton.mpr rfl)
  have hf_qz49 : f79 qz49 = .inl (cy 1, 6, .inl (fun _ => 0)) := (congrFun e_f79 qz49).trans z_up_self
  have hsub : ∀ b ∈ L, b ∈ L78 := fun b h => by rw [e_L78]; exact List.mem_append_left _ (hsub b h)
  have hfr : ∀ b ∈ L, b ≠ me → f79 b = f b := fun b hb h0 => (congrFun e_f79 b).trans (z_up_ne (z_ne hb hn_qz49) (hfr b hb h0))
  refine z_putF (C := RX10) (T := TX10) (N := 54) (ci := 10) (v := .ref qz49) (fs' := [.int 0, .ref qmw, .ref qmn, .ref qmc, .ref qmv, .ref qmt, .int 0, .int 0, .int 0, .int 0, .int 0, .long 0, .int 0, .int 0, .int 0, .int (-1), .ref qml, .ref qmh, .ref qmj, .ref qms, .ref qmg, .ref qmd, .int 0, .ref qmk, .int (-1), .int 0, .long 0, .int 0, .int 0, .ref qz29, .int 0, .ref qz31, .ref qz32, .ref qz33, .ref qz34, .ref qz35, .int 0, .ref qz37, .int 0, .ref qz39, .int 0, .int 0, .int 0, .ref qz43, .ref qz44, .ref qz45, .ref qz46, .ref qz47, .int 0, .ref qz49, .null, .null, .int 0, .int 0]) hx hb hT zin_X10 tyX10_ok nmX10 hown hK hw hm_me hf_me rfl 49 (by decide) (hT _ kw_1217) rfl hnm rfl rfl rfl (Nat.le_of_ble_eq_true rfl) rfl dX10_init_218 (fun H locs hw => ?_)
  obtain ⟨f80, e_f80⟩ : ∃ z, z = va_up f79 me (.inr (10, [.int 0, .ref qmw, .ref qmn, .ref qmc, .ref qmv, .ref qmt, .int 0, .int 0, .int 0, .int 0, .int 0, .long 0, .int 0, .int 0, .int 0, .int (-1), .ref qml, .ref qmh, .ref qmj, .ref qms, .ref qmg, .ref qmd, .int 0, .ref qmk, .int (-1), .int 0, .long 0, .int 0, .int 0, .ref qz29, .int 0, .ref qz31, .ref qz32, .ref qz33, .ref qz34, .ref qz35, .int 0, .ref qz37, .int 0, .ref qz39, .int 0, .int 0, .int 0, .ref qz43, .ref qz44, .ref qz45, .ref qz46, .ref qz47, .int 0, .ref qz49, .null, .null, .int 0, .int 0])) := ⟨_, rfl⟩
  rw [← e_f80] at hw
  have hf_qmw : f80 qmw = .inl (cy 1, 4, .inl (fun _ => 0)) := (congrFun e_f80 qmw).trans (z_up_ne (Ne.symm ne_me_qmw) hf_qmw)
  have hf_qmn : f80 qmn = .inl (cy 1, 4, .inl (fun _ => 0)) := (congrFun e_f80 qmn).trans (z_up_ne (Ne.symm ne_me_qmn) hf_qmn)
  have hf_qmc : f80 qmc = .inl (cy 2, 240, .inr (.inl (fun _ => 0))) := (congrFun e_f80 qmc).trans (z_up_ne (Ne.symm ne_me_qmc) hf_qmc)
  have hf_qmv : f80 qmv = .inl (cy 2, 60, .inr (.inl (fun _ => 0))) := (congrFun e_f80 qmv).trans (z_up_ne (Ne.symm ne_me_qmv) hf_qmv)
  have hf_qmt : f80 qmt = .inl (cy 0, 1600, .inl (fun _ => 0)) := (congrFun e_f80 qmt).trans (z_up_ne (Ne.symm ne_me_qmt) hf_qmt)
  have hf_qml : f80 qml = .inl (cy 1, 5, .inl (fun _ => 0)) := (congrFun e_f80 qml).trans (z_up_ne (Ne.symm ne_me_qml) hf_qml)
  have hf_qmh : f80 qmh = .inl (cy 1, 30, .inl (fun _ => 0)) := (congrFun e_f80 qmh).trans (z_up_ne (Ne.symm ne_me_qmh) hf_qmh)
  have hf_qmj : f80 qmj = .inl (cy 1, 25, .inl (fun _ => 0)) := (congrFun e_f80 qmj).trans (z_up_ne (Ne.symm ne_me_qmj) hf_qmj)
  have hf_qms : f80 qms = .inl (cy 1, 20, .inl (fun _ => 0)) := (congrFun e_f80 qms).trans (z_up_ne (Ne.symm ne_me_qms) hf_qms)
  have hf_qmg : f80 qmg = .inl (cy 1, 180, .inl (fun _ => 0)) := (congrFun e_f80 qmg).trans (z_up_ne (Ne.symm ne_me_qmg) hf_qmg)
  have hf_qmd : f80 qmd = .inl (cy 1, 520, .inl (fun _ => 0)) := (congrFun e_f80 qmd).trans (z_up_ne (Ne.symm ne_me_qmd) hf_qmd)
  have hf_qmk : f80 qmk = .inl (cy 3, 3, .inl (fun _ => 0)) := (congrFun e_f80 qmk).trans (z_up_ne (Ne.symm ne_me_qmk) hf_qmk)
  have hf_qz49 : f80 qz49 = .inl (cy 1, 6, .inl (fun _ => 0)) := (congrFun e_f80 qz49).trans (z_up_ne (Ne.symm ne_me_qz49) hf_qz49)
  have hf_me : f80 me = .inr (10, [.int 0, .ref qmw, .ref qmn, .ref qmc, .ref qmv, .ref qmt, .int 0, .int 0, .int 0, .int 0, .int 0, .long 0, .int 0, .int 0, .int 0, .int (-1), .ref qml, .ref qmh, .ref qmj, .ref qms, .ref qmg, .ref qmd, .int 0, .ref qmk, .int (-1), .int 0, .long 0, .int 0, .int 0, .ref qz29, .int 0, .ref qz31, .ref qz32, .ref qz33, .ref qz34, .ref qz35, .int 0, .ref qz37, .int 0, .ref qz39, .int 0, .int 0, .int 0, .ref qz43, .ref qz44, .ref qz45, .ref qz46, .ref qz47, .int 0, .ref qz49, .null, .null, .int 0, .int 0]) := (congrFun e_f80 me).trans z_up_self
  have hfr : ∀ b ∈ L, b ≠ me → f80 b = f b := fun b hb h0 => (congrFun e_f80 b).trans (z_up_ne h0 (hfr b hb h0))
  refine lv_aload_n hx hb dX10_init_221 rfl (lv_at hl 0 rfl) ?_
  refine lv_bipush (v := 6) hx hb dX10_init_222 (by decide) ?_
  refine z_newa (atype := .int) (n := 6) (N' := 6) (a0 := (6, .inl (fun _ => 0))) (cells := 26) (slots := 10655) hx hb (hT _ kw_203) rfl 1 rfl (fun _ h => by cases h) hK hw hA (fun _ => rfl) (by decide) (by decide) (by decide) (by decide) (by decide) dX10_init_224 (fun qz50 H hq_qz50 hw => ?_)
  refine W.widen (k := 27) (n := 10661) (by decide) (by decide) ?_
  have ne_me_qz50 : me ≠ qz50 := z_ne hm_me hq_qz50
  have ne_qmw_qz50 : qmw ≠ qz50 := z_ne hm_qmw hq_qz50
  have ne_qmn_qz50 : qmn ≠ qz50 := z_ne hm_qmn hq_qz50
  have ne_qmc_qz50 : qmc ≠ qz50 := z_ne hm_qmc hq_qz50
  have ne_qmv_qz50 : qmv ≠ qz50 := z_ne hm_qmv hq_qz50
  have ne_qmt_qz50 : qmt ≠ qz50 := z_ne hm_qmt hq_qz50
  have ne_qml_qz50 : qml ≠ qz50 := z_ne hm_qml hq_qz50
  have ne_qmh_qz50 : qmh ≠ qz50 := z_ne hm_qmh hq_qz50
  have ne_qmj_qz50 : qmj ≠ qz50 := z_ne hm_qmj hq_qz50
  have ne_qms_qz50 : qms ≠ qz50 := z_ne hm_qms hq_qz50
  have ne_qmg_qz50 : qmg ≠ qz50 := z_ne hm_qmg hq_qz50
  have ne_qmd_qz50 : qmd ≠ qz50 := z_ne hm_qmd hq_qz50
  have ne_qmk_qz50 : qmk ≠ qz50 := z_ne hm_qmk hq_qz50
  have hn_qz50 : qz50 ∉ L := fun h => hq_qz50 (hsub _ h)
  obtain ⟨f82, e_f82⟩ : ∃ z, z = va_up f80 qz50 (.inl (cy 1, 6, .inl (fun _ => 0))) := ⟨_, rfl⟩
  obtain ⟨L81, e_L81⟩ : ∃ z, z = L78 ++ [qz50] := ⟨_, rfl⟩
  rw [← e_f82, ← e_L81] at hw
  have hm_me : me ∈ L81 := by rw [e_L81]; exact List.mem_append_left _ hm_me
  have hf_me : f82 me = .inr (10, [.int 0, .ref qmw, .ref qmn, .ref qmc, .ref qmv, .ref qmt, .int 0, .int 0, .int 0, .int 0, .int 0, .long 0, .int 0, .int 0, .int 0, .int (-1), .ref qml, .ref qmh, .ref qmj, .ref qms, .ref qmg, .ref qmd, .int 0, .ref qmk, .int (-1), .int 0, .long 0, .int 0, .int 0, .ref qz29, .int 0, .ref qz31, .ref qz32, .ref qz33, .ref qz34, .ref qz35, .int 0, .ref qz37, .int 0, .ref qz39, .int 0, .int 0, .int 0, .ref qz43, .ref qz44, .ref qz45, .ref qz46, .ref qz47, .int 0, .ref qz49, .null, .null, .int 0, .int 0]) := (congrFun e_f82 me).trans (z_up_ne ne_me_qz50 hf_me)
  have hm_qmw : qmw ∈ L81 := by rw [e_L81]; exact List.mem_append_left _ hm_qmw
  have hf_qmw : f82 qmw = .inl (cy 1, 4, .inl (fun _ => 0)) := (congrFun e_f82 qmw).trans (z_up_ne ne_qmw_qz50 hf_qmw)
  have hm_qmn : qmn ∈ L81 := by rw [e_L81]; exact List.mem_append_left _ hm_qmn
  have hf_qmn : f82 qmn = .inl (cy 1, 4, .inl (fun _ => 0)) := (congrFun e_f82 qmn).trans (z_up_ne ne_qmn_qz50 hf_qmn)
  have hm_qmc : qmc ∈ L81 := by rw [e_L81]; exact List.mem_append_left _ hm_qmc
  have hf_qmc : f82 qmc = .inl (cy 2, 240, .inr (.inl (fun _ => 0))) := (congrFun e_f82 qmc).trans (z_up_ne ne_qmc_qz50 hf_qmc)
  have hm_qmv : qmv ∈ L81 := by rw [e_L81]; exact List.mem_append_left _ hm_qmv
  have hf_qmv : f82 qmv = .inl (cy 2, 60, .inr (.inl (fun _ => 0))) := (congrFun e_f82 qmv).trans (z_up_ne ne_qmv_qz50 hf_qmv)
  have hm_qmt : qmt ∈ L81 := by rw [e_L81]; exact List.mem_append_left _ hm_qmt
  have hf_qmt : f82 qmt = .inl (cy 0, 1600, .inl (fun _ => 0)) := (congrFun e_f82 qmt).trans (z_up_ne ne_qmt_qz50 hf_qmt)
  have hm_qml : qml ∈ L81 := by rw [e_L81]; exact List.mem_append_left _ hm_qml
  have hf_qml : f82 qml = .inl (cy 1, 5, .inl (fun _ => 0)) := (congrFun e_f82 qml).trans (z_up_ne ne_qml_qz50 hf_qml)
  have hm_qmh : qmh ∈ L81 := by rw [e_L81]; exact List.mem_append_left _ hm_qmh
  have hf_qmh : f82 qmh = .inl (cy 1, 30, .inl (fun _ => 0)) := (congrFun e_f82 qmh).trans (z_up_ne ne_qmh_qz50 hf_qmh)
  have hm_qmj : qmj ∈ L81 := by rw [e_L81]; exact List.mem_append_left _ hm_qmj
  have hf_qmj : f82 qmj = .inl (cy 1, 25, .inl (fun _ => 0)) := (congrFun e_f82 qmj).trans (z_up_ne ne_qmj_qz50 hf_qmj)
  have hm_qms : qms ∈ L81 := by rw [e_L81]; exact List.mem_append_left _ hm_qms
  have hf_qms : f82 qms = .inl (cy 1, 20, .inl (fun _ => 0)) := (congrFun e_f82 qms).trans (z_up_ne ne_qms_qz50 hf_qms)
  have hm_qmg : qmg ∈ L81 := by rw [e_L81]; exact List.mem_append_left _ hm_qmg
  have hf_qmg : f82 qmg = .inl (cy 1, 180, .inl (fun _ => 0)) := (congrFun e_f82 qmg).trans (z_up_ne ne_qmg_qz50 hf_qmg)
  have hm_qmd : qmd ∈ L81 := by rw [e_L81]; exact List.mem_append_left _ hm_qmd
  have hf_qmd : f82 qmd = .inl (cy 1, 520, .inl (fun _ => 0)) := (congrFun e_f82 qmd).trans (z_up_ne ne_qmd_qz50 hf_qmd)
  have hm_qmk : qmk ∈ L81 := by rw [e_L81]; exact List.mem_append_left _ hm_qmk
  have hf_qmk : f82 qmk = .inl (cy 3, 3, .inl (fun _ => 0)) := (congrFun e_f82 qmk).trans (z_up_ne ne_qmk_qz50 hf_qmk)
  have hm_qz50 : qz50 ∈ L81 := by rw [e_L81]; exact List.mem_append_right _ (List.mem_singleton.mpr rfl)
  have hf_qz50 : f82 qz50 = .inl (cy 1, 6, .inl (fun _ => 0)) := (congrFun e_f82 qz50).trans z_up_self
  have hsub : ∀ b ∈ L, b ∈ L81 := fun b h => by rw [e_L81]; exact List.mem_append_left _ (hsub b h)
  have hfr : ∀ b ∈ L, b ≠ me → f82 b = f b := fun b hb h0 => (congrFun e_f82 b).trans (z_up_ne (z_ne hb hn_qz50) (hfr b hb h0))
  refine z_putF (C := RX10) (T := TX10) (N := 54) (ci := 10) (v := .ref qz50) (fs' := [.int 0, .ref qmw, .ref qmn, .ref qmc, .ref qmv, .ref qmt, .int 0, .int 0, .int 0, .int 0, .int 0, .long 0, .int 0, .int 0, .int 0, .int (-1), .ref qml, .ref qmh, .ref qmj, .ref qms, .ref qmg, .ref qmd, .int 0, .ref qmk, .int (-1), .int 0, .long 0, .int 0, .int 0, .ref qz29, .int 0, .ref qz31, .ref qz32, .ref qz33, .ref qz34, .ref qz35, .int 0, .ref qz37, .int 0, .ref qz39, .int 0, .int 0, .int 0, .ref qz43, .ref qz44, .ref qz45, .ref qz46, .ref qz47, .int 0, .ref qz49, .ref qz50, .null, .int 0, .int 0]) hx hb hT zin_X10 tyX10_ok nmX10 hown hK hw hm_me hf_me rfl 50 (by decide) (hT _ kw_1218) rfl hnm rfl rfl rfl (Nat.le_of_ble_eq_true rfl) rfl dX10_init_226 (fun H locs hw => ?_)
  obtain ⟨f83, e_f83⟩ : ∃ z, z = va_up f82 me (.inr (10, [.int 0, .ref qmw, .ref qmn, .ref qmc, .ref qmv, .ref qmt, .int 0, .int 0, .int 0, .int 0, .int 0, .long 0, .int 0, .int 0, .int 0, .int (-1), .ref qml, .ref qmh, .ref qmj, .ref qms, .ref qmg, .ref qmd, .int 0, .ref qmk, .int (-1), .int 0, .long 0, .int 0, .int 0, .ref qz29, .int 0, .ref qz31, .ref qz32, .ref qz33, .ref qz34, .ref qz35, .int 0, .ref qz37, .int 0, .ref qz39, .int 0, .int 0, .int 0, .ref qz43, .ref qz44, .ref qz45, .ref qz46, .ref qz47, .int 0, .ref qz49, .ref qz50, .null, .int 0, .int 0])) := ⟨_, rfl⟩
  rw [← e_f83] at hw
  have hf_qmw : f83 qmw = .inl (cy 1, 4, .inl (fun _ => 0)) := (congrFun e_f83 qmw).trans (z_up_ne (Ne.symm ne_me_qmw) hf_qmw)
  have hf_qmn : f83 qmn = .inl (cy 1, 4, .inl (fun _ => 0)) := (congrFun e_f83 qmn).trans (z_up_ne (Ne.symm ne_me_qmn) hf_qmn)
  have hf_qmc : f83 qmc = .inl (cy 2, 240, .inr (.inl (fun _ => 0))) := (congrFun e_f83 qmc).trans (z_up_ne (Ne.symm ne_me_qmc) hf_qmc)
  have hf_qmv : f83 qmv = .inl (cy 2, 60, .inr (.inl (fun _ => 0))) := (congrFun e_f83 qmv).trans (z_up_ne (Ne.symm ne_me_qmv) hf_qmv)
  have hf_qmt : f83 qmt = .inl (cy 0, 1600, .inl (fun _ => 0)) := (congrFun e_f83 qmt).trans (z_up_ne (Ne.symm ne_me_qmt) hf_qmt)
  have hf_qml : f83 qml = .inl (cy 1, 5, .inl (fun _ => 0)) := (congrFun e_f83 qml).trans (z_up_ne (Ne.symm ne_me_qml) hf_qml)
  have hf_qmh : f83 qmh = .inl (cy 1, 30, .inl (fun _ => 0)) := (congrFun e_f83 qmh).trans (z_up_ne (Ne.symm ne_me_qmh) hf_qmh)
  have hf_qmj : f83 qmj = .inl (cy 1, 25, .inl (fun _ => 0)) := (congrFun e_f83 qmj).trans (z_up_ne (Ne.symm ne_me_qmj) hf_qmj)
  have hf_qms : f83 qms = .inl (cy 1, 20, .inl (fun _ => 0)) := (congrFun e_f83 qms).trans (z_up_ne (Ne.symm ne_me_qms) hf_qms)
  have hf_qmg : f83 qmg = .inl (cy 1, 180, .inl (fun _ => 0)) := (congrFun e_f83 qmg).trans (z_up_ne (Ne.symm ne_me_qmg) hf_qmg)
  have hf_qmd : f83 qmd = .inl (cy 1, 520, .inl (fun _ => 0)) := (congrFun e_f83 qmd).trans (z_up_ne (Ne.symm ne_me_qmd) hf_qmd)
  have hf_qmk : f83 qmk = .inl (cy 3, 3, .inl (fun _ => 0)) := (congrFun e_f83 qmk).trans (z_up_ne (Ne.symm ne_me_qmk) hf_qmk)
  have hf_qz50 : f83 qz50 = .inl (cy 1, 6, .inl (fun _ => 0)) := (congrFun e_f83 qz50).trans (z_up_ne (Ne.symm ne_me_qz50) hf_qz50)
  have hf_me : f83 me = .inr (10, [.int 0, .ref qmw, .ref qmn, .ref qmc, .ref qmv, .ref qmt, .int 0, .int 0, .int 0, .int 0, .int 0, .long 0, .int 0, .int 0, .int 0, .int (-1), .ref qml, .ref qmh, .ref qmj, .ref qms, .ref qmg, .ref qmd, .int 0, .ref qmk, .int (-1), .int 0, .long 0, .int 0, .int 0, .ref qz29, .int 0, .ref qz31, .ref qz32, .ref qz33, .ref qz34, .ref qz35, .int 0, .ref qz37, .int 0, .ref qz39, .int 0, .int 0, .int 0, .ref qz43, .ref qz44, .ref qz45, .ref qz46, .ref qz47, .int 0, .ref qz49, .ref qz50, .null, .int 0, .int 0]) := (congrFun e_f83 me).trans z_up_self
  have hfr : ∀ b ∈ L, b ≠ me → f83 b = f b := fun b hb h0 => (congrFun e_f83 b).trans (z_up_ne h0 (hfr b hb h0))
  refine lv_aload_n hx hb dX10_init_229 rfl (lv_at hl 0 rfl) ?_
  refine lv_bipush (v := 13) hx hb dX10_init_230 (by decide) ?_
  refine z_newa (atype := .int) (n := 13) (N' := 13) (a0 := (13, .inl (fun _ => 0))) (cells := 27) (slots := 10661) hx hb (hT _ kw_203) rfl 1 rfl (fun _ h => by cases h) hK hw hA (fun _ => rfl) (by decide) (by decide) (by decide) (by decide) (by decide) dX10_init_232 (fun qz51 H hq_qz51 hw => ?_)
  refine W.widen (k := 28) (n := 10674) (by decide) (by decide) ?_
  have ne_me_qz51 : me ≠ qz51 := z_ne hm_me hq_qz51
  have ne_qmw_qz51 : qmw ≠ qz51 := z_ne hm_qmw hq_qz51
  have ne_qmn_qz51 : qmn ≠ qz51 := z_ne hm_qmn hq_qz51
  have ne_qmc_qz51 : qmc ≠ qz51 := z_ne hm_qmc hq_qz51
  have ne_qmv_qz51 : qmv ≠ qz51 := z_ne hm_qmv hq_qz51
  have ne_qmt_qz51 : qmt ≠ qz51 := z_ne hm_qmt hq_qz51
  have ne_qml_qz51 : qml ≠ qz51 := z_ne hm_qml hq_qz51
  have ne_qmh_qz51 : qmh ≠ qz51 := z_ne hm_qmh hq_qz51
  have ne_qmj_qz51 : qmj ≠ qz51 := z_ne hm_qmj hq_qz51
  have ne_qms_qz51 : qms ≠ qz51 := z_ne hm_qms hq_qz51
  have ne_qmg_qz51 : qmg ≠ qz51 := z_ne hm_qmg hq_qz51
  have ne_qmd_qz51 : qmd ≠ qz51 := z_ne hm_qmd hq_qz51
  have ne_qmk_qz51 : qmk ≠ qz51 := z_ne hm_qmk hq_qz51
  have hn_qz51 : qz51 ∉ L := fun h => hq_qz51 (hsub _ h)
  obtain ⟨f85, e_f85⟩ : ∃ z, z = va_up f83 qz51 (.inl (cy 1, 13, .inl (fun _ => 0))) := ⟨_, rfl⟩
  obtain ⟨L84, e_L84⟩ : ∃ z, z = L81 ++ [qz51] := ⟨_, rfl⟩
  rw [← e_f85, ← e_L84] at hw
  have hm_me : me ∈ L84 := by rw [e_L84]; exact List.mem_append_left _ hm_me
  have hf_me : f85 me = .inr (10, [.int 0, .ref qmw, .ref qmn, .ref qmc, .ref qmv, .ref qmt, .int 0, .int 0, .int 0, .int 0, .int 0, .long 0, .int 0, .int 0, .int 0, .int (-1), .ref qml, .ref qmh, .ref qmj, .ref qms, .ref qmg, .ref qmd, .int 0, .ref qmk, .int (-1), .int 0, .long 0, .int 0, .int 0, .ref qz29, .int 0, .ref qz31, .ref qz32, .ref qz33, .ref qz34, .ref qz35, .int 0, .ref qz37, .int 0, .ref qz39, .int 0, .int 0, .int 0, .ref qz43, .ref qz44, .ref qz45, .ref qz46, .ref qz47, .int 0, .ref qz49, .ref qz50, .null, .int 0, .int 0]) := (congrFun e_f85 me).trans (z_up_ne ne_me_qz51 hf_me)
  have hm_qmw : qmw ∈ L84 := by rw [e_L84]; exact List.mem_append_left _ hm_qmw
  have hf_qmw : f85 qmw = .inl (cy 1, 4, .inl (fun _ => 0)) := (congrFun e_f85 qmw).trans (z_up_ne ne_qmw_qz51 hf_qmw)
  have hm_qmn : qmn ∈ L84 := by rw [e_L84]; exact List.mem_append_left _ hm_qmn
  have hf_qmn : f85 qmn = .inl (cy 1, 4, .inl (fun _ => 0)) := (congrFun e_f85 qmn).trans (z_up_ne ne_qmn_qz51 hf_qmn)
  have hm_qmc : qmc ∈ L84 := by rw [e_L84]; exact List.mem_append_left _ hm_qmc
  have hf_qmc : f85 qmc = .inl (cy 2, 240, .inr (.inl (fun _ => 0))) := (congrFun e_f85 qmc).trans (z_up_ne ne_qmc_qz51 hf_qmc)
  have hm_qmv : qmv ∈ L84 := by rw [e_L84]; exact List.mem_append_left _ hm_qmv
  have hf_qmv : f85 qmv = .inl (cy 2, 60, .inr (.inl (fun _ => 0))) := (congrFun e_f85 qmv).trans (z_up_ne ne_qmv_qz51 hf_qmv)
  have hm_qmt : qmt ∈ L84 := by rw [e_L84]; exact List.mem_append_left _ hm_qmt
  have hf_qmt : f85 qmt = .inl (cy 0, 1600, .inl (fun _ => 0)) := (congrFun e_f85 qmt).trans (z_up_ne ne_qmt_qz51 hf_qmt)
  have hm_qml : qml ∈ L84 := by rw [e_L84]; exact List.mem_append_left _ hm_qml
  have hf_qml : f85 qml = .inl (cy 1, 5, .inl (fun _ => 0)) := (congrFun e_f85 qml).trans (z_up_ne ne_qml_qz51 hf_qml)
  have hm_qmh : qmh ∈ L84 := by rw [e_L84]; exact List.mem_append_left _ hm_qmh
  have hf_qmh : f85 qmh = .inl (cy 1, 30, .inl (fun _ => 0)) := (congrFun e_f85 qmh).trans (z_up_ne ne_qmh_qz51 hf_qmh)
  have hm_qmj : qmj ∈ L84 := by rw [e_L84]; exact List.mem_append_left _ hm_qmj
  have hf_qmj : f85 qmj = .inl (cy 1, 25, .inl (fun _ => 0)) := (congrFun e_f85 qmj).trans (z_up_ne ne_qmj_qz51 hf_qmj)
  have hm_qms : qms ∈ L84 := by rw [e_L84]; exact List.mem_append_left _ hm_qms
  have hf_qms : f85 qms = .inl (cy 1, 20, .inl (fun _ => 0)) := (congrFun e_f85 qms).trans (z_up_ne ne_qms_qz51 hf_qms)
  have hm_qmg : qmg ∈ L84 := by rw [e_L84]; exact List.mem_append_left _ hm_qmg
  have hf_qmg : f85 qmg = .inl (cy 1, 180, .inl (fun _ => 0)) := (congrFun e_f85 qmg).trans (z_up_ne ne_qmg_qz51 hf_qmg)
  have hm_qmd : qmd ∈ L84 := by rw [e_L84]; exact List.mem_append_left _ hm_qmd
  have hf_qmd : f85 qmd = .inl (cy 1, 520, .inl (fun _ => 0)) := (congrFun e_f85 qmd).trans (z_up_ne ne_qmd_qz51 hf_qmd)
  have hm_qmk : qmk ∈ L84 := by rw [e_L84]; exact List.mem_append_left _ hm_qmk
  have hf_qmk : f85 qmk = .inl (cy 3, 3, .inl (fun _ => 0)) := (congrFun e_f85 qmk).trans (z_up_ne ne_qmk_qz51 hf_qmk)
  have hm_qz51 : qz51 ∈ L84 := by rw [e_L84]; exact List.mem_append_right _ (List.mem_singleton.mpr rfl)
  have hf_qz51 : f85 qz51 = .inl (cy 1, 13, .inl (fun _ => 0)) := (congrFun e_f85 qz51).trans z_up_self
  have hsub : ∀ b ∈ L, b ∈ L84 := fun b h => by rw [e_L84]; exact List.mem_append_left _ (hsub b h)
  have hfr : ∀ b ∈ L, b ≠ me → f85 b = f b := fun b hb h0 => (congrFun e_f85 b).trans (z_up_ne (z_ne hb hn_qz51) (hfr b hb h0))
  refine z_putF (C := RX10) (T := TX10) (N := 54) (ci := 10) (v := .ref qz51) (fs' := [.int 0, .ref qmw, .ref qmn, .ref qmc, .ref qmv, .ref qmt, .int 0, .int 0, .int 0, .int 0, .int 0, .long 0, .int 0, .int 0, .int 0, .int (-1), .ref qml, .ref qmh, .ref qmj, .ref qms, .ref qmg, .ref qmd, .int 0, .ref qmk, .int (-1), .int 0, .long 0, .int 0, .int 0, .ref qz29, .int 0, .ref qz31, .ref qz32, .ref qz33, .ref qz34, .ref qz35, .int 0, .ref qz37, .int 0, .ref qz39, .int 0, .int 0, .int 0, .ref qz43, .ref qz44, .ref qz45, .ref qz46, .ref qz47, .int 0, .ref qz49, .ref qz50, .ref qz51, .int 0, .int 0]) hx hb hT zin_X10 tyX10_ok nmX10 hown hK hw hm_me hf_me rfl 51 (by decide) (hT _ kw_1219) rfl hnm rfl rfl rfl (Nat.le_of_ble_eq_true rfl) rfl dX10_init_234 (fun H locs hw => ?_)
  obtain ⟨f86, e_f86⟩ : ∃ z, z = va_up f85 me (.inr (10, [.int 0, .ref qmw, .ref qmn, .ref qmc, .ref qmv, .ref qmt, .int 0, .int 0, .int 0, .int 0, .int 0, .long 0, .int 0, .int 0, .int 0, .int (-1), .ref qml, .ref qmh, .ref qmj, .ref qms, .ref qmg, .ref qmd, .int 0, .ref qmk, .int (-1), .int 0, .long 0, .int 0, .int 0, .ref qz29, .int 0, .ref qz31, .ref qz32, .ref qz33, .ref qz34, .ref qz35, .int 0, .ref qz37, .int 0, .ref qz39, .int 0, .int 0, .int 0, .ref qz43, .ref qz44, .ref qz45, .ref qz46, .ref qz47, .int 0, .ref qz49, .ref qz50, .ref qz51, .int 0, .int 0])) := ⟨_, rfl⟩
  rw [← e_f86] at hw
  have hf_qmw : f86 qmw = .inl (cy 1, 4, .inl (fun _ => 0)) := (congrFun e_f86 qmw).trans (z_up_ne (Ne.symm ne_me_qmw) hf_qmw)
  have hf_qmn : f86 qmn = .inl (cy 1, 4, .inl (fun _ => 0)) := (congrFun e_f86 qmn).trans (z_up_ne (Ne.symm ne_me_qmn) hf_qmn)
  have hf_qmc : f86 qmc = .inl (cy 2, 240, .inr (.inl (fun _ => 0))) := (congrFun e_f86 qmc).trans (z_up_ne (Ne.symm ne_me_qmc) hf_qmc)
  have hf_qmv : f86 qmv = .inl (cy 2, 60, .inr (.inl (fun _ => 0))) := (congrFun e_f86 qmv).trans (z_up_ne (Ne.symm ne_me_qmv) hf_qmv)
  have hf_qmt : f86 qmt = .inl (cy 0, 1600, .inl (fun _ => 0)) := (congrFun e_f86 qmt).trans (z_up_ne (Ne.symm ne_me_qmt) hf_qmt)
  have hf_qml : f86 qml = .inl (cy 1, 5, .inl (fun _ => 0)) := (congrFun e_f86 qml).trans (z_up_ne (Ne.symm ne_me_qml) hf_qml)
  have hf_qmh : f86 qmh = .inl (cy 1, 30, .inl (fun _ => 0)) := (congrFun e_f86 qmh).trans (z_up_ne (Ne.symm ne_me_qmh) hf_qmh)
  have hf_qmj : f86 qmj = .inl (cy 1, 25, .inl (fun _ => 0)) := (congrFun e_f86 qmj).trans (z_up_ne (Ne.symm ne_me_qmj) hf_qmj)
  have hf_qms : f86 qms = .inl (cy 1, 20, .inl (fun _ => 0)) := (congrFun e_f86 qms).trans (z_up_ne (Ne.symm ne_me_qms) hf_qms)
  have hf_qmg : f86 qmg = .inl (cy 1, 180, .inl (fun _ => 0)) := (congrFun e_f86 qmg).trans (z_up_ne (Ne.symm ne_me_qmg) hf_qmg)
  have hf_qmd : f86 qmd = .inl (cy 1, 520, .inl (fun _ => 0)) := (congrFun e_f86 qmd).trans (z_up_ne (Ne.symm ne_me_qmd) hf_qmd)
  have hf_qmk : f86 qmk = .inl (cy 3, 3, .inl (fun _ => 0)) := (congrFun e_f86 qmk).trans (z_up_ne (Ne.symm ne_me_qmk) hf_qmk)
  have hf_qz51 : f86 qz51 = .inl (cy 1, 13, .inl (fun _ => 0)) := (congrFun e_f86 qz51).trans (z_up_ne (Ne.symm ne_me_qz51) hf_qz51)
  have hf_me : f86 me = .inr (10, [.int 0, .ref qmw, .ref qmn, .ref qmc, .ref qmv, .ref qmt, .int 0, .int 0, .int 0, .int 0, .int 0, .long 0, .int 0, .int 0, .int 0, .int (-1), .ref qml, .ref qmh, .ref qmj, .ref qms, .ref qmg, .ref qmd, .int 0, .ref qmk, .int (-1), .int 0, .long 0, .int 0, .int 0, .ref qz29, .int 0, .ref qz31, .ref qz32, .ref qz33, .ref qz34, .ref qz35, .int 0, .ref qz37, .int 0, .ref qz39, .int 0, .int 0, .int 0, .ref qz43, .ref qz44, .ref qz45, .ref qz46, .ref qz47, .int 0, .ref qz49, .ref qz50, .ref qz51, .int 0, .int 0]) := (congrFun e_f86 me).trans z_up_self
  have hfr : ∀ b ∈ L, b ≠ me → f86 b = f b := fun b hb h0 => (congrFun e_f86 b).trans (z_up_ne h0 (hfr b hb h0))
  refine lv_iconst (v := 0) hx hb dX10_init_237 (by decide) ?_
  refine lv_istore_n (lv' := [(1, .int 0), (0, .ref me)]) hx hb dX10_init_238 rfl hl (by decide) rfl (fun ls hl => ?_)
  have hzk : (0 : Int32).toInt = 0 := by decide
  refine z_loop (fun n H locs ls => ∃ (K87 : Int32) (G89 : Nat → Int32) (f88 : Nat → va_E), (n = (4 - K87.toInt).toNat) ∧ (0 ≤ K87.toInt) ∧ (K87.toInt ≤ 4) ∧ (∀ j : Nat, (j : Int) < K87.toInt → G89 j = -1) ∧ (z_H D vwCl (z_A L sz) s.heap L84 f88 H locs) ∧ (f88 me = .inr (10, [.int 0, .ref qmw, .ref qmn, .ref qmc, .ref qmv, .ref qmt, .int 0, .int 0, .int 0, .int 0, .int 0, .long 0, .int 0, .int 0, .int 0, .int (-1), .ref qml, .ref qmh, .ref qmj, .ref qms, .ref qmg, .ref qmd, .int 0, .ref qmk, .int (-1), .int 0, .long 0, .int 0, .int 0, .ref qz29, .int 0, .ref qz31, .ref qz32, .ref qz33, .ref qz34, .ref qz35, .int 0, .ref qz37, .int 0, .ref qz39, .int 0, .int 0, .int 0, .ref qz43, .ref qz44, .ref qz45, .ref qz46, .ref qz47, .int 0, .ref qz49, .ref qz50, .ref qz51, .int 0, .int 0])) ∧ (f88 qmw = .inl (cy 1, 4, .inl G89)) ∧ (f88 qmn = .inl (cy 1, 4, .inl (fun _ => 0))) ∧ (f88 qmc = .inl (cy 2, 240, .inr (.inl (fun _ => 0)))) ∧ (f88 qmv = .inl (cy 2, 60, .inr (.inl (fun _ => 0)))) ∧ (f88 qmt = .inl (cy 0, 1600, .inl (fun _ => 0))) ∧ (f88 qml = .inl (cy 1, 5, .inl (fun _ => 0))) ∧ (f88 qmh = .inl (cy 1, 30, .inl (fun _ => 0))) ∧ (f88 qmj = .inl (cy 1, 25, .inl (fun _ => 0))) ∧ (f88 qms = .inl (cy 1, 20, .inl (fun _ => 0))) ∧ (f88 qmg = .inl (cy 1, 180, .inl (fun _ => 0))) ∧ (f88 qmd = .inl (cy 1, 520, .inl (fun _ => 0))) ∧ (f88 qmk = .inl (cy 3, 3, .inl (fun _ => 0))) ∧ (∀ b ∈ L, b ≠ me → f88 b = f b) ∧ (lv_has ls 2 [(1, .int K87), (0, .ref me)])) _ ⟨0, (fun _ => 0), f86, rfl, (by first | decide | omega), (by first | decide | omega), (fun j hj => absurd hj (by rw [show (0 : Int32).toInt = 0 from rfl]; omega)), hw, hf_me, hf_qmw, hf_qmn, hf_qmc, hf_qmv, hf_qmt, hf_qml, hf_qmh, hf_qmj, hf_qms, hf_qmg, hf_qmd, hf_qmk, hfr, (lv_sub hl [0, 1] rfl)⟩ (fun n H locs ls hI ih => ?_)
  obtain ⟨K87, G89, f88, hn, hk0, hk1, hi0, hw, hf_me, hf_qmw, hf_qmn, hf_qmc, hf_qmv, hf_qmt, hf_qml, hf_qmh, hf_qmj, hf_qms, hf_qmg, hf_qmd, hf_qmk, hfr, hl⟩ := hI
  refine lv_iload_n hx hb dX10_init_239 rfl (lv_at hl 0 rfl) ?_
  refine lv_iconst (v := 4) hx hb dX10_init_240 (by decide) ?_
  refine z_icmp_ge (tgt := 257) hx hb rfl (show (4 : Int32).toInt = 4 by decide) dX10_init_241 (by decide) (fun c90 => ?_) (fun c90 => ?_)
  · skip
    exact z_vret hx hb hr hlk (by decide) (by decide) hw (⟨hsub, hfr, qmw, qmn, qmc, qmv, qmt, qml, qmh, qmj, qms, qmg, qmd, qmk, qz29, qz31, qz32, qz33, qz34, qz35, qz37, qz39, qz43, qz44, qz45, qz46, qz47, qz49, qz50, qz51, G89, hf_me, ⟨hn_qmw, hm_qmw, hf_qmw⟩, ⟨hn_qmn, hm_qmn, hf_qmn⟩, ⟨hn_qmc, hm_qmc, hf_qmc⟩, ⟨hn_qmt, hm_qmt, hf_qmt⟩, ⟨hn_qml, hm_qml, hf_qml⟩, ⟨hn_qmh, hm_qmh, hf_qmh⟩, ⟨hn_qmj, hm_qmj, hf_qmj⟩, ⟨hn_qms, hm_qms, hf_qms⟩, ⟨hn_qmg, hm_qmg, hf_qmg⟩, ⟨hn_qmd, hm_qmd, hf_qmd⟩, ⟨hn_qmk, hm_qmk, hf_qmk⟩, ⟨fun j hj => hi0 j (by omega), ne_qmw_qmn⟩⟩) dX10_init_257
  · skip
    refine lv_aload_n hx hb dX10_init_244 rfl (lv_at hl 1 rfl) ?_
    refine z_get (C := RX10) (T := TX10) (N := 54) (ci := 10) (v := .ref qmw) hx hb hT zin_X10 hown hK hw hm_me hf_me rfl 1 (by decide) (hT _ kw_1169) rfl dX10_init_245 ?_
    refine lv_iload_n hx hb dX10_init_248 rfl (lv_at hl 0 rfl) ?_
    refine lv_iconst (v := (-1)) hx hb dX10_init_249 (by decide) ?_
    refine z_iast hx hb hK hw 1 hm_qmw hf_qmw rfl (z_ix rfl (by omega)) dX10_init_250 (fun H locs hw => ?_)
    obtain ⟨f92, e_f92⟩ : ∃ z, z = va_up f88 qmw (.inl (cy 1, 4, .inl (upd G89 K87.toNatClampNeg (-1)))) := ⟨_, rfl⟩
    rw [← e_f92] at hw
    have hf_me : f92 me = .inr (10, [.int 0, .ref qmw, .ref qmn, .ref qmc, .ref qmv, .ref qmt, .int 0, .int 0, .int 0, .int 0, .int 0, .long 0, .int 0, .int 0, .int 0, .int (-1), .ref qml, .ref qmh, .ref qmj, .ref qms, .ref qmg, .ref qmd, .int 0, .ref qmk, .int (-1), .int 0, .long 0, .int 0, .int 0, .ref qz29, .int 0, .ref qz31, .ref qz32, .ref qz33, .ref qz34, .ref qz35, .int 0, .ref qz37, .int 0, .ref qz39, .int 0, .int 0, .int 0, .ref qz43, .ref qz44, .ref qz45, .ref qz46, .ref qz47, .int 0, .ref qz49, .ref qz50, .ref qz51, .int 0, .int 0]) := (congrFun e_f92 me).trans (z_up_ne ne_me_qmw hf_me)
    have hf_qmn : f92 qmn = .inl (cy 1, 4, .inl (fun _ => 0)) := (congrFun e_f92 qmn).trans (z_up_ne (Ne.symm ne_qmw_qmn) hf_qmn)
    have hf_qmc : f92 qmc = .inl (cy 2, 240, .inr (.inl (fun _ => 0))) := (congrFun e_f92 qmc).trans (z_up_ne (Ne.symm ne_qmw_qmc) hf_qmc)
    have hf_qmv : f92 qmv = .inl (cy 2, 60, .inr (.inl (fun _ => 0))) := (congrFun e_f92 qmv).trans (z_up_ne (Ne.symm ne_qmw_qmv) hf_qmv)
    have hf_qmt : f92 qmt = .inl (cy 0, 1600, .inl (fun _ => 0)) := (congrFun e_f92 qmt).trans (z_up_ne (Ne.symm ne_qmw_qmt) hf_qmt)
    have hf_qml : f92 qml = .inl (cy 1, 5, .inl (fun _ => 0)) := (congrFun e_f92 qml).trans (z_up_ne (Ne.symm ne_qmw_qml) hf_qml)
    have hf_qmh : f92 qmh = .inl (cy 1, 30, .inl (fun _ => 0)) := (congrFun e_f92 qmh).trans (z_up_ne (Ne.symm ne_qmw_qmh) hf_qmh)
    have hf_qmj : f92 qmj = .inl (cy 1, 25, .inl (fun _ => 0)) := (congrFun e_f92 qmj).trans (z_up_ne (Ne.symm ne_qmw_qmj) hf_qmj)
    have hf_qms : f92 qms = .inl (cy 1, 20, .inl (fun _ => 0)) := (congrFun e_f92 qms).trans (z_up_ne (Ne.symm ne_qmw_qms) hf_qms)
    have hf_qmg : f92 qmg = .inl (cy 1, 180, .inl (fun _ => 0)) := (congrFun e_f92 qmg).trans (z_up_ne (Ne.symm ne_qmw_qmg) hf_qmg)
    have hf_qmd : f92 qmd = .inl (cy 1, 520, .inl (fun _ => 0)) := (congrFun e_f92 qmd).trans (z_up_ne (Ne.symm ne_qmw_qmd) hf_qmd)
    have hf_qmk : f92 qmk = .inl (cy 3, 3, .inl (fun _ => 0)) := (congrFun e_f92 qmk).trans (z_up_ne (Ne.symm ne_qmw_qmk) hf_qmk)
    have hf_qmw : f92 qmw = .inl (cy 1, 4, .inl (upd G89 K87.toNatClampNeg (-1))) := (congrFun e_f92 qmw).trans z_up_self
    have hfr : ∀ b ∈ L, b ≠ me → f92 b = f b := fun b hb h0 => (congrFun e_f92 b).trans (z_up_ne (z_ne hb hn_qmw) (hfr b hb h0))
    obtain ⟨g91, e_g91⟩ : ∃ z, z = (upd G89 K87.toNatClampNeg (-1)) := ⟨_, rfl⟩
    rw [← e_g91] at hf_qmw
    obtain ⟨k93, e_k93⟩ : ∃ z : Int32, z = K87 + 1 := ⟨_, rfl⟩
    refine lv_iinc (v := k93) (lv' := [(1, .int k93), (0, .ref me)]) hx hb dX10_init_251 hl (k := 0) rfl (by rw [e_k93]; rfl) (by decide) rfl (fun ls hl => ?_)
    have i_k93 : k93.toInt = (K87.toInt + 1) := z_add e_k93 rfl (by decide) (by omega)
    refine lv_goto (tgt := 239) hx hb dX10_init_254 (by decide) ?_
    exact ih _ (by omega) _ _ _ ⟨k93, g91, f92, rfl, (by first | decide | omega), (by first | decide | omega), (z_updlt hk0 i_k93 e_g91 hi0), hw, hf_me, hf_qmw, hf_qmn, hf_qmc, hf_qmv, hf_qmt, hf_qml, hf_qmh, hf_qmj, hf_qms, hf_qmg, hf_qmd, hf_qmk, hfr, (lv_sub hl [0, 1] rfl)⟩
