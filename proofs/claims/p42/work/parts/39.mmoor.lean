set_option maxHeartbeats 2000000 in
set_option maxRecDepth 100000 in
theorem c_X10_moor (l : Launch) {D : va_G} {cy : Nat → ClassId} {L : List Nat} {f : Nat → va_E} {sz : Nat} {adK adV : Nat → Nat} {mm wd my ce mv ta li ha lw st fo dr ik ro ct se th cn be du db pn wg wh tn he tr fd po : Nat} {m0 m6 m7 m8 m9 m10 m12 m13 m14 m15 m22 m24 m25 m27 m28 m30 m36 m38 m40 m41 m42 m48 m52 m53 : Int32} {m11 m26 : Int64} {gta gli gha glw gst gfo gdr : Nat → Int32}  (hm_mm : mm ∈ L) (hm_ta : ta ∈ L) (hm_li : li ∈ L) (hm_ha : ha ∈ L) (hm_lw : lw ∈ L) (hm_st : st ∈ L) (hm_fo : fo ∈ L) (hm_dr : dr ∈ L) (hf_mm : f mm = .inr (10, [.int m0, .ref wd, .ref my, .ref ce, .ref mv, .ref ta, .int m6, .int m7, .int m8, .int m9, .int m10, .long m11, .int m12, .int m13, .int m14, .int m15, .ref li, .ref ha, .ref lw, .ref st, .ref fo, .ref dr, .int m22, .ref ik, .int m24, .int m25, .long m26, .int m27, .int m28, .ref ro, .int m30, .ref ct, .ref se, .ref th, .ref cn, .ref be, .int m36, .ref du, .int m38, .ref db, .int m40, .int m41, .int m42, .ref pn, .ref wg, .ref wh, .ref tn, .ref he, .int m48, .ref tr, .ref fd, .ref po, .int m52, .int m53])) (hf_ta : f ta = .inl (cy 0, 1600, .inl gta)) (hf_li : f li = .inl (cy 1, 5, .inl gli)) (hf_ha : f ha = .inl (cy 1, 30, .inl gha)) (hf_lw : f lw = .inl (cy 1, 25, .inl glw)) (hf_st : f st = .inl (cy 1, 20, .inl gst)) (hf_fo : f fo = .inl (cy 1, 180, .inl gfo)) (hf_dr : f dr = .inl (cy 1, 520, .inl gdr)) (hq_ha : ∀ j : Nat, q_has j (gha j)) (hq_lw : ∀ j : Nat, q_law j (glw j)) (hq_st : ∀ j : Nat, q_law j (gst j)) (hq_dr : ∀ j : Nat, q_drv j (gdr j)) (htp : 0 ≤ m6.toInt ∧ m6.toInt ≤ 1600) (hea : ∀ m : Nat, m < 5 → z_ea gha glw m) : Met l yX10_moor (z_ws yX10_moor cX10_moor 1 (some .int)) (z_R 8 0 0) (va_Pc [.ref mm] (z_Pre D vwCl (z_KK D cy adK adV) L f sz)) (z_Qi D vwCl (fun r u => L = u.1 ∧ (∀ b ∈ L, b ≠ mm → b ≠ li → b ≠ ha → b ≠ lw → b ≠ st → b ≠ fo → b ≠ dr → u.2 b = f b) ∧ (∃ (a2 k2 p2 v2 b2 q2 t2 f2 g2 : Int32) (w2 : Int64) (nli nha nlw nst nfo ndr : Nat → Int32), (u.2 mm = .inr (10, [.int 0, .ref wd, .ref my, .ref ce, .ref mv, .ref ta, .int 0, .int a2, .int k2, .int p2, .int v2, .long w2, .int b2, .int q2, .int f2, .int g2, .ref li, .ref ha, .ref lw, .ref st, .ref fo, .ref dr, .int t2, .ref ik, .int m24, .int m25, .long m26, .int m27, .int m28, .ref ro, .int m30, .ref ct, .ref se, .ref th, .ref cn, .ref be, .int m36, .ref du, .int m38, .ref db, .int m40, .int m41, .int m42, .ref pn, .ref wg, .ref wh, .ref tn, .ref he, .int m48, .ref tr, .ref fd, .ref po, .int m52, .int m53])) ∧ (u.2 li = .inl (cy 1, 5, .inl nli)) ∧ (u.2 ha = .inl (cy 1, 30, .inl nha)) ∧ (u.2 lw = .inl (cy 1, 25, .inl nlw)) ∧ (u.2 st = .inl (cy 1, 20, .inl nst)) ∧ (u.2 fo = .inl (cy 1, 180, .inl nfo)) ∧ (u.2 dr = .inl (cy 1, 520, .inl ndr)) ∧ (∀ j : Nat, q_has j (nha j)) ∧ (∀ j : Nat, q_law j (nlw j)) ∧ (∀ j : Nat, q_law j (nst j)) ∧ (∀ j : Nat, q_drv j (ndr j)) ∧ (∀ m : Nat, m < 5 → z_ea nha nlw m))) L sz) 0 0 (z_A L sz) := by
  refine z_met (cc := cX10_moor) (maxL := 1) (ret := (some .int)) (lv := [(0, .ref mm)]) (by decide) rfl (Nat.le_of_ble_eq_true rfl) rfl ?_
  intro p e s m below meth c ls hx hb hr hlk hml hown hnm hts hKK hA hw hl
  have hK := hKK.1.1
  have hown : s.vm.findClass RX10 = some m.cls := hown
  have hT : ∀ w ∈ lw_all, w.before ([.ref mm] : List Value).toArray s = true := fun w h => hts w (z_cons w h)
  have hsub : L = L := rfl
  have hfr : ∀ b ∈ L, b ≠ mm → b ≠ li → b ≠ ha → b ≠ lw → b ≠ st → b ≠ fo → b ≠ dr → f b = f b := fun _ _ _ _ _ _ _ _ _ => rfl
  have hz_0 : (0 : Int32).toInt = 0 := by decide
  have hz_1 : (1 : Int32).toInt = 1 := by decide
  have hz_2 : (2 : Int32).toInt = 2 := by decide
  have hq_ha : ∀ j : Nat, q_hasR gha j (gha j) := fun j => ⟨hq_ha j, fun _ => rfl⟩
  have hq_lw : ∀ j : Nat, q_lawR glw j (glw j) := fun j => ⟨hq_lw j, fun _ => rfl⟩
  refine lv_aload_n hx hb dX10_moor_0 rfl (lv_at hl 0 rfl) ?_
  refine lv_iconst (v := 0) hx hb dX10_moor_1 (by decide) ?_
  refine z_put (C := RX10) (T := TX10) (N := 54) (ci := 10) (v := .int 0) (fs' := [.int 0, .ref wd, .ref my, .ref ce, .ref mv, .ref ta, .int m6, .int m7, .int m8, .int m9, .int m10, .long m11, .int m12, .int m13, .int m14, .int m15, .ref li, .ref ha, .ref lw, .ref st, .ref fo, .ref dr, .int m22, .ref ik, .int m24, .int m25, .long m26, .int m27, .int m28, .ref ro, .int m30, .ref ct, .ref se, .ref th, .ref cn, .ref be, .int m36, .ref du, .int m38, .ref db, .int m40, .int m41, .int m42, .ref pn, .ref wg, .ref wh, .ref tn, .ref he, .int m48, .ref tr, .ref fd, .ref po, .int m52, .int m53]) hx hb hT zin_X10 tyX10_ok nmX10 hown hK hw hm_mm hf_mm rfl 0 (by decide) (hT _ kw_1168) rfl rfl rfl (Nat.le_of_ble_eq_true rfl) rfl dX10_moor_2 (fun H locs hw => ?_)
  obtain ⟨f1, e_f1⟩ : ∃ z, z = va_up f mm (.inr (10, [.int 0, .ref wd, .ref my, .ref ce, .ref mv, .ref ta, .int m6, .int m7, .int m8, .int m9, .int m10, .long m11, .int m12, .int m13, .int m14, .int m15, .ref li, .ref ha, .ref lw, .ref st, .ref fo, .ref dr, .int m22, .ref ik, .int m24, .int m25, .long m26, .int m27, .int m28, .ref ro, .int m30, .ref ct, .ref se, .ref th, .ref cn, .ref be, .int m36, .ref du, .int m38, .ref db, .int m40, .int m41, .int m42, .ref pn, .ref wg, .ref wh, .ref tn, .ref he, .int m48, .ref tr, .ref fd, .ref po, .int m52, .int m53])) := ⟨_, rfl⟩
  rw [← e_f1] at hw
  have hf_ta : f1 ta = .inl (cy 0, 1600, .inl gta) := (congrFun e_f1 ta).trans (z_up_ne (z_tne hf_ta hf_mm (m := 12900) (n := 10) rfl rfl (by decide)) hf_ta)
  have hf_li : f1 li = .inl (cy 1, 5, .inl gli) := (congrFun e_f1 li).trans (z_up_ne (z_tne hf_li hf_mm (m := 140) (n := 10) rfl rfl (by decide)) hf_li)
  have hf_ha : f1 ha = .inl (cy 1, 30, .inl gha) := (congrFun e_f1 ha).trans (z_up_ne (z_tne hf_ha hf_mm (m := 340) (n := 10) rfl rfl (by decide)) hf_ha)
  have hf_lw : f1 lw = .inl (cy 1, 25, .inl glw) := (congrFun e_f1 lw).trans (z_up_ne (z_tne hf_lw hf_mm (m := 300) (n := 10) rfl rfl (by decide)) hf_lw)
  have hf_st : f1 st = .inl (cy 1, 20, .inl gst) := (congrFun e_f1 st).trans (z_up_ne (z_tne hf_st hf_mm (m := 260) (n := 10) rfl rfl (by decide)) hf_st)
  have hf_fo : f1 fo = .inl (cy 1, 180, .inl gfo) := (congrFun e_f1 fo).trans (z_up_ne (z_tne hf_fo hf_mm (m := 1540) (n := 10) rfl rfl (by decide)) hf_fo)
  have hf_dr : f1 dr = .inl (cy 1, 520, .inl gdr) := (congrFun e_f1 dr).trans (z_up_ne (z_tne hf_dr hf_mm (m := 4260) (n := 10) rfl rfl (by decide)) hf_dr)
  have hf_mm : f1 mm = .inr (10, [.int 0, .ref wd, .ref my, .ref ce, .ref mv, .ref ta, .int m6, .int m7, .int m8, .int m9, .int m10, .long m11, .int m12, .int m13, .int m14, .int m15, .ref li, .ref ha, .ref lw, .ref st, .ref fo, .ref dr, .int m22, .ref ik, .int m24, .int m25, .long m26, .int m27, .int m28, .ref ro, .int m30, .ref ct, .ref se, .ref th, .ref cn, .ref be, .int m36, .ref du, .int m38, .ref db, .int m40, .int m41, .int m42, .ref pn, .ref wg, .ref wh, .ref tn, .ref he, .int m48, .ref tr, .ref fd, .ref po, .int m52, .int m53]) := (congrFun e_f1 mm).trans z_up_self
  have hfr : ∀ b ∈ L, b ≠ mm → b ≠ li → b ≠ ha → b ≠ lw → b ≠ st → b ≠ fo → b ≠ dr → f1 b = f b := fun b hb h0 h1 h2 h3 h4 h5 h6 => (congrFun e_f1 b).trans (z_up_ne h0 (hfr b hb h0 h1 h2 h3 h4 h5 h6))
  refine lv_aload_n hx hb dX10_moor_5 rfl (lv_at hl 0 rfl) ?_
  refine z_callvV (cells := 0) (slots := 0) (b := mm) (As := []) (rest := []) (ci := 10) (q0 := (RX10, TX10, 54)) ⟨hx, hb, hml, hown, hT⟩ (c_X10_clears l hm_mm hm_li hm_ha hm_lw hm_st hm_fo hf_mm hf_li hf_ha hf_lw hf_st hf_fo hq_ha hq_lw hq_st) (cwV 0 hT (z_goodV (fun _ h => h) kw_1373 kw_1375 kw_32 kw_96 kw_1376) rfl rfl rfl (by decide +kernel) ⟨by decide, by decide⟩) z_mv hKK hK hw hA hm_mm hf_mm rfl rfl rfl hl.1 rfl (Nat.le_of_ble_eq_true rfl) dX10_moor_6 ⟨by decide, by decide⟩ (fun u H locs hp hw => ?_)
  obtain ⟨L2, f3⟩ := u
  obtain ⟨hsb, hfm, nli_4, nha_5, nlw_6, nst_7, nfo_8, ha_0, ha_1, ha_2, ha_3, ha_4, ha_5, hq_ha, hq_lw, hq_st, hp⟩ := hp
  have hsb : L = L2 := hsb
  subst hsb
  have hsb : ∀ b ∈ L, b ∈ L := fun _ h => h
  have hw : z_H D vwCl (z_A L sz) s.heap L f3 H locs := hw
  have hfr : ∀ b ∈ L, b ≠ mm → b ≠ li → b ≠ ha → b ≠ lw → b ≠ st → b ≠ fo → b ≠ dr → f3 b = f b := fun b hb h0 h1 h2 h3 h4 h5 h6 => (hfm b hb h0 h1 h2 h3 h4 h5).trans (hfr b hb h0 h1 h2 h3 h4 h5 h6)
  have hf_ta : f3 ta = .inl (cy 0, 1600, .inl gta) := (hfm ta hm_ta (z_tne hf_ta hf_mm (m := 12900) (n := 10) rfl rfl (by decide)) (z_tne hf_ta hf_li (m := 12900) (n := 140) rfl rfl (by decide)) (z_tne hf_ta hf_ha (m := 12900) (n := 340) rfl rfl (by decide)) (z_tne hf_ta hf_lw (m := 12900) (n := 300) rfl rfl (by decide)) (z_tne hf_ta hf_st (m := 12900) (n := 260) rfl rfl (by decide)) (z_tne hf_ta hf_fo (m := 12900) (n := 1540) rfl rfl (by decide))).trans hf_ta
  have hf_dr : f3 dr = .inl (cy 1, 520, .inl gdr) := (hfm dr hm_dr (z_tne hf_dr hf_mm (m := 4260) (n := 10) rfl rfl (by decide)) (z_tne hf_dr hf_li (m := 4260) (n := 140) rfl rfl (by decide)) (z_tne hf_dr hf_ha (m := 4260) (n := 340) rfl rfl (by decide)) (z_tne hf_dr hf_lw (m := 4260) (n := 300) rfl rfl (by decide)) (z_tne hf_dr hf_st (m := 4260) (n := 260) rfl rfl (by decide)) (z_tne hf_dr hf_fo (m := 4260) (n := 1540) rfl rfl (by decide))).trans hf_dr
  have hf_mm : f3 mm = .inr (10, [.int 0, .ref wd, .ref my, .ref ce, .ref mv, .ref ta, .int m6, .int m7, .int m8, .int m9, .int m10, .long m11, .int m12, .int m13, .int m14, .int m15, .ref li, .ref ha, .ref lw, .ref st, .ref fo, .ref dr, .int 0, .ref ik, .int m24, .int m25, .long m26, .int m27, .int m28, .ref ro, .int m30, .ref ct, .ref se, .ref th, .ref cn, .ref be, .int m36, .ref du, .int m38, .ref db, .int m40, .int m41, .int m42, .ref pn, .ref wg, .ref wh, .ref tn, .ref he, .int m48, .ref tr, .ref fd, .ref po, .int m52, .int m53]) := ha_0
  have hf_li : f3 li = .inl (cy 1, 5, .inl nli_4) := ha_1
  have hf_ha : f3 ha = .inl (cy 1, 30, .inl nha_5) := ha_2
  have hf_lw : f3 lw = .inl (cy 1, 25, .inl nlw_6) := ha_3
  have hf_st : f3 st = .inl (cy 1, 20, .inl nst_7) := ha_4
  have hf_fo : f3 fo = .inl (cy 1, 180, .inl nfo_8) := ha_5
  have hcl := hp
  refine lv_aload_n hx hb dX10_moor_9 rfl (lv_at hl 0 rfl) ?_
  refine z_callvV (cells := 0) (slots := 0) (b := mm) (As := []) (rest := []) (ci := 10) (q0 := (RX10, TX10, 54)) ⟨hx, hb, hml, hown, hT⟩ (c_X10_begins l hm_mm hm_ta hf_mm hf_ta (by first | omega | decide | assumption)) (cwV 0 hT (z_goodV (fun _ h => h) kw_1377 kw_1379 kw_33 kw_96 kw_1380) rfl rfl rfl (by decide +kernel) ⟨by decide, by decide⟩) z_mv hKK hK hw hA hm_mm hf_mm rfl rfl rfl hl.1 rfl (Nat.le_of_ble_eq_true rfl) dX10_moor_10 ⟨by decide, by decide⟩ (fun u H locs hp hw => ?_)
  obtain ⟨L9, f10⟩ := u
  obtain ⟨hsb, hfm, a2_11, k2_12, p2_13, v2_14, w2_15, ha_0, hp⟩ := hp
  have hsb : L = L9 := hsb
  subst hsb
  have hsb : ∀ b ∈ L, b ∈ L := fun _ h => h
  have hw : z_H D vwCl (z_A L sz) s.heap L f10 H locs := hw
  have hfr : ∀ b ∈ L, b ≠ mm → b ≠ li → b ≠ ha → b ≠ lw → b ≠ st → b ≠ fo → b ≠ dr → f10 b = f b := fun b hb h0 h1 h2 h3 h4 h5 h6 => (hfm b hb h0).trans (hfr b hb h0 h1 h2 h3 h4 h5 h6)
  have hf_ta : f10 ta = .inl (cy 0, 1600, .inl gta) := (hfm ta hm_ta (z_tne hf_ta hf_mm (m := 12900) (n := 10) rfl rfl (by decide))).trans hf_ta
  have hf_li : f10 li = .inl (cy 1, 5, .inl nli_4) := (hfm li hm_li (z_tne hf_li hf_mm (m := 140) (n := 10) rfl rfl (by decide))).trans hf_li
  have hf_ha : f10 ha = .inl (cy 1, 30, .inl nha_5) := (hfm ha hm_ha (z_tne hf_ha hf_mm (m := 340) (n := 10) rfl rfl (by decide))).trans hf_ha
  have hf_lw : f10 lw = .inl (cy 1, 25, .inl nlw_6) := (hfm lw hm_lw (z_tne hf_lw hf_mm (m := 300) (n := 10) rfl rfl (by decide))).trans hf_lw
  have hf_st : f10 st = .inl (cy 1, 20, .inl nst_7) := (hfm st hm_st (z_tne hf_st hf_mm (m := 260) (n := 10) rfl rfl (by decide))).trans hf_st
  have hf_fo : f10 fo = .inl (cy 1, 180, .inl nfo_8) := (hfm fo hm_fo (z_tne hf_fo hf_mm (m := 1540) (n := 10) rfl rfl (by decide))).trans hf_fo
  have hf_dr : f10 dr = .inl (cy 1, 520, .inl gdr) := (hfm dr hm_dr (z_tne hf_dr hf_mm (m := 4260) (n := 10) rfl rfl (by decide))).trans hf_dr
  have hf_mm : f10 mm = .inr (10, [.int 0, .ref wd, .ref my, .ref ce, .ref mv, .ref ta, .int m6, .int a2_11, .int k2_12, .int p2_13, .int v2_14, .long w2_15, .int 0, .int (-1), .int m14, .int m15, .ref li, .ref ha, .ref lw, .ref st, .ref fo, .ref dr, .int 0, .ref ik, .int m24, .int m25, .long m26, .int m27, .int m28, .ref ro, .int m30, .ref ct, .ref se, .ref th, .ref cn, .ref be, .int m36, .ref du, .int m38, .ref db, .int m40, .int m41, .int m42, .ref pn, .ref wg, .ref wh, .ref tn, .ref he, .int m48, .ref tr, .ref fd, .ref po, .int m52, .int m53]) := ha_0
  have hq16 := hp
  refine z_loop (fun n H locs ls => ∃  (G27 : Nat → Int32) (G28 : Nat → Int32) (G29 : Nat → Int32) (G30 : Nat → Int32) (G31 : Nat → Int32) (G32 : Nat → Int32) (AT19 : Int32) (TK20 : Int32) (PL21 : Int32) (VA22 : Int32) (WO23 : Int64) (BA24 : Int32) (BP25 : Int32) (OT26 : Int32) (f18 : Nat → va_E), (BA24.toInt ≠ 0 ∨ (n : Int) = m6.toInt - AT19.toInt + 1) ∧ (0 ≤ AT19.toInt) ∧ (AT19.toInt ≤ m6.toInt) ∧ ((G27 4).toInt = 0 ∨ 2 ≤ (G29 23).toInt) ∧ (2 ≤ (G29 23).toInt ∨ ((G28 27).toInt = 0 ∧ (G28 24).toInt = 0)) ∧ (z_H D vwCl (z_A L sz) s.heap L f18 H locs) ∧ (f18 mm = .inr (10, [.int 0, .ref wd, .ref my, .ref ce, .ref mv, .ref ta, .int m6, .int AT19, .int TK20, .int PL21, .int VA22, .long WO23, .int BA24, .int BP25, .int m14, .int m15, .ref li, .ref ha, .ref lw, .ref st, .ref fo, .ref dr, .int OT26, .ref ik, .int m24, .int m25, .long m26, .int m27, .int m28, .ref ro, .int m30, .ref ct, .ref se, .ref th, .ref cn, .ref be, .int m36, .ref du, .int m38, .ref db, .int m40, .int m41, .int m42, .ref pn, .ref wg, .ref wh, .ref tn, .ref he, .int m48, .ref tr, .ref fd, .ref po, .int m52, .int m53])) ∧ (f18 ta = .inl (cy 0, 1600, .inl gta)) ∧ (f18 li = .inl (cy 1, 5, .inl G27)) ∧ (f18 ha = .inl (cy 1, 30, .inl G28)) ∧ (f18 lw = .inl (cy 1, 25, .inl G29)) ∧ (f18 st = .inl (cy 1, 20, .inl G30)) ∧ (f18 fo = .inl (cy 1, 180, .inl G31)) ∧ (f18 dr = .inl (cy 1, 520, .inl G32)) ∧ (∀ b ∈ L, b ≠ mm → b ≠ li → b ≠ ha → b ≠ lw → b ≠ st → b ≠ fo → b ≠ dr → f18 b = f b) ∧ (∀ j : Nat, (q_hasR gha) j (G28 j)) ∧ (∀ j : Nat, (q_lawR glw) j (G29 j)) ∧ (∀ j : Nat, q_law j (G30 j)) ∧ (∀ j : Nat, q_drv j (G32 j)) ∧ (lv_has ls 1 [(0, .ref mm)])) (m6.toInt - a2_11.toInt + 1).toNat ⟨nli_4, nha_5, nlw_6, nst_7, nfo_8, gdr, a2_11, k2_12, p2_13, v2_14, w2_15, 0, (-1), 0, f10, Or.inr (by omega), (by first | decide | omega), (by first | decide | omega), (Or.inl hcl.1), (Or.inr ⟨hcl.2.1, hcl.2.2⟩), hw, hf_mm, hf_ta, hf_li, hf_ha, hf_lw, hf_st, hf_fo, hf_dr, hfr, hq_ha, hq_lw, hq_st, hq_dr, (lv_sub hl [0] rfl)⟩ (fun n H locs ls hI ih_13 => ?_)
  obtain ⟨G27, G28, G29, G30, G31, G32, AT19, TK20, PL21, VA22, WO23, BA24, BP25, OT26, f18, hn, hk0, hk1, hi0, hi1, hw, hf_mm, hf_ta, hf_li, hf_ha, hf_lw, hf_st, hf_fo, hf_dr, hfr, hq_ha, hq_lw, hq_st, hq_dr, hl⟩ := hI
  refine lv_aload_n hx hb dX10_moor_13 rfl (lv_at hl 0 rfl) ?_
  refine z_calliV (cells := 0) (slots := 0) (b := mm) (As := []) (rest := []) (ci := 10) (q0 := (RX10, TX10, 54)) ⟨hx, hb, hml, hown, hT⟩ (c_X10_isGood l hm_mm hf_mm) (cwV 0 hT (z_goodV (fun _ h => h) kw_1394 kw_1396 kw_36 kw_96 kw_1397) rfl rfl rfl (by decide +kernel) ⟨by decide, by decide⟩) z_mv hKK hK hw hA hm_mm hf_mm rfl rfl rfl hl.1 rfl (Nat.le_of_ble_eq_true rfl) dX10_moor_14 ⟨by decide, by decide⟩ (fun r33 u H locs hp hw => ?_)
  obtain ⟨rfl, hp⟩ := hp
  have hw : z_H D vwCl (z_A L sz) s.heap L f18 H locs := hw
  rcases hp with ⟨rfl, h34⟩ | ⟨rfl, h34⟩
  · skip
    refine z_if_eq (tgt := 142) hx hb (show (1 : Int32).toInt = 1 by decide) dX10_moor_17 (by decide) (fun h => absurd h (by decide)) (fun _ => ?_)
    refine lv_aload_n hx hb dX10_moor_20 rfl (lv_at hl 0 rfl) ?_
    refine z_get (C := RX10) (T := TX10) (N := 54) (ci := 10) (v := .int TK20) hx hb hT zin_X10 hown hK hw hm_mm hf_mm rfl 8 (by decide) (hT _ kw_1176) rfl dX10_moor_21 ?_
    refine z_if_eq (tgt := 142) hx hb rfl dX10_moor_24 (by decide) (fun c35 => ?_) (fun c35 => ?_)
    · skip
      have hea : ∀ m : Nat, m < 5 → z_ea G28 G29 m := z_ea_read hea (fun j hj => (hq_ha j).2 hj) (fun j hj => (hq_lw j).2 hj) hi1
      have hq_ha : ∀ j : Nat, q_has j (G28 j) := fun j => (hq_ha j).1
      have hq_lw : ∀ j : Nat, q_law j (G29 j) := fun j => (hq_lw j).1
      refine lv_aload_n hx hb dX10_moor_142 rfl (lv_at hl 0 rfl) ?_
      refine z_callvV (cells := 0) (slots := 0) (b := mm) (As := []) (rest := []) (ci := 10) (q0 := (RX10, TX10, 54)) ⟨hx, hb, hml, hown, hT⟩ (c_X10_isOver l hm_mm hf_mm) (cwV 0 hT (z_goodV (fun _ h => h) kw_1467 kw_1469 kw_48 kw_96 kw_1470) rfl rfl rfl (by decide +kernel) ⟨by decide, by decide⟩) z_mv hKK hK hw hA hm_mm hf_mm rfl rfl rfl hl.1 rfl (Nat.le_of_ble_eq_true rfl) dX10_moor_143 ⟨by decide, by decide⟩ (fun u H locs hp hw => ?_)
      obtain ⟨L36, f37⟩ := u
      obtain ⟨hsb, hfm, f2_38, p2_39, ha_0, hp⟩ := hp
      have hsb : L = L36 := hsb
      subst hsb
      have hsb : ∀ b ∈ L, b ∈ L := fun _ h => h
      have hw : z_H D vwCl (z_A L sz) s.heap L f37 H locs := hw
      have hfr : ∀ b ∈ L, b ≠ mm → b ≠ li → b ≠ ha → b ≠ lw → b ≠ st → b ≠ fo → b ≠ dr → f37 b = f b := fun b hb h0 h1 h2 h3 h4 h5 h6 => (hfm b hb h0).trans (hfr b hb h0 h1 h2 h3 h4 h5 h6)
      have hf_ta : f37 ta = .inl (cy 0, 1600, .inl gta) := (hfm ta hm_ta (z_tne hf_ta hf_mm (m := 12900) (n := 10) rfl rfl (by decide))).trans hf_ta
      have hf_li : f37 li = .inl (cy 1, 5, .inl G27) := (hfm li hm_li (z_tne hf_li hf_mm (m := 140) (n := 10) rfl rfl (by decide))).trans hf_li
      have hf_ha : f37 ha = .inl (cy 1, 30, .inl G28) := (hfm ha hm_ha (z_tne hf_ha hf_mm (m := 340) (n := 10) rfl rfl (by decide))).trans hf_ha
      have hf_lw : f37 lw = .inl (cy 1, 25, .inl G29) := (hfm lw hm_lw (z_tne hf_lw hf_mm (m := 300) (n := 10) rfl rfl (by decide))).trans hf_lw
      have hf_st : f37 st = .inl (cy 1, 20, .inl G30) := (hfm st hm_st (z_tne hf_st hf_mm (m := 260) (n := 10) rfl rfl (by decide))).trans hf_st
      have hf_fo : f37 fo = .inl (cy 1, 180, .inl G31) := (hfm fo hm_fo (z_tne hf_fo hf_mm (m := 1540) (n := 10) rfl rfl (by decide))).trans hf_fo
      have hf_dr : f37 dr = .inl (cy 1, 520, .inl G32) := (hfm dr hm_dr (z_tne hf_dr hf_mm (m := 4260) (n := 10) rfl rfl (by decide))).trans hf_dr
      have hf_mm : f37 mm = .inr (10, [.int 0, .ref wd, .ref my, .ref ce, .ref mv, .ref ta, .int 0, .int AT19, .int TK20, .int PL21, .int VA22, .long WO23, .int BA24, .int BP25, .int f2_38, .int p2_39, .ref li, .ref ha, .ref lw, .ref st, .ref fo, .ref dr, .int OT26, .ref ik, .int m24, .int m25, .long m26, .int m27, .int m28, .ref ro, .int m30, .ref ct, .ref se, .ref th, .ref cn, .ref be, .int m36, .ref du, .int m38, .ref db, .int m40, .int m41, .int m42, .ref pn, .ref wg, .ref wh, .ref tn, .ref he, .int m48, .ref tr, .ref fd, .ref po, .int m52, .int m53]) := ha_0
      refine lv_aload_n hx hb dX10_moor_146 rfl (lv_at hl 0 rfl) ?_
      refine z_get (C := RX10) (T := TX10) (N := 54) (ci := 10) (v := .int BA24) hx hb hT zin_X10 hown hK hw hm_mm hf_mm rfl 12 (by decide) (hT _ kw_1180) rfl dX10_moor_147 ?_
      refine z_if_eq (tgt := 156) hx hb rfl dX10_moor_150 (by decide) (fun c40 => ?_) (fun c40 => ?_)
      · skip
        refine lv_aload_n hx hb dX10_moor_156 rfl (lv_at hl 0 rfl) ?_
        refine lv_iconst (v := 4) hx hb dX10_moor_157 (by decide) ?_
        refine lv_iconst (v := 0) hx hb dX10_moor_158 (by decide) ?_
        have hz41 := (show (4 : Int32).toInt = 4 by decide)
        have hz42 := (show (0 : Int32).toInt = 0 by decide)
        refine z_callvV (cells := 0) (slots := 0) (b := mm) (As := [.int 4, .int 0]) (rest := []) (ci := 10) (q0 := (RX10, TX10, 54)) ⟨hx, hb, hml, hown, hT⟩ (c_X10_copyMoor l hm_mm hm_li hm_ha hm_lw hm_st hm_fo hm_dr hf_mm hf_li hf_ha hf_lw hf_st hf_fo hf_dr hq_ha hq_lw hq_st hq_dr (by first | omega | decide | assumption) (by first | omega | decide | assumption) hea) (cwV 2 hT (z_goodV (fun _ h => h) kw_1471 kw_1473 kw_49 kw_96 kw_1474) rfl rfl rfl (by decide +kernel) ⟨by decide, by decide⟩) z_mv hKK hK hw hA hm_mm hf_mm rfl rfl rfl hl.1 rfl (Nat.le_of_ble_eq_true rfl) dX10_moor_159 ⟨by decide, by decide⟩ (fun u H locs hp hw => ?_)
        obtain ⟨L43, f44⟩ := u
        obtain ⟨hsb, hfm, nli_45, nha_46, nlw_47, nst_48, nfo_49, ndr_50, ha_0, ha_1, ha_2, ha_3, ha_4, ha_5, hq_ha, hq_lw, hq_st, hq_dr, hp⟩ := hp
        have hsb : L = L43 := hsb
        subst hsb
        have hsb : ∀ b ∈ L, b ∈ L := fun _ h => h
        have hw : z_H D vwCl (z_A L sz) s.heap L f44 H locs := hw
        have hfr : ∀ b ∈ L, b ≠ mm → b ≠ li → b ≠ ha → b ≠ lw → b ≠ st → b ≠ fo → b ≠ dr → f44 b = f b := fun b hb h0 h1 h2 h3 h4 h5 h6 => (hfm b hb h1 h2 h3 h4 h5 h6).trans (hfr b hb h0 h1 h2 h3 h4 h5 h6)
        have hf_mm : f44 mm = .inr (10, [.int 0, .ref wd, .ref my, .ref ce, .ref mv, .ref ta, .int 0, .int AT19, .int TK20, .int PL21, .int VA22, .long WO23, .int BA24, .int BP25, .int f2_38, .int p2_39, .ref li, .ref ha, .ref lw, .ref st, .ref fo, .ref dr, .int OT26, .ref ik, .int m24, .int m25, .long m26, .int m27, .int m28, .ref ro, .int m30, .ref ct, .ref se, .ref th, .ref cn, .ref be, .int m36, .ref du, .int m38, .ref db, .int m40, .int m41, .int m42, .ref pn, .ref wg, .ref wh, .ref tn, .ref he, .int m48, .ref tr, .ref fd, .ref po, .int m52, .int m53]) := (hfm mm hm_mm (z_tne hf_mm hf_li (m := 10) (n := 140) rfl rfl (by decide)) (z_tne hf_mm hf_ha (m := 10) (n := 340) rfl rfl (by decide)) (z_tne hf_mm hf_lw (m := 10) (n := 300) rfl rfl (by decide)) (z_tne hf_mm hf_st (m := 10) (n := 260) rfl rfl (by decide)) (z_tne hf_mm hf_fo (m := 10) (n := 1540) rfl rfl (by decide)) (z_tne hf_mm hf_dr (m := 10) (n := 4260) rfl rfl (by decide))).trans hf_mm
        have hf_ta : f44 ta = .inl (cy 0, 1600, .inl gta) := (hfm ta hm_ta (z_tne hf_ta hf_li (m := 12900) (n := 140) rfl rfl (by decide)) (z_tne hf_ta hf_ha (m := 12900) (n := 340) rfl rfl (by decide)) (z_tne hf_ta hf_lw (m := 12900) (n := 300) rfl rfl (by decide)) (z_tne hf_ta hf_st (m := 12900) (n := 260) rfl rfl (by decide)) (z_tne hf_ta hf_fo (m := 12900) (n := 1540) rfl rfl (by decide)) (z_tne hf_ta hf_dr (m := 12900) (n := 4260) rfl rfl (by decide))).trans hf_ta
        have hf_li : f44 li = .inl (cy 1, 5, .inl nli_45) := ha_0
        have hf_ha : f44 ha = .inl (cy 1, 30, .inl nha_46) := ha_1
        have hf_lw : f44 lw = .inl (cy 1, 25, .inl nlw_47) := ha_2
        have hf_st : f44 st = .inl (cy 1, 20, .inl nst_48) := ha_3
        have hf_fo : f44 fo = .inl (cy 1, 180, .inl nfo_49) := ha_4
        have hf_dr : f44 dr = .inl (cy 1, 520, .inl ndr_50) := ha_5
        have hea := hp
        refine lv_aload_n hx hb dX10_moor_162 rfl (lv_at hl 0 rfl) ?_
        refine z_get (C := RX10) (T := TX10) (N := 54) (ci := 10) (v := .ref li) hx hb hT zin_X10 hown hK hw hm_mm hf_mm rfl 16 (by decide) (hT _ kw_1184) rfl dX10_moor_163 ?_
        refine lv_iconst (v := 0) hx hb dX10_moor_166 (by decide) ?_
        refine z_iald hx hb hK hw 1 hm_li hf_li rfl (z_ix (show (0 : Int32).toInt = 0 by decide) (by decide)) dX10_moor_167 ?_
        refine lv_topi (fun w51 e_w51 => ?_)
        refine z_if_ne (tgt := 178) hx hb rfl dX10_moor_168 (by decide) (fun c52 => ?_) (fun c52 => ?_)
        · skip
          refine lv_aload_n hx hb dX10_moor_178 rfl (lv_at hl 0 rfl) ?_
          refine z_get (C := RX10) (T := TX10) (N := 54) (ci := 10) (v := .ref li) hx hb hT zin_X10 hown hK hw hm_mm hf_mm rfl 16 (by decide) (hT _ kw_1184) rfl dX10_moor_179 ?_
          refine lv_iconst (v := 0) hx hb dX10_moor_182 (by decide) ?_
          refine z_iald hx hb hK hw 1 hm_li hf_li rfl (z_ix (show (0 : Int32).toInt = 0 by decide) (by decide)) dX10_moor_183 ?_
          refine lv_topi (fun w53 e_w53 => ?_)
          exact z_iret hx hb hr hlk (by decide) (by decide) hw (⟨hsub, hfr, AT19, TK20, PL21, VA22, BA24, BP25, OT26, f2_38, p2_39, WO23, nli_45, nha_46, nlw_47, nst_48, nfo_49, ndr_50, hf_mm, hf_li, hf_ha, hf_lw, hf_st, hf_fo, hf_dr, hq_ha, hq_lw, hq_st, hq_dr, hea⟩) dX10_moor_184
        · skip
          refine lv_aload_n hx hb dX10_moor_171 rfl (lv_at hl 0 rfl) ?_
          refine z_get (C := RX10) (T := TX10) (N := 54) (ci := 10) (v := .ref ha) hx hb hT zin_X10 hown hK hw hm_mm hf_mm rfl 17 (by decide) (hT _ kw_1185) rfl dX10_moor_172 ?_
          refine lv_iconst (v := 2) hx hb dX10_moor_175 (by decide) ?_
          refine lv_iconst (v := 0) hx hb dX10_moor_176 (by decide) ?_
          refine z_iast hx hb hK hw 1 hm_ha hf_ha rfl (z_ix (show (2 : Int32).toInt = 2 by decide) (by decide)) dX10_moor_177 (fun H locs hw => ?_)
          obtain ⟨f55, e_f55⟩ : ∃ z, z = va_up f44 ha (.inl (cy 1, 30, .inl (upd nha_46 (2 : Int32).toNatClampNeg 0))) := ⟨_, rfl⟩
          rw [← e_f55] at hw
          have hf_mm : f55 mm = .inr (10, [.int 0, .ref wd, .ref my, .ref ce, .ref mv, .ref ta, .int 0, .int AT19, .int TK20, .int PL21, .int VA22, .long WO23, .int BA24, .int BP25, .int f2_38, .int p2_39, .ref li, .ref ha, .ref lw, .ref st, .ref fo, .ref dr, .int OT26, .ref ik, .int m24, .int m25, .long m26, .int m27, .int m28, .ref ro, .int m30, .ref ct, .ref se, .ref th, .ref cn, .ref be, .int m36, .ref du, .int m38, .ref db, .int m40, .int m41, .int m42, .ref pn, .ref wg, .ref wh, .ref tn, .ref he, .int m48, .ref tr, .ref fd, .ref po, .int m52, .int m53]) := (congrFun e_f55 mm).trans (z_up_ne (z_tne hf_mm hf_ha (m := 10) (n := 340) rfl rfl (by decide)) hf_mm)
          have hf_ta : f55 ta = .inl (cy 0, 1600, .inl gta) := (congrFun e_f55 ta).trans (z_up_ne (z_tne hf_ta hf_ha (m := 12900) (n := 340) rfl rfl (by decide)) hf_ta)
          have hf_li : f55 li = .inl (cy 1, 5, .inl nli_45) := (congrFun e_f55 li).trans (z_up_ne (z_tne hf_li hf_ha (m := 140) (n := 340) rfl rfl (by decide)) hf_li)
          have hf_lw : f55 lw = .inl (cy 1, 25, .inl nlw_47) := (congrFun e_f55 lw).trans (z_up_ne (z_tne hf_lw hf_ha (m := 300) (n := 340) rfl rfl (by decide)) hf_lw)
          have hf_st : f55 st = .inl (cy 1, 20, .inl nst_48) := (congrFun e_f55 st).trans (z_up_ne (z_tne hf_st hf_ha (m := 260) (n := 340) rfl rfl (by decide)) hf_st)
          have hf_fo : f55 fo = .inl (cy 1, 180, .inl nfo_49) := (congrFun e_f55 fo).trans (z_up_ne (z_tne hf_fo hf_ha (m := 1540) (n := 340) rfl rfl (by decide)) hf_fo)
          have hf_dr : f55 dr = .inl (cy 1, 520, .inl ndr_50) := (congrFun e_f55 dr).trans (z_up_ne (z_tne hf_dr hf_ha (m := 4260) (n := 340) rfl rfl (by decide)) hf_dr)
          have hf_ha : f55 ha = .inl (cy 1, 30, .inl (upd nha_46 (2 : Int32).toNatClampNeg 0)) := (congrFun e_f55 ha).trans z_up_self
          have hfr : ∀ b ∈ L, b ≠ mm → b ≠ li → b ≠ ha → b ≠ lw → b ≠ st → b ≠ fo → b ≠ dr → f55 b = f b := fun b hb h0 h1 h2 h3 h4 h5 h6 => (congrFun e_f55 b).trans (z_up_ne h2 (hfr b hb h0 h1 h2 h3 h4 h5 h6))
          obtain ⟨g54, e_g54⟩ : ∃ z, z = (upd nha_46 (2 : Int32).toNatClampNeg 0) := ⟨_, rfl⟩
          rw [← e_g54] at hf_ha
          have hq_ha : ∀ j : Nat, q_has j (g54 j) := z_updQ hq_ha e_g54 (show q_has _ _ from ⟨(fun h => absurd h (by decide)), (fun h => absurd h (by decide)), (fun _ => (show 0 ≤ (0 : Int32).toInt ∧ (0 : Int32).toInt ≤ 5 by first | decide | omega)), (fun h => absurd h (by decide))⟩)
          have hea := z_ea_has hea e_g54 (by decide)
          refine lv_aload_n hx hb dX10_moor_178 rfl (lv_at hl 0 rfl) ?_
          refine z_get (C := RX10) (T := TX10) (N := 54) (ci := 10) (v := .ref li) hx hb hT zin_X10 hown hK hw hm_mm hf_mm rfl 16 (by decide) (hT _ kw_1184) rfl dX10_moor_179 ?_
          refine lv_iconst (v := 0) hx hb dX10_moor_182 (by decide) ?_
          refine z_iald hx hb hK hw 1 hm_li hf_li rfl (z_ix (show (0 : Int32).toInt = 0 by decide) (by decide)) dX10_moor_183 ?_
          refine lv_topi (fun w56 e_w56 => ?_)
          exact z_iret hx hb hr hlk (by decide) (by decide) hw (⟨hsub, hfr, AT19, TK20, PL21, VA22, BA24, BP25, OT26, f2_38, p2_39, WO23, nli_45, g54, nlw_47, nst_48, nfo_49, ndr_50, hf_mm, hf_li, hf_ha, hf_lw, hf_st, hf_fo, hf_dr, hq_ha, hq_lw, hq_st, hq_dr, hea⟩) dX10_moor_184
      · skip
        refine lv_bipush (v := (-4)) hx hb dX10_moor_153 (by decide) ?_
        exact z_iret hx hb hr hlk (by decide) (by decide) hw (⟨hsub, hfr, AT19, TK20, PL21, VA22, BA24, BP25, OT26, f2_38, p2_39, WO23, G27, G28, G29, G30, G31, G32, hf_mm, hf_li, hf_ha, hf_lw, hf_st, hf_fo, hf_dr, hq_ha, hq_lw, hq_st, hq_dr, hea⟩) dX10_moor_155
    · skip
      refine lv_aload_n hx hb dX10_moor_27 rfl (lv_at hl 0 rfl) ?_
      refine z_get (C := RX10) (T := TX10) (N := 54) (ci := 10) (v := .ref li) hx hb hT zin_X10 hown hK hw hm_mm hf_mm rfl 16 (by decide) (hT _ kw_1184) rfl dX10_moor_28 ?_
      refine lv_iconst (v := 4) hx hb dX10_moor_31 (by decide) ?_
      refine z_iald hx hb hK hw 1 hm_li hf_li rfl (z_ix (show (4 : Int32).toInt = 4 by decide) (by decide)) dX10_moor_32 ?_
      refine lv_topi (fun w57 e_w57 => ?_)
      have hC : 0 ≤ AT19.toInt := by omega
      have hw4 : w57.toInt = (G27 4).toInt := by rw [e_w57]; rfl
      refine z_if_ne (tgt := 114) hx hb rfl dX10_moor_33 (by decide) (fun c58 => ?_) (fun c58 => ?_)
      · skip
        refine lv_aload_n hx hb dX10_moor_114 rfl (lv_at hl 0 rfl) ?_
        have hE2 : 2 ≤ (G29 23).toInt := by omega
        refine z_callvV (cells := 0) (slots := 0) (b := mm) (As := []) (rest := []) (ci := 10) (q0 := (RX10, TX10, 54)) ⟨hx, hb, hml, hown, hT⟩ (c_X10_line l hm_mm hm_ta hm_ha hm_lw hm_st hm_fo hm_dr hf_mm hf_ta hf_ha hf_lw hf_st hf_fo hf_dr hq_ha hq_lw hq_st hq_dr (by first | omega | decide | assumption) (by first | omega | decide | assumption) (by first | omega | decide | assumption)) (cwV 0 hT (z_goodV (fun _ h => h) kw_1427 kw_1429 kw_43 kw_96 kw_1430) rfl rfl rfl (by decide +kernel) ⟨by decide, by decide⟩) z_mv hKK hK hw hA hm_mm hf_mm rfl rfl rfl hl.1 rfl (Nat.le_of_ble_eq_true rfl) dX10_moor_115 ⟨by decide, by decide⟩ (fun u H locs hp hw => ?_)
        obtain ⟨L59, f60⟩ := u
        obtain ⟨hsb, hfm, a2_61, k2_62, p2_63, v2_64, b2_65, q2_66, t2_67, w2_68, nha_69, nlw_70, nst_71, nfo_72, ndr_73, ha_0, ha_1, ha_2, ha_3, ha_4, ha_5, hq_ha, hq_lw, hq_st, hq_dr, hp⟩ := hp
        have hsb : L = L59 := hsb
        subst hsb
        have hsb : ∀ b ∈ L, b ∈ L := fun _ h => h
        have hw : z_H D vwCl (z_A L sz) s.heap L f60 H locs := hw
        have hfr : ∀ b ∈ L, b ≠ mm → b ≠ li → b ≠ ha → b ≠ lw → b ≠ st → b ≠ fo → b ≠ dr → f60 b = f b := fun b hb h0 h1 h2 h3 h4 h5 h6 => (hfm b hb h0 h2 h3 h4 h5 h6).trans (hfr b hb h0 h1 h2 h3 h4 h5 h6)
        have hf_ta : f60 ta = .inl (cy 0, 1600, .inl gta) := (hfm ta hm_ta (z_tne hf_ta hf_mm (m := 12900) (n := 10) rfl rfl (by decide)) (z_tne hf_ta hf_ha (m := 12900) (n := 340) rfl rfl (by decide)) (z_tne hf_ta hf_lw (m := 12900) (n := 300) rfl rfl (by decide)) (z_tne hf_ta hf_st (m := 12900) (n := 260) rfl rfl (by decide)) (z_tne hf_ta hf_fo (m := 12900) (n := 1540) rfl rfl (by decide)) (z_tne hf_ta hf_dr (m := 12900) (n := 4260) rfl rfl (by decide))).trans hf_ta
        have hf_li : f60 li = .inl (cy 1, 5, .inl G27) := (hfm li hm_li (z_tne hf_li hf_mm (m := 140) (n := 10) rfl rfl (by decide)) (z_tne hf_li hf_ha (m := 140) (n := 340) rfl rfl (by decide)) (z_tne hf_li hf_lw (m := 140) (n := 300) rfl rfl (by decide)) (z_tne hf_li hf_st (m := 140) (n := 260) rfl rfl (by decide)) (z_tne hf_li hf_fo (m := 140) (n := 1540) rfl rfl (by decide)) (z_tne hf_li hf_dr (m := 140) (n := 4260) rfl rfl (by decide))).trans hf_li
        have hf_mm : f60 mm = .inr (10, [.int 0, .ref wd, .ref my, .ref ce, .ref mv, .ref ta, .int m6, .int a2_61, .int k2_62, .int p2_63, .int v2_64, .long w2_68, .int b2_65, .int q2_66, .int m14, .int m15, .ref li, .ref ha, .ref lw, .ref st, .ref fo, .ref dr, .int t2_67, .ref ik, .int m24, .int m25, .long m26, .int m27, .int m28, .ref ro, .int m30, .ref ct, .ref se, .ref th, .ref cn, .ref be, .int m36, .ref du, .int m38, .ref db, .int m40, .int m41, .int m42, .ref pn, .ref wg, .ref wh, .ref tn, .ref he, .int m48, .ref tr, .ref fd, .ref po, .int m52, .int m53]) := ha_0
        have hf_ha : f60 ha = .inl (cy 1, 30, .inl nha_69) := ha_1
        have hf_lw : f60 lw = .inl (cy 1, 25, .inl nlw_70) := ha_2
        have hf_st : f60 st = .inl (cy 1, 20, .inl nst_71) := ha_3
        have hf_fo : f60 fo = .inl (cy 1, 180, .inl nfo_72) := ha_4
        have hf_dr : f60 dr = .inl (cy 1, 520, .inl ndr_73) := ha_5
        have hE2 : 2 ≤ (nlw_70 23).toInt := by rw [hp.2.2.2.2]; exact hE2
        have hC_ : (0 ≤ a2_61.toInt ∧ a2_61.toInt ≤ m6.toInt) ∧ AT19.toInt ≤ a2_61.toInt ∧ (b2_65.toInt ≠ 0 ∨ k2_62.toInt ≠ 3 ∨ AT19.toInt < a2_61.toInt) := by refine ⟨⟨?_, ?_⟩, ?_, ?_⟩ <;> omega
        clear hp
        replace hC := hC_
        clear hC_
        refine lv_aload_n hx hb dX10_moor_118 rfl (lv_at hl 0 rfl) ?_
        refine z_calliV (cells := 0) (slots := 0) (b := mm) (As := []) (rest := []) (ci := 10) (q0 := (RX10, TX10, 54)) ⟨hx, hb, hml, hown, hT⟩ (c_X10_isGood l hm_mm hf_mm) (cwV 0 hT (z_goodV (fun _ h => h) kw_1394 kw_1396 kw_36 kw_96 kw_1397) rfl rfl rfl (by decide +kernel) ⟨by decide, by decide⟩) z_mv hKK hK hw hA hm_mm hf_mm rfl rfl rfl hl.1 rfl (Nat.le_of_ble_eq_true rfl) dX10_moor_119 ⟨by decide, by decide⟩ (fun r74 u H locs hp hw => ?_)
        obtain ⟨rfl, hp⟩ := hp
        have hw : z_H D vwCl (z_A L sz) s.heap L f60 H locs := hw
        rcases hp with ⟨rfl, h75⟩ | ⟨rfl, h75⟩
        · skip
          refine z_if_eq (tgt := 129) hx hb (show (1 : Int32).toInt = 1 by decide) dX10_moor_122 (by decide) (fun h => absurd h (by decide)) (fun _ => ?_)
          refine lv_aload_n hx hb dX10_moor_125 rfl (lv_at hl 0 rfl) ?_
          refine z_callvV (cells := 0) (slots := 0) (b := mm) (As := []) (rest := []) (ci := 10) (q0 := (RX10, TX10, 54)) ⟨hx, hb, hml, hown, hT⟩ (c_X10_ends l hm_mm hm_ta hf_mm hf_ta (by first | omega | decide | assumption) (by first | omega | decide | assumption)) (cwV 0 hT (z_goodV (fun _ h => h) kw_1463 kw_1465 kw_47 kw_96 kw_1466) rfl rfl rfl (by decide +kernel) ⟨by decide, by decide⟩) z_mv hKK hK hw hA hm_mm hf_mm rfl rfl rfl hl.1 rfl (Nat.le_of_ble_eq_true rfl) dX10_moor_126 ⟨by decide, by decide⟩ (fun u H locs hp hw => ?_)
          obtain ⟨L76, f77⟩ := u
          obtain ⟨hsb, hfm, a2_78, k2_79, p2_80, v2_81, b2_82, q2_83, w2_84, ha_0, hp⟩ := hp
          have hsb : L = L76 := hsb
          subst hsb
          have hsb : ∀ b ∈ L, b ∈ L := fun _ h => h
          have hw : z_H D vwCl (z_A L sz) s.heap L f77 H locs := hw
          have hfr : ∀ b ∈ L, b ≠ mm → b ≠ li → b ≠ ha → b ≠ lw → b ≠ st → b ≠ fo → b ≠ dr → f77 b = f b := fun b hb h0 h1 h2 h3 h4 h5 h6 => (hfm b hb h0).trans (hfr b hb h0 h1 h2 h3 h4 h5 h6)
          have hf_ta : f77 ta = .inl (cy 0, 1600, .inl gta) := (hfm ta hm_ta (z_tne hf_ta hf_mm (m := 12900) (n := 10) rfl rfl (by decide))).trans hf_ta
          have hf_li : f77 li = .inl (cy 1, 5, .inl G27) := (hfm li hm_li (z_tne hf_li hf_mm (m := 140) (n := 10) rfl rfl (by decide))).trans hf_li
          have hf_ha : f77 ha = .inl (cy 1, 30, .inl nha_69) := (hfm ha hm_ha (z_tne hf_ha hf_mm (m := 340) (n := 10) rfl rfl (by decide))).trans hf_ha
          have hf_lw : f77 lw = .inl (cy 1, 25, .inl nlw_70) := (hfm lw hm_lw (z_tne hf_lw hf_mm (m := 300) (n := 10) rfl rfl (by decide))).trans hf_lw
          have hf_st : f77 st = .inl (cy 1, 20, .inl nst_71) := (hfm st hm_st (z_tne hf_st hf_mm (m := 260) (n := 10) rfl rfl (by decide))).trans hf_st
          have hf_fo : f77 fo = .inl (cy 1, 180, .inl nfo_72) := (hfm fo hm_fo (z_tne hf_fo hf_mm (m := 1540) (n := 10) rfl rfl (by decide))).trans hf_fo
          have hf_dr : f77 dr = .inl (cy 1, 520, .inl ndr_73) := (hfm dr hm_dr (z_tne hf_dr hf_mm (m := 4260) (n := 10) rfl rfl (by decide))).trans hf_dr
          have hf_mm : f77 mm = .inr (10, [.int 0, .ref wd, .ref my, .ref ce, .ref mv, .ref ta, .int m6, .int a2_78, .int k2_79, .int p2_80, .int v2_81, .long w2_84, .int b2_82, .int q2_83, .int m14, .int m15, .ref li, .ref ha, .ref lw, .ref st, .ref fo, .ref dr, .int t2_67, .ref ik, .int m24, .int m25, .long m26, .int m27, .int m28, .ref ro, .int m30, .ref ct, .ref se, .ref th, .ref cn, .ref be, .int m36, .ref du, .int m38, .ref db, .int m40, .int m41, .int m42, .ref pn, .ref wg, .ref wh, .ref tn, .ref he, .int m48, .ref tr, .ref fd, .ref po, .int m52, .int m53]) := ha_0
          have hq85 := hp
          refine lv_aload_n hx hb dX10_moor_129 rfl (lv_at hl 0 rfl) ?_
          refine z_get (C := RX10) (T := TX10) (N := 54) (ci := 10) (v := .ref li) hx hb hT zin_X10 hown hK hw hm_mm hf_mm rfl 16 (by decide) (hT _ kw_1184) rfl dX10_moor_130 ?_
          refine lv_iconst (v := 4) hx hb dX10_moor_133 (by decide) ?_
          refine lv_dup2_11 hx hb dX10_moor_134 rfl rfl ?_
          refine z_iald hx hb hK hw 1 hm_li hf_li rfl (z_ix (show (4 : Int32).toInt = 4 by decide) (by decide)) dX10_moor_135 ?_
          refine lv_topi (fun w86 e_w86 => ?_)
          refine lv_iconst (v := 1) hx hb dX10_moor_136 (by decide) ?_
          refine lv_iadd hx hb dX10_moor_137 ?_
          refine lv_topi (fun w87 e_w87 => ?_)
          refine z_iast hx hb hK hw 1 hm_li hf_li rfl (z_ix (show (4 : Int32).toInt = 4 by decide) (by decide)) dX10_moor_138 (fun H locs hw => ?_)
          obtain ⟨f89, e_f89⟩ : ∃ z, z = va_up f77 li (.inl (cy 1, 5, .inl (upd G27 (4 : Int32).toNatClampNeg w87))) := ⟨_, rfl⟩
          rw [← e_f89] at hw
          have hf_mm : f89 mm = .inr (10, [.int 0, .ref wd, .ref my, .ref ce, .ref mv, .ref ta, .int m6, .int a2_78, .int k2_79, .int p2_80, .int v2_81, .long w2_84, .int b2_82, .int q2_83, .int m14, .int m15, .ref li, .ref ha, .ref lw, .ref st, .ref fo, .ref dr, .int t2_67, .ref ik, .int m24, .int m25, .long m26, .int m27, .int m28, .ref ro, .int m30, .ref ct, .ref se, .ref th, .ref cn, .ref be, .int m36, .ref du, .int m38, .ref db, .int m40, .int m41, .int m42, .ref pn, .ref wg, .ref wh, .ref tn, .ref he, .int m48, .ref tr, .ref fd, .ref po, .int m52, .int m53]) := (congrFun e_f89 mm).trans (z_up_ne (z_tne hf_mm hf_li (m := 10) (n := 140) rfl rfl (by decide)) hf_mm)
          have hf_ta : f89 ta = .inl (cy 0, 1600, .inl gta) := (congrFun e_f89 ta).trans (z_up_ne (z_tne hf_ta hf_li (m := 12900) (n := 140) rfl rfl (by decide)) hf_ta)
          have hf_ha : f89 ha = .inl (cy 1, 30, .inl nha_69) := (congrFun e_f89 ha).trans (z_up_ne (z_tne hf_ha hf_li (m := 340) (n := 140) rfl rfl (by decide)) hf_ha)
          have hf_lw : f89 lw = .inl (cy 1, 25, .inl nlw_70) := (congrFun e_f89 lw).trans (z_up_ne (z_tne hf_lw hf_li (m := 300) (n := 140) rfl rfl (by decide)) hf_lw)
          have hf_st : f89 st = .inl (cy 1, 20, .inl nst_71) := (congrFun e_f89 st).trans (z_up_ne (z_tne hf_st hf_li (m := 260) (n := 140) rfl rfl (by decide)) hf_st)
          have hf_fo : f89 fo = .inl (cy 1, 180, .inl nfo_72) := (congrFun e_f89 fo).trans (z_up_ne (z_tne hf_fo hf_li (m := 1540) (n := 140) rfl rfl (by decide)) hf_fo)
          have hf_dr : f89 dr = .inl (cy 1, 520, .inl ndr_73) := (congrFun e_f89 dr).trans (z_up_ne (z_tne hf_dr hf_li (m := 4260) (n := 140) rfl rfl (by decide)) hf_dr)
          have hf_li : f89 li = .inl (cy 1, 5, .inl (upd G27 (4 : Int32).toNatClampNeg w87)) := (congrFun e_f89 li).trans z_up_self
          have hfr : ∀ b ∈ L, b ≠ mm → b ≠ li → b ≠ ha → b ≠ lw → b ≠ st → b ≠ fo → b ≠ dr → f89 b = f b := fun b hb h0 h1 h2 h3 h4 h5 h6 => (congrFun e_f89 b).trans (z_up_ne h1 (hfr b hb h0 h1 h2 h3 h4 h5 h6))
          obtain ⟨g88, e_g88⟩ : ∃ z, z = (upd G27 (4 : Int32).toNatClampNeg w87) := ⟨_, rfl⟩
          rw [← e_g88] at hf_li
          refine lv_goto (tgt := 13) hx hb dX10_moor_139 (by decide) ?_
          by_cases hbz : b2_82.toInt = 0
          · exact ih_13 (m6.toInt - a2_78.toInt + 1).toNat (by omega) _ _ _ ⟨g88, nha_69, nlw_70, nst_71, nfo_72, ndr_73, a2_78, k2_79, p2_80, v2_81, w2_84, b2_82, q2_83, t2_67, f89, Or.inr (by omega), (by first | decide | omega), (by first | decide | omega), (Or.inr hE2), (Or.inl hE2), hw, hf_mm, hf_ta, hf_li, hf_ha, hf_lw, hf_st, hf_fo, hf_dr, hfr, hq_ha, hq_lw, hq_st, hq_dr, (lv_sub hl [0] rfl)⟩
          · exact ih_13 (n - 1) (by omega) _ _ _ ⟨g88, nha_69, nlw_70, nst_71, nfo_72, ndr_73, a2_78, k2_79, p2_80, v2_81, w2_84, b2_82, q2_83, t2_67, f89, Or.inl hbz, (by first | decide | omega), (by first | decide | omega), (Or.inr hE2), (Or.inl hE2), hw, hf_mm, hf_ta, hf_li, hf_ha, hf_lw, hf_st, hf_fo, hf_dr, hfr, hq_ha, hq_lw, hq_st, hq_dr, (lv_sub hl [0] rfl)⟩
        · skip
          refine z_if_eq (tgt := 129) hx hb (show (0 : Int32).toInt = 0 by decide) dX10_moor_122 (by decide) (fun _ => ?_) (fun h => absurd h (by decide))
          refine lv_aload_n hx hb dX10_moor_129 rfl (lv_at hl 0 rfl) ?_
          refine z_get (C := RX10) (T := TX10) (N := 54) (ci := 10) (v := .ref li) hx hb hT zin_X10 hown hK hw hm_mm hf_mm rfl 16 (by decide) (hT _ kw_1184) rfl dX10_moor_130 ?_
          refine lv_iconst (v := 4) hx hb dX10_moor_133 (by decide) ?_
          refine lv_dup2_11 hx hb dX10_moor_134 rfl rfl ?_
          refine z_iald hx hb hK hw 1 hm_li hf_li rfl (z_ix (show (4 : Int32).toInt = 4 by decide) (by decide)) dX10_moor_135 ?_
          refine lv_topi (fun w90 e_w90 => ?_)
          refine lv_iconst (v := 1) hx hb dX10_moor_136 (by decide) ?_
          refine lv_iadd hx hb dX10_moor_137 ?_
          refine lv_topi (fun w91 e_w91 => ?_)
          refine z_iast hx hb hK hw 1 hm_li hf_li rfl (z_ix (show (4 : Int32).toInt = 4 by decide) (by decide)) dX10_moor_138 (fun H locs hw => ?_)
          obtain ⟨f93, e_f93⟩ : ∃ z, z = va_up f60 li (.inl (cy 1, 5, .inl (upd G27 (4 : Int32).toNatClampNeg w91))) := ⟨_, rfl⟩
          rw [← e_f93] at hw
          have hf_mm : f93 mm = .inr (10, [.int 0, .ref wd, .ref my, .ref ce, .ref mv, .ref ta, .int m6, .int a2_61, .int k2_62, .int p2_63, .int v2_64, .long w2_68, .int b2_65, .int q2_66, .int m14, .int m15, .ref li, .ref ha, .ref lw, .ref st, .ref fo, .ref dr, .int t2_67, .ref ik, .int m24, .int m25, .long m26, .int m27, .int m28, .ref ro, .int m30, .ref ct, .ref se, .ref th, .ref cn, .ref be, .int m36, .ref du, .int m38, .ref db, .int m40, .int m41, .int m42, .ref pn, .ref wg, .ref wh, .ref tn, .ref he, .int m48, .ref tr, .ref fd, .ref po, .int m52, .int m53]) := (congrFun e_f93 mm).trans (z_up_ne (z_tne hf_mm hf_li (m := 10) (n := 140) rfl rfl (by decide)) hf_mm)
          have hf_ta : f93 ta = .inl (cy 0, 1600, .inl gta) := (congrFun e_f93 ta).trans (z_up_ne (z_tne hf_ta hf_li (m := 12900) (n := 140) rfl rfl (by decide)) hf_ta)
          have hf_ha : f93 ha = .inl (cy 1, 30, .inl nha_69) := (congrFun e_f93 ha).trans (z_up_ne (z_tne hf_ha hf_li (m := 340) (n := 140) rfl rfl (by decide)) hf_ha)
          have hf_lw : f93 lw = .inl (cy 1, 25, .inl nlw_70) := (congrFun e_f93 lw).trans (z_up_ne (z_tne hf_lw hf_li (m := 300) (n := 140) rfl rfl (by decide)) hf_lw)
          have hf_st : f93 st = .inl (cy 1, 20, .inl nst_71) := (congrFun e_f93 st).trans (z_up_ne (z_tne hf_st hf_li (m := 260) (n := 140) rfl rfl (by decide)) hf_st)
          have hf_fo : f93 fo = .inl (cy 1, 180, .inl nfo_72) := (congrFun e_f93 fo).trans (z_up_ne (z_tne hf_fo hf_li (m := 1540) (n := 140) rfl rfl (by decide)) hf_fo)
          have hf_dr : f93 dr = .inl (cy 1, 520, .inl ndr_73) := (congrFun e_f93 dr).trans (z_up_ne (z_tne hf_dr hf_li (m := 4260) (n := 140) rfl rfl (by decide)) hf_dr)
          have hf_li : f93 li = .inl (cy 1, 5, .inl (upd G27 (4 : Int32).toNatClampNeg w91)) := (congrFun e_f93 li).trans z_up_self
          have hfr : ∀ b ∈ L, b ≠ mm → b ≠ li → b ≠ ha → b ≠ lw → b ≠ st → b ≠ fo → b ≠ dr → f93 b = f b := fun b hb h0 h1 h2 h3 h4 h5 h6 => (congrFun e_f93 b).trans (z_up_ne h1 (hfr b hb h0 h1 h2 h3 h4 h5 h6))
          obtain ⟨g92, e_g92⟩ : ∃ z, z = (upd G27 (4 : Int32).toNatClampNeg w91) := ⟨_, rfl⟩
          rw [← e_g92] at hf_li
          refine lv_goto (tgt := 13) hx hb dX10_moor_139 (by decide) ?_
          by_cases hbz : b2_65.toInt = 0
          · exact ih_13 (m6.toInt - a2_61.toInt + 1).toNat (by omega) _ _ _ ⟨g92, nha_69, nlw_70, nst_71, nfo_72, ndr_73, a2_61, k2_62, p2_63, v2_64, w2_68, b2_65, q2_66, t2_67, f93, Or.inr (by omega), (by first | decide | omega), (by first | decide | omega), (Or.inr hE2), (Or.inl hE2), hw, hf_mm, hf_ta, hf_li, hf_ha, hf_lw, hf_st, hf_fo, hf_dr, hfr, hq_ha, hq_lw, hq_st, hq_dr, (lv_sub hl [0] rfl)⟩
          · exact ih_13 (n - 1) (by omega) _ _ _ ⟨g92, nha_69, nlw_70, nst_71, nfo_72, ndr_73, a2_61, k2_62, p2_63, v2_64, w2_68, b2_65, q2_66, t2_67, f93, Or.inl hbz, (by first | decide | omega), (by first | decide | omega), (Or.inr hE2), (Or.inl hE2), hw, hf_mm, hf_ta, hf_li, hf_ha, hf_lw, hf_st, hf_fo, hf_dr, hfr, hq_ha, hq_lw, hq_st, hq_dr, (lv_sub hl [0] rfl)⟩
      · skip
        refine lv_aload_n hx hb dX10_moor_36 rfl (lv_at hl 0 rfl) ?_
        refine lv_ldc2 (v := 267237) hx hb hown (hT _ kw_1398) dX10_moor_37 ?_
        have hz94 := (show (267237 : Int64).toInt = 267237 by decide)
        refine z_callvV (cells := 0) (slots := 0) (b := mm) (As := [.long 267237]) (rest := []) (ci := 10) (q0 := (RX10, TX10, 54)) ⟨hx, hb, hml, hown, hT⟩ (c_X10_asks l hm_mm hm_ta hf_mm hf_ta (by first | omega | decide | assumption) (by first | omega | decide | assumption)) (cwV 1 hT (z_goodV (fun _ h => h) kw_1399 kw_1401 kw_37 kw_96 kw_1402) rfl rfl rfl (by decide +kernel) ⟨by decide, by decide⟩) z_mv hKK hK hw hA hm_mm hf_mm rfl rfl rfl hl.1 rfl (Nat.le_of_ble_eq_true rfl) dX10_moor_40 ⟨by decide, by decide⟩ (fun u H locs hp hw => ?_)
        obtain ⟨L95, f96⟩ := u
        obtain ⟨hsb, hfm, a2_97, k2_98, p2_99, v2_100, b2_101, q2_102, w2_103, ha_0, hp⟩ := hp
        have hsb : L = L95 := hsb
        subst hsb
        have hsb : ∀ b ∈ L, b ∈ L := fun _ h => h
        have hw : z_H D vwCl (z_A L sz) s.heap L f96 H locs := hw
        have hfr : ∀ b ∈ L, b ≠ mm → b ≠ li → b ≠ ha → b ≠ lw → b ≠ st → b ≠ fo → b ≠ dr → f96 b = f b := fun b hb h0 h1 h2 h3 h4 h5 h6 => (hfm b hb h0).trans (hfr b hb h0 h1 h2 h3 h4 h5 h6)
        have hf_ta : f96 ta = .inl (cy 0, 1600, .inl gta) := (hfm ta hm_ta (z_tne hf_ta hf_mm (m := 12900) (n := 10) rfl rfl (by decide))).trans hf_ta
        have hf_li : f96 li = .inl (cy 1, 5, .inl G27) := (hfm li hm_li (z_tne hf_li hf_mm (m := 140) (n := 10) rfl rfl (by decide))).trans hf_li
        have hf_ha : f96 ha = .inl (cy 1, 30, .inl G28) := (hfm ha hm_ha (z_tne hf_ha hf_mm (m := 340) (n := 10) rfl rfl (by decide))).trans hf_ha
        have hf_lw : f96 lw = .inl (cy 1, 25, .inl G29) := (hfm lw hm_lw (z_tne hf_lw hf_mm (m := 300) (n := 10) rfl rfl (by decide))).trans hf_lw
        have hf_st : f96 st = .inl (cy 1, 20, .inl G30) := (hfm st hm_st (z_tne hf_st hf_mm (m := 260) (n := 10) rfl rfl (by decide))).trans hf_st
        have hf_fo : f96 fo = .inl (cy 1, 180, .inl G31) := (hfm fo hm_fo (z_tne hf_fo hf_mm (m := 1540) (n := 10) rfl rfl (by decide))).trans hf_fo
        have hf_dr : f96 dr = .inl (cy 1, 520, .inl G32) := (hfm dr hm_dr (z_tne hf_dr hf_mm (m := 4260) (n := 10) rfl rfl (by decide))).trans hf_dr
        have hf_mm : f96 mm = .inr (10, [.int 0, .ref wd, .ref my, .ref ce, .ref mv, .ref ta, .int m6, .int a2_97, .int k2_98, .int p2_99, .int v2_100, .long w2_103, .int b2_101, .int q2_102, .int m14, .int m15, .ref li, .ref ha, .ref lw, .ref st, .ref fo, .ref dr, .int OT26, .ref ik, .int m24, .int m25, .long m26, .int m27, .int m28, .ref ro, .int m30, .ref ct, .ref se, .ref th, .ref cn, .ref be, .int m36, .ref du, .int m38, .ref db, .int m40, .int m41, .int m42, .ref pn, .ref wg, .ref wh, .ref tn, .ref he, .int m48, .ref tr, .ref fd, .ref po, .int m52, .int m53]) := ha_0
        have hC_ : (0 ≤ a2_97.toInt ∧ a2_97.toInt ≤ m6.toInt) ∧ AT19.toInt ≤ a2_97.toInt ∧ (b2_101.toInt ≠ 0 ∨ k2_98.toInt ≠ 3 ∨ AT19.toInt < a2_97.toInt) := by refine ⟨⟨?_, ?_⟩, ?_, ?_⟩ <;> omega
        clear hp
        replace hC := hC_
        clear hC_
        refine lv_aload_n hx hb dX10_moor_43 rfl (lv_at hl 0 rfl) ?_
        refine z_get (C := RX10) (T := TX10) (N := 54) (ci := 10) (v := .ref ha) hx hb hT zin_X10 hown hK hw hm_mm hf_mm rfl 17 (by decide) (hT _ kw_1185) rfl dX10_moor_44 ?_
        refine lv_bipush (v := 24) hx hb dX10_moor_47 (by decide) ?_
        refine lv_aload_n hx hb dX10_moor_49 rfl (lv_at hl 0 rfl) ?_
        refine lv_ldc2 (v := 138961) hx hb hown (hT _ kw_1415) dX10_moor_50 ?_
        refine lv_iconst (v := 1) hx hb dX10_moor_53 (by decide) ?_
        refine lv_iconst (v := 4) hx hb dX10_moor_54 (by decide) ?_
        have hz104 := (show (138961 : Int64).toInt = 138961 by decide)
        have hz105 := (show (1 : Int32).toInt = 1 by decide)
        have hz106 := (show (4 : Int32).toInt = 4 by decide)
        refine z_calliV (cells := 0) (slots := 0) (b := mm) (As := [.long 138961, .int 1, .int 4]) (rest := [.int 24, .ref ha]) (ci := 10) (q0 := (RX10, TX10, 54)) ⟨hx, hb, hml, hown, hT⟩ (c_X10_number_ l hm_mm hm_ta hf_mm hf_ta (by first | omega | decide | assumption) (by first | omega | decide | assumption)) (cwV 3 hT (z_goodV (fun _ h => h) kw_1416 kw_1418 kw_41 kw_96 kw_1419) rfl rfl rfl (by decide +kernel) ⟨by decide, by decide⟩) z_mv hKK hK hw hA hm_mm hf_mm rfl rfl rfl hl.1 rfl (Nat.le_of_ble_eq_true rfl) dX10_moor_55 ⟨by decide, by decide⟩ (fun r107 u H locs hp hw => ?_)
        obtain ⟨L108, f109⟩ := u
        obtain ⟨hsb, hfm, a2_110, k2_111, p2_112, v2_113, b2_114, q2_115, w2_116, ha_0, hp⟩ := hp
        have hsb : L = L108 := hsb
        subst hsb
        have hsb : ∀ b ∈ L, b ∈ L := fun _ h => h
        have hw : z_H D vwCl (z_A L sz) s.heap L f109 H locs := hw
        have hfr : ∀ b ∈ L, b ≠ mm → b ≠ li → b ≠ ha → b ≠ lw → b ≠ st → b ≠ fo → b ≠ dr → f109 b = f b := fun b hb h0 h1 h2 h3 h4 h5 h6 => (hfm b hb h0).trans (hfr b hb h0 h1 h2 h3 h4 h5 h6)
        have hf_ta : f109 ta = .inl (cy 0, 1600, .inl gta) := (hfm ta hm_ta (z_tne hf_ta hf_mm (m := 12900) (n := 10) rfl rfl (by decide))).trans hf_ta
        have hf_li : f109 li = .inl (cy 1, 5, .inl G27) := (hfm li hm_li (z_tne hf_li hf_mm (m := 140) (n := 10) rfl rfl (by decide))).trans hf_li
        have hf_ha : f109 ha = .inl (cy 1, 30, .inl G28) := (hfm ha hm_ha (z_tne hf_ha hf_mm (m := 340) (n := 10) rfl rfl (by decide))).trans hf_ha
        have hf_lw : f109 lw = .inl (cy 1, 25, .inl G29) := (hfm lw hm_lw (z_tne hf_lw hf_mm (m := 300) (n := 10) rfl rfl (by decide))).trans hf_lw
        have hf_st : f109 st = .inl (cy 1, 20, .inl G30) := (hfm st hm_st (z_tne hf_st hf_mm (m := 260) (n := 10) rfl rfl (by decide))).trans hf_st
        have hf_fo : f109 fo = .inl (cy 1, 180, .inl G31) := (hfm fo hm_fo (z_tne hf_fo hf_mm (m := 1540) (n := 10) rfl rfl (by decide))).trans hf_fo
        have hf_dr : f109 dr = .inl (cy 1, 520, .inl G32) := (hfm dr hm_dr (z_tne hf_dr hf_mm (m := 4260) (n := 10) rfl rfl (by decide))).trans hf_dr
        have hf_mm : f109 mm = .inr (10, [.int 0, .ref wd, .ref my, .ref ce, .ref mv, .ref ta, .int m6, .int a2_110, .int k2_111, .int p2_112, .int v2_113, .long w2_116, .int b2_114, .int q2_115, .int m14, .int m15, .ref li, .ref ha, .ref lw, .ref st, .ref fo, .ref dr, .int OT26, .ref ik, .int m24, .int m25, .long m26, .int m27, .int m28, .ref ro, .int m30, .ref ct, .ref se, .ref th, .ref cn, .ref be, .int m36, .ref du, .int m38, .ref db, .int m40, .int m41, .int m42, .ref pn, .ref wg, .ref wh, .ref tn, .ref he, .int m48, .ref tr, .ref fd, .ref po, .int m52, .int m53]) := ha_0
        have hR_r107 : 1 ≤ r107.toInt ∧ r107.toInt ≤ 4 := by omega
        have hC_ : (0 ≤ a2_110.toInt ∧ a2_110.toInt ≤ m6.toInt) ∧ AT19.toInt ≤ a2_110.toInt ∧ (b2_114.toInt ≠ 0 ∨ k2_111.toInt ≠ 3 ∨ AT19.toInt < a2_110.toInt) := by refine ⟨⟨?_, ?_⟩, ?_, ?_⟩ <;> omega
        clear hp
        replace hC := hC_
        clear hC_
        refine z_iast hx hb hK hw 1 hm_ha hf_ha rfl (z_ix (show (24 : Int32).toInt = 24 by decide) (by decide)) dX10_moor_58 (fun H locs hw => ?_)
        obtain ⟨f118, e_f118⟩ : ∃ z, z = va_up f109 ha (.inl (cy 1, 30, .inl (upd G28 (24 : Int32).toNatClampNeg r107))) := ⟨_, rfl⟩
        rw [← e_f118] at hw
        have hf_mm : f118 mm = .inr (10, [.int 0, .ref wd, .ref my, .ref ce, .ref mv, .ref ta, .int m6, .int a2_110, .int k2_111, .int p2_112, .int v2_113, .long w2_116, .int b2_114, .int q2_115, .int m14, .int m15, .ref li, .ref ha, .ref lw, .ref st, .ref fo, .ref dr, .int OT26, .ref ik, .int m24, .int m25, .long m26, .int m27, .int m28, .ref ro, .int m30, .ref ct, .ref se, .ref th, .ref cn, .ref be, .int m36, .ref du, .int m38, .ref db, .int m40, .int m41, .int m42, .ref pn, .ref wg, .ref wh, .ref tn, .ref he, .int m48, .ref tr, .ref fd, .ref po, .int m52, .int m53]) := (congrFun e_f118 mm).trans (z_up_ne (z_tne hf_mm hf_ha (m := 10) (n := 340) rfl rfl (by decide)) hf_mm)
        have hf_ta : f118 ta = .inl (cy 0, 1600, .inl gta) := (congrFun e_f118 ta).trans (z_up_ne (z_tne hf_ta hf_ha (m := 12900) (n := 340) rfl rfl (by decide)) hf_ta)
        have hf_li : f118 li = .inl (cy 1, 5, .inl G27) := (congrFun e_f118 li).trans (z_up_ne (z_tne hf_li hf_ha (m := 140) (n := 340) rfl rfl (by decide)) hf_li)
        have hf_lw : f118 lw = .inl (cy 1, 25, .inl G29) := (congrFun e_f118 lw).trans (z_up_ne (z_tne hf_lw hf_ha (m := 300) (n := 340) rfl rfl (by decide)) hf_lw)
        have hf_st : f118 st = .inl (cy 1, 20, .inl G30) := (congrFun e_f118 st).trans (z_up_ne (z_tne hf_st hf_ha (m := 260) (n := 340) rfl rfl (by decide)) hf_st)
        have hf_fo : f118 fo = .inl (cy 1, 180, .inl G31) := (congrFun e_f118 fo).trans (z_up_ne (z_tne hf_fo hf_ha (m := 1540) (n := 340) rfl rfl (by decide)) hf_fo)
        have hf_dr : f118 dr = .inl (cy 1, 520, .inl G32) := (congrFun e_f118 dr).trans (z_up_ne (z_tne hf_dr hf_ha (m := 4260) (n := 340) rfl rfl (by decide)) hf_dr)
        have hf_ha : f118 ha = .inl (cy 1, 30, .inl (upd G28 (24 : Int32).toNatClampNeg r107)) := (congrFun e_f118 ha).trans z_up_self
        have hfr : ∀ b ∈ L, b ≠ mm → b ≠ li → b ≠ ha → b ≠ lw → b ≠ st → b ≠ fo → b ≠ dr → f118 b = f b := fun b hb h0 h1 h2 h3 h4 h5 h6 => (congrFun e_f118 b).trans (z_up_ne h2 (hfr b hb h0 h1 h2 h3 h4 h5 h6))
        obtain ⟨g117, e_g117⟩ : ∃ z, z = (upd G28 (24 : Int32).toNatClampNeg r107) := ⟨_, rfl⟩
        rw [← e_g117] at hf_ha
        have hq_ha : ∀ j : Nat, (q_hasR gha) j (g117 j) := z_updQ hq_ha e_g117 (show q_hasR _ _ _ from ⟨(show q_has _ _ from ⟨(fun _ => (show 0 ≤ (r107 : Int32).toInt ∧ (r107 : Int32).toInt ≤ 4 by first | decide | omega)), (fun h => absurd h (by decide)), (fun h => absurd h (by decide)), (fun h => absurd h (by decide))⟩), fun h => absurd h (by decide)⟩)
        refine lv_aload_n hx hb dX10_moor_59 rfl (lv_at hl 0 rfl) ?_
        refine z_get (C := RX10) (T := TX10) (N := 54) (ci := 10) (v := .ref ha) hx hb hT zin_X10 hown hK hw hm_mm hf_mm rfl 17 (by decide) (hT _ kw_1185) rfl dX10_moor_60 ?_
        refine lv_bipush (v := 25) hx hb dX10_moor_63 (by decide) ?_
        refine lv_aload_n hx hb dX10_moor_65 rfl (lv_at hl 0 rfl) ?_
        refine lv_ldc2 (v := 80155) hx hb hown (hT _ kw_1424) dX10_moor_66 ?_
        refine lv_iconst (v := 1) hx hb dX10_moor_69 (by decide) ?_
        refine lv_bipush (v := 9) hx hb dX10_moor_70 (by decide) ?_
        have hz119 := (show (80155 : Int64).toInt = 80155 by decide)
        have hz120 := (show (1 : Int32).toInt = 1 by decide)
        have hz121 := (show (9 : Int32).toInt = 9 by decide)
        refine z_calliV (cells := 0) (slots := 0) (b := mm) (As := [.long 80155, .int 1, .int 9]) (rest := [.int 25, .ref ha]) (ci := 10) (q0 := (RX10, TX10, 54)) ⟨hx, hb, hml, hown, hT⟩ (c_X10_number_ l hm_mm hm_ta hf_mm hf_ta (by first | omega | decide | assumption) (by first | omega | decide | assumption)) (cwV 3 hT (z_goodV (fun _ h => h) kw_1416 kw_1418 kw_41 kw_96 kw_1419) rfl rfl rfl (by decide +kernel) ⟨by decide, by decide⟩) z_mv hKK hK hw hA hm_mm hf_mm rfl rfl rfl hl.1 rfl (Nat.le_of_ble_eq_true rfl) dX10_moor_72 ⟨by decide, by decide⟩ (fun r122 u H locs hp hw => ?_)
        obtain ⟨L123, f124⟩ := u
        obtain ⟨hsb, hfm, a2_125, k2_126, p2_127, v2_128, b2_129, q2_130, w2_131, ha_0, hp⟩ := hp
        have hsb : L = L123 := hsb
        subst hsb
        have hsb : ∀ b ∈ L, b ∈ L := fun _ h => h
        have hw : z_H D vwCl (z_A L sz) s.heap L f124 H locs := hw
        have hfr : ∀ b ∈ L, b ≠ mm → b ≠ li → b ≠ ha → b ≠ lw → b ≠ st → b ≠ fo → b ≠ dr → f124 b = f b := fun b hb h0 h1 h2 h3 h4 h5 h6 => (hfm b hb h0).trans (hfr b hb h0 h1 h2 h3 h4 h5 h6)
        have hf_ta : f124 ta = .inl (cy 0, 1600, .inl gta) := (hfm ta hm_ta (z_tne hf_ta hf_mm (m := 12900) (n := 10) rfl rfl (by decide))).trans hf_ta
        have hf_li : f124 li = .inl (cy 1, 5, .inl G27) := (hfm li hm_li (z_tne hf_li hf_mm (m := 140) (n := 10) rfl rfl (by decide))).trans hf_li
        have hf_ha : f124 ha = .inl (cy 1, 30, .inl g117) := (hfm ha hm_ha (z_tne hf_ha hf_mm (m := 340) (n := 10) rfl rfl (by decide))).trans hf_ha
        have hf_lw : f124 lw = .inl (cy 1, 25, .inl G29) := (hfm lw hm_lw (z_tne hf_lw hf_mm (m := 300) (n := 10) rfl rfl (by decide))).trans hf_lw
        have hf_st : f124 st = .inl (cy 1, 20, .inl G30) := (hfm st hm_st (z_tne hf_st hf_mm (m := 260) (n := 10) rfl rfl (by decide))).trans hf_st
        have hf_fo : f124 fo = .inl (cy 1, 180, .inl G31) := (hfm fo hm_fo (z_tne hf_fo hf_mm (m := 1540) (n := 10) rfl rfl (by decide))).trans hf_fo
        have hf_dr : f124 dr = .inl (cy 1, 520, .inl G32) := (hfm dr hm_dr (z_tne hf_dr hf_mm (m := 4260) (n := 10) rfl rfl (by decide))).trans hf_dr
        have hf_mm : f124 mm = .inr (10, [.int 0, .ref wd, .ref my, .ref ce, .ref mv, .ref ta, .int m6, .int a2_125, .int k2_126, .int p2_127, .int v2_128, .long w2_131, .int b2_129, .int q2_130, .int m14, .int m15, .ref li, .ref ha, .ref lw, .ref st, .ref fo, .ref dr, .int OT26, .ref ik, .int m24, .int m25, .long m26, .int m27, .int m28, .ref ro, .int m30, .ref ct, .ref se, .ref th, .ref cn, .ref be, .int m36, .ref du, .int m38, .ref db, .int m40, .int m41, .int m42, .ref pn, .ref wg, .ref wh, .ref tn, .ref he, .int m48, .ref tr, .ref fd, .ref po, .int m52, .int m53]) := ha_0
        have hR_r122 : 1 ≤ r122.toInt ∧ r122.toInt ≤ 9 := by omega
        have hC_ : (0 ≤ a2_125.toInt ∧ a2_125.toInt ≤ m6.toInt) ∧ AT19.toInt ≤ a2_125.toInt ∧ (b2_129.toInt ≠ 0 ∨ k2_126.toInt ≠ 3 ∨ AT19.toInt < a2_125.toInt) := by refine ⟨⟨?_, ?_⟩, ?_, ?_⟩ <;> omega
        clear hp
        replace hC := hC_
        clear hC_
        refine z_iast hx hb hK hw 1 hm_ha hf_ha rfl (z_ix (show (25 : Int32).toInt = 25 by decide) (by decide)) dX10_moor_75 (fun H locs hw => ?_)
        obtain ⟨f133, e_f133⟩ : ∃ z, z = va_up f124 ha (.inl (cy 1, 30, .inl (upd g117 (25 : Int32).toNatClampNeg r122))) := ⟨_, rfl⟩
        rw [← e_f133] at hw
        have hf_mm : f133 mm = .inr (10, [.int 0, .ref wd, .ref my, .ref ce, .ref mv, .ref ta, .int m6, .int a2_125, .int k2_126, .int p2_127, .int v2_128, .long w2_131, .int b2_129, .int q2_130, .int m14, .int m15, .ref li, .ref ha, .ref lw, .ref st, .ref fo, .ref dr, .int OT26, .ref ik, .int m24, .int m25, .long m26, .int m27, .int m28, .ref ro, .int m30, .ref ct, .ref se, .ref th, .ref cn, .ref be, .int m36, .ref du, .int m38, .ref db, .int m40, .int m41, .int m42, .ref pn, .ref wg, .ref wh, .ref tn, .ref he, .int m48, .ref tr, .ref fd, .ref po, .int m52, .int m53]) := (congrFun e_f133 mm).trans (z_up_ne (z_tne hf_mm hf_ha (m := 10) (n := 340) rfl rfl (by decide)) hf_mm)
        have hf_ta : f133 ta = .inl (cy 0, 1600, .inl gta) := (congrFun e_f133 ta).trans (z_up_ne (z_tne hf_ta hf_ha (m := 12900) (n := 340) rfl rfl (by decide)) hf_ta)
        have hf_li : f133 li = .inl (cy 1, 5, .inl G27) := (congrFun e_f133 li).trans (z_up_ne (z_tne hf_li hf_ha (m := 140) (n := 340) rfl rfl (by decide)) hf_li)
        have hf_lw : f133 lw = .inl (cy 1, 25, .inl G29) := (congrFun e_f133 lw).trans (z_up_ne (z_tne hf_lw hf_ha (m := 300) (n := 340) rfl rfl (by decide)) hf_lw)
        have hf_st : f133 st = .inl (cy 1, 20, .inl G30) := (congrFun e_f133 st).trans (z_up_ne (z_tne hf_st hf_ha (m := 260) (n := 340) rfl rfl (by decide)) hf_st)
        have hf_fo : f133 fo = .inl (cy 1, 180, .inl G31) := (congrFun e_f133 fo).trans (z_up_ne (z_tne hf_fo hf_ha (m := 1540) (n := 340) rfl rfl (by decide)) hf_fo)
        have hf_dr : f133 dr = .inl (cy 1, 520, .inl G32) := (congrFun e_f133 dr).trans (z_up_ne (z_tne hf_dr hf_ha (m := 4260) (n := 340) rfl rfl (by decide)) hf_dr)
        have hf_ha : f133 ha = .inl (cy 1, 30, .inl (upd g117 (25 : Int32).toNatClampNeg r122)) := (congrFun e_f133 ha).trans z_up_self
        have hfr : ∀ b ∈ L, b ≠ mm → b ≠ li → b ≠ ha → b ≠ lw → b ≠ st → b ≠ fo → b ≠ dr → f133 b = f b := fun b hb h0 h1 h2 h3 h4 h5 h6 => (congrFun e_f133 b).trans (z_up_ne h2 (hfr b hb h0 h1 h2 h3 h4 h5 h6))
        obtain ⟨g132, e_g132⟩ : ∃ z, z = (upd g117 (25 : Int32).toNatClampNeg r122) := ⟨_, rfl⟩
        rw [← e_g132] at hf_ha
        have hq_ha : ∀ j : Nat, (q_hasR gha) j (g132 j) := z_updQ hq_ha e_g132 (show q_hasR _ _ _ from ⟨(show q_has _ _ from ⟨(fun h => absurd h (by decide)), (fun _ => (show 0 ≤ (r122 : Int32).toInt ∧ (r122 : Int32).toInt ≤ 9 by first | decide | omega)), (fun h => absurd h (by decide)), (fun h => absurd h (by decide))⟩), fun h => absurd h (by decide)⟩)
        refine lv_aload_n hx hb dX10_moor_76 rfl (lv_at hl 0 rfl) ?_
        refine z_get (C := RX10) (T := TX10) (N := 54) (ci := 10) (v := .ref lw) hx hb hT zin_X10 hown hK hw hm_mm hf_mm rfl 18 (by decide) (hT _ kw_1186) rfl dX10_moor_77 ?_
        refine lv_bipush (v := 23) hx hb dX10_moor_80 (by decide) ?_
        refine lv_aload_n hx hb dX10_moor_82 rfl (lv_at hl 0 rfl) ?_
        refine lv_ldc2 (v := 99233) hx hb hown (hT _ kw_1425) dX10_moor_83 ?_
        refine lv_iconst (v := 2) hx hb dX10_moor_86 (by decide) ?_
        refine lv_bipush (v := 100) hx hb dX10_moor_87 (by decide) ?_
        have hz134 := (show (99233 : Int64).toInt = 99233 by decide)
        have hz135 := (show (2 : Int32).toInt = 2 by decide)
        have hz136 := (show (100 : Int32).toInt = 100 by decide)
        refine z_calliV (cells := 0) (slots := 0) (b := mm) (As := [.long 99233, .int 2, .int 100]) (rest := [.int 23, .ref lw]) (ci := 10) (q0 := (RX10, TX10, 54)) ⟨hx, hb, hml, hown, hT⟩ (c_X10_number_ l hm_mm hm_ta hf_mm hf_ta (by first | omega | decide | assumption) (by first | omega | decide | assumption)) (cwV 3 hT (z_goodV (fun _ h => h) kw_1416 kw_1418 kw_41 kw_96 kw_1419) rfl rfl rfl (by decide +kernel) ⟨by decide, by decide⟩) z_mv hKK hK hw hA hm_mm hf_mm rfl rfl rfl hl.1 rfl (Nat.le_of_ble_eq_true rfl) dX10_moor_89 ⟨by decide, by decide⟩ (fun r137 u H locs hp hw => ?_)
        obtain ⟨L138, f139⟩ := u
        obtain ⟨hsb, hfm, a2_140, k2_141, p2_142, v2_143, b2_144, q2_145, w2_146, ha_0, hp⟩ := hp
        have hsb : L = L138 := hsb
        subst hsb
        have hsb : ∀ b ∈ L, b ∈ L := fun _ h => h
        have hw : z_H D vwCl (z_A L sz) s.heap L f139 H locs := hw
        have hfr : ∀ b ∈ L, b ≠ mm → b ≠ li → b ≠ ha → b ≠ lw → b ≠ st → b ≠ fo → b ≠ dr → f139 b = f b := fun b hb h0 h1 h2 h3 h4 h5 h6 => (hfm b hb h0).trans (hfr b hb h0 h1 h2 h3 h4 h5 h6)
        have hf_ta : f139 ta = .inl (cy 0, 1600, .inl gta) := (hfm ta hm_ta (z_tne hf_ta hf_mm (m := 12900) (n := 10) rfl rfl (by decide))).trans hf_ta
        have hf_li : f139 li = .inl (cy 1, 5, .inl G27) := (hfm li hm_li (z_tne hf_li hf_mm (m := 140) (n := 10) rfl rfl (by decide))).trans hf_li
        have hf_ha : f139 ha = .inl (cy 1, 30, .inl g132) := (hfm ha hm_ha (z_tne hf_ha hf_mm (m := 340) (n := 10) rfl rfl (by decide))).trans hf_ha
        have hf_lw : f139 lw = .inl (cy 1, 25, .inl G29) := (hfm lw hm_lw (z_tne hf_lw hf_mm (m := 300) (n := 10) rfl rfl (by decide))).trans hf_lw
        have hf_st : f139 st = .inl (cy 1, 20, .inl G30) := (hfm st hm_st (z_tne hf_st hf_mm (m := 260) (n := 10) rfl rfl (by decide))).trans hf_st
        have hf_fo : f139 fo = .inl (cy 1, 180, .inl G31) := (hfm fo hm_fo (z_tne hf_fo hf_mm (m := 1540) (n := 10) rfl rfl (by decide))).trans hf_fo
        have hf_dr : f139 dr = .inl (cy 1, 520, .inl G32) := (hfm dr hm_dr (z_tne hf_dr hf_mm (m := 4260) (n := 10) rfl rfl (by decide))).trans hf_dr
        have hf_mm : f139 mm = .inr (10, [.int 0, .ref wd, .ref my, .ref ce, .ref mv, .ref ta, .int m6, .int a2_140, .int k2_141, .int p2_142, .int v2_143, .long w2_146, .int b2_144, .int q2_145, .int m14, .int m15, .ref li, .ref ha, .ref lw, .ref st, .ref fo, .ref dr, .int OT26, .ref ik, .int m24, .int m25, .long m26, .int m27, .int m28, .ref ro, .int m30, .ref ct, .ref se, .ref th, .ref cn, .ref be, .int m36, .ref du, .int m38, .ref db, .int m40, .int m41, .int m42, .ref pn, .ref wg, .ref wh, .ref tn, .ref he, .int m48, .ref tr, .ref fd, .ref po, .int m52, .int m53]) := ha_0
        have hR_r137 : 2 ≤ r137.toInt ∧ r137.toInt ≤ 100 := by omega
        have hC_ : (0 ≤ a2_140.toInt ∧ a2_140.toInt ≤ m6.toInt) ∧ AT19.toInt ≤ a2_140.toInt ∧ (b2_144.toInt ≠ 0 ∨ k2_141.toInt ≠ 3 ∨ AT19.toInt < a2_140.toInt) := by refine ⟨⟨?_, ?_⟩, ?_, ?_⟩ <;> omega
        clear hp
        replace hC := hC_
        clear hC_
        refine z_iast hx hb hK hw 1 hm_lw hf_lw rfl (z_ix (show (23 : Int32).toInt = 23 by decide) (by decide)) dX10_moor_92 (fun H locs hw => ?_)
        obtain ⟨f148, e_f148⟩ : ∃ z, z = va_up f139 lw (.inl (cy 1, 25, .inl (upd G29 (23 : Int32).toNatClampNeg r137))) := ⟨_, rfl⟩
        rw [← e_f148] at hw
        have hf_mm : f148 mm = .inr (10, [.int 0, .ref wd, .ref my, .ref ce, .ref mv, .ref ta, .int m6, .int a2_140, .int k2_141, .int p2_142, .int v2_143, .long w2_146, .int b2_144, .int q2_145, .int m14, .int m15, .ref li, .ref ha, .ref lw, .ref st, .ref fo, .ref dr, .int OT26, .ref ik, .int m24, .int m25, .long m26, .int m27, .int m28, .ref ro, .int m30, .ref ct, .ref se, .ref th, .ref cn, .ref be, .int m36, .ref du, .int m38, .ref db, .int m40, .int m41, .int m42, .ref pn, .ref wg, .ref wh, .ref tn, .ref he, .int m48, .ref tr, .ref fd, .ref po, .int m52, .int m53]) := (congrFun e_f148 mm).trans (z_up_ne (z_tne hf_mm hf_lw (m := 10) (n := 300) rfl rfl (by decide)) hf_mm)
        have hf_ta : f148 ta = .inl (cy 0, 1600, .inl gta) := (congrFun e_f148 ta).trans (z_up_ne (z_tne hf_ta hf_lw (m := 12900) (n := 300) rfl rfl (by decide)) hf_ta)
        have hf_li : f148 li = .inl (cy 1, 5, .inl G27) := (congrFun e_f148 li).trans (z_up_ne (z_tne hf_li hf_lw (m := 140) (n := 300) rfl rfl (by decide)) hf_li)
        have hf_ha : f148 ha = .inl (cy 1, 30, .inl g132) := (congrFun e_f148 ha).trans (z_up_ne (z_tne hf_ha hf_lw (m := 340) (n := 300) rfl rfl (by decide)) hf_ha)
        have hf_st : f148 st = .inl (cy 1, 20, .inl G30) := (congrFun e_f148 st).trans (z_up_ne (z_tne hf_st hf_lw (m := 260) (n := 300) rfl rfl (by decide)) hf_st)
        have hf_fo : f148 fo = .inl (cy 1, 180, .inl G31) := (congrFun e_f148 fo).trans (z_up_ne (z_tne hf_fo hf_lw (m := 1540) (n := 300) rfl rfl (by decide)) hf_fo)
        have hf_dr : f148 dr = .inl (cy 1, 520, .inl G32) := (congrFun e_f148 dr).trans (z_up_ne (z_tne hf_dr hf_lw (m := 4260) (n := 300) rfl rfl (by decide)) hf_dr)
        have hf_lw : f148 lw = .inl (cy 1, 25, .inl (upd G29 (23 : Int32).toNatClampNeg r137)) := (congrFun e_f148 lw).trans z_up_self
        have hfr : ∀ b ∈ L, b ≠ mm → b ≠ li → b ≠ ha → b ≠ lw → b ≠ st → b ≠ fo → b ≠ dr → f148 b = f b := fun b hb h0 h1 h2 h3 h4 h5 h6 => (congrFun e_f148 b).trans (z_up_ne h3 (hfr b hb h0 h1 h2 h3 h4 h5 h6))
        obtain ⟨g147, e_g147⟩ : ∃ z, z = (upd G29 (23 : Int32).toNatClampNeg r137) := ⟨_, rfl⟩
        rw [← e_g147] at hf_lw
        have hq_lw : ∀ j : Nat, (q_lawR glw) j (g147 j) := z_updQ hq_lw e_g147 (show q_lawR _ _ _ from ⟨(show 0 ≤ (r137 : Int32).toInt ∧ (r137 : Int32).toInt ≤ 999 by first | decide | omega), fun h => absurd h (by decide)⟩)
        refine lv_aload_n hx hb dX10_moor_93 rfl (lv_at hl 0 rfl) ?_
        refine z_get (C := RX10) (T := TX10) (N := 54) (ci := 10) (v := .ref lw) hx hb hT zin_X10 hown hK hw hm_mm hf_mm rfl 18 (by decide) (hT _ kw_1186) rfl dX10_moor_94 ?_
        refine lv_bipush (v := 24) hx hb dX10_moor_97 (by decide) ?_
        refine lv_aload_n hx hb dX10_moor_99 rfl (lv_at hl 0 rfl) ?_
        refine lv_ldc2 (v := 3488) hx hb hown (hT _ kw_1426) dX10_moor_100 ?_
        refine lv_iconst (v := 0) hx hb dX10_moor_103 (by decide) ?_
        refine lv_sipush (v := 999) hx hb dX10_moor_104 (by decide) ?_
        have hz149 := (show (3488 : Int64).toInt = 3488 by decide)
        have hz150 := (show (0 : Int32).toInt = 0 by decide)
        have hz151 := (show (999 : Int32).toInt = 999 by decide)
        refine z_calliV (cells := 0) (slots := 0) (b := mm) (As := [.long 3488, .int 0, .int 999]) (rest := [.int 24, .ref lw]) (ci := 10) (q0 := (RX10, TX10, 54)) ⟨hx, hb, hml, hown, hT⟩ (c_X10_number_ l hm_mm hm_ta hf_mm hf_ta (by first | omega | decide | assumption) (by first | omega | decide | assumption)) (cwV 3 hT (z_goodV (fun _ h => h) kw_1416 kw_1418 kw_41 kw_96 kw_1419) rfl rfl rfl (by decide +kernel) ⟨by decide, by decide⟩) z_mv hKK hK hw hA hm_mm hf_mm rfl rfl rfl hl.1 rfl (Nat.le_of_ble_eq_true rfl) dX10_moor_107 ⟨by decide, by decide⟩ (fun r152 u H locs hp hw => ?_)
        obtain ⟨L153, f154⟩ := u
        obtain ⟨hsb, hfm, a2_155, k2_156, p2_157, v2_158, b2_159, q2_160, w2_161, ha_0, hp⟩ := hp
        have hsb : L = L153 := hsb
        subst hsb
        have hsb : ∀ b ∈ L, b ∈ L := fun _ h => h
        have hw : z_H D vwCl (z_A L sz) s.heap L f154 H locs := hw
        have hfr : ∀ b ∈ L, b ≠ mm → b ≠ li → b ≠ ha → b ≠ lw → b ≠ st → b ≠ fo → b ≠ dr → f154 b = f b := fun b hb h0 h1 h2 h3 h4 h5 h6 => (hfm b hb h0).trans (hfr b hb h0 h1 h2 h3 h4 h5 h6)
        have hf_ta : f154 ta = .inl (cy 0, 1600, .inl gta) := (hfm ta hm_ta (z_tne hf_ta hf_mm (m := 12900) (n := 10) rfl rfl (by decide))).trans hf_ta
        have hf_li : f154 li = .inl (cy 1, 5, .inl G27) := (hfm li hm_li (z_tne hf_li hf_mm (m := 140) (n := 10) rfl rfl (by decide))).trans hf_li
        have hf_ha : f154 ha = .inl (cy 1, 30, .inl g132) := (hfm ha hm_ha (z_tne hf_ha hf_mm (m := 340) (n := 10) rfl rfl (by decide))).trans hf_ha
        have hf_lw : f154 lw = .inl (cy 1, 25, .inl g147) := (hfm lw hm_lw (z_tne hf_lw hf_mm (m := 300) (n := 10) rfl rfl (by decide))).trans hf_lw
        have hf_st : f154 st = .inl (cy 1, 20, .inl G30) := (hfm st hm_st (z_tne hf_st hf_mm (m := 260) (n := 10) rfl rfl (by decide))).trans hf_st
        have hf_fo : f154 fo = .inl (cy 1, 180, .inl G31) := (hfm fo hm_fo (z_tne hf_fo hf_mm (m := 1540) (n := 10) rfl rfl (by decide))).trans hf_fo
        have hf_dr : f154 dr = .inl (cy 1, 520, .inl G32) := (hfm dr hm_dr (z_tne hf_dr hf_mm (m := 4260) (n := 10) rfl rfl (by decide))).trans hf_dr
        have hf_mm : f154 mm = .inr (10, [.int 0, .ref wd, .ref my, .ref ce, .ref mv, .ref ta, .int m6, .int a2_155, .int k2_156, .int p2_157, .int v2_158, .long w2_161, .int b2_159, .int q2_160, .int m14, .int m15, .ref li, .ref ha, .ref lw, .ref st, .ref fo, .ref dr, .int OT26, .ref ik, .int m24, .int m25, .long m26, .int m27, .int m28, .ref ro, .int m30, .ref ct, .ref se, .ref th, .ref cn, .ref be, .int m36, .ref du, .int m38, .ref db, .int m40, .int m41, .int m42, .ref pn, .ref wg, .ref wh, .ref tn, .ref he, .int m48, .ref tr, .ref fd, .ref po, .int m52, .int m53]) := ha_0
        have hR_r152 : 0 ≤ r152.toInt ∧ r152.toInt ≤ 999 := by omega
        have hC_ : (0 ≤ a2_155.toInt ∧ a2_155.toInt ≤ m6.toInt) ∧ AT19.toInt ≤ a2_155.toInt ∧ (b2_159.toInt ≠ 0 ∨ k2_156.toInt ≠ 3 ∨ AT19.toInt < a2_155.toInt) := by refine ⟨⟨?_, ?_⟩, ?_, ?_⟩ <;> omega
        clear hp
        replace hC := hC_
        clear hC_
        refine z_iast hx hb hK hw 1 hm_lw hf_lw rfl (z_ix (show (24 : Int32).toInt = 24 by decide) (by decide)) dX10_moor_110 (fun H locs hw => ?_)
        obtain ⟨f163, e_f163⟩ : ∃ z, z = va_up f154 lw (.inl (cy 1, 25, .inl (upd g147 (24 : Int32).toNatClampNeg r152))) := ⟨_, rfl⟩
        rw [← e_f163] at hw
        have hf_mm : f163 mm = .inr (10, [.int 0, .ref wd, .ref my, .ref ce, .ref mv, .ref ta, .int m6, .int a2_155, .int k2_156, .int p2_157, .int v2_158, .long w2_161, .int b2_159, .int q2_160, .int m14, .int m15, .ref li, .ref ha, .ref lw, .ref st, .ref fo, .ref dr, .int OT26, .ref ik, .int m24, .int m25, .long m26, .int m27, .int m28, .ref ro, .int m30, .ref ct, .ref se, .ref th, .ref cn, .ref be, .int m36, .ref du, .int m38, .ref db, .int m40, .int m41, .int m42, .ref pn, .ref wg, .ref wh, .ref tn, .ref he, .int m48, .ref tr, .ref fd, .ref po, .int m52, .int m53]) := (congrFun e_f163 mm).trans (z_up_ne (z_tne hf_mm hf_lw (m := 10) (n := 300) rfl rfl (by decide)) hf_mm)
        have hf_ta : f163 ta = .inl (cy 0, 1600, .inl gta) := (congrFun e_f163 ta).trans (z_up_ne (z_tne hf_ta hf_lw (m := 12900) (n := 300) rfl rfl (by decide)) hf_ta)
        have hf_li : f163 li = .inl (cy 1, 5, .inl G27) := (congrFun e_f163 li).trans (z_up_ne (z_tne hf_li hf_lw (m := 140) (n := 300) rfl rfl (by decide)) hf_li)
        have hf_ha : f163 ha = .inl (cy 1, 30, .inl g132) := (congrFun e_f163 ha).trans (z_up_ne (z_tne hf_ha hf_lw (m := 340) (n := 300) rfl rfl (by decide)) hf_ha)
        have hf_st : f163 st = .inl (cy 1, 20, .inl G30) := (congrFun e_f163 st).trans (z_up_ne (z_tne hf_st hf_lw (m := 260) (n := 300) rfl rfl (by decide)) hf_st)
        have hf_fo : f163 fo = .inl (cy 1, 180, .inl G31) := (congrFun e_f163 fo).trans (z_up_ne (z_tne hf_fo hf_lw (m := 1540) (n := 300) rfl rfl (by decide)) hf_fo)
        have hf_dr : f163 dr = .inl (cy 1, 520, .inl G32) := (congrFun e_f163 dr).trans (z_up_ne (z_tne hf_dr hf_lw (m := 4260) (n := 300) rfl rfl (by decide)) hf_dr)
        have hf_lw : f163 lw = .inl (cy 1, 25, .inl (upd g147 (24 : Int32).toNatClampNeg r152)) := (congrFun e_f163 lw).trans z_up_self
        have hfr : ∀ b ∈ L, b ≠ mm → b ≠ li → b ≠ ha → b ≠ lw → b ≠ st → b ≠ fo → b ≠ dr → f163 b = f b := fun b hb h0 h1 h2 h3 h4 h5 h6 => (congrFun e_f163 b).trans (z_up_ne h3 (hfr b hb h0 h1 h2 h3 h4 h5 h6))
        obtain ⟨g162, e_g162⟩ : ∃ z, z = (upd g147 (24 : Int32).toNatClampNeg r152) := ⟨_, rfl⟩
        rw [← e_g162] at hf_lw
        have hq_lw : ∀ j : Nat, (q_lawR glw) j (g162 j) := z_updQ hq_lw e_g162 (show q_lawR _ _ _ from ⟨(show 0 ≤ (r152 : Int32).toInt ∧ (r152 : Int32).toInt ≤ 999 by first | decide | omega), fun h => absurd h (by decide)⟩)
        have hE2 : 2 ≤ (g162 23).toInt := by rw [z_upd_ne e_g162 (by decide), show g147 23 = r137 from z_upd_at e_g147]; omega
        refine lv_goto (tgt := 118) hx hb dX10_moor_111 (by decide) ?_
        refine lv_aload_n hx hb dX10_moor_118 rfl (lv_at hl 0 rfl) ?_
        refine z_calliV (cells := 0) (slots := 0) (b := mm) (As := []) (rest := []) (ci := 10) (q0 := (RX10, TX10, 54)) ⟨hx, hb, hml, hown, hT⟩ (c_X10_isGood l hm_mm hf_mm) (cwV 0 hT (z_goodV (fun _ h => h) kw_1394 kw_1396 kw_36 kw_96 kw_1397) rfl rfl rfl (by decide +kernel) ⟨by decide, by decide⟩) z_mv hKK hK hw hA hm_mm hf_mm rfl rfl rfl hl.1 rfl (Nat.le_of_ble_eq_true rfl) dX10_moor_119 ⟨by decide, by decide⟩ (fun r164 u H locs hp hw => ?_)
        obtain ⟨rfl, hp⟩ := hp
        have hw : z_H D vwCl (z_A L sz) s.heap L f163 H locs := hw
        rcases hp with ⟨rfl, h165⟩ | ⟨rfl, h165⟩
        · skip
          refine z_if_eq (tgt := 129) hx hb (show (1 : Int32).toInt = 1 by decide) dX10_moor_122 (by decide) (fun h => absurd h (by decide)) (fun _ => ?_)
          refine lv_aload_n hx hb dX10_moor_125 rfl (lv_at hl 0 rfl) ?_
          refine z_callvV (cells := 0) (slots := 0) (b := mm) (As := []) (rest := []) (ci := 10) (q0 := (RX10, TX10, 54)) ⟨hx, hb, hml, hown, hT⟩ (c_X10_ends l hm_mm hm_ta hf_mm hf_ta (by first | omega | decide | assumption) (by first | omega | decide | assumption)) (cwV 0 hT (z_goodV (fun _ h => h) kw_1463 kw_1465 kw_47 kw_96 kw_1466) rfl rfl rfl (by decide +kernel) ⟨by decide, by decide⟩) z_mv hKK hK hw hA hm_mm hf_mm rfl rfl rfl hl.1 rfl (Nat.le_of_ble_eq_true rfl) dX10_moor_126 ⟨by decide, by decide⟩ (fun u H locs hp hw => ?_)
          obtain ⟨L166, f167⟩ := u
          obtain ⟨hsb, hfm, a2_168, k2_169, p2_170, v2_171, b2_172, q2_173, w2_174, ha_0, hp⟩ := hp
          have hsb : L = L166 := hsb
          subst hsb
          have hsb : ∀ b ∈ L, b ∈ L := fun _ h => h
          have hw : z_H D vwCl (z_A L sz) s.heap L f167 H locs := hw
          have hfr : ∀ b ∈ L, b ≠ mm → b ≠ li → b ≠ ha → b ≠ lw → b ≠ st → b ≠ fo → b ≠ dr → f167 b = f b := fun b hb h0 h1 h2 h3 h4 h5 h6 => (hfm b hb h0).trans (hfr b hb h0 h1 h2 h3 h4 h5 h6)
          have hf_ta : f167 ta = .inl (cy 0, 1600, .inl gta) := (hfm ta hm_ta (z_tne hf_ta hf_mm (m := 12900) (n := 10) rfl rfl (by decide))).trans hf_ta
          have hf_li : f167 li = .inl (cy 1, 5, .inl G27) := (hfm li hm_li (z_tne hf_li hf_mm (m := 140) (n := 10) rfl rfl (by decide))).trans hf_li
          have hf_ha : f167 ha = .inl (cy 1, 30, .inl g132) := (hfm ha hm_ha (z_tne hf_ha hf_mm (m := 340) (n := 10) rfl rfl (by decide))).trans hf_ha
          have hf_lw : f167 lw = .inl (cy 1, 25, .inl g162) := (hfm lw hm_lw (z_tne hf_lw hf_mm (m := 300) (n := 10) rfl rfl (by decide))).trans hf_lw
          have hf_st : f167 st = .inl (cy 1, 20, .inl G30) := (hfm st hm_st (z_tne hf_st hf_mm (m := 260) (n := 10) rfl rfl (by decide))).trans hf_st
          have hf_fo : f167 fo = .inl (cy 1, 180, .inl G31) := (hfm fo hm_fo (z_tne hf_fo hf_mm (m := 1540) (n := 10) rfl rfl (by decide))).trans hf_fo
          have hf_dr : f167 dr = .inl (cy 1, 520, .inl G32) := (hfm dr hm_dr (z_tne hf_dr hf_mm (m := 4260) (n := 10) rfl rfl (by decide))).trans hf_dr
          have hf_mm : f167 mm = .inr (10, [.int 0, .ref wd, .ref my, .ref ce, .ref mv, .ref ta, .int m6, .int a2_168, .int k2_169, .int p2_170, .int v2_171, .long w2_174, .int b2_172, .int q2_173, .int m14, .int m15, .ref li, .ref ha, .ref lw, .ref st, .ref fo, .ref dr, .int OT26, .ref ik, .int m24, .int m25, .long m26, .int m27, .int m28, .ref ro, .int m30, .ref ct, .ref se, .ref th, .ref cn, .ref be, .int m36, .ref du, .int m38, .ref db, .int m40, .int m41, .int m42, .ref pn, .ref wg, .ref wh, .ref tn, .ref he, .int m48, .ref tr, .ref fd, .ref po, .int m52, .int m53]) := ha_0
          have hq175 := hp
          refine lv_aload_n hx hb dX10_moor_129 rfl (lv_at hl 0 rfl) ?_
          refine z_get (C := RX10) (T := TX10) (N := 54) (ci := 10) (v := .ref li) hx hb hT zin_X10 hown hK hw hm_mm hf_mm rfl 16 (by decide) (hT _ kw_1184) rfl dX10_moor_130 ?_
          refine lv_iconst (v := 4) hx hb dX10_moor_133 (by decide) ?_
          refine lv_dup2_11 hx hb dX10_moor_134 rfl rfl ?_
          refine z_iald hx hb hK hw 1 hm_li hf_li rfl (z_ix (show (4 : Int32).toInt = 4 by decide) (by decide)) dX10_moor_135 ?_
          refine lv_topi (fun w176 e_w176 => ?_)
          refine lv_iconst (v := 1) hx hb dX10_moor_136 (by decide) ?_
          refine lv_iadd hx hb dX10_moor_137 ?_
          refine lv_topi (fun w177 e_w177 => ?_)
          refine z_iast hx hb hK hw 1 hm_li hf_li rfl (z_ix (show (4 : Int32).toInt = 4 by decide) (by decide)) dX10_moor_138 (fun H locs hw => ?_)
          obtain ⟨f179, e_f179⟩ : ∃ z, z = va_up f167 li (.inl (cy 1, 5, .inl (upd G27 (4 : Int32).toNatClampNeg w177))) := ⟨_, rfl⟩
          rw [← e_f179] at hw
          have hf_mm : f179 mm = .inr (10, [.int 0, .ref wd, .ref my, .ref ce, .ref mv, .ref ta, .int m6, .int a2_168, .int k2_169, .int p2_170, .int v2_171, .long w2_174, .int b2_172, .int q2_173, .int m14, .int m15, .ref li, .ref ha, .ref lw, .ref st, .ref fo, .ref dr, .int OT26, .ref ik, .int m24, .int m25, .long m26, .int m27, .int m28, .ref ro, .int m30, .ref ct, .ref se, .ref th, .ref cn, .ref be, .int m36, .ref du, .int m38, .ref db, .int m40, .int m41, .int m42, .ref pn, .ref wg, .ref wh, .ref tn, .ref he, .int m48, .ref tr, .ref fd, .ref po, .int m52, .int m53]) := (congrFun e_f179 mm).trans (z_up_ne (z_tne hf_mm hf_li (m := 10) (n := 140) rfl rfl (by decide)) hf_mm)
          have hf_ta : f179 ta = .inl (cy 0, 1600, .inl gta) := (congrFun e_f179 ta).trans (z_up_ne (z_tne hf_ta hf_li (m := 12900) (n := 140) rfl rfl (by decide)) hf_ta)
          have hf_ha : f179 ha = .inl (cy 1, 30, .inl g132) := (congrFun e_f179 ha).trans (z_up_ne (z_tne hf_ha hf_li (m := 340) (n := 140) rfl rfl (by decide)) hf_ha)
          have hf_lw : f179 lw = .inl (cy 1, 25, .inl g162) := (congrFun e_f179 lw).trans (z_up_ne (z_tne hf_lw hf_li (m := 300) (n := 140) rfl rfl (by decide)) hf_lw)
          have hf_st : f179 st = .inl (cy 1, 20, .inl G30) := (congrFun e_f179 st).trans (z_up_ne (z_tne hf_st hf_li (m := 260) (n := 140) rfl rfl (by decide)) hf_st)
          have hf_fo : f179 fo = .inl (cy 1, 180, .inl G31) := (congrFun e_f179 fo).trans (z_up_ne (z_tne hf_fo hf_li (m := 1540) (n := 140) rfl rfl (by decide)) hf_fo)
          have hf_dr : f179 dr = .inl (cy 1, 520, .inl G32) := (congrFun e_f179 dr).trans (z_up_ne (z_tne hf_dr hf_li (m := 4260) (n := 140) rfl rfl (by decide)) hf_dr)
          have hf_li : f179 li = .inl (cy 1, 5, .inl (upd G27 (4 : Int32).toNatClampNeg w177)) := (congrFun e_f179 li).trans z_up_self
          have hfr : ∀ b ∈ L, b ≠ mm → b ≠ li → b ≠ ha → b ≠ lw → b ≠ st → b ≠ fo → b ≠ dr → f179 b = f b := fun b hb h0 h1 h2 h3 h4 h5 h6 => (congrFun e_f179 b).trans (z_up_ne h1 (hfr b hb h0 h1 h2 h3 h4 h5 h6))
          obtain ⟨g178, e_g178⟩ : ∃ z, z = (upd G27 (4 : Int32).toNatClampNeg w177) := ⟨_, rfl⟩
          rw [← e_g178] at hf_li
          refine lv_goto (tgt := 13) hx hb dX10_moor_139 (by decide) ?_
          by_cases hbz : b2_172.toInt = 0
          · exact ih_13 (m6.toInt - a2_168.toInt + 1).toNat (by omega) _ _ _ ⟨g178, g132, g162, G30, G31, G32, a2_168, k2_169, p2_170, v2_171, w2_174, b2_172, q2_173, OT26, f179, Or.inr (by omega), (by first | decide | omega), (by first | decide | omega), (Or.inr hE2), (Or.inl hE2), hw, hf_mm, hf_ta, hf_li, hf_ha, hf_lw, hf_st, hf_fo, hf_dr, hfr, hq_ha, hq_lw, hq_st, hq_dr, (lv_sub hl [0] rfl)⟩
          · exact ih_13 (n - 1) (by omega) _ _ _ ⟨g178, g132, g162, G30, G31, G32, a2_168, k2_169, p2_170, v2_171, w2_174, b2_172, q2_173, OT26, f179, Or.inl hbz, (by first | decide | omega), (by first | decide | omega), (Or.inr hE2), (Or.inl hE2), hw, hf_mm, hf_ta, hf_li, hf_ha, hf_lw, hf_st, hf_fo, hf_dr, hfr, hq_ha, hq_lw, hq_st, hq_dr, (lv_sub hl [0] rfl)⟩
        · skip
          refine z_if_eq (tgt := 129) hx hb (show (0 : Int32).toInt = 0 by decide) dX10_moor_122 (by decide) (fun _ => ?_) (fun h => absurd h (by decide))
          refine lv_aload_n hx hb dX10_moor_129 rfl (lv_at hl 0 rfl) ?_
          refine z_get (C := RX10) (T := TX10) (N := 54) (ci := 10) (v := .ref li) hx hb hT zin_X10 hown hK hw hm_mm hf_mm rfl 16 (by decide) (hT _ kw_1184) rfl dX10_moor_130 ?_
          refine lv_iconst (v := 4) hx hb dX10_moor_133 (by decide) ?_
          refine lv_dup2_11 hx hb dX10_moor_134 rfl rfl ?_
          refine z_iald hx hb hK hw 1 hm_li hf_li rfl (z_ix (show (4 : Int32).toInt = 4 by decide) (by decide)) dX10_moor_135 ?_
          refine lv_topi (fun w180 e_w180 => ?_)
          refine lv_iconst (v := 1) hx hb dX10_moor_136 (by decide) ?_
          refine lv_iadd hx hb dX10_moor_137 ?_
          refine lv_topi (fun w181 e_w181 => ?_)
          refine z_iast hx hb hK hw 1 hm_li hf_li rfl (z_ix (show (4 : Int32).toInt = 4 by decide) (by decide)) dX10_moor_138 (fun H locs hw => ?_)
          obtain ⟨f183, e_f183⟩ : ∃ z, z = va_up f163 li (.inl (cy 1, 5, .inl (upd G27 (4 : Int32).toNatClampNeg w181))) := ⟨_, rfl⟩
          rw [← e_f183] at hw
          have hf_mm : f183 mm = .inr (10, [.int 0, .ref wd, .ref my, .ref ce, .ref mv, .ref ta, .int m6, .int a2_155, .int k2_156, .int p2_157, .int v2_158, .long w2_161, .int b2_159, .int q2_160, .int m14, .int m15, .ref li, .ref ha, .ref lw, .ref st, .ref fo, .ref dr, .int OT26, .ref ik, .int m24, .int m25, .long m26, .int m27, .int m28, .ref ro, .int m30, .ref ct, .ref se, .ref th, .ref cn, .ref be, .int m36, .ref du, .int m38, .ref db, .int m40, .int m41, .int m42, .ref pn, .ref wg, .ref wh, .ref tn, .ref he, .int m48, .ref tr, .ref fd, .ref po, .int m52, .int m53]) := (congrFun e_f183 mm).trans (z_up_ne (z_tne hf_mm hf_li (m := 10) (n := 140) rfl rfl (by decide)) hf_mm)
          have hf_ta : f183 ta = .inl (cy 0, 1600, .inl gta) := (congrFun e_f183 ta).trans (z_up_ne (z_tne hf_ta hf_li (m := 12900) (n := 140) rfl rfl (by decide)) hf_ta)
          have hf_ha : f183 ha = .inl (cy 1, 30, .inl g132) := (congrFun e_f183 ha).trans (z_up_ne (z_tne hf_ha hf_li (m := 340) (n := 140) rfl rfl (by decide)) hf_ha)
          have hf_lw : f183 lw = .inl (cy 1, 25, .inl g162) := (congrFun e_f183 lw).trans (z_up_ne (z_tne hf_lw hf_li (m := 300) (n := 140) rfl rfl (by decide)) hf_lw)
          have hf_st : f183 st = .inl (cy 1, 20, .inl G30) := (congrFun e_f183 st).trans (z_up_ne (z_tne hf_st hf_li (m := 260) (n := 140) rfl rfl (by decide)) hf_st)
          have hf_fo : f183 fo = .inl (cy 1, 180, .inl G31) := (congrFun e_f183 fo).trans (z_up_ne (z_tne hf_fo hf_li (m := 1540) (n := 140) rfl rfl (by decide)) hf_fo)
          have hf_dr : f183 dr = .inl (cy 1, 520, .inl G32) := (congrFun e_f183 dr).trans (z_up_ne (z_tne hf_dr hf_li (m := 4260) (n := 140) rfl rfl (by decide)) hf_dr)
          have hf_li : f183 li = .inl (cy 1, 5, .inl (upd G27 (4 : Int32).toNatClampNeg w181)) := (congrFun e_f183 li).trans z_up_self
          have hfr : ∀ b ∈ L, b ≠ mm → b ≠ li → b ≠ ha → b ≠ lw → b ≠ st → b ≠ fo → b ≠ dr → f183 b = f b := fun b hb h0 h1 h2 h3 h4 h5 h6 => (congrFun e_f183 b).trans (z_up_ne h1 (hfr b hb h0 h1 h2 h3 h4 h5 h6))
          obtain ⟨g182, e_g182⟩ : ∃ z, z = (upd G27 (4 : Int32).toNatClampNeg w181) := ⟨_, rfl⟩
          rw [← e_g182] at hf_li
          refine lv_goto (tgt := 13) hx hb dX10_moor_139 (by decide) ?_
          by_cases hbz : b2_159.toInt = 0
          · exact ih_13 (m6.toInt - a2_155.toInt + 1).toNat (by omega) _ _ _ ⟨g182, g132, g162, G30, G31, G32, a2_155, k2_156, p2_157, v2_158, w2_161, b2_159, q2_160, OT26, f183, Or.inr (by omega), (by first | decide | omega), (by first | decide | omega), (Or.inr hE2), (Or.inl hE2), hw, hf_mm, hf_ta, hf_li, hf_ha, hf_lw, hf_st, hf_fo, hf_dr, hfr, hq_ha, hq_lw, hq_st, hq_dr, (lv_sub hl [0] rfl)⟩
          · exact ih_13 (n - 1) (by omega) _ _ _ ⟨g182, g132, g162, G30, G31, G32, a2_155, k2_156, p2_157, v2_158, w2_161, b2_159, q2_160, OT26, f183, Or.inl hbz, (by first | decide | omega), (by first | decide | omega), (Or.inr hE2), (Or.inl hE2), hw, hf_mm, hf_ta, hf_li, hf_ha, hf_lw, hf_st, hf_fo, hf_dr, hfr, hq_ha, hq_lw, hq_st, hq_dr, (lv_sub hl [0] rfl)⟩
  · skip
    refine z_if_eq (tgt := 142) hx hb (show (0 : Int32).toInt = 0 by decide) dX10_moor_17 (by decide) (fun _ => ?_) (fun h => absurd h (by decide))
    have hea : ∀ m : Nat, m < 5 → z_ea G28 G29 m := z_ea_read hea (fun j hj => (hq_ha j).2 hj) (fun j hj => (hq_lw j).2 hj) hi1
    have hq_ha : ∀ j : Nat, q_has j (G28 j) := fun j => (hq_ha j).1
    have hq_lw : ∀ j : Nat, q_law j (G29 j) := fun j => (hq_lw j).1
    refine lv_aload_n hx hb dX10_moor_142 rfl (lv_at hl 0 rfl) ?_
    refine z_callvV (cells := 0) (slots := 0) (b := mm) (As := []) (rest := []) (ci := 10) (q0 := (RX10, TX10, 54)) ⟨hx, hb, hml, hown, hT⟩ (c_X10_isOver l hm_mm hf_mm) (cwV 0 hT (z_goodV (fun _ h => h) kw_1467 kw_1469 kw_48 kw_96 kw_1470) rfl rfl rfl (by decide +kernel) ⟨by decide, by decide⟩) z_mv hKK hK hw hA hm_mm hf_mm rfl rfl rfl hl.1 rfl (Nat.le_of_ble_eq_true rfl) dX10_moor_143 ⟨by decide, by decide⟩ (fun u H locs hp hw => ?_)
    obtain ⟨L184, f185⟩ := u
    obtain ⟨hsb, hfm, f2_186, p2_187, ha_0, hp⟩ := hp
    have hsb : L = L184 := hsb
    subst hsb
    have hsb : ∀ b ∈ L, b ∈ L := fun _ h => h
    have hw : z_H D vwCl (z_A L sz) s.heap L f185 H locs := hw
    have hfr : ∀ b ∈ L, b ≠ mm → b ≠ li → b ≠ ha → b ≠ lw → b ≠ st → b ≠ fo → b ≠ dr → f185 b = f b := fun b hb h0 h1 h2 h3 h4 h5 h6 => (hfm b hb h0).trans (hfr b hb h0 h1 h2 h3 h4 h5 h6)
    have hf_ta : f185 ta = .inl (cy 0, 1600, .inl gta) := (hfm ta hm_ta (z_tne hf_ta hf_mm (m := 12900) (n := 10) rfl rfl (by decide))).trans hf_ta
    have hf_li : f185 li = .inl (cy 1, 5, .inl G27) := (hfm li hm_li (z_tne hf_li hf_mm (m := 140) (n := 10) rfl rfl (by decide))).trans hf_li
    have hf_ha : f185 ha = .inl (cy 1, 30, .inl G28) := (hfm ha hm_ha (z_tne hf_ha hf_mm (m := 340) (n := 10) rfl rfl (by decide))).trans hf_ha
    have hf_lw : f185 lw = .inl (cy 1, 25, .inl G29) := (hfm lw hm_lw (z_tne hf_lw hf_mm (m := 300) (n := 10) rfl rfl (by decide))).trans hf_lw
    have hf_st : f185 st = .inl (cy 1, 20, .inl G30) := (hfm st hm_st (z_tne hf_st hf_mm (m := 260) (n := 10) rfl rfl (by decide))).trans hf_st
    have hf_fo : f185 fo = .inl (cy 1, 180, .inl G31) := (hfm fo hm_fo (z_tne hf_fo hf_mm (m := 1540) (n := 10) rfl rfl (by decide))).trans hf_fo
    have hf_dr : f185 dr = .inl (cy 1, 520, .inl G32) := (hfm dr hm_dr (z_tne hf_dr hf_mm (m := 4260) (n := 10) rfl rfl (by decide))).trans hf_dr
    have hf_mm : f185 mm = .inr (10, [.int 0, .ref wd, .ref my, .ref ce, .ref mv, .ref ta, .int 0, .int AT19, .int TK20, .int PL21, .int VA22, .long WO23, .int BA24, .int BP25, .int f2_186, .int p2_187, .ref li, .ref ha, .ref lw, .ref st, .ref fo, .ref dr, .int OT26, .ref ik, .int m24, .int m25, .long m26, .int m27, .int m28, .ref ro, .int m30, .ref ct, .ref se, .ref th, .ref cn, .ref be, .int m36, .ref du, .int m38, .ref db, .int m40, .int m41, .int m42, .ref pn, .ref wg, .ref wh, .ref tn, .ref he, .int m48, .ref tr, .ref fd, .ref po, .int m52, .int m53]) := ha_0
    refine lv_aload_n hx hb dX10_moor_146 rfl (lv_at hl 0 rfl) ?_
    refine z_get (C := RX10) (T := TX10) (N := 54) (ci := 10) (v := .int BA24) hx hb hT zin_X10 hown hK hw hm_mm hf_mm rfl 12 (by decide) (hT _ kw_1180) rfl dX10_moor_147 ?_
    refine z_if_eq (tgt := 156) hx hb rfl dX10_moor_150 (by decide) (fun c188 => ?_) (fun c188 => ?_)
    · skip
      refine lv_aload_n hx hb dX10_moor_156 rfl (lv_at hl 0 rfl) ?_
      refine lv_iconst (v := 4) hx hb dX10_moor_157 (by decide) ?_
      refine lv_iconst (v := 0) hx hb dX10_moor_158 (by decide) ?_
      have hz189 := (show (4 : Int32).toInt = 4 by decide)
      have hz190 := (show (0 : Int32).toInt = 0 by decide)
      refine z_callvV (cells := 0) (slots := 0) (b := mm) (As := [.int 4, .int 0]) (rest := []) (ci := 10) (q0 := (RX10, TX10, 54)) ⟨hx, hb, hml, hown, hT⟩ (c_X10_copyMoor l hm_mm hm_li hm_ha hm_lw hm_st hm_fo hm_dr hf_mm hf_li hf_ha hf_lw hf_st hf_fo hf_dr hq_ha hq_lw hq_st hq_dr (by first | omega | decide | assumption) (by first | omega | decide | assumption) hea) (cwV 2 hT (z_goodV (fun _ h => h) kw_1471 kw_1473 kw_49 kw_96 kw_1474) rfl rfl rfl (by decide +kernel) ⟨by decide, by decide⟩) z_mv hKK hK hw hA hm_mm hf_mm rfl rfl rfl hl.1 rfl (Nat.le_of_ble_eq_true rfl) dX10_moor_159 ⟨by decide, by decide⟩ (fun u H locs hp hw => ?_)
      obtain ⟨L191, f192⟩ := u
      obtain ⟨hsb, hfm, nli_193, nha_194, nlw_195, nst_196, nfo_197, ndr_198, ha_0, ha_1, ha_2, ha_3, ha_4, ha_5, hq_ha, hq_lw, hq_st, hq_dr, hp⟩ := hp
      have hsb : L = L191 := hsb
      subst hsb
      have hsb : ∀ b ∈ L, b ∈ L := fun _ h => h
      have hw : z_H D vwCl (z_A L sz) s.heap L f192 H locs := hw
      have hfr : ∀ b ∈ L, b ≠ mm → b ≠ li → b ≠ ha → b ≠ lw → b ≠ st → b ≠ fo → b ≠ dr → f192 b = f b := fun b hb h0 h1 h2 h3 h4 h5 h6 => (hfm b hb h1 h2 h3 h4 h5 h6).trans (hfr b hb h0 h1 h2 h3 h4 h5 h6)
      have hf_mm : f192 mm = .inr (10, [.int 0, .ref wd, .ref my, .ref ce, .ref mv, .ref ta, .int 0, .int AT19, .int TK20, .int PL21, .int VA22, .long WO23, .int BA24, .int BP25, .int f2_186, .int p2_187, .ref li, .ref ha, .ref lw, .ref st, .ref fo, .ref dr, .int OT26, .ref ik, .int m24, .int m25, .long m26, .int m27, .int m28, .ref ro, .int m30, .ref ct, .ref se, .ref th, .ref cn, .ref be, .int m36, .ref du, .int m38, .ref db, .int m40, .int m41, .int m42, .ref pn, .ref wg, .ref wh, .ref tn, .ref he, .int m48, .ref tr, .ref fd, .ref po, .int m52, .int m53]) := (hfm mm hm_mm (z_tne hf_mm hf_li (m := 10) (n := 140) rfl rfl (by decide)) (z_tne hf_mm hf_ha (m := 10) (n := 340) rfl rfl (by decide)) (z_tne hf_mm hf_lw (m := 10) (n := 300) rfl rfl (by decide)) (z_tne hf_mm hf_st (m := 10) (n := 260) rfl rfl (by decide)) (z_tne hf_mm hf_fo (m := 10) (n := 1540) rfl rfl (by decide)) (z_tne hf_mm hf_dr (m := 10) (n := 4260) rfl rfl (by decide))).trans hf_mm
      have hf_ta : f192 ta = .inl (cy 0, 1600, .inl gta) := (hfm ta hm_ta (z_tne hf_ta hf_li (m := 12900) (n := 140) rfl rfl (by decide)) (z_tne hf_ta hf_ha (m := 12900) (n := 340) rfl rfl (by decide)) (z_tne hf_ta hf_lw (m := 12900) (n := 300) rfl rfl (by decide)) (z_tne hf_ta hf_st (m := 12900) (n := 260) rfl rfl (by decide)) (z_tne hf_ta hf_fo (m := 12900) (n := 1540) rfl rfl (by decide)) (z_tne hf_ta hf_dr (m := 12900) (n := 4260) rfl rfl (by decide))).trans hf_ta
      have hf_li : f192 li = .inl (cy 1, 5, .inl nli_193) := ha_0
      have hf_ha : f192 ha = .inl (cy 1, 30, .inl nha_194) := ha_1
      have hf_lw : f192 lw = .inl (cy 1, 25, .inl nlw_195) := ha_2
      have hf_st : f192 st = .inl (cy 1, 20, .inl nst_196) := ha_3
      have hf_fo : f192 fo = .inl (cy 1, 180, .inl nfo_197) := ha_4
      have hf_dr : f192 dr = .inl (cy 1, 520, .inl ndr_198) := ha_5
      have hea := hp
      refine lv_aload_n hx hb dX10_moor_162 rfl (lv_at hl 0 rfl) ?_
      refine z_get (C := RX10) (T := TX10) (N := 54) (ci := 10) (v := .ref li) hx hb hT zin_X10 hown hK hw hm_mm hf_mm rfl 16 (by decide) (hT _ kw_1184) rfl dX10_moor_163 ?_
      refine lv_iconst (v := 0) hx hb dX10_moor_166 (by decide) ?_
      refine z_iald hx hb hK hw 1 hm_li hf_li rfl (z_ix (show (0 : Int32).toInt = 0 by decide) (by decide)) dX10_moor_167 ?_
      refine lv_topi (fun w199 e_w199 => ?_)
      refine z_if_ne (tgt := 178) hx hb rfl dX10_moor_168 (by decide) (fun c200 => ?_) (fun c200 => ?_)
      · skip
        refine lv_aload_n hx hb dX10_moor_178 rfl (lv_at hl 0 rfl) ?_
        refine z_get (C := RX10) (T := TX10) (N := 54) (ci := 10) (v := .ref li) hx hb hT zin_X10 hown hK hw hm_mm hf_mm rfl 16 (by decide) (hT _ kw_1184) rfl dX10_moor_179 ?_
        refine lv_iconst (v := 0) hx hb dX10_moor_182 (by decide) ?_
        refine z_iald hx hb hK hw 1 hm_li hf_li rfl (z_ix (show (0 : Int32).toInt = 0 by decide) (by decide)) dX10_moor_183 ?_
        refine lv_topi (fun w201 e_w201 => ?_)
        exact z_iret hx hb hr hlk (by decide) (by decide) hw (⟨hsub, hfr, AT19, TK20, PL21, VA22, BA24, BP25, OT26, f2_186, p2_187, WO23, nli_193, nha_194, nlw_195, nst_196, nfo_197, ndr_198, hf_mm, hf_li, hf_ha, hf_lw, hf_st, hf_fo, hf_dr, hq_ha, hq_lw, hq_st, hq_dr, hea⟩) dX10_moor_184
      · skip
        refine lv_aload_n hx hb dX10_moor_171 rfl (lv_at hl 0 rfl) ?_
        refine z_get (C := RX10) (T := TX10) (N := 54) (ci := 10) (v := .ref ha) hx hb hT zin_X10 hown hK hw hm_mm hf_mm rfl 17 (by decide) (hT _ kw_1185) rfl dX10_moor_172 ?_
        refine lv_iconst (v := 2) hx hb dX10_moor_175 (by decide) ?_
        refine lv_iconst (v := 0) hx hb dX10_moor_176 (by decide) ?_
        refine z_iast hx hb hK hw 1 hm_ha hf_ha rfl (z_ix (show (2 : Int32).toInt = 2 by decide) (by decide)) dX10_moor_177 (fun H locs hw => ?_)
        obtain ⟨f203, e_f203⟩ : ∃ z, z = va_up f192 ha (.inl (cy 1, 30, .inl (upd nha_194 (2 : Int32).toNatClampNeg 0))) := ⟨_, rfl⟩
        rw [← e_f203] at hw
        have hf_mm : f203 mm = .inr (10, [.int 0, .ref wd, .ref my, .ref ce, .ref mv, .ref ta, .int 0, .int AT19, .int TK20, .int PL21, .int VA22, .long WO23, .int BA24, .int BP25, .int f2_186, .int p2_187, .ref li, .ref ha, .ref lw, .ref st, .ref fo, .ref dr, .int OT26, .ref ik, .int m24, .int m25, .long m26, .int m27, .int m28, .ref ro, .int m30, .ref ct, .ref se, .ref th, .ref cn, .ref be, .int m36, .ref du, .int m38, .ref db, .int m40, .int m41, .int m42, .ref pn, .ref wg, .ref wh, .ref tn, .ref he, .int m48, .ref tr, .ref fd, .ref po, .int m52, .int m53]) := (congrFun e_f203 mm).trans (z_up_ne (z_tne hf_mm hf_ha (m := 10) (n := 340) rfl rfl (by decide)) hf_mm)
        have hf_ta : f203 ta = .inl (cy 0, 1600, .inl gta) := (congrFun e_f203 ta).trans (z_up_ne (z_tne hf_ta hf_ha (m := 12900) (n := 340) rfl rfl (by decide)) hf_ta)
        have hf_li : f203 li = .inl (cy 1, 5, .inl nli_193) := (congrFun e_f203 li).trans (z_up_ne (z_tne hf_li hf_ha (m := 140) (n := 340) rfl rfl (by decide)) hf_li)
        have hf_lw : f203 lw = .inl (cy 1, 25, .inl nlw_195) := (congrFun e_f203 lw).trans (z_up_ne (z_tne hf_lw hf_ha (m := 300) (n := 340) rfl rfl (by decide)) hf_lw)
        have hf_st : f203 st = .inl (cy 1, 20, .inl nst_196) := (congrFun e_f203 st).trans (z_up_ne (z_tne hf_st hf_ha (m := 260) (n := 340) rfl rfl (by decide)) hf_st)
        have hf_fo : f203 fo = .inl (cy 1, 180, .inl nfo_197) := (congrFun e_f203 fo).trans (z_up_ne (z_tne hf_fo hf_ha (m := 1540) (n := 340) rfl rfl (by decide)) hf_fo)
        have hf_dr : f203 dr = .inl (cy 1, 520, .inl ndr_198) := (congrFun e_f203 dr).trans (z_up_ne (z_tne hf_dr hf_ha (m := 4260) (n := 340) rfl rfl (by decide)) hf_dr)
        have hf_ha : f203 ha = .inl (cy 1, 30, .inl (upd nha_194 (2 : Int32).toNatClampNeg 0)) := (congrFun e_f203 ha).trans z_up_self
        have hfr : ∀ b ∈ L, b ≠ mm → b ≠ li → b ≠ ha → b ≠ lw → b ≠ st → b ≠ fo → b ≠ dr → f203 b = f b := fun b hb h0 h1 h2 h3 h4 h5 h6 => (congrFun e_f203 b).trans (z_up_ne h2 (hfr b hb h0 h1 h2 h3 h4 h5 h6))
        obtain ⟨g202, e_g202⟩ : ∃ z, z = (upd nha_194 (2 : Int32).toNatClampNeg 0) := ⟨_, rfl⟩
        rw [← e_g202] at hf_ha
        have hq_ha : ∀ j : Nat, q_has j (g202 j) := z_updQ hq_ha e_g202 (show q_has _ _ from ⟨(fun h => absurd h (by decide)), (fun h => absurd h (by decide)), (fun _ => (show 0 ≤ (0 : Int32).toInt ∧ (0 : Int32).toInt ≤ 5 by first | decide | omega)), (fun h => absurd h (by decide))⟩)
        have hea := z_ea_has hea e_g202 (by decide)
        refine lv_aload_n hx hb dX10_moor_178 rfl (lv_at hl 0 rfl) ?_
        refine z_get (C := RX10) (T := TX10) (N := 54) (ci := 10) (v := .ref li) hx hb hT zin_X10 hown hK hw hm_mm hf_mm rfl 16 (by decide) (hT _ kw_1184) rfl dX10_moor_179 ?_
        refine lv_iconst (v := 0) hx hb dX10_moor_182 (by decide) ?_
        refine z_iald hx hb hK hw 1 hm_li hf_li rfl (z_ix (show (0 : Int32).toInt = 0 by decide) (by decide)) dX10_moor_183 ?_
        refine lv_topi (fun w204 e_w204 => ?_)
        exact z_iret hx hb hr hlk (by decide) (by decide) hw (⟨hsub, hfr, AT19, TK20, PL21, VA22, BA24, BP25, OT26, f2_186, p2_187, WO23, nli_193, g202, nlw_195, nst_196, nfo_197, ndr_198, hf_mm, hf_li, hf_ha, hf_lw, hf_st, hf_fo, hf_dr, hq_ha, hq_lw, hq_st, hq_dr, hea⟩) dX10_moor_184
    · skip
      refine lv_bipush (v := (-4)) hx hb dX10_moor_153 (by decide) ?_
      exact z_iret hx hb hr hlk (by decide) (by decide) hw (⟨hsub, hfr, AT19, TK20, PL21, VA22, BA24, BP25, OT26, f2_186, p2_187, WO23, G27, G28, G29, G30, G31, G32, hf_mm, hf_li, hf_ha, hf_lw, hf_st, hf_fo, hf_dr, hq_ha, hq_lw, hq_st, hq_dr, hea⟩) dX10_moor_155
