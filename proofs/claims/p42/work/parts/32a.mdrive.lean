set_option maxHeartbeats 2000000 in
set_option maxRecDepth 100000 in
theorem c_X10_driveLine (l : Launch) {D : va_G} {cy : Nat → ClassId} {L : List Nat} {f : Nat → va_E} {sz : Nat} {adK adV : Nat → Nat} {mm wd my ce mv ta li ha lw st fo dr ik ro ct se th cn be du db pn wg wh tn he tr fd po : Nat} {m0 m6 m7 m8 m9 m10 m12 m13 m14 m15 m22 m24 m25 m27 m28 m30 m36 m38 m40 m41 m42 m48 m52 m53 : Int32} {m11 m26 : Int64} {gta gha gdr : Nat → Int32}  {hz : Nat → Int32} (hm_mm : mm ∈ L) (hm_ta : ta ∈ L) (hm_ha : ha ∈ L) (hm_dr : dr ∈ L) (hf_mm : f mm = .inr (10, [.int m0, .ref wd, .ref my, .ref ce, .ref mv, .ref ta, .int m6, .int m7, .int m8, .int m9, .int m10, .long m11, .int m12, .int m13, .int m14, .int m15, .ref li, .ref ha, .ref lw, .ref st, .ref fo, .ref dr, .int m22, .ref ik, .int m24, .int m25, .long m26, .int m27, .int m28, .ref ro, .int m30, .ref ct, .ref se, .ref th, .ref cn, .ref be, .int m36, .ref du, .int m38, .ref db, .int m40, .int m41, .int m42, .ref pn, .ref wg, .ref wh, .ref tn, .ref he, .int m48, .ref tr, .ref fd, .ref po, .int m52, .int m53])) (hf_ta : f ta = .inl (cy 0, 1600, .inl gta)) (hf_ha : f ha = .inl (cy 1, 30, .inl gha)) (hf_dr : f dr = .inl (cy 1, 520, .inl gdr)) (hq_ha : ∀ j : Nat, (q_hasR hz) j (gha j)) (hq_dr : ∀ j : Nat, q_drv j (gdr j)) (htp : 0 ≤ m6.toInt ∧ m6.toInt ≤ 1600) (hat : 0 ≤ m7.toInt ∧ m7.toInt ≤ m6.toInt) (hd11 : (gha 27).toInt ≤ 11) : Met l yX10_driveLine (z_ws yX10_driveLine cX10_driveLine 3 none) (z_R 6 0 0) (va_Pc [.ref mm] (z_Pre D vwCl (z_KK D cy adK adV) L f sz)) (z_Qv D vwCl (fun u => L = u.1 ∧ (∀ b ∈ L, b ≠ mm → b ≠ ha → b ≠ dr → u.2 b = f b) ∧ (∃ (a2 k2 p2 v2 b2 q2 : Int32) (w2 : Int64) (nha ndr : Nat → Int32), (u.2 mm = .inr (10, [.int m0, .ref wd, .ref my, .ref ce, .ref mv, .ref ta, .int m6, .int a2, .int k2, .int p2, .int v2, .long w2, .int b2, .int q2, .int m14, .int m15, .ref li, .ref ha, .ref lw, .ref st, .ref fo, .ref dr, .int m22, .ref ik, .int m24, .int m25, .long m26, .int m27, .int m28, .ref ro, .int m30, .ref ct, .ref se, .ref th, .ref cn, .ref be, .int m36, .ref du, .int m38, .ref db, .int m40, .int m41, .int m42, .ref pn, .ref wg, .ref wh, .ref tn, .ref he, .int m48, .ref tr, .ref fd, .ref po, .int m52, .int m53])) ∧ (u.2 ha = .inl (cy 1, 30, .inl nha)) ∧ (u.2 dr = .inl (cy 1, 520, .inl ndr)) ∧ (∀ j : Nat, (q_hasR hz) j (nha j)) ∧ (∀ j : Nat, q_drv j (ndr j)) ∧ ((0 ≤ a2.toInt ∧ a2.toInt ≤ m6.toInt) ∧ m7.toInt ≤ a2.toInt ∧ (b2.toInt ≠ 0 ∨ m12.toInt = 0) ∧ ((a2.toInt = m7.toInt ∧ k2.toInt = m8.toInt) ∨ k2.toInt ≠ 3 ∨ m7.toInt < a2.toInt)))) L sz) 0 0 (z_A L sz) := by
  refine z_met (cc := cX10_driveLine) (maxL := 3) (ret := none) (lv := [(0, .ref mm)]) (by decide) rfl (Nat.le_of_ble_eq_true rfl) rfl ?_
  intro p e s m below meth c ls hx hb hr hlk hml hown hnm hts hKK hA hw hl
  have hK := hKK.1.1
  have hown : s.vm.findClass RX10 = some m.cls := hown
  have hT : ∀ w ∈ lw_all, w.before ([.ref mm] : List Value).toArray s = true := fun w h => hts w (z_cons w h)
  have hsub : L = L := rfl
  have hfr : ∀ b ∈ L, b ≠ mm → b ≠ ha → b ≠ dr → f b = f b := fun _ _ _ _ _ => rfl
  have hC : (0 ≤ m7.toInt ∧ m7.toInt ≤ m6.toInt) := hat
  refine lv_bipush (v := 8) hx hb dX10_driveLine_0 (by decide) ?_
  refine lv_bipush (v := 52) hx hb dX10_driveLine_2 (by decide) ?_
  refine lv_aload_n hx hb dX10_driveLine_4 rfl (lv_at hl 0 rfl) ?_
  refine lv_iconst (v := 3) hx hb dX10_driveLine_5 (by decide) ?_
  have hz1 := (show (3 : Int32).toInt = 3 by decide)
  refine z_calliV (cells := 0) (slots := 0) (b := mm) (As := [.int 3]) (rest := [.int 52, .int 8]) (ci := 10) (q0 := (RX10, TX10, 54)) ⟨hx, hb, hml, hown, hT⟩ (c_X10_hasRead l hm_mm hm_ha hf_mm hf_ha hq_ha (by decide)) (cwV 1 hT (z_goodV (fun _ h => h) kw_1434 kw_1436 kw_44 kw_96 kw_1437) rfl rfl rfl (by decide +kernel) ⟨by decide, by decide⟩) z_mv hKK hK hw hA hm_mm hf_mm rfl rfl rfl hl.1 rfl (Nat.le_of_ble_eq_true rfl) dX10_driveLine_6 ⟨by decide, by decide⟩ (fun r2 u H locs hp hw => ?_)
  obtain ⟨rfl, hp⟩ := hp
  have hw : z_H D vwCl (z_A L sz) s.heap L f H locs := hw
  have hh3 : 0 ≤ r2.toInt ∧ r2.toInt ≤ 12 := by rw [hp]; exact (hq_ha 27).1.2.2.2 rfl
  refine lv_iadd hx hb dX10_driveLine_9 ?_
  refine lv_topi (fun w4 e_w4 => ?_)
  have i_w4 : w4.toInt = (52 + r2.toInt) := z_add e_w4 (show (52 : Int32).toInt = 52 by decide) rfl (by omega)
  refine lv_imul hx hb dX10_driveLine_10 ?_
  refine lv_topi (fun w5 e_w5 => ?_)
  have i_w5 : w5.toInt = (8 * (52 + r2.toInt)) := z_mul e_w5 (show (8 : Int32).toInt = 8 by decide) i_w4 (by omega)
  refine lv_istore_n (lv' := [(1, .int w5), (0, .ref mm)]) hx hb dX10_driveLine_11 rfl hl (by decide) rfl (fun ls hl => ?_)
  refine lv_aload_n hx hb dX10_driveLine_12 rfl (lv_at hl 1 rfl) ?_
  refine lv_iconst (v := 0) hx hb dX10_driveLine_13 (by decide) ?_
  refine lv_aload_n hx hb dX10_driveLine_14 rfl (lv_at hl 1 rfl) ?_
  refine lv_iconst (v := 2) hx hb dX10_driveLine_15 (by decide) ?_
  have hz6 := (show (2 : Int32).toInt = 2 by decide)
  refine z_calliV (cells := 0) (slots := 0) (b := mm) (As := [.int 2]) (rest := [.int 0, .ref mm]) (ci := 10) (q0 := (RX10, TX10, 54)) ⟨hx, hb, hml, hown, hT⟩ (c_X10_hasRead l hm_mm hm_ha hf_mm hf_ha hq_ha (by decide)) (cwV 1 hT (z_goodV (fun _ h => h) kw_1434 kw_1436 kw_44 kw_96 kw_1437) rfl rfl rfl (by decide +kernel) ⟨by decide, by decide⟩) z_mv hKK hK hw hA hm_mm hf_mm rfl rfl rfl hl.1 rfl (Nat.le_of_ble_eq_true rfl) dX10_driveLine_16 ⟨by decide, by decide⟩ (fun r7 u H locs hp hw => ?_)
  obtain ⟨rfl, hp⟩ := hp
  have hw : z_H D vwCl (z_A L sz) s.heap L f H locs := hw
  have hh8 : 0 ≤ r7.toInt ∧ r7.toInt ≤ 5 := by rw [hp]; exact (hq_ha 26).1.2.2.1 rfl
  refine lv_iconst (v := 1) hx hb dX10_driveLine_19 (by decide) ?_
  refine lv_isub hx hb dX10_driveLine_20 ?_
  refine lv_topi (fun w9 e_w9 => ?_)
  have i_w9 : w9.toInt = (r7.toInt - 1) := z_subI e_w9 rfl (show (1 : Int32).toInt = 1 by decide) (by omega)
  have hz10 := (show (0 : Int32).toInt = 0 by decide)
  refine z_calliV (cells := 0) (slots := 0) (b := mm) (As := [.int 0, .int w9]) (rest := []) (ci := 10) (q0 := (RX10, TX10, 54)) ⟨hx, hb, hml, hown, hT⟩ (c_X10_number l hm_mm hm_ta hf_mm hf_ta (by first | omega | decide | assumption) (by first | omega | decide | assumption)) (cwV 2 hT (z_goodV (fun _ h => h) kw_1420 kw_1422 kw_42 kw_96 kw_1423) rfl rfl rfl (by decide +kernel) ⟨by decide, by decide⟩) z_mv hKK hK hw hA hm_mm hf_mm rfl rfl rfl hl.1 rfl (Nat.le_of_ble_eq_true rfl) dX10_driveLine_21 ⟨by decide, by decide⟩ (fun r11 u H locs hp hw => ?_)
  obtain ⟨L12, f13⟩ := u
  obtain ⟨hsb, hfm, a2_14, k2_15, p2_16, v2_17, b2_18, q2_19, w2_20, ha_0, hp⟩ := hp
  have hsb : L = L12 := hsb
  subst hsb
  have hsb : ∀ b ∈ L, b ∈ L := fun _ h => h
  have hw : z_H D vwCl (z_A L sz) s.heap L f13 H locs := hw
  have hfr : ∀ b ∈ L, b ≠ mm → b ≠ ha → b ≠ dr → f13 b = f b := fun b hb h0 h1 h2 => (hfm b hb h0).trans (hfr b hb h0 h1 h2)
  have hf_ta : f13 ta = .inl (cy 0, 1600, .inl gta) := (hfm ta hm_ta (z_tne hf_ta hf_mm (m := 12900) (n := 10) rfl rfl (by decide))).trans hf_ta
  have hf_ha : f13 ha = .inl (cy 1, 30, .inl gha) := (hfm ha hm_ha (z_tne hf_ha hf_mm (m := 340) (n := 10) rfl rfl (by decide))).trans hf_ha
  have hf_dr : f13 dr = .inl (cy 1, 520, .inl gdr) := (hfm dr hm_dr (z_tne hf_dr hf_mm (m := 4260) (n := 10) rfl rfl (by decide))).trans hf_dr
  have hf_mm : f13 mm = .inr (10, [.int m0, .ref wd, .ref my, .ref ce, .ref mv, .ref ta, .int m6, .int a2_14, .int k2_15, .int p2_16, .int v2_17, .long w2_20, .int b2_18, .int q2_19, .int m14, .int m15, .ref li, .ref ha, .ref lw, .ref st, .ref fo, .ref dr, .int m22, .ref ik, .int m24, .int m25, .long m26, .int m27, .int m28, .ref ro, .int m30, .ref ct, .ref se, .ref th, .ref cn, .ref be, .int m36, .ref du, .int m38, .ref db, .int m40, .int m41, .int m42, .ref pn, .ref wg, .ref wh, .ref tn, .ref he, .int m48, .ref tr, .ref fd, .ref po, .int m52, .int m53]) := ha_0
  have hR_r11 : 0 ≤ r11.toInt ∧ r11.toInt ≤ 4 := by omega
  have hC_ : (0 ≤ a2_14.toInt ∧ a2_14.toInt ≤ m6.toInt) ∧ m7.toInt ≤ a2_14.toInt ∧ (b2_18.toInt ≠ 0 ∨ m12.toInt = 0) ∧ ((a2_14.toInt = m7.toInt ∧ k2_15.toInt = m8.toInt) ∨ k2_15.toInt ≠ 3 ∨ m7.toInt < a2_14.toInt) := by refine ⟨⟨?_, ?_⟩, ?_, ?_, ?_⟩ <;> omega
  clear hp
  replace hC := hC_
  clear hC_
  refine lv_istore_n (lv' := [(2, .int r11), (1, .int w5), (0, .ref mm)]) hx hb dX10_driveLine_24 rfl hl (by decide) rfl (fun ls hl => ?_)
  refine lv_aload_n hx hb dX10_driveLine_25 rfl (lv_at hl 2 rfl) ?_
  refine z_get (C := RX10) (T := TX10) (N := 54) (ci := 10) (v := .ref dr) hx hb hT zin_X10 hown hK hw hm_mm hf_mm rfl 21 (by decide) (hT _ kw_1189) rfl dX10_driveLine_26 ?_
  refine lv_iload_n hx hb dX10_driveLine_29 rfl (lv_at hl 1 rfl) ?_
  refine lv_iload_n hx hb dX10_driveLine_30 rfl (lv_at hl 0 rfl) ?_
  refine z_iast hx hb hK hw 1 hm_dr hf_dr rfl (z_ix i_w5 (by omega)) dX10_driveLine_31 (fun H locs hw => ?_)
  obtain ⟨f22, e_f22⟩ : ∃ z, z = va_up f13 dr (.inl (cy 1, 520, .inl (upd gdr w5.toNatClampNeg r11))) := ⟨_, rfl⟩
  rw [← e_f22] at hw
  have hf_mm : f22 mm = .inr (10, [.int m0, .ref wd, .ref my, .ref ce, .ref mv, .ref ta, .int m6, .int a2_14, .int k2_15, .int p2_16, .int v2_17, .long w2_20, .int b2_18, .int q2_19, .int m14, .int m15, .ref li, .ref ha, .ref lw, .ref st, .ref fo, .ref dr, .int m22, .ref ik, .int m24, .int m25, .long m26, .int m27, .int m28, .ref ro, .int m30, .ref ct, .ref se, .ref th, .ref cn, .ref be, .int m36, .ref du, .int m38, .ref db, .int m40, .int m41, .int m42, .ref pn, .ref wg, .ref wh, .ref tn, .ref he, .int m48, .ref tr, .ref fd, .ref po, .int m52, .int m53]) := (congrFun e_f22 mm).trans (z_up_ne (z_tne hf_mm hf_dr (m := 10) (n := 4260) rfl rfl (by decide)) hf_mm)
  have hf_ta : f22 ta = .inl (cy 0, 1600, .inl gta) := (congrFun e_f22 ta).trans (z_up_ne (z_tne hf_ta hf_dr (m := 12900) (n := 4260) rfl rfl (by decide)) hf_ta)
  have hf_ha : f22 ha = .inl (cy 1, 30, .inl gha) := (congrFun e_f22 ha).trans (z_up_ne (z_tne hf_ha hf_dr (m := 340) (n := 4260) rfl rfl (by decide)) hf_ha)
  have hf_dr : f22 dr = .inl (cy 1, 520, .inl (upd gdr w5.toNatClampNeg r11)) := (congrFun e_f22 dr).trans z_up_self
  have hfr : ∀ b ∈ L, b ≠ mm → b ≠ ha → b ≠ dr → f22 b = f b := fun b hb h0 h1 h2 => (congrFun e_f22 b).trans (z_up_ne h2 (hfr b hb h0 h1 h2))
  obtain ⟨g21, e_g21⟩ : ∃ z, z = (upd gdr w5.toNatClampNeg r11) := ⟨_, rfl⟩
  rw [← e_g21] at hf_dr
  have hq_dr : ∀ j : Nat, q_drv j (g21 j) := z_updQ hq_dr e_g21 (show q_drv _ _ from z_drS0 (z_mod8 i_w5 (by omega)) (show 0 ≤ (r11 : Int32).toInt ∧ (r11 : Int32).toInt ≤ 4 by first | decide | omega))
  refine lv_aload_n hx hb dX10_driveLine_32 rfl (lv_at hl 2 rfl) ?_
  refine z_get (C := RX10) (T := TX10) (N := 54) (ci := 10) (v := .ref dr) hx hb hT zin_X10 hown hK hw hm_mm hf_mm rfl 21 (by decide) (hT _ kw_1189) rfl dX10_driveLine_33 ?_
  refine lv_iload_n hx hb dX10_driveLine_36 rfl (lv_at hl 1 rfl) ?_
  refine lv_iconst (v := 1) hx hb dX10_driveLine_37 (by decide) ?_
  refine lv_iadd hx hb dX10_driveLine_38 ?_
  refine lv_topi (fun w23 e_w23 => ?_)
  have i_w23 : w23.toInt = ((8 * (52 + r2.toInt)) + 1) := z_add e_w23 i_w5 (show (1 : Int32).toInt = 1 by decide) (by omega)
  refine lv_aload_n hx hb dX10_driveLine_39 rfl (lv_at hl 2 rfl) ?_
  refine lv_ldc2 (v := 5146) hx hb hown (hT _ kw_1442) dX10_driveLine_40 ?_
  refine lv_iconst (v := 0) hx hb dX10_driveLine_43 (by decide) ?_
  refine lv_aload_n hx hb dX10_driveLine_44 rfl (lv_at hl 2 rfl) ?_
  refine lv_iconst (v := 0) hx hb dX10_driveLine_45 (by decide) ?_
  have hz24 := (show (0 : Int32).toInt = 0 by decide)
  refine z_calliV (cells := 0) (slots := 0) (b := mm) (As := [.int 0]) (rest := [.int 0, .long 5146, .ref mm, .int w23, .ref dr]) (ci := 10) (q0 := (RX10, TX10, 54)) ⟨hx, hb, hml, hown, hT⟩ (c_X10_hasRead l hm_mm hm_ha hf_mm hf_ha hq_ha (by decide)) (cwV 1 hT (z_goodV (fun _ h => h) kw_1434 kw_1436 kw_44 kw_96 kw_1437) rfl rfl rfl (by decide +kernel) ⟨by decide, by decide⟩) z_mv hKK hK hw hA hm_mm hf_mm rfl rfl rfl hl.1 rfl (Nat.le_of_ble_eq_true rfl) dX10_driveLine_46 ⟨by decide, by decide⟩ (fun r25 u H locs hp hw => ?_)
  obtain ⟨rfl, hp⟩ := hp
  have hw : z_H D vwCl (z_A L sz) s.heap L f22 H locs := hw
  have hh26 : 0 ≤ r25.toInt ∧ r25.toInt ≤ 4 := by rw [hp]; exact (hq_ha 24).1.1 rfl
  refine lv_iconst (v := 1) hx hb dX10_driveLine_49 (by decide) ?_
  refine lv_isub hx hb dX10_driveLine_50 ?_
  refine lv_topi (fun w27 e_w27 => ?_)
  have i_w27 : w27.toInt = (r25.toInt - 1) := z_subI e_w27 rfl (show (1 : Int32).toInt = 1 by decide) (by omega)
  have hz28 := (show (5146 : Int64).toInt = 5146 by decide)
  have hz29 := (show (0 : Int32).toInt = 0 by decide)
  refine z_calliV (cells := 0) (slots := 0) (b := mm) (As := [.long 5146, .int 0, .int w27]) (rest := [.int w23, .ref dr]) (ci := 10) (q0 := (RX10, TX10, 54)) ⟨hx, hb, hml, hown, hT⟩ (c_X10_number_ l hm_mm hm_ta hf_mm hf_ta (by first | omega | decide | assumption) (by first | omega | decide | assumption)) (cwV 3 hT (z_goodV (fun _ h => h) kw_1416 kw_1418 kw_41 kw_96 kw_1419) rfl rfl rfl (by decide +kernel) ⟨by decide, by decide⟩) z_mv hKK hK hw hA hm_mm hf_mm rfl rfl rfl hl.1 rfl (Nat.le_of_ble_eq_true rfl) dX10_driveLine_51 ⟨by decide, by decide⟩ (fun r30 u H locs hp hw => ?_)
  obtain ⟨L31, f32⟩ := u
  obtain ⟨hsb, hfm, a2_33, k2_34, p2_35, v2_36, b2_37, q2_38, w2_39, ha_0, hp⟩ := hp
  have hsb : L = L31 := hsb
  subst hsb
  have hsb : ∀ b ∈ L, b ∈ L := fun _ h => h
  have hw : z_H D vwCl (z_A L sz) s.heap L f32 H locs := hw
  have hfr : ∀ b ∈ L, b ≠ mm → b ≠ ha → b ≠ dr → f32 b = f b := fun b hb h0 h1 h2 => (hfm b hb h0).trans (hfr b hb h0 h1 h2)
  have hf_ta : f32 ta = .inl (cy 0, 1600, .inl gta) := (hfm ta hm_ta (z_tne hf_ta hf_mm (m := 12900) (n := 10) rfl rfl (by decide))).trans hf_ta
  have hf_ha : f32 ha = .inl (cy 1, 30, .inl gha) := (hfm ha hm_ha (z_tne hf_ha hf_mm (m := 340) (n := 10) rfl rfl (by decide))).trans hf_ha
  have hf_dr : f32 dr = .inl (cy 1, 520, .inl g21) := (hfm dr hm_dr (z_tne hf_dr hf_mm (m := 4260) (n := 10) rfl rfl (by decide))).trans hf_dr
  have hf_mm : f32 mm = .inr (10, [.int m0, .ref wd, .ref my, .ref ce, .ref mv, .ref ta, .int m6, .int a2_33, .int k2_34, .int p2_35, .int v2_36, .long w2_39, .int b2_37, .int q2_38, .int m14, .int m15, .ref li, .ref ha, .ref lw, .ref st, .ref fo, .ref dr, .int m22, .ref ik, .int m24, .int m25, .long m26, .int m27, .int m28, .ref ro, .int m30, .ref ct, .ref se, .ref th, .ref cn, .ref be, .int m36, .ref du, .int m38, .ref db, .int m40, .int m41, .int m42, .ref pn, .ref wg, .ref wh, .ref tn, .ref he, .int m48, .ref tr, .ref fd, .ref po, .int m52, .int m53]) := ha_0
  have hR_r30 : 0 ≤ r30.toInt ∧ r30.toInt ≤ 3 := by omega
  have hC_ : (0 ≤ a2_33.toInt ∧ a2_33.toInt ≤ m6.toInt) ∧ m7.toInt ≤ a2_33.toInt ∧ (b2_37.toInt ≠ 0 ∨ m12.toInt = 0) ∧ ((a2_33.toInt = m7.toInt ∧ k2_34.toInt = m8.toInt) ∨ k2_34.toInt ≠ 3 ∨ m7.toInt < a2_33.toInt) := by refine ⟨⟨?_, ?_⟩, ?_, ?_, ?_⟩ <;> omega
  clear hp
  replace hC := hC_
  clear hC_
  refine z_iast hx hb hK hw 1 hm_dr hf_dr rfl (z_ix i_w23 (by omega)) dX10_driveLine_54 (fun H locs hw => ?_)
  obtain ⟨f41, e_f41⟩ : ∃ z, z = va_up f32 dr (.inl (cy 1, 520, .inl (upd g21 w23.toNatClampNeg r30))) := ⟨_, rfl⟩
  rw [← e_f41] at hw
  have hf_mm : f41 mm = .inr (10, [.int m0, .ref wd, .ref my, .ref ce, .ref mv, .ref ta, .int m6, .int a2_33, .int k2_34, .int p2_35, .int v2_36, .long w2_39, .int b2_37, .int q2_38, .int m14, .int m15, .ref li, .ref ha, .ref lw, .ref st, .ref fo, .ref dr, .int m22, .ref ik, .int m24, .int m25, .long m26, .int m27, .int m28, .ref ro, .int m30, .ref ct, .ref se, .ref th, .ref cn, .ref be, .int m36, .ref du, .int m38, .ref db, .int m40, .int m41, .int m42, .ref pn, .ref wg, .ref wh, .ref tn, .ref he, .int m48, .ref tr, .ref fd, .ref po, .int m52, .int m53]) := (congrFun e_f41 mm).trans (z_up_ne (z_tne hf_mm hf_dr (m := 10) (n := 4260) rfl rfl (by decide)) hf_mm)
  have hf_ta : f41 ta = .inl (cy 0, 1600, .inl gta) := (congrFun e_f41 ta).trans (z_up_ne (z_tne hf_ta hf_dr (m := 12900) (n := 4260) rfl rfl (by decide)) hf_ta)
  have hf_ha : f41 ha = .inl (cy 1, 30, .inl gha) := (congrFun e_f41 ha).trans (z_up_ne (z_tne hf_ha hf_dr (m := 340) (n := 4260) rfl rfl (by decide)) hf_ha)
  have hf_dr : f41 dr = .inl (cy 1, 520, .inl (upd g21 w23.toNatClampNeg r30)) := (congrFun e_f41 dr).trans z_up_self
  have hfr : ∀ b ∈ L, b ≠ mm → b ≠ ha → b ≠ dr → f41 b = f b := fun b hb h0 h1 h2 => (congrFun e_f41 b).trans (z_up_ne h2 (hfr b hb h0 h1 h2))
  obtain ⟨g40, e_g40⟩ : ∃ z, z = (upd g21 w23.toNatClampNeg r30) := ⟨_, rfl⟩
  rw [← e_g40] at hf_dr
  have hq_dr : ∀ j : Nat, q_drv j (g40 j) := z_updQ hq_dr e_g40 (show q_drv _ _ from z_drS1 (z_mod8 i_w23 (by omega)) (show 0 ≤ (r30 : Int32).toInt ∧ (r30 : Int32).toInt ≤ 3 by first | decide | omega))
  refine lv_aload_n hx hb dX10_driveLine_55 rfl (lv_at hl 2 rfl) ?_
  refine z_get (C := RX10) (T := TX10) (N := 54) (ci := 10) (v := .ref dr) hx hb hT zin_X10 hown hK hw hm_mm hf_mm rfl 21 (by decide) (hT _ kw_1189) rfl dX10_driveLine_56 ?_
  refine lv_iload_n hx hb dX10_driveLine_59 rfl (lv_at hl 1 rfl) ?_
  refine lv_iconst (v := 2) hx hb dX10_driveLine_60 (by decide) ?_
  refine lv_iadd hx hb dX10_driveLine_61 ?_
  refine lv_topi (fun w42 e_w42 => ?_)
  have i_w42 : w42.toInt = ((8 * (52 + r2.toInt)) + 2) := z_add e_w42 i_w5 (show (2 : Int32).toInt = 2 by decide) (by omega)
  refine lv_aload_n hx hb dX10_driveLine_62 rfl (lv_at hl 2 rfl) ?_
  refine lv_ldc2 (v := 419) hx hb hown (hT _ kw_1443) dX10_driveLine_63 ?_
  refine lv_iconst (v := 0) hx hb dX10_driveLine_66 (by decide) ?_
  refine lv_aload_n hx hb dX10_driveLine_67 rfl (lv_at hl 2 rfl) ?_
  refine lv_iconst (v := 1) hx hb dX10_driveLine_68 (by decide) ?_
  have hz43 := (show (1 : Int32).toInt = 1 by decide)
  refine z_calliV (cells := 0) (slots := 0) (b := mm) (As := [.int 1]) (rest := [.int 0, .long 419, .ref mm, .int w42, .ref dr]) (ci := 10) (q0 := (RX10, TX10, 54)) ⟨hx, hb, hml, hown, hT⟩ (c_X10_hasRead l hm_mm hm_ha hf_mm hf_ha hq_ha (by decide)) (cwV 1 hT (z_goodV (fun _ h => h) kw_1434 kw_1436 kw_44 kw_96 kw_1437) rfl rfl rfl (by decide +kernel) ⟨by decide, by decide⟩) z_mv hKK hK hw hA hm_mm hf_mm rfl rfl rfl hl.1 rfl (Nat.le_of_ble_eq_true rfl) dX10_driveLine_69 ⟨by decide, by decide⟩ (fun r44 u H locs hp hw => ?_)
  obtain ⟨rfl, hp⟩ := hp
  have hw : z_H D vwCl (z_A L sz) s.heap L f41 H locs := hw
  have hh45 : 0 ≤ r44.toInt ∧ r44.toInt ≤ 9 := by rw [hp]; exact (hq_ha 25).1.2.1 rfl
  refine lv_iconst (v := 1) hx hb dX10_driveLine_72 (by decide) ?_
  refine lv_isub hx hb dX10_driveLine_73 ?_
  refine lv_topi (fun w46 e_w46 => ?_)
  have i_w46 : w46.toInt = (r44.toInt - 1) := z_subI e_w46 rfl (show (1 : Int32).toInt = 1 by decide) (by omega)
  have hz47 := (show (419 : Int64).toInt = 419 by decide)
  have hz48 := (show (0 : Int32).toInt = 0 by decide)
  refine z_calliV (cells := 0) (slots := 0) (b := mm) (As := [.long 419, .int 0, .int w46]) (rest := [.int w42, .ref dr]) (ci := 10) (q0 := (RX10, TX10, 54)) ⟨hx, hb, hml, hown, hT⟩ (c_X10_number_ l hm_mm hm_ta hf_mm hf_ta (by first | omega | decide | assumption) (by first | omega | decide | assumption)) (cwV 3 hT (z_goodV (fun _ h => h) kw_1416 kw_1418 kw_41 kw_96 kw_1419) rfl rfl rfl (by decide +kernel) ⟨by decide, by decide⟩) z_mv hKK hK hw hA hm_mm hf_mm rfl rfl rfl hl.1 rfl (Nat.le_of_ble_eq_true rfl) dX10_driveLine_74 ⟨by decide, by decide⟩ (fun r49 u H locs hp hw => ?_)
  obtain ⟨L50, f51⟩ := u
  obtain ⟨hsb, hfm, a2_52, k2_53, p2_54, v2_55, b2_56, q2_57, w2_58, ha_0, hp⟩ := hp
  have hsb : L = L50 := hsb
  subst hsb
  have hsb : ∀ b ∈ L, b ∈ L := fun _ h => h
  have hw : z_H D vwCl (z_A L sz) s.heap L f51 H locs := hw
  have hfr : ∀ b ∈ L, b ≠ mm → b ≠ ha → b ≠ dr → f51 b = f b := fun b hb h0 h1 h2 => (hfm b hb h0).trans (hfr b hb h0 h1 h2)
  have hf_ta : f51 ta = .inl (cy 0, 1600, .inl gta) := (hfm ta hm_ta (z_tne hf_ta hf_mm (m := 12900) (n := 10) rfl rfl (by decide))).trans hf_ta
  have hf_ha : f51 ha = .inl (cy 1, 30, .inl gha) := (hfm ha hm_ha (z_tne hf_ha hf_mm (m := 340) (n := 10) rfl rfl (by decide))).trans hf_ha
  have hf_dr : f51 dr = .inl (cy 1, 520, .inl g40) := (hfm dr hm_dr (z_tne hf_dr hf_mm (m := 4260) (n := 10) rfl rfl (by decide))).trans hf_dr
  have hf_mm : f51 mm = .inr (10, [.int m0, .ref wd, .ref my, .ref ce, .ref mv, .ref ta, .int m6, .int a2_52, .int k2_53, .int p2_54, .int v2_55, .long w2_58, .int b2_56, .int q2_57, .int m14, .int m15, .ref li, .ref ha, .ref lw, .ref st, .ref fo, .ref dr, .int m22, .ref ik, .int m24, .int m25, .long m26, .int m27, .int m28, .ref ro, .int m30, .ref ct, .ref se, .ref th, .ref cn, .ref be, .int m36, .ref du, .int m38, .ref db, .int m40, .int m41, .int m42, .ref pn, .ref wg, .ref wh, .ref tn, .ref he, .int m48, .ref tr, .ref fd, .ref po, .int m52, .int m53]) := ha_0
  have hR_r49 : 0 ≤ r49.toInt ∧ r49.toInt ≤ 8 := by omega
  have hC_ : (0 ≤ a2_52.toInt ∧ a2_52.toInt ≤ m6.toInt) ∧ m7.toInt ≤ a2_52.toInt ∧ (b2_56.toInt ≠ 0 ∨ m12.toInt = 0) ∧ ((a2_52.toInt = m7.toInt ∧ k2_53.toInt = m8.toInt) ∨ k2_53.toInt ≠ 3 ∨ m7.toInt < a2_52.toInt) := by refine ⟨⟨?_, ?_⟩, ?_, ?_, ?_⟩ <;> omega
  clear hp
  replace hC := hC_
  clear hC_
  refine z_iast hx hb hK hw 1 hm_dr hf_dr rfl (z_ix i_w42 (by omega)) dX10_driveLine_77 (fun H locs hw => ?_)
  obtain ⟨f60, e_f60⟩ : ∃ z, z = va_up f51 dr (.inl (cy 1, 520, .inl (upd g40 w42.toNatClampNeg r49))) := ⟨_, rfl⟩
  rw [← e_f60] at hw
  have hf_mm : f60 mm = .inr (10, [.int m0, .ref wd, .ref my, .ref ce, .ref mv, .ref ta, .int m6, .int a2_52, .int k2_53, .int p2_54, .int v2_55, .long w2_58, .int b2_56, .int q2_57, .int m14, .int m15, .ref li, .ref ha, .ref lw, .ref st, .ref fo, .ref dr, .int m22, .ref ik, .int m24, .int m25, .long m26, .int m27, .int m28, .ref ro, .int m30, .ref ct, .ref se, .ref th, .ref cn, .ref be, .int m36, .ref du, .int m38, .ref db, .int m40, .int m41, .int m42, .ref pn, .ref wg, .ref wh, .ref tn, .ref he, .int m48, .ref tr, .ref fd, .ref po, .int m52, .int m53]) := (congrFun e_f60 mm).trans (z_up_ne (z_tne hf_mm hf_dr (m := 10) (n := 4260) rfl rfl (by decide)) hf_mm)
  have hf_ta : f60 ta = .inl (cy 0, 1600, .inl gta) := (congrFun e_f60 ta).trans (z_up_ne (z_tne hf_ta hf_dr (m := 12900) (n := 4260) rfl rfl (by decide)) hf_ta)
  have hf_ha : f60 ha = .inl (cy 1, 30, .inl gha) := (congrFun e_f60 ha).trans (z_up_ne (z_tne hf_ha hf_dr (m := 340) (n := 4260) rfl rfl (by decide)) hf_ha)
  have hf_dr : f60 dr = .inl (cy 1, 520, .inl (upd g40 w42.toNatClampNeg r49)) := (congrFun e_f60 dr).trans z_up_self
  have hfr : ∀ b ∈ L, b ≠ mm → b ≠ ha → b ≠ dr → f60 b = f b := fun b hb h0 h1 h2 => (congrFun e_f60 b).trans (z_up_ne h2 (hfr b hb h0 h1 h2))
  obtain ⟨g59, e_g59⟩ : ∃ z, z = (upd g40 w42.toNatClampNeg r49) := ⟨_, rfl⟩
  rw [← e_g59] at hf_dr
  have hq_dr : ∀ j : Nat, q_drv j (g59 j) := z_updQ hq_dr e_g59 (show q_drv _ _ from z_drS2 (z_mod8 i_w42 (by omega)) (show 0 ≤ (r49 : Int32).toInt ∧ (r49 : Int32).toInt ≤ 8 by first | decide | omega))
  refine lv_aload_n hx hb dX10_driveLine_78 rfl (lv_at hl 2 rfl) ?_
  refine z_get (C := RX10) (T := TX10) (N := 54) (ci := 10) (v := .ref dr) hx hb hT zin_X10 hown hK hw hm_mm hf_mm rfl 21 (by decide) (hT _ kw_1189) rfl dX10_driveLine_79 ?_
  refine lv_iload_n hx hb dX10_driveLine_82 rfl (lv_at hl 1 rfl) ?_
  refine lv_iconst (v := 3) hx hb dX10_driveLine_83 (by decide) ?_
  refine lv_iadd hx hb dX10_driveLine_84 ?_
  refine lv_topi (fun w61 e_w61 => ?_)
  have i_w61 : w61.toInt = ((8 * (52 + r2.toInt)) + 3) := z_add e_w61 i_w5 (show (3 : Int32).toInt = 3 by decide) (by omega)
  refine lv_aload_n hx hb dX10_driveLine_85 rfl (lv_at hl 2 rfl) ?_
  refine lv_ldc2 (v := 47) hx hb hown (hT _ kw_1444) dX10_driveLine_86 ?_
  refine lv_iconst (v := 0) hx hb dX10_driveLine_89 (by decide) ?_
  refine lv_bipush (v := 23) hx hb dX10_driveLine_90 (by decide) ?_
  have hz62 := (show (47 : Int64).toInt = 47 by decide)
  have hz63 := (show (0 : Int32).toInt = 0 by decide)
  have hz64 := (show (23 : Int32).toInt = 23 by decide)
  refine z_calliV (cells := 0) (slots := 0) (b := mm) (As := [.long 47, .int 0, .int 23]) (rest := [.int w61, .ref dr]) (ci := 10) (q0 := (RX10, TX10, 54)) ⟨hx, hb, hml, hown, hT⟩ (c_X10_number_ l hm_mm hm_ta hf_mm hf_ta (by first | omega | decide | assumption) (by first | omega | decide | assumption)) (cwV 3 hT (z_goodV (fun _ h => h) kw_1416 kw_1418 kw_41 kw_96 kw_1419) rfl rfl rfl (by decide +kernel) ⟨by decide, by decide⟩) z_mv hKK hK hw hA hm_mm hf_mm rfl rfl rfl hl.1 rfl (Nat.le_of_ble_eq_true rfl) dX10_driveLine_92 ⟨by decide, by decide⟩ (fun r65 u H locs hp hw => ?_)
  obtain ⟨L66, f67⟩ := u
  obtain ⟨hsb, hfm, a2_68, k2_69, p2_70, v2_71, b2_72, q2_73, w2_74, ha_0, hp⟩ := hp
  have hsb : L = L66 := hsb
  subst hsb
  have hsb : ∀ b ∈ L, b ∈ L := fun _ h => h
  have hw : z_H D vwCl (z_A L sz) s.heap L f67 H locs := hw
  have hfr : ∀ b ∈ L, b ≠ mm → b ≠ ha → b ≠ dr → f67 b = f b := fun b hb h0 h1 h2 => (hfm b hb h0).trans (hfr b hb h0 h1 h2)
  have hf_ta : f67 ta = .inl (cy 0, 1600, .inl gta) := (hfm ta hm_ta (z_tne hf_ta hf_mm (m := 12900) (n := 10) rfl rfl (by decide))).trans hf_ta
  have hf_ha : f67 ha = .inl (cy 1, 30, .inl gha) := (hfm ha hm_ha (z_tne hf_ha hf_mm (m := 340) (n := 10) rfl rfl (by decide))).trans hf_ha
  have hf_dr : f67 dr = .inl (cy 1, 520, .inl g59) := (hfm dr hm_dr (z_tne hf_dr hf_mm (m := 4260) (n := 10) rfl rfl (by decide))).trans hf_dr
  have hf_mm : f67 mm = .inr (10, [.int m0, .ref wd, .ref my, .ref ce, .ref mv, .ref ta, .int m6, .int a2_68, .int k2_69, .int p2_70, .int v2_71, .long w2_74, .int b2_72, .int q2_73, .int m14, .int m15, .ref li, .ref ha, .ref lw, .ref st, .ref fo, .ref dr, .int m22, .ref ik, .int m24, .int m25, .long m26, .int m27, .int m28, .ref ro, .int m30, .ref ct, .ref se, .ref th, .ref cn, .ref be, .int m36, .ref du, .int m38, .ref db, .int m40, .int m41, .int m42, .ref pn, .ref wg, .ref wh, .ref tn, .ref he, .int m48, .ref tr, .ref fd, .ref po, .int m52, .int m53]) := ha_0
  have hR_r65 : 0 ≤ r65.toInt ∧ r65.toInt ≤ 23 := by omega
  have hC_ : (0 ≤ a2_68.toInt ∧ a2_68.toInt ≤ m6.toInt) ∧ m7.toInt ≤ a2_68.toInt ∧ (b2_72.toInt ≠ 0 ∨ m12.toInt = 0) ∧ ((a2_68.toInt = m7.toInt ∧ k2_69.toInt = m8.toInt) ∨ k2_69.toInt ≠ 3 ∨ m7.toInt < a2_68.toInt) := by refine ⟨⟨?_, ?_⟩, ?_, ?_, ?_⟩ <;> omega
  clear hp
  replace hC := hC_
  clear hC_
  refine z_iast hx hb hK hw 1 hm_dr hf_dr rfl (z_ix i_w61 (by omega)) dX10_driveLine_95 (fun H locs hw => ?_)
  obtain ⟨f76, e_f76⟩ : ∃ z, z = va_up f67 dr (.inl (cy 1, 520, .inl (upd g59 w61.toNatClampNeg r65))) := ⟨_, rfl⟩
  rw [← e_f76] at hw
  have hf_mm : f76 mm = .inr (10, [.int m0, .ref wd, .ref my, .ref ce, .ref mv, .ref ta, .int m6, .int a2_68, .int k2_69, .int p2_70, .int v2_71, .long w2_74, .int b2_72, .int q2_73, .int m14, .int m15, .ref li, .ref ha, .ref lw, .ref st, .ref fo, .ref dr, .int m22, .ref ik, .int m24, .int m25, .long m26, .int m27, .int m28, .ref ro, .int m30, .ref ct, .ref se, .ref th, .ref cn, .ref be, .int m36, .ref du, .int m38, .ref db, .int m40, .int m41, .int m42, .ref pn, .ref wg, .ref wh, .ref tn, .ref he, .int m48, .ref tr, .ref fd, .ref po, .int m52, .int m53]) := (congrFun e_f76 mm).trans (z_up_ne (z_tne hf_mm hf_dr (m := 10) (n := 4260) rfl rfl (by decide)) hf_mm)
  have hf_ta : f76 ta = .inl (cy 0, 1600, .inl gta) := (congrFun e_f76 ta).trans (z_up_ne (z_tne hf_ta hf_dr (m := 12900) (n := 4260) rfl rfl (by decide)) hf_ta)
  have hf_ha : f76 ha = .inl (cy 1, 30, .inl gha) := (congrFun e_f76 ha).trans (z_up_ne (z_tne hf_ha hf_dr (m := 340) (n := 4260) rfl rfl (by decide)) hf_ha)
  have hf_dr : f76 dr = .inl (cy 1, 520, .inl (upd g59 w61.toNatClampNeg r65)) := (congrFun e_f76 dr).trans z_up_self
  have hfr : ∀ b ∈ L, b ≠ mm → b ≠ ha → b ≠ dr → f76 b = f b := fun b hb h0 h1 h2 => (congrFun e_f76 b).trans (z_up_ne h2 (hfr b hb h0 h1 h2))
  obtain ⟨g75, e_g75⟩ : ∃ z, z = (upd g59 w61.toNatClampNeg r65) := ⟨_, rfl⟩
  rw [← e_g75] at hf_dr
  have hq_dr : ∀ j : Nat, q_drv j (g75 j) := z_updQ hq_dr e_g75 (show q_drv _ _ from z_drS3 (z_mod8 i_w61 (by omega)) (show 0 ≤ (r65 : Int32).toInt ∧ (r65 : Int32).toInt ≤ 23 by first | decide | omega))
  refine lv_aload_n hx hb dX10_driveLine_96 rfl (lv_at hl 2 rfl) ?_
  refine z_get (C := RX10) (T := TX10) (N := 54) (ci := 10) (v := .ref dr) hx hb hT zin_X10 hown hK hw hm_mm hf_mm rfl 21 (by decide) (hT _ kw_1189) rfl dX10_driveLine_97 ?_
  refine lv_iload_n hx hb dX10_driveLine_100 rfl (lv_at hl 1 rfl) ?_
  refine lv_iconst (v := 4) hx hb dX10_driveLine_101 (by decide) ?_
  refine lv_iadd hx hb dX10_driveLine_102 ?_
  refine lv_topi (fun w77 e_w77 => ?_)
  have i_w77 : w77.toInt = ((8 * (52 + r2.toInt)) + 4) := z_add e_w77 i_w5 (show (4 : Int32).toInt = 4 by decide) (by omega)
  refine lv_aload_n hx hb dX10_driveLine_103 rfl (lv_at hl 2 rfl) ?_
  refine lv_ldc2 (v := 10258639) hx hb hown (hT _ kw_1445) dX10_driveLine_104 ?_
  refine lv_iconst (v := 1) hx hb dX10_driveLine_107 (by decide) ?_
  refine lv_bipush (v := 99) hx hb dX10_driveLine_108 (by decide) ?_
  have hz78 := (show (10258639 : Int64).toInt = 10258639 by decide)
  have hz79 := (show (1 : Int32).toInt = 1 by decide)
  have hz80 := (show (99 : Int32).toInt = 99 by decide)
  refine z_calliV (cells := 0) (slots := 0) (b := mm) (As := [.long 10258639, .int 1, .int 99]) (rest := [.int w77, .ref dr]) (ci := 10) (q0 := (RX10, TX10, 54)) ⟨hx, hb, hml, hown, hT⟩ (c_X10_number_ l hm_mm hm_ta hf_mm hf_ta (by first | omega | decide | assumption) (by first | omega | decide | assumption)) (cwV 3 hT (z_goodV (fun _ h => h) kw_1416 kw_1418 kw_41 kw_96 kw_1419) rfl rfl rfl (by decide +kernel) ⟨by decide, by decide⟩) z_mv hKK hK hw hA hm_mm hf_mm rfl rfl rfl hl.1 rfl (Nat.le_of_ble_eq_true rfl) dX10_driveLine_110 ⟨by decide, by decide⟩ (fun r81 u H locs hp hw => ?_)
  obtain ⟨L82, f83⟩ := u
  obtain ⟨hsb, hfm, a2_84, k2_85, p2_86, v2_87, b2_88, q2_89, w2_90, ha_0, hp⟩ := hp
  have hsb : L = L82 := hsb
  subst hsb
  have hsb : ∀ b ∈ L, b ∈ L := fun _ h => h
  have hw : z_H D vwCl (z_A L sz) s.heap L f83 H locs := hw
  have hfr : ∀ b ∈ L, b ≠ mm → b ≠ ha → b ≠ dr → f83 b = f b := fun b hb h0 h1 h2 => (hfm b hb h0).trans (hfr b hb h0 h1 h2)
  have hf_ta : f83 ta = .inl (cy 0, 1600, .inl gta) := (hfm ta hm_ta (z_tne hf_ta hf_mm (m := 12900) (n := 10) rfl rfl (by decide))).trans hf_ta
  have hf_ha : f83 ha = .inl (cy 1, 30, .inl gha) := (hfm ha hm_ha (z_tne hf_ha hf_mm (m := 340) (n := 10) rfl rfl (by decide))).trans hf_ha
  have hf_dr : f83 dr = .inl (cy 1, 520, .inl g75) := (hfm dr hm_dr (z_tne hf_dr hf_mm (m := 4260) (n := 10) rfl rfl (by decide))).trans hf_dr
  have hf_mm : f83 mm = .inr (10, [.int m0, .ref wd, .ref my, .ref ce, .ref mv, .ref ta, .int m6, .int a2_84, .int k2_85, .int p2_86, .int v2_87, .long w2_90, .int b2_88, .int q2_89, .int m14, .int m15, .ref li, .ref ha, .ref lw, .ref st, .ref fo, .ref dr, .int m22, .ref ik, .int m24, .int m25, .long m26, .int m27, .int m28, .ref ro, .int m30, .ref ct, .ref se, .ref th, .ref cn, .ref be, .int m36, .ref du, .int m38, .ref db, .int m40, .int m41, .int m42, .ref pn, .ref wg, .ref wh, .ref tn, .ref he, .int m48, .ref tr, .ref fd, .ref po, .int m52, .int m53]) := ha_0
  have hR_r81 : 1 ≤ r81.toInt ∧ r81.toInt ≤ 99 := by omega
  have hC_ : (0 ≤ a2_84.toInt ∧ a2_84.toInt ≤ m6.toInt) ∧ m7.toInt ≤ a2_84.toInt ∧ (b2_88.toInt ≠ 0 ∨ m12.toInt = 0) ∧ ((a2_84.toInt = m7.toInt ∧ k2_85.toInt = m8.toInt) ∨ k2_85.toInt ≠ 3 ∨ m7.toInt < a2_84.toInt) := by refine ⟨⟨?_, ?_⟩, ?_, ?_, ?_⟩ <;> omega
  clear hp
  replace hC := hC_
  clear hC_
  refine z_iast hx hb hK hw 1 hm_dr hf_dr rfl (z_ix i_w77 (by omega)) dX10_driveLine_113 (fun H locs hw => ?_)
  obtain ⟨f92, e_f92⟩ : ∃ z, z = va_up f83 dr (.inl (cy 1, 520, .inl (upd g75 w77.toNatClampNeg r81))) := ⟨_, rfl⟩
  rw [← e_f92] at hw
  have hf_mm : f92 mm = .inr (10, [.int m0, .ref wd, .ref my, .ref ce, .ref mv, .ref ta, .int m6, .int a2_84, .int k2_85, .int p2_86, .int v2_87, .long w2_90, .int b2_88, .int q2_89, .int m14, .int m15, .ref li, .ref ha, .ref lw, .ref st, .ref fo, .ref dr, .int m22, .ref ik, .int m24, .int m25, .long m26, .int m27, .int m28, .ref ro, .int m30, .ref ct, .ref se, .ref th, .ref cn, .ref be, .int m36, .ref du, .int m38, .ref db, .int m40, .int m41, .int m42, .ref pn, .ref wg, .ref wh, .ref tn, .ref he, .int m48, .ref tr, .ref fd, .ref po, .int m52, .int m53]) := (congrFun e_f92 mm).trans (z_up_ne (z_tne hf_mm hf_dr (m := 10) (n := 4260) rfl rfl (by decide)) hf_mm)
  have hf_ta : f92 ta = .inl (cy 0, 1600, .inl gta) := (congrFun e_f92 ta).trans (z_up_ne (z_tne hf_ta hf_dr (m := 12900) (n := 4260) rfl rfl (by decide)) hf_ta)
  have hf_ha : f92 ha = .inl (cy 1, 30, .inl gha) := (congrFun e_f92 ha).trans (z_up_ne (z_tne hf_ha hf_dr (m := 340) (n := 4260) rfl rfl (by decide)) hf_ha)
  have hf_dr : f92 dr = .inl (cy 1, 520, .inl (upd g75 w77.toNatClampNeg r81)) := (congrFun e_f92 dr).trans z_up_self
  have hfr : ∀ b ∈ L, b ≠ mm → b ≠ ha → b ≠ dr → f92 b = f b := fun b hb h0 h1 h2 => (congrFun e_f92 b).trans (z_up_ne h2 (hfr b hb h0 h1 h2))
  obtain ⟨g91, e_g91⟩ : ∃ z, z = (upd g75 w77.toNatClampNeg r81) := ⟨_, rfl⟩
  rw [← e_g91] at hf_dr
  have hq_dr : ∀ j : Nat, q_drv j (g91 j) := z_updQ hq_dr e_g91 (show q_drv _ _ from z_drS4 (z_mod8 i_w77 (by omega)) (show 0 ≤ (r81 : Int32).toInt ∧ (r81 : Int32).toInt ≤ 99 by first | decide | omega))
  refine lv_aload_n hx hb dX10_driveLine_114 rfl (lv_at hl 2 rfl) ?_
  refine z_get (C := RX10) (T := TX10) (N := 54) (ci := 10) (v := .ref dr) hx hb hT zin_X10 hown hK hw hm_mm hf_mm rfl 21 (by decide) (hT _ kw_1189) rfl dX10_driveLine_115 ?_
  refine lv_iload_n hx hb dX10_driveLine_118 rfl (lv_at hl 1 rfl) ?_
  refine lv_iconst (v := 5) hx hb dX10_driveLine_119 (by decide) ?_
  refine lv_iadd hx hb dX10_driveLine_120 ?_
  refine lv_topi (fun w93 e_w93 => ?_)
  have i_w93 : w93.toInt = ((8 * (52 + r2.toInt)) + 5) := z_add e_w93 i_w5 (show (5 : Int32).toInt = 5 by decide) (by omega)
  refine lv_aload_n hx hb dX10_driveLine_121 rfl (lv_at hl 2 rfl) ?_
  refine lv_ldc2 (v := 6406525) hx hb hown (hT _ kw_1446) dX10_driveLine_122 ?_
  have hz94 := (show (6406525 : Int64).toInt = 6406525 by decide)
  refine z_calliV (cells := 0) (slots := 0) (b := mm) (As := [.long 6406525]) (rest := [.int w93, .ref dr]) (ci := 10) (q0 := (RX10, TX10, 54)) ⟨hx, hb, hml, hown, hT⟩ (c_X10_takes l hm_mm hm_ta hf_mm hf_ta (by first | omega | decide | assumption) (by first | omega | decide | assumption)) (cwV 1 hT (z_goodV (fun _ h => h) kw_1403 kw_1405 kw_38 kw_96 kw_1406) rfl rfl rfl (by decide +kernel) ⟨by decide, by decide⟩) z_mv hKK hK hw hA hm_mm hf_mm rfl rfl rfl hl.1 rfl (Nat.le_of_ble_eq_true rfl) dX10_driveLine_125 ⟨by decide, by decide⟩ (fun r95 u H locs hp hw => ?_)
  obtain ⟨L96, f97⟩ := u
  obtain ⟨hsb, hfm, a2_98, k2_99, p2_100, v2_101, w2_102, ha_0, hp⟩ := hp
  have hsb : L = L96 := hsb
  subst hsb
  have hsb : ∀ b ∈ L, b ∈ L := fun _ h => h
  have hw : z_H D vwCl (z_A L sz) s.heap L f97 H locs := hw
  have hfr : ∀ b ∈ L, b ≠ mm → b ≠ ha → b ≠ dr → f97 b = f b := fun b hb h0 h1 h2 => (hfm b hb h0).trans (hfr b hb h0 h1 h2)
  have hf_ta : f97 ta = .inl (cy 0, 1600, .inl gta) := (hfm ta hm_ta (z_tne hf_ta hf_mm (m := 12900) (n := 10) rfl rfl (by decide))).trans hf_ta
  have hf_ha : f97 ha = .inl (cy 1, 30, .inl gha) := (hfm ha hm_ha (z_tne hf_ha hf_mm (m := 340) (n := 10) rfl rfl (by decide))).trans hf_ha
  have hf_dr : f97 dr = .inl (cy 1, 520, .inl g91) := (hfm dr hm_dr (z_tne hf_dr hf_mm (m := 4260) (n := 10) rfl rfl (by decide))).trans hf_dr
  have hf_mm : f97 mm = .inr (10, [.int m0, .ref wd, .ref my, .ref ce, .ref mv, .ref ta, .int m6, .int a2_98, .int k2_99, .int p2_100, .int v2_101, .long w2_102, .int b2_88, .int q2_89, .int m14, .int m15, .ref li, .ref ha, .ref lw, .ref st, .ref fo, .ref dr, .int m22, .ref ik, .int m24, .int m25, .long m26, .int m27, .int m28, .ref ro, .int m30, .ref ct, .ref se, .ref th, .ref cn, .ref be, .int m36, .ref du, .int m38, .ref db, .int m40, .int m41, .int m42, .ref pn, .ref wg, .ref wh, .ref tn, .ref he, .int m48, .ref tr, .ref fd, .ref po, .int m52, .int m53]) := ha_0
  have hC_ : (0 ≤ a2_98.toInt ∧ a2_98.toInt ≤ m6.toInt) ∧ m7.toInt ≤ a2_98.toInt ∧ (b2_88.toInt ≠ 0 ∨ m12.toInt = 0) ∧ ((a2_98.toInt = m7.toInt ∧ k2_99.toInt = m8.toInt) ∨ k2_99.toInt ≠ 3 ∨ m7.toInt < a2_98.toInt) := by refine ⟨⟨?_, ?_⟩, ?_, ?_, ?_⟩ <;> omega
  replace hp : (r95 = 1 ∧ True) ∨ (r95 = 0 ∧ True) := hp.1.elim (fun h => Or.inl ⟨h.1, trivial⟩) (fun h => Or.inr ⟨h.1, trivial⟩)
  replace hC := hC_
  clear hC_
  rcases hp with ⟨rfl, h103⟩ | ⟨rfl, h103⟩
  · skip
    refine z_if_eq (tgt := 141) hx hb (show (1 : Int32).toInt = 1 by decide) dX10_driveLine_128 (by decide) (fun h => absurd h (by decide)) (fun _ => ?_)
    refine lv_aload_n hx hb dX10_driveLine_131 rfl (lv_at hl 2 rfl) ?_
    refine lv_iconst (v := 0) hx hb dX10_driveLine_132 (by decide) ?_
    refine lv_bipush (v := 99) hx hb dX10_driveLine_133 (by decide) ?_
    have hz104 := (show (0 : Int32).toInt = 0 by decide)
    have hz105 := (show (99 : Int32).toInt = 99 by decide)
    refine z_calliV (cells := 0) (slots := 0) (b := mm) (As := [.int 0, .int 99]) (rest := [.int w93, .ref dr]) (ci := 10) (q0 := (RX10, TX10, 54)) ⟨hx, hb, hml, hown, hT⟩ (c_X10_number l hm_mm hm_ta hf_mm hf_ta (by first | omega | decide | assumption) (by first | omega | decide | assumption)) (cwV 2 hT (z_goodV (fun _ h => h) kw_1420 kw_1422 kw_42 kw_96 kw_1423) rfl rfl rfl (by decide +kernel) ⟨by decide, by decide⟩) z_mv hKK hK hw hA hm_mm hf_mm rfl rfl rfl hl.1 rfl (Nat.le_of_ble_eq_true rfl) dX10_driveLine_135 ⟨by decide, by decide⟩ (fun r106 u H locs hp hw => ?_)
    obtain ⟨L107, f108⟩ := u
    obtain ⟨hsb, hfm, a2_109, k2_110, p2_111, v2_112, b2_113, q2_114, w2_115, ha_0, hp⟩ := hp
    have hsb : L = L107 := hsb
    subst hsb
    have hsb : ∀ b ∈ L, b ∈ L := fun _ h => h
    have hw : z_H D vwCl (z_A L sz) s.heap L f108 H locs := hw
    have hfr : ∀ b ∈ L, b ≠ mm → b ≠ ha → b ≠ dr → f108 b = f b := fun b hb h0 h1 h2 => (hfm b hb h0).trans (hfr b hb h0 h1 h2)
    have hf_ta : f108 ta = .inl (cy 0, 1600, .inl gta) := (hfm ta hm_ta (z_tne hf_ta hf_mm (m := 12900) (n := 10) rfl rfl (by decide))).trans hf_ta
    have hf_ha : f108 ha = .inl (cy 1, 30, .inl gha) := (hfm ha hm_ha (z_tne hf_ha hf_mm (m := 340) (n := 10) rfl rfl (by decide))).trans hf_ha
    have hf_dr : f108 dr = .inl (cy 1, 520, .inl g91) := (hfm dr hm_dr (z_tne hf_dr hf_mm (m := 4260) (n := 10) rfl rfl (by decide))).trans hf_dr
    have hf_mm : f108 mm = .inr (10, [.int m0, .ref wd, .ref my, .ref ce, .ref mv, .ref ta, .int m6, .int a2_109, .int k2_110, .int p2_111, .int v2_112, .long w2_115, .int b2_113, .int q2_114, .int m14, .int m15, .ref li, .ref ha, .ref lw, .ref st, .ref fo, .ref dr, .int m22, .ref ik, .int m24, .int m25, .long m26, .int m27, .int m28, .ref ro, .int m30, .ref ct, .ref se, .ref th, .ref cn, .ref be, .int m36, .ref du, .int m38, .ref db, .int m40, .int m41, .int m42, .ref pn, .ref wg, .ref wh, .ref tn, .ref he, .int m48, .ref tr, .ref fd, .ref po, .int m52, .int m53]) := ha_0
    have hR_r106 : 0 ≤ r106.toInt ∧ r106.toInt ≤ 99 := by omega
    have hC_ : (0 ≤ a2_109.toInt ∧ a2_109.toInt ≤ m6.toInt) ∧ m7.toInt ≤ a2_109.toInt ∧ (b2_113.toInt ≠ 0 ∨ m12.toInt = 0) ∧ ((a2_109.toInt = m7.toInt ∧ k2_110.toInt = m8.toInt) ∨ k2_110.toInt ≠ 3 ∨ m7.toInt < a2_109.toInt) := by refine ⟨⟨?_, ?_⟩, ?_, ?_, ?_⟩ <;> omega
    clear hp
    replace hC := hC_
    clear hC_
    refine lv_goto (tgt := 142) hx hb dX10_driveLine_138 (by decide) ?_
    refine z_iast hx hb hK hw 1 hm_dr hf_dr rfl (z_ix i_w93 (by omega)) dX10_driveLine_142 (fun H locs hw => ?_)
    obtain ⟨f117, e_f117⟩ : ∃ z, z = va_up f108 dr (.inl (cy 1, 520, .inl (upd g91 w93.toNatClampNeg r106))) := ⟨_, rfl⟩
    rw [← e_f117] at hw
    have hf_mm : f117 mm = .inr (10, [.int m0, .ref wd, .ref my, .ref ce, .ref mv, .ref ta, .int m6, .int a2_109, .int k2_110, .int p2_111, .int v2_112, .long w2_115, .int b2_113, .int q2_114, .int m14, .int m15, .ref li, .ref ha, .ref lw, .ref st, .ref fo, .ref dr, .int m22, .ref ik, .int m24, .int m25, .long m26, .int m27, .int m28, .ref ro, .int m30, .ref ct, .ref se, .ref th, .ref cn, .ref be, .int m36, .ref du, .int m38, .ref db, .int m40, .int m41, .int m42, .ref pn, .ref wg, .ref wh, .ref tn, .ref he, .int m48, .ref tr, .ref fd, .ref po, .int m52, .int m53]) := (congrFun e_f117 mm).trans (z_up_ne (z_tne hf_mm hf_dr (m := 10) (n := 4260) rfl rfl (by decide)) hf_mm)
    have hf_ta : f117 ta = .inl (cy 0, 1600, .inl gta) := (congrFun e_f117 ta).trans (z_up_ne (z_tne hf_ta hf_dr (m := 12900) (n := 4260) rfl rfl (by decide)) hf_ta)
    have hf_ha : f117 ha = .inl (cy 1, 30, .inl gha) := (congrFun e_f117 ha).trans (z_up_ne (z_tne hf_ha hf_dr (m := 340) (n := 4260) rfl rfl (by decide)) hf_ha)
    have hf_dr : f117 dr = .inl (cy 1, 520, .inl (upd g91 w93.toNatClampNeg r106)) := (congrFun e_f117 dr).trans z_up_self
    have hfr : ∀ b ∈ L, b ≠ mm → b ≠ ha → b ≠ dr → f117 b = f b := fun b hb h0 h1 h2 => (congrFun e_f117 b).trans (z_up_ne h2 (hfr b hb h0 h1 h2))
    obtain ⟨g116, e_g116⟩ : ∃ z, z = (upd g91 w93.toNatClampNeg r106) := ⟨_, rfl⟩
    rw [← e_g116] at hf_dr
    have hq_dr : ∀ j : Nat, q_drv j (g116 j) := z_updQ hq_dr e_g116 (show q_drv _ _ from z_drS5 (z_mod8 i_w93 (by omega)) (show 0 ≤ (r106 : Int32).toInt ∧ (r106 : Int32).toInt ≤ 99 by first | decide | omega))
    refine lv_aload_n hx hb dX10_driveLine_143 rfl (lv_at hl 2 rfl) ?_
    refine z_get (C := RX10) (T := TX10) (N := 54) (ci := 10) (v := .ref dr) hx hb hT zin_X10 hown hK hw hm_mm hf_mm rfl 21 (by decide) (hT _ kw_1189) rfl dX10_driveLine_144 ?_
    refine lv_iload_n hx hb dX10_driveLine_147 rfl (lv_at hl 1 rfl) ?_
    refine lv_bipush (v := 6) hx hb dX10_driveLine_148 (by decide) ?_
    refine lv_iadd hx hb dX10_driveLine_150 ?_
    refine lv_topi (fun w118 e_w118 => ?_)
    have i_w118 : w118.toInt = ((8 * (52 + r2.toInt)) + 6) := z_add e_w118 i_w5 (show (6 : Int32).toInt = 6 by decide) (by omega)
    refine lv_iload_n hx hb dX10_driveLine_151 rfl (lv_at hl 0 rfl) ?_
    refine z_iast hx hb hK hw 1 hm_dr hf_dr rfl (z_ix i_w118 (by omega)) dX10_driveLine_152 (fun H locs hw => ?_)
    obtain ⟨f120, e_f120⟩ : ∃ z, z = va_up f117 dr (.inl (cy 1, 520, .inl (upd g116 w118.toNatClampNeg r11))) := ⟨_, rfl⟩
    rw [← e_f120] at hw
    have hf_mm : f120 mm = .inr (10, [.int m0, .ref wd, .ref my, .ref ce, .ref mv, .ref ta, .int m6, .int a2_109, .int k2_110, .int p2_111, .int v2_112, .long w2_115, .int b2_113, .int q2_114, .int m14, .int m15, .ref li, .ref ha, .ref lw, .ref st, .ref fo, .ref dr, .int m22, .ref ik, .int m24, .int m25, .long m26, .int m27, .int m28, .ref ro, .int m30, .ref ct, .ref se, .ref th, .ref cn, .ref be, .int m36, .ref du, .int m38, .ref db, .int m40, .int m41, .int m42, .ref pn, .ref wg, .ref wh, .ref tn, .ref he, .int m48, .ref tr, .ref fd, .ref po, .int m52, .int m53]) := (congrFun e_f120 mm).trans (z_up_ne (z_tne hf_mm hf_dr (m := 10) (n := 4260) rfl rfl (by decide)) hf_mm)
    have hf_ta : f120 ta = .inl (cy 0, 1600, .inl gta) := (congrFun e_f120 ta).trans (z_up_ne (z_tne hf_ta hf_dr (m := 12900) (n := 4260) rfl rfl (by decide)) hf_ta)
    have hf_ha : f120 ha = .inl (cy 1, 30, .inl gha) := (congrFun e_f120 ha).trans (z_up_ne (z_tne hf_ha hf_dr (m := 340) (n := 4260) rfl rfl (by decide)) hf_ha)
    have hf_dr : f120 dr = .inl (cy 1, 520, .inl (upd g116 w118.toNatClampNeg r11)) := (congrFun e_f120 dr).trans z_up_self
    have hfr : ∀ b ∈ L, b ≠ mm → b ≠ ha → b ≠ dr → f120 b = f b := fun b hb h0 h1 h2 => (congrFun e_f120 b).trans (z_up_ne h2 (hfr b hb h0 h1 h2))
    obtain ⟨g119, e_g119⟩ : ∃ z, z = (upd g116 w118.toNatClampNeg r11) := ⟨_, rfl⟩
    rw [← e_g119] at hf_dr
    have hq_dr : ∀ j : Nat, q_drv j (g119 j) := z_updQ hq_dr e_g119 (show q_drv _ _ from z_drS6 (z_mod8 i_w118 (by omega)) (show 0 ≤ (r11 : Int32).toInt ∧ (r11 : Int32).toInt ≤ 4 by first | decide | omega))
    refine lv_aload_n hx hb dX10_driveLine_153 rfl (lv_at hl 2 rfl) ?_
    refine lv_ldc2 (v := 6218149981) hx hb hown (hT _ kw_1447) dX10_driveLine_154 ?_
    have hz121 := (show (6218149981 : Int64).toInt = 6218149981 by decide)
    refine z_calliV (cells := 0) (slots := 0) (b := mm) (As := [.long 6218149981]) (rest := []) (ci := 10) (q0 := (RX10, TX10, 54)) ⟨hx, hb, hml, hown, hT⟩ (c_X10_takes l hm_mm hm_ta hf_mm hf_ta (by first | omega | decide | assumption) (by first | omega | decide | assumption)) (cwV 1 hT (z_goodV (fun _ h => h) kw_1403 kw_1405 kw_38 kw_96 kw_1406) rfl rfl rfl (by decide +kernel) ⟨by decide, by decide⟩) z_mv hKK hK hw hA hm_mm hf_mm rfl rfl rfl hl.1 rfl (Nat.le_of_ble_eq_true rfl) dX10_driveLine_157 ⟨by decide, by decide⟩ (fun r122 u H locs hp hw => ?_)
    obtain ⟨L123, f124⟩ := u
    obtain ⟨hsb, hfm, a2_125, k2_126, p2_127, v2_128, w2_129, ha_0, hp⟩ := hp
    have hsb : L = L123 := hsb
    subst hsb
    have hsb : ∀ b ∈ L, b ∈ L := fun _ h => h
    have hw : z_H D vwCl (z_A L sz) s.heap L f124 H locs := hw
    have hfr : ∀ b ∈ L, b ≠ mm → b ≠ ha → b ≠ dr → f124 b = f b := fun b hb h0 h1 h2 => (hfm b hb h0).trans (hfr b hb h0 h1 h2)
    have hf_ta : f124 ta = .inl (cy 0, 1600, .inl gta) := (hfm ta hm_ta (z_tne hf_ta hf_mm (m := 12900) (n := 10) rfl rfl (by decide))).trans hf_ta
    have hf_ha : f124 ha = .inl (cy 1, 30, .inl gha) := (hfm ha hm_ha (z_tne hf_ha hf_mm (m := 340) (n := 10) rfl rfl (by decide))).trans hf_ha
    have hf_dr : f124 dr = .inl (cy 1, 520, .inl g119) := (hfm dr hm_dr (z_tne hf_dr hf_mm (m := 4260) (n := 10) rfl rfl (by decide))).trans hf_dr
    have hf_mm : f124 mm = .inr (10, [.int m0, .ref wd, .ref my, .ref ce, .ref mv, .ref ta, .int m6, .int a2_125, .int k2_126, .int p2_127, .int v2_128, .long w2_129, .int b2_113, .int q2_114, .int m14, .int m15, .ref li, .ref ha, .ref lw, .ref st, .ref fo, .ref dr, .int m22, .ref ik, .int m24, .int m25, .long m26, .int m27, .int m28, .ref ro, .int m30, .ref ct, .ref se, .ref th, .ref cn, .ref be, .int m36, .ref du, .int m38, .ref db, .int m40, .int m41, .int m42, .ref pn, .ref wg, .ref wh, .ref tn, .ref he, .int m48, .ref tr, .ref fd, .ref po, .int m52, .int m53]) := ha_0
    have hC_ : (0 ≤ a2_125.toInt ∧ a2_125.toInt ≤ m6.toInt) ∧ m7.toInt ≤ a2_125.toInt ∧ (b2_113.toInt ≠ 0 ∨ m12.toInt = 0) ∧ ((a2_125.toInt = m7.toInt ∧ k2_126.toInt = m8.toInt) ∨ k2_126.toInt ≠ 3 ∨ m7.toInt < a2_125.toInt) := by refine ⟨⟨?_, ?_⟩, ?_, ?_, ?_⟩ <;> omega
    replace hp : (r122 = 1 ∧ True) ∨ (r122 = 0 ∧ True) := hp.1.elim (fun h => Or.inl ⟨h.1, trivial⟩) (fun h => Or.inr ⟨h.1, trivial⟩)
    replace hC := hC_
    clear hC_
    rcases hp with ⟨rfl, h130⟩ | ⟨rfl, h130⟩
    · skip
      refine z_if_eq (tgt := 212) hx hb (show (1 : Int32).toInt = 1 by decide) dX10_driveLine_160 (by decide) (fun h => absurd h (by decide)) (fun _ => ?_)
      refine lv_aload_n hx hb dX10_driveLine_163 rfl (lv_at hl 2 rfl) ?_
      refine z_get (C := RX10) (T := TX10) (N := 54) (ci := 10) (v := .int b2_113) hx hb hT zin_X10 hown hK hw hm_mm hf_mm rfl 12 (by decide) (hT _ kw_1180) rfl dX10_driveLine_164 ?_
      refine z_if_ne (tgt := 191) hx hb rfl dX10_driveLine_167 (by decide) (fun c131 => ?_) (fun c131 => ?_)
      · skip
        refine lv_aload_n hx hb dX10_driveLine_191 rfl (lv_at hl 2 rfl) ?_
        refine z_get (C := RX10) (T := TX10) (N := 54) (ci := 10) (v := .ref dr) hx hb hT zin_X10 hown hK hw hm_mm hf_mm rfl 21 (by decide) (hT _ kw_1189) rfl dX10_driveLine_192 ?_
        refine lv_iload_n hx hb dX10_driveLine_195 rfl (lv_at hl 1 rfl) ?_
        refine lv_bipush (v := 6) hx hb dX10_driveLine_196 (by decide) ?_
        refine lv_iadd hx hb dX10_driveLine_198 ?_
        refine lv_topi (fun w132 e_w132 => ?_)
        have i_w132 : w132.toInt = ((8 * (52 + r2.toInt)) + 6) := z_add e_w132 i_w5 (show (6 : Int32).toInt = 6 by decide) (by omega)
        refine lv_aload_n hx hb dX10_driveLine_199 rfl (lv_at hl 2 rfl) ?_
        refine lv_iconst (v := 0) hx hb dX10_driveLine_200 (by decide) ?_
        refine lv_aload_n hx hb dX10_driveLine_201 rfl (lv_at hl 2 rfl) ?_
        refine lv_iconst (v := 2) hx hb dX10_driveLine_202 (by decide) ?_
        have hz133 := (show (2 : Int32).toInt = 2 by decide)
        refine z_calliV (cells := 0) (slots := 0) (b := mm) (As := [.int 2]) (rest := [.int 0, .ref mm, .int w132, .ref dr]) (ci := 10) (q0 := (RX10, TX10, 54)) ⟨hx, hb, hml, hown, hT⟩ (c_X10_hasRead l hm_mm hm_ha hf_mm hf_ha hq_ha (by decide)) (cwV 1 hT (z_goodV (fun _ h => h) kw_1434 kw_1436 kw_44 kw_96 kw_1437) rfl rfl rfl (by decide +kernel) ⟨by decide, by decide⟩) z_mv hKK hK hw hA hm_mm hf_mm rfl rfl rfl hl.1 rfl (Nat.le_of_ble_eq_true rfl) dX10_driveLine_203 ⟨by decide, by decide⟩ (fun r134 u H locs hp hw => ?_)
        obtain ⟨rfl, hp⟩ := hp
        have hw : z_H D vwCl (z_A L sz) s.heap L f124 H locs := hw
        have hh135 : 0 ≤ r134.toInt ∧ r134.toInt ≤ 5 := by rw [hp]; exact (hq_ha 26).1.2.2.1 rfl
        refine lv_iconst (v := 1) hx hb dX10_driveLine_206 (by decide) ?_
        refine lv_isub hx hb dX10_driveLine_207 ?_
        refine lv_topi (fun w136 e_w136 => ?_)
        have i_w136 : w136.toInt = (r134.toInt - 1) := z_subI e_w136 rfl (show (1 : Int32).toInt = 1 by decide) (by omega)
        have hz137 := (show (0 : Int32).toInt = 0 by decide)
        refine z_calliV (cells := 0) (slots := 0) (b := mm) (As := [.int 0, .int w136]) (rest := [.int w132, .ref dr]) (ci := 10) (q0 := (RX10, TX10, 54)) ⟨hx, hb, hml, hown, hT⟩ (c_X10_number l hm_mm hm_ta hf_mm hf_ta (by first | omega | decide | assumption) (by first | omega | decide | assumption)) (cwV 2 hT (z_goodV (fun _ h => h) kw_1420 kw_1422 kw_42 kw_96 kw_1423) rfl rfl rfl (by decide +kernel) ⟨by decide, by decide⟩) z_mv hKK hK hw hA hm_mm hf_mm rfl rfl rfl hl.1 rfl (Nat.le_of_ble_eq_true rfl) dX10_driveLine_208 ⟨by decide, by decide⟩ (fun r138 u H locs hp hw => ?_)
        obtain ⟨L139, f140⟩ := u
        obtain ⟨hsb, hfm, a2_141, k2_142, p2_143, v2_144, b2_145, q2_146, w2_147, ha_0, hp⟩ := hp
        have hsb : L = L139 := hsb
        subst hsb
        have hsb : ∀ b ∈ L, b ∈ L := fun _ h => h
        have hw : z_H D vwCl (z_A L sz) s.heap L f140 H locs := hw
        have hfr : ∀ b ∈ L, b ≠ mm → b ≠ ha → b ≠ dr → f140 b = f b := fun b hb h0 h1 h2 => (hfm b hb h0).trans (hfr b hb h0 h1 h2)
        have hf_ta : f140 ta = .inl (cy 0, 1600, .inl gta) := (hfm ta hm_ta (z_tne hf_ta hf_mm (m := 12900) (n := 10) rfl rfl (by decide))).trans hf_ta
        have hf_ha : f140 ha = .inl (cy 1, 30, .inl gha) := (hfm ha hm_ha (z_tne hf_ha hf_mm (m := 340) (n := 10) rfl rfl (by decide))).trans hf_ha
        have hf_dr : f140 dr = .inl (cy 1, 520, .inl g119) := (hfm dr hm_dr (z_tne hf_dr hf_mm (m := 4260) (n := 10) rfl rfl (by decide))).trans hf_dr
        have hf_mm : f140 mm = .inr (10, [.int m0, .ref wd, .ref my, .ref ce, .ref mv, .ref ta, .int m6, .int a2_141, .int k2_142, .int p2_143, .int v2_144, .long w2_147, .int b2_145, .int q2_146, .int m14, .int m15, .ref li, .ref ha, .ref lw, .ref st, .ref fo, .ref dr, .int m22, .ref ik, .int m24, .int m25, .long m26, .int m27, .int m28, .ref ro, .int m30, .ref ct, .ref se, .ref th, .ref cn, .ref be, .int m36, .ref du, .int m38, .ref db, .int m40, .int m41, .int m42, .ref pn, .ref wg, .ref wh, .ref tn, .ref he, .int m48, .ref tr, .ref fd, .ref po, .int m52, .int m53]) := ha_0
        have hR_r138 : 0 ≤ r138.toInt ∧ r138.toInt ≤ 4 := by omega
        have hC_ : (0 ≤ a2_141.toInt ∧ a2_141.toInt ≤ m6.toInt) ∧ m7.toInt ≤ a2_141.toInt ∧ (b2_145.toInt ≠ 0 ∨ m12.toInt = 0) ∧ ((a2_141.toInt = m7.toInt ∧ k2_142.toInt = m8.toInt) ∨ k2_142.toInt ≠ 3 ∨ m7.toInt < a2_141.toInt) := by refine ⟨⟨?_, ?_⟩, ?_, ?_, ?_⟩ <;> omega
        clear hp
        replace hC := hC_
        clear hC_
        refine z_iast hx hb hK hw 1 hm_dr hf_dr rfl (z_ix i_w132 (by omega)) dX10_driveLine_211 (fun H locs hw => ?_)
        obtain ⟨f149, e_f149⟩ : ∃ z, z = va_up f140 dr (.inl (cy 1, 520, .inl (upd g119 w132.toNatClampNeg r138))) := ⟨_, rfl⟩
        rw [← e_f149] at hw
        have hf_mm : f149 mm = .inr (10, [.int m0, .ref wd, .ref my, .ref ce, .ref mv, .ref ta, .int m6, .int a2_141, .int k2_142, .int p2_143, .int v2_144, .long w2_147, .int b2_145, .int q2_146, .int m14, .int m15, .ref li, .ref ha, .ref lw, .ref st, .ref fo, .ref dr, .int m22, .ref ik, .int m24, .int m25, .long m26, .int m27, .int m28, .ref ro, .int m30, .ref ct, .ref se, .ref th, .ref cn, .ref be, .int m36, .ref du, .int m38, .ref db, .int m40, .int m41, .int m42, .ref pn, .ref wg, .ref wh, .ref tn, .ref he, .int m48, .ref tr, .ref fd, .ref po, .int m52, .int m53]) := (congrFun e_f149 mm).trans (z_up_ne (z_tne hf_mm hf_dr (m := 10) (n := 4260) rfl rfl (by decide)) hf_mm)
        have hf_ta : f149 ta = .inl (cy 0, 1600, .inl gta) := (congrFun e_f149 ta).trans (z_up_ne (z_tne hf_ta hf_dr (m := 12900) (n := 4260) rfl rfl (by decide)) hf_ta)
        have hf_ha : f149 ha = .inl (cy 1, 30, .inl gha) := (congrFun e_f149 ha).trans (z_up_ne (z_tne hf_ha hf_dr (m := 340) (n := 4260) rfl rfl (by decide)) hf_ha)
        have hf_dr : f149 dr = .inl (cy 1, 520, .inl (upd g119 w132.toNatClampNeg r138)) := (congrFun e_f149 dr).trans z_up_self
        have hfr : ∀ b ∈ L, b ≠ mm → b ≠ ha → b ≠ dr → f149 b = f b := fun b hb h0 h1 h2 => (congrFun e_f149 b).trans (z_up_ne h2 (hfr b hb h0 h1 h2))
        obtain ⟨g148, e_g148⟩ : ∃ z, z = (upd g119 w132.toNatClampNeg r138) := ⟨_, rfl⟩
        rw [← e_g148] at hf_dr
        have hq_dr : ∀ j : Nat, q_drv j (g148 j) := z_updQ hq_dr e_g148 (show q_drv _ _ from z_drS6 (z_mod8 i_w132 (by omega)) (show 0 ≤ (r138 : Int32).toInt ∧ (r138 : Int32).toInt ≤ 4 by first | decide | omega))
        refine lv_aload_n hx hb dX10_driveLine_212 rfl (lv_at hl 2 rfl) ?_
        refine z_get (C := RX10) (T := TX10) (N := 54) (ci := 10) (v := .ref dr) hx hb hT zin_X10 hown hK hw hm_mm hf_mm rfl 21 (by decide) (hT _ kw_1189) rfl dX10_driveLine_213 ?_
        refine lv_iload_n hx hb dX10_driveLine_216 rfl (lv_at hl 1 rfl) ?_
        refine lv_bipush (v := 7) hx hb dX10_driveLine_217 (by decide) ?_
        refine lv_iadd hx hb dX10_driveLine_219 ?_
        refine lv_topi (fun w150 e_w150 => ?_)
        have i_w150 : w150.toInt = ((8 * (52 + r2.toInt)) + 7) := z_add e_w150 i_w5 (show (7 : Int32).toInt = 7 by decide) (by omega)
        refine lv_aload_n hx hb dX10_driveLine_220 rfl (lv_at hl 2 rfl) ?_
        refine lv_ldc2 (v := 237281) hx hb hown (hT _ kw_1448) dX10_driveLine_221 ?_
        have hz151 := (show (237281 : Int64).toInt = 237281 by decide)
        refine z_calliV (cells := 0) (slots := 0) (b := mm) (As := [.long 237281]) (rest := [.int w150, .ref dr]) (ci := 10) (q0 := (RX10, TX10, 54)) ⟨hx, hb, hml, hown, hT⟩ (c_X10_takes l hm_mm hm_ta hf_mm hf_ta (by first | omega | decide | assumption) (by first | omega | decide | assumption)) (cwV 1 hT (z_goodV (fun _ h => h) kw_1403 kw_1405 kw_38 kw_96 kw_1406) rfl rfl rfl (by decide +kernel) ⟨by decide, by decide⟩) z_mv hKK hK hw hA hm_mm hf_mm rfl rfl rfl hl.1 rfl (Nat.le_of_ble_eq_true rfl) dX10_driveLine_224 ⟨by decide, by decide⟩ (fun r152 u H locs hp hw => ?_)
        obtain ⟨L153, f154⟩ := u
        obtain ⟨hsb, hfm, a2_155, k2_156, p2_157, v2_158, w2_159, ha_0, hp⟩ := hp
        have hsb : L = L153 := hsb
        subst hsb
        have hsb : ∀ b ∈ L, b ∈ L := fun _ h => h
        have hw : z_H D vwCl (z_A L sz) s.heap L f154 H locs := hw
        have hfr : ∀ b ∈ L, b ≠ mm → b ≠ ha → b ≠ dr → f154 b = f b := fun b hb h0 h1 h2 => (hfm b hb h0).trans (hfr b hb h0 h1 h2)
        have hf_ta : f154 ta = .inl (cy 0, 1600, .inl gta) := (hfm ta hm_ta (z_tne hf_ta hf_mm (m := 12900) (n := 10) rfl rfl (by decide))).trans hf_ta
        have hf_ha : f154 ha = .inl (cy 1, 30, .inl gha) := (hfm ha hm_ha (z_tne hf_ha hf_mm (m := 340) (n := 10) rfl rfl (by decide))).trans hf_ha
        have hf_dr : f154 dr = .inl (cy 1, 520, .inl g148) := (hfm dr hm_dr (z_tne hf_dr hf_mm (m := 4260) (n := 10) rfl rfl (by decide))).trans hf_dr
        have hf_mm : f154 mm = .inr (10, [.int m0, .ref wd, .ref my, .ref ce, .ref mv, .ref ta, .int m6, .int a2_155, .int k2_156, .int p2_157, .int v2_158, .long w2_159, .int b2_145, .int q2_146, .int m14, .int m15, .ref li, .ref ha, .ref lw, .ref st, .ref fo, .ref dr, .int m22, .ref ik, .int m24, .int m25, .long m26, .int m27, .int m28, .ref ro, .int m30, .ref ct, .ref se, .ref th, .ref cn, .ref be, .int m36, .ref du, .int m38, .ref db, .int m40, .int m41, .int m42, .ref pn, .ref wg, .ref wh, .ref tn, .ref he, .int m48, .ref tr, .ref fd, .ref po, .int m52, .int m53]) := ha_0
        have hC_ : (0 ≤ a2_155.toInt ∧ a2_155.toInt ≤ m6.toInt) ∧ m7.toInt ≤ a2_155.toInt ∧ (b2_145.toInt ≠ 0 ∨ m12.toInt = 0) ∧ ((a2_155.toInt = m7.toInt ∧ k2_156.toInt = m8.toInt) ∨ k2_156.toInt ≠ 3 ∨ m7.toInt < a2_155.toInt) := by refine ⟨⟨?_, ?_⟩, ?_, ?_, ?_⟩ <;> omega
        replace hp : (r152 = 1 ∧ True) ∨ (r152 = 0 ∧ True) := hp.1.elim (fun h => Or.inl ⟨h.1, trivial⟩) (fun h => Or.inr ⟨h.1, trivial⟩)
        replace hC := hC_
        clear hC_
        rcases hp with ⟨rfl, h160⟩ | ⟨rfl, h160⟩
        · skip
          refine z_if_eq (tgt := 234) hx hb (show (1 : Int32).toInt = 1 by decide) dX10_driveLine_227 (by decide) (fun h => absurd h (by decide)) (fun _ => ?_)
          refine lv_iconst (v := 1) hx hb dX10_driveLine_230 (by decide) ?_
          refine lv_goto (tgt := 235) hx hb dX10_driveLine_231 (by decide) ?_
          refine z_iast hx hb hK hw 1 hm_dr hf_dr rfl (z_ix i_w150 (by omega)) dX10_driveLine_235 (fun H locs hw => ?_)
          obtain ⟨f162, e_f162⟩ : ∃ z, z = va_up f154 dr (.inl (cy 1, 520, .inl (upd g148 w150.toNatClampNeg 1))) := ⟨_, rfl⟩
          rw [← e_f162] at hw
          have hf_mm : f162 mm = .inr (10, [.int m0, .ref wd, .ref my, .ref ce, .ref mv, .ref ta, .int m6, .int a2_155, .int k2_156, .int p2_157, .int v2_158, .long w2_159, .int b2_145, .int q2_146, .int m14, .int m15, .ref li, .ref ha, .ref lw, .ref st, .ref fo, .ref dr, .int m22, .ref ik, .int m24, .int m25, .long m26, .int m27, .int m28, .ref ro, .int m30, .ref ct, .ref se, .ref th, .ref cn, .ref be, .int m36, .ref du, .int m38, .ref db, .int m40, .int m41, .int m42, .ref pn, .ref wg, .ref wh, .ref tn, .ref he, .int m48, .ref tr, .ref fd, .ref po, .int m52, .int m53]) := (congrFun e_f162 mm).trans (z_up_ne (z_tne hf_mm hf_dr (m := 10) (n := 4260) rfl rfl (by decide)) hf_mm)
          have hf_ta : f162 ta = .inl (cy 0, 1600, .inl gta) := (congrFun e_f162 ta).trans (z_up_ne (z_tne hf_ta hf_dr (m := 12900) (n := 4260) rfl rfl (by decide)) hf_ta)
          have hf_ha : f162 ha = .inl (cy 1, 30, .inl gha) := (congrFun e_f162 ha).trans (z_up_ne (z_tne hf_ha hf_dr (m := 340) (n := 4260) rfl rfl (by decide)) hf_ha)
          have hf_dr : f162 dr = .inl (cy 1, 520, .inl (upd g148 w150.toNatClampNeg 1)) := (congrFun e_f162 dr).trans z_up_self
          have hfr : ∀ b ∈ L, b ≠ mm → b ≠ ha → b ≠ dr → f162 b = f b := fun b hb h0 h1 h2 => (congrFun e_f162 b).trans (z_up_ne h2 (hfr b hb h0 h1 h2))
          obtain ⟨g161, e_g161⟩ : ∃ z, z = (upd g148 w150.toNatClampNeg 1) := ⟨_, rfl⟩
          rw [← e_g161] at hf_dr
          have hq_dr : ∀ j : Nat, q_drv j (g161 j) := z_updQ hq_dr e_g161 (show q_drv _ _ from z_drS7 (z_mod8 i_w150 (by omega)) (show 0 ≤ (1 : Int32).toInt ∧ (1 : Int32).toInt ≤ 1 by first | decide | omega))
          refine lv_aload_n hx hb dX10_driveLine_236 rfl (lv_at hl 2 rfl) ?_
          refine z_get (C := RX10) (T := TX10) (N := 54) (ci := 10) (v := .ref ha) hx hb hT zin_X10 hown hK hw hm_mm hf_mm rfl 17 (by decide) (hT _ kw_1185) rfl dX10_driveLine_237 ?_
          refine lv_bipush (v := 27) hx hb dX10_driveLine_240 (by decide) ?_
          refine lv_dup2_11 hx hb dX10_driveLine_242 rfl rfl ?_
          refine z_iald hx hb hK hw 1 hm_ha hf_ha rfl (z_ix (show (27 : Int32).toInt = 27 by decide) (by decide)) dX10_driveLine_243 ?_
          refine lv_topi (fun w163 e_w163 => ?_)
          have hv_w163 : 0 ≤ w163.toInt ∧ w163.toInt ≤ 12 := by rw [e_w163]; exact (hq_ha _).1.2.2.2 rfl
          have h11 : w163.toInt ≤ 11 := by rw [e_w163]; exact hd11
          refine lv_iconst (v := 1) hx hb dX10_driveLine_244 (by decide) ?_
          refine lv_iadd hx hb dX10_driveLine_245 ?_
          refine lv_topi (fun w164 e_w164 => ?_)
          have i_w164 : w164.toInt = (w163.toInt + 1) := z_add e_w164 rfl (show (1 : Int32).toInt = 1 by decide) (by omega)
          refine z_iast hx hb hK hw 1 hm_ha hf_ha rfl (z_ix (show (27 : Int32).toInt = 27 by decide) (by decide)) dX10_driveLine_246 (fun H locs hw => ?_)
          obtain ⟨f166, e_f166⟩ : ∃ z, z = va_up f162 ha (.inl (cy 1, 30, .inl (upd gha (27 : Int32).toNatClampNeg w164))) := ⟨_, rfl⟩
          rw [← e_f166] at hw
          have hf_mm : f166 mm = .inr (10, [.int m0, .ref wd, .ref my, .ref ce, .ref mv, .ref ta, .int m6, .int a2_155, .int k2_156, .int p2_157, .int v2_158, .long w2_159, .int b2_145, .int q2_146, .int m14, .int m15, .ref li, .ref ha, .ref lw, .ref st, .ref fo, .ref dr, .int m22, .ref ik, .int m24, .int m25, .long m26, .int m27, .int m28, .ref ro, .int m30, .ref ct, .ref se, .ref th, .ref cn, .ref be, .int m36, .ref du, .int m38, .ref db, .int m40, .int m41, .int m42, .ref pn, .ref wg, .ref wh, .ref tn, .ref he, .int m48, .ref tr, .ref fd, .ref po, .int m52, .int m53]) := (congrFun e_f166 mm).trans (z_up_ne (z_tne hf_mm hf_ha (m := 10) (n := 340) rfl rfl (by decide)) hf_mm)
          have hf_ta : f166 ta = .inl (cy 0, 1600, .inl gta) := (congrFun e_f166 ta).trans (z_up_ne (z_tne hf_ta hf_ha (m := 12900) (n := 340) rfl rfl (by decide)) hf_ta)
          have hf_dr : f166 dr = .inl (cy 1, 520, .inl g161) := (congrFun e_f166 dr).trans (z_up_ne (z_tne hf_dr hf_ha (m := 4260) (n := 340) rfl rfl (by decide)) hf_dr)
          have hf_ha : f166 ha = .inl (cy 1, 30, .inl (upd gha (27 : Int32).toNatClampNeg w164)) := (congrFun e_f166 ha).trans z_up_self
          have hfr : ∀ b ∈ L, b ≠ mm → b ≠ ha → b ≠ dr → f166 b = f b := fun b hb h0 h1 h2 => (congrFun e_f166 b).trans (z_up_ne h1 (hfr b hb h0 h1 h2))
          obtain ⟨g165, e_g165⟩ : ∃ z, z = (upd gha (27 : Int32).toNatClampNeg w164) := ⟨_, rfl⟩
          rw [← e_g165] at hf_ha
          have hq_ha : ∀ j : Nat, (q_hasR hz) j (g165 j) := z_updQ hq_ha e_g165 (show q_hasR _ _ _ from ⟨(show q_has _ _ from ⟨(fun h => absurd h (by decide)), (fun h => absurd h (by decide)), (fun h => absurd h (by decide)), (fun _ => (show 0 ≤ (w164 : Int32).toInt ∧ (w164 : Int32).toInt ≤ 12 by first | decide | omega))⟩), fun h => absurd h (by decide)⟩)
          exact z_vret hx hb hr hlk (by decide) (by decide) hw (⟨hsub, hfr, a2_155, k2_156, p2_157, v2_158, b2_145, q2_146, w2_159, g165, g161, hf_mm, hf_ha, hf_dr, hq_ha, hq_dr, by omega, by omega, by omega, by omega⟩) dX10_driveLine_247
        · skip
          refine z_if_eq (tgt := 234) hx hb (show (0 : Int32).toInt = 0 by decide) dX10_driveLine_227 (by decide) (fun _ => ?_) (fun h => absurd h (by decide))
          refine lv_iconst (v := 0) hx hb dX10_driveLine_234 (by decide) ?_
          refine z_iast hx hb hK hw 1 hm_dr hf_dr rfl (z_ix i_w150 (by omega)) dX10_driveLine_235 (fun H locs hw => ?_)
          obtain ⟨f168, e_f168⟩ : ∃ z, z = va_up f154 dr (.inl (cy 1, 520, .inl (upd g148 w150.toNatClampNeg 0))) := ⟨_, rfl⟩
          rw [← e_f168] at hw
          have hf_mm : f168 mm = .inr (10, [.int m0, .ref wd, .ref my, .ref ce, .ref mv, .ref ta, .int m6, .int a2_155, .int k2_156, .int p2_157, .int v2_158, .long w2_159, .int b2_145, .int q2_146, .int m14, .int m15, .ref li, .ref ha, .ref lw, .ref st, .ref fo, .ref dr, .int m22, .ref ik, .int m24, .int m25, .long m26, .int m27, .int m28, .ref ro, .int m30, .ref ct, .ref se, .ref th, .ref cn, .ref be, .int m36, .ref du, .int m38, .ref db, .int m40, .int m41, .int m42, .ref pn, .ref wg, .ref wh, .ref tn, .ref he, .int m48, .ref tr, .ref fd, .ref po, .int m52, .int m53]) := (congrFun e_f168 mm).trans (z_up_ne (z_tne hf_mm hf_dr (m := 10) (n := 4260) rfl rfl (by decide)) hf_mm)
          have hf_ta : f168 ta = .inl (cy 0, 1600, .inl gta) := (congrFun e_f168 ta).trans (z_up_ne (z_tne hf_ta hf_dr (m := 12900) (n := 4260) rfl rfl (by decide)) hf_ta)
          have hf_ha : f168 ha = .inl (cy 1, 30, .inl gha) := (congrFun e_f168 ha).trans (z_up_ne (z_tne hf_ha hf_dr (m := 340) (n := 4260) rfl rfl (by decide)) hf_ha)
          have hf_dr : f168 dr = .inl (cy 1, 520, .inl (upd g148 w150.toNatClampNeg 0)) := (congrFun e_f168 dr).trans z_up_self
          have hfr : ∀ b ∈ L, b ≠ mm → b ≠ ha → b ≠ dr → f168 b = f b := fun b hb h0 h1 h2 => (congrFun e_f168 b).trans (z_up_ne h2 (hfr b hb h0 h1 h2))
          obtain ⟨g167, e_g167⟩ : ∃ z, z = (upd g148 w150.toNatClampNeg 0) := ⟨_, rfl⟩
          rw [← e_g167] at hf_dr
          have hq_dr : ∀ j : Nat, q_drv j (g167 j) := z_updQ hq_dr e_g167 (show q_drv _ _ from z_drS7 (z_mod8 i_w150 (by omega)) (show 0 ≤ (0 : Int32).toInt ∧ (0 : Int32).toInt ≤ 1 by first | decide | omega))
          refine lv_aload_n hx hb dX10_driveLine_236 rfl (lv_at hl 2 rfl) ?_
          refine z_get (C := RX10) (T := TX10) (N := 54) (ci := 10) (v := .ref ha) hx hb hT zin_X10 hown hK hw hm_mm hf_mm rfl 17 (by decide) (hT _ kw_1185) rfl dX10_driveLine_237 ?_
          refine lv_bipush (v := 27) hx hb dX10_driveLine_240 (by decide) ?_
          refine lv_dup2_11 hx hb dX10_driveLine_242 rfl rfl ?_
          refine z_iald hx hb hK hw 1 hm_ha hf_ha rfl (z_ix (show (27 : Int32).toInt = 27 by decide) (by decide)) dX10_driveLine_243 ?_
          refine lv_topi (fun w169 e_w169 => ?_)
          have hv_w169 : 0 ≤ w169.toInt ∧ w169.toInt ≤ 12 := by rw [e_w169]; exact (hq_ha _).1.2.2.2 rfl
          have h11 : w169.toInt ≤ 11 := by rw [e_w169]; exact hd11
          refine lv_iconst (v := 1) hx hb dX10_driveLine_244 (by decide) ?_
          refine lv_iadd hx hb dX10_driveLine_245 ?_
          refine lv_topi (fun w170 e_w170 => ?_)
          have i_w170 : w170.toInt = (w169.toInt + 1) := z_add e_w170 rfl (show (1 : Int32).toInt = 1 by decide) (by omega)
          refine z_iast hx hb hK hw 1 hm_ha hf_ha rfl (z_ix (show (27 : Int32).toInt = 27 by decide) (by decide)) dX10_driveLine_246 (fun H locs hw => ?_)
          obtain ⟨f172, e_f172⟩ : ∃ z, z = va_up f168 ha (.inl (cy 1, 30, .inl (upd gha (27 : Int32).toNatClampNeg w170))) := ⟨_, rfl⟩
          rw [← e_f172] at hw
          have hf_mm : f172 mm = .inr (10, [.int m0, .ref wd, .ref my, .ref ce, .ref mv, .ref ta, .int m6, .int a2_155, .int k2_156, .int p2_157, .int v2_158, .long w2_159, .int b2_145, .int q2_146, .int m14, .int m15, .ref li, .ref ha, .ref lw, .ref st, .ref fo, .ref dr, .int m22, .ref ik, .int m24, .int m25, .long m26, .int m27, .int m28, .ref ro, .int m30, .ref ct, .ref se, .ref th, .ref cn, .ref be, .int m36, .ref du, .int m38, .ref db, .int m40, .int m41, .int m42, .ref pn, .ref wg, .ref wh, .ref tn, .ref he, .int m48, .ref tr, .ref fd, .ref po, .int m52, .int m53]) := (congrFun e_f172 mm).trans (z_up_ne (z_tne hf_mm hf_ha (m := 10) (n := 340) rfl rfl (by decide)) hf_mm)
          have hf_ta : f172 ta = .inl (cy 0, 1600, .inl gta) := (congrFun e_f172 ta).trans (z_up_ne (z_tne hf_ta hf_ha (m := 12900) (n := 340) rfl rfl (by decide)) hf_ta)
          have hf_dr : f172 dr = .inl (cy 1, 520, .inl g167) := (congrFun e_f172 dr).trans (z_up_ne (z_tne hf_dr hf_ha (m := 4260) (n := 340) rfl rfl (by decide)) hf_dr)
          have hf_ha : f172 ha = .inl (cy 1, 30, .inl (upd gha (27 : Int32).toNatClampNeg w170)) := (congrFun e_f172 ha).trans z_up_self
          have hfr : ∀ b ∈ L, b ≠ mm → b ≠ ha → b ≠ dr → f172 b = f b := fun b hb h0 h1 h2 => (congrFun e_f172 b).trans (z_up_ne h1 (hfr b hb h0 h1 h2))
          obtain ⟨g171, e_g171⟩ : ∃ z, z = (upd gha (27 : Int32).toNatClampNeg w170) := ⟨_, rfl⟩
          rw [← e_g171] at hf_ha
          have hq_ha : ∀ j : Nat, (q_hasR hz) j (g171 j) := z_updQ hq_ha e_g171 (show q_hasR _ _ _ from ⟨(show q_has _ _ from ⟨(fun h => absurd h (by decide)), (fun h => absurd h (by decide)), (fun h => absurd h (by decide)), (fun _ => (show 0 ≤ (w170 : Int32).toInt ∧ (w170 : Int32).toInt ≤ 12 by first | decide | omega))⟩), fun h => absurd h (by decide)⟩)
          exact z_vret hx hb hr hlk (by decide) (by decide) hw (⟨hsub, hfr, a2_155, k2_156, p2_157, v2_158, b2_145, q2_146, w2_159, g171, g167, hf_mm, hf_ha, hf_dr, hq_ha, hq_dr, by omega, by omega, by omega, by omega⟩) dX10_driveLine_247
      · skip
        refine lv_aload_n hx hb dX10_driveLine_170 rfl (lv_at hl 2 rfl) ?_
        refine z_get (C := RX10) (T := TX10) (N := 54) (ci := 10) (v := .int k2_126) hx hb hT zin_X10 hown hK hw hm_mm hf_mm rfl 8 (by decide) (hT _ kw_1176) rfl dX10_driveLine_171 ?_
        refine lv_iconst (v := 2) hx hb dX10_driveLine_174 (by decide) ?_
        refine z_icmp_ne (tgt := 191) hx hb rfl (show (2 : Int32).toInt = 2 by decide) dX10_driveLine_175 (by decide) (fun c173 => ?_) (fun c173 => ?_)
        · skip
          refine lv_aload_n hx hb dX10_driveLine_191 rfl (lv_at hl 2 rfl) ?_
          refine z_get (C := RX10) (T := TX10) (N := 54) (ci := 10) (v := .ref dr) hx hb hT zin_X10 hown hK hw hm_mm hf_mm rfl 21 (by decide) (hT _ kw_1189) rfl dX10_driveLine_192 ?_
          refine lv_iload_n hx hb dX10_driveLine_195 rfl (lv_at hl 1 rfl) ?_
          refine lv_bipush (v := 6) hx hb dX10_driveLine_196 (by decide) ?_
          refine lv_iadd hx hb dX10_driveLine_198 ?_
          refine lv_topi (fun w174 e_w174 => ?_)
          have i_w174 : w174.toInt = ((8 * (52 + r2.toInt)) + 6) := z_add e_w174 i_w5 (show (6 : Int32).toInt = 6 by decide) (by omega)
          refine lv_aload_n hx hb dX10_driveLine_199 rfl (lv_at hl 2 rfl) ?_
          refine lv_iconst (v := 0) hx hb dX10_driveLine_200 (by decide) ?_
          refine lv_aload_n hx hb dX10_driveLine_201 rfl (lv_at hl 2 rfl) ?_
          refine lv_iconst (v := 2) hx hb dX10_driveLine_202 (by decide) ?_
          have hz175 := (show (2 : Int32).toInt = 2 by decide)
          refine z_calliV (cells := 0) (slots := 0) (b := mm) (As := [.int 2]) (rest := [.int 0, .ref mm, .int w174, .ref dr]) (ci := 10) (q0 := (RX10, TX10, 54)) ⟨hx, hb, hml, hown, hT⟩ (c_X10_hasRead l hm_mm hm_ha hf_mm hf_ha hq_ha (by decide)) (cwV 1 hT (z_goodV (fun _ h => h) kw_1434 kw_1436 kw_44 kw_96 kw_1437) rfl rfl rfl (by decide +kernel) ⟨by decide, by decide⟩) z_mv hKK hK hw hA hm_mm hf_mm rfl rfl rfl hl.1 rfl (Nat.le_of_ble_eq_true rfl) dX10_driveLine_203 ⟨by decide, by decide⟩ (fun r176 u H locs hp hw => ?_)
          obtain ⟨rfl, hp⟩ := hp
          have hw : z_H D vwCl (z_A L sz) s.heap L f124 H locs := hw
          have hh177 : 0 ≤ r176.toInt ∧ r176.toInt ≤ 5 := by rw [hp]; exact (hq_ha 26).1.2.2.1 rfl
          refine lv_iconst (v := 1) hx hb dX10_driveLine_206 (by decide) ?_
          refine lv_isub hx hb dX10_driveLine_207 ?_
          refine lv_topi (fun w178 e_w178 => ?_)
          have i_w178 : w178.toInt = (r176.toInt - 1) := z_subI e_w178 rfl (show (1 : Int32).toInt = 1 by decide) (by omega)
          have hz179 := (show (0 : Int32).toInt = 0 by decide)
          refine z_calliV (cells := 0) (slots := 0) (b := mm) (As := [.int 0, .int w178]) (rest := [.int w174, .ref dr]) (ci := 10) (q0 := (RX10, TX10, 54)) ⟨hx, hb, hml, hown, hT⟩ (c_X10_number l hm_mm hm_ta hf_mm hf_ta (by first | omega | decide | assumption) (by first | omega | decide | assumption)) (cwV 2 hT (z_goodV (fun _ h => h) kw_1420 kw_1422 kw_42 kw_96 kw_1423) rfl rfl rfl (by decide +kernel) ⟨by decide, by decide⟩) z_mv hKK hK hw hA hm_mm hf_mm rfl rfl rfl hl.1 rfl (Nat.le_of_ble_eq_true rfl) dX10_driveLine_208 ⟨by decide, by decide⟩ (fun r180 u H locs hp hw => ?_)
          obtain ⟨L181, f182⟩ := u
          obtain ⟨hsb, hfm, a2_183, k2_184, p2_185, v2_186, b2_187, q2_188, w2_189, ha_0, hp⟩ := hp
          have hsb : L = L181 := hsb
          subst hsb
          have hsb : ∀ b ∈ L, b ∈ L := fun _ h => h
          have hw : z_H D vwCl (z_A L sz) s.heap L f182 H locs := hw
          have hfr : ∀ b ∈ L, b ≠ mm → b ≠ ha → b ≠ dr → f182 b = f b := fun b hb h0 h1 h2 => (hfm b hb h0).trans (hfr b hb h0 h1 h2)
          have hf_ta : f182 ta = .inl (cy 0, 1600, .inl gta) := (hfm ta hm_ta (z_tne hf_ta hf_mm (m := 12900) (n := 10) rfl rfl (by decide))).trans hf_ta
          have hf_ha : f182 ha = .inl (cy 1, 30, .inl gha) := (hfm ha hm_ha (z_tne hf_ha hf_mm (m := 340) (n := 10) rfl rfl (by decide))).trans hf_ha
          have hf_dr : f182 dr = .inl (cy 1, 520, .inl g119) := (hfm dr hm_dr (z_tne hf_dr hf_mm (m := 4260) (n := 10) rfl rfl (by decide))).trans hf_dr
          have hf_mm : f182 mm = .inr (10, [.int m0, .ref wd, .ref my, .ref ce, .ref mv, .ref ta, .int m6, .int a2_183, .int k2_184, .int p2_185, .int v2_186, .long w2_189, .int b2_187, .int q2_188, .int m14, .int m15, .ref li, .ref ha, .ref lw, .ref st, .ref fo, .ref dr, .int m22, .ref ik, .int m24, .int m25, .long m26, .int m27, .int m28, .ref ro, .int m30, .ref ct, .ref se, .ref th, .ref cn, .ref be, .int m36, .ref du, .int m38, .ref db, .int m40, .int m41, .int m42, .ref pn, .ref wg, .ref wh, .ref tn, .ref he, .int m48, .ref tr, .ref fd, .ref po, .int m52, .int m53]) := ha_0
          have hR_r180 : 0 ≤ r180.toInt ∧ r180.toInt ≤ 4 := by omega
          have hC_ : (0 ≤ a2_183.toInt ∧ a2_183.toInt ≤ m6.toInt) ∧ m7.toInt ≤ a2_183.toInt ∧ (b2_187.toInt ≠ 0 ∨ m12.toInt = 0) ∧ ((a2_183.toInt = m7.toInt ∧ k2_184.toInt = m8.toInt) ∨ k2_184.toInt ≠ 3 ∨ m7.toInt < a2_183.toInt) := by refine ⟨⟨?_, ?_⟩, ?_, ?_, ?_⟩ <;> omega
          clear hp
          replace hC := hC_
          clear hC_
          refine z_iast hx hb hK hw 1 hm_dr hf_dr rfl (z_ix i_w174 (by omega)) dX10_driveLine_211 (fun H locs hw => ?_)
          obtain ⟨f191, e_f191⟩ : ∃ z, z = va_up f182 dr (.inl (cy 1, 520, .inl (upd g119 w174.toNatClampNeg r180))) := ⟨_, rfl⟩
          rw [← e_f191] at hw
          have hf_mm : f191 mm = .inr (10, [.int m0, .ref wd, .ref my, .ref ce, .ref mv, .ref ta, .int m6, .int a2_183, .int k2_184, .int p2_185, .int v2_186, .long w2_189, .int b2_187, .int q2_188, .int m14, .int m15, .ref li, .ref ha, .ref lw, .ref st, .ref fo, .ref dr, .int m22, .ref ik, .int m24, .int m25, .long m26, .int m27, .int m28, .ref ro, .int m30, .ref ct, .ref se, .ref th, .ref cn, .ref be, .int m36, .ref du, .int m38, .ref db, .int m40, .int m41, .int m42, .ref pn, .ref wg, .ref wh, .ref tn, .ref he, .int m48, .ref tr, .ref fd, .ref po, .int m52, .int m53]) := (congrFun e_f191 mm).trans (z_up_ne (z_tne hf_mm hf_dr (m := 10) (n := 4260) rfl rfl (by decide)) hf_mm)
          have hf_ta : f191 ta = .inl (cy 0, 1600, .inl gta) := (congrFun e_f191 ta).trans (z_up_ne (z_tne hf_ta hf_dr (m := 12900) (n := 4260) rfl rfl (by decide)) hf_ta)
          have hf_ha : f191 ha = .inl (cy 1, 30, .inl gha) := (congrFun e_f191 ha).trans (z_up_ne (z_tne hf_ha hf_dr (m := 340) (n := 4260) rfl rfl (by decide)) hf_ha)
          have hf_dr : f191 dr = .inl (cy 1, 520, .inl (upd g119 w174.toNatClampNeg r180)) := (congrFun e_f191 dr).trans z_up_self
          have hfr : ∀ b ∈ L, b ≠ mm → b ≠ ha → b ≠ dr → f191 b = f b := fun b hb h0 h1 h2 => (congrFun e_f191 b).trans (z_up_ne h2 (hfr b hb h0 h1 h2))
          obtain ⟨g190, e_g190⟩ : ∃ z, z = (upd g119 w174.toNatClampNeg r180) := ⟨_, rfl⟩
          rw [← e_g190] at hf_dr
          have hq_dr : ∀ j : Nat, q_drv j (g190 j) := z_updQ hq_dr e_g190 (show q_drv _ _ from z_drS6 (z_mod8 i_w174 (by omega)) (show 0 ≤ (r180 : Int32).toInt ∧ (r180 : Int32).toInt ≤ 4 by first | decide | omega))
          refine lv_aload_n hx hb dX10_driveLine_212 rfl (lv_at hl 2 rfl) ?_
          refine z_get (C := RX10) (T := TX10) (N := 54) (ci := 10) (v := .ref dr) hx hb hT zin_X10 hown hK hw hm_mm hf_mm rfl 21 (by decide) (hT _ kw_1189) rfl dX10_driveLine_213 ?_
          refine lv_iload_n hx hb dX10_driveLine_216 rfl (lv_at hl 1 rfl) ?_
          refine lv_bipush (v := 7) hx hb dX10_driveLine_217 (by decide) ?_
          refine lv_iadd hx hb dX10_driveLine_219 ?_
          refine lv_topi (fun w192 e_w192 => ?_)
          have i_w192 : w192.toInt = ((8 * (52 + r2.toInt)) + 7) := z_add e_w192 i_w5 (show (7 : Int32).toInt = 7 by decide) (by omega)
          refine lv_aload_n hx hb dX10_driveLine_220 rfl (lv_at hl 2 rfl) ?_
          refine lv_ldc2 (v := 237281) hx hb hown (hT _ kw_1448) dX10_driveLine_221 ?_
          have hz193 := (show (237281 : Int64).toInt = 237281 by decide)
          refine z_calliV (cells := 0) (slots := 0) (b := mm) (As := [.long 237281]) (rest := [.int w192, .ref dr]) (ci := 10) (q0 := (RX10, TX10, 54)) ⟨hx, hb, hml, hown, hT⟩ (c_X10_takes l hm_mm hm_ta hf_mm hf_ta (by first | omega | decide | assumption) (by first | omega | decide | assumption)) (cwV 1 hT (z_goodV (fun _ h => h) kw_1403 kw_1405 kw_38 kw_96 kw_1406) rfl rfl rfl (by decide +kernel) ⟨by decide, by decide⟩) z_mv hKK hK hw hA hm_mm hf_mm rfl rfl rfl hl.1 rfl (Nat.le_of_ble_eq_true rfl) dX10_driveLine_224 ⟨by decide, by decide⟩ (fun r194 u H locs hp hw => ?_)
          obtain ⟨L195, f196⟩ := u
          obtain ⟨hsb, hfm, a2_197, k2_198, p2_199, v2_200, w2_201, ha_0, hp⟩ := hp
          have hsb : L = L195 := hsb
          subst hsb
          have hsb : ∀ b ∈ L, b ∈ L := fun _ h => h
          have hw : z_H D vwCl (z_A L sz) s.heap L f196 H locs := hw
          have hfr : ∀ b ∈ L, b ≠ mm → b ≠ ha → b ≠ dr → f196 b = f b := fun b hb h0 h1 h2 => (hfm b hb h0).trans (hfr b hb h0 h1 h2)
          have hf_ta : f196 ta = .inl (cy 0, 1600, .inl gta) := (hfm ta hm_ta (z_tne hf_ta hf_mm (m := 12900) (n := 10) rfl rfl (by decide))).trans hf_ta
          have hf_ha : f196 ha = .inl (cy 1, 30, .inl gha) := (hfm ha hm_ha (z_tne hf_ha hf_mm (m := 340) (n := 10) rfl rfl (by decide))).trans hf_ha
          have hf_dr : f196 dr = .inl (cy 1, 520, .inl g190) := (hfm dr hm_dr (z_tne hf_dr hf_mm (m := 4260) (n := 10) rfl rfl (by decide))).trans hf_dr
          have hf_mm : f196 mm = .inr (10, [.int m0, .ref wd, .ref my, .ref ce, .ref mv, .ref ta, .int m6, .int a2_197, .int k2_198, .int p2_199, .int v2_200, .long w2_201, .int b2_187, .int q2_188, .int m14, .int m15, .ref li, .ref ha, .ref lw, .ref st, .ref fo, .ref dr, .int m22, .ref ik, .int m24, .int m25, .long m26, .int m27, .int m28, .ref ro, .int m30, .ref ct, .ref se, .ref th, .ref cn, .ref be, .int m36, .ref du, .int m38, .ref db, .int m40, .int m41, .int m42, .ref pn, .ref wg, .ref wh, .ref tn, .ref he, .int m48, .ref tr, .ref fd, .ref po, .int m52, .int m53]) := ha_0
          have hC_ : (0 ≤ a2_197.toInt ∧ a2_197.toInt ≤ m6.toInt) ∧ m7.toInt ≤ a2_197.toInt ∧ (b2_187.toInt ≠ 0 ∨ m12.toInt = 0) ∧ ((a2_197.toInt = m7.toInt ∧ k2_198.toInt = m8.toInt) ∨ k2_198.toInt ≠ 3 ∨ m7.toInt < a2_197.toInt) := by refine ⟨⟨?_, ?_⟩, ?_, ?_, ?_⟩ <;> omega
          replace hp : (r194 = 1 ∧ True) ∨ (r194 = 0 ∧ True) := hp.1.elim (fun h => Or.inl ⟨h.1, trivial⟩) (fun h => Or.inr ⟨h.1, trivial⟩)
          replace hC := hC_
          clear hC_
          rcases hp with ⟨rfl, h202⟩ | ⟨rfl, h202⟩
          · skip
            refine z_if_eq (tgt := 234) hx hb (show (1 : Int32).toInt = 1 by decide) dX10_driveLine_227 (by decide) (fun h => absurd h (by decide)) (fun _ => ?_)
            refine lv_iconst (v := 1) hx hb dX10_driveLine_230 (by decide) ?_
            refine lv_goto (tgt := 235) hx hb dX10_driveLine_231 (by decide) ?_
            refine z_iast hx hb hK hw 1 hm_dr hf_dr rfl (z_ix i_w192 (by omega)) dX10_driveLine_235 (fun H locs hw => ?_)
            obtain ⟨f204, e_f204⟩ : ∃ z, z = va_up f196 dr (.inl (cy 1, 520, .inl (upd g190 w192.toNatClampNeg 1))) := ⟨_, rfl⟩
            rw [← e_f204] at hw
            have hf_mm : f204 mm = .inr (10, [.int m0, .ref wd, .ref my, .ref ce, .ref mv, .ref ta, .int m6, .int a2_197, .int k2_198, .int p2_199, .int v2_200, .long w2_201, .int b2_187, .int q2_188, .int m14, .int m15, .ref li, .ref ha, .ref lw, .ref st, .ref fo, .ref dr, .int m22, .ref ik, .int m24, .int m25, .long m26, .int m27, .int m28, .ref ro, .int m30, .ref ct, .ref se, .ref th, .ref cn, .ref be, .int m36, .ref du, .int m38, .ref db, .int m40, .int m41, .int m42, .ref pn, .ref wg, .ref wh, .ref tn, .ref he, .int m48, .ref tr, .ref fd, .ref po, .int m52, .int m53]) := (congrFun e_f204 mm).trans (z_up_ne (z_tne hf_mm hf_dr (m := 10) (n := 4260) rfl rfl (by decide)) hf_mm)
            have hf_ta : f204 ta = .inl (cy 0, 1600, .inl gta) := (congrFun e_f204 ta).trans (z_up_ne (z_tne hf_ta hf_dr (m := 12900) (n := 4260) rfl rfl (by decide)) hf_ta)
            have hf_ha : f204 ha = .inl (cy 1, 30, .inl gha) := (congrFun e_f204 ha).trans (z_up_ne (z_tne hf_ha hf_dr (m := 340) (n := 4260) rfl rfl (by decide)) hf_ha)
            have hf_dr : f204 dr = .inl (cy 1, 520, .inl (upd g190 w192.toNatClampNeg 1)) := (congrFun e_f204 dr).trans z_up_self
            have hfr : ∀ b ∈ L, b ≠ mm → b ≠ ha → b ≠ dr → f204 b = f b := fun b hb h0 h1 h2 => (congrFun e_f204 b).trans (z_up_ne h2 (hfr b hb h0 h1 h2))
            obtain ⟨g203, e_g203⟩ : ∃ z, z = (upd g190 w192.toNatClampNeg 1) := ⟨_, rfl⟩
            rw [← e_g203] at hf_dr
            have hq_dr : ∀ j : Nat, q_drv j (g203 j) := z_updQ hq_dr e_g203 (show q_drv _ _ from z_drS7 (z_mod8 i_w192 (by omega)) (show 0 ≤ (1 : Int32).toInt ∧ (1 : Int32).toInt ≤ 1 by first | decide | omega))
            refine lv_aload_n hx hb dX10_driveLine_236 rfl (lv_at hl 2 rfl) ?_
            refine z_get (C := RX10) (T := TX10) (N := 54) (ci := 10) (v := .ref ha) hx hb hT zin_X10 hown hK hw hm_mm hf_mm rfl 17 (by decide) (hT _ kw_1185) rfl dX10_driveLine_237 ?_
            refine lv_bipush (v := 27) hx hb dX10_driveLine_240 (by decide) ?_
            refine lv_dup2_11 hx hb dX10_driveLine_242 rfl rfl ?_
            refine z_iald hx hb hK hw 1 hm_ha hf_ha rfl (z_ix (show (27 : Int32).toInt = 27 by decide) (by decide)) dX10_driveLine_243 ?_
            refine lv_topi (fun w205 e_w205 => ?_)
            have hv_w205 : 0 ≤ w205.toInt ∧ w205.toInt ≤ 12 := by rw [e_w205]; exact (hq_ha _).1.2.2.2 rfl
            have h11 : w205.toInt ≤ 11 := by rw [e_w205]; exact hd11
            refine lv_iconst (v := 1) hx hb dX10_driveLine_244 (by decide) ?_
            refine lv_iadd hx hb dX10_driveLine_245 ?_
            refine lv_topi (fun w206 e_w206 => ?_)
            have i_w206 : w206.toInt = (w205.toInt + 1) := z_add e_w206 rfl (show (1 : Int32).toInt = 1 by decide) (by omega)
            refine z_iast hx hb hK hw 1 hm_ha hf_ha rfl (z_ix (show (27 : Int32).toInt = 27 by decide) (by decide)) dX10_driveLine_246 (fun H locs hw => ?_)
            obtain ⟨f208, e_f208⟩ : ∃ z, z = va_up f204 ha (.inl (cy 1, 30, .inl (upd gha (27 : Int32).toNatClampNeg w206))) := ⟨_, rfl⟩
            rw [← e_f208] at hw
            have hf_mm : f208 mm = .inr (10, [.int m0, .ref wd, .ref my, .ref ce, .ref mv, .ref ta, .int m6, .int a2_197, .int k2_198, .int p2_199, .int v2_200, .long w2_201, .int b2_187, .int q2_188, .int m14, .int m15, .ref li, .ref ha, .ref lw, .ref st, .ref fo, .ref dr, .int m22, .ref ik, .int m24, .int m25, .long m26, .int m27, .int m28, .ref ro, .int m30, .ref ct, .ref se, .ref th, .ref cn, .ref be, .int m36, .ref du, .int m38, .ref db, .int m40, .int m41, .int m42, .ref pn, .ref wg, .ref wh, .ref tn, .ref he, .int m48, .ref tr, .ref fd, .ref po, .int m52, .int m53]) := (congrFun e_f208 mm).trans (z_up_ne (z_tne hf_mm hf_ha (m := 10) (n := 340) rfl rfl (by decide)) hf_mm)
            have hf_ta : f208 ta = .inl (cy 0, 1600, .inl gta) := (congrFun e_f208 ta).trans (z_up_ne (z_tne hf_ta hf_ha (m := 12900) (n := 340) rfl rfl (by decide)) hf_ta)
            have hf_dr : f208 dr = .inl (cy 1, 520, .inl g203) := (congrFun e_f208 dr).trans (z_up_ne (z_tne hf_dr hf_ha (m := 4260) (n := 340) rfl rfl (by decide)) hf_dr)
            have hf_ha : f208 ha = .inl (cy 1, 30, .inl (upd gha (27 : Int32).toNatClampNeg w206)) := (congrFun e_f208 ha).trans z_up_self
            have hfr : ∀ b ∈ L, b ≠ mm → b ≠ ha → b ≠ dr → f208 b = f b := fun b hb h0 h1 h2 => (congrFun e_f208 b).trans (z_up_ne h1 (hfr b hb h0 h1 h2))
            obtain ⟨g207, e_g207⟩ : ∃ z, z = (upd gha (27 : Int32).toNatClampNeg w206) := ⟨_, rfl⟩
            rw [← e_g207] at hf_ha
            have hq_ha : ∀ j : Nat, (q_hasR hz) j (g207 j) := z_updQ hq_ha e_g207 (show q_hasR _ _ _ from ⟨(show q_has _ _ from ⟨(fun h => absurd h (by decide)), (fun h => absurd h (by decide)), (fun h => absurd h (by decide)), (fun _ => (show 0 ≤ (w206 : Int32).toInt ∧ (w206 : Int32).toInt ≤ 12 by first | decide | omega))⟩), fun h => absurd h (by decide)⟩)
            exact z_vret hx hb hr hlk (by decide) (by decide) hw (⟨hsub, hfr, a2_197, k2_198, p2_199, v2_200, b2_187, q2_188, w2_201, g207, g203, hf_mm, hf_ha, hf_dr, hq_ha, hq_dr, by omega, by omega, by omega, by omega⟩) dX10_driveLine_247
          · skip
            refine z_if_eq (tgt := 234) hx hb (show (0 : Int32).toInt = 0 by decide) dX10_driveLine_227 (by decide) (fun _ => ?_) (fun h => absurd h (by decide))
            refine lv_iconst (v := 0) hx hb dX10_driveLine_234 (by decide) ?_
            refine z_iast hx hb hK hw 1 hm_dr hf_dr rfl (z_ix i_w192 (by omega)) dX10_driveLine_235 (fun H locs hw => ?_)
            obtain ⟨f210, e_f210⟩ : ∃ z, z = va_up f196 dr (.inl (cy 1, 520, .inl (upd g190 w192.toNatClampNeg 0))) := ⟨_, rfl⟩
            rw [← e_f210] at hw
            have hf_mm : f210 mm = .inr (10, [.int m0, .ref wd, .ref my, .ref ce, .ref mv, .ref ta, .int m6, .int a2_197, .int k2_198, .int p2_199, .int v2_200, .long w2_201, .int b2_187, .int q2_188, .int m14, .int m15, .ref li, .ref ha, .ref lw, .ref st, .ref fo, .ref dr, .int m22, .ref ik, .int m24, .int m25, .long m26, .int m27, .int m28, .ref ro, .int m30, .ref ct, .ref se, .ref th, .ref cn, .ref be, .int m36, .ref du, .int m38, .ref db, .int m40, .int m41, .int m42, .ref pn, .ref wg, .ref wh, .ref tn, .ref he, .int m48, .ref tr, .ref fd, .ref po, .int m52, .int m53]) := (congrFun e_f210 mm).trans (z_up_ne (z_tne hf_mm hf_dr (m := 10) (n := 4260) rfl rfl (by decide)) hf_mm)
            have hf_ta : f210 ta = .inl (cy 0, 1600, .inl gta) := (congrFun e_f210 ta).trans (z_up_ne (z_tne hf_ta hf_dr (m := 12900) (n := 4260) rfl rfl (by decide)) hf_ta)
            have hf_ha : f210 ha = .inl (cy 1, 30, .inl gha) := (congrFun e_f210 ha).trans (z_up_ne (z_tne hf_ha hf_dr (m := 340) (n := 4260) rfl rfl (by decide)) hf_ha)
            have hf_dr : f210 dr = .inl (cy 1, 520, .inl (upd g190 w192.toNatClampNeg 0)) := (congrFun e_f210 dr).trans z_up_self
            have hfr : ∀ b ∈ L, b ≠ mm → b ≠ ha → b ≠ dr → f210 b = f b := fun b hb h0 h1 h2 => (congrFun e_f210 b).trans (z_up_ne h2 (hfr b hb h0 h1 h2))
            obtain ⟨g209, e_g209⟩ : ∃ z, z = (upd g190 w192.toNatClampNeg 0) := ⟨_, rfl⟩
            rw [← e_g209] at hf_dr
            have hq_dr : ∀ j : Nat, q_drv j (g209 j) := z_updQ hq_dr e_g209 (show q_drv _ _ from z_drS7 (z_mod8 i_w192 (by omega)) (show 0 ≤ (0 : Int32).toInt ∧ (0 : Int32).toInt ≤ 1 by first | decide | omega))
            refine lv_aload_n hx hb dX10_driveLine_236 rfl (lv_at hl 2 rfl) ?_
            refine z_get (C := RX10) (T := TX10) (N := 54) (ci := 10) (v := .ref ha) hx hb hT zin_X10 hown hK hw hm_mm hf_mm rfl 17 (by decide) (hT _ kw_1185) rfl dX10_driveLine_237 ?_
            refine lv_bipush (v := 27) hx hb dX10_driveLine_240 (by decide) ?_
            refine lv_dup2_11 hx hb dX10_driveLine_242 rfl rfl ?_
            refine z_iald hx hb hK hw 1 hm_ha hf_ha rfl (z_ix (show (27 : Int32).toInt = 27 by decide) (by decide)) dX10_driveLine_243 ?_
            refine lv_topi (fun w211 e_w211 => ?_)
            have hv_w211 : 0 ≤ w211.toInt ∧ w211.toInt ≤ 12 := by rw [e_w211]; exact (hq_ha _).1.2.2.2 rfl
            have h11 : w211.toInt ≤ 11 := by rw [e_w211]; exact hd11
            refine lv_iconst (v := 1) hx hb dX10_driveLine_244 (by decide) ?_
            refine lv_iadd hx hb dX10_driveLine_245 ?_
            refine lv_topi (fun w212 e_w212 => ?_)
            have i_w212 : w212.toInt = (w211.toInt + 1) := z_add e_w212 rfl (show (1 : Int32).toInt = 1 by decide) (by omega)
            refine z_iast hx hb hK hw 1 hm_ha hf_ha rfl (z_ix (show (27 : Int32).toInt = 27 by decide) (by decide)) dX10_driveLine_246 (fun H locs hw => ?_)
            obtain ⟨f214, e_f214⟩ : ∃ z, z = va_up f210 ha (.inl (cy 1, 30, .inl (upd gha (27 : Int32).toNatClampNeg w212))) := ⟨_, rfl⟩
            rw [← e_f214] at hw
            have hf_mm : f214 mm = .inr (10, [.int m0, .ref wd, .ref my, .ref ce, .ref mv, .ref ta, .int m6, .int a2_197, .int k2_198, .int p2_199, .int v2_200, .long w2_201, .int b2_187, .int q2_188, .int m14, .int m15, .ref li, .ref ha, .ref lw, .ref st, .ref fo, .ref dr, .int m22, .ref ik, .int m24, .int m25, .long m26, .int m27, .int m28, .ref ro, .int m30, .ref ct, .ref se, .ref th, .ref cn, .ref be, .int m36, .ref du, .int m38, .ref db, .int m40, .int m41, .int m42, .ref pn, .ref wg, .ref wh, .ref tn, .ref he, .int m48, .ref tr, .ref fd, .ref po, .int m52, .int m53]) := (congrFun e_f214 mm).trans (z_up_ne (z_tne hf_mm hf_ha (m := 10) (n := 340) rfl rfl (by decide)) hf_mm)
            have hf_ta : f214 ta = .inl (cy 0, 1600, .inl gta) := (congrFun e_f214 ta).trans (z_up_ne (z_tne hf_ta hf_ha (m := 12900) (n := 340) rfl rfl (by decide)) hf_ta)
            have hf_dr : f214 dr = .inl (cy 1, 520, .inl g209) := (congrFun e_f214 dr).trans (z_up_ne (z_tne hf_dr hf_ha (m := 4260) (n := 340) rfl rfl (by decide)) hf_dr)
            have hf_ha : f214 ha = .inl (cy 1, 30, .inl (upd gha (27 : Int32).toNatClampNeg w212)) := (congrFun e_f214 ha).trans z_up_self
            have hfr : ∀ b ∈ L, b ≠ mm → b ≠ ha → b ≠ dr → f214 b = f b := fun b hb h0 h1 h2 => (congrFun e_f214 b).trans (z_up_ne h1 (hfr b hb h0 h1 h2))
            obtain ⟨g213, e_g213⟩ : ∃ z, z = (upd gha (27 : Int32).toNatClampNeg w212) := ⟨_, rfl⟩
            rw [← e_g213] at hf_ha
            have hq_ha : ∀ j : Nat, (q_hasR hz) j (g213 j) := z_updQ hq_ha e_g213 (show q_hasR _ _ _ from ⟨(show q_has _ _ from ⟨(fun h => absurd h (by decide)), (fun h => absurd h (by decide)), (fun h => absurd h (by decide)), (fun _ => (show 0 ≤ (w212 : Int32).toInt ∧ (w212 : Int32).toInt ≤ 12 by first | decide | omega))⟩), fun h => absurd h (by decide)⟩)
            exact z_vret hx hb hr hlk (by decide) (by decide) hw (⟨hsub, hfr, a2_197, k2_198, p2_199, v2_200, b2_187, q2_188, w2_201, g213, g209, hf_mm, hf_ha, hf_dr, hq_ha, hq_dr, by omega, by omega, by omega, by omega⟩) dX10_driveLine_247
        · skip
          refine lv_aload_n hx hb dX10_driveLine_178 rfl (lv_at hl 2 rfl) ?_
          refine z_get (C := RX10) (T := TX10) (N := 54) (ci := 10) (v := .int v2_128) hx hb hT zin_X10 hown hK hw hm_mm hf_mm rfl 10 (by decide) (hT _ kw_1178) rfl dX10_driveLine_179 ?_
          refine lv_iload_n hx hb dX10_driveLine_182 rfl (lv_at hl 0 rfl) ?_
          refine z_icmp_ne (tgt := 191) hx hb rfl rfl dX10_driveLine_183 (by decide) (fun c215 => ?_) (fun c215 => ?_)
          · skip
            refine lv_aload_n hx hb dX10_driveLine_191 rfl (lv_at hl 2 rfl) ?_
            refine z_get (C := RX10) (T := TX10) (N := 54) (ci := 10) (v := .ref dr) hx hb hT zin_X10 hown hK hw hm_mm hf_mm rfl 21 (by decide) (hT _ kw_1189) rfl dX10_driveLine_192 ?_
            refine lv_iload_n hx hb dX10_driveLine_195 rfl (lv_at hl 1 rfl) ?_
            refine lv_bipush (v := 6) hx hb dX10_driveLine_196 (by decide) ?_
            refine lv_iadd hx hb dX10_driveLine_198 ?_
            refine lv_topi (fun w216 e_w216 => ?_)
            have i_w216 : w216.toInt = ((8 * (52 + r2.toInt)) + 6) := z_add e_w216 i_w5 (show (6 : Int32).toInt = 6 by decide) (by omega)
            refine lv_aload_n hx hb dX10_driveLine_199 rfl (lv_at hl 2 rfl) ?_
            refine lv_iconst (v := 0) hx hb dX10_driveLine_200 (by decide) ?_
            refine lv_aload_n hx hb dX10_driveLine_201 rfl (lv_at hl 2 rfl) ?_
            refine lv_iconst (v := 2) hx hb dX10_driveLine_202 (by decide) ?_
            have hz217 := (show (2 : Int32).toInt = 2 by decide)
            refine z_calliV (cells := 0) (slots := 0) (b := mm) (As := [.int 2]) (rest := [.int 0, .ref mm, .int w216, .ref dr]) (ci := 10) (q0 := (RX10, TX10, 54)) ⟨hx, hb, hml, hown, hT⟩ (c_X10_hasRead l hm_mm hm_ha hf_mm hf_ha hq_ha (by decide)) (cwV 1 hT (z_goodV (fun _ h => h) kw_1434 kw_1436 kw_44 kw_96 kw_1437) rfl rfl rfl (by decide +kernel) ⟨by decide, by decide⟩) z_mv hKK hK hw hA hm_mm hf_mm rfl rfl rfl hl.1 rfl (Nat.le_of_ble_eq_true rfl) dX10_driveLine_203 ⟨by decide, by decide⟩ (fun r218 u H locs hp hw => ?_)
            obtain ⟨rfl, hp⟩ := hp
            have hw : z_H D vwCl (z_A L sz) s.heap L f124 H locs := hw
            have hh219 : 0 ≤ r218.toInt ∧ r218.toInt ≤ 5 := by rw [hp]; exact (hq_ha 26).1.2.2.1 rfl
            refine lv_iconst (v := 1) hx hb dX10_driveLine_206 (by decide) ?_
            refine lv_isub hx hb dX10_driveLine_207 ?_
            refine lv_topi (fun w220 e_w220 => ?_)
            have i_w220 : w220.toInt = (r218.toInt - 1) := z_subI e_w220 rfl (show (1 : Int32).toInt = 1 by decide) (by omega)
            have hz221 := (show (0 : Int32).toInt = 0 by decide)
            refine z_calliV (cells := 0) (slots := 0) (b := mm) (As := [.int 0, .int w220]) (rest := [.int w216, .ref dr]) (ci := 10) (q0 := (RX10, TX10, 54)) ⟨hx, hb, hml, hown, hT⟩ (c_X10_number l hm_mm hm_ta hf_mm hf_ta (by first | omega | decide | assumption) (by first | omega | decide | assumption)) (cwV 2 hT (z_goodV (fun _ h => h) kw_1420 kw_1422 kw_42 kw_96 kw_1423) rfl rfl rfl (by decide +kernel) ⟨by decide, by decide⟩) z_mv hKK hK hw hA hm_mm hf_mm rfl rfl rfl hl.1 rfl (Nat.le_of_ble_eq_true rfl) dX10_driveLine_208 ⟨by decide, by decide⟩ (fun r222 u H locs hp hw => ?_)
            obtain ⟨L223, f224⟩ := u
            obtain ⟨hsb, hfm, a2_225, k2_226, p2_227, v2_228, b2_229, q2_230, w2_231, ha_0, hp⟩ := hp
            have hsb : L = L223 := hsb
            subst hsb
            have hsb : ∀ b ∈ L, b ∈ L := fun _ h => h
            have hw : z_H D vwCl (z_A L sz) s.heap L f224 H locs := hw
            have hfr : ∀ b ∈ L, b ≠ mm → b ≠ ha → b ≠ dr → f224 b = f b := fun b hb h0 h1 h2 => (hfm b hb h0).trans (hfr b hb h0 h1 h2)
            have hf_ta : f224 ta = .inl (cy 0, 1600, .inl gta) := (hfm ta hm_ta (z_tne hf_ta hf_mm (m := 12900) (n := 10) rfl rfl (by decide))).trans hf_ta
            have hf_ha : f224 ha = .inl (cy 1, 30, .inl gha) := (hfm ha hm_ha (z_tne hf_ha hf_mm (m := 340) (n := 10) rfl rfl (by decide))).trans hf_ha
            have hf_dr : f224 dr = .inl (cy 1, 520, .inl g119) := (hfm dr hm_dr (z_tne hf_dr hf_mm (m := 4260) (n := 10) rfl rfl (by decide))).trans hf_dr
            have hf_mm : f224 mm = .inr (10, [.int m0, .ref wd, .ref my, .ref ce, .ref mv, .ref ta, .int m6, .int a2_225, .int k2_226, .int p2_227, .int v2_228, .long w2_231, .int b2_229, .int q2_230, .int m14, .int m15, .ref li, .ref ha, .ref lw, .ref st, .ref fo, .ref dr, .int m22, .ref ik, .int m24, .int m25, .long m26, .int m27, .int m28, .ref ro, .int m30, .ref ct, .ref se, .ref th, .ref cn, .ref be, .int m36, .ref du, .int m38, .ref db, .int m40, .int m41, .int m42, .ref pn, .ref wg, .ref wh, .ref tn, .ref he, .int m48, .ref tr, .ref fd, .ref po, .int m52, .int m53]) := ha_0
            have hR_r222 : 0 ≤ r222.toInt ∧ r222.toInt ≤ 4 := by omega
            have hC_ : (0 ≤ a2_225.toInt ∧ a2_225.toInt ≤ m6.toInt) ∧ m7.toInt ≤ a2_225.toInt ∧ (b2_229.toInt ≠ 0 ∨ m12.toInt = 0) ∧ ((a2_225.toInt = m7.toInt ∧ k2_226.toInt = m8.toInt) ∨ k2_226.toInt ≠ 3 ∨ m7.toInt < a2_225.toInt) := by refine ⟨⟨?_, ?_⟩, ?_, ?_, ?_⟩ <;> omega
            clear hp
            replace hC := hC_
            clear hC_
            refine z_iast hx hb hK hw 1 hm_dr hf_dr rfl (z_ix i_w216 (by omega)) dX10_driveLine_211 (fun H locs hw => ?_)
            obtain ⟨f233, e_f233⟩ : ∃ z, z = va_up f224 dr (.inl (cy 1, 520, .inl (upd g119 w216.toNatClampNeg r222))) := ⟨_, rfl⟩
            rw [← e_f233] at hw
            have hf_mm : f233 mm = .inr (10, [.int m0, .ref wd, .ref my, .ref ce, .ref mv, .ref ta, .int m6, .int a2_225, .int k2_226, .int p2_227, .int v2_228, .long w2_231, .int b2_229, .int q2_230, .int m14, .int m15, .ref li, .ref ha, .ref lw, .ref st, .ref fo, .ref dr, .int m22, .ref ik, .int m24, .int m25, .long m26, .int m27, .int m28, .ref ro, .int m30, .ref ct, .ref se, .ref th, .ref cn, .ref be, .int m36, .ref du, .int m38, .ref db, .int m40, .int m41, .int m42, .ref pn, .ref wg, .ref wh, .ref tn, .ref he, .int m48, .ref tr, .ref fd, .ref po, .int m52, .int m53]) := (congrFun e_f233 mm).trans (z_up_ne (z_tne hf_mm hf_dr (m := 10) (n := 4260) rfl rfl (by decide)) hf_mm)
            have hf_ta : f233 ta = .inl (cy 0, 1600, .inl gta) := (congrFun e_f233 ta).trans (z_up_ne (z_tne hf_ta hf_dr (m := 12900) (n := 4260) rfl rfl (by decide)) hf_ta)
            have hf_ha : f233 ha = .inl (cy 1, 30, .inl gha) := (congrFun e_f233 ha).trans (z_up_ne (z_tne hf_ha hf_dr (m := 340) (n := 4260) rfl rfl (by decide)) hf_ha)
            have hf_dr : f233 dr = .inl (cy 1, 520, .inl (upd g119 w216.toNatClampNeg r222)) := (congrFun e_f233 dr).trans z_up_self
            have hfr : ∀ b ∈ L, b ≠ mm → b ≠ ha → b ≠ dr → f233 b = f b := fun b hb h0 h1 h2 => (congrFun e_f233 b).trans (z_up_ne h2 (hfr b hb h0 h1 h2))
            obtain ⟨g232, e_g232⟩ : ∃ z, z = (upd g119 w216.toNatClampNeg r222) := ⟨_, rfl⟩
            rw [← e_g232] at hf_dr
            have hq_dr : ∀ j : Nat, q_drv j (g232 j) := z_updQ hq_dr e_g232 (show q_drv _ _ from z_drS6 (z_mod8 i_w216 (by omega)) (show 0 ≤ (r222 : Int32).toInt ∧ (r222 : Int32).toInt ≤ 4 by first | decide | omega))
            refine lv_aload_n hx hb dX10_driveLine_212 rfl (lv_at hl 2 rfl) ?_
            refine z_get (C := RX10) (T := TX10) (N := 54) (ci := 10) (v := .ref dr) hx hb hT zin_X10 hown hK hw hm_mm hf_mm rfl 21 (by decide) (hT _ kw_1189) rfl dX10_driveLine_213 ?_
            refine lv_iload_n hx hb dX10_driveLine_216 rfl (lv_at hl 1 rfl) ?_
            refine lv_bipush (v := 7) hx hb dX10_driveLine_217 (by decide) ?_
            refine lv_iadd hx hb dX10_driveLine_219 ?_
            refine lv_topi (fun w234 e_w234 => ?_)
            have i_w234 : w234.toInt = ((8 * (52 + r2.toInt)) + 7) := z_add e_w234 i_w5 (show (7 : Int32).toInt = 7 by decide) (by omega)
            refine lv_aload_n hx hb dX10_driveLine_220 rfl (lv_at hl 2 rfl) ?_
            refine lv_ldc2 (v := 237281) hx hb hown (hT _ kw_1448) dX10_driveLine_221 ?_
            have hz235 := (show (237281 : Int64).toInt = 237281 by decide)
            refine z_calliV (cells := 0) (slots := 0) (b := mm) (As := [.long 237281]) (rest := [.int w234, .ref dr]) (ci := 10) (q0 := (RX10, TX10, 54)) ⟨hx, hb, hml, hown, hT⟩ (c_X10_takes l hm_mm hm_ta hf_mm hf_ta (by first | omega | decide | assumption) (by first | omega | decide | assumption)) (cwV 1 hT (z_goodV (fun _ h => h) kw_1403 kw_1405 kw_38 kw_96 kw_1406) rfl rfl rfl (by decide +kernel) ⟨by decide, by decide⟩) z_mv hKK hK hw hA hm_mm hf_mm rfl rfl rfl hl.1 rfl (Nat.le_of_ble_eq_true rfl) dX10_driveLine_224 ⟨by decide, by decide⟩ (fun r236 u H locs hp hw => ?_)
            obtain ⟨L237, f238⟩ := u
            obtain ⟨hsb, hfm, a2_239, k2_240, p2_241, v2_242, w2_243, ha_0, hp⟩ := hp
            have hsb : L = L237 := hsb
            subst hsb
            have hsb : ∀ b ∈ L, b ∈ L := fun _ h => h
            have hw : z_H D vwCl (z_A L sz) s.heap L f238 H locs := hw
            have hfr : ∀ b ∈ L, b ≠ mm → b ≠ ha → b ≠ dr → f238 b = f b := fun b hb h0 h1 h2 => (hfm b hb h0).trans (hfr b hb h0 h1 h2)
            have hf_ta : f238 ta = .inl (cy 0, 1600, .inl gta) := (hfm ta hm_ta (z_tne hf_ta hf_mm (m := 12900) (n := 10) rfl rfl (by decide))).trans hf_ta
            have hf_ha : f238 ha = .inl (cy 1, 30, .inl gha) := (hfm ha hm_ha (z_tne hf_ha hf_mm (m := 340) (n := 10) rfl rfl (by decide))).trans hf_ha
            have hf_dr : f238 dr = .inl (cy 1, 520, .inl g232) := (hfm dr hm_dr (z_tne hf_dr hf_mm (m := 4260) (n := 10) rfl rfl (by decide))).trans hf_dr
            have hf_mm : f238 mm = .inr (10, [.int m0, .ref wd, .ref my, .ref ce, .ref mv, .ref ta, .int m6, .int a2_239, .int k2_240, .int p2_241, .int v2_242, .long w2_243, .int b2_229, .int q2_230, .int m14, .int m15, .ref li, .ref ha, .ref lw, .ref st, .ref fo, .ref dr, .int m22, .ref ik, .int m24, .int m25, .long m26, .int m27, .int m28, .ref ro, .int m30, .ref ct, .ref se, .ref th, .ref cn, .ref be, .int m36, .ref du, .int m38, .ref db, .int m40, .int m41, .int m42, .ref pn, .ref wg, .ref wh, .ref tn, .ref he, .int m48, .ref tr, .ref fd, .ref po, .int m52, .int m53]) := ha_0
            have hC_ : (0 ≤ a2_239.toInt ∧ a2_239.toInt ≤ m6.toInt) ∧ m7.toInt ≤ a2_239.toInt ∧ (b2_229.toInt ≠ 0 ∨ m12.toInt = 0) ∧ ((a2_239.toInt = m7.toInt ∧ k2_240.toInt = m8.toInt) ∨ k2_240.toInt ≠ 3 ∨ m7.toInt < a2_239.toInt) := by refine ⟨⟨?_, ?_⟩, ?_, ?_, ?_⟩ <;> omega
            replace hp : (r236 = 1 ∧ True) ∨ (r236 = 0 ∧ True) := hp.1.elim (fun h => Or.inl ⟨h.1, trivial⟩) (fun h => Or.inr ⟨h.1, trivial⟩)
            replace hC := hC_
            clear hC_
            rcases hp with ⟨rfl, h244⟩ | ⟨rfl, h244⟩
            · skip
              refine z_if_eq (tgt := 234) hx hb (show (1 : Int32).toInt = 1 by decide) dX10_driveLine_227 (by decide) (fun h => absurd h (by decide)) (fun _ => ?_)
              refine lv_iconst (v := 1) hx hb dX10_driveLine_230 (by decide) ?_
              refine lv_goto (tgt := 235) hx hb dX10_driveLine_231 (by decide) ?_
              refine z_iast hx hb hK hw 1 hm_dr hf_dr rfl (z_ix i_w234 (by omega)) dX10_driveLine_235 (fun H locs hw => ?_)
              obtain ⟨f246, e_f246⟩ : ∃ z, z = va_up f238 dr (.inl (cy 1, 520, .inl (upd g232 w234.toNatClampNeg 1))) := ⟨_, rfl⟩
              rw [← e_f246] at hw
              have hf_mm : f246 mm = .inr (10, [.int m0, .ref wd, .ref my, .ref ce, .ref mv, .ref ta, .int m6, .int a2_239, .int k2_240, .int p2_241, .int v2_242, .long w2_243, .int b2_229, .int q2_230, .int m14, .int m15, .ref li, .ref ha, .ref lw, .ref st, .ref fo, .ref dr, .int m22, .ref ik, .int m24, .int m25, .long m26, .int m27, .int m28, .ref ro, .int m30, .ref ct, .ref se, .ref th, .ref cn, .ref be, .int m36, .ref du, .int m38, .ref db, .int m40, .int m41, .int m42, .ref pn, .ref wg, .ref wh, .ref tn, .ref he, .int m48, .ref tr, .ref fd, .ref po, .int m52, .int m53]) := (congrFun e_f246 mm).trans (z_up_ne (z_tne hf_mm hf_dr (m := 10) (n := 4260) rfl rfl (by decide)) hf_mm)
              have hf_ta : f246 ta = .inl (cy 0, 1600, .inl gta) := (congrFun e_f246 ta).trans (z_up_ne (z_tne hf_ta hf_dr (m := 12900) (n := 4260) rfl rfl (by decide)) hf_ta)
              have hf_ha : f246 ha = .inl (cy 1, 30, .inl gha) := (congrFun e_f246 ha).trans (z_up_ne (z_tne hf_ha hf_dr (m := 340) (n := 4260) rfl rfl (by decide)) hf_ha)
              have hf_dr : f246 dr = .inl (cy 1, 520, .inl (upd g232 w234.toNatClampNeg 1)) := (congrFun e_f246 dr).trans z_up_self
              have hfr : ∀ b ∈ L, b ≠ mm → b ≠ ha → b ≠ dr → f246 b = f b := fun b hb h0 h1 h2 => (congrFun e_f246 b).trans (z_up_ne h2 (hfr b hb h0 h1 h2))
              obtain ⟨g245, e_g245⟩ : ∃ z, z = (upd g232 w234.toNatClampNeg 1) := ⟨_, rfl⟩
              rw [← e_g245] at hf_dr
              have hq_dr : ∀ j : Nat, q_drv j (g245 j) := z_updQ hq_dr e_g245 (show q_drv _ _ from z_drS7 (z_mod8 i_w234 (by omega)) (show 0 ≤ (1 : Int32).toInt ∧ (1 : Int32).toInt ≤ 1 by first | decide | omega))
              refine lv_aload_n hx hb dX10_driveLine_236 rfl (lv_at hl 2 rfl) ?_
              refine z_get (C := RX10) (T := TX10) (N := 54) (ci := 10) (v := .ref ha) hx hb hT zin_X10 hown hK hw hm_mm hf_mm rfl 17 (by decide) (hT _ kw_1185) rfl dX10_driveLine_237 ?_
              refine lv_bipush (v := 27) hx hb dX10_driveLine_240 (by decide) ?_
              refine lv_dup2_11 hx hb dX10_driveLine_242 rfl rfl ?_
              refine z_iald hx hb hK hw 1 hm_ha hf_ha rfl (z_ix (show (27 : Int32).toInt = 27 by decide) (by decide)) dX10_driveLine_243 ?_
              refine lv_topi (fun w247 e_w247 => ?_)
              have hv_w247 : 0 ≤ w247.toInt ∧ w247.toInt ≤ 12 := by rw [e_w247]; exact (hq_ha _).1.2.2.2 rfl
              have h11 : w247.toInt ≤ 11 := by rw [e_w247]; exact hd11
              refine lv_iconst (v := 1) hx hb dX10_driveLine_244 (by decide) ?_
              refine lv_iadd hx hb dX10_driveLine_245 ?_
              refine lv_topi (fun w248 e_w248 => ?_)
              have i_w248 : w248.toInt = (w247.toInt + 1) := z_add e_w248 rfl (show (1 : Int32).toInt = 1 by decide) (by omega)
              refine z_iast hx hb hK hw 1 hm_ha hf_ha rfl (z_ix (show (27 : Int32).toInt = 27 by decide) (by decide)) dX10_driveLine_246 (fun H locs hw => ?_)
              obtain ⟨f250, e_f250⟩ : ∃ z, z = va_up f246 ha (.inl (cy 1, 30, .inl (upd gha (27 : Int32).toNatClampNeg w248))) := ⟨_, rfl⟩
              rw [← e_f250] at hw
              have hf_mm : f250 mm = .inr (10, [.int m0, .ref wd, .ref my, .ref ce, .ref mv, .ref ta, .int m6, .int a2_239, .int k2_240, .int p2_241, .int v2_242, .long w2_243, .int b2_229, .int q2_230, .int m14, .int m15, .ref li, .ref ha, .ref lw, .ref st, .ref fo, .ref dr, .int m22, .ref ik, .int m24, .int m25, .long m26, .int m27, .int m28, .ref ro, .int m30, .ref ct, .ref se, .ref th, .ref cn, .ref be, .int m36, .ref du, .int m38, .ref db, .int m40, .int m41, .int m42, .ref pn, .ref wg, .ref wh, .ref tn, .ref he, .int m48, .ref tr, .ref fd, .ref po, .int m52, .int m53]) := (congrFun e_f250 mm).trans (z_up_ne (z_tne hf_mm hf_ha (m := 10) (n := 340) rfl rfl (by decide)) hf_mm)
              have hf_ta : f250 ta = .inl (cy 0, 1600, .inl gta) := (congrFun e_f250 ta).trans (z_up_ne (z_tne hf_ta hf_ha (m := 12900) (n := 340) rfl rfl (by decide)) hf_ta)
              have hf_dr : f250 dr = .inl (cy 1, 520, .inl g245) := (congrFun e_f250 dr).trans (z_up_ne (z_tne hf_dr hf_ha (m := 4260) (n := 340) rfl rfl (by decide)) hf_dr)
              have hf_ha : f250 ha = .inl (cy 1, 30, .inl (upd gha (27 : Int32).toNatClampNeg w248)) := (congrFun e_f250 ha).trans z_up_self
              have hfr : ∀ b ∈ L, b ≠ mm → b ≠ ha → b ≠ dr → f250 b = f b := fun b hb h0 h1 h2 => (congrFun e_f250 b).trans (z_up_ne h1 (hfr b hb h0 h1 h2))
              obtain ⟨g249, e_g249⟩ : ∃ z, z = (upd gha (27 : Int32).toNatClampNeg w248) := ⟨_, rfl⟩
              rw [← e_g249] at hf_ha
              have hq_ha : ∀ j : Nat, (q_hasR hz) j (g249 j) := z_updQ hq_ha e_g249 (show q_hasR _ _ _ from ⟨(show q_has _ _ from ⟨(fun h => absurd h (by decide)), (fun h => absurd h (by decide)), (fun h => absurd h (by decide)), (fun _ => (show 0 ≤ (w248 : Int32).toInt ∧ (w248 : Int32).toInt ≤ 12 by first | decide | omega))⟩), fun h => absurd h (by decide)⟩)
              exact z_vret hx hb hr hlk (by decide) (by decide) hw (⟨hsub, hfr, a2_239, k2_240, p2_241, v2_242, b2_229, q2_230, w2_243, g249, g245, hf_mm, hf_ha, hf_dr, hq_ha, hq_dr, by omega, by omega, by omega, by omega⟩) dX10_driveLine_247
            · skip
              refine z_if_eq (tgt := 234) hx hb (show (0 : Int32).toInt = 0 by decide) dX10_driveLine_227 (by decide) (fun _ => ?_) (fun h => absurd h (by decide))
              refine lv_iconst (v := 0) hx hb dX10_driveLine_234 (by decide) ?_
              refine z_iast hx hb hK hw 1 hm_dr hf_dr rfl (z_ix i_w234 (by omega)) dX10_driveLine_235 (fun H locs hw => ?_)
              obtain ⟨f252, e_f252⟩ : ∃ z, z = va_up f238 dr (.inl (cy 1, 520, .inl (upd g232 w234.toNatClampNeg 0))) := ⟨_, rfl⟩
              rw [← e_f252] at hw
              have hf_mm : f252 mm = .inr (10, [.int m0, .ref wd, .ref my, .ref ce, .ref mv, .ref ta, .int m6, .int a2_239, .int k2_240, .int p2_241, .int v2_242, .long w2_243, .int b2_229, .int q2_230, .int m14, .int m15, .ref li, .ref ha, .ref lw, .ref st, .ref fo, .ref dr, .int m22, .ref ik, .int m24, .int m25, .long m26, .int m27, .int m28, .ref ro, .int m30, .ref ct, .ref se, .ref th, .ref cn, .ref be, .int m36, .ref du, .int m38, .ref db, .int m40, .int m41, .int m42, .ref pn, .ref wg, .ref wh, .ref tn, .ref he, .int m48, .ref tr, .ref fd, .ref po, .int m52, .int m53]) := (congrFun e_f252 mm).trans (z_up_ne (z_tne hf_mm hf_dr (m := 10) (n := 4260) rfl rfl (by decide)) hf_mm)
              have hf_ta : f252 ta = .inl (cy 0, 1600, .inl gta) := (congrFun e_f252 ta).trans (z_up_ne (z_tne hf_ta hf_dr (m := 12900) (n := 4260) rfl rfl (by decide)) hf_ta)
              have hf_ha : f252 ha = .inl (cy 1, 30, .inl gha) := (congrFun e_f252 ha).trans (z_up_ne (z_tne hf_ha hf_dr (m := 340) (n := 4260) rfl rfl (by decide)) hf_ha)
              have hf_dr : f252 dr = .inl (cy 1, 520, .inl (upd g232 w234.toNatClampNeg 0)) := (congrFun e_f252 dr).trans z_up_self
              have hfr : ∀ b ∈ L, b ≠ mm → b ≠ ha → b ≠ dr → f252 b = f b := fun b hb h0 h1 h2 => (congrFun e_f252 b).trans (z_up_ne h2 (hfr b hb h0 h1 h2))
              obtain ⟨g251, e_g251⟩ : ∃ z, z = (upd g232 w234.toNatClampNeg 0) := ⟨_, rfl⟩
              rw [← e_g251] at hf_dr
              have hq_dr : ∀ j : Nat, q_drv j (g251 j) := z_updQ hq_dr e_g251 (show q_drv _ _ from z_drS7 (z_mod8 i_w234 (by omega)) (show 0 ≤ (0 : Int32).toInt ∧ (0 : Int32).toInt ≤ 1 by first | decide | omega))
              refine lv_aload_n hx hb dX10_driveLine_236 rfl (lv_at hl 2 rfl) ?_
              refine z_get (C := RX10) (T := TX10) (N := 54) (ci := 10) (v := .ref ha) hx hb hT zin_X10 hown hK hw hm_mm hf_mm rfl 17 (by decide) (hT _ kw_1185) rfl dX10_driveLine_237 ?_
              refine lv_bipush (v := 27) hx hb dX10_driveLine_240 (by decide) ?_
              refine lv_dup2_11 hx hb dX10_driveLine_242 rfl rfl ?_
              refine z_iald hx hb hK hw 1 hm_ha hf_ha rfl (z_ix (show (27 : Int32).toInt = 27 by decide) (by decide)) dX10_driveLine_243 ?_
              refine lv_topi (fun w253 e_w253 => ?_)
              have hv_w253 : 0 ≤ w253.toInt ∧ w253.toInt ≤ 12 := by rw [e_w253]; exact (hq_ha _).1.2.2.2 rfl
              have h11 : w253.toInt ≤ 11 := by rw [e_w253]; exact hd11
              refine lv_iconst (v := 1) hx hb dX10_driveLine_244 (by decide) ?_
              refine lv_iadd hx hb dX10_driveLine_245 ?_
              refine lv_topi (fun w254 e_w254 => ?_)
              have i_w254 : w254.toInt = (w253.toInt + 1) := z_add e_w254 rfl (show (1 : Int32).toInt = 1 by decide) (by omega)
              refine z_iast hx hb hK hw 1 hm_ha hf_ha rfl (z_ix (show (27 : Int32).toInt = 27 by decide) (by decide)) dX10_driveLine_246 (fun H locs hw => ?_)
              obtain ⟨f256, e_f256⟩ : ∃ z, z = va_up f252 ha (.inl (cy 1, 30, .inl (upd gha (27 : Int32).toNatClampNeg w254))) := ⟨_, rfl⟩
              rw [← e_f256] at hw
              have hf_mm : f256 mm = .inr (10, [.int m0, .ref wd, .ref my, .ref ce, .ref mv, .ref ta, .int m6, .int a2_239, .int k2_240, .int p2_241, .int v2_242, .long w2_243, .int b2_229, .int q2_230, .int m14, .int m15, .ref li, .ref ha, .ref lw, .ref st, .ref fo, .ref dr, .int m22, .ref ik, .int m24, .int m25, .long m26, .int m27, .int m28, .ref ro, .int m30, .ref ct, .ref se, .ref th, .ref cn, .ref be, .int m36, .ref du, .int m38, .ref db, .int m40, .int m41, .int m42, .ref pn, .ref wg, .ref wh, .ref tn, .ref he, .int m48, .ref tr, .ref fd, .ref po, .int m52, .int m53]) := (congrFun e_f256 mm).trans (z_up_ne (z_tne hf_mm hf_ha (m := 10) (n := 340) rfl rfl (by decide)) hf_mm)
              have hf_ta : f256 ta = .inl (cy 0, 1600, .inl gta) := (congrFun e_f256 ta).trans (z_up_ne (z_tne hf_ta hf_ha (m := 12900) (n := 340) rfl rfl (by decide)) hf_ta)
              have hf_dr : f256 dr = .inl (cy 1, 520, .inl g251) := (congrFun e_f256 dr).trans (z_up_ne (z_tne hf_dr hf_ha (m := 4260) (n := 340) rfl rfl (by decide)) hf_dr)
              have hf_ha : f256 ha = .inl (cy 1, 30, .inl (upd gha (27 : Int32).toNatClampNeg w254)) := (congrFun e_f256 ha).trans z_up_self
              have hfr : ∀ b ∈ L, b ≠ mm → b ≠ ha → b ≠ dr → f256 b = f b := fun b hb h0 h1 h2 => (congrFun e_f256 b).trans (z_up_ne h1 (hfr b hb h0 h1 h2))
              obtain ⟨g255, e_g255⟩ : ∃ z, z = (upd gha (27 : Int32).toNatClampNeg w254) := ⟨_, rfl⟩
              rw [← e_g255] at hf_ha
              have hq_ha : ∀ j : Nat, (q_hasR hz) j (g255 j) := z_updQ hq_ha e_g255 (show q_hasR _ _ _ from ⟨(show q_has _ _ from ⟨(fun h => absurd h (by decide)), (fun h => absurd h (by decide)), (fun h => absurd h (by decide)), (fun _ => (show 0 ≤ (w254 : Int32).toInt ∧ (w254 : Int32).toInt ≤ 12 by first | decide | omega))⟩), fun h => absurd h (by decide)⟩)
              exact z_vret hx hb hr hlk (by decide) (by decide) hw (⟨hsub, hfr, a2_239, k2_240, p2_241, v2_242, b2_229, q2_230, w2_243, g255, g251, hf_mm, hf_ha, hf_dr, hq_ha, hq_dr, by omega, by omega, by omega, by omega⟩) dX10_driveLine_247
          · skip
            refine lv_aload_n hx hb dX10_driveLine_186 rfl (lv_at hl 2 rfl) ?_
            refine lv_iconst (v := 2) hx hb dX10_driveLine_187 (by decide) ?_
            have hz257 := (show (2 : Int32).toInt = 2 by decide)
            refine z_callvV (cells := 0) (slots := 0) (b := mm) (As := [.int 2]) (rest := []) (ci := 10) (q0 := (RX10, TX10, 54)) ⟨hx, hb, hml, hown, hT⟩ (c_X10_fails l hm_mm hf_mm (by first | omega | decide | assumption)) (cwV 1 hT (z_goodV (fun _ h => h) kw_1411 kw_1413 kw_40 kw_96 kw_1414) rfl rfl rfl (by decide +kernel) ⟨by decide, by decide⟩) z_mv hKK hK hw hA hm_mm hf_mm rfl rfl rfl hl.1 rfl (Nat.le_of_ble_eq_true rfl) dX10_driveLine_188 ⟨by decide, by decide⟩ (fun u H locs hp hw => ?_)
            obtain ⟨L258, f259⟩ := u
            obtain ⟨hsb, hfm, b2_260, p2_261, ha_0, hp⟩ := hp
            have hsb : L = L258 := hsb
            subst hsb
            have hsb : ∀ b ∈ L, b ∈ L := fun _ h => h
            have hw : z_H D vwCl (z_A L sz) s.heap L f259 H locs := hw
            have hfr : ∀ b ∈ L, b ≠ mm → b ≠ ha → b ≠ dr → f259 b = f b := fun b hb h0 h1 h2 => (hfm b hb h0).trans (hfr b hb h0 h1 h2)
            have hf_ta : f259 ta = .inl (cy 0, 1600, .inl gta) := (hfm ta hm_ta (z_tne hf_ta hf_mm (m := 12900) (n := 10) rfl rfl (by decide))).trans hf_ta
            have hf_ha : f259 ha = .inl (cy 1, 30, .inl gha) := (hfm ha hm_ha (z_tne hf_ha hf_mm (m := 340) (n := 10) rfl rfl (by decide))).trans hf_ha
            have hf_dr : f259 dr = .inl (cy 1, 520, .inl g119) := (hfm dr hm_dr (z_tne hf_dr hf_mm (m := 4260) (n := 10) rfl rfl (by decide))).trans hf_dr
            have hf_mm : f259 mm = .inr (10, [.int m0, .ref wd, .ref my, .ref ce, .ref mv, .ref ta, .int m6, .int a2_125, .int k2_126, .int p2_127, .int v2_128, .long w2_129, .int b2_260, .int p2_261, .int m14, .int m15, .ref li, .ref ha, .ref lw, .ref st, .ref fo, .ref dr, .int m22, .ref ik, .int m24, .int m25, .long m26, .int m27, .int m28, .ref ro, .int m30, .ref ct, .ref se, .ref th, .ref cn, .ref be, .int m36, .ref du, .int m38, .ref db, .int m40, .int m41, .int m42, .ref pn, .ref wg, .ref wh, .ref tn, .ref he, .int m48, .ref tr, .ref fd, .ref po, .int m52, .int m53]) := ha_0
            have hC_ : (0 ≤ a2_125.toInt ∧ a2_125.toInt ≤ m6.toInt) ∧ m7.toInt ≤ a2_125.toInt ∧ (b2_260.toInt ≠ 0 ∨ m12.toInt = 0) ∧ ((a2_125.toInt = m7.toInt ∧ k2_126.toInt = m8.toInt) ∨ k2_126.toInt ≠ 3 ∨ m7.toInt < a2_125.toInt) := by refine ⟨⟨?_, ?_⟩, ?_, ?_, ?_⟩ <;> omega
            clear hp
            replace hC := hC_
            clear hC_
            refine lv_aload_n hx hb dX10_driveLine_191 rfl (lv_at hl 2 rfl) ?_
            refine z_get (C := RX10) (T := TX10) (N := 54) (ci := 10) (v := .ref dr) hx hb hT zin_X10 hown hK hw hm_mm hf_mm rfl 21 (by decide) (hT _ kw_1189) rfl dX10_driveLine_192 ?_
            refine lv_iload_n hx hb dX10_driveLine_195 rfl (lv_at hl 1 rfl) ?_
            refine lv_bipush (v := 6) hx hb dX10_driveLine_196 (by decide) ?_
            refine lv_iadd hx hb dX10_driveLine_198 ?_
            refine lv_topi (fun w262 e_w262 => ?_)
            have i_w262 : w262.toInt = ((8 * (52 + r2.toInt)) + 6) := z_add e_w262 i_w5 (show (6 : Int32).toInt = 6 by decide) (by omega)
            refine lv_aload_n hx hb dX10_driveLine_199 rfl (lv_at hl 2 rfl) ?_
            refine lv_iconst (v := 0) hx hb dX10_driveLine_200 (by decide) ?_
            refine lv_aload_n hx hb dX10_driveLine_201 rfl (lv_at hl 2 rfl) ?_
            refine lv_iconst (v := 2) hx hb dX10_driveLine_202 (by decide) ?_
            have hz263 := (show (2 : Int32).toInt = 2 by decide)
            refine z_calliV (cells := 0) (slots := 0) (b := mm) (As := [.int 2]) (rest := [.int 0, .ref mm, .int w262, .ref dr]) (ci := 10) (q0 := (RX10, TX10, 54)) ⟨hx, hb, hml, hown, hT⟩ (c_X10_hasRead l hm_mm hm_ha hf_mm hf_ha hq_ha (by decide)) (cwV 1 hT (z_goodV (fun _ h => h) kw_1434 kw_1436 kw_44 kw_96 kw_1437) rfl rfl rfl (by decide +kernel) ⟨by decide, by decide⟩) z_mv hKK hK hw hA hm_mm hf_mm rfl rfl rfl hl.1 rfl (Nat.le_of_ble_eq_true rfl) dX10_driveLine_203 ⟨by decide, by decide⟩ (fun r264 u H locs hp hw => ?_)
            obtain ⟨rfl, hp⟩ := hp
            have hw : z_H D vwCl (z_A L sz) s.heap L f259 H locs := hw
            have hh265 : 0 ≤ r264.toInt ∧ r264.toInt ≤ 5 := by rw [hp]; exact (hq_ha 26).1.2.2.1 rfl
            refine lv_iconst (v := 1) hx hb dX10_driveLine_206 (by decide) ?_
            refine lv_isub hx hb dX10_driveLine_207 ?_
            refine lv_topi (fun w266 e_w266 => ?_)
            have i_w266 : w266.toInt = (r264.toInt - 1) := z_subI e_w266 rfl (show (1 : Int32).toInt = 1 by decide) (by omega)
            have hz267 := (show (0 : Int32).toInt = 0 by decide)
            refine z_calliV (cells := 0) (slots := 0) (b := mm) (As := [.int 0, .int w266]) (rest := [.int w262, .ref dr]) (ci := 10) (q0 := (RX10, TX10, 54)) ⟨hx, hb, hml, hown, hT⟩ (c_X10_number l hm_mm hm_ta hf_mm hf_ta (by first | omega | decide | assumption) (by first | omega | decide | assumption)) (cwV 2 hT (z_goodV (fun _ h => h) kw_1420 kw_1422 kw_42 kw_96 kw_1423) rfl rfl rfl (by decide +kernel) ⟨by decide, by decide⟩) z_mv hKK hK hw hA hm_mm hf_mm rfl rfl rfl hl.1 rfl (Nat.le_of_ble_eq_true rfl) dX10_driveLine_208 ⟨by decide, by decide⟩ (fun r268 u H locs hp hw => ?_)
            obtain ⟨L269, f270⟩ := u
            obtain ⟨hsb, hfm, a2_271, k2_272, p2_273, v2_274, b2_275, q2_276, w2_277, ha_0, hp⟩ := hp
            have hsb : L = L269 := hsb
            subst hsb
            have hsb : ∀ b ∈ L, b ∈ L := fun _ h => h
            have hw : z_H D vwCl (z_A L sz) s.heap L f270 H locs := hw
            have hfr : ∀ b ∈ L, b ≠ mm → b ≠ ha → b ≠ dr → f270 b = f b := fun b hb h0 h1 h2 => (hfm b hb h0).trans (hfr b hb h0 h1 h2)
            have hf_ta : f270 ta = .inl (cy 0, 1600, .inl gta) := (hfm ta hm_ta (z_tne hf_ta hf_mm (m := 12900) (n := 10) rfl rfl (by decide))).trans hf_ta
            have hf_ha : f270 ha = .inl (cy 1, 30, .inl gha) := (hfm ha hm_ha (z_tne hf_ha hf_mm (m := 340) (n := 10) rfl rfl (by decide))).trans hf_ha
            have hf_dr : f270 dr = .inl (cy 1, 520, .inl g119) := (hfm dr hm_dr (z_tne hf_dr hf_mm (m := 4260) (n := 10) rfl rfl (by decide))).trans hf_dr
            have hf_mm : f270 mm = .inr (10, [.int m0, .ref wd, .ref my, .ref ce, .ref mv, .ref ta, .int m6, .int a2_271, .int k2_272, .int p2_273, .int v2_274, .long w2_277, .int b2_275, .int q2_276, .int m14, .int m15, .ref li, .ref ha, .ref lw, .ref st, .ref fo, .ref dr, .int m22, .ref ik, .int m24, .int m25, .long m26, .int m27, .int m28, .ref ro, .int m30, .ref ct, .ref se, .ref th, .ref cn, .ref be, .int m36, .ref du, .int m38, .ref db, .int m40, .int m41, .int m42, .ref pn, .ref wg, .ref wh, .ref tn, .ref he, .int m48, .ref tr, .ref fd, .ref po, .int m52, .int m53]) := ha_0
            have hR_r268 : 0 ≤ r268.toInt ∧ r268.toInt ≤ 4 := by omega
            have hC_ : (0 ≤ a2_271.toInt ∧ a2_271.toInt ≤ m6.toInt) ∧ m7.toInt ≤ a2_271.toInt ∧ (b2_275.toInt ≠ 0 ∨ m12.toInt = 0) ∧ ((a2_271.toInt = m7.toInt ∧ k2_272.toInt = m8.toInt) ∨ k2_272.toInt ≠ 3 ∨ m7.toInt < a2_271.toInt) := by refine ⟨⟨?_, ?_⟩, ?_, ?_, ?_⟩ <;> omega
            clear hp
            replace hC := hC_
            clear hC_
            refine z_iast hx hb hK hw 1 hm_dr hf_dr rfl (z_ix i_w262 (by omega)) dX10_driveLine_211 (fun H locs hw => ?_)
            obtain ⟨f279, e_f279⟩ : ∃ z, z = va_up f270 dr (.inl (cy 1, 520, .inl (upd g119 w262.toNatClampNeg r268))) := ⟨_, rfl⟩
            rw [← e_f279] at hw
            have hf_mm : f279 mm = .inr (10, [.int m0, .ref wd, .ref my, .ref ce, .ref mv, .ref ta, .int m6, .int a2_271, .int k2_272, .int p2_273, .int v2_274, .long w2_277, .int b2_275, .int q2_276, .int m14, .int m15, .ref li, .ref ha, .ref lw, .ref st, .ref fo, .ref dr, .int m22, .ref ik, .int m24, .int m25, .long m26, .int m27, .int m28, .ref ro, .int m30, .ref ct, .ref se, .ref th, .ref cn, .ref be, .int m36, .ref du, .int m38, .ref db, .int m40, .int m41, .int m42, .ref pn, .ref wg, .ref wh, .ref tn, .ref he, .int m48, .ref tr, .ref fd, .ref po, .int m52, .int m53]) := (congrFun e_f279 mm).trans (z_up_ne (z_tne hf_mm hf_dr (m := 10) (n := 4260) rfl rfl (by decide)) hf_mm)
            have hf_ta : f279 ta = .inl (cy 0, 1600, .inl gta) := (congrFun e_f279 ta).trans (z_up_ne (z_tne hf_ta hf_dr (m := 12900) (n := 4260) rfl rfl (by decide)) hf_ta)
            have hf_ha : f279 ha = .inl (cy 1, 30, .inl gha) := (congrFun e_f279 ha).trans (z_up_ne (z_tne hf_ha hf_dr (m := 340) (n := 4260) rfl rfl (by decide)) hf_ha)
            have hf_dr : f279 dr = .inl (cy 1, 520, .inl (upd g119 w262.toNatClampNeg r268)) := (congrFun e_f279 dr).trans z_up_self
            have hfr : ∀ b ∈ L, b ≠ mm → b ≠ ha → b ≠ dr → f279 b = f b := fun b hb h0 h1 h2 => (congrFun e_f279 b).trans (z_up_ne h2 (hfr b hb h0 h1 h2))
            obtain ⟨g278, e_g278⟩ : ∃ z, z = (upd g119 w262.toNatClampNeg r268) := ⟨_, rfl⟩
            rw [← e_g278] at hf_dr
            have hq_dr : ∀ j : Nat, q_drv j (g278 j) := z_updQ hq_dr e_g278 (show q_drv _ _ from z_drS6 (z_mod8 i_w262 (by omega)) (show 0 ≤ (r268 : Int32).toInt ∧ (r268 : Int32).toInt ≤ 4 by first | decide | omega))
            refine lv_aload_n hx hb dX10_driveLine_212 rfl (lv_at hl 2 rfl) ?_
            refine z_get (C := RX10) (T := TX10) (N := 54) (ci := 10) (v := .ref dr) hx hb hT zin_X10 hown hK hw hm_mm hf_mm rfl 21 (by decide) (hT _ kw_1189) rfl dX10_driveLine_213 ?_
            refine lv_iload_n hx hb dX10_driveLine_216 rfl (lv_at hl 1 rfl) ?_
            refine lv_bipush (v := 7) hx hb dX10_driveLine_217 (by decide) ?_
            refine lv_iadd hx hb dX10_driveLine_219 ?_
            refine lv_topi (fun w280 e_w280 => ?_)
            have i_w280 : w280.toInt = ((8 * (52 + r2.toInt)) + 7) := z_add e_w280 i_w5 (show (7 : Int32).toInt = 7 by decide) (by omega)
            refine lv_aload_n hx hb dX10_driveLine_220 rfl (lv_at hl 2 rfl) ?_
            refine lv_ldc2 (v := 237281) hx hb hown (hT _ kw_1448) dX10_driveLine_221 ?_
            have hz281 := (show (237281 : Int64).toInt = 237281 by decide)
            refine z_calliV (cells := 0) (slots := 0) (b := mm) (As := [.long 237281]) (rest := [.int w280, .ref dr]) (ci := 10) (q0 := (RX10, TX10, 54)) ⟨hx, hb, hml, hown, hT⟩ (c_X10_takes l hm_mm hm_ta hf_mm hf_ta (by first | omega | decide | assumption) (by first | omega | decide | assumption)) (cwV 1 hT (z_goodV (fun _ h => h) kw_1403 kw_1405 kw_38 kw_96 kw_1406) rfl rfl rfl (by decide +kernel) ⟨by decide, by decide⟩) z_mv hKK hK hw hA hm_mm hf_mm rfl rfl rfl hl.1 rfl (Nat.le_of_ble_eq_true rfl) dX10_driveLine_224 ⟨by decide, by decide⟩ (fun r282 u H locs hp hw => ?_)
            obtain ⟨L283, f284⟩ := u
            obtain ⟨hsb, hfm, a2_285, k2_286, p2_287, v2_288, w2_289, ha_0, hp⟩ := hp
            have hsb : L = L283 := hsb
            subst hsb
            have hsb : ∀ b ∈ L, b ∈ L := fun _ h => h
            have hw : z_H D vwCl (z_A L sz) s.heap L f284 H locs := hw
            have hfr : ∀ b ∈ L, b ≠ mm → b ≠ ha → b ≠ dr → f284 b = f b := fun b hb h0 h1 h2 => (hfm b hb h0).trans (hfr b hb h0 h1 h2)
            have hf_ta : f284 ta = .inl (cy 0, 1600, .inl gta) := (hfm ta hm_ta (z_tne hf_ta hf_mm (m := 12900) (n := 10) rfl rfl (by decide))).trans hf_ta
            have hf_ha : f284 ha = .inl (cy 1, 30, .inl gha) := (hfm ha hm_ha (z_tne hf_ha hf_mm (m := 340) (n := 10) rfl rfl (by decide))).trans hf_ha
            have hf_dr : f284 dr = .inl (cy 1, 520, .inl g278) := (hfm dr hm_dr (z_tne hf_dr hf_mm (m := 4260) (n := 10) rfl rfl (by decide))).trans hf_dr
            have hf_mm : f284 mm = .inr (10, [.int m0, .ref wd, .ref my, .ref ce, .ref mv, .ref ta, .int m6, .int a2_285, .int k2_286, .int p2_287, .int v2_288, .long w2_289, .int b2_275, .int q2_276, .int m14, .int m15, .ref li, .ref ha, .ref lw, .ref st, .ref fo, .ref dr, .int m22, .ref ik, .int m24, .int m25, .long m26, .int m27, .int m28, .ref ro, .int m30, .ref ct, .ref se, .ref th, .ref cn, .ref be, .int m36, .ref du, .int m38, .ref db, .int m40, .int m41, .int m42, .ref pn, .ref wg, .ref wh, .ref tn, .ref he, .int m48, .ref tr, .ref fd, .ref po, .int m52, .int m53]) := ha_0
            have hC_ : (0 ≤ a2_285.toInt ∧ a2_285.toInt ≤ m6.toInt) ∧ m7.toInt ≤ a2_285.toInt ∧ (b2_275.toInt ≠ 0 ∨ m12.toInt = 0) ∧ ((a2_285.toInt = m7.toInt ∧ k2_286.toInt = m8.toInt) ∨ k2_286.toInt ≠ 3 ∨ m7.toInt < a2_285.toInt) := by refine ⟨⟨?_, ?_⟩, ?_, ?_, ?_⟩ <;> omega
            replace hp : (r282 = 1 ∧ True) ∨ (r282 = 0 ∧ True) := hp.1.elim (fun h => Or.inl ⟨h.1, trivial⟩) (fun h => Or.inr ⟨h.1, trivial⟩)
            replace hC := hC_
            clear hC_
            rcases hp with ⟨rfl, h290⟩ | ⟨rfl, h290⟩
            · skip
              refine z_if_eq (tgt := 234) hx hb (show (1 : Int32).toInt = 1 by decide) dX10_driveLine_227 (by decide) (fun h => absurd h (by decide)) (fun _ => ?_)
              refine lv_iconst (v := 1) hx hb dX10_driveLine_230 (by decide) ?_
              refine lv_goto (tgt := 235) hx hb dX10_driveLine_231 (by decide) ?_
              refine z_iast hx hb hK hw 1 hm_dr hf_dr rfl (z_ix i_w280 (by omega)) dX10_driveLine_235 (fun H locs hw => ?_)
              obtain ⟨f292, e_f292⟩ : ∃ z, z = va_up f284 dr (.inl (cy 1, 520, .inl (upd g278 w280.toNatClampNeg 1))) := ⟨_, rfl⟩
              rw [← e_f292] at hw
              have hf_mm : f292 mm = .inr (10, [.int m0, .ref wd, .ref my, .ref ce, .ref mv, .ref ta, .int m6, .int a2_285, .int k2_286, .int p2_287, .int v2_288, .long w2_289, .int b2_275, .int q2_276, .int m14, .int m15, .ref li, .ref ha, .ref lw, .ref st, .ref fo, .ref dr, .int m22, .ref ik, .int m24, .int m25, .long m26, .int m27, .int m28, .ref ro, .int m30, .ref ct, .ref se, .ref th, .ref cn, .ref be, .int m36, .ref du, .int m38, .ref db, .int m40, .int m41, .int m42, .ref pn, .ref wg, .ref wh, .ref tn, .ref he, .int m48, .ref tr, .ref fd, .ref po, .int m52, .int m53]) := (congrFun e_f292 mm).trans (z_up_ne (z_tne hf_mm hf_dr (m := 10) (n := 4260) rfl rfl (by decide)) hf_mm)
              have hf_ta : f292 ta = .inl (cy 0, 1600, .inl gta) := (congrFun e_f292 ta).trans (z_up_ne (z_tne hf_ta hf_dr (m := 12900) (n := 4260) rfl rfl (by decide)) hf_ta)
              have hf_ha : f292 ha = .inl (cy 1, 30, .inl gha) := (congrFun e_f292 ha).trans (z_up_ne (z_tne hf_ha hf_dr (m := 340) (n := 4260) rfl rfl (by decide)) hf_ha)
              have hf_dr : f292 dr = .inl (cy 1, 520, .inl (upd g278 w280.toNatClampNeg 1)) := (congrFun e_f292 dr).trans z_up_self
              have hfr : ∀ b ∈ L, b ≠ mm → b ≠ ha → b ≠ dr → f292 b = f b := fun b hb h0 h1 h2 => (congrFun e_f292 b).trans (z_up_ne h2 (hfr b hb h0 h1 h2))
              obtain ⟨g291, e_g291⟩ : ∃ z, z = (upd g278 w280.toNatClampNeg 1) := ⟨_, rfl⟩
              rw [← e_g291] at hf_dr
              have hq_dr : ∀ j : Nat, q_drv j (g291 j) := z_updQ hq_dr e_g291 (show q_drv _ _ from z_drS7 (z_mod8 i_w280 (by omega)) (show 0 ≤ (1 : Int32).toInt ∧ (1 : Int32).toInt ≤ 1 by first | decide | omega))
              refine lv_aload_n hx hb dX10_driveLine_236 rfl (lv_at hl 2 rfl) ?_
              refine z_get (C := RX10) (T := TX10) (N := 54) (ci := 10) (v := .ref ha) hx hb hT zin_X10 hown hK hw hm_mm hf_mm rfl 17 (by decide) (hT _ kw_1185) rfl dX10_driveLine_237 ?_
              refine lv_bipush (v := 27) hx hb dX10_driveLine_240 (by decide) ?_
              refine lv_dup2_11 hx hb dX10_driveLine_242 rfl rfl ?_
              refine z_iald hx hb hK hw 1 hm_ha hf_ha rfl (z_ix (show (27 : Int32).toInt = 27 by decide) (by decide)) dX10_driveLine_243 ?_
              refine lv_topi (fun w293 e_w293 => ?_)
              have hv_w293 : 0 ≤ w293.toInt ∧ w293.toInt ≤ 12 := by rw [e_w293]; exact (hq_ha _).1.2.2.2 rfl
              have h11 : w293.toInt ≤ 11 := by rw [e_w293]; exact hd11
              refine lv_iconst (v := 1) hx hb dX10_driveLine_244 (by decide) ?_
              refine lv_iadd hx hb dX10_driveLine_245 ?_
              refine lv_topi (fun w294 e_w294 => ?_)
              have i_w294 : w294.toInt = (w293.toInt + 1) := z_add e_w294 rfl (show (1 : Int32).toInt = 1 by decide) (by omega)
              refine z_iast hx hb hK hw 1 hm_ha hf_ha rfl (z_ix (show (27 : Int32).toInt = 27 by decide) (by decide)) dX10_driveLine_246 (fun H locs hw => ?_)
              obtain ⟨f296, e_f296⟩ : ∃ z, z = va_up f292 ha (.inl (cy 1, 30, .inl (upd gha (27 : Int32).toNatClampNeg w294))) := ⟨_, rfl⟩
              rw [← e_f296] at hw
              have hf_mm : f296 mm = .inr (10, [.int m0, .ref wd, .ref my, .ref ce, .ref mv, .ref ta, .int m6, .int a2_285, .int k2_286, .int p2_287, .int v2_288, .long w2_289, .int b2_275, .int q2_276, .int m14, .int m15, .ref li, .ref ha, .ref lw, .ref st, .ref fo, .ref dr, .int m22, .ref ik, .int m24, .int m25, .long m26, .int m27, .int m28, .ref ro, .int m30, .ref ct, .ref se, .ref th, .ref cn, .ref be, .int m36, .ref du, .int m38, .ref db, .int m40, .int m41, .int m42, .ref pn, .ref wg, .ref wh, .ref tn, .ref he, .int m48, .ref tr, .ref fd, .ref po, .int m52, .int m53]) := (congrFun e_f296 mm).trans (z_up_ne (z_tne hf_mm hf_ha (m := 10) (n := 340) rfl rfl (by decide)) hf_mm)
              have hf_ta : f296 ta = .inl (cy 0, 1600, .inl gta) := (congrFun e_f296 ta).trans (z_up_ne (z_tne hf_ta hf_ha (m := 12900) (n := 340) rfl rfl (by decide)) hf_ta)
              have hf_dr : f296 dr = .inl (cy 1, 520, .inl g291) := (congrFun e_f296 dr).trans (z_up_ne (z_tne hf_dr hf_ha (m := 4260) (n := 340) rfl rfl (by decide)) hf_dr)
              have hf_ha : f296 ha = .inl (cy 1, 30, .inl (upd gha (27 : Int32).toNatClampNeg w294)) := (congrFun e_f296 ha).trans z_up_self
              have hfr : ∀ b ∈ L, b ≠ mm → b ≠ ha → b ≠ dr → f296 b = f b := fun b hb h0 h1 h2 => (congrFun e_f296 b).trans (z_up_ne h1 (hfr b hb h0 h1 h2))
              obtain ⟨g295, e_g295⟩ : ∃ z, z = (upd gha (27 : Int32).toNatClampNeg w294) := ⟨_, rfl⟩
              rw [← e_g295] at hf_ha
              have hq_ha : ∀ j : Nat, (q_hasR hz) j (g295 j) := z_updQ hq_ha e_g295 (show q_hasR _ _ _ from ⟨(show q_has _ _ from ⟨(fun h => absurd h (by decide)), (fun h => absurd h (by decide)), (fun h => absurd h (by decide)), (fun _ => (show 0 ≤ (w294 : Int32).toInt ∧ (w294 : Int32).toInt ≤ 12 by first | decide | omega))⟩), fun h => absurd h (by decide)⟩)
              exact z_vret hx hb hr hlk (by decide) (by decide) hw (⟨hsub, hfr, a2_285, k2_286, p2_287, v2_288, b2_275, q2_276, w2_289, g295, g291, hf_mm, hf_ha, hf_dr, hq_ha, hq_dr, by omega, by omega, by omega, by omega⟩) dX10_driveLine_247
            · skip
              refine z_if_eq (tgt := 234) hx hb (show (0 : Int32).toInt = 0 by decide) dX10_driveLine_227 (by decide) (fun _ => ?_) (fun h => absurd h (by decide))
              refine lv_iconst (v := 0) hx hb dX10_driveLine_234 (by decide) ?_
              refine z_iast hx hb hK hw 1 hm_dr hf_dr rfl (z_ix i_w280 (by omega)) dX10_driveLine_235 (fun H locs hw => ?_)
              obtain ⟨f298, e_f298⟩ : ∃ z, z = va_up f284 dr (.inl (cy 1, 520, .inl (upd g278 w280.toNatClampNeg 0))) := ⟨_, rfl⟩
              rw [← e_f298] at hw
              have hf_mm : f298 mm = .inr (10, [.int m0, .ref wd, .ref my, .ref ce, .ref mv, .ref ta, .int m6, .int a2_285, .int k2_286, .int p2_287, .int v2_288, .long w2_289, .int b2_275, .int q2_276, .int m14, .int m15, .ref li, .ref ha, .ref lw, .ref st, .ref fo, .ref dr, .int m22, .ref ik, .int m24, .int m25, .long m26, .int m27, .int m28, .ref ro, .int m30, .ref ct, .ref se, .ref th, .ref cn, .ref be, .int m36, .ref du, .int m38, .ref db, .int m40, .int m41, .int m42, .ref pn, .ref wg, .ref wh, .ref tn, .ref he, .int m48, .ref tr, .ref fd, .ref po, .int m52, .int m53]) := (congrFun e_f298 mm).trans (z_up_ne (z_tne hf_mm hf_dr (m := 10) (n := 4260) rfl rfl (by decide)) hf_mm)
              have hf_ta : f298 ta = .inl (cy 0, 1600, .inl gta) := (congrFun e_f298 ta).trans (z_up_ne (z_tne hf_ta hf_dr (m := 12900) (n := 4260) rfl rfl (by decide)) hf_ta)
              have hf_ha : f298 ha = .inl (cy 1, 30, .inl gha) := (congrFun e_f298 ha).trans (z_up_ne (z_tne hf_ha hf_dr (m := 340) (n := 4260) rfl rfl (by decide)) hf_ha)
              have hf_dr : f298 dr = .inl (cy 1, 520, .inl (upd g278 w280.toNatClampNeg 0)) := (congrFun e_f298 dr).trans z_up_self
              have hfr : ∀ b ∈ L, b ≠ mm → b ≠ ha → b ≠ dr → f298 b = f b := fun b hb h0 h1 h2 => (congrFun e_f298 b).trans (z_up_ne h2 (hfr b hb h0 h1 h2))
              obtain ⟨g297, e_g297⟩ : ∃ z, z = (upd g278 w280.toNatClampNeg 0) := ⟨_, rfl⟩
              rw [← e_g297] at hf_dr
              have hq_dr : ∀ j : Nat, q_drv j (g297 j) := z_updQ hq_dr e_g297 (show q_drv _ _ from z_drS7 (z_mod8 i_w280 (by omega)) (show 0 ≤ (0 : Int32).toInt ∧ (0 : Int32).toInt ≤ 1 by first | decide | omega))
              refine lv_aload_n hx hb dX10_driveLine_236 rfl (lv_at hl 2 rfl) ?_
              refine z_get (C := RX10) (T := TX10) (N := 54) (ci := 10) (v := .ref ha) hx hb hT zin_X10 hown hK hw hm_mm hf_mm rfl 17 (by decide) (hT _ kw_1185) rfl dX10_driveLine_237 ?_
              refine lv_bipush (v := 27) hx hb dX10_driveLine_240 (by decide) ?_
              refine lv_dup2_11 hx hb dX10_driveLine_242 rfl rfl ?_
              refine z_iald hx hb hK hw 1 hm_ha hf_ha rfl (z_ix (show (27 : Int32).toInt = 27 by decide) (by decide)) dX10_driveLine_243 ?_
              refine lv_topi (fun w299 e_w299 => ?_)
              have hv_w299 : 0 ≤ w299.toInt ∧ w299.toInt ≤ 12 := by rw [e_w299]; exact (hq_ha _).1.2.2.2 rfl
              have h11 : w299.toInt ≤ 11 := by rw [e_w299]; exact hd11
              refine lv_iconst (v := 1) hx hb dX10_driveLine_244 (by decide) ?_
              refine lv_iadd hx hb dX10_driveLine_245 ?_
              refine lv_topi (fun w300 e_w300 => ?_)
              have i_w300 : w300.toInt = (w299.toInt + 1) := z_add e_w300 rfl (show (1 : Int32).toInt = 1 by decide) (by omega)
              refine z_iast hx hb hK hw 1 hm_ha hf_ha rfl (z_ix (show (27 : Int32).toInt = 27 by decide) (by decide)) dX10_driveLine_246 (fun H locs hw => ?_)
              obtain ⟨f302, e_f302⟩ : ∃ z, z = va_up f298 ha (.inl (cy 1, 30, .inl (upd gha (27 : Int32).toNatClampNeg w300))) := ⟨_, rfl⟩
              rw [← e_f302] at hw
              have hf_mm : f302 mm = .inr (10, [.int m0, .ref wd, .ref my, .ref ce, .ref mv, .ref ta, .int m6, .int a2_285, .int k2_286, .int p2_287, .int v2_288, .long w2_289, .int b2_275, .int q2_276, .int m14, .int m15, .ref li, .ref ha, .ref lw, .ref st, .ref fo, .ref dr, .int m22, .ref ik, .int m24, .int m25, .long m26, .int m27, .int m28, .ref ro, .int m30, .ref ct, .ref se, .ref th, .ref cn, .ref be, .int m36, .ref du, .int m38, .ref db, .int m40, .int m41, .int m42, .ref pn, .ref wg, .ref wh, .ref tn, .ref he, .int m48, .ref tr, .ref fd, .ref po, .int m52, .int m53]) := (congrFun e_f302 mm).trans (z_up_ne (z_tne hf_mm hf_ha (m := 10) (n := 340) rfl rfl (by decide)) hf_mm)
              have hf_ta : f302 ta = .inl (cy 0, 1600, .inl gta) := (congrFun e_f302 ta).trans (z_up_ne (z_tne hf_ta hf_ha (m := 12900) (n := 340) rfl rfl (by decide)) hf_ta)
              have hf_dr : f302 dr = .inl (cy 1, 520, .inl g297) := (congrFun e_f302 dr).trans (z_up_ne (z_tne hf_dr hf_ha (m := 4260) (n := 340) rfl rfl (by decide)) hf_dr)
              have hf_ha : f302 ha = .inl (cy 1, 30, .inl (upd gha (27 : Int32).toNatClampNeg w300)) := (congrFun e_f302 ha).trans z_up_self
              have hfr : ∀ b ∈ L, b ≠ mm → b ≠ ha → b ≠ dr → f302 b = f b := fun b hb h0 h1 h2 => (congrFun e_f302 b).trans (z_up_ne h1 (hfr b hb h0 h1 h2))
              obtain ⟨g301, e_g301⟩ : ∃ z, z = (upd gha (27 : Int32).toNatClampNeg w300) := ⟨_, rfl⟩
              rw [← e_g301] at hf_ha
              have hq_ha : ∀ j : Nat, (q_hasR hz) j (g301 j) := z_updQ hq_ha e_g301 (show q_hasR _ _ _ from ⟨(show q_has _ _ from ⟨(fun h => absurd h (by decide)), (fun h => absurd h (by decide)), (fun h => absurd h (by decide)), (fun _ => (show 0 ≤ (w300 : Int32).toInt ∧ (w300 : Int32).toInt ≤ 12 by first | decide | omega))⟩), fun h => absurd h (by decide)⟩)
              exact z_vret hx hb hr hlk (by decide) (by decide) hw (⟨hsub, hfr, a2_285, k2_286, p2_287, v2_288, b2_275, q2_276, w2_289, g301, g297, hf_mm, hf_ha, hf_dr, hq_ha, hq_dr, by omega, by omega, by omega, by omega⟩) dX10_driveLine_247
    · skip
      refine z_if_eq (tgt := 212) hx hb (show (0 : Int32).toInt = 0 by decide) dX10_driveLine_160 (by decide) (fun _ => ?_) (fun h => absurd h (by decide))
      refine lv_aload_n hx hb dX10_driveLine_212 rfl (lv_at hl 2 rfl) ?_
      refine z_get (C := RX10) (T := TX10) (N := 54) (ci := 10) (v := .ref dr) hx hb hT zin_X10 hown hK hw hm_mm hf_mm rfl 21 (by decide) (hT _ kw_1189) rfl dX10_driveLine_213 ?_
      refine lv_iload_n hx hb dX10_driveLine_216 rfl (lv_at hl 1 rfl) ?_
      refine lv_bipush (v := 7) hx hb dX10_driveLine_217 (by decide) ?_
      refine lv_iadd hx hb dX10_driveLine_219 ?_
      refine lv_topi (fun w303 e_w303 => ?_)
      have i_w303 : w303.toInt = ((8 * (52 + r2.toInt)) + 7) := z_add e_w303 i_w5 (show (7 : Int32).toInt = 7 by decide) (by omega)
      refine lv_aload_n hx hb dX10_driveLine_220 rfl (lv_at hl 2 rfl) ?_
      refine lv_ldc2 (v := 237281) hx hb hown (hT _ kw_1448) dX10_driveLine_221 ?_
      have hz304 := (show (237281 : Int64).toInt = 237281 by decide)
      refine z_calliV (cells := 0) (slots := 0) (b := mm) (As := [.long 237281]) (rest := [.int w303, .ref dr]) (ci := 10) (q0 := (RX10, TX10, 54)) ⟨hx, hb, hml, hown, hT⟩ (c_X10_takes l hm_mm hm_ta hf_mm hf_ta (by first | omega | decide | assumption) (by first | omega | decide | assumption)) (cwV 1 hT (z_goodV (fun _ h => h) kw_1403 kw_1405 kw_38 kw_96 kw_1406) rfl rfl rfl (by decide +kernel) ⟨by decide, by decide⟩) z_mv hKK hK hw hA hm_mm hf_mm rfl rfl rfl hl.1 rfl (Nat.le_of_ble_eq_true rfl) dX10_driveLine_224 ⟨by decide, by decide⟩ (fun r305 u H locs hp hw => ?_)
      obtain ⟨L306, f307⟩ := u
      obtain ⟨hsb, hfm, a2_308, k2_309, p2_310, v2_311, w2_312, ha_0, hp⟩ := hp
      have hsb : L = L306 := hsb
      subst hsb
      have hsb : ∀ b ∈ L, b ∈ L := fun _ h => h
      have hw : z_H D vwCl (z_A L sz) s.heap L f307 H locs := hw
      have hfr : ∀ b ∈ L, b ≠ mm → b ≠ ha → b ≠ dr → f307 b = f b := fun b hb h0 h1 h2 => (hfm b hb h0).trans (hfr b hb h0 h1 h2)
      have hf_ta : f307 ta = .inl (cy 0, 1600, .inl gta) := (hfm ta hm_ta (z_tne hf_ta hf_mm (m := 12900) (n := 10) rfl rfl (by decide))).trans hf_ta
      have hf_ha : f307 ha = .inl (cy 1, 30, .inl gha) := (hfm ha hm_ha (z_tne hf_ha hf_mm (m := 340) (n := 10) rfl rfl (by decide))).trans hf_ha
      have hf_dr : f307 dr = .inl (cy 1, 520, .inl g119) := (hfm dr hm_dr (z_tne hf_dr hf_mm (m := 4260) (n := 10) rfl rfl (by decide))).trans hf_dr
      have hf_mm : f307 mm = .inr (10, [.int m0, .ref wd, .ref my, .ref ce, .ref mv, .ref ta, .int m6, .int a2_308, .int k2_309, .int p2_310, .int v2_311, .long w2_312, .int b2_113, .int q2_114, .int m14, .int m15, .ref li, .ref ha, .ref lw, .ref st, .ref fo, .ref dr, .int m22, .ref ik, .int m24, .int m25, .long m26, .int m27, .int m28, .ref ro, .int m30, .ref ct, .ref se, .ref th, .ref cn, .ref be, .int m36, .ref du, .int m38, .ref db, .int m40, .int m41, .int m42, .ref pn, .ref wg, .ref wh, .ref tn, .ref he, .int m48, .ref tr, .ref fd, .ref po, .int m52, .int m53]) := ha_0
      have hC_ : (0 ≤ a2_308.toInt ∧ a2_308.toInt ≤ m6.toInt) ∧ m7.toInt ≤ a2_308.toInt ∧ (b2_113.toInt ≠ 0 ∨ m12.toInt = 0) ∧ ((a2_308.toInt = m7.toInt ∧ k2_309.toInt = m8.toInt) ∨ k2_309.toInt ≠ 3 ∨ m7.toInt < a2_308.toInt) := by refine ⟨⟨?_, ?_⟩, ?_, ?_, ?_⟩ <;> omega
      replace hp : (r305 = 1 ∧ True) ∨ (r305 = 0 ∧ True) := hp.1.elim (fun h => Or.inl ⟨h.1, trivial⟩) (fun h => Or.inr ⟨h.1, trivial⟩)
      replace hC := hC_
      clear hC_
      rcases hp with ⟨rfl, h313⟩ | ⟨rfl, h313⟩
      · skip
        refine z_if_eq (tgt := 234) hx hb (show (1 : Int32).toInt = 1 by decide) dX10_driveLine_227 (by decide) (fun h => absurd h (by decide)) (fun _ => ?_)
        refine lv_iconst (v := 1) hx hb dX10_driveLine_230 (by decide) ?_
        refine lv_goto (tgt := 235) hx hb dX10_driveLine_231 (by decide) ?_
        refine z_iast hx hb hK hw 1 hm_dr hf_dr rfl (z_ix i_w303 (by omega)) dX10_driveLine_235 (fun H locs hw => ?_)
        obtain ⟨f315, e_f315⟩ : ∃ z, z = va_up f307 dr (.inl (cy 1, 520, .inl (upd g119 w303.toNatClampNeg 1))) := ⟨_, rfl⟩
        rw [← e_f315] at hw
        have hf_mm : f315 mm = .inr (10, [.int m0, .ref wd, .ref my, .ref ce, .ref mv, .ref ta, .int m6, .int a2_308, .int k2_309, .int p2_310, .int v2_311, .long w2_312, .int b2_113, .int q2_114, .int m14, .int m15, .ref li, .ref ha, .ref lw, .ref st, .ref fo, .ref dr, .int m22, .ref ik, .int m24, .int m25, .long m26, .int m27, .int m28, .ref ro, .int m30, .ref ct, .ref se, .ref th, .ref cn, .ref be, .int m36, .ref du, .int m38, .ref db, .int m40, .int m41, .int m42, .ref pn, .ref wg, .ref wh, .ref tn, .ref he, .int m48, .ref tr, .ref fd, .ref po, .int m52, .int m53]) := (congrFun e_f315 mm).trans (z_up_ne (z_tne hf_mm hf_dr (m := 10) (n := 4260) rfl rfl (by decide)) hf_mm)
        have hf_ta : f315 ta = .inl (cy 0, 1600, .inl gta) := (congrFun e_f315 ta).trans (z_up_ne (z_tne hf_ta hf_dr (m := 12900) (n := 4260) rfl rfl (by decide)) hf_ta)
        have hf_ha : f315 ha = .inl (cy 1, 30, .inl gha) := (congrFun e_f315 ha).trans (z_up_ne (z_tne hf_ha hf_dr (m := 340) (n := 4260) rfl rfl (by decide)) hf_ha)
        have hf_dr : f315 dr = .inl (cy 1, 520, .inl (upd g119 w303.toNatClampNeg 1)) := (congrFun e_f315 dr).trans z_up_self
        have hfr : ∀ b ∈ L, b ≠ mm → b ≠ ha → b ≠ dr → f315 b = f b := fun b hb h0 h1 h2 => (congrFun e_f315 b).trans (z_up_ne h2 (hfr b hb h0 h1 h2))
        obtain ⟨g314, e_g314⟩ : ∃ z, z = (upd g119 w303.toNatClampNeg 1) := ⟨_, rfl⟩
        rw [← e_g314] at hf_dr
        have hq_dr : ∀ j : Nat, q_drv j (g314 j) := z_updQ hq_dr e_g314 (show q_drv _ _ from z_drS7 (z_mod8 i_w303 (by omega)) (show 0 ≤ (1 : Int32).toInt ∧ (1 : Int32).toInt ≤ 1 by first | decide | omega))
        refine lv_aload_n hx hb dX10_driveLine_236 rfl (lv_at hl 2 rfl) ?_
        refine z_get (C := RX10) (T := TX10) (N := 54) (ci := 10) (v := .ref ha) hx hb hT zin_X10 hown hK hw hm_mm hf_mm rfl 17 (by decide) (hT _ kw_1185) rfl dX10_driveLine_237 ?_
        refine lv_bipush (v := 27) hx hb dX10_driveLine_240 (by decide) ?_
        refine lv_dup2_11 hx hb dX10_driveLine_242 rfl rfl ?_
        refine z_iald hx hb hK hw 1 hm_ha hf_ha rfl (z_ix (show (27 : Int32).toInt = 27 by decide) (by decide)) dX10_driveLine_243 ?_
        refine lv_topi (fun w316 e_w316 => ?_)
        have hv_w316 : 0 ≤ w316.toInt ∧ w316.toInt ≤ 12 := by rw [e_w316]; exact (hq_ha _).1.2.2.2 rfl
        have h11 : w316.toInt ≤ 11 := by rw [e_w316]; exact hd11
        refine lv_iconst (v := 1) hx hb dX10_driveLine_244 (by decide) ?_
        refine lv_iadd hx hb dX10_driveLine_245 ?_
        refine lv_topi (fun w317 e_w317 => ?_)
        have i_w317 : w317.toInt = (w316.toInt + 1) := z_add e_w317 rfl (show (1 : Int32).toInt = 1 by decide) (by omega)
        refine z_iast hx hb hK hw 1 hm_ha hf_ha rfl (z_ix (show (27 : Int32).toInt = 27 by decide) (by decide)) dX10_driveLine_246 (fun H locs hw => ?_)
        obtain ⟨f319, e_f319⟩ : ∃ z, z = va_up f315 ha (.inl (cy 1, 30, .inl (upd gha (27 : Int32).toNatClampNeg w317))) := ⟨_, rfl⟩
        rw [← e_f319] at hw
        have hf_mm : f319 mm = .inr (10, [.int m0, .ref wd, .ref my, .ref ce, .ref mv, .ref ta, .int m6, .int a2_308, .int k2_309, .int p2_310, .int v2_311, .long w2_312, .int b2_113, .int q2_114, .int m14, .int m15, .ref li, .ref ha, .ref lw, .ref st, .ref fo, .ref dr, .int m22, .ref ik, .int m24, .int m25, .long m26, .int m27, .int m28, .ref ro, .int m30, .ref ct, .ref se, .ref th, .ref cn, .ref be, .int m36, .ref du, .int m38, .ref db, .int m40, .int m41, .int m42, .ref pn, .ref wg, .ref wh, .ref tn, .ref he, .int m48, .ref tr, .ref fd, .ref po, .int m52, .int m53]) := (congrFun e_f319 mm).trans (z_up_ne (z_tne hf_mm hf_ha (m := 10) (n := 340) rfl rfl (by decide)) hf_mm)
        have hf_ta : f319 ta = .inl (cy 0, 1600, .inl gta) := (congrFun e_f319 ta).trans (z_up_ne (z_tne hf_ta hf_ha (m := 12900) (n := 340) rfl rfl (by decide)) hf_ta)
        have hf_dr : f319 dr = .inl (cy 1, 520, .inl g314) := (congrFun e_f319 dr).trans (z_up_ne (z_tne hf_dr hf_ha (m := 4260) (n := 340) rfl rfl (by decide)) hf_dr)
        have hf_ha : f319 ha = .inl (cy 1, 30, .inl (upd gha (27 : Int32).toNatClampNeg w317)) := (congrFun e_f319 ha).trans z_up_self
        have hfr : ∀ b ∈ L, b ≠ mm → b ≠ ha → b ≠ dr → f319 b = f b := fun b hb h0 h1 h2 => (congrFun e_f319 b).trans (z_up_ne h1 (hfr b hb h0 h1 h2))
        obtain ⟨g318, e_g318⟩ : ∃ z, z = (upd gha (27 : Int32).toNatClampNeg w317) := ⟨_, rfl⟩
        rw [← e_g318] at hf_ha
        have hq_ha : ∀ j : Nat, (q_hasR hz) j (g318 j) := z_updQ hq_ha e_g318 (show q_hasR _ _ _ from ⟨(show q_has _ _ from ⟨(fun h => absurd h (by decide)), (fun h => absurd h (by decide)), (fun h => absurd h (by decide)), (fun _ => (show 0 ≤ (w317 : Int32).toInt ∧ (w317 : Int32).toInt ≤ 12 by first | decide | omega))⟩), fun h => absurd h (by decide)⟩)
        exact z_vret hx hb hr hlk (by decide) (by decide) hw (⟨hsub, hfr, a2_308, k2_309, p2_310, v2_311, b2_113, q2_114, w2_312, g318, g314, hf_mm, hf_ha, hf_dr, hq_ha, hq_dr, by omega, by omega, by omega, by omega⟩) dX10_driveLine_247
      · skip
        refine z_if_eq (tgt := 234) hx hb (show (0 : Int32).toInt = 0 by decide) dX10_driveLine_227 (by decide) (fun _ => ?_) (fun h => absurd h (by decide))
        refine lv_iconst (v := 0) hx hb dX10_driveLine_234 (by decide) ?_
        refine z_iast hx hb hK hw 1 hm_dr hf_dr rfl (z_ix i_w303 (by omega)) dX10_driveLine_235 (fun H locs hw => ?_)
        obtain ⟨f321, e_f321⟩ : ∃ z, z = va_up f307 dr (.inl (cy 1, 520, .inl (upd g119 w303.toNatClampNeg 0))) := ⟨_, rfl⟩
        rw [← e_f321] at hw
        have hf_mm : f321 mm = .inr (10, [.int m0, .ref wd, .ref my, .ref ce, .ref mv, .ref ta, .int m6, .int a2_308, .int k2_309, .int p2_310, .int v2_311, .long w2_312, .int b2_113, .int q2_114, .int m14, .int m15, .ref li, .ref ha, .ref lw, .ref st, .ref fo, .ref dr, .int m22, .ref ik, .int m24, .int m25, .long m26, .int m27, .int m28, .ref ro, .int m30, .ref ct, .ref se, .ref th, .ref cn, .ref be, .int m36, .ref du, .int m38, .ref db, .int m40, .int m41, .int m42, .ref pn, .ref wg, .ref wh, .ref tn, .ref he, .int m48, .ref tr, .ref fd, .ref po, .int m52, .int m53]) := (congrFun e_f321 mm).trans (z_up_ne (z_tne hf_mm hf_dr (m := 10) (n := 4260) rfl rfl (by decide)) hf_mm)
        have hf_ta : f321 ta = .inl (cy 0, 1600, .inl gta) := (congrFun e_f321 ta).trans (z_up_ne (z_tne hf_ta hf_dr (m := 12900) (n := 4260) rfl rfl (by decide)) hf_ta)
        have hf_ha : f321 ha = .inl (cy 1, 30, .inl gha) := (congrFun e_f321 ha).trans (z_up_ne (z_tne hf_ha hf_dr (m := 340) (n := 4260) rfl rfl (by decide)) hf_ha)
        have hf_dr : f321 dr = .inl (cy 1, 520, .inl (upd g119 w303.toNatClampNeg 0)) := (congrFun e_f321 dr).trans z_up_self
        have hfr : ∀ b ∈ L, b ≠ mm → b ≠ ha → b ≠ dr → f321 b = f b := fun b hb h0 h1 h2 => (congrFun e_f321 b).trans (z_up_ne h2 (hfr b hb h0 h1 h2))
        obtain ⟨g320, e_g320⟩ : ∃ z, z = (upd g119 w303.toNatClampNeg 0) := ⟨_, rfl⟩
        rw [← e_g320] at hf_dr
        have hq_dr : ∀ j : Nat, q_drv j (g320 j) := z_updQ hq_dr e_g320 (show q_drv _ _ from z_drS7 (z_mod8 i_w303 (by omega)) (show 0 ≤ (0 : Int32).toInt ∧ (0 : Int32).toInt ≤ 1 by first | decide | omega))
        refine lv_aload_n hx hb dX10_driveLine_236 rfl (lv_at hl 2 rfl) ?_
        refine z_get (C := RX10) (T := TX10) (N := 54) (ci := 10) (v := .ref ha) hx hb hT zin_X10 hown hK hw hm_mm hf_mm rfl 17 (by decide) (hT _ kw_1185) rfl dX10_driveLine_237 ?_
        refine lv_bipush (v := 27) hx hb dX10_driveLine_240 (by decide) ?_
        refine lv_dup2_11 hx hb dX10_driveLine_242 rfl rfl ?_
        refine z_iald hx hb hK hw 1 hm_ha hf_ha rfl (z_ix (show (27 : Int32).toInt = 27 by decide) (by decide)) dX10_driveLine_243 ?_
        refine lv_topi (fun w322 e_w322 => ?_)
        have hv_w322 : 0 ≤ w322.toInt ∧ w322.toInt ≤ 12 := by rw [e_w322]; exact (hq_ha _).1.2.2.2 rfl
        have h11 : w322.toInt ≤ 11 := by rw [e_w322]; exact hd11
        refine lv_iconst (v := 1) hx hb dX10_driveLine_244 (by decide) ?_
        refine lv_iadd hx hb dX10_driveLine_245 ?_
        refine lv_topi (fun w323 e_w323 => ?_)
        have i_w323 : w323.toInt = (w322.toInt + 1) := z_add e_w323 rfl (show (1 : Int32).toInt = 1 by decide) (by omega)
        refine z_iast hx hb hK hw 1 hm_ha hf_ha rfl (z_ix (show (27 : Int32).toInt = 27 by decide) (by decide)) dX10_driveLine_246 (fun H locs hw => ?_)
        obtain ⟨f325, e_f325⟩ : ∃ z, z = va_up f321 ha (.inl (cy 1, 30, .inl (upd gha (27 : Int32).toNatClampNeg w323))) := ⟨_, rfl⟩
        rw [← e_f325] at hw
        have hf_mm : f325 mm = .inr (10, [.int m0, .ref wd, .ref my, .ref ce, .ref mv, .ref ta, .int m6, .int a2_308, .int k2_309, .int p2_310, .int v2_311, .long w2_312, .int b2_113, .int q2_114, .int m14, .int m15, .ref li, .ref ha, .ref lw, .ref st, .ref fo, .ref dr, .int m22, .ref ik, .int m24, .int m25, .long m26, .int m27, .int m28, .ref ro, .int m30, .ref ct, .ref se, .ref th, .ref cn, .ref be, .int m36, .ref du, .int m38, .ref db, .int m40, .int m41, .int m42, .ref pn, .ref wg, .ref wh, .ref tn, .ref he, .int m48, .ref tr, .ref fd, .ref po, .int m52, .int m53]) := (congrFun e_f325 mm).trans (z_up_ne (z_tne hf_mm hf_ha (m := 10) (n := 340) rfl rfl (by decide)) hf_mm)
        have hf_ta : f325 ta = .inl (cy 0, 1600, .inl gta) := (congrFun e_f325 ta).trans (z_up_ne (z_tne hf_ta hf_ha (m := 12900) (n := 340) rfl rfl (by decide)) hf_ta)
        have hf_dr : f325 dr = .inl (cy 1, 520, .inl g320) := (congrFun e_f325 dr).trans (z_up_ne (z_tne hf_dr hf_ha (m := 4260) (n := 340) rfl rfl (by decide)) hf_dr)
        have hf_ha : f325 ha = .inl (cy 1, 30, .inl (upd gha (27 : Int32).toNatClampNeg w323)) := (congrFun e_f325 ha).trans z_up_self
        have hfr : ∀ b ∈ L, b ≠ mm → b ≠ ha → b ≠ dr → f325 b = f b := fun b hb h0 h1 h2 => (congrFun e_f325 b).trans (z_up_ne h1 (hfr b hb h0 h1 h2))
        obtain ⟨g324, e_g324⟩ : ∃ z, z = (upd gha (27 : Int32).toNatClampNeg w323) := ⟨_, rfl⟩
        rw [← e_g324] at hf_ha
        have hq_ha : ∀ j : Nat, (q_hasR hz) j (g324 j) := z_updQ hq_ha e_g324 (show q_hasR _ _ _ from ⟨(show q_has _ _ from ⟨(fun h => absurd h (by decide)), (fun h => absurd h (by decide)), (fun h => absurd h (by decide)), (fun _ => (show 0 ≤ (w323 : Int32).toInt ∧ (w323 : Int32).toInt ≤ 12 by first | decide | omega))⟩), fun h => absurd h (by decide)⟩)
        exact z_vret hx hb hr hlk (by decide) (by decide) hw (⟨hsub, hfr, a2_308, k2_309, p2_310, v2_311, b2_113, q2_114, w2_312, g324, g320, hf_mm, hf_ha, hf_dr, hq_ha, hq_dr, by omega, by omega, by omega, by omega⟩) dX10_driveLine_247
  · skip
    refine z_if_eq (tgt := 141) hx hb (show (0 : Int32).toInt = 0 by decide) dX10_driveLine_128 (by decide) (fun _ => ?_) (fun h => absurd h (by decide))
    refine lv_iconst (v := 0) hx hb dX10_driveLine_141 (by decide) ?_
    refine z_iast hx hb hK hw 1 hm_dr hf_dr rfl (z_ix i_w93 (by omega)) dX10_driveLine_142 (fun H locs hw => ?_)
    obtain ⟨f327, e_f327⟩ : ∃ z, z = va_up f97 dr (.inl (cy 1, 520, .inl (upd g91 w93.toNatClampNeg 0))) := ⟨_, rfl⟩
    rw [← e_f327] at hw
    have hf_mm : f327 mm = .inr (10, [.int m0, .ref wd, .ref my, .ref ce, .ref mv, .ref ta, .int m6, .int a2_98, .int k2_99, .int p2_100, .int v2_101, .long w2_102, .int b2_88, .int q2_89, .int m14, .int m15, .ref li, .ref ha, .ref lw, .ref st, .ref fo, .ref dr, .int m22, .ref ik, .int m24, .int m25, .long m26, .int m27, .int m28, .ref ro, .int m30, .ref ct, .ref se, .ref th, .ref cn, .ref be, .int m36, .ref du, .int m38, .ref db, .int m40, .int m41, .int m42, .ref pn, .ref wg, .ref wh, .ref tn, .ref he, .int m48, .ref tr, .ref fd, .ref po, .int m52, .int m53]) := (congrFun e_f327 mm).trans (z_up_ne (z_tne hf_mm hf_dr (m := 10) (n := 4260) rfl rfl (by decide)) hf_mm)
    have hf_ta : f327 ta = .inl (cy 0, 1600, .inl gta) := (congrFun e_f327 ta).trans (z_up_ne (z_tne hf_ta hf_dr (m := 12900) (n := 4260) rfl rfl (by decide)) hf_ta)
    have hf_ha : f327 ha = .inl (cy 1, 30, .inl gha) := (congrFun e_f327 ha).trans (z_up_ne (z_tne hf_ha hf_dr (m := 340) (n := 4260) rfl rfl (by decide)) hf_ha)
    have hf_dr : f327 dr = .inl (cy 1, 520, .inl (upd g91 w93.toNatClampNeg 0)) := (congrFun e_f327 dr).trans z_up_self
    have hfr : ∀ b ∈ L, b ≠ mm → b ≠ ha → b ≠ dr → f327 b = f b := fun b hb h0 h1 h2 => (congrFun e_f327 b).trans (z_up_ne h2 (hfr b hb h0 h1 h2))
    obtain ⟨g326, e_g326⟩ : ∃ z, z = (upd g91 w93.toNatClampNeg 0) := ⟨_, rfl⟩
    rw [← e_g326] at hf_dr
    have hq_dr : ∀ j : Nat, q_drv j (g326 j) := z_updQ hq_dr e_g326 (show q_drv _ _ from z_drS5 (z_mod8 i_w93 (by omega)) (show 0 ≤ (0 : Int32).toInt ∧ (0 : Int32).toInt ≤ 99 by first | decide | omega))
    refine lv_aload_n hx hb dX10_driveLine_143 rfl (lv_at hl 2 rfl) ?_
    refine z_get (C := RX10) (T := TX10) (N := 54) (ci := 10) (v := .ref dr) hx hb hT zin_X10 hown hK hw hm_mm hf_mm rfl 21 (by decide) (hT _ kw_1189) rfl dX10_driveLine_144 ?_
    refine lv_iload_n hx hb dX10_driveLine_147 rfl (lv_at hl 1 rfl) ?_
    refine lv_bipush (v := 6) hx hb dX10_driveLine_148 (by decide) ?_
    refine lv_iadd hx hb dX10_driveLine_150 ?_
    refine lv_topi (fun w328 e_w328 => ?_)
    have i_w328 : w328.toInt = ((8 * (52 + r2.toInt)) + 6) := z_add e_w328 i_w5 (show (6 : Int32).toInt = 6 by decide) (by omega)
    refine lv_iload_n hx hb dX10_driveLine_151 rfl (lv_at hl 0 rfl) ?_
    refine z_iast hx hb hK hw 1 hm_dr hf_dr rfl (z_ix i_w328 (by omega)) dX10_driveLine_152 (fun H locs hw => ?_)
    obtain ⟨f330, e_f330⟩ : ∃ z, z = va_up f327 dr (.inl (cy 1, 520, .inl (upd g326 w328.toNatClampNeg r11))) := ⟨_, rfl⟩
    rw [← e_f330] at hw
    have hf_mm : f330 mm = .inr (10, [.int m0, .ref wd, .ref my, .ref ce, .ref mv, .ref ta, .int m6, .int a2_98, .int k2_99, .int p2_100, .int v2_101, .long w2_102, .int b2_88, .int q2_89, .int m14, .int m15, .ref li, .ref ha, .ref lw, .ref st, .ref fo, .ref dr, .int m22, .ref ik, .int m24, .int m25, .long m26, .int m27, .int m28, .ref ro, .int m30, .ref ct, .ref se, .ref th, .ref cn, .ref be, .int m36, .ref du, .int m38, .ref db, .int m40, .int m41, .int m42, .ref pn, .ref wg, .ref wh, .ref tn, .ref he, .int m48, .ref tr, .ref fd, .ref po, .int m52, .int m53]) := (congrFun e_f330 mm).trans (z_up_ne (z_tne hf_mm hf_dr (m := 10) (n := 4260) rfl rfl (by decide)) hf_mm)
    have hf_ta : f330 ta = .inl (cy 0, 1600, .inl gta) := (congrFun e_f330 ta).trans (z_up_ne (z_tne hf_ta hf_dr (m := 12900) (n := 4260) rfl rfl (by decide)) hf_ta)
    have hf_ha : f330 ha = .inl (cy 1, 30, .inl gha) := (congrFun e_f330 ha).trans (z_up_ne (z_tne hf_ha hf_dr (m := 340) (n := 4260) rfl rfl (by decide)) hf_ha)
    have hf_dr : f330 dr = .inl (cy 1, 520, .inl (upd g326 w328.toNatClampNeg r11)) := (congrFun e_f330 dr).trans z_up_self
    have hfr : ∀ b ∈ L, b ≠ mm → b ≠ ha → b ≠ dr → f330 b = f b := fun b hb h0 h1 h2 => (congrFun e_f330 b).trans (z_up_ne h2 (hfr b hb h0 h1 h2))
    obtain ⟨g329, e_g329⟩ : ∃ z, z = (upd g326 w328.toNatClampNeg r11) := ⟨_, rfl⟩
    rw [← e_g329] at hf_dr
    have hq_dr : ∀ j : Nat, q_drv j (g329 j) := z_updQ hq_dr e_g329 (show q_drv _ _ from z_drS6 (z_mod8 i_w328 (by omega)) (show 0 ≤ (r11 : Int32).toInt ∧ (r11 : Int32).toInt ≤ 4 by first | decide | omega))
    refine lv_aload_n hx hb dX10_driveLine_153 rfl (lv_at hl 2 rfl) ?_
    refine lv_ldc2 (v := 6218149981) hx hb hown (hT _ kw_1447) dX10_driveLine_154 ?_
    have hz331 := (show (6218149981 : Int64).toInt = 6218149981 by decide)
    refine z_calliV (cells := 0) (slots := 0) (b := mm) (As := [.long 6218149981]) (rest := []) (ci := 10) (q0 := (RX10, TX10, 54)) ⟨hx, hb, hml, hown, hT⟩ (c_X10_takes l hm_mm hm_ta hf_mm hf_ta (by first | omega | decide | assumption) (by first | omega | decide | assumption)) (cwV 1 hT (z_goodV (fun _ h => h) kw_1403 kw_1405 kw_38 kw_96 kw_1406) rfl rfl rfl (by decide +kernel) ⟨by decide, by decide⟩) z_mv hKK hK hw hA hm_mm hf_mm rfl rfl rfl hl.1 rfl (Nat.le_of_ble_eq_true rfl) dX10_driveLine_157 ⟨by decide, by decide⟩ (fun r332 u H locs hp hw => ?_)
    obtain ⟨L333, f334⟩ := u
    obtain ⟨hsb, hfm, a2_335, k2_336, p2_337, v2_338, w2_339, ha_0, hp⟩ := hp
    have hsb : L = L333 := hsb
    subst hsb
    have hsb : ∀ b ∈ L, b ∈ L := fun _ h => h
    have hw : z_H D vwCl (z_A L sz) s.heap L f334 H locs := hw
    have hfr : ∀ b ∈ L, b ≠ mm → b ≠ ha → b ≠ dr → f334 b = f b := fun b hb h0 h1 h2 => (hfm b hb h0).trans (hfr b hb h0 h1 h2)
    have hf_ta : f334 ta = .inl (cy 0, 1600, .inl gta) := (hfm ta hm_ta (z_tne hf_ta hf_mm (m := 12900) (n := 10) rfl rfl (by decide))).trans hf_ta
    have hf_ha : f334 ha = .inl (cy 1, 30, .inl gha) := (hfm ha hm_ha (z_tne hf_ha hf_mm (m := 340) (n := 10) rfl rfl (by decide))).trans hf_ha
    have hf_dr : f334 dr = .inl (cy 1, 520, .inl g329) := (hfm dr hm_dr (z_tne hf_dr hf_mm (m := 4260) (n := 10) rfl rfl (by decide))).trans hf_dr
    have hf_mm : f334 mm = .inr (10, [.int m0, .ref wd, .ref my, .ref ce, .ref mv, .ref ta, .int m6, .int a2_335, .int k2_336, .int p2_337, .int v2_338, .long w2_339, .int b2_88, .int q2_89, .int m14, .int m15, .ref li, .ref ha, .ref lw, .ref st, .ref fo, .ref dr, .int m22, .ref ik, .int m24, .int m25, .long m26, .int m27, .int m28, .ref ro, .int m30, .ref ct, .ref se, .ref th, .ref cn, .ref be, .int m36, .ref du, .int m38, .ref db, .int m40, .int m41, .int m42, .ref pn, .ref wg, .ref wh, .ref tn, .ref he, .int m48, .ref tr, .ref fd, .ref po, .int m52, .int m53]) := ha_0
    have hC_ : (0 ≤ a2_335.toInt ∧ a2_335.toInt ≤ m6.toInt) ∧ m7.toInt ≤ a2_335.toInt ∧ (b2_88.toInt ≠ 0 ∨ m12.toInt = 0) ∧ ((a2_335.toInt = m7.toInt ∧ k2_336.toInt = m8.toInt) ∨ k2_336.toInt ≠ 3 ∨ m7.toInt < a2_335.toInt) := by refine ⟨⟨?_, ?_⟩, ?_, ?_, ?_⟩ <;> omega
    replace hp : (r332 = 1 ∧ True) ∨ (r332 = 0 ∧ True) := hp.1.elim (fun h => Or.inl ⟨h.1, trivial⟩) (fun h => Or.inr ⟨h.1, trivial⟩)
    replace hC := hC_
    clear hC_
    rcases hp with ⟨rfl, h340⟩ | ⟨rfl, h340⟩
    · skip
      refine z_if_eq (tgt := 212) hx hb (show (1 : Int32).toInt = 1 by decide) dX10_driveLine_160 (by decide) (fun h => absurd h (by decide)) (fun _ => ?_)
      refine lv_aload_n hx hb dX10_driveLine_163 rfl (lv_at hl 2 rfl) ?_
      refine z_get (C := RX10) (T := TX10) (N := 54) (ci := 10) (v := .int b2_88) hx hb hT zin_X10 hown hK hw hm_mm hf_mm rfl 12 (by decide) (hT _ kw_1180) rfl dX10_driveLine_164 ?_
      refine z_if_ne (tgt := 191) hx hb rfl dX10_driveLine_167 (by decide) (fun c341 => ?_) (fun c341 => ?_)
      · skip
        refine lv_aload_n hx hb dX10_driveLine_191 rfl (lv_at hl 2 rfl) ?_
        refine z_get (C := RX10) (T := TX10) (N := 54) (ci := 10) (v := .ref dr) hx hb hT zin_X10 hown hK hw hm_mm hf_mm rfl 21 (by decide) (hT _ kw_1189) rfl dX10_driveLine_192 ?_
        refine lv_iload_n hx hb dX10_driveLine_195 rfl (lv_at hl 1 rfl) ?_
        refine lv_bipush (v := 6) hx hb dX10_driveLine_196 (by decide) ?_
        refine lv_iadd hx hb dX10_driveLine_198 ?_
        refine lv_topi (fun w342 e_w342 => ?_)
        have i_w342 : w342.toInt = ((8 * (52 + r2.toInt)) + 6) := z_add e_w342 i_w5 (show (6 : Int32).toInt = 6 by decide) (by omega)
        refine lv_aload_n hx hb dX10_driveLine_199 rfl (lv_at hl 2 rfl) ?_
        refine lv_iconst (v := 0) hx hb dX10_driveLine_200 (by decide) ?_
        refine lv_aload_n hx hb dX10_driveLine_201 rfl (lv_at hl 2 rfl) ?_
        refine lv_iconst (v := 2) hx hb dX10_driveLine_202 (by decide) ?_
        have hz343 := (show (2 : Int32).toInt = 2 by decide)
        refine z_calliV (cells := 0) (slots := 0) (b := mm) (As := [.int 2]) (rest := [.int 0, .ref mm, .int w342, .ref dr]) (ci := 10) (q0 := (RX10, TX10, 54)) ⟨hx, hb, hml, hown, hT⟩ (c_X10_hasRead l hm_mm hm_ha hf_mm hf_ha hq_ha (by decide)) (cwV 1 hT (z_goodV (fun _ h => h) kw_1434 kw_1436 kw_44 kw_96 kw_1437) rfl rfl rfl (by decide +kernel) ⟨by decide, by decide⟩) z_mv hKK hK hw hA hm_mm hf_mm rfl rfl rfl hl.1 rfl (Nat.le_of_ble_eq_true rfl) dX10_driveLine_203 ⟨by decide, by decide⟩ (fun r344 u H locs hp hw => ?_)
        obtain ⟨rfl, hp⟩ := hp
        have hw : z_H D vwCl (z_A L sz) s.heap L f334 H locs := hw
        have hh345 : 0 ≤ r344.toInt ∧ r344.toInt ≤ 5 := by rw [hp]; exact (hq_ha 26).1.2.2.1 rfl
        refine lv_iconst (v := 1) hx hb dX10_driveLine_206 (by decide) ?_
        refine lv_isub hx hb dX10_driveLine_207 ?_
        refine lv_topi (fun w346 e_w346 => ?_)
        have i_w346 : w346.toInt = (r344.toInt - 1) := z_subI e_w346 rfl (show (1 : Int32).toInt = 1 by decide) (by omega)
        have hz347 := (show (0 : Int32).toInt = 0 by decide)
        refine z_calliV (cells := 0) (slots := 0) (b := mm) (As := [.int 0, .int w346]) (rest := [.int w342, .ref dr]) (ci := 10) (q0 := (RX10, TX10, 54)) ⟨hx, hb, hml, hown, hT⟩ (c_X10_number l hm_mm hm_ta hf_mm hf_ta (by first | omega | decide | assumption) (by first | omega | decide | assumption)) (cwV 2 hT (z_goodV (fun _ h => h) kw_1420 kw_1422 kw_42 kw_96 kw_1423) rfl rfl rfl (by decide +kernel) ⟨by decide, by decide⟩) z_mv hKK hK hw hA hm_mm hf_mm rfl rfl rfl hl.1 rfl (Nat.le_of_ble_eq_true rfl) dX10_driveLine_208 ⟨by decide, by decide⟩ (fun r348 u H locs hp hw => ?_)
        obtain ⟨L349, f350⟩ := u
        obtain ⟨hsb, hfm, a2_351, k2_352, p2_353, v2_354, b2_355, q2_356, w2_357, ha_0, hp⟩ := hp
        have hsb : L = L349 := hsb
        subst hsb
        have hsb : ∀ b ∈ L, b ∈ L := fun _ h => h
        have hw : z_H D vwCl (z_A L sz) s.heap L f350 H locs := hw
        have hfr : ∀ b ∈ L, b ≠ mm → b ≠ ha → b ≠ dr → f350 b = f b := fun b hb h0 h1 h2 => (hfm b hb h0).trans (hfr b hb h0 h1 h2)
        have hf_ta : f350 ta = .inl (cy 0, 1600, .inl gta) := (hfm ta hm_ta (z_tne hf_ta hf_mm (m := 12900) (n := 10) rfl rfl (by decide))).trans hf_ta
        have hf_ha : f350 ha = .inl (cy 1, 30, .inl gha) := (hfm ha hm_ha (z_tne hf_ha hf_mm (m := 340) (n := 10) rfl rfl (by decide))).trans hf_ha
        have hf_dr : f350 dr = .inl (cy 1, 520, .inl g329) := (hfm dr hm_dr (z_tne hf_dr hf_mm (m := 4260) (n := 10) rfl rfl (by decide))).trans hf_dr
        have hf_mm : f350 mm = .inr (10, [.int m0, .ref wd, .ref my, .ref ce, .ref mv, .ref ta, .int m6, .int a2_351, .int k2_352, .int p2_353, .int v2_354, .long w2_357, .int b2_355, .int q2_356, .int m14, .int m15, .ref li, .ref ha, .ref lw, .ref st, .ref fo, .ref dr, .int m22, .ref ik, .int m24, .int m25, .long m26, .int m27, .int m28, .ref ro, .int m30, .ref ct, .ref se, .ref th, .ref cn, .ref be, .int m36, .ref du, .int m38, .ref db, .int m40, .int m41, .int m42, .ref pn, .ref wg, .ref wh, .ref tn, .ref he, .int m48, .ref tr, .ref fd, .ref po, .int m52, .int m53]) := ha_0
        have hR_r348 : 0 ≤ r348.toInt ∧ r348.toInt ≤ 4 := by omega
        have hC_ : (0 ≤ a2_351.toInt ∧ a2_351.toInt ≤ m6.toInt) ∧ m7.toInt ≤ a2_351.toInt ∧ (b2_355.toInt ≠ 0 ∨ m12.toInt = 0) ∧ ((a2_351.toInt = m7.toInt ∧ k2_352.toInt = m8.toInt) ∨ k2_352.toInt ≠ 3 ∨ m7.toInt < a2_351.toInt) := by refine ⟨⟨?_, ?_⟩, ?_, ?_, ?_⟩ <;> omega
        clear hp
        replace hC := hC_
        clear hC_
        refine z_iast hx hb hK hw 1 hm_dr hf_dr rfl (z_ix i_w342 (by omega)) dX10_driveLine_211 (fun H locs hw => ?_)
        obtain ⟨f359, e_f359⟩ : ∃ z, z = va_up f350 dr (.inl (cy 1, 520, .inl (upd g329 w342.toNatClampNeg r348))) := ⟨_, rfl⟩
        rw [← e_f359] at hw
        have hf_mm : f359 mm = .inr (10, [.int m0, .ref wd, .ref my, .ref ce, .ref mv, .ref ta, .int m6, .int a2_351, .int k2_352, .int p2_353, .int v2_354, .long w2_357, .int b2_355, .int q2_356, .int m14, .int m15, .ref li, .ref ha, .ref lw, .ref st, .ref fo, .ref dr, .int m22, .ref ik, .int m24, .int m25, .long m26, .int m27, .int m28, .ref ro, .int m30, .ref ct, .ref se, .ref th, .ref cn, .ref be, .int m36, .ref du, .int m38, .ref db, .int m40, .int m41, .int m42, .ref pn, .ref wg, .ref wh, .ref tn, .ref he, .int m48, .ref tr, .ref fd, .ref po, .int m52, .int m53]) := (congrFun e_f359 mm).trans (z_up_ne (z_tne hf_mm hf_dr (m := 10) (n := 4260) rfl rfl (by decide)) hf_mm)
        have hf_ta : f359 ta = .inl (cy 0, 1600, .inl gta) := (congrFun e_f359 ta).trans (z_up_ne (z_tne hf_ta hf_dr (m := 12900) (n := 4260) rfl rfl (by decide)) hf_ta)
        have hf_ha : f359 ha = .inl (cy 1, 30, .inl gha) := (congrFun e_f359 ha).trans (z_up_ne (z_tne hf_ha hf_dr (m := 340) (n := 4260) rfl rfl (by decide)) hf_ha)
        have hf_dr : f359 dr = .inl (cy 1, 520, .inl (upd g329 w342.toNatClampNeg r348)) := (congrFun e_f359 dr).trans z_up_self
        have hfr : ∀ b ∈ L, b ≠ mm → b ≠ ha → b ≠ dr → f359 b = f b := fun b hb h0 h1 h2 => (congrFun e_f359 b).trans (z_up_ne h2 (hfr b hb h0 h1 h2))
        obtain ⟨g358, e_g358⟩ : ∃ z, z = (upd g329 w342.toNatClampNeg r348) := ⟨_, rfl⟩
        rw [← e_g358] at hf_dr
        have hq_dr : ∀ j : Nat, q_drv j (g358 j) := z_updQ hq_dr e_g358 (show q_drv _ _ from z_drS6 (z_mod8 i_w342 (by omega)) (show 0 ≤ (r348 : Int32).toInt ∧ (r348 : Int32).toInt ≤ 4 by first | decide | omega))
        refine lv_aload_n hx hb dX10_driveLine_212 rfl (lv_at hl 2 rfl) ?_
        refine z_get (C := RX10) (T := TX10) (N := 54) (ci := 10) (v := .ref dr) hx hb hT zin_X10 hown hK hw hm_mm hf_mm rfl 21 (by decide) (hT _ kw_1189) rfl dX10_driveLine_213 ?_
        refine lv_iload_n hx hb dX10_driveLine_216 rfl (lv_at hl 1 rfl) ?_
        refine lv_bipush (v := 7) hx hb dX10_driveLine_217 (by decide) ?_
        refine lv_iadd hx hb dX10_driveLine_219 ?_
        refine lv_topi (fun w360 e_w360 => ?_)
        have i_w360 : w360.toInt = ((8 * (52 + r2.toInt)) + 7) := z_add e_w360 i_w5 (show (7 : Int32).toInt = 7 by decide) (by omega)
        refine lv_aload_n hx hb dX10_driveLine_220 rfl (lv_at hl 2 rfl) ?_
        refine lv_ldc2 (v := 237281) hx hb hown (hT _ kw_1448) dX10_driveLine_221 ?_
        have hz361 := (show (237281 : Int64).toInt = 237281 by decide)
        refine z_calliV (cells := 0) (slots := 0) (b := mm) (As := [.long 237281]) (rest := [.int w360, .ref dr]) (ci := 10) (q0 := (RX10, TX10, 54)) ⟨hx, hb, hml, hown, hT⟩ (c_X10_takes l hm_mm hm_ta hf_mm hf_ta (by first | omega | decide | assumption) (by first | omega | decide | assumption)) (cwV 1 hT (z_goodV (fun _ h => h) kw_1403 kw_1405 kw_38 kw_96 kw_1406) rfl rfl rfl (by decide +kernel) ⟨by decide, by decide⟩) z_mv hKK hK hw hA hm_mm hf_mm rfl rfl rfl hl.1 rfl (Nat.le_of_ble_eq_true rfl) dX10_driveLine_224 ⟨by decide, by decide⟩ (fun r362 u H locs hp hw => ?_)
        obtain ⟨L363, f364⟩ := u
        obtain ⟨hsb, hfm, a2_365, k2_366, p2_367, v2_368, w2_369, ha_0, hp⟩ := hp
        have hsb : L = L363 := hsb
        subst hsb
        have hsb : ∀ b ∈ L, b ∈ L := fun _ h => h
        have hw : z_H D vwCl (z_A L sz) s.heap L f364 H locs := hw
        have hfr : ∀ b ∈ L, b ≠ mm → b ≠ ha → b ≠ dr → f364 b = f b := fun b hb h0 h1 h2 => (hfm b hb h0).trans (hfr b hb h0 h1 h2)
        have hf_ta : f364 ta = .inl (cy 0, 1600, .inl gta) := (hfm ta hm_ta (z_tne hf_ta hf_mm (m := 12900) (n := 10) rfl rfl (by decide))).trans hf_ta
        have hf_ha : f364 ha = .inl (cy 1, 30, .inl gha) := (hfm ha hm_ha (z_tne hf_ha hf_mm (m := 340) (n := 10) rfl rfl (by decide))).trans hf_ha
        have hf_dr : f364 dr = .inl (cy 1, 520, .inl g358) := (hfm dr hm_dr (z_tne hf_dr hf_mm (m := 4260) (n := 10) rfl rfl (by decide))).trans hf_dr
        have hf_mm : f364 mm = .inr (10, [.int m0, .ref wd, .ref my, .ref ce, .ref mv, .ref ta, .int m6, .int a2_365, .int k2_366, .int p2_367, .int v2_368, .long w2_369, .int b2_355, .int q2_356, .int m14, .int m15, .ref li, .ref ha, .ref lw, .ref st, .ref fo, .ref dr, .int m22, .ref ik, .int m24, .int m25, .long m26, .int m27, .int m28, .ref ro, .int m30, .ref ct, .ref se, .ref th, .ref cn, .ref be, .int m36, .ref du, .int m38, .ref db, .int m40, .int m41, .int m42, .ref pn, .ref wg, .ref wh, .ref tn, .ref he, .int m48, .ref tr, .ref fd, .ref po, .int m52, .int m53]) := ha_0
        have hC_ : (0 ≤ a2_365.toInt ∧ a2_365.toInt ≤ m6.toInt) ∧ m7.toInt ≤ a2_365.toInt ∧ (b2_355.toInt ≠ 0 ∨ m12.toInt = 0) ∧ ((a2_365.toInt = m7.toInt ∧ k2_366.toInt = m8.toInt) ∨ k2_366.toInt ≠ 3 ∨ m7.toInt < a2_365.toInt) := by refine ⟨⟨?_, ?_⟩, ?_, ?_, ?_⟩ <;> omega
        replace hp : (r362 = 1 ∧ True) ∨ (r362 = 0 ∧ True) := hp.1.elim (fun h => Or.inl ⟨h.1, trivial⟩) (fun h => Or.inr ⟨h.1, trivial⟩)
        replace hC := hC_
        clear hC_
        rcases hp with ⟨rfl, h370⟩ | ⟨rfl, h370⟩
        · skip
          refine z_if_eq (tgt := 234) hx hb (show (1 : Int32).toInt = 1 by decide) dX10_driveLine_227 (by decide) (fun h => absurd h (by decide)) (fun _ => ?_)
          refine lv_iconst (v := 1) hx hb dX10_driveLine_230 (by decide) ?_
          refine lv_goto (tgt := 235) hx hb dX10_driveLine_231 (by decide) ?_
          refine z_iast hx hb hK hw 1 hm_dr hf_dr rfl (z_ix i_w360 (by omega)) dX10_driveLine_235 (fun H locs hw => ?_)
          obtain ⟨f372, e_f372⟩ : ∃ z, z = va_up f364 dr (.inl (cy 1, 520, .inl (upd g358 w360.toNatClampNeg 1))) := ⟨_, rfl⟩
          rw [← e_f372] at hw
          have hf_mm : f372 mm = .inr (10, [.int m0, .ref wd, .ref my, .ref ce, .ref mv, .ref ta, .int m6, .int a2_365, .int k2_366, .int p2_367, .int v2_368, .long w2_369, .int b2_355, .int q2_356, .int m14, .int m15, .ref li, .ref ha, .ref lw, .ref st, .ref fo, .ref dr, .int m22, .ref ik, .int m24, .int m25, .long m26, .int m27, .int m28, .ref ro, .int m30, .ref ct, .ref se, .ref th, .ref cn, .ref be, .int m36, .ref du, .int m38, .ref db, .int m40, .int m41, .int m42, .ref pn, .ref wg, .ref wh, .ref tn, .ref he, .int m48, .ref tr, .ref fd, .ref po, .int m52, .int m53]) := (congrFun e_f372 mm).trans (z_up_ne (z_tne hf_mm hf_dr (m := 10) (n := 4260) rfl rfl (by decide)) hf_mm)
          have hf_ta : f372 ta = .inl (cy 0, 1600, .inl gta) := (congrFun e_f372 ta).trans (z_up_ne (z_tne hf_ta hf_dr (m := 12900) (n := 4260) rfl rfl (by decide)) hf_ta)
          have hf_ha : f372 ha = .inl (cy 1, 30, .inl gha) := (congrFun e_f372 ha).trans (z_up_ne (z_tne hf_ha hf_dr (m := 340) (n := 4260) rfl rfl (by decide)) hf_ha)
          have hf_dr : f372 dr = .inl (cy 1, 520, .inl (upd g358 w360.toNatClampNeg 1)) := (congrFun e_f372 dr).trans z_up_self
          have hfr : ∀ b ∈ L, b ≠ mm → b ≠ ha → b ≠ dr → f372 b = f b := fun b hb h0 h1 h2 => (congrFun e_f372 b).trans (z_up_ne h2 (hfr b hb h0 h1 h2))
          obtain ⟨g371, e_g371⟩ : ∃ z, z = (upd g358 w360.toNatClampNeg 1) := ⟨_, rfl⟩
          rw [← e_g371] at hf_dr
          have hq_dr : ∀ j : Nat, q_drv j (g371 j) := z_updQ hq_dr e_g371 (show q_drv _ _ from z_drS7 (z_mod8 i_w360 (by omega)) (show 0 ≤ (1 : Int32).toInt ∧ (1 : Int32).toInt ≤ 1 by first | decide | omega))
          refine lv_aload_n hx hb dX10_driveLine_236 rfl (lv_at hl 2 rfl) ?_
          refine z_get (C := RX10) (T := TX10) (N := 54) (ci := 10) (v := .ref ha) hx hb hT zin_X10 hown hK hw hm_mm hf_mm rfl 17 (by decide) (hT _ kw_1185) rfl dX10_driveLine_237 ?_
          refine lv_bipush (v := 27) hx hb dX10_driveLine_240 (by decide) ?_
          refine lv_dup2_11 hx hb dX10_driveLine_242 rfl rfl ?_
          refine z_iald hx hb hK hw 1 hm_ha hf_ha rfl (z_ix (show (27 : Int32).toInt = 27 by decide) (by decide)) dX10_driveLine_243 ?_
          refine lv_topi (fun w373 e_w373 => ?_)
          have hv_w373 : 0 ≤ w373.toInt ∧ w373.toInt ≤ 12 := by rw [e_w373]; exact (hq_ha _).1.2.2.2 rfl
          have h11 : w373.toInt ≤ 11 := by rw [e_w373]; exact hd11
          refine lv_iconst (v := 1) hx hb dX10_driveLine_244 (by decide) ?_
          refine lv_iadd hx hb dX10_driveLine_245 ?_
          refine lv_topi (fun w374 e_w374 => ?_)
          have i_w374 : w374.toInt = (w373.toInt + 1) := z_add e_w374 rfl (show (1 : Int32).toInt = 1 by decide) (by omega)
          refine z_iast hx hb hK hw 1 hm_ha hf_ha rfl (z_ix (show (27 : Int32).toInt = 27 by decide) (by decide)) dX10_driveLine_246 (fun H locs hw => ?_)
          obtain ⟨f376, e_f376⟩ : ∃ z, z = va_up f372 ha (.inl (cy 1, 30, .inl (upd gha (27 : Int32).toNatClampNeg w374))) := ⟨_, rfl⟩
          rw [← e_f376] at hw
          have hf_mm : f376 mm = .inr (10, [.int m0, .ref wd, .ref my, .ref ce, .ref mv, .ref ta, .int m6, .int a2_365, .int k2_366, .int p2_367, .int v2_368, .long w2_369, .int b2_355, .int q2_356, .int m14, .int m15, .ref li, .ref ha, .ref lw, .ref st, .ref fo, .ref dr, .int m22, .ref ik, .int m24, .int m25, .long m26, .int m27, .int m28, .ref ro, .int m30, .ref ct, .ref se, .ref th, .ref cn, .ref be, .int m36, .ref du, .int m38, .ref db, .int m40, .int m41, .int m42, .ref pn, .ref wg, .ref wh, .ref tn, .ref he, .int m48, .ref tr, .ref fd, .ref po, .int m52, .int m53]) := (congrFun e_f376 mm).trans (z_up_ne (z_tne hf_mm hf_ha (m := 10) (n := 340) rfl rfl (by decide)) hf_mm)
          have hf_ta : f376 ta = .inl (cy 0, 1600, .inl gta) := (congrFun e_f376 ta).trans (z_up_ne (z_tne hf_ta hf_ha (m := 12900) (n := 340) rfl rfl (by decide)) hf_ta)
          have hf_dr : f376 dr = .inl (cy 1, 520, .inl g371) := (congrFun e_f376 dr).trans (z_up_ne (z_tne hf_dr hf_ha (m := 4260) (n := 340) rfl rfl (by decide)) hf_dr)
          have hf_ha : f376 ha = .inl (cy 1, 30, .inl (upd gha (27 : Int32).toNatClampNeg w374)) := (congrFun e_f376 ha).trans z_up_self
          have hfr : ∀ b ∈ L, b ≠ mm → b ≠ ha → b ≠ dr → f376 b = f b := fun b hb h0 h1 h2 => (congrFun e_f376 b).trans (z_up_ne h1 (hfr b hb h0 h1 h2))
          obtain ⟨g375, e_g375⟩ : ∃ z, z = (upd gha (27 : Int32).toNatClampNeg w374) := ⟨_, rfl⟩
          rw [← e_g375] at hf_ha
          have hq_ha : ∀ j : Nat, (q_hasR hz) j (g375 j) := z_updQ hq_ha e_g375 (show q_hasR _ _ _ from ⟨(show q_has _ _ from ⟨(fun h => absurd h (by decide)), (fun h => absurd h (by decide)), (fun h => absurd h (by decide)), (fun _ => (show 0 ≤ (w374 : Int32).toInt ∧ (w374 : Int32).toInt ≤ 12 by first | decide | omega))⟩), fun h => absurd h (by decide)⟩)
          exact z_vret hx hb hr hlk (by decide) (by decide) hw (⟨hsub, hfr, a2_365, k2_366, p2_367, v2_368, b2_355, q2_356, w2_369, g375, g371, hf_mm, hf_ha, hf_dr, hq_ha, hq_dr, by omega, by omega, by omega, by omega⟩) dX10_driveLine_247
        · skip
          refine z_if_eq (tgt := 234) hx hb (show (0 : Int32).toInt = 0 by decide) dX10_driveLine_227 (by decide) (fun _ => ?_) (fun h => absurd h (by decide))
          refine lv_iconst (v := 0) hx hb dX10_driveLine_234 (by decide) ?_
          refine z_iast hx hb hK hw 1 hm_dr hf_dr rfl (z_ix i_w360 (by omega)) dX10_driveLine_235 (fun H locs hw => ?_)
          obtain ⟨f378, e_f378⟩ : ∃ z, z = va_up f364 dr (.inl (cy 1, 520, .inl (upd g358 w360.toNatClampNeg 0))) := ⟨_, rfl⟩
          rw [← e_f378] at hw
          have hf_mm : f378 mm = .inr (10, [.int m0, .ref wd, .ref my, .ref ce, .ref mv, .ref ta, .int m6, .int a2_365, .int k2_366, .int p2_367, .int v2_368, .long w2_369, .int b2_355, .int q2_356, .int m14, .int m15, .ref li, .ref ha, .ref lw, .ref st, .ref fo, .ref dr, .int m22, .ref ik, .int m24, .int m25, .long m26, .int m27, .int m28, .ref ro, .int m30, .ref ct, .ref se, .ref th, .ref cn, .ref be, .int m36, .ref du, .int m38, .ref db, .int m40, .int m41, .int m42, .ref pn, .ref wg, .ref wh, .ref tn, .ref he, .int m48, .ref tr, .ref fd, .ref po, .int m52, .int m53]) := (congrFun e_f378 mm).trans (z_up_ne (z_tne hf_mm hf_dr (m := 10) (n := 4260) rfl rfl (by decide)) hf_mm)
          have hf_ta : f378 ta = .inl (cy 0, 1600, .inl gta) := (congrFun e_f378 ta).trans (z_up_ne (z_tne hf_ta hf_dr (m := 12900) (n := 4260) rfl rfl (by decide)) hf_ta)
          have hf_ha : f378 ha = .inl (cy 1, 30, .inl gha) := (congrFun e_f378 ha).trans (z_up_ne (z_tne hf_ha hf_dr (m := 340) (n := 4260) rfl rfl (by decide)) hf_ha)
          have hf_dr : f378 dr = .inl (cy 1, 520, .inl (upd g358 w360.toNatClampNeg 0)) := (congrFun e_f378 dr).trans z_up_self
          have hfr : ∀ b ∈ L, b ≠ mm → b ≠ ha → b ≠ dr → f378 b = f b := fun b hb h0 h1 h2 => (congrFun e_f378 b).trans (z_up_ne h2 (hfr b hb h0 h1 h2))
          obtain ⟨g377, e_g377⟩ : ∃ z, z = (upd g358 w360.toNatClampNeg 0) := ⟨_, rfl⟩
          rw [← e_g377] at hf_dr
          have hq_dr : ∀ j : Nat, q_drv j (g377 j) := z_updQ hq_dr e_g377 (show q_drv _ _ from z_drS7 (z_mod8 i_w360 (by omega)) (show 0 ≤ (0 : Int32).toInt ∧ (0 : Int32).toInt ≤ 1 by first | decide | omega))
          refine lv_aload_n hx hb dX10_driveLine_236 rfl (lv_at hl 2 rfl) ?_
          refine z_get (C := RX10) (T := TX10) (N := 54) (ci := 10) (v := .ref ha) hx hb hT zin_X10 hown hK hw hm_mm hf_mm rfl 17 (by decide) (hT _ kw_1185) rfl dX10_driveLine_237 ?_
          refine lv_bipush (v := 27) hx hb dX10_driveLine_240 (by decide) ?_
          refine lv_dup2_11 hx hb dX10_driveLine_242 rfl rfl ?_
          refine z_iald hx hb hK hw 1 hm_ha hf_ha rfl (z_ix (show (27 : Int32).toInt = 27 by decide) (by decide)) dX10_driveLine_243 ?_
          refine lv_topi (fun w379 e_w379 => ?_)
          have hv_w379 : 0 ≤ w379.toInt ∧ w379.toInt ≤ 12 := by rw [e_w379]; exact (hq_ha _).1.2.2.2 rfl
          have h11 : w379.toInt ≤ 11 := by rw [e_w379]; exact hd11
          refine lv_iconst (v := 1) hx hb dX10_driveLine_244 (by decide) ?_
          refine lv_iadd hx hb dX10_driveLine_245 ?_
          refine lv_topi (fun w380 e_w380 => ?_)
          have i_w380 : w380.toInt = (w379.toInt + 1) := z_add e_w380 rfl (show (1 : Int32).toInt = 1 by decide) (by omega)
          refine z_iast hx hb hK hw 1 hm_ha hf_ha rfl (z_ix (show (27 : Int32).toInt = 27 by decide) (by decide)) dX10_driveLine_246 (fun H locs hw => ?_)
          obtain ⟨f382, e_f382⟩ : ∃ z, z = va_up f378 ha (.inl (cy 1, 30, .inl (upd gha (27 : Int32).toNatClampNeg w380))) := ⟨_, rfl⟩
          rw [← e_f382] at hw
          have hf_mm : f382 mm = .inr (10, [.int m0, .ref wd, .ref my, .ref ce, .ref mv, .ref ta, .int m6, .int a2_365, .int k2_366, .int p2_367, .int v2_368, .long w2_369, .int b2_355, .int q2_356, .int m14, .int m15, .ref li, .ref ha, .ref lw, .ref st, .ref fo, .ref dr, .int m22, .ref ik, .int m24, .int m25, .long m26, .int m27, .int m28, .ref ro, .int m30, .ref ct, .ref se, .ref th, .ref cn, .ref be, .int m36, .ref du, .int m38, .ref db, .int m40, .int m41, .int m42, .ref pn, .ref wg, .ref wh, .ref tn, .ref he, .int m48, .ref tr, .ref fd, .ref po, .int m52, .int m53]) := (congrFun e_f382 mm).trans (z_up_ne (z_tne hf_mm hf_ha (m := 10) (n := 340) rfl rfl (by decide)) hf_mm)
          have hf_ta : f382 ta = .inl (cy 0, 1600, .inl gta) := (congrFun e_f382 ta).trans (z_up_ne (z_tne hf_ta hf_ha (m := 12900) (n := 340) rfl rfl (by decide)) hf_ta)
          have hf_dr : f382 dr = .inl (cy 1, 520, .inl g377) := (congrFun e_f382 dr).trans (z_up_ne (z_tne hf_dr hf_ha (m := 4260) (n := 340) rfl rfl (by decide)) hf_dr)
          have hf_ha : f382 ha = .inl (cy 1, 30, .inl (upd gha (27 : Int32).toNatClampNeg w380)) := (congrFun e_f382 ha).trans z_up_self
          have hfr : ∀ b ∈ L, b ≠ mm → b ≠ ha → b ≠ dr → f382 b = f b := fun b hb h0 h1 h2 => (congrFun e_f382 b).trans (z_up_ne h1 (hfr b hb h0 h1 h2))
          obtain ⟨g381, e_g381⟩ : ∃ z, z = (upd gha (27 : Int32).toNatClampNeg w380) := ⟨_, rfl⟩
          rw [← e_g381] at hf_ha
          have hq_ha : ∀ j : Nat, (q_hasR hz) j (g381 j) := z_updQ hq_ha e_g381 (show q_hasR _ _ _ from ⟨(show q_has _ _ from ⟨(fun h => absurd h (by decide)), (fun h => absurd h (by decide)), (fun h => absurd h (by decide)), (fun _ => (show 0 ≤ (w380 : Int32).toInt ∧ (w380 : Int32).toInt ≤ 12 by first | decide | omega))⟩), fun h => absurd h (by decide)⟩)
          exact z_vret hx hb hr hlk (by decide) (by decide) hw (⟨hsub, hfr, a2_365, k2_366, p2_367, v2_368, b2_355, q2_356, w2_369, g381, g377, hf_mm, hf_ha, hf_dr, hq_ha, hq_dr, by omega, by omega, by omega, by omega⟩) dX10_driveLine_247
      · skip
        refine lv_aload_n hx hb dX10_driveLine_170 rfl (lv_at hl 2 rfl) ?_
        refine z_get (C := RX10) (T := TX10) (N := 54) (ci := 10) (v := .int k2_336) hx hb hT zin_X10 hown hK hw hm_mm hf_mm rfl 8 (by decide) (hT _ kw_1176) rfl dX10_driveLine_171 ?_
        refine lv_iconst (v := 2) hx hb dX10_driveLine_174 (by decide) ?_
        refine z_icmp_ne (tgt := 191) hx hb rfl (show (2 : Int32).toInt = 2 by decide) dX10_driveLine_175 (by decide) (fun c383 => ?_) (fun c383 => ?_)
        · skip
          refine lv_aload_n hx hb dX10_driveLine_191 rfl (lv_at hl 2 rfl) ?_
          refine z_get (C := RX10) (T := TX10) (N := 54) (ci := 10) (v := .ref dr) hx hb hT zin_X10 hown hK hw hm_mm hf_mm rfl 21 (by decide) (hT _ kw_1189) rfl dX10_driveLine_192 ?_
          refine lv_iload_n hx hb dX10_driveLine_195 rfl (lv_at hl 1 rfl) ?_
          refine lv_bipush (v := 6) hx hb dX10_driveLine_196 (by decide) ?_
          refine lv_iadd hx hb dX10_driveLine_198 ?_
          refine lv_topi (fun w384 e_w384 => ?_)
          have i_w384 : w384.toInt = ((8 * (52 + r2.toInt)) + 6) := z_add e_w384 i_w5 (show (6 : Int32).toInt = 6 by decide) (by omega)
          refine lv_aload_n hx hb dX10_driveLine_199 rfl (lv_at hl 2 rfl) ?_
          refine lv_iconst (v := 0) hx hb dX10_driveLine_200 (by decide) ?_
          refine lv_aload_n hx hb dX10_driveLine_201 rfl (lv_at hl 2 rfl) ?_
          refine lv_iconst (v := 2) hx hb dX10_driveLine_202 (by decide) ?_
          have hz385 := (show (2 : Int32).toInt = 2 by decide)
          refine z_calliV (cells := 0) (slots := 0) (b := mm) (As := [.int 2]) (rest := [.int 0, .ref mm, .int w384, .ref dr]) (ci := 10) (q0 := (RX10, TX10, 54)) ⟨hx, hb, hml, hown, hT⟩ (c_X10_hasRead l hm_mm hm_ha hf_mm hf_ha hq_ha (by decide)) (cwV 1 hT (z_goodV (fun _ h => h) kw_1434 kw_1436 kw_44 kw_96 kw_1437) rfl rfl rfl (by decide +kernel) ⟨by decide, by decide⟩) z_mv hKK hK hw hA hm_mm hf_mm rfl rfl rfl hl.1 rfl (Nat.le_of_ble_eq_true rfl) dX10_driveLine_203 ⟨by decide, by decide⟩ (fun r386 u H locs hp hw => ?_)
          obtain ⟨rfl, hp⟩ := hp
          have hw : z_H D vwCl (z_A L sz) s.heap L f334 H locs := hw
          have hh387 : 0 ≤ r386.toInt ∧ r386.toInt ≤ 5 := by rw [hp]; exact (hq_ha 26).1.2.2.1 rfl
          refine lv_iconst (v := 1) hx hb dX10_driveLine_206 (by decide) ?_
          refine lv_isub hx hb dX10_driveLine_207 ?_
          refine lv_topi (fun w388 e_w388 => ?_)
          have i_w388 : w388.toInt = (r386.toInt - 1) := z_subI e_w388 rfl (show (1 : Int32).toInt = 1 by decide) (by omega)
          have hz389 := (show (0 : Int32).toInt = 0 by decide)
          refine z_calliV (cells := 0) (slots := 0) (b := mm) (As := [.int 0, .int w388]) (rest := [.int w384, .ref dr]) (ci := 10) (q0 := (RX10, TX10, 54)) ⟨hx, hb, hml, hown, hT⟩ (c_X10_number l hm_mm hm_ta hf_mm hf_ta (by first | omega | decide | assumption) (by first | omega | decide | assumption)) (cwV 2 hT (z_goodV (fun _ h => h) kw_1420 kw_1422 kw_42 kw_96 kw_1423) rfl rfl rfl (by decide +kernel) ⟨by decide, by decide⟩) z_mv hKK hK hw hA hm_mm hf_mm rfl rfl rfl hl.1 rfl (Nat.le_of_ble_eq_true rfl) dX10_driveLine_208 ⟨by decide, by decide⟩ (fun r390 u H locs hp hw => ?_)
          obtain ⟨L391, f392⟩ := u
          obtain ⟨hsb, hfm, a2_393, k2_394, p2_395, v2_396, b2_397, q2_398, w2_399, ha_0, hp⟩ := hp
          have hsb : L = L391 := hsb
          subst hsb
          have hsb : ∀ b ∈ L, b ∈ L := fun _ h => h
          have hw : z_H D vwCl (z_A L sz) s.heap L f392 H locs := hw
          have hfr : ∀ b ∈ L, b ≠ mm → b ≠ ha → b ≠ dr → f392 b = f b := fun b hb h0 h1 h2 => (hfm b hb h0).trans (hfr b hb h0 h1 h2)
          have hf_ta : f392 ta = .inl (cy 0, 1600, .inl gta) := (hfm ta hm_ta (z_tne hf_ta hf_mm (m := 12900) (n := 10) rfl rfl (by decide))).trans hf_ta
          have hf_ha : f392 ha = .inl (cy 1, 30, .inl gha) := (hfm ha hm_ha (z_tne hf_ha hf_mm (m := 340) (n := 10) rfl rfl (by decide))).trans hf_ha
          have hf_dr : f392 dr = .inl (cy 1, 520, .inl g329) := (hfm dr hm_dr (z_tne hf_dr hf_mm (m := 4260) (n := 10) rfl rfl (by decide))).trans hf_dr
          have hf_mm : f392 mm = .inr (10, [.int m0, .ref wd, .ref my, .ref ce, .ref mv, .ref ta, .int m6, .int a2_393, .int k2_394, .int p2_395, .int v2_396, .long w2_399, .int b2_397, .int q2_398, .int m14, .int m15, .ref li, .ref ha, .ref lw, .ref st, .ref fo, .ref dr, .int m22, .ref ik, .int m24, .int m25, .long m26, .int m27, .int m28, .ref ro, .int m30, .ref ct, .ref se, .ref th, .ref cn, .ref be, .int m36, .ref du, .int m38, .ref db, .int m40, .int m41, .int m42, .ref pn, .ref wg, .ref wh, .ref tn, .ref he, .int m48, .ref tr, .ref fd, .ref po, .int m52, .int m53]) := ha_0
          have hR_r390 : 0 ≤ r390.toInt ∧ r390.toInt ≤ 4 := by omega
          have hC_ : (0 ≤ a2_393.toInt ∧ a2_393.toInt ≤ m6.toInt) ∧ m7.toInt ≤ a2_393.toInt ∧ (b2_397.toInt ≠ 0 ∨ m12.toInt = 0) ∧ ((a2_393.toInt = m7.toInt ∧ k2_394.toInt = m8.toInt) ∨ k2_394.toInt ≠ 3 ∨ m7.toInt < a2_393.toInt) := by refine ⟨⟨?_, ?_⟩, ?_, ?_, ?_⟩ <;> omega
          clear hp
          replace hC := hC_
          clear hC_
          refine z_iast hx hb hK hw 1 hm_dr hf_dr rfl (z_ix i_w384 (by omega)) dX10_driveLine_211 (fun H locs hw => ?_)
          obtain ⟨f401, e_f401⟩ : ∃ z, z = va_up f392 dr (.inl (cy 1, 520, .inl (upd g329 w384.toNatClampNeg r390))) := ⟨_, rfl⟩
          rw [← e_f401] at hw
          have hf_mm : f401 mm = .inr (10, [.int m0, .ref wd, .ref my, .ref ce, .ref mv, .ref ta, .int m6, .int a2_393, .int k2_394, .int p2_395, .int v2_396, .long w2_399, .int b2_397, .int q2_398, .int m14, .int m15, .ref li, .ref ha, .ref lw, .ref st, .ref fo, .ref dr, .int m22, .ref ik, .int m24, .int m25, .long m26, .int m27, .int m28, .ref ro, .int m30, .ref ct, .ref se, .ref th, .ref cn, .ref be, .int m36, .ref du, .int m38, .ref db, .int m40, .int m41, .int m42, .ref pn, .ref wg, .ref wh, .ref tn, .ref he, .int m48, .ref tr, .ref fd, .ref po, .int m52, .int m53]) := (congrFun e_f401 mm).trans (z_up_ne (z_tne hf_mm hf_dr (m := 10) (n := 4260) rfl rfl (by decide)) hf_mm)
          have hf_ta : f401 ta = .inl (cy 0, 1600, .inl gta) := (congrFun e_f401 ta).trans (z_up_ne (z_tne hf_ta hf_dr (m := 12900) (n := 4260) rfl rfl (by decide)) hf_ta)
          have hf_ha : f401 ha = .inl (cy 1, 30, .inl gha) := (congrFun e_f401 ha).trans (z_up_ne (z_tne hf_ha hf_dr (m := 340) (n := 4260) rfl rfl (by decide)) hf_ha)
          have hf_dr : f401 dr = .inl (cy 1, 520, .inl (upd g329 w384.toNatClampNeg r390)) := (congrFun e_f401 dr).trans z_up_self
          have hfr : ∀ b ∈ L, b ≠ mm → b ≠ ha → b ≠ dr → f401 b = f b := fun b hb h0 h1 h2 => (congrFun e_f401 b).trans (z_up_ne h2 (hfr b hb h0 h1 h2))
          obtain ⟨g400, e_g400⟩ : ∃ z, z = (upd g329 w384.toNatClampNeg r390) := ⟨_, rfl⟩
          rw [← e_g400] at hf_dr
          have hq_dr : ∀ j : Nat, q_drv j (g400 j) := z_updQ hq_dr e_g400 (show q_drv _ _ from z_drS6 (z_mod8 i_w384 (by omega)) (show 0 ≤ (r390 : Int32).toInt ∧ (r390 : Int32).toInt ≤ 4 by first | decide | omega))
          refine lv_aload_n hx hb dX10_driveLine_212 rfl (lv_at hl 2 rfl) ?_
          refine z_get (C := RX10) (T := TX10) (N := 54) (ci := 10) (v := .ref dr) hx hb hT zin_X10 hown hK hw hm_mm hf_mm rfl 21 (by decide) (hT _ kw_1189) rfl dX10_driveLine_213 ?_
          refine lv_iload_n hx hb dX10_driveLine_216 rfl (lv_at hl 1 rfl) ?_
          refine lv_bipush (v := 7) hx hb dX10_driveLine_217 (by decide) ?_
          refine lv_iadd hx hb dX10_driveLine_219 ?_
          refine lv_topi (fun w402 e_w402 => ?_)
          have i_w402 : w402.toInt = ((8 * (52 + r2.toInt)) + 7) := z_add e_w402 i_w5 (show (7 : Int32).toInt = 7 by decide) (by omega)
          refine lv_aload_n hx hb dX10_driveLine_220 rfl (lv_at hl 2 rfl) ?_
          refine lv_ldc2 (v := 237281) hx hb hown (hT _ kw_1448) dX10_driveLine_221 ?_
          have hz403 := (show (237281 : Int64).toInt = 237281 by decide)
          refine z_calliV (cells := 0) (slots := 0) (b := mm) (As := [.long 237281]) (rest := [.int w402, .ref dr]) (ci := 10) (q0 := (RX10, TX10, 54)) ⟨hx, hb, hml, hown, hT⟩ (c_X10_takes l hm_mm hm_ta hf_mm hf_ta (by first | omega | decide | assumption) (by first | omega | decide | assumption)) (cwV 1 hT (z_goodV (fun _ h => h) kw_1403 kw_1405 kw_38 kw_96 kw_1406) rfl rfl rfl (by decide +kernel) ⟨by decide, by decide⟩) z_mv hKK hK hw hA hm_mm hf_mm rfl rfl rfl hl.1 rfl (Nat.le_of_ble_eq_true rfl) dX10_driveLine_224 ⟨by decide, by decide⟩ (fun r404 u H locs hp hw => ?_)
          obtain ⟨L405, f406⟩ := u
          obtain ⟨hsb, hfm, a2_407, k2_408, p2_409, v2_410, w2_411, ha_0, hp⟩ := hp
          have hsb : L = L405 := hsb
          subst hsb
          have hsb : ∀ b ∈ L, b ∈ L := fun _ h => h
          have hw : z_H D vwCl (z_A L sz) s.heap L f406 H locs := hw
          have hfr : ∀ b ∈ L, b ≠ mm → b ≠ ha → b ≠ dr → f406 b = f b := fun b hb h0 h1 h2 => (hfm b hb h0).trans (hfr b hb h0 h1 h2)
          have hf_ta : f406 ta = .inl (cy 0, 1600, .inl gta) := (hfm ta hm_ta (z_tne hf_ta hf_mm (m := 12900) (n := 10) rfl rfl (by decide))).trans hf_ta
          have hf_ha : f406 ha = .inl (cy 1, 30, .inl gha) := (hfm ha hm_ha (z_tne hf_ha hf_mm (m := 340) (n := 10) rfl rfl (by decide))).trans hf_ha
          have hf_dr : f406 dr = .inl (cy 1, 520, .inl g400) := (hfm dr hm_dr (z_tne hf_dr hf_mm (m := 4260) (n := 10) rfl rfl (by decide))).trans hf_dr
          have hf_mm : f406 mm = .inr (10, [.int m0, .ref wd, .ref my, .ref ce, .ref mv, .ref ta, .int m6, .int a2_407, .int k2_408, .int p2_409, .int v2_410, .long w2_411, .int b2_397, .int q2_398, .int m14, .int m15, .ref li, .ref ha, .ref lw, .ref st, .ref fo, .ref dr, .int m22, .ref ik, .int m24, .int m25, .long m26, .int m27, .int m28, .ref ro, .int m30, .ref ct, .ref se, .ref th, .ref cn, .ref be, .int m36, .ref du, .int m38, .ref db, .int m40, .int m41, .int m42, .ref pn, .ref wg, .ref wh, .ref tn, .ref he, .int m48, .ref tr, .ref fd, .ref po, .int m52, .int m53]) := ha_0
          have hC_ : (0 ≤ a2_407.toInt ∧ a2_407.toInt ≤ m6.toInt) ∧ m7.toInt ≤ a2_407.toInt ∧ (b2_397.toInt ≠ 0 ∨ m12.toInt = 0) ∧ ((a2_407.toInt = m7.toInt ∧ k2_408.toInt = m8.toInt) ∨ k2_408.toInt ≠ 3 ∨ m7.toInt < a2_407.toInt) := by refine ⟨⟨?_, ?_⟩, ?_, ?_, ?_⟩ <;> omega
          replace hp : (r404 = 1 ∧ True) ∨ (r404 = 0 ∧ True) := hp.1.elim (fun h => Or.inl ⟨h.1, trivial⟩) (fun h => Or.inr ⟨h.1, trivial⟩)
          replace hC := hC_
          clear hC_
          rcases hp with ⟨rfl, h412⟩ | ⟨rfl, h412⟩
          · skip
            refine z_if_eq (tgt := 234) hx hb (show (1 : Int32).toInt = 1 by decide) dX10_driveLine_227 (by decide) (fun h => absurd h (by decide)) (fun _ => ?_)
            refine lv_iconst (v := 1) hx hb dX10_driveLine_230 (by decide) ?_
            refine lv_goto (tgt := 235) hx hb dX10_driveLine_231 (by decide) ?_
            refine z_iast hx hb hK hw 1 hm_dr hf_dr rfl (z_ix i_w402 (by omega)) dX10_driveLine_235 (fun H locs hw => ?_)
            obtain ⟨f414, e_f414⟩ : ∃ z, z = va_up f406 dr (.inl (cy 1, 520, .inl (upd g400 w402.toNatClampNeg 1))) := ⟨_, rfl⟩
            rw [← e_f414] at hw
            have hf_mm : f414 mm = .inr (10, [.int m0, .ref wd, .ref my, .ref ce, .ref mv, .ref ta, .int m6, .int a2_407, .int k2_408, .int p2_409, .int v2_410, .long w2_411, .int b2_397, .int q2_398, .int m14, .int m15, .ref li, .ref ha, .ref lw, .ref st, .ref fo, .ref dr, .int m22, .ref ik, .int m24, .int m25, .long m26, .int m27, .int m28, .ref ro, .int m30, .ref ct, .ref se, .ref th, .ref cn, .ref be, .int m36, .ref du, .int m38, .ref db, .int m40, .int m41, .int m42, .ref pn, .ref wg, .ref wh, .ref tn, .ref he, .int m48, .ref tr, .ref fd, .ref po, .int m52, .int m53]) := (congrFun e_f414 mm).trans (z_up_ne (z_tne hf_mm hf_dr (m := 10) (n := 4260) rfl rfl (by decide)) hf_mm)
            have hf_ta : f414 ta = .inl (cy 0, 1600, .inl gta) := (congrFun e_f414 ta).trans (z_up_ne (z_tne hf_ta hf_dr (m := 12900) (n := 4260) rfl rfl (by decide)) hf_ta)
            have hf_ha : f414 ha = .inl (cy 1, 30, .inl gha) := (congrFun e_f414 ha).trans (z_up_ne (z_tne hf_ha hf_dr (m := 340) (n := 4260) rfl rfl (by decide)) hf_ha)
            have hf_dr : f414 dr = .inl (cy 1, 520, .inl (upd g400 w402.toNatClampNeg 1)) := (congrFun e_f414 dr).trans z_up_self
            have hfr : ∀ b ∈ L, b ≠ mm → b ≠ ha → b ≠ dr → f414 b = f b := fun b hb h0 h1 h2 => (congrFun e_f414 b).trans (z_up_ne h2 (hfr b hb h0 h1 h2))
            obtain ⟨g413, e_g413⟩ : ∃ z, z = (upd g400 w402.toNatClampNeg 1) := ⟨_, rfl⟩
            rw [← e_g413] at hf_dr
            have hq_dr : ∀ j : Nat, q_drv j (g413 j) := z_updQ hq_dr e_g413 (show q_drv _ _ from z_drS7 (z_mod8 i_w402 (by omega)) (show 0 ≤ (1 : Int32).toInt ∧ (1 : Int32).toInt ≤ 1 by first | decide | omega))
            refine lv_aload_n hx hb dX10_driveLine_236 rfl (lv_at hl 2 rfl) ?_
            refine z_get (C := RX10) (T := TX10) (N := 54) (ci := 10) (v := .ref ha) hx hb hT zin_X10 hown hK hw hm_mm hf_mm rfl 17 (by decide) (hT _ kw_1185) rfl dX10_driveLine_237 ?_
            refine lv_bipush (v := 27) hx hb dX10_driveLine_240 (by decide) ?_
            refine lv_dup2_11 hx hb dX10_driveLine_242 rfl rfl ?_
            refine z_iald hx hb hK hw 1 hm_ha hf_ha rfl (z_ix (show (27 : Int32).toInt = 27 by decide) (by decide)) dX10_driveLine_243 ?_
            refine lv_topi (fun w415 e_w415 => ?_)
            have hv_w415 : 0 ≤ w415.toInt ∧ w415.toInt ≤ 12 := by rw [e_w415]; exact (hq_ha _).1.2.2.2 rfl
            have h11 : w415.toInt ≤ 11 := by rw [e_w415]; exact hd11
            refine lv_iconst (v := 1) hx hb dX10_driveLine_244 (by decide) ?_
            refine lv_iadd hx hb dX10_driveLine_245 ?_
            refine lv_topi (fun w416 e_w416 => ?_)
            have i_w416 : w416.toInt = (w415.toInt + 1) := z_add e_w416 rfl (show (1 : Int32).toInt = 1 by decide) (by omega)
            refine z_iast hx hb hK hw 1 hm_ha hf_ha rfl (z_ix (show (27 : Int32).toInt = 27 by decide) (by decide)) dX10_driveLine_246 (fun H locs hw => ?_)
            obtain ⟨f418, e_f418⟩ : ∃ z, z = va_up f414 ha (.inl (cy 1, 30, .inl (upd gha (27 : Int32).toNatClampNeg w416))) := ⟨_, rfl⟩
            rw [← e_f418] at hw
            have hf_mm : f418 mm = .inr (10, [.int m0, .ref wd, .ref my, .ref ce, .ref mv, .ref ta, .int m6, .int a2_407, .int k2_408, .int p2_409, .int v2_410, .long w2_411, .int b2_397, .int q2_398, .int m14, .int m15, .ref li, .ref ha, .ref lw, .ref st, .ref fo, .ref dr, .int m22, .ref ik, .int m24, .int m25, .long m26, .int m27, .int m28, .ref ro, .int m30, .ref ct, .ref se, .ref th, .ref cn, .ref be, .int m36, .ref du, .int m38, .ref db, .int m40, .int m41, .int m42, .ref pn, .ref wg, .ref wh, .ref tn, .ref he, .int m48, .ref tr, .ref fd, .ref po, .int m52, .int m53]) := (congrFun e_f418 mm).trans (z_up_ne (z_tne hf_mm hf_ha (m := 10) (n := 340) rfl rfl (by decide)) hf_mm)
            have hf_ta : f418 ta = .inl (cy 0, 1600, .inl gta) := (congrFun e_f418 ta).trans (z_up_ne (z_tne hf_ta hf_ha (m := 12900) (n := 340) rfl rfl (by decide)) hf_ta)
            have hf_dr : f418 dr = .inl (cy 1, 520, .inl g413) := (congrFun e_f418 dr).trans (z_up_ne (z_tne hf_dr hf_ha (m := 4260) (n := 340) rfl rfl (by decide)) hf_dr)
            have hf_ha : f418 ha = .inl (cy 1, 30, .inl (upd gha (27 : Int32).toNatClampNeg w416)) := (congrFun e_f418 ha).trans z_up_self
            have hfr : ∀ b ∈ L, b ≠ mm → b ≠ ha → b ≠ dr → f418 b = f b := fun b hb h0 h1 h2 => (congrFun e_f418 b).trans (z_up_ne h1 (hfr b hb h0 h1 h2))
            obtain ⟨g417, e_g417⟩ : ∃ z, z = (upd gha (27 : Int32).toNatClampNeg w416) := ⟨_, rfl⟩
            rw [← e_g417] at hf_ha
            have hq_ha : ∀ j : Nat, (q_hasR hz) j (g417 j) := z_updQ hq_ha e_g417 (show q_hasR _ _ _ from ⟨(show q_has _ _ from ⟨(fun h => absurd h (by decide)), (fun h => absurd h (by decide)), (fun h => absurd h (by decide)), (fun _ => (show 0 ≤ (w416 : Int32).toInt ∧ (w416 : Int32).toInt ≤ 12 by first | decide | omega))⟩), fun h => absurd h (by decide)⟩)
            exact z_vret hx hb hr hlk (by decide) (by decide) hw (⟨hsub, hfr, a2_407, k2_408, p2_409, v2_410, b2_397, q2_398, w2_411, g417, g413, hf_mm, hf_ha, hf_dr, hq_ha, hq_dr, by omega, by omega, by omega, by omega⟩) dX10_driveLine_247
          · skip
            refine z_if_eq (tgt := 234) hx hb (show (0 : Int32).toInt = 0 by decide) dX10_driveLine_227 (by decide) (fun _ => ?_) (fun h => absurd h (by decide))
            refine lv_iconst (v := 0) hx hb dX10_driveLine_234 (by decide) ?_
            refine z_iast hx hb hK hw 1 hm_dr hf_dr rfl (z_ix i_w402 (by omega)) dX10_driveLine_235 (fun H locs hw => ?_)
            obtain ⟨f420, e_f420⟩ : ∃ z, z = va_up f406 dr (.inl (cy 1, 520, .inl (upd g400 w402.toNatClampNeg 0))) := ⟨_, rfl⟩
            rw [← e_f420] at hw
            have hf_mm : f420 mm = .inr (10, [.int m0, .ref wd, .ref my, .ref ce, .ref mv, .ref ta, .int m6, .int a2_407, .int k2_408, .int p2_409, .int v2_410, .long w2_411, .int b2_397, .int q2_398, .int m14, .int m15, .ref li, .ref ha, .ref lw, .ref st, .ref fo, .ref dr, .int m22, .ref ik, .int m24, .int m25, .long m26, .int m27, .int m28, .ref ro, .int m30, .ref ct, .ref se, .ref th, .ref cn, .ref be, .int m36, .ref du, .int m38, .ref db, .int m40, .int m41, .int m42, .ref pn, .ref wg, .ref wh, .ref tn, .ref he, .int m48, .ref tr, .ref fd, .ref po, .int m52, .int m53]) := (congrFun e_f420 mm).trans (z_up_ne (z_tne hf_mm hf_dr (m := 10) (n := 4260) rfl rfl (by decide)) hf_mm)
            have hf_ta : f420 ta = .inl (cy 0, 1600, .inl gta) := (congrFun e_f420 ta).trans (z_up_ne (z_tne hf_ta hf_dr (m := 12900) (n := 4260) rfl rfl (by decide)) hf_ta)
            have hf_ha : f420 ha = .inl (cy 1, 30, .inl gha) := (congrFun e_f420 ha).trans (z_up_ne (z_tne hf_ha hf_dr (m := 340) (n := 4260) rfl rfl (by decide)) hf_ha)
            have hf_dr : f420 dr = .inl (cy 1, 520, .inl (upd g400 w402.toNatClampNeg 0)) := (congrFun e_f420 dr).trans z_up_self
            have hfr : ∀ b ∈ L, b ≠ mm → b ≠ ha → b ≠ dr → f420 b = f b := fun b hb h0 h1 h2 => (congrFun e_f420 b).trans (z_up_ne h2 (hfr b hb h0 h1 h2))
            obtain ⟨g419, e_g419⟩ : ∃ z, z = (upd g400 w402.toNatClampNeg 0) := ⟨_, rfl⟩
            rw [← e_g419] at hf_dr
            have hq_dr : ∀ j : Nat, q_drv j (g419 j) := z_updQ hq_dr e_g419 (show q_drv _ _ from z_drS7 (z_mod8 i_w402 (by omega)) (show 0 ≤ (0 : Int32).toInt ∧ (0 : Int32).toInt ≤ 1 by first | decide | omega))
            refine lv_aload_n hx hb dX10_driveLine_236 rfl (lv_at hl 2 rfl) ?_
            refine z_get (C := RX10) (T := TX10) (N := 54) (ci := 10) (v := .ref ha) hx hb hT zin_X10 hown hK hw hm_mm hf_mm rfl 17 (by decide) (hT _ kw_1185) rfl dX10_driveLine_237 ?_
            refine lv_bipush (v := 27) hx hb dX10_driveLine_240 (by decide) ?_
            refine lv_dup2_11 hx hb dX10_driveLine_242 rfl rfl ?_
            refine z_iald hx hb hK hw 1 hm_ha hf_ha rfl (z_ix (show (27 : Int32).toInt = 27 by decide) (by decide)) dX10_driveLine_243 ?_
            refine lv_topi (fun w421 e_w421 => ?_)
            have hv_w421 : 0 ≤ w421.toInt ∧ w421.toInt ≤ 12 := by rw [e_w421]; exact (hq_ha _).1.2.2.2 rfl
            have h11 : w421.toInt ≤ 11 := by rw [e_w421]; exact hd11
            refine lv_iconst (v := 1) hx hb dX10_driveLine_244 (by decide) ?_
            refine lv_iadd hx hb dX10_driveLine_245 ?_
            refine lv_topi (fun w422 e_w422 => ?_)
            have i_w422 : w422.toInt = (w421.toInt + 1) := z_add e_w422 rfl (show (1 : Int32).toInt = 1 by decide) (by omega)
            refine z_iast hx hb hK hw 1 hm_ha hf_ha rfl (z_ix (show (27 : Int32).toInt = 27 by decide) (by decide)) dX10_driveLine_246 (fun H locs hw => ?_)
            obtain ⟨f424, e_f424⟩ : ∃ z, z = va_up f420 ha (.inl (cy 1, 30, .inl (upd gha (27 : Int32).toNatClampNeg w422))) := ⟨_, rfl⟩
            rw [← e_f424] at hw
            have hf_mm : f424 mm = .inr (10, [.int m0, .ref wd, .ref my, .ref ce, .ref mv, .ref ta, .int m6, .int a2_407, .int k2_408, .int p2_409, .int v2_410, .long w2_411, .int b2_397, .int q2_398, .int m14, .int m15, .ref li, .ref ha, .ref lw, .ref st, .ref fo, .ref dr, .int m22, .ref ik, .int m24, .int m25, .long m26, .int m27, .int m28, .ref ro, .int m30, .ref ct, .ref se, .ref th, .ref cn, .ref be, .int m36, .ref du, .int m38, .ref db, .int m40, .int m41, .int m42, .ref pn, .ref wg, .ref wh, .ref tn, .ref he, .int m48, .ref tr, .ref fd, .ref po, .int m52, .int m53]) := (congrFun e_f424 mm).trans (z_up_ne (z_tne hf_mm hf_ha (m := 10) (n := 340) rfl rfl (by decide)) hf_mm)
            have hf_ta : f424 ta = .inl (cy 0, 1600, .inl gta) := (congrFun e_f424 ta).trans (z_up_ne (z_tne hf_ta hf_ha (m := 12900) (n := 340) rfl rfl (by decide)) hf_ta)
            have hf_dr : f424 dr = .inl (cy 1, 520, .inl g419) := (congrFun e_f424 dr).trans (z_up_ne (z_tne hf_dr hf_ha (m := 4260) (n := 340) rfl rfl (by decide)) hf_dr)
            have hf_ha : f424 ha = .inl (cy 1, 30, .inl (upd gha (27 : Int32).toNatClampNeg w422)) := (congrFun e_f424 ha).trans z_up_self
            have hfr : ∀ b ∈ L, b ≠ mm → b ≠ ha → b ≠ dr → f424 b = f b := fun b hb h0 h1 h2 => (congrFun e_f424 b).trans (z_up_ne h1 (hfr b hb h0 h1 h2))
            obtain ⟨g423, e_g423⟩ : ∃ z, z = (upd gha (27 : Int32).toNatClampNeg w422) := ⟨_, rfl⟩
            rw [← e_g423] at hf_ha
            have hq_ha : ∀ j : Nat, (q_hasR hz) j (g423 j) := z_updQ hq_ha e_g423 (show q_hasR _ _ _ from ⟨(show q_has _ _ from ⟨(fun h => absurd h (by decide)), (fun h => absurd h (by decide)), (fun h => absurd h (by decide)), (fun _ => (show 0 ≤ (w422 : Int32).toInt ∧ (w422 : Int32).toInt ≤ 12 by first | decide | omega))⟩), fun h => absurd h (by decide)⟩)
            exact z_vret hx hb hr hlk (by decide) (by decide) hw (⟨hsub, hfr, a2_407, k2_408, p2_409, v2_410, b2_397, q2_398, w2_411, g423, g419, hf_mm, hf_ha, hf_dr, hq_ha, hq_dr, by omega, by omega, by omega, by omega⟩) dX10_driveLine_247
        · skip
          refine lv_aload_n hx hb dX10_driveLine_178 rfl (lv_at hl 2 rfl) ?_
          refine z_get (C := RX10) (T := TX10) (N := 54) (ci := 10) (v := .int v2_338) hx hb hT zin_X10 hown hK hw hm_mm hf_mm rfl 10 (by decide) (hT _ kw_1178) rfl dX10_driveLine_179 ?_
          refine lv_iload_n hx hb dX10_driveLine_182 rfl (lv_at hl 0 rfl) ?_
          refine z_icmp_ne (tgt := 191) hx hb rfl rfl dX10_driveLine_183 (by decide) (fun c425 => ?_) (fun c425 => ?_)
          · skip
            refine lv_aload_n hx hb dX10_driveLine_191 rfl (lv_at hl 2 rfl) ?_
            refine z_get (C := RX10) (T := TX10) (N := 54) (ci := 10) (v := .ref dr) hx hb hT zin_X10 hown hK hw hm_mm hf_mm rfl 21 (by decide) (hT _ kw_1189) rfl dX10_driveLine_192 ?_
            refine lv_iload_n hx hb dX10_driveLine_195 rfl (lv_at hl 1 rfl) ?_
            refine lv_bipush (v := 6) hx hb dX10_driveLine_196 (by decide) ?_
            refine lv_iadd hx hb dX10_driveLine_198 ?_
            refine lv_topi (fun w426 e_w426 => ?_)
            have i_w426 : w426.toInt = ((8 * (52 + r2.toInt)) + 6) := z_add e_w426 i_w5 (show (6 : Int32).toInt = 6 by decide) (by omega)
            refine lv_aload_n hx hb dX10_driveLine_199 rfl (lv_at hl 2 rfl) ?_
            refine lv_iconst (v := 0) hx hb dX10_driveLine_200 (by decide) ?_
            refine lv_aload_n hx hb dX10_driveLine_201 rfl (lv_at hl 2 rfl) ?_
            refine lv_iconst (v := 2) hx hb dX10_driveLine_202 (by decide) ?_
            have hz427 := (show (2 : Int32).toInt = 2 by decide)
            refine z_calliV (cells := 0) (slots := 0) (b := mm) (As := [.int 2]) (rest := [.int 0, .ref mm, .int w426, .ref dr]) (ci := 10) (q0 := (RX10, TX10, 54)) ⟨hx, hb, hml, hown, hT⟩ (c_X10_hasRead l hm_mm hm_ha hf_mm hf_ha hq_ha (by decide)) (cwV 1 hT (z_goodV (fun _ h => h) kw_1434 kw_1436 kw_44 kw_96 kw_1437) rfl rfl rfl (by decide +kernel) ⟨by decide, by decide⟩) z_mv hKK hK hw hA hm_mm hf_mm rfl rfl rfl hl.1 rfl (Nat.le_of_ble_eq_true rfl) dX10_driveLine_203 ⟨by decide, by decide⟩ (fun r428 u H locs hp hw => ?_)
            obtain ⟨rfl, hp⟩ := hp
            have hw : z_H D vwCl (z_A L sz) s.heap L f334 H locs := hw
            have hh429 : 0 ≤ r428.toInt ∧ r428.toInt ≤ 5 := by rw [hp]; exact (hq_ha 26).1.2.2.1 rfl
            refine lv_iconst (v := 1) hx hb dX10_driveLine_206 (by decide) ?_
            refine lv_isub hx hb dX10_driveLine_207 ?_
            refine lv_topi (fun w430 e_w430 => ?_)
            have i_w430 : w430.toInt = (r428.toInt - 1) := z_subI e_w430 rfl (show (1 : Int32).toInt = 1 by decide) (by omega)
            have hz431 := (show (0 : Int32).toInt = 0 by decide)
            refine z_calliV (cells := 0) (slots := 0) (b := mm) (As := [.int 0, .int w430]) (rest := [.int w426, .ref dr]) (ci := 10) (q0 := (RX10, TX10, 54)) ⟨hx, hb, hml, hown, hT⟩ (c_X10_number l hm_mm hm_ta hf_mm hf_ta (by first | omega | decide | assumption) (by first | omega | decide | assumption)) (cwV 2 hT (z_goodV (fun _ h => h) kw_1420 kw_1422 kw_42 kw_96 kw_1423) rfl rfl rfl (by decide +kernel) ⟨by decide, by decide⟩) z_mv hKK hK hw hA hm_mm hf_mm rfl rfl rfl hl.1 rfl (Nat.le_of_ble_eq_true rfl) dX10_driveLine_208 ⟨by decide, by decide⟩ (fun r432 u H locs hp hw => ?_)
            obtain ⟨L433, f434⟩ := u
            obtain ⟨hsb, hfm, a2_435, k2_436, p2_437, v2_438, b2_439, q2_440, w2_441, ha_0, hp⟩ := hp
            have hsb : L = L433 := hsb
            subst hsb
            have hsb : ∀ b ∈ L, b ∈ L := fun _ h => h
            have hw : z_H D vwCl (z_A L sz) s.heap L f434 H locs := hw
            have hfr : ∀ b ∈ L, b ≠ mm → b ≠ ha → b ≠ dr → f434 b = f b := fun b hb h0 h1 h2 => (hfm b hb h0).trans (hfr b hb h0 h1 h2)
            have hf_ta : f434 ta = .inl (cy 0, 1600, .inl gta) := (hfm ta hm_ta (z_tne hf_ta hf_mm (m := 12900) (n := 10) rfl rfl (by decide))).trans hf_ta
            have hf_ha : f434 ha = .inl (cy 1, 30, .inl gha) := (hfm ha hm_ha (z_tne hf_ha hf_mm (m := 340) (n := 10) rfl rfl (by decide))).trans hf_ha
            have hf_dr : f434 dr = .inl (cy 1, 520, .inl g329) := (hfm dr hm_dr (z_tne hf_dr hf_mm (m := 4260) (n := 10) rfl rfl (by decide))).trans hf_dr
            have hf_mm : f434 mm = .inr (10, [.int m0, .ref wd, .ref my, .ref ce, .ref mv, .ref ta, .int m6, .int a2_435, .int k2_436, .int p2_437, .int v2_438, .long w2_441, .int b2_439, .int q2_440, .int m14, .int m15, .ref li, .ref ha, .ref lw, .ref st, .ref fo, .ref dr, .int m22, .ref ik, .int m24, .int m25, .long m26, .int m27, .int m28, .ref ro, .int m30, .ref ct, .ref se, .ref th, .ref cn, .ref be, .int m36, .ref du, .int m38, .ref db, .int m40, .int m41, .int m42, .ref pn, .ref wg, .ref wh, .ref tn, .ref he, .int m48, .ref tr, .ref fd, .ref po, .int m52, .int m53]) := ha_0
            have hR_r432 : 0 ≤ r432.toInt ∧ r432.toInt ≤ 4 := by omega
            have hC_ : (0 ≤ a2_435.toInt ∧ a2_435.toInt ≤ m6.toInt) ∧ m7.toInt ≤ a2_435.toInt ∧ (b2_439.toInt ≠ 0 ∨ m12.toInt = 0) ∧ ((a2_435.toInt = m7.toInt ∧ k2_436.toInt = m8.toInt) ∨ k2_436.toInt ≠ 3 ∨ m7.toInt < a2_435.toInt) := by refine ⟨⟨?_, ?_⟩, ?_, ?_, ?_⟩ <;> omega
            clear hp
            replace hC := hC_
            clear hC_
            refine z_iast hx hb hK hw 1 hm_dr hf_dr rfl (z_ix i_w426 (by omega)) dX10_driveLine_211 (fun H locs hw => ?_)
            obtain ⟨f443, e_f443⟩ : ∃ z, z = va_up f434 dr (.inl (cy 1, 520, .inl (upd g329 w426.toNatClampNeg r432))) := ⟨_, rfl⟩
            rw [← e_f443] at hw
            have hf_mm : f443 mm = .inr (10, [.int m0, .ref wd, .ref my, .ref ce, .ref mv, .ref ta, .int m6, .int a2_435, .int k2_436, .int p2_437, .int v2_438, .long w2_441, .int b2_439, .int q2_440, .int m14, .int m15, .ref li, .ref ha, .ref lw, .ref st, .ref fo, .ref dr, .int m22, .ref ik, .int m24, .int m25, .long m26, .int m27, .int m28, .ref ro, .int m30, .ref ct, .ref se, .ref th, .ref cn, .ref be, .int m36, .ref du, .int m38, .ref db, .int m40, .int m41, .int m42, .ref pn, .ref wg, .ref wh, .ref tn, .ref he, .int m48, .ref tr, .ref fd, .ref po, .int m52, .int m53]) := (congrFun e_f443 mm).trans (z_up_ne (z_tne hf_mm hf_dr (m := 10) (n := 4260) rfl rfl (by decide)) hf_mm)
            have hf_ta : f443 ta = .inl (cy 0, 1600, .inl gta) := (congrFun e_f443 ta).trans (z_up_ne (z_tne hf_ta hf_dr (m := 12900) (n := 4260) rfl rfl (by decide)) hf_ta)
            have hf_ha : f443 ha = .inl (cy 1, 30, .inl gha) := (congrFun e_f443 ha).trans (z_up_ne (z_tne hf_ha hf_dr (m := 340) (n := 4260) rfl rfl (by decide)) hf_ha)
            have hf_dr : f443 dr = .inl (cy 1, 520, .inl (upd g329 w426.toNatClampNeg r432)) := (congrFun e_f443 dr).trans z_up_self
            have hfr : ∀ b ∈ L, b ≠ mm → b ≠ ha → b ≠ dr → f443 b = f b := fun b hb h0 h1 h2 => (congrFun e_f443 b).trans (z_up_ne h2 (hfr b hb h0 h1 h2))
            obtain ⟨g442, e_g442⟩ : ∃ z, z = (upd g329 w426.toNatClampNeg r432) := ⟨_, rfl⟩
            rw [← e_g442] at hf_dr
            have hq_dr : ∀ j : Nat, q_drv j (g442 j) := z_updQ hq_dr e_g442 (show q_drv _ _ from z_drS6 (z_mod8 i_w426 (by omega)) (show 0 ≤ (r432 : Int32).toInt ∧ (r432 : Int32).toInt ≤ 4 by first | decide | omega))
            refine lv_aload_n hx hb dX10_driveLine_212 rfl (lv_at hl 2 rfl) ?_
            refine z_get (C := RX10) (T := TX10) (N := 54) (ci := 10) (v := .ref dr) hx hb hT zin_X10 hown hK hw hm_mm hf_mm rfl 21 (by decide) (hT _ kw_1189) rfl dX10_driveLine_213 ?_
            refine lv_iload_n hx hb dX10_driveLine_216 rfl (lv_at hl 1 rfl) ?_
            refine lv_bipush (v := 7) hx hb dX10_driveLine_217 (by decide) ?_
            refine lv_iadd hx hb dX10_driveLine_219 ?_
            refine lv_topi (fun w444 e_w444 => ?_)
            have i_w444 : w444.toInt = ((8 * (52 + r2.toInt)) + 7) := z_add e_w444 i_w5 (show (7 : Int32).toInt = 7 by decide) (by omega)
            refine lv_aload_n hx hb dX10_driveLine_220 rfl (lv_at hl 2 rfl) ?_
            refine lv_ldc2 (v := 237281) hx hb hown (hT _ kw_1448) dX10_driveLine_221 ?_
            have hz445 := (show (237281 : Int64).toInt = 237281 by decide)
            refine z_calliV (cells := 0) (slots := 0) (b := mm) (As := [.long 237281]) (rest := [.int w444, .ref dr]) (ci := 10) (q0 := (RX10, TX10, 54)) ⟨hx, hb, hml, hown, hT⟩ (c_X10_takes l hm_mm hm_ta hf_mm hf_ta (by first | omega | decide | assumption) (by first | omega | decide | assumption)) (cwV 1 hT (z_goodV (fun _ h => h) kw_1403 kw_1405 kw_38 kw_96 kw_1406) rfl rfl rfl (by decide +kernel) ⟨by decide, by decide⟩) z_mv hKK hK hw hA hm_mm hf_mm rfl rfl rfl hl.1 rfl (Nat.le_of_ble_eq_true rfl) dX10_driveLine_224 ⟨by decide, by decide⟩ (fun r446 u H locs hp hw => ?_)
            obtain ⟨L447, f448⟩ := u
            obtain ⟨hsb, hfm, a2_449, k2_450, p2_451, v2_452, w2_453, ha_0, hp⟩ := hp
            have hsb : L = L447 := hsb
            subst hsb
            have hsb : ∀ b ∈ L, b ∈ L := fun _ h => h
            have hw : z_H D vwCl (z_A L sz) s.heap L f448 H locs := hw
            have hfr : ∀ b ∈ L, b ≠ mm → b ≠ ha → b ≠ dr → f448 b = f b := fun b hb h0 h1 h2 => (hfm b hb h0).trans (hfr b hb h0 h1 h2)
            have hf_ta : f448 ta = .inl (cy 0, 1600, .inl gta) := (hfm ta hm_ta (z_tne hf_ta hf_mm (m := 12900) (n := 10) rfl rfl (by decide))).trans hf_ta
            have hf_ha : f448 ha = .inl (cy 1, 30, .inl gha) := (hfm ha hm_ha (z_tne hf_ha hf_mm (m := 340) (n := 10) rfl rfl (by decide))).trans hf_ha
            have hf_dr : f448 dr = .inl (cy 1, 520, .inl g442) := (hfm dr hm_dr (z_tne hf_dr hf_mm (m := 4260) (n := 10) rfl rfl (by decide))).trans hf_dr
            have hf_mm : f448 mm = .inr (10, [.int m0, .ref wd, .ref my, .ref ce, .ref mv, .ref ta, .int m6, .int a2_449, .int k2_450, .int p2_451, .int v2_452, .long w2_453, .int b2_439, .int q2_440, .int m14, .int m15, .ref li, .ref ha, .ref lw, .ref st, .ref fo, .ref dr, .int m22, .ref ik, .int m24, .int m25, .long m26, .int m27, .int m28, .ref ro, .int m30, .ref ct, .ref se, .ref th, .ref cn, .ref be, .int m36, .ref du, .int m38, .ref db, .int m40, .int m41, .int m42, .ref pn, .ref wg, .ref wh, .ref tn, .ref he, .int m48, .ref tr, .ref fd, .ref po, .int m52, .int m53]) := ha_0
            have hC_ : (0 ≤ a2_449.toInt ∧ a2_449.toInt ≤ m6.toInt) ∧ m7.toInt ≤ a2_449.toInt ∧ (b2_439.toInt ≠ 0 ∨ m12.toInt = 0) ∧ ((a2_449.toInt = m7.toInt ∧ k2_450.toInt = m8.toInt) ∨ k2_450.toInt ≠ 3 ∨ m7.toInt < a2_449.toInt) := by refine ⟨⟨?_, ?_⟩, ?_, ?_, ?_⟩ <;> omega
            replace hp : (r446 = 1 ∧ True) ∨ (r446 = 0 ∧ True) := hp.1.elim (fun h => Or.inl ⟨h.1, trivial⟩) (fun h => Or.inr ⟨h.1, trivial⟩)
            replace hC := hC_
            clear hC_
            rcases hp with ⟨rfl, h454⟩ | ⟨rfl, h454⟩
            · skip
              refine z_if_eq (tgt := 234) hx hb (show (1 : Int32).toInt = 1 by decide) dX10_driveLine_227 (by decide) (fun h => absurd h (by decide)) (fun _ => ?_)
              refine lv_iconst (v := 1) hx hb dX10_driveLine_230 (by decide) ?_
              refine lv_goto (tgt := 235) hx hb dX10_driveLine_231 (by decide) ?_
              refine z_iast hx hb hK hw 1 hm_dr hf_dr rfl (z_ix i_w444 (by omega)) dX10_driveLine_235 (fun H locs hw => ?_)
              obtain ⟨f456, e_f456⟩ : ∃ z, z = va_up f448 dr (.inl (cy 1, 520, .inl (upd g442 w444.toNatClampNeg 1))) := ⟨_, rfl⟩
              rw [← e_f456] at hw
              have hf_mm : f456 mm = .inr (10, [.int m0, .ref wd, .ref my, .ref ce, .ref mv, .ref ta, .int m6, .int a2_449, .int k2_450, .int p2_451, .int v2_452, .long w2_453, .int b2_439, .int q2_440, .int m14, .int m15, .ref li, .ref ha, .ref lw, .ref st, .ref fo, .ref dr, .int m22, .ref ik, .int m24, .int m25, .long m26, .int m27, .int m28, .ref ro, .int m30, .ref ct, .ref se, .ref th, .ref cn, .ref be, .int m36, .ref du, .int m38, .ref db, .int m40, .int m41, .int m42, .ref pn, .ref wg, .ref wh, .ref tn, .ref he, .int m48, .ref tr, .ref fd, .ref po, .int m52, .int m53]) := (congrFun e_f456 mm).trans (z_up_ne (z_tne hf_mm hf_dr (m := 10) (n := 4260) rfl rfl (by decide)) hf_mm)
              have hf_ta : f456 ta = .inl (cy 0, 1600, .inl gta) := (congrFun e_f456 ta).trans (z_up_ne (z_tne hf_ta hf_dr (m := 12900) (n := 4260) rfl rfl (by decide)) hf_ta)
              have hf_ha : f456 ha = .inl (cy 1, 30, .inl gha) := (congrFun e_f456 ha).trans (z_up_ne (z_tne hf_ha hf_dr (m := 340) (n := 4260) rfl rfl (by decide)) hf_ha)
              have hf_dr : f456 dr = .inl (cy 1, 520, .inl (upd g442 w444.toNatClampNeg 1)) := (congrFun e_f456 dr).trans z_up_self
              have hfr : ∀ b ∈ L, b ≠ mm → b ≠ ha → b ≠ dr → f456 b = f b := fun b hb h0 h1 h2 => (congrFun e_f456 b).trans (z_up_ne h2 (hfr b hb h0 h1 h2))
              obtain ⟨g455, e_g455⟩ : ∃ z, z = (upd g442 w444.toNatClampNeg 1) := ⟨_, rfl⟩
              rw [← e_g455] at hf_dr
              have hq_dr : ∀ j : Nat, q_drv j (g455 j) := z_updQ hq_dr e_g455 (show q_drv _ _ from z_drS7 (z_mod8 i_w444 (by omega)) (show 0 ≤ (1 : Int32).toInt ∧ (1 : Int32).toInt ≤ 1 by first | decide | omega))
              refine lv_aload_n hx hb dX10_driveLine_236 rfl (lv_at hl 2 rfl) ?_
              refine z_get (C := RX10) (T := TX10) (N := 54) (ci := 10) (v := .ref ha) hx hb hT zin_X10 hown hK hw hm_mm hf_mm rfl 17 (by decide) (hT _ kw_1185) rfl dX10_driveLine_237 ?_
              refine lv_bipush (v := 27) hx hb dX10_driveLine_240 (by decide) ?_
              refine lv_dup2_11 hx hb dX10_driveLine_242 rfl rfl ?_
              refine z_iald hx hb hK hw 1 hm_ha hf_ha rfl (z_ix (show (27 : Int32).toInt = 27 by decide) (by decide)) dX10_driveLine_243 ?_
              refine lv_topi (fun w457 e_w457 => ?_)
              have hv_w457 : 0 ≤ w457.toInt ∧ w457.toInt ≤ 12 := by rw [e_w457]; exact (hq_ha _).1.2.2.2 rfl
              have h11 : w457.toInt ≤ 11 := by rw [e_w457]; exact hd11
              refine lv_iconst (v := 1) hx hb dX10_driveLine_244 (by decide) ?_
              refine lv_iadd hx hb dX10_driveLine_245 ?_
              refine lv_topi (fun w458 e_w458 => ?_)
              have i_w458 : w458.toInt = (w457.toInt + 1) := z_add e_w458 rfl (show (1 : Int32).toInt = 1 by decide) (by omega)
              refine z_iast hx hb hK hw 1 hm_ha hf_ha rfl (z_ix (show (27 : Int32).toInt = 27 by decide) (by decide)) dX10_driveLine_246 (fun H locs hw => ?_)
              obtain ⟨f460, e_f460⟩ : ∃ z, z = va_up f456 ha (.inl (cy 1, 30, .inl (upd gha (27 : Int32).toNatClampNeg w458))) := ⟨_, rfl⟩
              rw [← e_f460] at hw
              have hf_mm : f460 mm = .inr (10, [.int m0, .ref wd, .ref my, .ref ce, .ref mv, .ref ta, .int m6, .int a2_449, .int k2_450, .int p2_451, .int v2_452, .long w2_453, .int b2_439, .int q2_440, .int m14, .int m15, .ref li, .ref ha, .ref lw, .ref st, .ref fo, .ref dr, .int m22, .ref ik, .int m24, .int m25, .long m26, .int m27, .int m28, .ref ro, .int m30, .ref ct, .ref se, .ref th, .ref cn, .ref be, .int m36, .ref du, .int m38, .ref db, .int m40, .int m41, .int m42, .ref pn, .ref wg, .ref wh, .ref tn, .ref he, .int m48, .ref tr, .ref fd, .ref po, .int m52, .int m53]) := (congrFun e_f460 mm).trans (z_up_ne (z_tne hf_mm hf_ha (m := 10) (n := 340) rfl rfl (by decide)) hf_mm)
              have hf_ta : f460 ta = .inl (cy 0, 1600, .inl gta) := (congrFun e_f460 ta).trans (z_up_ne (z_tne hf_ta hf_ha (m := 12900) (n := 340) rfl rfl (by decide)) hf_ta)
              have hf_dr : f460 dr = .inl (cy 1, 520, .inl g455) := (congrFun e_f460 dr).trans (z_up_ne (z_tne hf_dr hf_ha (m := 4260) (n := 340) rfl rfl (by decide)) hf_dr)
              have hf_ha : f460 ha = .inl (cy 1, 30, .inl (upd gha (27 : Int32).toNatClampNeg w458)) := (congrFun e_f460 ha).trans z_up_self
              have hfr : ∀ b ∈ L, b ≠ mm → b ≠ ha → b ≠ dr → f460 b = f b := fun b hb h0 h1 h2 => (congrFun e_f460 b).trans (z_up_ne h1 (hfr b hb h0 h1 h2))
              obtain ⟨g459, e_g459⟩ : ∃ z, z = (upd gha (27 : Int32).toNatClampNeg w458) := ⟨_, rfl⟩
              rw [← e_g459] at hf_ha
              have hq_ha : ∀ j : Nat, (q_hasR hz) j (g459 j) := z_updQ hq_ha e_g459 (show q_hasR _ _ _ from ⟨(show q_has _ _ from ⟨(fun h => absurd h (by decide)), (fun h => absurd h (by decide)), (fun h => absurd h (by decide)), (fun _ => (show 0 ≤ (w458 : Int32).toInt ∧ (w458 : Int32).toInt ≤ 12 by first | decide | omega))⟩), fun h => absurd h (by decide)⟩)
              exact z_vret hx hb hr hlk (by decide) (by decide) hw (⟨hsub, hfr, a2_449, k2_450, p2_451, v2_452, b2_439, q2_440, w2_453, g459, g455, hf_mm, hf_ha, hf_dr, hq_ha, hq_dr, by omega, by omega, by omega, by omega⟩) dX10_driveLine_247
            · skip
              refine z_if_eq (tgt := 234) hx hb (show (0 : Int32).toInt = 0 by decide) dX10_driveLine_227 (by decide) (fun _ => ?_) (fun h => absurd h (by decide))
              refine lv_iconst (v := 0) hx hb dX10_driveLine_234 (by decide) ?_
              refine z_iast hx hb hK hw 1 hm_dr hf_dr rfl (z_ix i_w444 (by omega)) dX10_driveLine_235 (fun H locs hw => ?_)
              obtain ⟨f462, e_f462⟩ : ∃ z, z = va_up f448 dr (.inl (cy 1, 520, .inl (upd g442 w444.toNatClampNeg 0))) := ⟨_, rfl⟩
              rw [← e_f462] at hw
              have hf_mm : f462 mm = .inr (10, [.int m0, .ref wd, .ref my, .ref ce, .ref mv, .ref ta, .int m6, .int a2_449, .int k2_450, .int p2_451, .int v2_452, .long w2_453, .int b2_439, .int q2_440, .int m14, .int m15, .ref li, .ref ha, .ref lw, .ref st, .ref fo, .ref dr, .int m22, .ref ik, .int m24, .int m25, .long m26, .int m27, .int m28, .ref ro, .int m30, .ref ct, .ref se, .ref th, .ref cn, .ref be, .int m36, .ref du, .int m38, .ref db, .int m40, .int m41, .int m42, .ref pn, .ref wg, .ref wh, .ref tn, .ref he, .int m48, .ref tr, .ref fd, .ref po, .int m52, .int m53]) := (congrFun e_f462 mm).trans (z_up_ne (z_tne hf_mm hf_dr (m := 10) (n := 4260) rfl rfl (by decide)) hf_mm)
              have hf_ta : f462 ta = .inl (cy 0, 1600, .inl gta) := (congrFun e_f462 ta).trans (z_up_ne (z_tne hf_ta hf_dr (m := 12900) (n := 4260) rfl rfl (by decide)) hf_ta)
              have hf_ha : f462 ha = .inl (cy 1, 30, .inl gha) := (congrFun e_f462 ha).trans (z_up_ne (z_tne hf_ha hf_dr (m := 340) (n := 4260) rfl rfl (by decide)) hf_ha)
              have hf_dr : f462 dr = .inl (cy 1, 520, .inl (upd g442 w444.toNatClampNeg 0)) := (congrFun e_f462 dr).trans z_up_self
              have hfr : ∀ b ∈ L, b ≠ mm → b ≠ ha → b ≠ dr → f462 b = f b := fun b hb h0 h1 h2 => (congrFun e_f462 b).trans (z_up_ne h2 (hfr b hb h0 h1 h2))
              obtain ⟨g461, e_g461⟩ : ∃ z, z = (upd g442 w444.toNatClampNeg 0) := ⟨_, rfl⟩
              rw [← e_g461] at hf_dr
              have hq_dr : ∀ j : Nat, q_drv j (g461 j) := z_updQ hq_dr e_g461 (show q_drv _ _ from z_drS7 (z_mod8 i_w444 (by omega)) (show 0 ≤ (0 : Int32).toInt ∧ (0 : Int32).toInt ≤ 1 by first | decide | omega))
              refine lv_aload_n hx hb dX10_driveLine_236 rfl (lv_at hl 2 rfl) ?_
              refine z_get (C := RX10) (T := TX10) (N := 54) (ci := 10) (v := .ref ha) hx hb hT zin_X10 hown hK hw hm_mm hf_mm rfl 17 (by decide) (hT _ kw_1185) rfl dX10_driveLine_237 ?_
              refine lv_bipush (v := 27) hx hb dX10_driveLine_240 (by decide) ?_
              refine lv_dup2_11 hx hb dX10_driveLine_242 rfl rfl ?_
              refine z_iald hx hb hK hw 1 hm_ha hf_ha rfl (z_ix (show (27 : Int32).toInt = 27 by decide) (by decide)) dX10_driveLine_243 ?_
              refine lv_topi (fun w463 e_w463 => ?_)
              have hv_w463 : 0 ≤ w463.toInt ∧ w463.toInt ≤ 12 := by rw [e_w463]; exact (hq_ha _).1.2.2.2 rfl
              have h11 : w463.toInt ≤ 11 := by rw [e_w463]; exact hd11
              refine lv_iconst (v := 1) hx hb dX10_driveLine_244 (by decide) ?_
              refine lv_iadd hx hb dX10_driveLine_245 ?_
              refine lv_topi (fun w464 e_w464 => ?_)
              have i_w464 : w464.toInt = (w463.toInt + 1) := z_add e_w464 rfl (show (1 : Int32).toInt = 1 by decide) (by omega)
              refine z_iast hx hb hK hw 1 hm_ha hf_ha rfl (z_ix (show (27 : Int32).toInt = 27 by decide) (by decide)) dX10_driveLine_246 (fun H locs hw => ?_)
              obtain ⟨f466, e_f466⟩ : ∃ z, z = va_up f462 ha (.inl (cy 1, 30, .inl (upd gha (27 : Int32).toNatClampNeg w464))) := ⟨_, rfl⟩
              rw [← e_f466] at hw
              have hf_mm : f466 mm = .inr (10, [.int m0, .ref wd, .ref my, .ref ce, .ref mv, .ref ta, .int m6, .int a2_449, .int k2_450, .int p2_451, .int v2_452, .long w2_453, .int b2_439, .int q2_440, .int m14, .int m15, .ref li, .ref ha, .ref lw, .ref st, .ref fo, .ref dr, .int m22, .ref ik, .int m24, .int m25, .long m26, .int m27, .int m28, .ref ro, .int m30, .ref ct, .ref se, .ref th, .ref cn, .ref be, .int m36, .ref du, .int m38, .ref db, .int m40, .int m41, .int m42, .ref pn, .ref wg, .ref wh, .ref tn, .ref he, .int m48, .ref tr, .ref fd, .ref po, .int m52, .int m53]) := (congrFun e_f466 mm).trans (z_up_ne (z_tne hf_mm hf_ha (m := 10) (n := 340) rfl rfl (by decide)) hf_mm)
              have hf_ta : f466 ta = .inl (cy 0, 1600, .inl gta) := (congrFun e_f466 ta).trans (z_up_ne (z_tne hf_ta hf_ha (m := 12900) (n := 340) rfl rfl (by decide)) hf_ta)
              have hf_dr : f466 dr = .inl (cy 1, 520, .inl g461) := (congrFun e_f466 dr).trans (z_up_ne (z_tne hf_dr hf_ha (m := 4260) (n := 340) rfl rfl (by decide)) hf_dr)
              have hf_ha : f466 ha = .inl (cy 1, 30, .inl (upd gha (27 : Int32).toNatClampNeg w464)) := (congrFun e_f466 ha).trans z_up_self
              have hfr : ∀ b ∈ L, b ≠ mm → b ≠ ha → b ≠ dr → f466 b = f b := fun b hb h0 h1 h2 => (congrFun e_f466 b).trans (z_up_ne h1 (hfr b hb h0 h1 h2))
              obtain ⟨g465, e_g465⟩ : ∃ z, z = (upd gha (27 : Int32).toNatClampNeg w464) := ⟨_, rfl⟩
              rw [← e_g465] at hf_ha
              have hq_ha : ∀ j : Nat, (q_hasR hz) j (g465 j) := z_updQ hq_ha e_g465 (show q_hasR _ _ _ from ⟨(show q_has _ _ from ⟨(fun h => absurd h (by decide)), (fun h => absurd h (by decide)), (fun h => absurd h (by decide)), (fun _ => (show 0 ≤ (w464 : Int32).toInt ∧ (w464 : Int32).toInt ≤ 12 by first | decide | omega))⟩), fun h => absurd h (by decide)⟩)
              exact z_vret hx hb hr hlk (by decide) (by decide) hw (⟨hsub, hfr, a2_449, k2_450, p2_451, v2_452, b2_439, q2_440, w2_453, g465, g461, hf_mm, hf_ha, hf_dr, hq_ha, hq_dr, by omega, by omega, by omega, by omega⟩) dX10_driveLine_247
          · skip
            refine lv_aload_n hx hb dX10_driveLine_186 rfl (lv_at hl 2 rfl) ?_
            refine lv_iconst (v := 2) hx hb dX10_driveLine_187 (by decide) ?_
            have hz467 := (show (2 : Int32).toInt = 2 by decide)
            refine z_callvV (cells := 0) (slots := 0) (b := mm) (As := [.int 2]) (rest := []) (ci := 10) (q0 := (RX10, TX10, 54)) ⟨hx, hb, hml, hown, hT⟩ (c_X10_fails l hm_mm hf_mm (by first | omega | decide | assumption)) (cwV 1 hT (z_goodV (fun _ h => h) kw_1411 kw_1413 kw_40 kw_96 kw_1414) rfl rfl rfl (by decide +kernel) ⟨by decide, by decide⟩) z_mv hKK hK hw hA hm_mm hf_mm rfl rfl rfl hl.1 rfl (Nat.le_of_ble_eq_true rfl) dX10_driveLine_188 ⟨by decide, by decide⟩ (fun u H locs hp hw => ?_)
            obtain ⟨L468, f469⟩ := u
            obtain ⟨hsb, hfm, b2_470, p2_471, ha_0, hp⟩ := hp
            have hsb : L = L468 := hsb
            subst hsb
            have hsb : ∀ b ∈ L, b ∈ L := fun _ h => h
            have hw : z_H D vwCl (z_A L sz) s.heap L f469 H locs := hw
            have hfr : ∀ b ∈ L, b ≠ mm → b ≠ ha → b ≠ dr → f469 b = f b := fun b hb h0 h1 h2 => (hfm b hb h0).trans (hfr b hb h0 h1 h2)
            have hf_ta : f469 ta = .inl (cy 0, 1600, .inl gta) := (hfm ta hm_ta (z_tne hf_ta hf_mm (m := 12900) (n := 10) rfl rfl (by decide))).trans hf_ta
            have hf_ha : f469 ha = .inl (cy 1, 30, .inl gha) := (hfm ha hm_ha (z_tne hf_ha hf_mm (m := 340) (n := 10) rfl rfl (by decide))).trans hf_ha
            have hf_dr : f469 dr = .inl (cy 1, 520, .inl g329) := (hfm dr hm_dr (z_tne hf_dr hf_mm (m := 4260) (n := 10) rfl rfl (by decide))).trans hf_dr
            have hf_mm : f469 mm = .inr (10, [.int m0, .ref wd, .ref my, .ref ce, .ref mv, .ref ta, .int m6, .int a2_335, .int k2_336, .int p2_337, .int v2_338, .long w2_339, .int b2_470, .int p2_471, .int m14, .int m15, .ref li, .ref ha, .ref lw, .ref st, .ref fo, .ref dr, .int m22, .ref ik, .int m24, .int m25, .long m26, .int m27, .int m28, .ref ro, .int m30, .ref ct, .ref se, .ref th, .ref cn, .ref be, .int m36, .ref du, .int m38, .ref db, .int m40, .int m41, .int m42, .ref pn, .ref wg, .ref wh, .ref tn, .ref he, .int m48, .ref tr, .ref fd, .ref po, .int m52, .int m53]) := ha_0
            have hC_ : (0 ≤ a2_335.toInt ∧ a2_335.toInt ≤ m6.toInt) ∧ m7.toInt ≤ a2_335.toInt ∧ (b2_470.toInt ≠ 0 ∨ m12.toInt = 0) ∧ ((a2_335.toInt = m7.toInt ∧ k2_336.toInt = m8.toInt) ∨ k2_336.toInt ≠ 3 ∨ m7.toInt < a2_335.toInt) := by refine ⟨⟨?_, ?_⟩, ?_, ?_, ?_⟩ <;> omega
            clear hp
            replace hC := hC_
            clear hC_
            refine lv_aload_n hx hb dX10_driveLine_191 rfl (lv_at hl 2 rfl) ?_
            refine z_get (C := RX10) (T := TX10) (N := 54) (ci := 10) (v := .ref dr) hx hb hT zin_X10 hown hK hw hm_mm hf_mm rfl 21 (by decide) (hT _ kw_1189) rfl dX10_driveLine_192 ?_
            refine lv_iload_n hx hb dX10_driveLine_195 rfl (lv_at hl 1 rfl) ?_
            refine lv_bipush (v := 6) hx hb dX10_driveLine_196 (by decide) ?_
            refine lv_iadd hx hb dX10_driveLine_198 ?_
            refine lv_topi (fun w472 e_w472 => ?_)
            have i_w472 : w472.toInt = ((8 * (52 + r2.toInt)) + 6) := z_add e_w472 i_w5 (show (6 : Int32).toInt = 6 by decide) (by omega)
            refine lv_aload_n hx hb dX10_driveLine_199 rfl (lv_at hl 2 rfl) ?_
            refine lv_iconst (v := 0) hx hb dX10_driveLine_200 (by decide) ?_
            refine lv_aload_n hx hb dX10_driveLine_201 rfl (lv_at hl 2 rfl) ?_
            refine lv_iconst (v := 2) hx hb dX10_driveLine_202 (by decide) ?_
            have hz473 := (show (2 : Int32).toInt = 2 by decide)
            refine z_calliV (cells := 0) (slots := 0) (b := mm) (As := [.int 2]) (rest := [.int 0, .ref mm, .int w472, .ref dr]) (ci := 10) (q0 := (RX10, TX10, 54)) ⟨hx, hb, hml, hown, hT⟩ (c_X10_hasRead l hm_mm hm_ha hf_mm hf_ha hq_ha (by decide)) (cwV 1 hT (z_goodV (fun _ h => h) kw_1434 kw_1436 kw_44 kw_96 kw_1437) rfl rfl rfl (by decide +kernel) ⟨by decide, by decide⟩) z_mv hKK hK hw hA hm_mm hf_mm rfl rfl rfl hl.1 rfl (Nat.le_of_ble_eq_true rfl) dX10_driveLine_203 ⟨by decide, by decide⟩ (fun r474 u H locs hp hw => ?_)
            obtain ⟨rfl, hp⟩ := hp
            have hw : z_H D vwCl (z_A L sz) s.heap L f469 H locs := hw
            have hh475 : 0 ≤ r474.toInt ∧ r474.toInt ≤ 5 := by rw [hp]; exact (hq_ha 26).1.2.2.1 rfl
            refine lv_iconst (v := 1) hx hb dX10_driveLine_206 (by decide) ?_
            refine lv_isub hx hb dX10_driveLine_207 ?_
            refine lv_topi (fun w476 e_w476 => ?_)
            have i_w476 : w476.toInt = (r474.toInt - 1) := z_subI e_w476 rfl (show (1 : Int32).toInt = 1 by decide) (by omega)
            have hz477 := (show (0 : Int32).toInt = 0 by decide)
            refine z_calliV (cells := 0) (slots := 0) (b := mm) (As := [.int 0, .int w476]) (rest := [.int w472, .ref dr]) (ci := 10) (q0 := (RX10, TX10, 54)) ⟨hx, hb, hml, hown, hT⟩ (c_X10_number l hm_mm hm_ta hf_mm hf_ta (by first | omega | decide | assumption) (by first | omega | decide | assumption)) (cwV 2 hT (z_goodV (fun _ h => h) kw_1420 kw_1422 kw_42 kw_96 kw_1423) rfl rfl rfl (by decide +kernel) ⟨by decide, by decide⟩) z_mv hKK hK hw hA hm_mm hf_mm rfl rfl rfl hl.1 rfl (Nat.le_of_ble_eq_true rfl) dX10_driveLine_208 ⟨by decide, by decide⟩ (fun r478 u H locs hp hw => ?_)
            obtain ⟨L479, f480⟩ := u
            obtain ⟨hsb, hfm, a2_481, k2_482, p2_483, v2_484, b2_485, q2_486, w2_487, ha_0, hp⟩ := hp
            have hsb : L = L479 := hsb
            subst hsb
            have hsb : ∀ b ∈ L, b ∈ L := fun _ h => h
            have hw : z_H D vwCl (z_A L sz) s.heap L f480 H locs := hw
            have hfr : ∀ b ∈ L, b ≠ mm → b ≠ ha → b ≠ dr → f480 b = f b := fun b hb h0 h1 h2 => (hfm b hb h0).trans (hfr b hb h0 h1 h2)
            have hf_ta : f480 ta = .inl (cy 0, 1600, .inl gta) := (hfm ta hm_ta (z_tne hf_ta hf_mm (m := 12900) (n := 10) rfl rfl (by decide))).trans hf_ta
            have hf_ha : f480 ha = .inl (cy 1, 30, .inl gha) := (hfm ha hm_ha (z_tne hf_ha hf_mm (m := 340) (n := 10) rfl rfl (by decide))).trans hf_ha
            have hf_dr : f480 dr = .inl (cy 1, 520, .inl g329) := (hfm dr hm_dr (z_tne hf_dr hf_mm (m := 4260) (n := 10) rfl rfl (by decide))).trans hf_dr
            have hf_mm : f480 mm = .inr (10, [.int m0, .ref wd, .ref my, .ref ce, .ref mv, .ref ta, .int m6, .int a2_481, .int k2_482, .int p2_483, .int v2_484, .long w2_487, .int b2_485, .int q2_486, .int m14, .int m15, .ref li, .ref ha, .ref lw, .ref st, .ref fo, .ref dr, .int m22, .ref ik, .int m24, .int m25, .long m26, .int m27, .int m28, .ref ro, .int m30, .ref ct, .ref se, .ref th, .ref cn, .ref be, .int m36, .ref du, .int m38, .ref db, .int m40, .int m41, .int m42, .ref pn, .ref wg, .ref wh, .ref tn, .ref he, .int m48, .ref tr, .ref fd, .ref po, .int m52, .int m53]) := ha_0
            have hR_r478 : 0 ≤ r478.toInt ∧ r478.toInt ≤ 4 := by omega
            have hC_ : (0 ≤ a2_481.toInt ∧ a2_481.toInt ≤ m6.toInt) ∧ m7.toInt ≤ a2_481.toInt ∧ (b2_485.toInt ≠ 0 ∨ m12.toInt = 0) ∧ ((a2_481.toInt = m7.toInt ∧ k2_482.toInt = m8.toInt) ∨ k2_482.toInt ≠ 3 ∨ m7.toInt < a2_481.toInt) := by refine ⟨⟨?_, ?_⟩, ?_, ?_, ?_⟩ <;> omega
            clear hp
            replace hC := hC_
            clear hC_
            refine z_iast hx hb hK hw 1 hm_dr hf_dr rfl (z_ix i_w472 (by omega)) dX10_driveLine_211 (fun H locs hw => ?_)
            obtain ⟨f489, e_f489⟩ : ∃ z, z = va_up f480 dr (.inl (cy 1, 520, .inl (upd g329 w472.toNatClampNeg r478))) := ⟨_, rfl⟩
            rw [← e_f489] at hw
            have hf_mm : f489 mm = .inr (10, [.int m0, .ref wd, .ref my, .ref ce, .ref mv, .ref ta, .int m6, .int a2_481, .int k2_482, .int p2_483, .int v2_484, .long w2_487, .int b2_485, .int q2_486, .int m14, .int m15, .ref li, .ref ha, .ref lw, .ref st, .ref fo, .ref dr, .int m22, .ref ik, .int m24, .int m25, .long m26, .int m27, .int m28, .ref ro, .int m30, .ref ct, .ref se, .ref th, .ref cn, .ref be, .int m36, .ref du, .int m38, .ref db, .int m40, .int m41, .int m42, .ref pn, .ref wg, .ref wh, .ref tn, .ref he, .int m48, .ref tr, .ref fd, .ref po, .int m52, .int m53]) := (congrFun e_f489 mm).trans (z_up_ne (z_tne hf_mm hf_dr (m := 10) (n := 4260) rfl rfl (by decide)) hf_mm)
            have hf_ta : f489 ta = .inl (cy 0, 1600, .inl gta) := (congrFun e_f489 ta).trans (z_up_ne (z_tne hf_ta hf_dr (m := 12900) (n := 4260) rfl rfl (by decide)) hf_ta)
            have hf_ha : f489 ha = .inl (cy 1, 30, .inl gha) := (congrFun e_f489 ha).trans (z_up_ne (z_tne hf_ha hf_dr (m := 340) (n := 4260) rfl rfl (by decide)) hf_ha)
            have hf_dr : f489 dr = .inl (cy 1, 520, .inl (upd g329 w472.toNatClampNeg r478)) := (congrFun e_f489 dr).trans z_up_self
            have hfr : ∀ b ∈ L, b ≠ mm → b ≠ ha → b ≠ dr → f489 b = f b := fun b hb h0 h1 h2 => (congrFun e_f489 b).trans (z_up_ne h2 (hfr b hb h0 h1 h2))
            obtain ⟨g488, e_g488⟩ : ∃ z, z = (upd g329 w472.toNatClampNeg r478) := ⟨_, rfl⟩
            rw [← e_g488] at hf_dr
            have hq_dr : ∀ j : Nat, q_drv j (g488 j) := z_updQ hq_dr e_g488 (show q_drv _ _ from z_drS6 (z_mod8 i_w472 (by omega)) (show 0 ≤ (r478 : Int32).toInt ∧ (r478 : Int32).toInt ≤ 4 by first | decide | omega))
            refine lv_aload_n hx hb dX10_driveLine_212 rfl (lv_at hl 2 rfl) ?_
            refine z_get (C := RX10) (T := TX10) (N := 54) (ci := 10) (v := .ref dr) hx hb hT zin_X10 hown hK hw hm_mm hf_mm rfl 21 (by decide) (hT _ kw_1189) rfl dX10_driveLine_213 ?_
            refine lv_iload_n hx hb dX10_driveLine_216 rfl (lv_at hl 1 rfl) ?_
            refine lv_bipush (v := 7) hx hb dX10_driveLine_217 (by decide) ?_
            refine lv_iadd hx hb dX10_driveLine_219 ?_
            refine lv_topi (fun w490 e_w490 => ?_)
            have i_w490 : w490.toInt = ((8 * (52 + r2.toInt)) + 7) := z_add e_w490 i_w5 (show (7 : Int32).toInt = 7 by decide) (by omega)
            refine lv_aload_n hx hb dX10_driveLine_220 rfl (lv_at hl 2 rfl) ?_
            refine lv_ldc2 (v := 237281) hx hb hown (hT _ kw_1448) dX10_driveLine_221 ?_
            have hz491 := (show (237281 : Int64).toInt = 237281 by decide)
            refine z_calliV (cells := 0) (slots := 0) (b := mm) (As := [.long 237281]) (rest := [.int w490, .ref dr]) (ci := 10) (q0 := (RX10, TX10, 54)) ⟨hx, hb, hml, hown, hT⟩ (c_X10_takes l hm_mm hm_ta hf_mm hf_ta (by first | omega | decide | assumption) (by first | omega | decide | assumption)) (cwV 1 hT (z_goodV (fun _ h => h) kw_1403 kw_1405 kw_38 kw_96 kw_1406) rfl rfl rfl (by decide +kernel) ⟨by decide, by decide⟩) z_mv hKK hK hw hA hm_mm hf_mm rfl rfl rfl hl.1 rfl (Nat.le_of_ble_eq_true rfl) dX10_driveLine_224 ⟨by decide, by decide⟩ (fun r492 u H locs hp hw => ?_)
            obtain ⟨L493, f494⟩ := u
            obtain ⟨hsb, hfm, a2_495, k2_496, p2_497, v2_498, w2_499, ha_0, hp⟩ := hp
            have hsb : L = L493 := hsb
            subst hsb
            have hsb : ∀ b ∈ L, b ∈ L := fun _ h => h
            have hw : z_H D vwCl (z_A L sz) s.heap L f494 H locs := hw
            have hfr : ∀ b ∈ L, b ≠ mm → b ≠ ha → b ≠ dr → f494 b = f b := fun b hb h0 h1 h2 => (hfm b hb h0).trans (hfr b hb h0 h1 h2)
            have hf_ta : f494 ta = .inl (cy 0, 1600, .inl gta) := (hfm ta hm_ta (z_tne hf_ta hf_mm (m := 12900) (n := 10) rfl rfl (by decide))).trans hf_ta
            have hf_ha : f494 ha = .inl (cy 1, 30, .inl gha) := (hfm ha hm_ha (z_tne hf_ha hf_mm (m := 340) (n := 10) rfl rfl (by decide))).trans hf_ha
            have hf_dr : f494 dr = .inl (cy 1, 520, .inl g488) := (hfm dr hm_dr (z_tne hf_dr hf_mm (m := 4260) (n := 10) rfl rfl (by decide))).trans hf_dr
            have hf_mm : f494 mm = .inr (10, [.int m0, .ref wd, .ref my, .ref ce, .ref mv, .ref ta, .int m6, .int a2_495, .int k2_496, .int p2_497, .int v2_498, .long w2_499, .int b2_485, .int q2_486, .int m14, .int m15, .ref li, .ref ha, .ref lw, .ref st, .ref fo, .ref dr, .int m22, .ref ik, .int m24, .int m25, .long m26, .int m27, .int m28, .ref ro, .int m30, .ref ct, .ref se, .ref th, .ref cn, .ref be, .int m36, .ref du, .int m38, .ref db, .int m40, .int m41, .int m42, .ref pn, .ref wg, .ref wh, .ref tn, .ref he, .int m48, .ref tr, .ref fd, .ref po, .int m52, .int m53]) := ha_0
            have hC_ : (0 ≤ a2_495.toInt ∧ a2_495.toInt ≤ m6.toInt) ∧ m7.toInt ≤ a2_495.toInt ∧ (b2_485.toInt ≠ 0 ∨ m12.toInt = 0) ∧ ((a2_495.toInt = m7.toInt ∧ k2_496.toInt = m8.toInt) ∨ k2_496.toInt ≠ 3 ∨ m7.toInt < a2_495.toInt) := by refine ⟨⟨?_, ?_⟩, ?_, ?_, ?_⟩ <;> omega
            replace hp : (r492 = 1 ∧ True) ∨ (r492 = 0 ∧ True) := hp.1.elim (fun h => Or.inl ⟨h.1, trivial⟩) (fun h => Or.inr ⟨h.1, trivial⟩)
            replace hC := hC_
            clear hC_
            rcases hp with ⟨rfl, h500⟩ | ⟨rfl, h500⟩
            · skip
              refine z_if_eq (tgt := 234) hx hb (show (1 : Int32).toInt = 1 by decide) dX10_driveLine_227 (by decide) (fun h => absurd h (by decide)) (fun _ => ?_)
              refine lv_iconst (v := 1) hx hb dX10_driveLine_230 (by decide) ?_
              refine lv_goto (tgt := 235) hx hb dX10_driveLine_231 (by decide) ?_
              refine z_iast hx hb hK hw 1 hm_dr hf_dr rfl (z_ix i_w490 (by omega)) dX10_driveLine_235 (fun H locs hw => ?_)
              obtain ⟨f502, e_f502⟩ : ∃ z, z = va_up f494 dr (.inl (cy 1, 520, .inl (upd g488 w490.toNatClampNeg 1))) := ⟨_, rfl⟩
              rw [← e_f502] at hw
              have hf_mm : f502 mm = .inr (10, [.int m0, .ref wd, .ref my, .ref ce, .ref mv, .ref ta, .int m6, .int a2_495, .int k2_496, .int p2_497, .int v2_498, .long w2_499, .int b2_485, .int q2_486, .int m14, .int m15, .ref li, .ref ha, .ref lw, .ref st, .ref fo, .ref dr, .int m22, .ref ik, .int m24, .int m25, .long m26, .int m27, .int m28, .ref ro, .int m30, .ref ct, .ref se, .ref th, .ref cn, .ref be, .int m36, .ref du, .int m38, .ref db, .int m40, .int m41, .int m42, .ref pn, .ref wg, .ref wh, .ref tn, .ref he, .int m48, .ref tr, .ref fd, .ref po, .int m52, .int m53]) := (congrFun e_f502 mm).trans (z_up_ne (z_tne hf_mm hf_dr (m := 10) (n := 4260) rfl rfl (by decide)) hf_mm)
              have hf_ta : f502 ta = .inl (cy 0, 1600, .inl gta) := (congrFun e_f502 ta).trans (z_up_ne (z_tne hf_ta hf_dr (m := 12900) (n := 4260) rfl rfl (by decide)) hf_ta)
              have hf_ha : f502 ha = .inl (cy 1, 30, .inl gha) := (congrFun e_f502 ha).trans (z_up_ne (z_tne hf_ha hf_dr (m := 340) (n := 4260) rfl rfl (by decide)) hf_ha)
              have hf_dr : f502 dr = .inl (cy 1, 520, .inl (upd g488 w490.toNatClampNeg 1)) := (congrFun e_f502 dr).trans z_up_self
              have hfr : ∀ b ∈ L, b ≠ mm → b ≠ ha → b ≠ dr → f502 b = f b := fun b hb h0 h1 h2 => (congrFun e_f502 b).trans (z_up_ne h2 (hfr b hb h0 h1 h2))
              obtain ⟨g501, e_g501⟩ : ∃ z, z = (upd g488 w490.toNatClampNeg 1) := ⟨_, rfl⟩
              rw [← e_g501] at hf_dr
              have hq_dr : ∀ j : Nat, q_drv j (g501 j) := z_updQ hq_dr e_g501 (show q_drv _ _ from z_drS7 (z_mod8 i_w490 (by omega)) (show 0 ≤ (1 : Int32).toInt ∧ (1 : Int32).toInt ≤ 1 by first | decide | omega))
              refine lv_aload_n hx hb dX10_driveLine_236 rfl (lv_at hl 2 rfl) ?_
              refine z_get (C := RX10) (T := TX10) (N := 54) (ci := 10) (v := .ref ha) hx hb hT zin_X10 hown hK hw hm_mm hf_mm rfl 17 (by decide) (hT _ kw_1185) rfl dX10_driveLine_237 ?_
              refine lv_bipush (v := 27) hx hb dX10_driveLine_240 (by decide) ?_
              refine lv_dup2_11 hx hb dX10_driveLine_242 rfl rfl ?_
              refine z_iald hx hb hK hw 1 hm_ha hf_ha rfl (z_ix (show (27 : Int32).toInt = 27 by decide) (by decide)) dX10_driveLine_243 ?_
              refine lv_topi (fun w503 e_w503 => ?_)
              have hv_w503 : 0 ≤ w503.toInt ∧ w503.toInt ≤ 12 := by rw [e_w503]; exact (hq_ha _).1.2.2.2 rfl
              have h11 : w503.toInt ≤ 11 := by rw [e_w503]; exact hd11
              refine lv_iconst (v := 1) hx hb dX10_driveLine_244 (by decide) ?_
              refine lv_iadd hx hb dX10_driveLine_245 ?_
              refine lv_topi (fun w504 e_w504 => ?_)
              have i_w504 : w504.toInt = (w503.toInt + 1) := z_add e_w504 rfl (show (1 : Int32).toInt = 1 by decide) (by omega)
              refine z_iast hx hb hK hw 1 hm_ha hf_ha rfl (z_ix (show (27 : Int32).toInt = 27 by decide) (by decide)) dX10_driveLine_246 (fun H locs hw => ?_)
              obtain ⟨f506, e_f506⟩ : ∃ z, z = va_up f502 ha (.inl (cy 1, 30, .inl (upd gha (27 : Int32).toNatClampNeg w504))) := ⟨_, rfl⟩
              rw [← e_f506] at hw
              have hf_mm : f506 mm = .inr (10, [.int m0, .ref wd, .ref my, .ref ce, .ref mv, .ref ta, .int m6, .int a2_495, .int k2_496, .int p2_497, .int v2_498, .long w2_499, .int b2_485, .int q2_486, .int m14, .int m15, .ref li, .ref ha, .ref lw, .ref st, .ref fo, .ref dr, .int m22, .ref ik, .int m24, .int m25, .long m26, .int m27, .int m28, .ref ro, .int m30, .ref ct, .ref se, .ref th, .ref cn, .ref be, .int m36, .ref du, .int m38, .ref db, .int m40, .int m41, .int m42, .ref pn, .ref wg, .ref wh, .ref tn, .ref he, .int m48, .ref tr, .ref fd, .ref po, .int m52, .int m53]) := (congrFun e_f506 mm).trans (z_up_ne (z_tne hf_mm hf_ha (m := 10) (n := 340) rfl rfl (by decide)) hf_mm)
              have hf_ta : f506 ta = .inl (cy 0, 1600, .inl gta) := (congrFun e_f506 ta).trans (z_up_ne (z_tne hf_ta hf_ha (m := 12900) (n := 340) rfl rfl (by decide)) hf_ta)
              have hf_dr : f506 dr = .inl (cy 1, 520, .inl g501) := (congrFun e_f506 dr).trans (z_up_ne (z_tne hf_dr hf_ha (m := 4260) (n := 340) rfl rfl (by decide)) hf_dr)
              have hf_ha : f506 ha = .inl (cy 1, 30, .inl (upd gha (27 : Int32).toNatClampNeg w504)) := (congrFun e_f506 ha).trans z_up_self
              have hfr : ∀ b ∈ L, b ≠ mm → b ≠ ha → b ≠ dr → f506 b = f b := fun b hb h0 h1 h2 => (congrFun e_f506 b).trans (z_up_ne h1 (hfr b hb h0 h1 h2))
              obtain ⟨g505, e_g505⟩ : ∃ z, z = (upd gha (27 : Int32).toNatClampNeg w504) := ⟨_, rfl⟩
              rw [← e_g505] at hf_ha
              have hq_ha : ∀ j : Nat, (q_hasR hz) j (g505 j) := z_updQ hq_ha e_g505 (show q_hasR _ _ _ from ⟨(show q_has _ _ from ⟨(fun h => absurd h (by decide)), (fun h => absurd h (by decide)), (fun h => absurd h (by decide)), (fun _ => (show 0 ≤ (w504 : Int32).toInt ∧ (w504 : Int32).toInt ≤ 12 by first | decide | omega))⟩), fun h => absurd h (by decide)⟩)
              exact z_vret hx hb hr hlk (by decide) (by decide) hw (⟨hsub, hfr, a2_495, k2_496, p2_497, v2_498, b2_485, q2_486, w2_499, g505, g501, hf_mm, hf_ha, hf_dr, hq_ha, hq_dr, by omega, by omega, by omega, by omega⟩) dX10_driveLine_247
            · skip
              refine z_if_eq (tgt := 234) hx hb (show (0 : Int32).toInt = 0 by decide) dX10_driveLine_227 (by decide) (fun _ => ?_) (fun h => absurd h (by decide))
              refine lv_iconst (v := 0) hx hb dX10_driveLine_234 (by decide) ?_
              refine z_iast hx hb hK hw 1 hm_dr hf_dr rfl (z_ix i_w490 (by omega)) dX10_driveLine_235 (fun H locs hw => ?_)
              obtain ⟨f508, e_f508⟩ : ∃ z, z = va_up f494 dr (.inl (cy 1, 520, .inl (upd g488 w490.toNatClampNeg 0))) := ⟨_, rfl⟩
              rw [← e_f508] at hw
              have hf_mm : f508 mm = .inr (10, [.int m0, .ref wd, .ref my, .ref ce, .ref mv, .ref ta, .int m6, .int a2_495, .int k2_496, .int p2_497, .int v2_498, .long w2_499, .int b2_485, .int q2_486, .int m14, .int m15, .ref li, .ref ha, .ref lw, .ref st, .ref fo, .ref dr, .int m22, .ref ik, .int m24, .int m25, .long m26, .int m27, .int m28, .ref ro, .int m30, .ref ct, .ref se, .ref th, .ref cn, .ref be, .int m36, .ref du, .int m38, .ref db, .int m40, .int m41, .int m42, .ref pn, .ref wg, .ref wh, .ref tn, .ref he, .int m48, .ref tr, .ref fd, .ref po, .int m52, .int m53]) := (congrFun e_f508 mm).trans (z_up_ne (z_tne hf_mm hf_dr (m := 10) (n := 4260) rfl rfl (by decide)) hf_mm)
              have hf_ta : f508 ta = .inl (cy 0, 1600, .inl gta) := (congrFun e_f508 ta).trans (z_up_ne (z_tne hf_ta hf_dr (m := 12900) (n := 4260) rfl rfl (by decide)) hf_ta)
              have hf_ha : f508 ha = .inl (cy 1, 30, .inl gha) := (congrFun e_f508 ha).trans (z_up_ne (z_tne hf_ha hf_dr (m := 340) (n := 4260) rfl rfl (by decide)) hf_ha)
              have hf_dr : f508 dr = .inl (cy 1, 520, .inl (upd g488 w490.toNatClampNeg 0)) := (congrFun e_f508 dr).trans z_up_self
              have hfr : ∀ b ∈ L, b ≠ mm → b ≠ ha → b ≠ dr → f508 b = f b := fun b hb h0 h1 h2 => (congrFun e_f508 b).trans (z_up_ne h2 (hfr b hb h0 h1 h2))
              obtain ⟨g507, e_g507⟩ : ∃ z, z = (upd g488 w490.toNatClampNeg 0) := ⟨_, rfl⟩
              rw [← e_g507] at hf_dr
              have hq_dr : ∀ j : Nat, q_drv j (g507 j) := z_updQ hq_dr e_g507 (show q_drv _ _ from z_drS7 (z_mod8 i_w490 (by omega)) (show 0 ≤ (0 : Int32).toInt ∧ (0 : Int32).toInt ≤ 1 by first | decide | omega))
              refine lv_aload_n hx hb dX10_driveLine_236 rfl (lv_at hl 2 rfl) ?_
              refine z_get (C := RX10) (T := TX10) (N := 54) (ci := 10) (v := .ref ha) hx hb hT zin_X10 hown hK hw hm_mm hf_mm rfl 17 (by decide) (hT _ kw_1185) rfl dX10_driveLine_237 ?_
              refine lv_bipush (v := 27) hx hb dX10_driveLine_240 (by decide) ?_
              refine lv_dup2_11 hx hb dX10_driveLine_242 rfl rfl ?_
              refine z_iald hx hb hK hw 1 hm_ha hf_ha rfl (z_ix (show (27 : Int32).toInt = 27 by decide) (by decide)) dX10_driveLine_243 ?_
              refine lv_topi (fun w509 e_w509 => ?_)
              have hv_w509 : 0 ≤ w509.toInt ∧ w509.toInt ≤ 12 := by rw [e_w509]; exact (hq_ha _).1.2.2.2 rfl
              have h11 : w509.toInt ≤ 11 := by rw [e_w509]; exact hd11
              refine lv_iconst (v := 1) hx hb dX10_driveLine_244 (by decide) ?_
              refine lv_iadd hx hb dX10_driveLine_245 ?_
              refine lv_topi (fun w510 e_w510 => ?_)
              have i_w510 : w510.toInt = (w509.toInt + 1) := z_add e_w510 rfl (show (1 : Int32).toInt = 1 by decide) (by omega)
              refine z_iast hx hb hK hw 1 hm_ha hf_ha rfl (z_ix (show (27 : Int32).toInt = 27 by decide) (by decide)) dX10_driveLine_246 (fun H locs hw => ?_)
              obtain ⟨f512, e_f512⟩ : ∃ z, z = va_up f508 ha (.inl (cy 1, 30, .inl (upd gha (27 : Int32).toNatClampNeg w510))) := ⟨_, rfl⟩
              rw [← e_f512] at hw
              have hf_mm : f512 mm = .inr (10, [.int m0, .ref wd, .ref my, .ref ce, .ref mv, .ref ta, .int m6, .int a2_495, .int k2_496, .int p2_497, .int v2_498, .long w2_499, .int b2_485, .int q2_486, .int m14, .int m15, .ref li, .ref ha, .ref lw, .ref st, .ref fo, .ref dr, .int m22, .ref ik, .int m24, .int m25, .long m26, .int m27, .int m28, .ref ro, .int m30, .ref ct, .ref se, .ref th, .ref cn, .ref be, .int m36, .ref du, .int m38, .ref db, .int m40, .int m41, .int m42, .ref pn, .ref wg, .ref wh, .ref tn, .ref he, .int m48, .ref tr, .ref fd, .ref po, .int m52, .int m53]) := (congrFun e_f512 mm).trans (z_up_ne (z_tne hf_mm hf_ha (m := 10) (n := 340) rfl rfl (by decide)) hf_mm)
              have hf_ta : f512 ta = .inl (cy 0, 1600, .inl gta) := (congrFun e_f512 ta).trans (z_up_ne (z_tne hf_ta hf_ha (m := 12900) (n := 340) rfl rfl (by decide)) hf_ta)
              have hf_dr : f512 dr = .inl (cy 1, 520, .inl g507) := (congrFun e_f512 dr).trans (z_up_ne (z_tne hf_dr hf_ha (m := 4260) (n := 340) rfl rfl (by decide)) hf_dr)
              have hf_ha : f512 ha = .inl (cy 1, 30, .inl (upd gha (27 : Int32).toNatClampNeg w510)) := (congrFun e_f512 ha).trans z_up_self
              have hfr : ∀ b ∈ L, b ≠ mm → b ≠ ha → b ≠ dr → f512 b = f b := fun b hb h0 h1 h2 => (congrFun e_f512 b).trans (z_up_ne h1 (hfr b hb h0 h1 h2))
              obtain ⟨g511, e_g511⟩ : ∃ z, z = (upd gha (27 : Int32).toNatClampNeg w510) := ⟨_, rfl⟩
              rw [← e_g511] at hf_ha
              have hq_ha : ∀ j : Nat, (q_hasR hz) j (g511 j) := z_updQ hq_ha e_g511 (show q_hasR _ _ _ from ⟨(show q_has _ _ from ⟨(fun h => absurd h (by decide)), (fun h => absurd h (by decide)), (fun h => absurd h (by decide)), (fun _ => (show 0 ≤ (w510 : Int32).toInt ∧ (w510 : Int32).toInt ≤ 12 by first | decide | omega))⟩), fun h => absurd h (by decide)⟩)
              exact z_vret hx hb hr hlk (by decide) (by decide) hw (⟨hsub, hfr, a2_495, k2_496, p2_497, v2_498, b2_485, q2_486, w2_499, g511, g507, hf_mm, hf_ha, hf_dr, hq_ha, hq_dr, by omega, by omega, by omega, by omega⟩) dX10_driveLine_247
    · skip
      refine z_if_eq (tgt := 212) hx hb (show (0 : Int32).toInt = 0 by decide) dX10_driveLine_160 (by decide) (fun _ => ?_) (fun h => absurd h (by decide))
      refine lv_aload_n hx hb dX10_driveLine_212 rfl (lv_at hl 2 rfl) ?_
      refine z_get (C := RX10) (T := TX10) (N := 54) (ci := 10) (v := .ref dr) hx hb hT zin_X10 hown hK hw hm_mm hf_mm rfl 21 (by decide) (hT _ kw_1189) rfl dX10_driveLine_213 ?_
      refine lv_iload_n hx hb dX10_driveLine_216 rfl (lv_at hl 1 rfl) ?_
      refine lv_bipush (v := 7) hx hb dX10_driveLine_217 (by decide) ?_
      refine lv_iadd hx hb dX10_driveLine_219 ?_
      refine lv_topi (fun w513 e_w513 => ?_)
      have i_w513 : w513.toInt = ((8 * (52 + r2.toInt)) + 7) := z_add e_w513 i_w5 (show (7 : Int32).toInt = 7 by decide) (by omega)
      refine lv_aload_n hx hb dX10_driveLine_220 rfl (lv_at hl 2 rfl) ?_
      refine lv_ldc2 (v := 237281) hx hb hown (hT _ kw_1448) dX10_driveLine_221 ?_
      have hz514 := (show (237281 : Int64).toInt = 237281 by decide)
      refine z_calliV (cells := 0) (slots := 0) (b := mm) (As := [.long 237281]) (rest := [.int w513, .ref dr]) (ci := 10) (q0 := (RX10, TX10, 54)) ⟨hx, hb, hml, hown, hT⟩ (c_X10_takes l hm_mm hm_ta hf_mm hf_ta (by first | omega | decide | assumption) (by first | omega | decide | assumption)) (cwV 1 hT (z_goodV (fun _ h => h) kw_1403 kw_1405 kw_38 kw_96 kw_1406) rfl rfl rfl (by decide +kernel) ⟨by decide, by decide⟩) z_mv hKK hK hw hA hm_mm hf_mm rfl rfl rfl hl.1 rfl (Nat.le_of_ble_eq_true rfl) dX10_driveLine_224 ⟨by decide, by decide⟩ (fun r515 u H locs hp hw => ?_)
      obtain ⟨L516, f517⟩ := u
      obtain ⟨hsb, hfm, a2_518, k2_519, p2_520, v2_521, w2_522, ha_0, hp⟩ := hp
      have hsb : L = L516 := hsb
      subst hsb
      have hsb : ∀ b ∈ L, b ∈ L := fun _ h => h
      have hw : z_H D vwCl (z_A L sz) s.heap L f517 H locs := hw
      have hfr : ∀ b ∈ L, b ≠ mm → b ≠ ha → b ≠ dr → f517 b = f b := fun b hb h0 h1 h2 => (hfm b hb h0).trans (hfr b hb h0 h1 h2)
      have hf_ta : f517 ta = .inl (cy 0, 1600, .inl gta) := (hfm ta hm_ta (z_tne hf_ta hf_mm (m := 12900) (n := 10) rfl rfl (by decide))).trans hf_ta
      have hf_ha : f517 ha = .inl (cy 1, 30, .inl gha) := (hfm ha hm_ha (z_tne hf_ha hf_mm (m := 340) (n := 10) rfl rfl (by decide))).trans hf_ha
      have hf_dr : f517 dr = .inl (cy 1, 520, .inl g329) := (hfm dr hm_dr (z_tne hf_dr hf_mm (m := 4260) (n := 10) rfl rfl (by decide))).trans hf_dr
      have hf_mm : f517 mm = .inr (10, [.int m0, .ref wd, .ref my, .ref ce, .ref mv, .ref ta, .int m6, .int a2_518, .int k2_519, .int p2_520, .int v2_521, .long w2_522, .int b2_88, .int q2_89, .int m14, .int m15, .ref li, .ref ha, .ref lw, .ref st, .ref fo, .ref dr, .int m22, .ref ik, .int m24, .int m25, .long m26, .int m27, .int m28, .ref ro, .int m30, .ref ct, .ref se, .ref th, .ref cn, .ref be, .int m36, .ref du, .int m38, .ref db, .int m40, .int m41, .int m42, .ref pn, .ref wg, .ref wh, .ref tn, .ref he, .int m48, .ref tr, .ref fd, .ref po, .int m52, .int m53]) := ha_0
      have hC_ : (0 ≤ a2_518.toInt ∧ a2_518.toInt ≤ m6.toInt) ∧ m7.toInt ≤ a2_518.toInt ∧ (b2_88.toInt ≠ 0 ∨ m12.toInt = 0) ∧ ((a2_518.toInt = m7.toInt ∧ k2_519.toInt = m8.toInt) ∨ k2_519.toInt ≠ 3 ∨ m7.toInt < a2_518.toInt) := by refine ⟨⟨?_, ?_⟩, ?_, ?_, ?_⟩ <;> omega
      replace hp : (r515 = 1 ∧ True) ∨ (r515 = 0 ∧ True) := hp.1.elim (fun h => Or.inl ⟨h.1, trivial⟩) (fun h => Or.inr ⟨h.1, trivial⟩)
      replace hC := hC_
      clear hC_
      rcases hp with ⟨rfl, h523⟩ | ⟨rfl, h523⟩
      · skip
        refine z_if_eq (tgt := 234) hx hb (show (1 : Int32).toInt = 1 by decide) dX10_driveLine_227 (by decide) (fun h => absurd h (by decide)) (fun _ => ?_)
        refine lv_iconst (v := 1) hx hb dX10_driveLine_230 (by decide) ?_
        refine lv_goto (tgt := 235) hx hb dX10_driveLine_231 (by decide) ?_
        refine z_iast hx hb hK hw 1 hm_dr hf_dr rfl (z_ix i_w513 (by omega)) dX10_driveLine_235 (fun H locs hw => ?_)
        obtain ⟨f525, e_f525⟩ : ∃ z, z = va_up f517 dr (.inl (cy 1, 520, .inl (upd g329 w513.toNatClampNeg 1))) := ⟨_, rfl⟩
        rw [← e_f525] at hw
        have hf_mm : f525 mm = .inr (10, [.int m0, .ref wd, .ref my, .ref ce, .ref mv, .ref ta, .int m6, .int a2_518, .int k2_519, .int p2_520, .int v2_521, .long w2_522, .int b2_88, .int q2_89, .int m14, .int m15, .ref li, .ref ha, .ref lw, .ref st, .ref fo, .ref dr, .int m22, .ref ik, .int m24, .int m25, .long m26, .int m27, .int m28, .ref ro, .int m30, .ref ct, .ref se, .ref th, .ref cn, .ref be, .int m36, .ref du, .int m38, .ref db, .int m40, .int m41, .int m42, .ref pn, .ref wg, .ref wh, .ref tn, .ref he, .int m48, .ref tr, .ref fd, .ref po, .int m52, .int m53]) := (congrFun e_f525 mm).trans (z_up_ne (z_tne hf_mm hf_dr (m := 10) (n := 4260) rfl rfl (by decide)) hf_mm)
        have hf_ta : f525 ta = .inl (cy 0, 1600, .inl gta) := (congrFun e_f525 ta).trans (z_up_ne (z_tne hf_ta hf_dr (m := 12900) (n := 4260) rfl rfl (by decide)) hf_ta)
        have hf_ha : f525 ha = .inl (cy 1, 30, .inl gha) := (congrFun e_f525 ha).trans (z_up_ne (z_tne hf_ha hf_dr (m := 340) (n := 4260) rfl rfl (by decide)) hf_ha)
        have hf_dr : f525 dr = .inl (cy 1, 520, .inl (upd g329 w513.toNatClampNeg 1)) := (congrFun e_f525 dr).trans z_up_self
        have hfr : ∀ b ∈ L, b ≠ mm → b ≠ ha → b ≠ dr → f525 b = f b := fun b hb h0 h1 h2 => (congrFun e_f525 b).trans (z_up_ne h2 (hfr b hb h0 h1 h2))
        obtain ⟨g524, e_g524⟩ : ∃ z, z = (upd g329 w513.toNatClampNeg 1) := ⟨_, rfl⟩
        rw [← e_g524] at hf_dr
        have hq_dr : ∀ j : Nat, q_drv j (g524 j) := z_updQ hq_dr e_g524 (show q_drv _ _ from z_drS7 (z_mod8 i_w513 (by omega)) (show 0 ≤ (1 : Int32).toInt ∧ (1 : Int32).toInt ≤ 1 by first | decide | omega))
        refine lv_aload_n hx hb dX10_driveLine_236 rfl (lv_at hl 2 rfl) ?_
        refine z_get (C := RX10) (T := TX10) (N := 54) (ci := 10) (v := .ref ha) hx hb hT zin_X10 hown hK hw hm_mm hf_mm rfl 17 (by decide) (hT _ kw_1185) rfl dX10_driveLine_237 ?_
        refine lv_bipush (v := 27) hx hb dX10_driveLine_240 (by decide) ?_
        refine lv_dup2_11 hx hb dX10_driveLine_242 rfl rfl ?_
        refine z_iald hx hb hK hw 1 hm_ha hf_ha rfl (z_ix (show (27 : Int32).toInt = 27 by decide) (by decide)) dX10_driveLine_243 ?_
        refine lv_topi (fun w526 e_w526 => ?_)
        have hv_w526 : 0 ≤ w526.toInt ∧ w526.toInt ≤ 12 := by rw [e_w526]; exact (hq_ha _).1.2.2.2 rfl
        have h11 : w526.toInt ≤ 11 := by rw [e_w526]; exact hd11
        refine lv_iconst (v := 1) hx hb dX10_driveLine_244 (by decide) ?_
        refine lv_iadd hx hb dX10_driveLine_245 ?_
        refine lv_topi (fun w527 e_w527 => ?_)
        have i_w527 : w527.toInt = (w526.toInt + 1) := z_add e_w527 rfl (show (1 : Int32).toInt = 1 by decide) (by omega)
        refine z_iast hx hb hK hw 1 hm_ha hf_ha rfl (z_ix (show (27 : Int32).toInt = 27 by decide) (by decide)) dX10_driveLine_246 (fun H locs hw => ?_)
        obtain ⟨f529, e_f529⟩ : ∃ z, z = va_up f525 ha (.inl (cy 1, 30, .inl (upd gha (27 : Int32).toNatClampNeg w527))) := ⟨_, rfl⟩
        rw [← e_f529] at hw
        have hf_mm : f529 mm = .inr (10, [.int m0, .ref wd, .ref my, .ref ce, .ref mv, .ref ta, .int m6, .int a2_518, .int k2_519, .int p2_520, .int v2_521, .long w2_522, .int b2_88, .int q2_89, .int m14, .int m15, .ref li, .ref ha, .ref lw, .ref st, .ref fo, .ref dr, .int m22, .ref ik, .int m24, .int m25, .long m26, .int m27, .int m28, .ref ro, .int m30, .ref ct, .ref se, .ref th, .ref cn, .ref be, .int m36, .ref du, .int m38, .ref db, .int m40, .int m41, .int m42, .ref pn, .ref wg, .ref wh, .ref tn, .ref he, .int m48, .ref tr, .ref fd, .ref po, .int m52, .int m53]) := (congrFun e_f529 mm).trans (z_up_ne (z_tne hf_mm hf_ha (m := 10) (n := 340) rfl rfl (by decide)) hf_mm)
        have hf_ta : f529 ta = .inl (cy 0, 1600, .inl gta) := (congrFun e_f529 ta).trans (z_up_ne (z_tne hf_ta hf_ha (m := 12900) (n := 340) rfl rfl (by decide)) hf_ta)
        have hf_dr : f529 dr = .inl (cy 1, 520, .inl g524) := (congrFun e_f529 dr).trans (z_up_ne (z_tne hf_dr hf_ha (m := 4260) (n := 340) rfl rfl (by decide)) hf_dr)
        have hf_ha : f529 ha = .inl (cy 1, 30, .inl (upd gha (27 : Int32).toNatClampNeg w527)) := (congrFun e_f529 ha).trans z_up_self
        have hfr : ∀ b ∈ L, b ≠ mm → b ≠ ha → b ≠ dr → f529 b = f b := fun b hb h0 h1 h2 => (congrFun e_f529 b).trans (z_up_ne h1 (hfr b hb h0 h1 h2))
        obtain ⟨g528, e_g528⟩ : ∃ z, z = (upd gha (27 : Int32).toNatClampNeg w527) := ⟨_, rfl⟩
        rw [← e_g528] at hf_ha
        have hq_ha : ∀ j : Nat, (q_hasR hz) j (g528 j) := z_updQ hq_ha e_g528 (show q_hasR _ _ _ from ⟨(show q_has _ _ from ⟨(fun h => absurd h (by decide)), (fun h => absurd h (by decide)), (fun h => absurd h (by decide)), (fun _ => (show 0 ≤ (w527 : Int32).toInt ∧ (w527 : Int32).toInt ≤ 12 by first | decide | omega))⟩), fun h => absurd h (by decide)⟩)
        exact z_vret hx hb hr hlk (by decide) (by decide) hw (⟨hsub, hfr, a2_518, k2_519, p2_520, v2_521, b2_88, q2_89, w2_522, g528, g524, hf_mm, hf_ha, hf_dr, hq_ha, hq_dr, by omega, by omega, by omega, by omega⟩) dX10_driveLine_247
      · skip
        refine z_if_eq (tgt := 234) hx hb (show (0 : Int32).toInt = 0 by decide) dX10_driveLine_227 (by decide) (fun _ => ?_) (fun h => absurd h (by decide))
        refine lv_iconst (v := 0) hx hb dX10_driveLine_234 (by decide) ?_
        refine z_iast hx hb hK hw 1 hm_dr hf_dr rfl (z_ix i_w513 (by omega)) dX10_driveLine_235 (fun H locs hw => ?_)
        obtain ⟨f531, e_f531⟩ : ∃ z, z = va_up f517 dr (.inl (cy 1, 520, .inl (upd g329 w513.toNatClampNeg 0))) := ⟨_, rfl⟩
        rw [← e_f531] at hw
        have hf_mm : f531 mm = .inr (10, [.int m0, .ref wd, .ref my, .ref ce, .ref mv, .ref ta, .int m6, .int a2_518, .int k2_519, .int p2_520, .int v2_521, .long w2_522, .int b2_88, .int q2_89, .int m14, .int m15, .ref li, .ref ha, .ref lw, .ref st, .ref fo, .ref dr, .int m22, .ref ik, .int m24, .int m25, .long m26, .int m27, .int m28, .ref ro, .int m30, .ref ct, .ref se, .ref th, .ref cn, .ref be, .int m36, .ref du, .int m38, .ref db, .int m40, .int m41, .int m42, .ref pn, .ref wg, .ref wh, .ref tn, .ref he, .int m48, .ref tr, .ref fd, .ref po, .int m52, .int m53]) := (congrFun e_f531 mm).trans (z_up_ne (z_tne hf_mm hf_dr (m := 10) (n := 4260) rfl rfl (by decide)) hf_mm)
        have hf_ta : f531 ta = .inl (cy 0, 1600, .inl gta) := (congrFun e_f531 ta).trans (z_up_ne (z_tne hf_ta hf_dr (m := 12900) (n := 4260) rfl rfl (by decide)) hf_ta)
        have hf_ha : f531 ha = .inl (cy 1, 30, .inl gha) := (congrFun e_f531 ha).trans (z_up_ne (z_tne hf_ha hf_dr (m := 340) (n := 4260) rfl rfl (by decide)) hf_ha)
        have hf_dr : f531 dr = .inl (cy 1, 520, .inl (upd g329 w513.toNatClampNeg 0)) := (congrFun e_f531 dr).trans z_up_self
        have hfr : ∀ b ∈ L, b ≠ mm → b ≠ ha → b ≠ dr → f531 b = f b := fun b hb h0 h1 h2 => (congrFun e_f531 b).trans (z_up_ne h2 (hfr b hb h0 h1 h2))
        obtain ⟨g530, e_g530⟩ : ∃ z, z = (upd g329 w513.toNatClampNeg 0) := ⟨_, rfl⟩
        rw [← e_g530] at hf_dr
        have hq_dr : ∀ j : Nat, q_drv j (g530 j) := z_updQ hq_dr e_g530 (show q_drv _ _ from z_drS7 (z_mod8 i_w513 (by omega)) (show 0 ≤ (0 : Int32).toInt ∧ (0 : Int32).toInt ≤ 1 by first | decide | omega))
        refine lv_aload_n hx hb dX10_driveLine_236 rfl (lv_at hl 2 rfl) ?_
        refine z_get (C := RX10) (T := TX10) (N := 54) (ci := 10) (v := .ref ha) hx hb hT zin_X10 hown hK hw hm_mm hf_mm rfl 17 (by decide) (hT _ kw_1185) rfl dX10_driveLine_237 ?_
        refine lv_bipush (v := 27) hx hb dX10_driveLine_240 (by decide) ?_
        refine lv_dup2_11 hx hb dX10_driveLine_242 rfl rfl ?_
        refine z_iald hx hb hK hw 1 hm_ha hf_ha rfl (z_ix (show (27 : Int32).toInt = 27 by decide) (by decide)) dX10_driveLine_243 ?_
        refine lv_topi (fun w532 e_w532 => ?_)
        have hv_w532 : 0 ≤ w532.toInt ∧ w532.toInt ≤ 12 := by rw [e_w532]; exact (hq_ha _).1.2.2.2 rfl
        have h11 : w532.toInt ≤ 11 := by rw [e_w532]; exact hd11
        refine lv_iconst (v := 1) hx hb dX10_driveLine_244 (by decide) ?_
        refine lv_iadd hx hb dX10_driveLine_245 ?_
        refine lv_topi (fun w533 e_w533 => ?_)
        have i_w533 : w533.toInt = (w532.toInt + 1) := z_add e_w533 rfl (show (1 : Int32).toInt = 1 by decide) (by omega)
        refine z_iast hx hb hK hw 1 hm_ha hf_ha rfl (z_ix (show (27 : Int32).toInt = 27 by decide) (by decide)) dX10_driveLine_246 (fun H locs hw => ?_)
        obtain ⟨f535, e_f535⟩ : ∃ z, z = va_up f531 ha (.inl (cy 1, 30, .inl (upd gha (27 : Int32).toNatClampNeg w533))) := ⟨_, rfl⟩
        rw [← e_f535] at hw
        have hf_mm : f535 mm = .inr (10, [.int m0, .ref wd, .ref my, .ref ce, .ref mv, .ref ta, .int m6, .int a2_518, .int k2_519, .int p2_520, .int v2_521, .long w2_522, .int b2_88, .int q2_89, .int m14, .int m15, .ref li, .ref ha, .ref lw, .ref st, .ref fo, .ref dr, .int m22, .ref ik, .int m24, .int m25, .long m26, .int m27, .int m28, .ref ro, .int m30, .ref ct, .ref se, .ref th, .ref cn, .ref be, .int m36, .ref du, .int m38, .ref db, .int m40, .int m41, .int m42, .ref pn, .ref wg, .ref wh, .ref tn, .ref he, .int m48, .ref tr, .ref fd, .ref po, .int m52, .int m53]) := (congrFun e_f535 mm).trans (z_up_ne (z_tne hf_mm hf_ha (m := 10) (n := 340) rfl rfl (by decide)) hf_mm)
        have hf_ta : f535 ta = .inl (cy 0, 1600, .inl gta) := (congrFun e_f535 ta).trans (z_up_ne (z_tne hf_ta hf_ha (m := 12900) (n := 340) rfl rfl (by decide)) hf_ta)
        have hf_dr : f535 dr = .inl (cy 1, 520, .inl g530) := (congrFun e_f535 dr).trans (z_up_ne (z_tne hf_dr hf_ha (m := 4260) (n := 340) rfl rfl (by decide)) hf_dr)
        have hf_ha : f535 ha = .inl (cy 1, 30, .inl (upd gha (27 : Int32).toNatClampNeg w533)) := (congrFun e_f535 ha).trans z_up_self
        have hfr : ∀ b ∈ L, b ≠ mm → b ≠ ha → b ≠ dr → f535 b = f b := fun b hb h0 h1 h2 => (congrFun e_f535 b).trans (z_up_ne h1 (hfr b hb h0 h1 h2))
        obtain ⟨g534, e_g534⟩ : ∃ z, z = (upd gha (27 : Int32).toNatClampNeg w533) := ⟨_, rfl⟩
        rw [← e_g534] at hf_ha
        have hq_ha : ∀ j : Nat, (q_hasR hz) j (g534 j) := z_updQ hq_ha e_g534 (show q_hasR _ _ _ from ⟨(show q_has _ _ from ⟨(fun h => absurd h (by decide)), (fun h => absurd h (by decide)), (fun h => absurd h (by decide)), (fun _ => (show 0 ≤ (w533 : Int32).toInt ∧ (w533 : Int32).toInt ≤ 12 by first | decide | omega))⟩), fun h => absurd h (by decide)⟩)
        exact z_vret hx hb hr hlk (by decide) (by decide) hw (⟨hsub, hfr, a2_518, k2_519, p2_520, v2_521, b2_88, q2_89, w2_522, g534, g530, hf_mm, hf_ha, hf_dr, hq_ha, hq_dr, by omega, by omega, by omega, by omega⟩) dX10_driveLine_247
