set_option maxHeartbeats 2000000 in
set_option maxRecDepth 100000 in
theorem c_X10_line (l : Launch) {D : va_G} {cy : Nat → ClassId} {L : List Nat} {f : Nat → va_E} {sz : Nat} {adK adV : Nat → Nat} {mm wd my ce mv ta li ha lw st fo dr ik ro ct se th cn be du db pn wg wh tn he tr fd po : Nat} {m0 m6 m7 m8 m9 m10 m12 m13 m14 m15 m22 m24 m25 m27 m28 m30 m36 m38 m40 m41 m42 m48 m52 m53 : Int32} {m11 m26 : Int64} {gta gha glw gst gfo gdr : Nat → Int32}  {hz lz : Nat → Int32} (hm_mm : mm ∈ L) (hm_ta : ta ∈ L) (hm_ha : ha ∈ L) (hm_lw : lw ∈ L) (hm_st : st ∈ L) (hm_fo : fo ∈ L) (hm_dr : dr ∈ L) (hf_mm : f mm = .inr (10, [.int m0, .ref wd, .ref my, .ref ce, .ref mv, .ref ta, .int m6, .int m7, .int m8, .int m9, .int m10, .long m11, .int m12, .int m13, .int m14, .int m15, .ref li, .ref ha, .ref lw, .ref st, .ref fo, .ref dr, .int m22, .ref ik, .int m24, .int m25, .long m26, .int m27, .int m28, .ref ro, .int m30, .ref ct, .ref se, .ref th, .ref cn, .ref be, .int m36, .ref du, .int m38, .ref db, .int m40, .int m41, .int m42, .ref pn, .ref wg, .ref wh, .ref tn, .ref he, .int m48, .ref tr, .ref fd, .ref po, .int m52, .int m53])) (hf_ta : f ta = .inl (cy 0, 1600, .inl gta)) (hf_ha : f ha = .inl (cy 1, 30, .inl gha)) (hf_lw : f lw = .inl (cy 1, 25, .inl glw)) (hf_st : f st = .inl (cy 1, 20, .inl gst)) (hf_fo : f fo = .inl (cy 1, 180, .inl gfo)) (hf_dr : f dr = .inl (cy 1, 520, .inl gdr)) (hq_ha : ∀ j : Nat, (q_hasR hz) j (gha j)) (hq_lw : ∀ j : Nat, (q_lawR lz) j (glw j)) (hq_st : ∀ j : Nat, q_law j (gst j)) (hq_dr : ∀ j : Nat, q_drv j (gdr j)) (htp : 0 ≤ m6.toInt ∧ m6.toInt ≤ 1600) (hat : 0 ≤ m7.toInt ∧ m7.toInt ≤ m6.toInt) (hg0 : m12.toInt = 0) : Met l yX10_line (z_ws yX10_line cX10_line 7 none) (z_R 7 0 0) (va_Pc [.ref mm] (z_Pre D vwCl (z_KK D cy adK adV) L f sz)) (z_Qv D vwCl (fun u => L = u.1 ∧ (∀ b ∈ L, b ≠ mm → b ≠ ha → b ≠ lw → b ≠ st → b ≠ fo → b ≠ dr → u.2 b = f b) ∧ (∃ (a2 k2 p2 v2 b2 q2 t2 : Int32) (w2 : Int64) (nha nlw nst nfo ndr : Nat → Int32), (u.2 mm = .inr (10, [.int m0, .ref wd, .ref my, .ref ce, .ref mv, .ref ta, .int m6, .int a2, .int k2, .int p2, .int v2, .long w2, .int b2, .int q2, .int m14, .int m15, .ref li, .ref ha, .ref lw, .ref st, .ref fo, .ref dr, .int t2, .ref ik, .int m24, .int m25, .long m26, .int m27, .int m28, .ref ro, .int m30, .ref ct, .ref se, .ref th, .ref cn, .ref be, .int m36, .ref du, .int m38, .ref db, .int m40, .int m41, .int m42, .ref pn, .ref wg, .ref wh, .ref tn, .ref he, .int m48, .ref tr, .ref fd, .ref po, .int m52, .int m53])) ∧ (u.2 ha = .inl (cy 1, 30, .inl nha)) ∧ (u.2 lw = .inl (cy 1, 25, .inl nlw)) ∧ (u.2 st = .inl (cy 1, 20, .inl nst)) ∧ (u.2 fo = .inl (cy 1, 180, .inl nfo)) ∧ (u.2 dr = .inl (cy 1, 520, .inl ndr)) ∧ (∀ j : Nat, (q_hasR hz) j (nha j)) ∧ (∀ j : Nat, (q_lawR lz) j (nlw j)) ∧ (∀ j : Nat, q_law j (nst j)) ∧ (∀ j : Nat, q_drv j (ndr j)) ∧ ((0 ≤ a2.toInt ∧ a2.toInt ≤ m6.toInt) ∧ m7.toInt ≤ a2.toInt ∧ (b2.toInt ≠ 0 ∨ m12.toInt = 0) ∧ (b2.toInt ≠ 0 ∨ k2.toInt ≠ 3 ∨ m7.toInt < a2.toInt) ∧ nlw 23 = glw 23))) L sz) 0 0 (z_A L sz) := by
  refine z_met (cc := cX10_line) (maxL := 7) (ret := none) (lv := [(0, .ref mm)]) (by decide) rfl (Nat.le_of_ble_eq_true rfl) rfl ?_
  intro p e s m below meth c ls hx hb hr hlk hml hown hnm hts hKK hA hw hl
  have hK := hKK.1.1
  have hown : s.vm.findClass RX10 = some m.cls := hown
  have hT : ∀ w ∈ lw_all, w.before ([.ref mm] : List Value).toArray s = true := fun w h => hts w (z_cons w h)
  have hsub : L = L := rfl
  have hfr : ∀ b ∈ L, b ≠ mm → b ≠ ha → b ≠ lw → b ≠ st → b ≠ fo → b ≠ dr → f b = f b := fun _ _ _ _ _ _ _ _ => rfl
  have hz_0 : (0 : Int32).toInt = 0 := by decide
  have hz_1 : (1 : Int32).toInt = 1 := by decide
  have hz_2 : (2 : Int32).toInt = 2 := by decide
  have hz_3 : (3 : Int32).toInt = 3 := by decide
  have hC : (0 ≤ m7.toInt ∧ m7.toInt ≤ m6.toInt) := hat
  refine lv_aload_n hx hb dX10_line_0 rfl (lv_at hl 0 rfl) ?_
  refine lv_ldc2 (v := 2487218) hx hb hown (hT _ kw_1431) dX10_line_1 ?_
  have hz1 := (show (2487218 : Int64).toInt = 2487218 by decide)
  refine z_calliV (cells := 0) (slots := 0) (b := mm) (As := [.long 2487218]) (rest := []) (ci := 10) (q0 := (RX10, TX10, 54)) ⟨hx, hb, hml, hown, hT⟩ (c_X10_is l hm_mm hf_mm) (cwV 1 hT (z_goodV (fun _ h => h) kw_1407 kw_1409 kw_39 kw_96 kw_1410) rfl rfl rfl (by decide +kernel) ⟨by decide, by decide⟩) z_mv hKK hK hw hA hm_mm hf_mm rfl rfl rfl hl.1 rfl (Nat.le_of_ble_eq_true rfl) dX10_line_4 ⟨by decide, by decide⟩ (fun r2 u H locs hp hw => ?_)
  obtain ⟨rfl, hp⟩ := hp
  have hw : z_H D vwCl (z_A L sz) s.heap L f H locs := hw
  rcases hp with ⟨rfl, h3⟩ | ⟨rfl, h3⟩
  · skip
    refine lv_istore_n (lv' := [(1, .int 1), (0, .ref mm)]) hx hb dX10_line_7 rfl hl (by decide) rfl (fun ls hl => ?_)
    refine lv_aload_n hx hb dX10_line_8 rfl (lv_at hl 1 rfl) ?_
    refine lv_ldc2 (v := 4786) hx hb hown (hT _ kw_1432) dX10_line_9 ?_
    have hz4 := (show (4786 : Int64).toInt = 4786 by decide)
    refine z_calliV (cells := 0) (slots := 0) (b := mm) (As := [.long 4786]) (rest := []) (ci := 10) (q0 := (RX10, TX10, 54)) ⟨hx, hb, hml, hown, hT⟩ (c_X10_is l hm_mm hf_mm) (cwV 1 hT (z_goodV (fun _ h => h) kw_1407 kw_1409 kw_39 kw_96 kw_1410) rfl rfl rfl (by decide +kernel) ⟨by decide, by decide⟩) z_mv hKK hK hw hA hm_mm hf_mm rfl rfl rfl hl.1 rfl (Nat.le_of_ble_eq_true rfl) dX10_line_12 ⟨by decide, by decide⟩ (fun r5 u H locs hp hw => ?_)
    obtain ⟨rfl, hp⟩ := hp
    have hw : z_H D vwCl (z_A L sz) s.heap L f H locs := hw
    rcases hp with ⟨rfl, h6⟩ | ⟨rfl, h6⟩
    · skip
      refine lv_istore_n (lv' := [(2, .int 1), (1, .int 1), (0, .ref mm)]) hx hb dX10_line_15 rfl hl (by decide) rfl (fun ls hl => ?_)
      refine lv_aload_n hx hb dX10_line_16 rfl (lv_at hl 2 rfl) ?_
      refine lv_ldc2 (v := 227736460) hx hb hown (hT _ kw_1433) dX10_line_17 ?_
      have hz7 := (show (227736460 : Int64).toInt = 227736460 by decide)
      refine z_calliV (cells := 0) (slots := 0) (b := mm) (As := [.long 227736460]) (rest := []) (ci := 10) (q0 := (RX10, TX10, 54)) ⟨hx, hb, hml, hown, hT⟩ (c_X10_is l hm_mm hf_mm) (cwV 1 hT (z_goodV (fun _ h => h) kw_1407 kw_1409 kw_39 kw_96 kw_1410) rfl rfl rfl (by decide +kernel) ⟨by decide, by decide⟩) z_mv hKK hK hw hA hm_mm hf_mm rfl rfl rfl hl.1 rfl (Nat.le_of_ble_eq_true rfl) dX10_line_20 ⟨by decide, by decide⟩ (fun r8 u H locs hp hw => ?_)
      obtain ⟨rfl, hp⟩ := hp
      have hw : z_H D vwCl (z_A L sz) s.heap L f H locs := hw
      rcases hp with ⟨rfl, h9⟩ | ⟨rfl, h9⟩
      · skip
        refine lv_istore_n (lv' := [(3, .int 1), (2, .int 1), (1, .int 1), (0, .ref mm)]) hx hb dX10_line_23 rfl hl (by decide) rfl (fun ls hl => ?_)
        refine lv_iload_n hx hb dX10_line_24 rfl (lv_at hl 0 rfl) ?_
        refine z_if_eq (tgt := 48) hx hb (show (1 : Int32).toInt = 1 by decide) dX10_line_25 (by decide) (fun h => absurd h (by decide)) (fun _ => ?_)
        refine lv_aload_n hx hb dX10_line_28 rfl (lv_at hl 3 rfl) ?_
        refine z_get (C := RX10) (T := TX10) (N := 54) (ci := 10) (v := .int m22) hx hb hT zin_X10 hown hK hw hm_mm hf_mm rfl 22 (by decide) (hT _ kw_1190) rfl dX10_line_29 ?_
        refine z_if_ne (tgt := 43) hx hb rfl dX10_line_32 (by decide) (fun c10 => ?_) (fun c10 => ?_)
        · skip
          refine lv_aload_n hx hb dX10_line_43 rfl (lv_at hl 3 rfl) ?_
          refine lv_iconst (v := 2) hx hb dX10_line_44 (by decide) ?_
          have hz11 := (show (2 : Int32).toInt = 2 by decide)
          refine z_callvV (cells := 0) (slots := 0) (b := mm) (As := [.int 2]) (rest := []) (ci := 10) (q0 := (RX10, TX10, 54)) ⟨hx, hb, hml, hown, hT⟩ (c_X10_fails l hm_mm hf_mm (by first | omega | decide | assumption)) (cwV 1 hT (z_goodV (fun _ h => h) kw_1411 kw_1413 kw_40 kw_96 kw_1414) rfl rfl rfl (by decide +kernel) ⟨by decide, by decide⟩) z_mv hKK hK hw hA hm_mm hf_mm rfl rfl rfl hl.1 rfl (Nat.le_of_ble_eq_true rfl) dX10_line_45 ⟨by decide, by decide⟩ (fun u H locs hp hw => ?_)
          obtain ⟨L12, f13⟩ := u
          obtain ⟨hsb, hfm, b2_14, p2_15, ha_0, hp⟩ := hp
          have hsb : L = L12 := hsb
          subst hsb
          have hsb : ∀ b ∈ L, b ∈ L := fun _ h => h
          have hw : z_H D vwCl (z_A L sz) s.heap L f13 H locs := hw
          have hfr : ∀ b ∈ L, b ≠ mm → b ≠ ha → b ≠ lw → b ≠ st → b ≠ fo → b ≠ dr → f13 b = f b := fun b hb h0 h1 h2 h3 h4 h5 => (hfm b hb h0).trans (hfr b hb h0 h1 h2 h3 h4 h5)
          have hf_ta : f13 ta = .inl (cy 0, 1600, .inl gta) := (hfm ta hm_ta (z_tne hf_ta hf_mm (m := 12900) (n := 10) rfl rfl (by decide))).trans hf_ta
          have hf_ha : f13 ha = .inl (cy 1, 30, .inl gha) := (hfm ha hm_ha (z_tne hf_ha hf_mm (m := 340) (n := 10) rfl rfl (by decide))).trans hf_ha
          have hf_lw : f13 lw = .inl (cy 1, 25, .inl glw) := (hfm lw hm_lw (z_tne hf_lw hf_mm (m := 300) (n := 10) rfl rfl (by decide))).trans hf_lw
          have hf_st : f13 st = .inl (cy 1, 20, .inl gst) := (hfm st hm_st (z_tne hf_st hf_mm (m := 260) (n := 10) rfl rfl (by decide))).trans hf_st
          have hf_fo : f13 fo = .inl (cy 1, 180, .inl gfo) := (hfm fo hm_fo (z_tne hf_fo hf_mm (m := 1540) (n := 10) rfl rfl (by decide))).trans hf_fo
          have hf_dr : f13 dr = .inl (cy 1, 520, .inl gdr) := (hfm dr hm_dr (z_tne hf_dr hf_mm (m := 4260) (n := 10) rfl rfl (by decide))).trans hf_dr
          have hf_mm : f13 mm = .inr (10, [.int m0, .ref wd, .ref my, .ref ce, .ref mv, .ref ta, .int m6, .int m7, .int m8, .int m9, .int m10, .long m11, .int b2_14, .int p2_15, .int m14, .int m15, .ref li, .ref ha, .ref lw, .ref st, .ref fo, .ref dr, .int m22, .ref ik, .int m24, .int m25, .long m26, .int m27, .int m28, .ref ro, .int m30, .ref ct, .ref se, .ref th, .ref cn, .ref be, .int m36, .ref du, .int m38, .ref db, .int m40, .int m41, .int m42, .ref pn, .ref wg, .ref wh, .ref tn, .ref he, .int m48, .ref tr, .ref fd, .ref po, .int m52, .int m53]) := ha_0
          have hq16 := hp
          refine lv_iload_n hx hb dX10_line_48 rfl (lv_at hl 2 rfl) ?_
          refine z_if_eq (tgt := 62) hx hb (show (1 : Int32).toInt = 1 by decide) dX10_line_49 (by decide) (fun h => absurd h (by decide)) (fun _ => ?_)
          refine lv_aload_n hx hb dX10_line_52 rfl (lv_at hl 3 rfl) ?_
          refine lv_iconst (v := 3) hx hb dX10_line_53 (by decide) ?_
          have hz17 := (show (3 : Int32).toInt = 3 by decide)
          refine z_calliV (cells := 0) (slots := 0) (b := mm) (As := [.int 3]) (rest := []) (ci := 10) (q0 := (RX10, TX10, 54)) ⟨hx, hb, hml, hown, hT⟩ (c_X10_hasRead l hm_mm hm_ha hf_mm hf_ha hq_ha (by decide)) (cwV 1 hT (z_goodV (fun _ h => h) kw_1434 kw_1436 kw_44 kw_96 kw_1437) rfl rfl rfl (by decide +kernel) ⟨by decide, by decide⟩) z_mv hKK hK hw hA hm_mm hf_mm rfl rfl rfl hl.1 rfl (Nat.le_of_ble_eq_true rfl) dX10_line_54 ⟨by decide, by decide⟩ (fun r18 u H locs hp hw => ?_)
          obtain ⟨rfl, hp⟩ := hp
          have hw : z_H D vwCl (z_A L sz) s.heap L f13 H locs := hw
          have h3e19 : (gha 27).toInt = r18.toInt := by rw [hp]; rfl
          have hh20 : 0 ≤ r18.toInt ∧ r18.toInt ≤ 12 := by rw [hp]; exact (hq_ha 27).1.2.2.2 rfl
          refine lv_bipush (v := 12) hx hb dX10_line_57 (by decide) ?_
          refine z_icmp_eq (tgt := 76) hx hb rfl (show (12 : Int32).toInt = 12 by decide) dX10_line_59 (by decide) (fun c21 => ?_) (fun c21 => ?_)
          · skip
            refine lv_aload_n hx hb dX10_line_76 rfl (lv_at hl 3 rfl) ?_
            refine lv_iconst (v := 3) hx hb dX10_line_77 (by decide) ?_
            have hz22 := (show (3 : Int32).toInt = 3 by decide)
            refine z_callvV (cells := 0) (slots := 0) (b := mm) (As := [.int 3]) (rest := []) (ci := 10) (q0 := (RX10, TX10, 54)) ⟨hx, hb, hml, hown, hT⟩ (c_X10_fails l hm_mm hf_mm (by first | omega | decide | assumption)) (cwV 1 hT (z_goodV (fun _ h => h) kw_1411 kw_1413 kw_40 kw_96 kw_1414) rfl rfl rfl (by decide +kernel) ⟨by decide, by decide⟩) z_mv hKK hK hw hA hm_mm hf_mm rfl rfl rfl hl.1 rfl (Nat.le_of_ble_eq_true rfl) dX10_line_78 ⟨by decide, by decide⟩ (fun u H locs hp hw => ?_)
            obtain ⟨L23, f24⟩ := u
            obtain ⟨hsb, hfm, b2_25, p2_26, ha_0, hp⟩ := hp
            have hsb : L = L23 := hsb
            subst hsb
            have hsb : ∀ b ∈ L, b ∈ L := fun _ h => h
            have hw : z_H D vwCl (z_A L sz) s.heap L f24 H locs := hw
            have hfr : ∀ b ∈ L, b ≠ mm → b ≠ ha → b ≠ lw → b ≠ st → b ≠ fo → b ≠ dr → f24 b = f b := fun b hb h0 h1 h2 h3 h4 h5 => (hfm b hb h0).trans (hfr b hb h0 h1 h2 h3 h4 h5)
            have hf_ta : f24 ta = .inl (cy 0, 1600, .inl gta) := (hfm ta hm_ta (z_tne hf_ta hf_mm (m := 12900) (n := 10) rfl rfl (by decide))).trans hf_ta
            have hf_ha : f24 ha = .inl (cy 1, 30, .inl gha) := (hfm ha hm_ha (z_tne hf_ha hf_mm (m := 340) (n := 10) rfl rfl (by decide))).trans hf_ha
            have hf_lw : f24 lw = .inl (cy 1, 25, .inl glw) := (hfm lw hm_lw (z_tne hf_lw hf_mm (m := 300) (n := 10) rfl rfl (by decide))).trans hf_lw
            have hf_st : f24 st = .inl (cy 1, 20, .inl gst) := (hfm st hm_st (z_tne hf_st hf_mm (m := 260) (n := 10) rfl rfl (by decide))).trans hf_st
            have hf_fo : f24 fo = .inl (cy 1, 180, .inl gfo) := (hfm fo hm_fo (z_tne hf_fo hf_mm (m := 1540) (n := 10) rfl rfl (by decide))).trans hf_fo
            have hf_dr : f24 dr = .inl (cy 1, 520, .inl gdr) := (hfm dr hm_dr (z_tne hf_dr hf_mm (m := 4260) (n := 10) rfl rfl (by decide))).trans hf_dr
            have hf_mm : f24 mm = .inr (10, [.int m0, .ref wd, .ref my, .ref ce, .ref mv, .ref ta, .int m6, .int m7, .int m8, .int m9, .int m10, .long m11, .int b2_25, .int p2_26, .int m14, .int m15, .ref li, .ref ha, .ref lw, .ref st, .ref fo, .ref dr, .int m22, .ref ik, .int m24, .int m25, .long m26, .int m27, .int m28, .ref ro, .int m30, .ref ct, .ref se, .ref th, .ref cn, .ref be, .int m36, .ref du, .int m38, .ref db, .int m40, .int m41, .int m42, .ref pn, .ref wg, .ref wh, .ref tn, .ref he, .int m48, .ref tr, .ref fd, .ref po, .int m52, .int m53]) := ha_0
            have hq27 := hp
            refine lv_aload_n hx hb dX10_line_81 rfl (lv_at hl 3 rfl) ?_
            refine z_get (C := RX10) (T := TX10) (N := 54) (ci := 10) (v := .int b2_25) hx hb hT zin_X10 hown hK hw hm_mm hf_mm rfl 12 (by decide) (hT _ kw_1180) rfl dX10_line_82 ?_
            refine z_if_eq (tgt := 89) hx hb rfl dX10_line_85 (by decide) (fun c28 => ?_) (fun c28 => ?_)
            · skip
              refine lv_iload_n hx hb dX10_line_89 rfl (lv_at hl 2 rfl) ?_
              refine z_if_eq (tgt := 104) hx hb (show (1 : Int32).toInt = 1 by decide) dX10_line_90 (by decide) (fun h => absurd h (by decide)) (fun _ => ?_)
              refine lv_aload_n hx hb dX10_line_93 rfl (lv_at hl 3 rfl) ?_
              refine z_callvV (cells := 0) (slots := 0) (b := mm) (As := []) (rest := []) (ci := 10) (q0 := (RX10, TX10, 54)) ⟨hx, hb, hml, hown, hT⟩ (c_X10_next l hm_mm hm_ta hf_mm hf_ta (by first | omega | decide | assumption) (by first | omega | decide | assumption)) (cwV 0 hT (z_goodV (fun _ h => h) kw_1381 kw_1383 kw_34 kw_96 kw_1384) rfl rfl rfl (by decide +kernel) ⟨by decide, by decide⟩) z_mv hKK hK hw hA hm_mm hf_mm rfl rfl rfl hl.1 rfl (Nat.le_of_ble_eq_true rfl) dX10_line_94 ⟨by decide, by decide⟩ (fun u H locs hp hw => ?_)
              obtain ⟨L29, f30⟩ := u
              obtain ⟨hsb, hfm, a2_31, k2_32, p2_33, v2_34, w2_35, ha_0, hp⟩ := hp
              have hsb : L = L29 := hsb
              subst hsb
              have hsb : ∀ b ∈ L, b ∈ L := fun _ h => h
              have hw : z_H D vwCl (z_A L sz) s.heap L f30 H locs := hw
              have hfr : ∀ b ∈ L, b ≠ mm → b ≠ ha → b ≠ lw → b ≠ st → b ≠ fo → b ≠ dr → f30 b = f b := fun b hb h0 h1 h2 h3 h4 h5 => (hfm b hb h0).trans (hfr b hb h0 h1 h2 h3 h4 h5)
              have hf_ta : f30 ta = .inl (cy 0, 1600, .inl gta) := (hfm ta hm_ta (z_tne hf_ta hf_mm (m := 12900) (n := 10) rfl rfl (by decide))).trans hf_ta
              have hf_ha : f30 ha = .inl (cy 1, 30, .inl gha) := (hfm ha hm_ha (z_tne hf_ha hf_mm (m := 340) (n := 10) rfl rfl (by decide))).trans hf_ha
              have hf_lw : f30 lw = .inl (cy 1, 25, .inl glw) := (hfm lw hm_lw (z_tne hf_lw hf_mm (m := 300) (n := 10) rfl rfl (by decide))).trans hf_lw
              have hf_st : f30 st = .inl (cy 1, 20, .inl gst) := (hfm st hm_st (z_tne hf_st hf_mm (m := 260) (n := 10) rfl rfl (by decide))).trans hf_st
              have hf_fo : f30 fo = .inl (cy 1, 180, .inl gfo) := (hfm fo hm_fo (z_tne hf_fo hf_mm (m := 1540) (n := 10) rfl rfl (by decide))).trans hf_fo
              have hf_dr : f30 dr = .inl (cy 1, 520, .inl gdr) := (hfm dr hm_dr (z_tne hf_dr hf_mm (m := 4260) (n := 10) rfl rfl (by decide))).trans hf_dr
              have hf_mm : f30 mm = .inr (10, [.int m0, .ref wd, .ref my, .ref ce, .ref mv, .ref ta, .int m6, .int a2_31, .int k2_32, .int p2_33, .int v2_34, .long w2_35, .int b2_25, .int p2_26, .int m14, .int m15, .ref li, .ref ha, .ref lw, .ref st, .ref fo, .ref dr, .int m22, .ref ik, .int m24, .int m25, .long m26, .int m27, .int m28, .ref ro, .int m30, .ref ct, .ref se, .ref th, .ref cn, .ref be, .int m36, .ref du, .int m38, .ref db, .int m40, .int m41, .int m42, .ref pn, .ref wg, .ref wh, .ref tn, .ref he, .int m48, .ref tr, .ref fd, .ref po, .int m52, .int m53]) := ha_0
              have hC_ : (0 ≤ a2_31.toInt ∧ a2_31.toInt ≤ m6.toInt) ∧ m7.toInt ≤ a2_31.toInt ∧ (b2_25.toInt ≠ 0 ∨ m12.toInt = 0) ∧ (b2_25.toInt ≠ 0 ∨ k2_32.toInt ≠ 3 ∨ m7.toInt < a2_31.toInt) := by refine ⟨⟨?_, ?_⟩, ?_, ?_, ?_⟩ <;> omega
              clear hp
              replace hC := hC_
              clear hC_
              refine lv_aload_n hx hb dX10_line_97 rfl (lv_at hl 3 rfl) ?_
              refine z_callvV (cells := 0) (slots := 0) (b := mm) (As := []) (rest := []) (ci := 10) (q0 := (RX10, TX10, 54)) ⟨hx, hb, hml, hown, hT⟩ (c_X10_driveLine l hm_mm hm_ta hm_ha hm_dr hf_mm hf_ta hf_ha hf_dr hq_ha hq_dr (by first | omega | decide | assumption) (by first | omega | decide | assumption) (by omega)) (cwV 0 hT (z_goodV (fun _ h => h) kw_1438 kw_1440 kw_45 kw_96 kw_1441) rfl rfl rfl (by decide +kernel) ⟨by decide, by decide⟩) z_mv hKK hK hw hA hm_mm hf_mm rfl rfl rfl hl.1 rfl (Nat.le_of_ble_eq_true rfl) dX10_line_98 ⟨by decide, by decide⟩ (fun u H locs hp hw => ?_)
              obtain ⟨L36, f37⟩ := u
              obtain ⟨hsb, hfm, a2_38, k2_39, p2_40, v2_41, b2_42, q2_43, w2_44, nha_45, ndr_46, ha_0, ha_1, ha_2, hq_ha, hq_dr, hp⟩ := hp
              have hsb : L = L36 := hsb
              subst hsb
              have hsb : ∀ b ∈ L, b ∈ L := fun _ h => h
              have hw : z_H D vwCl (z_A L sz) s.heap L f37 H locs := hw
              have hfr : ∀ b ∈ L, b ≠ mm → b ≠ ha → b ≠ lw → b ≠ st → b ≠ fo → b ≠ dr → f37 b = f b := fun b hb h0 h1 h2 h3 h4 h5 => (hfm b hb h0 h1 h5).trans (hfr b hb h0 h1 h2 h3 h4 h5)
              have hf_ta : f37 ta = .inl (cy 0, 1600, .inl gta) := (hfm ta hm_ta (z_tne hf_ta hf_mm (m := 12900) (n := 10) rfl rfl (by decide)) (z_tne hf_ta hf_ha (m := 12900) (n := 340) rfl rfl (by decide)) (z_tne hf_ta hf_dr (m := 12900) (n := 4260) rfl rfl (by decide))).trans hf_ta
              have hf_lw : f37 lw = .inl (cy 1, 25, .inl glw) := (hfm lw hm_lw (z_tne hf_lw hf_mm (m := 300) (n := 10) rfl rfl (by decide)) (z_tne hf_lw hf_ha (m := 300) (n := 340) rfl rfl (by decide)) (z_tne hf_lw hf_dr (m := 300) (n := 4260) rfl rfl (by decide))).trans hf_lw
              have hf_st : f37 st = .inl (cy 1, 20, .inl gst) := (hfm st hm_st (z_tne hf_st hf_mm (m := 260) (n := 10) rfl rfl (by decide)) (z_tne hf_st hf_ha (m := 260) (n := 340) rfl rfl (by decide)) (z_tne hf_st hf_dr (m := 260) (n := 4260) rfl rfl (by decide))).trans hf_st
              have hf_fo : f37 fo = .inl (cy 1, 180, .inl gfo) := (hfm fo hm_fo (z_tne hf_fo hf_mm (m := 1540) (n := 10) rfl rfl (by decide)) (z_tne hf_fo hf_ha (m := 1540) (n := 340) rfl rfl (by decide)) (z_tne hf_fo hf_dr (m := 1540) (n := 4260) rfl rfl (by decide))).trans hf_fo
              have hf_mm : f37 mm = .inr (10, [.int m0, .ref wd, .ref my, .ref ce, .ref mv, .ref ta, .int m6, .int a2_38, .int k2_39, .int p2_40, .int v2_41, .long w2_44, .int b2_42, .int q2_43, .int m14, .int m15, .ref li, .ref ha, .ref lw, .ref st, .ref fo, .ref dr, .int m22, .ref ik, .int m24, .int m25, .long m26, .int m27, .int m28, .ref ro, .int m30, .ref ct, .ref se, .ref th, .ref cn, .ref be, .int m36, .ref du, .int m38, .ref db, .int m40, .int m41, .int m42, .ref pn, .ref wg, .ref wh, .ref tn, .ref he, .int m48, .ref tr, .ref fd, .ref po, .int m52, .int m53]) := ha_0
              have hf_ha : f37 ha = .inl (cy 1, 30, .inl nha_45) := ha_1
              have hf_dr : f37 dr = .inl (cy 1, 520, .inl ndr_46) := ha_2
              have hC_ : (0 ≤ a2_38.toInt ∧ a2_38.toInt ≤ m6.toInt) ∧ m7.toInt ≤ a2_38.toInt ∧ (b2_42.toInt ≠ 0 ∨ m12.toInt = 0) ∧ (b2_42.toInt ≠ 0 ∨ k2_39.toInt ≠ 3 ∨ m7.toInt < a2_38.toInt) := by refine ⟨⟨?_, ?_⟩, ?_, ?_, ?_⟩ <;> omega
              clear hp
              replace hC := hC_
              clear hC_
              refine lv_goto (tgt := 335) hx hb dX10_line_101 (by decide) ?_
              exact z_vret hx hb hr hlk (by decide) (by decide) hw (⟨hsub, hfr, a2_38, k2_39, p2_40, v2_41, b2_42, q2_43, m22, w2_44, nha_45, glw, gst, gfo, ndr_46, hf_mm, hf_ha, hf_lw, hf_st, hf_fo, hf_dr, hq_ha, hq_lw, hq_st, hq_dr, by omega, by omega, by omega, by omega, rfl⟩) dX10_line_335
            · skip
              exact z_vret hx hb hr hlk (by decide) (by decide) hw (⟨hsub, hfr, m7, m8, m9, m10, b2_25, p2_26, m22, m11, gha, glw, gst, gfo, gdr, hf_mm, hf_ha, hf_lw, hf_st, hf_fo, hf_dr, hq_ha, hq_lw, hq_st, hq_dr, by omega, by omega, by omega, by omega, rfl⟩) dX10_line_88
          · skip
            refine lv_iload_n hx hb dX10_line_62 rfl (lv_at hl 1 rfl) ?_
            refine z_if_eq (tgt := 81) hx hb (show (1 : Int32).toInt = 1 by decide) dX10_line_63 (by decide) (fun h => absurd h (by decide)) (fun _ => ?_)
            refine lv_aload_n hx hb dX10_line_66 rfl (lv_at hl 3 rfl) ?_
            refine lv_iconst (v := 4) hx hb dX10_line_67 (by decide) ?_
            have hz47 := (show (4 : Int32).toInt = 4 by decide)
            refine z_calliV (cells := 0) (slots := 0) (b := mm) (As := [.int 4]) (rest := []) (ci := 10) (q0 := (RX10, TX10, 54)) ⟨hx, hb, hml, hown, hT⟩ (c_X10_hasRead l hm_mm hm_ha hf_mm hf_ha hq_ha (by decide)) (cwV 1 hT (z_goodV (fun _ h => h) kw_1434 kw_1436 kw_44 kw_96 kw_1437) rfl rfl rfl (by decide +kernel) ⟨by decide, by decide⟩) z_mv hKK hK hw hA hm_mm hf_mm rfl rfl rfl hl.1 rfl (Nat.le_of_ble_eq_true rfl) dX10_line_68 ⟨by decide, by decide⟩ (fun r48 u H locs hp hw => ?_)
            obtain ⟨rfl, hp⟩ := hp
            have hw : z_H D vwCl (z_A L sz) s.heap L f13 H locs := hw
            refine lv_bipush (v := 8) hx hb dX10_line_71 (by decide) ?_
            refine z_icmp_ne (tgt := 81) hx hb rfl (show (8 : Int32).toInt = 8 by decide) dX10_line_73 (by decide) (fun c49 => ?_) (fun c49 => ?_)
            · skip
              refine lv_aload_n hx hb dX10_line_81 rfl (lv_at hl 3 rfl) ?_
              refine z_get (C := RX10) (T := TX10) (N := 54) (ci := 10) (v := .int b2_14) hx hb hT zin_X10 hown hK hw hm_mm hf_mm rfl 12 (by decide) (hT _ kw_1180) rfl dX10_line_82 ?_
              refine z_if_eq (tgt := 89) hx hb rfl dX10_line_85 (by decide) (fun c50 => ?_) (fun c50 => ?_)
              · skip
                refine lv_iload_n hx hb dX10_line_89 rfl (lv_at hl 2 rfl) ?_
                refine z_if_eq (tgt := 104) hx hb (show (1 : Int32).toInt = 1 by decide) dX10_line_90 (by decide) (fun h => absurd h (by decide)) (fun _ => ?_)
                refine lv_aload_n hx hb dX10_line_93 rfl (lv_at hl 3 rfl) ?_
                refine z_callvV (cells := 0) (slots := 0) (b := mm) (As := []) (rest := []) (ci := 10) (q0 := (RX10, TX10, 54)) ⟨hx, hb, hml, hown, hT⟩ (c_X10_next l hm_mm hm_ta hf_mm hf_ta (by first | omega | decide | assumption) (by first | omega | decide | assumption)) (cwV 0 hT (z_goodV (fun _ h => h) kw_1381 kw_1383 kw_34 kw_96 kw_1384) rfl rfl rfl (by decide +kernel) ⟨by decide, by decide⟩) z_mv hKK hK hw hA hm_mm hf_mm rfl rfl rfl hl.1 rfl (Nat.le_of_ble_eq_true rfl) dX10_line_94 ⟨by decide, by decide⟩ (fun u H locs hp hw => ?_)
                obtain ⟨L51, f52⟩ := u
                obtain ⟨hsb, hfm, a2_53, k2_54, p2_55, v2_56, w2_57, ha_0, hp⟩ := hp
                have hsb : L = L51 := hsb
                subst hsb
                have hsb : ∀ b ∈ L, b ∈ L := fun _ h => h
                have hw : z_H D vwCl (z_A L sz) s.heap L f52 H locs := hw
                have hfr : ∀ b ∈ L, b ≠ mm → b ≠ ha → b ≠ lw → b ≠ st → b ≠ fo → b ≠ dr → f52 b = f b := fun b hb h0 h1 h2 h3 h4 h5 => (hfm b hb h0).trans (hfr b hb h0 h1 h2 h3 h4 h5)
                have hf_ta : f52 ta = .inl (cy 0, 1600, .inl gta) := (hfm ta hm_ta (z_tne hf_ta hf_mm (m := 12900) (n := 10) rfl rfl (by decide))).trans hf_ta
                have hf_ha : f52 ha = .inl (cy 1, 30, .inl gha) := (hfm ha hm_ha (z_tne hf_ha hf_mm (m := 340) (n := 10) rfl rfl (by decide))).trans hf_ha
                have hf_lw : f52 lw = .inl (cy 1, 25, .inl glw) := (hfm lw hm_lw (z_tne hf_lw hf_mm (m := 300) (n := 10) rfl rfl (by decide))).trans hf_lw
                have hf_st : f52 st = .inl (cy 1, 20, .inl gst) := (hfm st hm_st (z_tne hf_st hf_mm (m := 260) (n := 10) rfl rfl (by decide))).trans hf_st
                have hf_fo : f52 fo = .inl (cy 1, 180, .inl gfo) := (hfm fo hm_fo (z_tne hf_fo hf_mm (m := 1540) (n := 10) rfl rfl (by decide))).trans hf_fo
                have hf_dr : f52 dr = .inl (cy 1, 520, .inl gdr) := (hfm dr hm_dr (z_tne hf_dr hf_mm (m := 4260) (n := 10) rfl rfl (by decide))).trans hf_dr
                have hf_mm : f52 mm = .inr (10, [.int m0, .ref wd, .ref my, .ref ce, .ref mv, .ref ta, .int m6, .int a2_53, .int k2_54, .int p2_55, .int v2_56, .long w2_57, .int b2_14, .int p2_15, .int m14, .int m15, .ref li, .ref ha, .ref lw, .ref st, .ref fo, .ref dr, .int m22, .ref ik, .int m24, .int m25, .long m26, .int m27, .int m28, .ref ro, .int m30, .ref ct, .ref se, .ref th, .ref cn, .ref be, .int m36, .ref du, .int m38, .ref db, .int m40, .int m41, .int m42, .ref pn, .ref wg, .ref wh, .ref tn, .ref he, .int m48, .ref tr, .ref fd, .ref po, .int m52, .int m53]) := ha_0
                have hC_ : (0 ≤ a2_53.toInt ∧ a2_53.toInt ≤ m6.toInt) ∧ m7.toInt ≤ a2_53.toInt ∧ (b2_14.toInt ≠ 0 ∨ m12.toInt = 0) ∧ (b2_14.toInt ≠ 0 ∨ k2_54.toInt ≠ 3 ∨ m7.toInt < a2_53.toInt) := by refine ⟨⟨?_, ?_⟩, ?_, ?_, ?_⟩ <;> omega
                clear hp
                replace hC := hC_
                clear hC_
                refine lv_aload_n hx hb dX10_line_97 rfl (lv_at hl 3 rfl) ?_
                refine z_callvV (cells := 0) (slots := 0) (b := mm) (As := []) (rest := []) (ci := 10) (q0 := (RX10, TX10, 54)) ⟨hx, hb, hml, hown, hT⟩ (c_X10_driveLine l hm_mm hm_ta hm_ha hm_dr hf_mm hf_ta hf_ha hf_dr hq_ha hq_dr (by first | omega | decide | assumption) (by first | omega | decide | assumption) (by omega)) (cwV 0 hT (z_goodV (fun _ h => h) kw_1438 kw_1440 kw_45 kw_96 kw_1441) rfl rfl rfl (by decide +kernel) ⟨by decide, by decide⟩) z_mv hKK hK hw hA hm_mm hf_mm rfl rfl rfl hl.1 rfl (Nat.le_of_ble_eq_true rfl) dX10_line_98 ⟨by decide, by decide⟩ (fun u H locs hp hw => ?_)
                obtain ⟨L58, f59⟩ := u
                obtain ⟨hsb, hfm, a2_60, k2_61, p2_62, v2_63, b2_64, q2_65, w2_66, nha_67, ndr_68, ha_0, ha_1, ha_2, hq_ha, hq_dr, hp⟩ := hp
                have hsb : L = L58 := hsb
                subst hsb
                have hsb : ∀ b ∈ L, b ∈ L := fun _ h => h
                have hw : z_H D vwCl (z_A L sz) s.heap L f59 H locs := hw
                have hfr : ∀ b ∈ L, b ≠ mm → b ≠ ha → b ≠ lw → b ≠ st → b ≠ fo → b ≠ dr → f59 b = f b := fun b hb h0 h1 h2 h3 h4 h5 => (hfm b hb h0 h1 h5).trans (hfr b hb h0 h1 h2 h3 h4 h5)
                have hf_ta : f59 ta = .inl (cy 0, 1600, .inl gta) := (hfm ta hm_ta (z_tne hf_ta hf_mm (m := 12900) (n := 10) rfl rfl (by decide)) (z_tne hf_ta hf_ha (m := 12900) (n := 340) rfl rfl (by decide)) (z_tne hf_ta hf_dr (m := 12900) (n := 4260) rfl rfl (by decide))).trans hf_ta
                have hf_lw : f59 lw = .inl (cy 1, 25, .inl glw) := (hfm lw hm_lw (z_tne hf_lw hf_mm (m := 300) (n := 10) rfl rfl (by decide)) (z_tne hf_lw hf_ha (m := 300) (n := 340) rfl rfl (by decide)) (z_tne hf_lw hf_dr (m := 300) (n := 4260) rfl rfl (by decide))).trans hf_lw
                have hf_st : f59 st = .inl (cy 1, 20, .inl gst) := (hfm st hm_st (z_tne hf_st hf_mm (m := 260) (n := 10) rfl rfl (by decide)) (z_tne hf_st hf_ha (m := 260) (n := 340) rfl rfl (by decide)) (z_tne hf_st hf_dr (m := 260) (n := 4260) rfl rfl (by decide))).trans hf_st
                have hf_fo : f59 fo = .inl (cy 1, 180, .inl gfo) := (hfm fo hm_fo (z_tne hf_fo hf_mm (m := 1540) (n := 10) rfl rfl (by decide)) (z_tne hf_fo hf_ha (m := 1540) (n := 340) rfl rfl (by decide)) (z_tne hf_fo hf_dr (m := 1540) (n := 4260) rfl rfl (by decide))).trans hf_fo
                have hf_mm : f59 mm = .inr (10, [.int m0, .ref wd, .ref my, .ref ce, .ref mv, .ref ta, .int m6, .int a2_60, .int k2_61, .int p2_62, .int v2_63, .long w2_66, .int b2_64, .int q2_65, .int m14, .int m15, .ref li, .ref ha, .ref lw, .ref st, .ref fo, .ref dr, .int m22, .ref ik, .int m24, .int m25, .long m26, .int m27, .int m28, .ref ro, .int m30, .ref ct, .ref se, .ref th, .ref cn, .ref be, .int m36, .ref du, .int m38, .ref db, .int m40, .int m41, .int m42, .ref pn, .ref wg, .ref wh, .ref tn, .ref he, .int m48, .ref tr, .ref fd, .ref po, .int m52, .int m53]) := ha_0
                have hf_ha : f59 ha = .inl (cy 1, 30, .inl nha_67) := ha_1
                have hf_dr : f59 dr = .inl (cy 1, 520, .inl ndr_68) := ha_2
                have hC_ : (0 ≤ a2_60.toInt ∧ a2_60.toInt ≤ m6.toInt) ∧ m7.toInt ≤ a2_60.toInt ∧ (b2_64.toInt ≠ 0 ∨ m12.toInt = 0) ∧ (b2_64.toInt ≠ 0 ∨ k2_61.toInt ≠ 3 ∨ m7.toInt < a2_60.toInt) := by refine ⟨⟨?_, ?_⟩, ?_, ?_, ?_⟩ <;> omega
                clear hp
                replace hC := hC_
                clear hC_
                refine lv_goto (tgt := 335) hx hb dX10_line_101 (by decide) ?_
                exact z_vret hx hb hr hlk (by decide) (by decide) hw (⟨hsub, hfr, a2_60, k2_61, p2_62, v2_63, b2_64, q2_65, m22, w2_66, nha_67, glw, gst, gfo, ndr_68, hf_mm, hf_ha, hf_lw, hf_st, hf_fo, hf_dr, hq_ha, hq_lw, hq_st, hq_dr, by omega, by omega, by omega, by omega, rfl⟩) dX10_line_335
              · skip
                exact z_vret hx hb hr hlk (by decide) (by decide) hw (⟨hsub, hfr, m7, m8, m9, m10, b2_14, p2_15, m22, m11, gha, glw, gst, gfo, gdr, hf_mm, hf_ha, hf_lw, hf_st, hf_fo, hf_dr, hq_ha, hq_lw, hq_st, hq_dr, by omega, by omega, by omega, by omega, rfl⟩) dX10_line_88
            · skip
              refine lv_aload_n hx hb dX10_line_76 rfl (lv_at hl 3 rfl) ?_
              refine lv_iconst (v := 3) hx hb dX10_line_77 (by decide) ?_
              have hz69 := (show (3 : Int32).toInt = 3 by decide)
              refine z_callvV (cells := 0) (slots := 0) (b := mm) (As := [.int 3]) (rest := []) (ci := 10) (q0 := (RX10, TX10, 54)) ⟨hx, hb, hml, hown, hT⟩ (c_X10_fails l hm_mm hf_mm (by first | omega | decide | assumption)) (cwV 1 hT (z_goodV (fun _ h => h) kw_1411 kw_1413 kw_40 kw_96 kw_1414) rfl rfl rfl (by decide +kernel) ⟨by decide, by decide⟩) z_mv hKK hK hw hA hm_mm hf_mm rfl rfl rfl hl.1 rfl (Nat.le_of_ble_eq_true rfl) dX10_line_78 ⟨by decide, by decide⟩ (fun u H locs hp hw => ?_)
              obtain ⟨L70, f71⟩ := u
              obtain ⟨hsb, hfm, b2_72, p2_73, ha_0, hp⟩ := hp
              have hsb : L = L70 := hsb
              subst hsb
              have hsb : ∀ b ∈ L, b ∈ L := fun _ h => h
              have hw : z_H D vwCl (z_A L sz) s.heap L f71 H locs := hw
              have hfr : ∀ b ∈ L, b ≠ mm → b ≠ ha → b ≠ lw → b ≠ st → b ≠ fo → b ≠ dr → f71 b = f b := fun b hb h0 h1 h2 h3 h4 h5 => (hfm b hb h0).trans (hfr b hb h0 h1 h2 h3 h4 h5)
              have hf_ta : f71 ta = .inl (cy 0, 1600, .inl gta) := (hfm ta hm_ta (z_tne hf_ta hf_mm (m := 12900) (n := 10) rfl rfl (by decide))).trans hf_ta
              have hf_ha : f71 ha = .inl (cy 1, 30, .inl gha) := (hfm ha hm_ha (z_tne hf_ha hf_mm (m := 340) (n := 10) rfl rfl (by decide))).trans hf_ha
              have hf_lw : f71 lw = .inl (cy 1, 25, .inl glw) := (hfm lw hm_lw (z_tne hf_lw hf_mm (m := 300) (n := 10) rfl rfl (by decide))).trans hf_lw
              have hf_st : f71 st = .inl (cy 1, 20, .inl gst) := (hfm st hm_st (z_tne hf_st hf_mm (m := 260) (n := 10) rfl rfl (by decide))).trans hf_st
              have hf_fo : f71 fo = .inl (cy 1, 180, .inl gfo) := (hfm fo hm_fo (z_tne hf_fo hf_mm (m := 1540) (n := 10) rfl rfl (by decide))).trans hf_fo
              have hf_dr : f71 dr = .inl (cy 1, 520, .inl gdr) := (hfm dr hm_dr (z_tne hf_dr hf_mm (m := 4260) (n := 10) rfl rfl (by decide))).trans hf_dr
              have hf_mm : f71 mm = .inr (10, [.int m0, .ref wd, .ref my, .ref ce, .ref mv, .ref ta, .int m6, .int m7, .int m8, .int m9, .int m10, .long m11, .int b2_72, .int p2_73, .int m14, .int m15, .ref li, .ref ha, .ref lw, .ref st, .ref fo, .ref dr, .int m22, .ref ik, .int m24, .int m25, .long m26, .int m27, .int m28, .ref ro, .int m30, .ref ct, .ref se, .ref th, .ref cn, .ref be, .int m36, .ref du, .int m38, .ref db, .int m40, .int m41, .int m42, .ref pn, .ref wg, .ref wh, .ref tn, .ref he, .int m48, .ref tr, .ref fd, .ref po, .int m52, .int m53]) := ha_0
              have hq74 := hp
              refine lv_aload_n hx hb dX10_line_81 rfl (lv_at hl 3 rfl) ?_
              refine z_get (C := RX10) (T := TX10) (N := 54) (ci := 10) (v := .int b2_72) hx hb hT zin_X10 hown hK hw hm_mm hf_mm rfl 12 (by decide) (hT _ kw_1180) rfl dX10_line_82 ?_
              refine z_if_eq (tgt := 89) hx hb rfl dX10_line_85 (by decide) (fun c75 => ?_) (fun c75 => ?_)
              · skip
                refine lv_iload_n hx hb dX10_line_89 rfl (lv_at hl 2 rfl) ?_
                refine z_if_eq (tgt := 104) hx hb (show (1 : Int32).toInt = 1 by decide) dX10_line_90 (by decide) (fun h => absurd h (by decide)) (fun _ => ?_)
                refine lv_aload_n hx hb dX10_line_93 rfl (lv_at hl 3 rfl) ?_
                refine z_callvV (cells := 0) (slots := 0) (b := mm) (As := []) (rest := []) (ci := 10) (q0 := (RX10, TX10, 54)) ⟨hx, hb, hml, hown, hT⟩ (c_X10_next l hm_mm hm_ta hf_mm hf_ta (by first | omega | decide | assumption) (by first | omega | decide | assumption)) (cwV 0 hT (z_goodV (fun _ h => h) kw_1381 kw_1383 kw_34 kw_96 kw_1384) rfl rfl rfl (by decide +kernel) ⟨by decide, by decide⟩) z_mv hKK hK hw hA hm_mm hf_mm rfl rfl rfl hl.1 rfl (Nat.le_of_ble_eq_true rfl) dX10_line_94 ⟨by decide, by decide⟩ (fun u H locs hp hw => ?_)
                obtain ⟨L76, f77⟩ := u
                obtain ⟨hsb, hfm, a2_78, k2_79, p2_80, v2_81, w2_82, ha_0, hp⟩ := hp
                have hsb : L = L76 := hsb
                subst hsb
                have hsb : ∀ b ∈ L, b ∈ L := fun _ h => h
                have hw : z_H D vwCl (z_A L sz) s.heap L f77 H locs := hw
                have hfr : ∀ b ∈ L, b ≠ mm → b ≠ ha → b ≠ lw → b ≠ st → b ≠ fo → b ≠ dr → f77 b = f b := fun b hb h0 h1 h2 h3 h4 h5 => (hfm b hb h0).trans (hfr b hb h0 h1 h2 h3 h4 h5)
                have hf_ta : f77 ta = .inl (cy 0, 1600, .inl gta) := (hfm ta hm_ta (z_tne hf_ta hf_mm (m := 12900) (n := 10) rfl rfl (by decide))).trans hf_ta
                have hf_ha : f77 ha = .inl (cy 1, 30, .inl gha) := (hfm ha hm_ha (z_tne hf_ha hf_mm (m := 340) (n := 10) rfl rfl (by decide))).trans hf_ha
                have hf_lw : f77 lw = .inl (cy 1, 25, .inl glw) := (hfm lw hm_lw (z_tne hf_lw hf_mm (m := 300) (n := 10) rfl rfl (by decide))).trans hf_lw
                have hf_st : f77 st = .inl (cy 1, 20, .inl gst) := (hfm st hm_st (z_tne hf_st hf_mm (m := 260) (n := 10) rfl rfl (by decide))).trans hf_st
                have hf_fo : f77 fo = .inl (cy 1, 180, .inl gfo) := (hfm fo hm_fo (z_tne hf_fo hf_mm (m := 1540) (n := 10) rfl rfl (by decide))).trans hf_fo
                have hf_dr : f77 dr = .inl (cy 1, 520, .inl gdr) := (hfm dr hm_dr (z_tne hf_dr hf_mm (m := 4260) (n := 10) rfl rfl (by decide))).trans hf_dr
                have hf_mm : f77 mm = .inr (10, [.int m0, .ref wd, .ref my, .ref ce, .ref mv, .ref ta, .int m6, .int a2_78, .int k2_79, .int p2_80, .int v2_81, .long w2_82, .int b2_72, .int p2_73, .int m14, .int m15, .ref li, .ref ha, .ref lw, .ref st, .ref fo, .ref dr, .int m22, .ref ik, .int m24, .int m25, .long m26, .int m27, .int m28, .ref ro, .int m30, .ref ct, .ref se, .ref th, .ref cn, .ref be, .int m36, .ref du, .int m38, .ref db, .int m40, .int m41, .int m42, .ref pn, .ref wg, .ref wh, .ref tn, .ref he, .int m48, .ref tr, .ref fd, .ref po, .int m52, .int m53]) := ha_0
                have hC_ : (0 ≤ a2_78.toInt ∧ a2_78.toInt ≤ m6.toInt) ∧ m7.toInt ≤ a2_78.toInt ∧ (b2_72.toInt ≠ 0 ∨ m12.toInt = 0) ∧ (b2_72.toInt ≠ 0 ∨ k2_79.toInt ≠ 3 ∨ m7.toInt < a2_78.toInt) := by refine ⟨⟨?_, ?_⟩, ?_, ?_, ?_⟩ <;> omega
                clear hp
                replace hC := hC_
                clear hC_
                refine lv_aload_n hx hb dX10_line_97 rfl (lv_at hl 3 rfl) ?_
                refine z_callvV (cells := 0) (slots := 0) (b := mm) (As := []) (rest := []) (ci := 10) (q0 := (RX10, TX10, 54)) ⟨hx, hb, hml, hown, hT⟩ (c_X10_driveLine l hm_mm hm_ta hm_ha hm_dr hf_mm hf_ta hf_ha hf_dr hq_ha hq_dr (by first | omega | decide | assumption) (by first | omega | decide | assumption) (by omega)) (cwV 0 hT (z_goodV (fun _ h => h) kw_1438 kw_1440 kw_45 kw_96 kw_1441) rfl rfl rfl (by decide +kernel) ⟨by decide, by decide⟩) z_mv hKK hK hw hA hm_mm hf_mm rfl rfl rfl hl.1 rfl (Nat.le_of_ble_eq_true rfl) dX10_line_98 ⟨by decide, by decide⟩ (fun u H locs hp hw => ?_)
                obtain ⟨L83, f84⟩ := u
                obtain ⟨hsb, hfm, a2_85, k2_86, p2_87, v2_88, b2_89, q2_90, w2_91, nha_92, ndr_93, ha_0, ha_1, ha_2, hq_ha, hq_dr, hp⟩ := hp
                have hsb : L = L83 := hsb
                subst hsb
                have hsb : ∀ b ∈ L, b ∈ L := fun _ h => h
                have hw : z_H D vwCl (z_A L sz) s.heap L f84 H locs := hw
                have hfr : ∀ b ∈ L, b ≠ mm → b ≠ ha → b ≠ lw → b ≠ st → b ≠ fo → b ≠ dr → f84 b = f b := fun b hb h0 h1 h2 h3 h4 h5 => (hfm b hb h0 h1 h5).trans (hfr b hb h0 h1 h2 h3 h4 h5)
                have hf_ta : f84 ta = .inl (cy 0, 1600, .inl gta) := (hfm ta hm_ta (z_tne hf_ta hf_mm (m := 12900) (n := 10) rfl rfl (by decide)) (z_tne hf_ta hf_ha (m := 12900) (n := 340) rfl rfl (by decide)) (z_tne hf_ta hf_dr (m := 12900) (n := 4260) rfl rfl (by decide))).trans hf_ta
                have hf_lw : f84 lw = .inl (cy 1, 25, .inl glw) := (hfm lw hm_lw (z_tne hf_lw hf_mm (m := 300) (n := 10) rfl rfl (by decide)) (z_tne hf_lw hf_ha (m := 300) (n := 340) rfl rfl (by decide)) (z_tne hf_lw hf_dr (m := 300) (n := 4260) rfl rfl (by decide))).trans hf_lw
                have hf_st : f84 st = .inl (cy 1, 20, .inl gst) := (hfm st hm_st (z_tne hf_st hf_mm (m := 260) (n := 10) rfl rfl (by decide)) (z_tne hf_st hf_ha (m := 260) (n := 340) rfl rfl (by decide)) (z_tne hf_st hf_dr (m := 260) (n := 4260) rfl rfl (by decide))).trans hf_st
                have hf_fo : f84 fo = .inl (cy 1, 180, .inl gfo) := (hfm fo hm_fo (z_tne hf_fo hf_mm (m := 1540) (n := 10) rfl rfl (by decide)) (z_tne hf_fo hf_ha (m := 1540) (n := 340) rfl rfl (by decide)) (z_tne hf_fo hf_dr (m := 1540) (n := 4260) rfl rfl (by decide))).trans hf_fo
                have hf_mm : f84 mm = .inr (10, [.int m0, .ref wd, .ref my, .ref ce, .ref mv, .ref ta, .int m6, .int a2_85, .int k2_86, .int p2_87, .int v2_88, .long w2_91, .int b2_89, .int q2_90, .int m14, .int m15, .ref li, .ref ha, .ref lw, .ref st, .ref fo, .ref dr, .int m22, .ref ik, .int m24, .int m25, .long m26, .int m27, .int m28, .ref ro, .int m30, .ref ct, .ref se, .ref th, .ref cn, .ref be, .int m36, .ref du, .int m38, .ref db, .int m40, .int m41, .int m42, .ref pn, .ref wg, .ref wh, .ref tn, .ref he, .int m48, .ref tr, .ref fd, .ref po, .int m52, .int m53]) := ha_0
                have hf_ha : f84 ha = .inl (cy 1, 30, .inl nha_92) := ha_1
                have hf_dr : f84 dr = .inl (cy 1, 520, .inl ndr_93) := ha_2
                have hC_ : (0 ≤ a2_85.toInt ∧ a2_85.toInt ≤ m6.toInt) ∧ m7.toInt ≤ a2_85.toInt ∧ (b2_89.toInt ≠ 0 ∨ m12.toInt = 0) ∧ (b2_89.toInt ≠ 0 ∨ k2_86.toInt ≠ 3 ∨ m7.toInt < a2_85.toInt) := by refine ⟨⟨?_, ?_⟩, ?_, ?_, ?_⟩ <;> omega
                clear hp
                replace hC := hC_
                clear hC_
                refine lv_goto (tgt := 335) hx hb dX10_line_101 (by decide) ?_
                exact z_vret hx hb hr hlk (by decide) (by decide) hw (⟨hsub, hfr, a2_85, k2_86, p2_87, v2_88, b2_89, q2_90, m22, w2_91, nha_92, glw, gst, gfo, ndr_93, hf_mm, hf_ha, hf_lw, hf_st, hf_fo, hf_dr, hq_ha, hq_lw, hq_st, hq_dr, by omega, by omega, by omega, by omega, rfl⟩) dX10_line_335
              · skip
                exact z_vret hx hb hr hlk (by decide) (by decide) hw (⟨hsub, hfr, m7, m8, m9, m10, b2_72, p2_73, m22, m11, gha, glw, gst, gfo, gdr, hf_mm, hf_ha, hf_lw, hf_st, hf_fo, hf_dr, hq_ha, hq_lw, hq_st, hq_dr, by omega, by omega, by omega, by omega, rfl⟩) dX10_line_88
        · skip
          refine lv_aload_n hx hb dX10_line_35 rfl (lv_at hl 3 rfl) ?_
          refine lv_iconst (v := 3) hx hb dX10_line_36 (by decide) ?_
          have hz94 := (show (3 : Int32).toInt = 3 by decide)
          refine z_calliV (cells := 0) (slots := 0) (b := mm) (As := [.int 3]) (rest := []) (ci := 10) (q0 := (RX10, TX10, 54)) ⟨hx, hb, hml, hown, hT⟩ (c_X10_hasRead l hm_mm hm_ha hf_mm hf_ha hq_ha (by decide)) (cwV 1 hT (z_goodV (fun _ h => h) kw_1434 kw_1436 kw_44 kw_96 kw_1437) rfl rfl rfl (by decide +kernel) ⟨by decide, by decide⟩) z_mv hKK hK hw hA hm_mm hf_mm rfl rfl rfl hl.1 rfl (Nat.le_of_ble_eq_true rfl) dX10_line_37 ⟨by decide, by decide⟩ (fun r95 u H locs hp hw => ?_)
          obtain ⟨rfl, hp⟩ := hp
          have hw : z_H D vwCl (z_A L sz) s.heap L f H locs := hw
          have h3e96 : (gha 27).toInt = r95.toInt := by rw [hp]; rfl
          have hh97 : 0 ≤ r95.toInt ∧ r95.toInt ≤ 12 := by rw [hp]; exact (hq_ha 27).1.2.2.2 rfl
          refine z_if_le (tgt := 48) hx hb rfl dX10_line_40 (by decide) (fun c98 => ?_) (fun c98 => ?_)
          · skip
            refine lv_iload_n hx hb dX10_line_48 rfl (lv_at hl 2 rfl) ?_
            refine z_if_eq (tgt := 62) hx hb (show (1 : Int32).toInt = 1 by decide) dX10_line_49 (by decide) (fun h => absurd h (by decide)) (fun _ => ?_)
            refine lv_aload_n hx hb dX10_line_52 rfl (lv_at hl 3 rfl) ?_
            refine lv_iconst (v := 3) hx hb dX10_line_53 (by decide) ?_
            have hz99 := (show (3 : Int32).toInt = 3 by decide)
            refine z_calliV (cells := 0) (slots := 0) (b := mm) (As := [.int 3]) (rest := []) (ci := 10) (q0 := (RX10, TX10, 54)) ⟨hx, hb, hml, hown, hT⟩ (c_X10_hasRead l hm_mm hm_ha hf_mm hf_ha hq_ha (by decide)) (cwV 1 hT (z_goodV (fun _ h => h) kw_1434 kw_1436 kw_44 kw_96 kw_1437) rfl rfl rfl (by decide +kernel) ⟨by decide, by decide⟩) z_mv hKK hK hw hA hm_mm hf_mm rfl rfl rfl hl.1 rfl (Nat.le_of_ble_eq_true rfl) dX10_line_54 ⟨by decide, by decide⟩ (fun r100 u H locs hp hw => ?_)
            obtain ⟨rfl, hp⟩ := hp
            have hw : z_H D vwCl (z_A L sz) s.heap L f H locs := hw
            have h3e101 : (gha 27).toInt = r100.toInt := by rw [hp]; rfl
            have hh102 : 0 ≤ r100.toInt ∧ r100.toInt ≤ 12 := by rw [hp]; exact (hq_ha 27).1.2.2.2 rfl
            refine lv_bipush (v := 12) hx hb dX10_line_57 (by decide) ?_
            refine z_icmp_eq (tgt := 76) hx hb rfl (show (12 : Int32).toInt = 12 by decide) dX10_line_59 (by decide) (fun c103 => ?_) (fun c103 => ?_)
            · skip
              refine lv_aload_n hx hb dX10_line_76 rfl (lv_at hl 3 rfl) ?_
              refine lv_iconst (v := 3) hx hb dX10_line_77 (by decide) ?_
              have hz104 := (show (3 : Int32).toInt = 3 by decide)
              refine z_callvV (cells := 0) (slots := 0) (b := mm) (As := [.int 3]) (rest := []) (ci := 10) (q0 := (RX10, TX10, 54)) ⟨hx, hb, hml, hown, hT⟩ (c_X10_fails l hm_mm hf_mm (by first | omega | decide | assumption)) (cwV 1 hT (z_goodV (fun _ h => h) kw_1411 kw_1413 kw_40 kw_96 kw_1414) rfl rfl rfl (by decide +kernel) ⟨by decide, by decide⟩) z_mv hKK hK hw hA hm_mm hf_mm rfl rfl rfl hl.1 rfl (Nat.le_of_ble_eq_true rfl) dX10_line_78 ⟨by decide, by decide⟩ (fun u H locs hp hw => ?_)
              obtain ⟨L105, f106⟩ := u
              obtain ⟨hsb, hfm, b2_107, p2_108, ha_0, hp⟩ := hp
              have hsb : L = L105 := hsb
              subst hsb
              have hsb : ∀ b ∈ L, b ∈ L := fun _ h => h
              have hw : z_H D vwCl (z_A L sz) s.heap L f106 H locs := hw
              have hfr : ∀ b ∈ L, b ≠ mm → b ≠ ha → b ≠ lw → b ≠ st → b ≠ fo → b ≠ dr → f106 b = f b := fun b hb h0 h1 h2 h3 h4 h5 => (hfm b hb h0).trans (hfr b hb h0 h1 h2 h3 h4 h5)
              have hf_ta : f106 ta = .inl (cy 0, 1600, .inl gta) := (hfm ta hm_ta (z_tne hf_ta hf_mm (m := 12900) (n := 10) rfl rfl (by decide))).trans hf_ta
              have hf_ha : f106 ha = .inl (cy 1, 30, .inl gha) := (hfm ha hm_ha (z_tne hf_ha hf_mm (m := 340) (n := 10) rfl rfl (by decide))).trans hf_ha
              have hf_lw : f106 lw = .inl (cy 1, 25, .inl glw) := (hfm lw hm_lw (z_tne hf_lw hf_mm (m := 300) (n := 10) rfl rfl (by decide))).trans hf_lw
              have hf_st : f106 st = .inl (cy 1, 20, .inl gst) := (hfm st hm_st (z_tne hf_st hf_mm (m := 260) (n := 10) rfl rfl (by decide))).trans hf_st
              have hf_fo : f106 fo = .inl (cy 1, 180, .inl gfo) := (hfm fo hm_fo (z_tne hf_fo hf_mm (m := 1540) (n := 10) rfl rfl (by decide))).trans hf_fo
              have hf_dr : f106 dr = .inl (cy 1, 520, .inl gdr) := (hfm dr hm_dr (z_tne hf_dr hf_mm (m := 4260) (n := 10) rfl rfl (by decide))).trans hf_dr
              have hf_mm : f106 mm = .inr (10, [.int m0, .ref wd, .ref my, .ref ce, .ref mv, .ref ta, .int m6, .int m7, .int m8, .int m9, .int m10, .long m11, .int b2_107, .int p2_108, .int m14, .int m15, .ref li, .ref ha, .ref lw, .ref st, .ref fo, .ref dr, .int m22, .ref ik, .int m24, .int m25, .long m26, .int m27, .int m28, .ref ro, .int m30, .ref ct, .ref se, .ref th, .ref cn, .ref be, .int m36, .ref du, .int m38, .ref db, .int m40, .int m41, .int m42, .ref pn, .ref wg, .ref wh, .ref tn, .ref he, .int m48, .ref tr, .ref fd, .ref po, .int m52, .int m53]) := ha_0
              have hq109 := hp
              refine lv_aload_n hx hb dX10_line_81 rfl (lv_at hl 3 rfl) ?_
              refine z_get (C := RX10) (T := TX10) (N := 54) (ci := 10) (v := .int b2_107) hx hb hT zin_X10 hown hK hw hm_mm hf_mm rfl 12 (by decide) (hT _ kw_1180) rfl dX10_line_82 ?_
              refine z_if_eq (tgt := 89) hx hb rfl dX10_line_85 (by decide) (fun c110 => ?_) (fun c110 => ?_)
              · skip
                refine lv_iload_n hx hb dX10_line_89 rfl (lv_at hl 2 rfl) ?_
                refine z_if_eq (tgt := 104) hx hb (show (1 : Int32).toInt = 1 by decide) dX10_line_90 (by decide) (fun h => absurd h (by decide)) (fun _ => ?_)
                refine lv_aload_n hx hb dX10_line_93 rfl (lv_at hl 3 rfl) ?_
                refine z_callvV (cells := 0) (slots := 0) (b := mm) (As := []) (rest := []) (ci := 10) (q0 := (RX10, TX10, 54)) ⟨hx, hb, hml, hown, hT⟩ (c_X10_next l hm_mm hm_ta hf_mm hf_ta (by first | omega | decide | assumption) (by first | omega | decide | assumption)) (cwV 0 hT (z_goodV (fun _ h => h) kw_1381 kw_1383 kw_34 kw_96 kw_1384) rfl rfl rfl (by decide +kernel) ⟨by decide, by decide⟩) z_mv hKK hK hw hA hm_mm hf_mm rfl rfl rfl hl.1 rfl (Nat.le_of_ble_eq_true rfl) dX10_line_94 ⟨by decide, by decide⟩ (fun u H locs hp hw => ?_)
                obtain ⟨L111, f112⟩ := u
                obtain ⟨hsb, hfm, a2_113, k2_114, p2_115, v2_116, w2_117, ha_0, hp⟩ := hp
                have hsb : L = L111 := hsb
                subst hsb
                have hsb : ∀ b ∈ L, b ∈ L := fun _ h => h
                have hw : z_H D vwCl (z_A L sz) s.heap L f112 H locs := hw
                have hfr : ∀ b ∈ L, b ≠ mm → b ≠ ha → b ≠ lw → b ≠ st → b ≠ fo → b ≠ dr → f112 b = f b := fun b hb h0 h1 h2 h3 h4 h5 => (hfm b hb h0).trans (hfr b hb h0 h1 h2 h3 h4 h5)
                have hf_ta : f112 ta = .inl (cy 0, 1600, .inl gta) := (hfm ta hm_ta (z_tne hf_ta hf_mm (m := 12900) (n := 10) rfl rfl (by decide))).trans hf_ta
                have hf_ha : f112 ha = .inl (cy 1, 30, .inl gha) := (hfm ha hm_ha (z_tne hf_ha hf_mm (m := 340) (n := 10) rfl rfl (by decide))).trans hf_ha
                have hf_lw : f112 lw = .inl (cy 1, 25, .inl glw) := (hfm lw hm_lw (z_tne hf_lw hf_mm (m := 300) (n := 10) rfl rfl (by decide))).trans hf_lw
                have hf_st : f112 st = .inl (cy 1, 20, .inl gst) := (hfm st hm_st (z_tne hf_st hf_mm (m := 260) (n := 10) rfl rfl (by decide))).trans hf_st
                have hf_fo : f112 fo = .inl (cy 1, 180, .inl gfo) := (hfm fo hm_fo (z_tne hf_fo hf_mm (m := 1540) (n := 10) rfl rfl (by decide))).trans hf_fo
                have hf_dr : f112 dr = .inl (cy 1, 520, .inl gdr) := (hfm dr hm_dr (z_tne hf_dr hf_mm (m := 4260) (n := 10) rfl rfl (by decide))).trans hf_dr
                have hf_mm : f112 mm = .inr (10, [.int m0, .ref wd, .ref my, .ref ce, .ref mv, .ref ta, .int m6, .int a2_113, .int k2_114, .int p2_115, .int v2_116, .long w2_117, .int b2_107, .int p2_108, .int m14, .int m15, .ref li, .ref ha, .ref lw, .ref st, .ref fo, .ref dr, .int m22, .ref ik, .int m24, .int m25, .long m26, .int m27, .int m28, .ref ro, .int m30, .ref ct, .ref se, .ref th, .ref cn, .ref be, .int m36, .ref du, .int m38, .ref db, .int m40, .int m41, .int m42, .ref pn, .ref wg, .ref wh, .ref tn, .ref he, .int m48, .ref tr, .ref fd, .ref po, .int m52, .int m53]) := ha_0
                have hC_ : (0 ≤ a2_113.toInt ∧ a2_113.toInt ≤ m6.toInt) ∧ m7.toInt ≤ a2_113.toInt ∧ (b2_107.toInt ≠ 0 ∨ m12.toInt = 0) ∧ (b2_107.toInt ≠ 0 ∨ k2_114.toInt ≠ 3 ∨ m7.toInt < a2_113.toInt) := by refine ⟨⟨?_, ?_⟩, ?_, ?_, ?_⟩ <;> omega
                clear hp
                replace hC := hC_
                clear hC_
                refine lv_aload_n hx hb dX10_line_97 rfl (lv_at hl 3 rfl) ?_
                refine z_callvV (cells := 0) (slots := 0) (b := mm) (As := []) (rest := []) (ci := 10) (q0 := (RX10, TX10, 54)) ⟨hx, hb, hml, hown, hT⟩ (c_X10_driveLine l hm_mm hm_ta hm_ha hm_dr hf_mm hf_ta hf_ha hf_dr hq_ha hq_dr (by first | omega | decide | assumption) (by first | omega | decide | assumption) (by omega)) (cwV 0 hT (z_goodV (fun _ h => h) kw_1438 kw_1440 kw_45 kw_96 kw_1441) rfl rfl rfl (by decide +kernel) ⟨by decide, by decide⟩) z_mv hKK hK hw hA hm_mm hf_mm rfl rfl rfl hl.1 rfl (Nat.le_of_ble_eq_true rfl) dX10_line_98 ⟨by decide, by decide⟩ (fun u H locs hp hw => ?_)
                obtain ⟨L118, f119⟩ := u
                obtain ⟨hsb, hfm, a2_120, k2_121, p2_122, v2_123, b2_124, q2_125, w2_126, nha_127, ndr_128, ha_0, ha_1, ha_2, hq_ha, hq_dr, hp⟩ := hp
                have hsb : L = L118 := hsb
                subst hsb
                have hsb : ∀ b ∈ L, b ∈ L := fun _ h => h
                have hw : z_H D vwCl (z_A L sz) s.heap L f119 H locs := hw
                have hfr : ∀ b ∈ L, b ≠ mm → b ≠ ha → b ≠ lw → b ≠ st → b ≠ fo → b ≠ dr → f119 b = f b := fun b hb h0 h1 h2 h3 h4 h5 => (hfm b hb h0 h1 h5).trans (hfr b hb h0 h1 h2 h3 h4 h5)
                have hf_ta : f119 ta = .inl (cy 0, 1600, .inl gta) := (hfm ta hm_ta (z_tne hf_ta hf_mm (m := 12900) (n := 10) rfl rfl (by decide)) (z_tne hf_ta hf_ha (m := 12900) (n := 340) rfl rfl (by decide)) (z_tne hf_ta hf_dr (m := 12900) (n := 4260) rfl rfl (by decide))).trans hf_ta
                have hf_lw : f119 lw = .inl (cy 1, 25, .inl glw) := (hfm lw hm_lw (z_tne hf_lw hf_mm (m := 300) (n := 10) rfl rfl (by decide)) (z_tne hf_lw hf_ha (m := 300) (n := 340) rfl rfl (by decide)) (z_tne hf_lw hf_dr (m := 300) (n := 4260) rfl rfl (by decide))).trans hf_lw
                have hf_st : f119 st = .inl (cy 1, 20, .inl gst) := (hfm st hm_st (z_tne hf_st hf_mm (m := 260) (n := 10) rfl rfl (by decide)) (z_tne hf_st hf_ha (m := 260) (n := 340) rfl rfl (by decide)) (z_tne hf_st hf_dr (m := 260) (n := 4260) rfl rfl (by decide))).trans hf_st
                have hf_fo : f119 fo = .inl (cy 1, 180, .inl gfo) := (hfm fo hm_fo (z_tne hf_fo hf_mm (m := 1540) (n := 10) rfl rfl (by decide)) (z_tne hf_fo hf_ha (m := 1540) (n := 340) rfl rfl (by decide)) (z_tne hf_fo hf_dr (m := 1540) (n := 4260) rfl rfl (by decide))).trans hf_fo
                have hf_mm : f119 mm = .inr (10, [.int m0, .ref wd, .ref my, .ref ce, .ref mv, .ref ta, .int m6, .int a2_120, .int k2_121, .int p2_122, .int v2_123, .long w2_126, .int b2_124, .int q2_125, .int m14, .int m15, .ref li, .ref ha, .ref lw, .ref st, .ref fo, .ref dr, .int m22, .ref ik, .int m24, .int m25, .long m26, .int m27, .int m28, .ref ro, .int m30, .ref ct, .ref se, .ref th, .ref cn, .ref be, .int m36, .ref du, .int m38, .ref db, .int m40, .int m41, .int m42, .ref pn, .ref wg, .ref wh, .ref tn, .ref he, .int m48, .ref tr, .ref fd, .ref po, .int m52, .int m53]) := ha_0
                have hf_ha : f119 ha = .inl (cy 1, 30, .inl nha_127) := ha_1
                have hf_dr : f119 dr = .inl (cy 1, 520, .inl ndr_128) := ha_2
                have hC_ : (0 ≤ a2_120.toInt ∧ a2_120.toInt ≤ m6.toInt) ∧ m7.toInt ≤ a2_120.toInt ∧ (b2_124.toInt ≠ 0 ∨ m12.toInt = 0) ∧ (b2_124.toInt ≠ 0 ∨ k2_121.toInt ≠ 3 ∨ m7.toInt < a2_120.toInt) := by refine ⟨⟨?_, ?_⟩, ?_, ?_, ?_⟩ <;> omega
                clear hp
                replace hC := hC_
                clear hC_
                refine lv_goto (tgt := 335) hx hb dX10_line_101 (by decide) ?_
                exact z_vret hx hb hr hlk (by decide) (by decide) hw (⟨hsub, hfr, a2_120, k2_121, p2_122, v2_123, b2_124, q2_125, m22, w2_126, nha_127, glw, gst, gfo, ndr_128, hf_mm, hf_ha, hf_lw, hf_st, hf_fo, hf_dr, hq_ha, hq_lw, hq_st, hq_dr, by omega, by omega, by omega, by omega, rfl⟩) dX10_line_335
              · skip
                exact z_vret hx hb hr hlk (by decide) (by decide) hw (⟨hsub, hfr, m7, m8, m9, m10, b2_107, p2_108, m22, m11, gha, glw, gst, gfo, gdr, hf_mm, hf_ha, hf_lw, hf_st, hf_fo, hf_dr, hq_ha, hq_lw, hq_st, hq_dr, by omega, by omega, by omega, by omega, rfl⟩) dX10_line_88
            · skip
              refine lv_iload_n hx hb dX10_line_62 rfl (lv_at hl 1 rfl) ?_
              refine z_if_eq (tgt := 81) hx hb (show (1 : Int32).toInt = 1 by decide) dX10_line_63 (by decide) (fun h => absurd h (by decide)) (fun _ => ?_)
              refine lv_aload_n hx hb dX10_line_66 rfl (lv_at hl 3 rfl) ?_
              refine lv_iconst (v := 4) hx hb dX10_line_67 (by decide) ?_
              have hz129 := (show (4 : Int32).toInt = 4 by decide)
              refine z_calliV (cells := 0) (slots := 0) (b := mm) (As := [.int 4]) (rest := []) (ci := 10) (q0 := (RX10, TX10, 54)) ⟨hx, hb, hml, hown, hT⟩ (c_X10_hasRead l hm_mm hm_ha hf_mm hf_ha hq_ha (by decide)) (cwV 1 hT (z_goodV (fun _ h => h) kw_1434 kw_1436 kw_44 kw_96 kw_1437) rfl rfl rfl (by decide +kernel) ⟨by decide, by decide⟩) z_mv hKK hK hw hA hm_mm hf_mm rfl rfl rfl hl.1 rfl (Nat.le_of_ble_eq_true rfl) dX10_line_68 ⟨by decide, by decide⟩ (fun r130 u H locs hp hw => ?_)
              obtain ⟨rfl, hp⟩ := hp
              have hw : z_H D vwCl (z_A L sz) s.heap L f H locs := hw
              refine lv_bipush (v := 8) hx hb dX10_line_71 (by decide) ?_
              refine z_icmp_ne (tgt := 81) hx hb rfl (show (8 : Int32).toInt = 8 by decide) dX10_line_73 (by decide) (fun c131 => ?_) (fun c131 => ?_)
              · skip
                refine lv_aload_n hx hb dX10_line_81 rfl (lv_at hl 3 rfl) ?_
                refine z_get (C := RX10) (T := TX10) (N := 54) (ci := 10) (v := .int m12) hx hb hT zin_X10 hown hK hw hm_mm hf_mm rfl 12 (by decide) (hT _ kw_1180) rfl dX10_line_82 ?_
                refine z_if_eq (tgt := 89) hx hb rfl dX10_line_85 (by decide) (fun c132 => ?_) (fun c132 => ?_)
                · skip
                  refine lv_iload_n hx hb dX10_line_89 rfl (lv_at hl 2 rfl) ?_
                  refine z_if_eq (tgt := 104) hx hb (show (1 : Int32).toInt = 1 by decide) dX10_line_90 (by decide) (fun h => absurd h (by decide)) (fun _ => ?_)
                  refine lv_aload_n hx hb dX10_line_93 rfl (lv_at hl 3 rfl) ?_
                  refine z_callvV (cells := 0) (slots := 0) (b := mm) (As := []) (rest := []) (ci := 10) (q0 := (RX10, TX10, 54)) ⟨hx, hb, hml, hown, hT⟩ (c_X10_next l hm_mm hm_ta hf_mm hf_ta (by first | omega | decide | assumption) (by first | omega | decide | assumption)) (cwV 0 hT (z_goodV (fun _ h => h) kw_1381 kw_1383 kw_34 kw_96 kw_1384) rfl rfl rfl (by decide +kernel) ⟨by decide, by decide⟩) z_mv hKK hK hw hA hm_mm hf_mm rfl rfl rfl hl.1 rfl (Nat.le_of_ble_eq_true rfl) dX10_line_94 ⟨by decide, by decide⟩ (fun u H locs hp hw => ?_)
                  obtain ⟨L133, f134⟩ := u
                  obtain ⟨hsb, hfm, a2_135, k2_136, p2_137, v2_138, w2_139, ha_0, hp⟩ := hp
                  have hsb : L = L133 := hsb
                  subst hsb
                  have hsb : ∀ b ∈ L, b ∈ L := fun _ h => h
                  have hw : z_H D vwCl (z_A L sz) s.heap L f134 H locs := hw
                  have hfr : ∀ b ∈ L, b ≠ mm → b ≠ ha → b ≠ lw → b ≠ st → b ≠ fo → b ≠ dr → f134 b = f b := fun b hb h0 h1 h2 h3 h4 h5 => (hfm b hb h0).trans (hfr b hb h0 h1 h2 h3 h4 h5)
                  have hf_ta : f134 ta = .inl (cy 0, 1600, .inl gta) := (hfm ta hm_ta (z_tne hf_ta hf_mm (m := 12900) (n := 10) rfl rfl (by decide))).trans hf_ta
                  have hf_ha : f134 ha = .inl (cy 1, 30, .inl gha) := (hfm ha hm_ha (z_tne hf_ha hf_mm (m := 340) (n := 10) rfl rfl (by decide))).trans hf_ha
                  have hf_lw : f134 lw = .inl (cy 1, 25, .inl glw) := (hfm lw hm_lw (z_tne hf_lw hf_mm (m := 300) (n := 10) rfl rfl (by decide))).trans hf_lw
                  have hf_st : f134 st = .inl (cy 1, 20, .inl gst) := (hfm st hm_st (z_tne hf_st hf_mm (m := 260) (n := 10) rfl rfl (by decide))).trans hf_st
                  have hf_fo : f134 fo = .inl (cy 1, 180, .inl gfo) := (hfm fo hm_fo (z_tne hf_fo hf_mm (m := 1540) (n := 10) rfl rfl (by decide))).trans hf_fo
                  have hf_dr : f134 dr = .inl (cy 1, 520, .inl gdr) := (hfm dr hm_dr (z_tne hf_dr hf_mm (m := 4260) (n := 10) rfl rfl (by decide))).trans hf_dr
                  have hf_mm : f134 mm = .inr (10, [.int m0, .ref wd, .ref my, .ref ce, .ref mv, .ref ta, .int m6, .int a2_135, .int k2_136, .int p2_137, .int v2_138, .long w2_139, .int m12, .int m13, .int m14, .int m15, .ref li, .ref ha, .ref lw, .ref st, .ref fo, .ref dr, .int m22, .ref ik, .int m24, .int m25, .long m26, .int m27, .int m28, .ref ro, .int m30, .ref ct, .ref se, .ref th, .ref cn, .ref be, .int m36, .ref du, .int m38, .ref db, .int m40, .int m41, .int m42, .ref pn, .ref wg, .ref wh, .ref tn, .ref he, .int m48, .ref tr, .ref fd, .ref po, .int m52, .int m53]) := ha_0
                  have hC_ : (0 ≤ a2_135.toInt ∧ a2_135.toInt ≤ m6.toInt) ∧ m7.toInt ≤ a2_135.toInt ∧ (m12.toInt ≠ 0 ∨ m12.toInt = 0) ∧ (m12.toInt ≠ 0 ∨ k2_136.toInt ≠ 3 ∨ m7.toInt < a2_135.toInt) := by refine ⟨⟨?_, ?_⟩, ?_, ?_, ?_⟩ <;> omega
                  clear hp
                  replace hC := hC_
                  clear hC_
                  refine lv_aload_n hx hb dX10_line_97 rfl (lv_at hl 3 rfl) ?_
                  refine z_callvV (cells := 0) (slots := 0) (b := mm) (As := []) (rest := []) (ci := 10) (q0 := (RX10, TX10, 54)) ⟨hx, hb, hml, hown, hT⟩ (c_X10_driveLine l hm_mm hm_ta hm_ha hm_dr hf_mm hf_ta hf_ha hf_dr hq_ha hq_dr (by first | omega | decide | assumption) (by first | omega | decide | assumption) (by omega)) (cwV 0 hT (z_goodV (fun _ h => h) kw_1438 kw_1440 kw_45 kw_96 kw_1441) rfl rfl rfl (by decide +kernel) ⟨by decide, by decide⟩) z_mv hKK hK hw hA hm_mm hf_mm rfl rfl rfl hl.1 rfl (Nat.le_of_ble_eq_true rfl) dX10_line_98 ⟨by decide, by decide⟩ (fun u H locs hp hw => ?_)
                  obtain ⟨L140, f141⟩ := u
                  obtain ⟨hsb, hfm, a2_142, k2_143, p2_144, v2_145, b2_146, q2_147, w2_148, nha_149, ndr_150, ha_0, ha_1, ha_2, hq_ha, hq_dr, hp⟩ := hp
                  have hsb : L = L140 := hsb
                  subst hsb
                  have hsb : ∀ b ∈ L, b ∈ L := fun _ h => h
                  have hw : z_H D vwCl (z_A L sz) s.heap L f141 H locs := hw
                  have hfr : ∀ b ∈ L, b ≠ mm → b ≠ ha → b ≠ lw → b ≠ st → b ≠ fo → b ≠ dr → f141 b = f b := fun b hb h0 h1 h2 h3 h4 h5 => (hfm b hb h0 h1 h5).trans (hfr b hb h0 h1 h2 h3 h4 h5)
                  have hf_ta : f141 ta = .inl (cy 0, 1600, .inl gta) := (hfm ta hm_ta (z_tne hf_ta hf_mm (m := 12900) (n := 10) rfl rfl (by decide)) (z_tne hf_ta hf_ha (m := 12900) (n := 340) rfl rfl (by decide)) (z_tne hf_ta hf_dr (m := 12900) (n := 4260) rfl rfl (by decide))).trans hf_ta
                  have hf_lw : f141 lw = .inl (cy 1, 25, .inl glw) := (hfm lw hm_lw (z_tne hf_lw hf_mm (m := 300) (n := 10) rfl rfl (by decide)) (z_tne hf_lw hf_ha (m := 300) (n := 340) rfl rfl (by decide)) (z_tne hf_lw hf_dr (m := 300) (n := 4260) rfl rfl (by decide))).trans hf_lw
                  have hf_st : f141 st = .inl (cy 1, 20, .inl gst) := (hfm st hm_st (z_tne hf_st hf_mm (m := 260) (n := 10) rfl rfl (by decide)) (z_tne hf_st hf_ha (m := 260) (n := 340) rfl rfl (by decide)) (z_tne hf_st hf_dr (m := 260) (n := 4260) rfl rfl (by decide))).trans hf_st
                  have hf_fo : f141 fo = .inl (cy 1, 180, .inl gfo) := (hfm fo hm_fo (z_tne hf_fo hf_mm (m := 1540) (n := 10) rfl rfl (by decide)) (z_tne hf_fo hf_ha (m := 1540) (n := 340) rfl rfl (by decide)) (z_tne hf_fo hf_dr (m := 1540) (n := 4260) rfl rfl (by decide))).trans hf_fo
                  have hf_mm : f141 mm = .inr (10, [.int m0, .ref wd, .ref my, .ref ce, .ref mv, .ref ta, .int m6, .int a2_142, .int k2_143, .int p2_144, .int v2_145, .long w2_148, .int b2_146, .int q2_147, .int m14, .int m15, .ref li, .ref ha, .ref lw, .ref st, .ref fo, .ref dr, .int m22, .ref ik, .int m24, .int m25, .long m26, .int m27, .int m28, .ref ro, .int m30, .ref ct, .ref se, .ref th, .ref cn, .ref be, .int m36, .ref du, .int m38, .ref db, .int m40, .int m41, .int m42, .ref pn, .ref wg, .ref wh, .ref tn, .ref he, .int m48, .ref tr, .ref fd, .ref po, .int m52, .int m53]) := ha_0
                  have hf_ha : f141 ha = .inl (cy 1, 30, .inl nha_149) := ha_1
                  have hf_dr : f141 dr = .inl (cy 1, 520, .inl ndr_150) := ha_2
                  have hC_ : (0 ≤ a2_142.toInt ∧ a2_142.toInt ≤ m6.toInt) ∧ m7.toInt ≤ a2_142.toInt ∧ (b2_146.toInt ≠ 0 ∨ m12.toInt = 0) ∧ (b2_146.toInt ≠ 0 ∨ k2_143.toInt ≠ 3 ∨ m7.toInt < a2_142.toInt) := by refine ⟨⟨?_, ?_⟩, ?_, ?_, ?_⟩ <;> omega
                  clear hp
                  replace hC := hC_
                  clear hC_
                  refine lv_goto (tgt := 335) hx hb dX10_line_101 (by decide) ?_
                  exact z_vret hx hb hr hlk (by decide) (by decide) hw (⟨hsub, hfr, a2_142, k2_143, p2_144, v2_145, b2_146, q2_147, m22, w2_148, nha_149, glw, gst, gfo, ndr_150, hf_mm, hf_ha, hf_lw, hf_st, hf_fo, hf_dr, hq_ha, hq_lw, hq_st, hq_dr, by omega, by omega, by omega, by omega, rfl⟩) dX10_line_335
                · skip
                  exact z_vret hx hb hr hlk (by decide) (by decide) hw (⟨hsub, hfr, m7, m8, m9, m10, m12, m13, m22, m11, gha, glw, gst, gfo, gdr, hf_mm, hf_ha, hf_lw, hf_st, hf_fo, hf_dr, hq_ha, hq_lw, hq_st, hq_dr, by omega, by omega, by omega, by omega, rfl⟩) dX10_line_88
              · skip
                refine lv_aload_n hx hb dX10_line_76 rfl (lv_at hl 3 rfl) ?_
                refine lv_iconst (v := 3) hx hb dX10_line_77 (by decide) ?_
                have hz151 := (show (3 : Int32).toInt = 3 by decide)
                refine z_callvV (cells := 0) (slots := 0) (b := mm) (As := [.int 3]) (rest := []) (ci := 10) (q0 := (RX10, TX10, 54)) ⟨hx, hb, hml, hown, hT⟩ (c_X10_fails l hm_mm hf_mm (by first | omega | decide | assumption)) (cwV 1 hT (z_goodV (fun _ h => h) kw_1411 kw_1413 kw_40 kw_96 kw_1414) rfl rfl rfl (by decide +kernel) ⟨by decide, by decide⟩) z_mv hKK hK hw hA hm_mm hf_mm rfl rfl rfl hl.1 rfl (Nat.le_of_ble_eq_true rfl) dX10_line_78 ⟨by decide, by decide⟩ (fun u H locs hp hw => ?_)
                obtain ⟨L152, f153⟩ := u
                obtain ⟨hsb, hfm, b2_154, p2_155, ha_0, hp⟩ := hp
                have hsb : L = L152 := hsb
                subst hsb
                have hsb : ∀ b ∈ L, b ∈ L := fun _ h => h
                have hw : z_H D vwCl (z_A L sz) s.heap L f153 H locs := hw
                have hfr : ∀ b ∈ L, b ≠ mm → b ≠ ha → b ≠ lw → b ≠ st → b ≠ fo → b ≠ dr → f153 b = f b := fun b hb h0 h1 h2 h3 h4 h5 => (hfm b hb h0).trans (hfr b hb h0 h1 h2 h3 h4 h5)
                have hf_ta : f153 ta = .inl (cy 0, 1600, .inl gta) := (hfm ta hm_ta (z_tne hf_ta hf_mm (m := 12900) (n := 10) rfl rfl (by decide))).trans hf_ta
                have hf_ha : f153 ha = .inl (cy 1, 30, .inl gha) := (hfm ha hm_ha (z_tne hf_ha hf_mm (m := 340) (n := 10) rfl rfl (by decide))).trans hf_ha
                have hf_lw : f153 lw = .inl (cy 1, 25, .inl glw) := (hfm lw hm_lw (z_tne hf_lw hf_mm (m := 300) (n := 10) rfl rfl (by decide))).trans hf_lw
                have hf_st : f153 st = .inl (cy 1, 20, .inl gst) := (hfm st hm_st (z_tne hf_st hf_mm (m := 260) (n := 10) rfl rfl (by decide))).trans hf_st
                have hf_fo : f153 fo = .inl (cy 1, 180, .inl gfo) := (hfm fo hm_fo (z_tne hf_fo hf_mm (m := 1540) (n := 10) rfl rfl (by decide))).trans hf_fo
                have hf_dr : f153 dr = .inl (cy 1, 520, .inl gdr) := (hfm dr hm_dr (z_tne hf_dr hf_mm (m := 4260) (n := 10) rfl rfl (by decide))).trans hf_dr
                have hf_mm : f153 mm = .inr (10, [.int m0, .ref wd, .ref my, .ref ce, .ref mv, .ref ta, .int m6, .int m7, .int m8, .int m9, .int m10, .long m11, .int b2_154, .int p2_155, .int m14, .int m15, .ref li, .ref ha, .ref lw, .ref st, .ref fo, .ref dr, .int m22, .ref ik, .int m24, .int m25, .long m26, .int m27, .int m28, .ref ro, .int m30, .ref ct, .ref se, .ref th, .ref cn, .ref be, .int m36, .ref du, .int m38, .ref db, .int m40, .int m41, .int m42, .ref pn, .ref wg, .ref wh, .ref tn, .ref he, .int m48, .ref tr, .ref fd, .ref po, .int m52, .int m53]) := ha_0
                have hq156 := hp
                refine lv_aload_n hx hb dX10_line_81 rfl (lv_at hl 3 rfl) ?_
                refine z_get (C := RX10) (T := TX10) (N := 54) (ci := 10) (v := .int b2_154) hx hb hT zin_X10 hown hK hw hm_mm hf_mm rfl 12 (by decide) (hT _ kw_1180) rfl dX10_line_82 ?_
                refine z_if_eq (tgt := 89) hx hb rfl dX10_line_85 (by decide) (fun c157 => ?_) (fun c157 => ?_)
                · skip
                  refine lv_iload_n hx hb dX10_line_89 rfl (lv_at hl 2 rfl) ?_
                  refine z_if_eq (tgt := 104) hx hb (show (1 : Int32).toInt = 1 by decide) dX10_line_90 (by decide) (fun h => absurd h (by decide)) (fun _ => ?_)
                  refine lv_aload_n hx hb dX10_line_93 rfl (lv_at hl 3 rfl) ?_
                  refine z_callvV (cells := 0) (slots := 0) (b := mm) (As := []) (rest := []) (ci := 10) (q0 := (RX10, TX10, 54)) ⟨hx, hb, hml, hown, hT⟩ (c_X10_next l hm_mm hm_ta hf_mm hf_ta (by first | omega | decide | assumption) (by first | omega | decide | assumption)) (cwV 0 hT (z_goodV (fun _ h => h) kw_1381 kw_1383 kw_34 kw_96 kw_1384) rfl rfl rfl (by decide +kernel) ⟨by decide, by decide⟩) z_mv hKK hK hw hA hm_mm hf_mm rfl rfl rfl hl.1 rfl (Nat.le_of_ble_eq_true rfl) dX10_line_94 ⟨by decide, by decide⟩ (fun u H locs hp hw => ?_)
                  obtain ⟨L158, f159⟩ := u
                  obtain ⟨hsb, hfm, a2_160, k2_161, p2_162, v2_163, w2_164, ha_0, hp⟩ := hp
                  have hsb : L = L158 := hsb
                  subst hsb
                  have hsb : ∀ b ∈ L, b ∈ L := fun _ h => h
                  have hw : z_H D vwCl (z_A L sz) s.heap L f159 H locs := hw
                  have hfr : ∀ b ∈ L, b ≠ mm → b ≠ ha → b ≠ lw → b ≠ st → b ≠ fo → b ≠ dr → f159 b = f b := fun b hb h0 h1 h2 h3 h4 h5 => (hfm b hb h0).trans (hfr b hb h0 h1 h2 h3 h4 h5)
                  have hf_ta : f159 ta = .inl (cy 0, 1600, .inl gta) := (hfm ta hm_ta (z_tne hf_ta hf_mm (m := 12900) (n := 10) rfl rfl (by decide))).trans hf_ta
                  have hf_ha : f159 ha = .inl (cy 1, 30, .inl gha) := (hfm ha hm_ha (z_tne hf_ha hf_mm (m := 340) (n := 10) rfl rfl (by decide))).trans hf_ha
                  have hf_lw : f159 lw = .inl (cy 1, 25, .inl glw) := (hfm lw hm_lw (z_tne hf_lw hf_mm (m := 300) (n := 10) rfl rfl (by decide))).trans hf_lw
                  have hf_st : f159 st = .inl (cy 1, 20, .inl gst) := (hfm st hm_st (z_tne hf_st hf_mm (m := 260) (n := 10) rfl rfl (by decide))).trans hf_st
                  have hf_fo : f159 fo = .inl (cy 1, 180, .inl gfo) := (hfm fo hm_fo (z_tne hf_fo hf_mm (m := 1540) (n := 10) rfl rfl (by decide))).trans hf_fo
                  have hf_dr : f159 dr = .inl (cy 1, 520, .inl gdr) := (hfm dr hm_dr (z_tne hf_dr hf_mm (m := 4260) (n := 10) rfl rfl (by decide))).trans hf_dr
                  have hf_mm : f159 mm = .inr (10, [.int m0, .ref wd, .ref my, .ref ce, .ref mv, .ref ta, .int m6, .int a2_160, .int k2_161, .int p2_162, .int v2_163, .long w2_164, .int b2_154, .int p2_155, .int m14, .int m15, .ref li, .ref ha, .ref lw, .ref st, .ref fo, .ref dr, .int m22, .ref ik, .int m24, .int m25, .long m26, .int m27, .int m28, .ref ro, .int m30, .ref ct, .ref se, .ref th, .ref cn, .ref be, .int m36, .ref du, .int m38, .ref db, .int m40, .int m41, .int m42, .ref pn, .ref wg, .ref wh, .ref tn, .ref he, .int m48, .ref tr, .ref fd, .ref po, .int m52, .int m53]) := ha_0
                  have hC_ : (0 ≤ a2_160.toInt ∧ a2_160.toInt ≤ m6.toInt) ∧ m7.toInt ≤ a2_160.toInt ∧ (b2_154.toInt ≠ 0 ∨ m12.toInt = 0) ∧ (b2_154.toInt ≠ 0 ∨ k2_161.toInt ≠ 3 ∨ m7.toInt < a2_160.toInt) := by refine ⟨⟨?_, ?_⟩, ?_, ?_, ?_⟩ <;> omega
                  clear hp
                  replace hC := hC_
                  clear hC_
                  refine lv_aload_n hx hb dX10_line_97 rfl (lv_at hl 3 rfl) ?_
                  refine z_callvV (cells := 0) (slots := 0) (b := mm) (As := []) (rest := []) (ci := 10) (q0 := (RX10, TX10, 54)) ⟨hx, hb, hml, hown, hT⟩ (c_X10_driveLine l hm_mm hm_ta hm_ha hm_dr hf_mm hf_ta hf_ha hf_dr hq_ha hq_dr (by first | omega | decide | assumption) (by first | omega | decide | assumption) (by omega)) (cwV 0 hT (z_goodV (fun _ h => h) kw_1438 kw_1440 kw_45 kw_96 kw_1441) rfl rfl rfl (by decide +kernel) ⟨by decide, by decide⟩) z_mv hKK hK hw hA hm_mm hf_mm rfl rfl rfl hl.1 rfl (Nat.le_of_ble_eq_true rfl) dX10_line_98 ⟨by decide, by decide⟩ (fun u H locs hp hw => ?_)
                  obtain ⟨L165, f166⟩ := u
                  obtain ⟨hsb, hfm, a2_167, k2_168, p2_169, v2_170, b2_171, q2_172, w2_173, nha_174, ndr_175, ha_0, ha_1, ha_2, hq_ha, hq_dr, hp⟩ := hp
                  have hsb : L = L165 := hsb
                  subst hsb
                  have hsb : ∀ b ∈ L, b ∈ L := fun _ h => h
                  have hw : z_H D vwCl (z_A L sz) s.heap L f166 H locs := hw
                  have hfr : ∀ b ∈ L, b ≠ mm → b ≠ ha → b ≠ lw → b ≠ st → b ≠ fo → b ≠ dr → f166 b = f b := fun b hb h0 h1 h2 h3 h4 h5 => (hfm b hb h0 h1 h5).trans (hfr b hb h0 h1 h2 h3 h4 h5)
                  have hf_ta : f166 ta = .inl (cy 0, 1600, .inl gta) := (hfm ta hm_ta (z_tne hf_ta hf_mm (m := 12900) (n := 10) rfl rfl (by decide)) (z_tne hf_ta hf_ha (m := 12900) (n := 340) rfl rfl (by decide)) (z_tne hf_ta hf_dr (m := 12900) (n := 4260) rfl rfl (by decide))).trans hf_ta
                  have hf_lw : f166 lw = .inl (cy 1, 25, .inl glw) := (hfm lw hm_lw (z_tne hf_lw hf_mm (m := 300) (n := 10) rfl rfl (by decide)) (z_tne hf_lw hf_ha (m := 300) (n := 340) rfl rfl (by decide)) (z_tne hf_lw hf_dr (m := 300) (n := 4260) rfl rfl (by decide))).trans hf_lw
                  have hf_st : f166 st = .inl (cy 1, 20, .inl gst) := (hfm st hm_st (z_tne hf_st hf_mm (m := 260) (n := 10) rfl rfl (by decide)) (z_tne hf_st hf_ha (m := 260) (n := 340) rfl rfl (by decide)) (z_tne hf_st hf_dr (m := 260) (n := 4260) rfl rfl (by decide))).trans hf_st
                  have hf_fo : f166 fo = .inl (cy 1, 180, .inl gfo) := (hfm fo hm_fo (z_tne hf_fo hf_mm (m := 1540) (n := 10) rfl rfl (by decide)) (z_tne hf_fo hf_ha (m := 1540) (n := 340) rfl rfl (by decide)) (z_tne hf_fo hf_dr (m := 1540) (n := 4260) rfl rfl (by decide))).trans hf_fo
                  have hf_mm : f166 mm = .inr (10, [.int m0, .ref wd, .ref my, .ref ce, .ref mv, .ref ta, .int m6, .int a2_167, .int k2_168, .int p2_169, .int v2_170, .long w2_173, .int b2_171, .int q2_172, .int m14, .int m15, .ref li, .ref ha, .ref lw, .ref st, .ref fo, .ref dr, .int m22, .ref ik, .int m24, .int m25, .long m26, .int m27, .int m28, .ref ro, .int m30, .ref ct, .ref se, .ref th, .ref cn, .ref be, .int m36, .ref du, .int m38, .ref db, .int m40, .int m41, .int m42, .ref pn, .ref wg, .ref wh, .ref tn, .ref he, .int m48, .ref tr, .ref fd, .ref po, .int m52, .int m53]) := ha_0
                  have hf_ha : f166 ha = .inl (cy 1, 30, .inl nha_174) := ha_1
                  have hf_dr : f166 dr = .inl (cy 1, 520, .inl ndr_175) := ha_2
                  have hC_ : (0 ≤ a2_167.toInt ∧ a2_167.toInt ≤ m6.toInt) ∧ m7.toInt ≤ a2_167.toInt ∧ (b2_171.toInt ≠ 0 ∨ m12.toInt = 0) ∧ (b2_171.toInt ≠ 0 ∨ k2_168.toInt ≠ 3 ∨ m7.toInt < a2_167.toInt) := by refine ⟨⟨?_, ?_⟩, ?_, ?_, ?_⟩ <;> omega
                  clear hp
                  replace hC := hC_
                  clear hC_
                  refine lv_goto (tgt := 335) hx hb dX10_line_101 (by decide) ?_
                  exact z_vret hx hb hr hlk (by decide) (by decide) hw (⟨hsub, hfr, a2_167, k2_168, p2_169, v2_170, b2_171, q2_172, m22, w2_173, nha_174, glw, gst, gfo, ndr_175, hf_mm, hf_ha, hf_lw, hf_st, hf_fo, hf_dr, hq_ha, hq_lw, hq_st, hq_dr, by omega, by omega, by omega, by omega, rfl⟩) dX10_line_335
                · skip
                  exact z_vret hx hb hr hlk (by decide) (by decide) hw (⟨hsub, hfr, m7, m8, m9, m10, b2_154, p2_155, m22, m11, gha, glw, gst, gfo, gdr, hf_mm, hf_ha, hf_lw, hf_st, hf_fo, hf_dr, hq_ha, hq_lw, hq_st, hq_dr, by omega, by omega, by omega, by omega, rfl⟩) dX10_line_88
          · skip
            refine lv_aload_n hx hb dX10_line_43 rfl (lv_at hl 3 rfl) ?_
            refine lv_iconst (v := 2) hx hb dX10_line_44 (by decide) ?_
            have hz176 := (show (2 : Int32).toInt = 2 by decide)
            refine z_callvV (cells := 0) (slots := 0) (b := mm) (As := [.int 2]) (rest := []) (ci := 10) (q0 := (RX10, TX10, 54)) ⟨hx, hb, hml, hown, hT⟩ (c_X10_fails l hm_mm hf_mm (by first | omega | decide | assumption)) (cwV 1 hT (z_goodV (fun _ h => h) kw_1411 kw_1413 kw_40 kw_96 kw_1414) rfl rfl rfl (by decide +kernel) ⟨by decide, by decide⟩) z_mv hKK hK hw hA hm_mm hf_mm rfl rfl rfl hl.1 rfl (Nat.le_of_ble_eq_true rfl) dX10_line_45 ⟨by decide, by decide⟩ (fun u H locs hp hw => ?_)
            obtain ⟨L177, f178⟩ := u
            obtain ⟨hsb, hfm, b2_179, p2_180, ha_0, hp⟩ := hp
            have hsb : L = L177 := hsb
            subst hsb
            have hsb : ∀ b ∈ L, b ∈ L := fun _ h => h
            have hw : z_H D vwCl (z_A L sz) s.heap L f178 H locs := hw
            have hfr : ∀ b ∈ L, b ≠ mm → b ≠ ha → b ≠ lw → b ≠ st → b ≠ fo → b ≠ dr → f178 b = f b := fun b hb h0 h1 h2 h3 h4 h5 => (hfm b hb h0).trans (hfr b hb h0 h1 h2 h3 h4 h5)
            have hf_ta : f178 ta = .inl (cy 0, 1600, .inl gta) := (hfm ta hm_ta (z_tne hf_ta hf_mm (m := 12900) (n := 10) rfl rfl (by decide))).trans hf_ta
            have hf_ha : f178 ha = .inl (cy 1, 30, .inl gha) := (hfm ha hm_ha (z_tne hf_ha hf_mm (m := 340) (n := 10) rfl rfl (by decide))).trans hf_ha
            have hf_lw : f178 lw = .inl (cy 1, 25, .inl glw) := (hfm lw hm_lw (z_tne hf_lw hf_mm (m := 300) (n := 10) rfl rfl (by decide))).trans hf_lw
            have hf_st : f178 st = .inl (cy 1, 20, .inl gst) := (hfm st hm_st (z_tne hf_st hf_mm (m := 260) (n := 10) rfl rfl (by decide))).trans hf_st
            have hf_fo : f178 fo = .inl (cy 1, 180, .inl gfo) := (hfm fo hm_fo (z_tne hf_fo hf_mm (m := 1540) (n := 10) rfl rfl (by decide))).trans hf_fo
            have hf_dr : f178 dr = .inl (cy 1, 520, .inl gdr) := (hfm dr hm_dr (z_tne hf_dr hf_mm (m := 4260) (n := 10) rfl rfl (by decide))).trans hf_dr
            have hf_mm : f178 mm = .inr (10, [.int m0, .ref wd, .ref my, .ref ce, .ref mv, .ref ta, .int m6, .int m7, .int m8, .int m9, .int m10, .long m11, .int b2_179, .int p2_180, .int m14, .int m15, .ref li, .ref ha, .ref lw, .ref st, .ref fo, .ref dr, .int m22, .ref ik, .int m24, .int m25, .long m26, .int m27, .int m28, .ref ro, .int m30, .ref ct, .ref se, .ref th, .ref cn, .ref be, .int m36, .ref du, .int m38, .ref db, .int m40, .int m41, .int m42, .ref pn, .ref wg, .ref wh, .ref tn, .ref he, .int m48, .ref tr, .ref fd, .ref po, .int m52, .int m53]) := ha_0
            have hq181 := hp
            refine lv_iload_n hx hb dX10_line_48 rfl (lv_at hl 2 rfl) ?_
            refine z_if_eq (tgt := 62) hx hb (show (1 : Int32).toInt = 1 by decide) dX10_line_49 (by decide) (fun h => absurd h (by decide)) (fun _ => ?_)
            refine lv_aload_n hx hb dX10_line_52 rfl (lv_at hl 3 rfl) ?_
            refine lv_iconst (v := 3) hx hb dX10_line_53 (by decide) ?_
            have hz182 := (show (3 : Int32).toInt = 3 by decide)
            refine z_calliV (cells := 0) (slots := 0) (b := mm) (As := [.int 3]) (rest := []) (ci := 10) (q0 := (RX10, TX10, 54)) ⟨hx, hb, hml, hown, hT⟩ (c_X10_hasRead l hm_mm hm_ha hf_mm hf_ha hq_ha (by decide)) (cwV 1 hT (z_goodV (fun _ h => h) kw_1434 kw_1436 kw_44 kw_96 kw_1437) rfl rfl rfl (by decide +kernel) ⟨by decide, by decide⟩) z_mv hKK hK hw hA hm_mm hf_mm rfl rfl rfl hl.1 rfl (Nat.le_of_ble_eq_true rfl) dX10_line_54 ⟨by decide, by decide⟩ (fun r183 u H locs hp hw => ?_)
            obtain ⟨rfl, hp⟩ := hp
            have hw : z_H D vwCl (z_A L sz) s.heap L f178 H locs := hw
            have h3e184 : (gha 27).toInt = r183.toInt := by rw [hp]; rfl
            have hh185 : 0 ≤ r183.toInt ∧ r183.toInt ≤ 12 := by rw [hp]; exact (hq_ha 27).1.2.2.2 rfl
            refine lv_bipush (v := 12) hx hb dX10_line_57 (by decide) ?_
            refine z_icmp_eq (tgt := 76) hx hb rfl (show (12 : Int32).toInt = 12 by decide) dX10_line_59 (by decide) (fun c186 => ?_) (fun c186 => ?_)
            · skip
              refine lv_aload_n hx hb dX10_line_76 rfl (lv_at hl 3 rfl) ?_
              refine lv_iconst (v := 3) hx hb dX10_line_77 (by decide) ?_
              have hz187 := (show (3 : Int32).toInt = 3 by decide)
              refine z_callvV (cells := 0) (slots := 0) (b := mm) (As := [.int 3]) (rest := []) (ci := 10) (q0 := (RX10, TX10, 54)) ⟨hx, hb, hml, hown, hT⟩ (c_X10_fails l hm_mm hf_mm (by first | omega | decide | assumption)) (cwV 1 hT (z_goodV (fun _ h => h) kw_1411 kw_1413 kw_40 kw_96 kw_1414) rfl rfl rfl (by decide +kernel) ⟨by decide, by decide⟩) z_mv hKK hK hw hA hm_mm hf_mm rfl rfl rfl hl.1 rfl (Nat.le_of_ble_eq_true rfl) dX10_line_78 ⟨by decide, by decide⟩ (fun u H locs hp hw => ?_)
              obtain ⟨L188, f189⟩ := u
              obtain ⟨hsb, hfm, b2_190, p2_191, ha_0, hp⟩ := hp
              have hsb : L = L188 := hsb
              subst hsb
              have hsb : ∀ b ∈ L, b ∈ L := fun _ h => h
              have hw : z_H D vwCl (z_A L sz) s.heap L f189 H locs := hw
              have hfr : ∀ b ∈ L, b ≠ mm → b ≠ ha → b ≠ lw → b ≠ st → b ≠ fo → b ≠ dr → f189 b = f b := fun b hb h0 h1 h2 h3 h4 h5 => (hfm b hb h0).trans (hfr b hb h0 h1 h2 h3 h4 h5)
              have hf_ta : f189 ta = .inl (cy 0, 1600, .inl gta) := (hfm ta hm_ta (z_tne hf_ta hf_mm (m := 12900) (n := 10) rfl rfl (by decide))).trans hf_ta
              have hf_ha : f189 ha = .inl (cy 1, 30, .inl gha) := (hfm ha hm_ha (z_tne hf_ha hf_mm (m := 340) (n := 10) rfl rfl (by decide))).trans hf_ha
              have hf_lw : f189 lw = .inl (cy 1, 25, .inl glw) := (hfm lw hm_lw (z_tne hf_lw hf_mm (m := 300) (n := 10) rfl rfl (by decide))).trans hf_lw
              have hf_st : f189 st = .inl (cy 1, 20, .inl gst) := (hfm st hm_st (z_tne hf_st hf_mm (m := 260) (n := 10) rfl rfl (by decide))).trans hf_st
              have hf_fo : f189 fo = .inl (cy 1, 180, .inl gfo) := (hfm fo hm_fo (z_tne hf_fo hf_mm (m := 1540) (n := 10) rfl rfl (by decide))).trans hf_fo
              have hf_dr : f189 dr = .inl (cy 1, 520, .inl gdr) := (hfm dr hm_dr (z_tne hf_dr hf_mm (m := 4260) (n := 10) rfl rfl (by decide))).trans hf_dr
              have hf_mm : f189 mm = .inr (10, [.int m0, .ref wd, .ref my, .ref ce, .ref mv, .ref ta, .int m6, .int m7, .int m8, .int m9, .int m10, .long m11, .int b2_190, .int p2_191, .int m14, .int m15, .ref li, .ref ha, .ref lw, .ref st, .ref fo, .ref dr, .int m22, .ref ik, .int m24, .int m25, .long m26, .int m27, .int m28, .ref ro, .int m30, .ref ct, .ref se, .ref th, .ref cn, .ref be, .int m36, .ref du, .int m38, .ref db, .int m40, .int m41, .int m42, .ref pn, .ref wg, .ref wh, .ref tn, .ref he, .int m48, .ref tr, .ref fd, .ref po, .int m52, .int m53]) := ha_0
              have hq192 := hp
              refine lv_aload_n hx hb dX10_line_81 rfl (lv_at hl 3 rfl) ?_
              refine z_get (C := RX10) (T := TX10) (N := 54) (ci := 10) (v := .int b2_190) hx hb hT zin_X10 hown hK hw hm_mm hf_mm rfl 12 (by decide) (hT _ kw_1180) rfl dX10_line_82 ?_
              refine z_if_eq (tgt := 89) hx hb rfl dX10_line_85 (by decide) (fun c193 => ?_) (fun c193 => ?_)
              · skip
                refine lv_iload_n hx hb dX10_line_89 rfl (lv_at hl 2 rfl) ?_
                refine z_if_eq (tgt := 104) hx hb (show (1 : Int32).toInt = 1 by decide) dX10_line_90 (by decide) (fun h => absurd h (by decide)) (fun _ => ?_)
                refine lv_aload_n hx hb dX10_line_93 rfl (lv_at hl 3 rfl) ?_
                refine z_callvV (cells := 0) (slots := 0) (b := mm) (As := []) (rest := []) (ci := 10) (q0 := (RX10, TX10, 54)) ⟨hx, hb, hml, hown, hT⟩ (c_X10_next l hm_mm hm_ta hf_mm hf_ta (by first | omega | decide | assumption) (by first | omega | decide | assumption)) (cwV 0 hT (z_goodV (fun _ h => h) kw_1381 kw_1383 kw_34 kw_96 kw_1384) rfl rfl rfl (by decide +kernel) ⟨by decide, by decide⟩) z_mv hKK hK hw hA hm_mm hf_mm rfl rfl rfl hl.1 rfl (Nat.le_of_ble_eq_true rfl) dX10_line_94 ⟨by decide, by decide⟩ (fun u H locs hp hw => ?_)
                obtain ⟨L194, f195⟩ := u
                obtain ⟨hsb, hfm, a2_196, k2_197, p2_198, v2_199, w2_200, ha_0, hp⟩ := hp
                have hsb : L = L194 := hsb
                subst hsb
                have hsb : ∀ b ∈ L, b ∈ L := fun _ h => h
                have hw : z_H D vwCl (z_A L sz) s.heap L f195 H locs := hw
                have hfr : ∀ b ∈ L, b ≠ mm → b ≠ ha → b ≠ lw → b ≠ st → b ≠ fo → b ≠ dr → f195 b = f b := fun b hb h0 h1 h2 h3 h4 h5 => (hfm b hb h0).trans (hfr b hb h0 h1 h2 h3 h4 h5)
                have hf_ta : f195 ta = .inl (cy 0, 1600, .inl gta) := (hfm ta hm_ta (z_tne hf_ta hf_mm (m := 12900) (n := 10) rfl rfl (by decide))).trans hf_ta
                have hf_ha : f195 ha = .inl (cy 1, 30, .inl gha) := (hfm ha hm_ha (z_tne hf_ha hf_mm (m := 340) (n := 10) rfl rfl (by decide))).trans hf_ha
                have hf_lw : f195 lw = .inl (cy 1, 25, .inl glw) := (hfm lw hm_lw (z_tne hf_lw hf_mm (m := 300) (n := 10) rfl rfl (by decide))).trans hf_lw
                have hf_st : f195 st = .inl (cy 1, 20, .inl gst) := (hfm st hm_st (z_tne hf_st hf_mm (m := 260) (n := 10) rfl rfl (by decide))).trans hf_st
                have hf_fo : f195 fo = .inl (cy 1, 180, .inl gfo) := (hfm fo hm_fo (z_tne hf_fo hf_mm (m := 1540) (n := 10) rfl rfl (by decide))).trans hf_fo
                have hf_dr : f195 dr = .inl (cy 1, 520, .inl gdr) := (hfm dr hm_dr (z_tne hf_dr hf_mm (m := 4260) (n := 10) rfl rfl (by decide))).trans hf_dr
                have hf_mm : f195 mm = .inr (10, [.int m0, .ref wd, .ref my, .ref ce, .ref mv, .ref ta, .int m6, .int a2_196, .int k2_197, .int p2_198, .int v2_199, .long w2_200, .int b2_190, .int p2_191, .int m14, .int m15, .ref li, .ref ha, .ref lw, .ref st, .ref fo, .ref dr, .int m22, .ref ik, .int m24, .int m25, .long m26, .int m27, .int m28, .ref ro, .int m30, .ref ct, .ref se, .ref th, .ref cn, .ref be, .int m36, .ref du, .int m38, .ref db, .int m40, .int m41, .int m42, .ref pn, .ref wg, .ref wh, .ref tn, .ref he, .int m48, .ref tr, .ref fd, .ref po, .int m52, .int m53]) := ha_0
                have hC_ : (0 ≤ a2_196.toInt ∧ a2_196.toInt ≤ m6.toInt) ∧ m7.toInt ≤ a2_196.toInt ∧ (b2_190.toInt ≠ 0 ∨ m12.toInt = 0) ∧ (b2_190.toInt ≠ 0 ∨ k2_197.toInt ≠ 3 ∨ m7.toInt < a2_196.toInt) := by refine ⟨⟨?_, ?_⟩, ?_, ?_, ?_⟩ <;> omega
                clear hp
                replace hC := hC_
                clear hC_
                refine lv_aload_n hx hb dX10_line_97 rfl (lv_at hl 3 rfl) ?_
                refine z_callvV (cells := 0) (slots := 0) (b := mm) (As := []) (rest := []) (ci := 10) (q0 := (RX10, TX10, 54)) ⟨hx, hb, hml, hown, hT⟩ (c_X10_driveLine l hm_mm hm_ta hm_ha hm_dr hf_mm hf_ta hf_ha hf_dr hq_ha hq_dr (by first | omega | decide | assumption) (by first | omega | decide | assumption) (by omega)) (cwV 0 hT (z_goodV (fun _ h => h) kw_1438 kw_1440 kw_45 kw_96 kw_1441) rfl rfl rfl (by decide +kernel) ⟨by decide, by decide⟩) z_mv hKK hK hw hA hm_mm hf_mm rfl rfl rfl hl.1 rfl (Nat.le_of_ble_eq_true rfl) dX10_line_98 ⟨by decide, by decide⟩ (fun u H locs hp hw => ?_)
                obtain ⟨L201, f202⟩ := u
                obtain ⟨hsb, hfm, a2_203, k2_204, p2_205, v2_206, b2_207, q2_208, w2_209, nha_210, ndr_211, ha_0, ha_1, ha_2, hq_ha, hq_dr, hp⟩ := hp
                have hsb : L = L201 := hsb
                subst hsb
                have hsb : ∀ b ∈ L, b ∈ L := fun _ h => h
                have hw : z_H D vwCl (z_A L sz) s.heap L f202 H locs := hw
                have hfr : ∀ b ∈ L, b ≠ mm → b ≠ ha → b ≠ lw → b ≠ st → b ≠ fo → b ≠ dr → f202 b = f b := fun b hb h0 h1 h2 h3 h4 h5 => (hfm b hb h0 h1 h5).trans (hfr b hb h0 h1 h2 h3 h4 h5)
                have hf_ta : f202 ta = .inl (cy 0, 1600, .inl gta) := (hfm ta hm_ta (z_tne hf_ta hf_mm (m := 12900) (n := 10) rfl rfl (by decide)) (z_tne hf_ta hf_ha (m := 12900) (n := 340) rfl rfl (by decide)) (z_tne hf_ta hf_dr (m := 12900) (n := 4260) rfl rfl (by decide))).trans hf_ta
                have hf_lw : f202 lw = .inl (cy 1, 25, .inl glw) := (hfm lw hm_lw (z_tne hf_lw hf_mm (m := 300) (n := 10) rfl rfl (by decide)) (z_tne hf_lw hf_ha (m := 300) (n := 340) rfl rfl (by decide)) (z_tne hf_lw hf_dr (m := 300) (n := 4260) rfl rfl (by decide))).trans hf_lw
                have hf_st : f202 st = .inl (cy 1, 20, .inl gst) := (hfm st hm_st (z_tne hf_st hf_mm (m := 260) (n := 10) rfl rfl (by decide)) (z_tne hf_st hf_ha (m := 260) (n := 340) rfl rfl (by decide)) (z_tne hf_st hf_dr (m := 260) (n := 4260) rfl rfl (by decide))).trans hf_st
                have hf_fo : f202 fo = .inl (cy 1, 180, .inl gfo) := (hfm fo hm_fo (z_tne hf_fo hf_mm (m := 1540) (n := 10) rfl rfl (by decide)) (z_tne hf_fo hf_ha (m := 1540) (n := 340) rfl rfl (by decide)) (z_tne hf_fo hf_dr (m := 1540) (n := 4260) rfl rfl (by decide))).trans hf_fo
                have hf_mm : f202 mm = .inr (10, [.int m0, .ref wd, .ref my, .ref ce, .ref mv, .ref ta, .int m6, .int a2_203, .int k2_204, .int p2_205, .int v2_206, .long w2_209, .int b2_207, .int q2_208, .int m14, .int m15, .ref li, .ref ha, .ref lw, .ref st, .ref fo, .ref dr, .int m22, .ref ik, .int m24, .int m25, .long m26, .int m27, .int m28, .ref ro, .int m30, .ref ct, .ref se, .ref th, .ref cn, .ref be, .int m36, .ref du, .int m38, .ref db, .int m40, .int m41, .int m42, .ref pn, .ref wg, .ref wh, .ref tn, .ref he, .int m48, .ref tr, .ref fd, .ref po, .int m52, .int m53]) := ha_0
                have hf_ha : f202 ha = .inl (cy 1, 30, .inl nha_210) := ha_1
                have hf_dr : f202 dr = .inl (cy 1, 520, .inl ndr_211) := ha_2
                have hC_ : (0 ≤ a2_203.toInt ∧ a2_203.toInt ≤ m6.toInt) ∧ m7.toInt ≤ a2_203.toInt ∧ (b2_207.toInt ≠ 0 ∨ m12.toInt = 0) ∧ (b2_207.toInt ≠ 0 ∨ k2_204.toInt ≠ 3 ∨ m7.toInt < a2_203.toInt) := by refine ⟨⟨?_, ?_⟩, ?_, ?_, ?_⟩ <;> omega
                clear hp
                replace hC := hC_
                clear hC_
                refine lv_goto (tgt := 335) hx hb dX10_line_101 (by decide) ?_
                exact z_vret hx hb hr hlk (by decide) (by decide) hw (⟨hsub, hfr, a2_203, k2_204, p2_205, v2_206, b2_207, q2_208, m22, w2_209, nha_210, glw, gst, gfo, ndr_211, hf_mm, hf_ha, hf_lw, hf_st, hf_fo, hf_dr, hq_ha, hq_lw, hq_st, hq_dr, by omega, by omega, by omega, by omega, rfl⟩) dX10_line_335
              · skip
                exact z_vret hx hb hr hlk (by decide) (by decide) hw (⟨hsub, hfr, m7, m8, m9, m10, b2_190, p2_191, m22, m11, gha, glw, gst, gfo, gdr, hf_mm, hf_ha, hf_lw, hf_st, hf_fo, hf_dr, hq_ha, hq_lw, hq_st, hq_dr, by omega, by omega, by omega, by omega, rfl⟩) dX10_line_88
            · skip
              refine lv_iload_n hx hb dX10_line_62 rfl (lv_at hl 1 rfl) ?_
              refine z_if_eq (tgt := 81) hx hb (show (1 : Int32).toInt = 1 by decide) dX10_line_63 (by decide) (fun h => absurd h (by decide)) (fun _ => ?_)
              refine lv_aload_n hx hb dX10_line_66 rfl (lv_at hl 3 rfl) ?_
              refine lv_iconst (v := 4) hx hb dX10_line_67 (by decide) ?_
              have hz212 := (show (4 : Int32).toInt = 4 by decide)
              refine z_calliV (cells := 0) (slots := 0) (b := mm) (As := [.int 4]) (rest := []) (ci := 10) (q0 := (RX10, TX10, 54)) ⟨hx, hb, hml, hown, hT⟩ (c_X10_hasRead l hm_mm hm_ha hf_mm hf_ha hq_ha (by decide)) (cwV 1 hT (z_goodV (fun _ h => h) kw_1434 kw_1436 kw_44 kw_96 kw_1437) rfl rfl rfl (by decide +kernel) ⟨by decide, by decide⟩) z_mv hKK hK hw hA hm_mm hf_mm rfl rfl rfl hl.1 rfl (Nat.le_of_ble_eq_true rfl) dX10_line_68 ⟨by decide, by decide⟩ (fun r213 u H locs hp hw => ?_)
              obtain ⟨rfl, hp⟩ := hp
              have hw : z_H D vwCl (z_A L sz) s.heap L f178 H locs := hw
              refine lv_bipush (v := 8) hx hb dX10_line_71 (by decide) ?_
              refine z_icmp_ne (tgt := 81) hx hb rfl (show (8 : Int32).toInt = 8 by decide) dX10_line_73 (by decide) (fun c214 => ?_) (fun c214 => ?_)
              · skip
                refine lv_aload_n hx hb dX10_line_81 rfl (lv_at hl 3 rfl) ?_
                refine z_get (C := RX10) (T := TX10) (N := 54) (ci := 10) (v := .int b2_179) hx hb hT zin_X10 hown hK hw hm_mm hf_mm rfl 12 (by decide) (hT _ kw_1180) rfl dX10_line_82 ?_
                refine z_if_eq (tgt := 89) hx hb rfl dX10_line_85 (by decide) (fun c215 => ?_) (fun c215 => ?_)
                · skip
                  refine lv_iload_n hx hb dX10_line_89 rfl (lv_at hl 2 rfl) ?_
                  refine z_if_eq (tgt := 104) hx hb (show (1 : Int32).toInt = 1 by decide) dX10_line_90 (by decide) (fun h => absurd h (by decide)) (fun _ => ?_)
                  refine lv_aload_n hx hb dX10_line_93 rfl (lv_at hl 3 rfl) ?_
                  refine z_callvV (cells := 0) (slots := 0) (b := mm) (As := []) (rest := []) (ci := 10) (q0 := (RX10, TX10, 54)) ⟨hx, hb, hml, hown, hT⟩ (c_X10_next l hm_mm hm_ta hf_mm hf_ta (by first | omega | decide | assumption) (by first | omega | decide | assumption)) (cwV 0 hT (z_goodV (fun _ h => h) kw_1381 kw_1383 kw_34 kw_96 kw_1384) rfl rfl rfl (by decide +kernel) ⟨by decide, by decide⟩) z_mv hKK hK hw hA hm_mm hf_mm rfl rfl rfl hl.1 rfl (Nat.le_of_ble_eq_true rfl) dX10_line_94 ⟨by decide, by decide⟩ (fun u H locs hp hw => ?_)
                  obtain ⟨L216, f217⟩ := u
                  obtain ⟨hsb, hfm, a2_218, k2_219, p2_220, v2_221, w2_222, ha_0, hp⟩ := hp
                  have hsb : L = L216 := hsb
                  subst hsb
                  have hsb : ∀ b ∈ L, b ∈ L := fun _ h => h
                  have hw : z_H D vwCl (z_A L sz) s.heap L f217 H locs := hw
                  have hfr : ∀ b ∈ L, b ≠ mm → b ≠ ha → b ≠ lw → b ≠ st → b ≠ fo → b ≠ dr → f217 b = f b := fun b hb h0 h1 h2 h3 h4 h5 => (hfm b hb h0).trans (hfr b hb h0 h1 h2 h3 h4 h5)
                  have hf_ta : f217 ta = .inl (cy 0, 1600, .inl gta) := (hfm ta hm_ta (z_tne hf_ta hf_mm (m := 12900) (n := 10) rfl rfl (by decide))).trans hf_ta
                  have hf_ha : f217 ha = .inl (cy 1, 30, .inl gha) := (hfm ha hm_ha (z_tne hf_ha hf_mm (m := 340) (n := 10) rfl rfl (by decide))).trans hf_ha
                  have hf_lw : f217 lw = .inl (cy 1, 25, .inl glw) := (hfm lw hm_lw (z_tne hf_lw hf_mm (m := 300) (n := 10) rfl rfl (by decide))).trans hf_lw
                  have hf_st : f217 st = .inl (cy 1, 20, .inl gst) := (hfm st hm_st (z_tne hf_st hf_mm (m := 260) (n := 10) rfl rfl (by decide))).trans hf_st
                  have hf_fo : f217 fo = .inl (cy 1, 180, .inl gfo) := (hfm fo hm_fo (z_tne hf_fo hf_mm (m := 1540) (n := 10) rfl rfl (by decide))).trans hf_fo
                  have hf_dr : f217 dr = .inl (cy 1, 520, .inl gdr) := (hfm dr hm_dr (z_tne hf_dr hf_mm (m := 4260) (n := 10) rfl rfl (by decide))).trans hf_dr
                  have hf_mm : f217 mm = .inr (10, [.int m0, .ref wd, .ref my, .ref ce, .ref mv, .ref ta, .int m6, .int a2_218, .int k2_219, .int p2_220, .int v2_221, .long w2_222, .int b2_179, .int p2_180, .int m14, .int m15, .ref li, .ref ha, .ref lw, .ref st, .ref fo, .ref dr, .int m22, .ref ik, .int m24, .int m25, .long m26, .int m27, .int m28, .ref ro, .int m30, .ref ct, .ref se, .ref th, .ref cn, .ref be, .int m36, .ref du, .int m38, .ref db, .int m40, .int m41, .int m42, .ref pn, .ref wg, .ref wh, .ref tn, .ref he, .int m48, .ref tr, .ref fd, .ref po, .int m52, .int m53]) := ha_0
                  have hC_ : (0 ≤ a2_218.toInt ∧ a2_218.toInt ≤ m6.toInt) ∧ m7.toInt ≤ a2_218.toInt ∧ (b2_179.toInt ≠ 0 ∨ m12.toInt = 0) ∧ (b2_179.toInt ≠ 0 ∨ k2_219.toInt ≠ 3 ∨ m7.toInt < a2_218.toInt) := by refine ⟨⟨?_, ?_⟩, ?_, ?_, ?_⟩ <;> omega
                  clear hp
                  replace hC := hC_
                  clear hC_
                  refine lv_aload_n hx hb dX10_line_97 rfl (lv_at hl 3 rfl) ?_
                  refine z_callvV (cells := 0) (slots := 0) (b := mm) (As := []) (rest := []) (ci := 10) (q0 := (RX10, TX10, 54)) ⟨hx, hb, hml, hown, hT⟩ (c_X10_driveLine l hm_mm hm_ta hm_ha hm_dr hf_mm hf_ta hf_ha hf_dr hq_ha hq_dr (by first | omega | decide | assumption) (by first | omega | decide | assumption) (by omega)) (cwV 0 hT (z_goodV (fun _ h => h) kw_1438 kw_1440 kw_45 kw_96 kw_1441) rfl rfl rfl (by decide +kernel) ⟨by decide, by decide⟩) z_mv hKK hK hw hA hm_mm hf_mm rfl rfl rfl hl.1 rfl (Nat.le_of_ble_eq_true rfl) dX10_line_98 ⟨by decide, by decide⟩ (fun u H locs hp hw => ?_)
                  obtain ⟨L223, f224⟩ := u
                  obtain ⟨hsb, hfm, a2_225, k2_226, p2_227, v2_228, b2_229, q2_230, w2_231, nha_232, ndr_233, ha_0, ha_1, ha_2, hq_ha, hq_dr, hp⟩ := hp
                  have hsb : L = L223 := hsb
                  subst hsb
                  have hsb : ∀ b ∈ L, b ∈ L := fun _ h => h
                  have hw : z_H D vwCl (z_A L sz) s.heap L f224 H locs := hw
                  have hfr : ∀ b ∈ L, b ≠ mm → b ≠ ha → b ≠ lw → b ≠ st → b ≠ fo → b ≠ dr → f224 b = f b := fun b hb h0 h1 h2 h3 h4 h5 => (hfm b hb h0 h1 h5).trans (hfr b hb h0 h1 h2 h3 h4 h5)
                  have hf_ta : f224 ta = .inl (cy 0, 1600, .inl gta) := (hfm ta hm_ta (z_tne hf_ta hf_mm (m := 12900) (n := 10) rfl rfl (by decide)) (z_tne hf_ta hf_ha (m := 12900) (n := 340) rfl rfl (by decide)) (z_tne hf_ta hf_dr (m := 12900) (n := 4260) rfl rfl (by decide))).trans hf_ta
                  have hf_lw : f224 lw = .inl (cy 1, 25, .inl glw) := (hfm lw hm_lw (z_tne hf_lw hf_mm (m := 300) (n := 10) rfl rfl (by decide)) (z_tne hf_lw hf_ha (m := 300) (n := 340) rfl rfl (by decide)) (z_tne hf_lw hf_dr (m := 300) (n := 4260) rfl rfl (by decide))).trans hf_lw
                  have hf_st : f224 st = .inl (cy 1, 20, .inl gst) := (hfm st hm_st (z_tne hf_st hf_mm (m := 260) (n := 10) rfl rfl (by decide)) (z_tne hf_st hf_ha (m := 260) (n := 340) rfl rfl (by decide)) (z_tne hf_st hf_dr (m := 260) (n := 4260) rfl rfl (by decide))).trans hf_st
                  have hf_fo : f224 fo = .inl (cy 1, 180, .inl gfo) := (hfm fo hm_fo (z_tne hf_fo hf_mm (m := 1540) (n := 10) rfl rfl (by decide)) (z_tne hf_fo hf_ha (m := 1540) (n := 340) rfl rfl (by decide)) (z_tne hf_fo hf_dr (m := 1540) (n := 4260) rfl rfl (by decide))).trans hf_fo
                  have hf_mm : f224 mm = .inr (10, [.int m0, .ref wd, .ref my, .ref ce, .ref mv, .ref ta, .int m6, .int a2_225, .int k2_226, .int p2_227, .int v2_228, .long w2_231, .int b2_229, .int q2_230, .int m14, .int m15, .ref li, .ref ha, .ref lw, .ref st, .ref fo, .ref dr, .int m22, .ref ik, .int m24, .int m25, .long m26, .int m27, .int m28, .ref ro, .int m30, .ref ct, .ref se, .ref th, .ref cn, .ref be, .int m36, .ref du, .int m38, .ref db, .int m40, .int m41, .int m42, .ref pn, .ref wg, .ref wh, .ref tn, .ref he, .int m48, .ref tr, .ref fd, .ref po, .int m52, .int m53]) := ha_0
                  have hf_ha : f224 ha = .inl (cy 1, 30, .inl nha_232) := ha_1
                  have hf_dr : f224 dr = .inl (cy 1, 520, .inl ndr_233) := ha_2
                  have hC_ : (0 ≤ a2_225.toInt ∧ a2_225.toInt ≤ m6.toInt) ∧ m7.toInt ≤ a2_225.toInt ∧ (b2_229.toInt ≠ 0 ∨ m12.toInt = 0) ∧ (b2_229.toInt ≠ 0 ∨ k2_226.toInt ≠ 3 ∨ m7.toInt < a2_225.toInt) := by refine ⟨⟨?_, ?_⟩, ?_, ?_, ?_⟩ <;> omega
                  clear hp
                  replace hC := hC_
                  clear hC_
                  refine lv_goto (tgt := 335) hx hb dX10_line_101 (by decide) ?_
                  exact z_vret hx hb hr hlk (by decide) (by decide) hw (⟨hsub, hfr, a2_225, k2_226, p2_227, v2_228, b2_229, q2_230, m22, w2_231, nha_232, glw, gst, gfo, ndr_233, hf_mm, hf_ha, hf_lw, hf_st, hf_fo, hf_dr, hq_ha, hq_lw, hq_st, hq_dr, by omega, by omega, by omega, by omega, rfl⟩) dX10_line_335
                · skip
                  exact z_vret hx hb hr hlk (by decide) (by decide) hw (⟨hsub, hfr, m7, m8, m9, m10, b2_179, p2_180, m22, m11, gha, glw, gst, gfo, gdr, hf_mm, hf_ha, hf_lw, hf_st, hf_fo, hf_dr, hq_ha, hq_lw, hq_st, hq_dr, by omega, by omega, by omega, by omega, rfl⟩) dX10_line_88
              · skip
                refine lv_aload_n hx hb dX10_line_76 rfl (lv_at hl 3 rfl) ?_
                refine lv_iconst (v := 3) hx hb dX10_line_77 (by decide) ?_
                have hz234 := (show (3 : Int32).toInt = 3 by decide)
                refine z_callvV (cells := 0) (slots := 0) (b := mm) (As := [.int 3]) (rest := []) (ci := 10) (q0 := (RX10, TX10, 54)) ⟨hx, hb, hml, hown, hT⟩ (c_X10_fails l hm_mm hf_mm (by first | omega | decide | assumption)) (cwV 1 hT (z_goodV (fun _ h => h) kw_1411 kw_1413 kw_40 kw_96 kw_1414) rfl rfl rfl (by decide +kernel) ⟨by decide, by decide⟩) z_mv hKK hK hw hA hm_mm hf_mm rfl rfl rfl hl.1 rfl (Nat.le_of_ble_eq_true rfl) dX10_line_78 ⟨by decide, by decide⟩ (fun u H locs hp hw => ?_)
                obtain ⟨L235, f236⟩ := u
                obtain ⟨hsb, hfm, b2_237, p2_238, ha_0, hp⟩ := hp
                have hsb : L = L235 := hsb
                subst hsb
                have hsb : ∀ b ∈ L, b ∈ L := fun _ h => h
                have hw : z_H D vwCl (z_A L sz) s.heap L f236 H locs := hw
                have hfr : ∀ b ∈ L, b ≠ mm → b ≠ ha → b ≠ lw → b ≠ st → b ≠ fo → b ≠ dr → f236 b = f b := fun b hb h0 h1 h2 h3 h4 h5 => (hfm b hb h0).trans (hfr b hb h0 h1 h2 h3 h4 h5)
                have hf_ta : f236 ta = .inl (cy 0, 1600, .inl gta) := (hfm ta hm_ta (z_tne hf_ta hf_mm (m := 12900) (n := 10) rfl rfl (by decide))).trans hf_ta
                have hf_ha : f236 ha = .inl (cy 1, 30, .inl gha) := (hfm ha hm_ha (z_tne hf_ha hf_mm (m := 340) (n := 10) rfl rfl (by decide))).trans hf_ha
                have hf_lw : f236 lw = .inl (cy 1, 25, .inl glw) := (hfm lw hm_lw (z_tne hf_lw hf_mm (m := 300) (n := 10) rfl rfl (by decide))).trans hf_lw
                have hf_st : f236 st = .inl (cy 1, 20, .inl gst) := (hfm st hm_st (z_tne hf_st hf_mm (m := 260) (n := 10) rfl rfl (by decide))).trans hf_st
                have hf_fo : f236 fo = .inl (cy 1, 180, .inl gfo) := (hfm fo hm_fo (z_tne hf_fo hf_mm (m := 1540) (n := 10) rfl rfl (by decide))).trans hf_fo
                have hf_dr : f236 dr = .inl (cy 1, 520, .inl gdr) := (hfm dr hm_dr (z_tne hf_dr hf_mm (m := 4260) (n := 10) rfl rfl (by decide))).trans hf_dr
                have hf_mm : f236 mm = .inr (10, [.int m0, .ref wd, .ref my, .ref ce, .ref mv, .ref ta, .int m6, .int m7, .int m8, .int m9, .int m10, .long m11, .int b2_237, .int p2_238, .int m14, .int m15, .ref li, .ref ha, .ref lw, .ref st, .ref fo, .ref dr, .int m22, .ref ik, .int m24, .int m25, .long m26, .int m27, .int m28, .ref ro, .int m30, .ref ct, .ref se, .ref th, .ref cn, .ref be, .int m36, .ref du, .int m38, .ref db, .int m40, .int m41, .int m42, .ref pn, .ref wg, .ref wh, .ref tn, .ref he, .int m48, .ref tr, .ref fd, .ref po, .int m52, .int m53]) := ha_0
                have hq239 := hp
                refine lv_aload_n hx hb dX10_line_81 rfl (lv_at hl 3 rfl) ?_
                refine z_get (C := RX10) (T := TX10) (N := 54) (ci := 10) (v := .int b2_237) hx hb hT zin_X10 hown hK hw hm_mm hf_mm rfl 12 (by decide) (hT _ kw_1180) rfl dX10_line_82 ?_
                refine z_if_eq (tgt := 89) hx hb rfl dX10_line_85 (by decide) (fun c240 => ?_) (fun c240 => ?_)
                · skip
                  refine lv_iload_n hx hb dX10_line_89 rfl (lv_at hl 2 rfl) ?_
                  refine z_if_eq (tgt := 104) hx hb (show (1 : Int32).toInt = 1 by decide) dX10_line_90 (by decide) (fun h => absurd h (by decide)) (fun _ => ?_)
                  refine lv_aload_n hx hb dX10_line_93 rfl (lv_at hl 3 rfl) ?_
                  refine z_callvV (cells := 0) (slots := 0) (b := mm) (As := []) (rest := []) (ci := 10) (q0 := (RX10, TX10, 54)) ⟨hx, hb, hml, hown, hT⟩ (c_X10_next l hm_mm hm_ta hf_mm hf_ta (by first | omega | decide | assumption) (by first | omega | decide | assumption)) (cwV 0 hT (z_goodV (fun _ h => h) kw_1381 kw_1383 kw_34 kw_96 kw_1384) rfl rfl rfl (by decide +kernel) ⟨by decide, by decide⟩) z_mv hKK hK hw hA hm_mm hf_mm rfl rfl rfl hl.1 rfl (Nat.le_of_ble_eq_true rfl) dX10_line_94 ⟨by decide, by decide⟩ (fun u H locs hp hw => ?_)
                  obtain ⟨L241, f242⟩ := u
                  obtain ⟨hsb, hfm, a2_243, k2_244, p2_245, v2_246, w2_247, ha_0, hp⟩ := hp
                  have hsb : L = L241 := hsb
                  subst hsb
                  have hsb : ∀ b ∈ L, b ∈ L := fun _ h => h
                  have hw : z_H D vwCl (z_A L sz) s.heap L f242 H locs := hw
                  have hfr : ∀ b ∈ L, b ≠ mm → b ≠ ha → b ≠ lw → b ≠ st → b ≠ fo → b ≠ dr → f242 b = f b := fun b hb h0 h1 h2 h3 h4 h5 => (hfm b hb h0).trans (hfr b hb h0 h1 h2 h3 h4 h5)
                  have hf_ta : f242 ta = .inl (cy 0, 1600, .inl gta) := (hfm ta hm_ta (z_tne hf_ta hf_mm (m := 12900) (n := 10) rfl rfl (by decide))).trans hf_ta
                  have hf_ha : f242 ha = .inl (cy 1, 30, .inl gha) := (hfm ha hm_ha (z_tne hf_ha hf_mm (m := 340) (n := 10) rfl rfl (by decide))).trans hf_ha
                  have hf_lw : f242 lw = .inl (cy 1, 25, .inl glw) := (hfm lw hm_lw (z_tne hf_lw hf_mm (m := 300) (n := 10) rfl rfl (by decide))).trans hf_lw
                  have hf_st : f242 st = .inl (cy 1, 20, .inl gst) := (hfm st hm_st (z_tne hf_st hf_mm (m := 260) (n := 10) rfl rfl (by decide))).trans hf_st
                  have hf_fo : f242 fo = .inl (cy 1, 180, .inl gfo) := (hfm fo hm_fo (z_tne hf_fo hf_mm (m := 1540) (n := 10) rfl rfl (by decide))).trans hf_fo
                  have hf_dr : f242 dr = .inl (cy 1, 520, .inl gdr) := (hfm dr hm_dr (z_tne hf_dr hf_mm (m := 4260) (n := 10) rfl rfl (by decide))).trans hf_dr
                  have hf_mm : f242 mm = .inr (10, [.int m0, .ref wd, .ref my, .ref ce, .ref mv, .ref ta, .int m6, .int a2_243, .int k2_244, .int p2_245, .int v2_246, .long w2_247, .int b2_237, .int p2_238, .int m14, .int m15, .ref li, .ref ha, .ref lw, .ref st, .ref fo, .ref dr, .int m22, .ref ik, .int m24, .int m25, .long m26, .int m27, .int m28, .ref ro, .int m30, .ref ct, .ref se, .ref th, .ref cn, .ref be, .int m36, .ref du, .int m38, .ref db, .int m40, .int m41, .int m42, .ref pn, .ref wg, .ref wh, .ref tn, .ref he, .int m48, .ref tr, .ref fd, .ref po, .int m52, .int m53]) := ha_0
                  have hC_ : (0 ≤ a2_243.toInt ∧ a2_243.toInt ≤ m6.toInt) ∧ m7.toInt ≤ a2_243.toInt ∧ (b2_237.toInt ≠ 0 ∨ m12.toInt = 0) ∧ (b2_237.toInt ≠ 0 ∨ k2_244.toInt ≠ 3 ∨ m7.toInt < a2_243.toInt) := by refine ⟨⟨?_, ?_⟩, ?_, ?_, ?_⟩ <;> omega
                  clear hp
                  replace hC := hC_
                  clear hC_
                  refine lv_aload_n hx hb dX10_line_97 rfl (lv_at hl 3 rfl) ?_
                  refine z_callvV (cells := 0) (slots := 0) (b := mm) (As := []) (rest := []) (ci := 10) (q0 := (RX10, TX10, 54)) ⟨hx, hb, hml, hown, hT⟩ (c_X10_driveLine l hm_mm hm_ta hm_ha hm_dr hf_mm hf_ta hf_ha hf_dr hq_ha hq_dr (by first | omega | decide | assumption) (by first | omega | decide | assumption) (by omega)) (cwV 0 hT (z_goodV (fun _ h => h) kw_1438 kw_1440 kw_45 kw_96 kw_1441) rfl rfl rfl (by decide +kernel) ⟨by decide, by decide⟩) z_mv hKK hK hw hA hm_mm hf_mm rfl rfl rfl hl.1 rfl (Nat.le_of_ble_eq_true rfl) dX10_line_98 ⟨by decide, by decide⟩ (fun u H locs hp hw => ?_)
                  obtain ⟨L248, f249⟩ := u
                  obtain ⟨hsb, hfm, a2_250, k2_251, p2_252, v2_253, b2_254, q2_255, w2_256, nha_257, ndr_258, ha_0, ha_1, ha_2, hq_ha, hq_dr, hp⟩ := hp
                  have hsb : L = L248 := hsb
                  subst hsb
                  have hsb : ∀ b ∈ L, b ∈ L := fun _ h => h
                  have hw : z_H D vwCl (z_A L sz) s.heap L f249 H locs := hw
                  have hfr : ∀ b ∈ L, b ≠ mm → b ≠ ha → b ≠ lw → b ≠ st → b ≠ fo → b ≠ dr → f249 b = f b := fun b hb h0 h1 h2 h3 h4 h5 => (hfm b hb h0 h1 h5).trans (hfr b hb h0 h1 h2 h3 h4 h5)
                  have hf_ta : f249 ta = .inl (cy 0, 1600, .inl gta) := (hfm ta hm_ta (z_tne hf_ta hf_mm (m := 12900) (n := 10) rfl rfl (by decide)) (z_tne hf_ta hf_ha (m := 12900) (n := 340) rfl rfl (by decide)) (z_tne hf_ta hf_dr (m := 12900) (n := 4260) rfl rfl (by decide))).trans hf_ta
                  have hf_lw : f249 lw = .inl (cy 1, 25, .inl glw) := (hfm lw hm_lw (z_tne hf_lw hf_mm (m := 300) (n := 10) rfl rfl (by decide)) (z_tne hf_lw hf_ha (m := 300) (n := 340) rfl rfl (by decide)) (z_tne hf_lw hf_dr (m := 300) (n := 4260) rfl rfl (by decide))).trans hf_lw
                  have hf_st : f249 st = .inl (cy 1, 20, .inl gst) := (hfm st hm_st (z_tne hf_st hf_mm (m := 260) (n := 10) rfl rfl (by decide)) (z_tne hf_st hf_ha (m := 260) (n := 340) rfl rfl (by decide)) (z_tne hf_st hf_dr (m := 260) (n := 4260) rfl rfl (by decide))).trans hf_st
                  have hf_fo : f249 fo = .inl (cy 1, 180, .inl gfo) := (hfm fo hm_fo (z_tne hf_fo hf_mm (m := 1540) (n := 10) rfl rfl (by decide)) (z_tne hf_fo hf_ha (m := 1540) (n := 340) rfl rfl (by decide)) (z_tne hf_fo hf_dr (m := 1540) (n := 4260) rfl rfl (by decide))).trans hf_fo
                  have hf_mm : f249 mm = .inr (10, [.int m0, .ref wd, .ref my, .ref ce, .ref mv, .ref ta, .int m6, .int a2_250, .int k2_251, .int p2_252, .int v2_253, .long w2_256, .int b2_254, .int q2_255, .int m14, .int m15, .ref li, .ref ha, .ref lw, .ref st, .ref fo, .ref dr, .int m22, .ref ik, .int m24, .int m25, .long m26, .int m27, .int m28, .ref ro, .int m30, .ref ct, .ref se, .ref th, .ref cn, .ref be, .int m36, .ref du, .int m38, .ref db, .int m40, .int m41, .int m42, .ref pn, .ref wg, .ref wh, .ref tn, .ref he, .int m48, .ref tr, .ref fd, .ref po, .int m52, .int m53]) := ha_0
                  have hf_ha : f249 ha = .inl (cy 1, 30, .inl nha_257) := ha_1
                  have hf_dr : f249 dr = .inl (cy 1, 520, .inl ndr_258) := ha_2
                  have hC_ : (0 ≤ a2_250.toInt ∧ a2_250.toInt ≤ m6.toInt) ∧ m7.toInt ≤ a2_250.toInt ∧ (b2_254.toInt ≠ 0 ∨ m12.toInt = 0) ∧ (b2_254.toInt ≠ 0 ∨ k2_251.toInt ≠ 3 ∨ m7.toInt < a2_250.toInt) := by refine ⟨⟨?_, ?_⟩, ?_, ?_, ?_⟩ <;> omega
                  clear hp
                  replace hC := hC_
                  clear hC_
                  refine lv_goto (tgt := 335) hx hb dX10_line_101 (by decide) ?_
                  exact z_vret hx hb hr hlk (by decide) (by decide) hw (⟨hsub, hfr, a2_250, k2_251, p2_252, v2_253, b2_254, q2_255, m22, w2_256, nha_257, glw, gst, gfo, ndr_258, hf_mm, hf_ha, hf_lw, hf_st, hf_fo, hf_dr, hq_ha, hq_lw, hq_st, hq_dr, by omega, by omega, by omega, by omega, rfl⟩) dX10_line_335
                · skip
                  exact z_vret hx hb hr hlk (by decide) (by decide) hw (⟨hsub, hfr, m7, m8, m9, m10, b2_237, p2_238, m22, m11, gha, glw, gst, gfo, gdr, hf_mm, hf_ha, hf_lw, hf_st, hf_fo, hf_dr, hq_ha, hq_lw, hq_st, hq_dr, by omega, by omega, by omega, by omega, rfl⟩) dX10_line_88
      · skip
        refine lv_istore_n (lv' := [(3, .int 0), (2, .int 1), (1, .int 1), (0, .ref mm)]) hx hb dX10_line_23 rfl hl (by decide) rfl (fun ls hl => ?_)
        refine lv_iload_n hx hb dX10_line_24 rfl (lv_at hl 0 rfl) ?_
        refine z_if_eq (tgt := 48) hx hb (show (0 : Int32).toInt = 0 by decide) dX10_line_25 (by decide) (fun _ => ?_) (fun h => absurd h (by decide))
        refine lv_iload_n hx hb dX10_line_48 rfl (lv_at hl 2 rfl) ?_
        refine z_if_eq (tgt := 62) hx hb (show (1 : Int32).toInt = 1 by decide) dX10_line_49 (by decide) (fun h => absurd h (by decide)) (fun _ => ?_)
        refine lv_aload_n hx hb dX10_line_52 rfl (lv_at hl 3 rfl) ?_
        refine lv_iconst (v := 3) hx hb dX10_line_53 (by decide) ?_
        have hz259 := (show (3 : Int32).toInt = 3 by decide)
        refine z_calliV (cells := 0) (slots := 0) (b := mm) (As := [.int 3]) (rest := []) (ci := 10) (q0 := (RX10, TX10, 54)) ⟨hx, hb, hml, hown, hT⟩ (c_X10_hasRead l hm_mm hm_ha hf_mm hf_ha hq_ha (by decide)) (cwV 1 hT (z_goodV (fun _ h => h) kw_1434 kw_1436 kw_44 kw_96 kw_1437) rfl rfl rfl (by decide +kernel) ⟨by decide, by decide⟩) z_mv hKK hK hw hA hm_mm hf_mm rfl rfl rfl hl.1 rfl (Nat.le_of_ble_eq_true rfl) dX10_line_54 ⟨by decide, by decide⟩ (fun r260 u H locs hp hw => ?_)
        obtain ⟨rfl, hp⟩ := hp
        have hw : z_H D vwCl (z_A L sz) s.heap L f H locs := hw
        have h3e261 : (gha 27).toInt = r260.toInt := by rw [hp]; rfl
        have hh262 : 0 ≤ r260.toInt ∧ r260.toInt ≤ 12 := by rw [hp]; exact (hq_ha 27).1.2.2.2 rfl
        refine lv_bipush (v := 12) hx hb dX10_line_57 (by decide) ?_
        refine z_icmp_eq (tgt := 76) hx hb rfl (show (12 : Int32).toInt = 12 by decide) dX10_line_59 (by decide) (fun c263 => ?_) (fun c263 => ?_)
        · skip
          refine lv_aload_n hx hb dX10_line_76 rfl (lv_at hl 3 rfl) ?_
          refine lv_iconst (v := 3) hx hb dX10_line_77 (by decide) ?_
          have hz264 := (show (3 : Int32).toInt = 3 by decide)
          refine z_callvV (cells := 0) (slots := 0) (b := mm) (As := [.int 3]) (rest := []) (ci := 10) (q0 := (RX10, TX10, 54)) ⟨hx, hb, hml, hown, hT⟩ (c_X10_fails l hm_mm hf_mm (by first | omega | decide | assumption)) (cwV 1 hT (z_goodV (fun _ h => h) kw_1411 kw_1413 kw_40 kw_96 kw_1414) rfl rfl rfl (by decide +kernel) ⟨by decide, by decide⟩) z_mv hKK hK hw hA hm_mm hf_mm rfl rfl rfl hl.1 rfl (Nat.le_of_ble_eq_true rfl) dX10_line_78 ⟨by decide, by decide⟩ (fun u H locs hp hw => ?_)
          obtain ⟨L265, f266⟩ := u
          obtain ⟨hsb, hfm, b2_267, p2_268, ha_0, hp⟩ := hp
          have hsb : L = L265 := hsb
          subst hsb
          have hsb : ∀ b ∈ L, b ∈ L := fun _ h => h
          have hw : z_H D vwCl (z_A L sz) s.heap L f266 H locs := hw
          have hfr : ∀ b ∈ L, b ≠ mm → b ≠ ha → b ≠ lw → b ≠ st → b ≠ fo → b ≠ dr → f266 b = f b := fun b hb h0 h1 h2 h3 h4 h5 => (hfm b hb h0).trans (hfr b hb h0 h1 h2 h3 h4 h5)
          have hf_ta : f266 ta = .inl (cy 0, 1600, .inl gta) := (hfm ta hm_ta (z_tne hf_ta hf_mm (m := 12900) (n := 10) rfl rfl (by decide))).trans hf_ta
          have hf_ha : f266 ha = .inl (cy 1, 30, .inl gha) := (hfm ha hm_ha (z_tne hf_ha hf_mm (m := 340) (n := 10) rfl rfl (by decide))).trans hf_ha
          have hf_lw : f266 lw = .inl (cy 1, 25, .inl glw) := (hfm lw hm_lw (z_tne hf_lw hf_mm (m := 300) (n := 10) rfl rfl (by decide))).trans hf_lw
          have hf_st : f266 st = .inl (cy 1, 20, .inl gst) := (hfm st hm_st (z_tne hf_st hf_mm (m := 260) (n := 10) rfl rfl (by decide))).trans hf_st
          have hf_fo : f266 fo = .inl (cy 1, 180, .inl gfo) := (hfm fo hm_fo (z_tne hf_fo hf_mm (m := 1540) (n := 10) rfl rfl (by decide))).trans hf_fo
          have hf_dr : f266 dr = .inl (cy 1, 520, .inl gdr) := (hfm dr hm_dr (z_tne hf_dr hf_mm (m := 4260) (n := 10) rfl rfl (by decide))).trans hf_dr
          have hf_mm : f266 mm = .inr (10, [.int m0, .ref wd, .ref my, .ref ce, .ref mv, .ref ta, .int m6, .int m7, .int m8, .int m9, .int m10, .long m11, .int b2_267, .int p2_268, .int m14, .int m15, .ref li, .ref ha, .ref lw, .ref st, .ref fo, .ref dr, .int m22, .ref ik, .int m24, .int m25, .long m26, .int m27, .int m28, .ref ro, .int m30, .ref ct, .ref se, .ref th, .ref cn, .ref be, .int m36, .ref du, .int m38, .ref db, .int m40, .int m41, .int m42, .ref pn, .ref wg, .ref wh, .ref tn, .ref he, .int m48, .ref tr, .ref fd, .ref po, .int m52, .int m53]) := ha_0
          have hq269 := hp
          refine lv_aload_n hx hb dX10_line_81 rfl (lv_at hl 3 rfl) ?_
          refine z_get (C := RX10) (T := TX10) (N := 54) (ci := 10) (v := .int b2_267) hx hb hT zin_X10 hown hK hw hm_mm hf_mm rfl 12 (by decide) (hT _ kw_1180) rfl dX10_line_82 ?_
          refine z_if_eq (tgt := 89) hx hb rfl dX10_line_85 (by decide) (fun c270 => ?_) (fun c270 => ?_)
          · skip
            refine lv_iload_n hx hb dX10_line_89 rfl (lv_at hl 2 rfl) ?_
            refine z_if_eq (tgt := 104) hx hb (show (1 : Int32).toInt = 1 by decide) dX10_line_90 (by decide) (fun h => absurd h (by decide)) (fun _ => ?_)
            refine lv_aload_n hx hb dX10_line_93 rfl (lv_at hl 3 rfl) ?_
            refine z_callvV (cells := 0) (slots := 0) (b := mm) (As := []) (rest := []) (ci := 10) (q0 := (RX10, TX10, 54)) ⟨hx, hb, hml, hown, hT⟩ (c_X10_next l hm_mm hm_ta hf_mm hf_ta (by first | omega | decide | assumption) (by first | omega | decide | assumption)) (cwV 0 hT (z_goodV (fun _ h => h) kw_1381 kw_1383 kw_34 kw_96 kw_1384) rfl rfl rfl (by decide +kernel) ⟨by decide, by decide⟩) z_mv hKK hK hw hA hm_mm hf_mm rfl rfl rfl hl.1 rfl (Nat.le_of_ble_eq_true rfl) dX10_line_94 ⟨by decide, by decide⟩ (fun u H locs hp hw => ?_)
            obtain ⟨L271, f272⟩ := u
            obtain ⟨hsb, hfm, a2_273, k2_274, p2_275, v2_276, w2_277, ha_0, hp⟩ := hp
            have hsb : L = L271 := hsb
            subst hsb
            have hsb : ∀ b ∈ L, b ∈ L := fun _ h => h
            have hw : z_H D vwCl (z_A L sz) s.heap L f272 H locs := hw
            have hfr : ∀ b ∈ L, b ≠ mm → b ≠ ha → b ≠ lw → b ≠ st → b ≠ fo → b ≠ dr → f272 b = f b := fun b hb h0 h1 h2 h3 h4 h5 => (hfm b hb h0).trans (hfr b hb h0 h1 h2 h3 h4 h5)
            have hf_ta : f272 ta = .inl (cy 0, 1600, .inl gta) := (hfm ta hm_ta (z_tne hf_ta hf_mm (m := 12900) (n := 10) rfl rfl (by decide))).trans hf_ta
            have hf_ha : f272 ha = .inl (cy 1, 30, .inl gha) := (hfm ha hm_ha (z_tne hf_ha hf_mm (m := 340) (n := 10) rfl rfl (by decide))).trans hf_ha
            have hf_lw : f272 lw = .inl (cy 1, 25, .inl glw) := (hfm lw hm_lw (z_tne hf_lw hf_mm (m := 300) (n := 10) rfl rfl (by decide))).trans hf_lw
            have hf_st : f272 st = .inl (cy 1, 20, .inl gst) := (hfm st hm_st (z_tne hf_st hf_mm (m := 260) (n := 10) rfl rfl (by decide))).trans hf_st
            have hf_fo : f272 fo = .inl (cy 1, 180, .inl gfo) := (hfm fo hm_fo (z_tne hf_fo hf_mm (m := 1540) (n := 10) rfl rfl (by decide))).trans hf_fo
            have hf_dr : f272 dr = .inl (cy 1, 520, .inl gdr) := (hfm dr hm_dr (z_tne hf_dr hf_mm (m := 4260) (n := 10) rfl rfl (by decide))).trans hf_dr
            have hf_mm : f272 mm = .inr (10, [.int m0, .ref wd, .ref my, .ref ce, .ref mv, .ref ta, .int m6, .int a2_273, .int k2_274, .int p2_275, .int v2_276, .long w2_277, .int b2_267, .int p2_268, .int m14, .int m15, .ref li, .ref ha, .ref lw, .ref st, .ref fo, .ref dr, .int m22, .ref ik, .int m24, .int m25, .long m26, .int m27, .int m28, .ref ro, .int m30, .ref ct, .ref se, .ref th, .ref cn, .ref be, .int m36, .ref du, .int m38, .ref db, .int m40, .int m41, .int m42, .ref pn, .ref wg, .ref wh, .ref tn, .ref he, .int m48, .ref tr, .ref fd, .ref po, .int m52, .int m53]) := ha_0
            have hC_ : (0 ≤ a2_273.toInt ∧ a2_273.toInt ≤ m6.toInt) ∧ m7.toInt ≤ a2_273.toInt ∧ (b2_267.toInt ≠ 0 ∨ m12.toInt = 0) ∧ (b2_267.toInt ≠ 0 ∨ k2_274.toInt ≠ 3 ∨ m7.toInt < a2_273.toInt) := by refine ⟨⟨?_, ?_⟩, ?_, ?_, ?_⟩ <;> omega
            clear hp
            replace hC := hC_
            clear hC_
            refine lv_aload_n hx hb dX10_line_97 rfl (lv_at hl 3 rfl) ?_
            refine z_callvV (cells := 0) (slots := 0) (b := mm) (As := []) (rest := []) (ci := 10) (q0 := (RX10, TX10, 54)) ⟨hx, hb, hml, hown, hT⟩ (c_X10_driveLine l hm_mm hm_ta hm_ha hm_dr hf_mm hf_ta hf_ha hf_dr hq_ha hq_dr (by first | omega | decide | assumption) (by first | omega | decide | assumption) (by omega)) (cwV 0 hT (z_goodV (fun _ h => h) kw_1438 kw_1440 kw_45 kw_96 kw_1441) rfl rfl rfl (by decide +kernel) ⟨by decide, by decide⟩) z_mv hKK hK hw hA hm_mm hf_mm rfl rfl rfl hl.1 rfl (Nat.le_of_ble_eq_true rfl) dX10_line_98 ⟨by decide, by decide⟩ (fun u H locs hp hw => ?_)
            obtain ⟨L278, f279⟩ := u
            obtain ⟨hsb, hfm, a2_280, k2_281, p2_282, v2_283, b2_284, q2_285, w2_286, nha_287, ndr_288, ha_0, ha_1, ha_2, hq_ha, hq_dr, hp⟩ := hp
            have hsb : L = L278 := hsb
            subst hsb
            have hsb : ∀ b ∈ L, b ∈ L := fun _ h => h
            have hw : z_H D vwCl (z_A L sz) s.heap L f279 H locs := hw
            have hfr : ∀ b ∈ L, b ≠ mm → b ≠ ha → b ≠ lw → b ≠ st → b ≠ fo → b ≠ dr → f279 b = f b := fun b hb h0 h1 h2 h3 h4 h5 => (hfm b hb h0 h1 h5).trans (hfr b hb h0 h1 h2 h3 h4 h5)
            have hf_ta : f279 ta = .inl (cy 0, 1600, .inl gta) := (hfm ta hm_ta (z_tne hf_ta hf_mm (m := 12900) (n := 10) rfl rfl (by decide)) (z_tne hf_ta hf_ha (m := 12900) (n := 340) rfl rfl (by decide)) (z_tne hf_ta hf_dr (m := 12900) (n := 4260) rfl rfl (by decide))).trans hf_ta
            have hf_lw : f279 lw = .inl (cy 1, 25, .inl glw) := (hfm lw hm_lw (z_tne hf_lw hf_mm (m := 300) (n := 10) rfl rfl (by decide)) (z_tne hf_lw hf_ha (m := 300) (n := 340) rfl rfl (by decide)) (z_tne hf_lw hf_dr (m := 300) (n := 4260) rfl rfl (by decide))).trans hf_lw
            have hf_st : f279 st = .inl (cy 1, 20, .inl gst) := (hfm st hm_st (z_tne hf_st hf_mm (m := 260) (n := 10) rfl rfl (by decide)) (z_tne hf_st hf_ha (m := 260) (n := 340) rfl rfl (by decide)) (z_tne hf_st hf_dr (m := 260) (n := 4260) rfl rfl (by decide))).trans hf_st
            have hf_fo : f279 fo = .inl (cy 1, 180, .inl gfo) := (hfm fo hm_fo (z_tne hf_fo hf_mm (m := 1540) (n := 10) rfl rfl (by decide)) (z_tne hf_fo hf_ha (m := 1540) (n := 340) rfl rfl (by decide)) (z_tne hf_fo hf_dr (m := 1540) (n := 4260) rfl rfl (by decide))).trans hf_fo
            have hf_mm : f279 mm = .inr (10, [.int m0, .ref wd, .ref my, .ref ce, .ref mv, .ref ta, .int m6, .int a2_280, .int k2_281, .int p2_282, .int v2_283, .long w2_286, .int b2_284, .int q2_285, .int m14, .int m15, .ref li, .ref ha, .ref lw, .ref st, .ref fo, .ref dr, .int m22, .ref ik, .int m24, .int m25, .long m26, .int m27, .int m28, .ref ro, .int m30, .ref ct, .ref se, .ref th, .ref cn, .ref be, .int m36, .ref du, .int m38, .ref db, .int m40, .int m41, .int m42, .ref pn, .ref wg, .ref wh, .ref tn, .ref he, .int m48, .ref tr, .ref fd, .ref po, .int m52, .int m53]) := ha_0
            have hf_ha : f279 ha = .inl (cy 1, 30, .inl nha_287) := ha_1
            have hf_dr : f279 dr = .inl (cy 1, 520, .inl ndr_288) := ha_2
            have hC_ : (0 ≤ a2_280.toInt ∧ a2_280.toInt ≤ m6.toInt) ∧ m7.toInt ≤ a2_280.toInt ∧ (b2_284.toInt ≠ 0 ∨ m12.toInt = 0) ∧ (b2_284.toInt ≠ 0 ∨ k2_281.toInt ≠ 3 ∨ m7.toInt < a2_280.toInt) := by refine ⟨⟨?_, ?_⟩, ?_, ?_, ?_⟩ <;> omega
            clear hp
            replace hC := hC_
            clear hC_
            refine lv_goto (tgt := 335) hx hb dX10_line_101 (by decide) ?_
            exact z_vret hx hb hr hlk (by decide) (by decide) hw (⟨hsub, hfr, a2_280, k2_281, p2_282, v2_283, b2_284, q2_285, m22, w2_286, nha_287, glw, gst, gfo, ndr_288, hf_mm, hf_ha, hf_lw, hf_st, hf_fo, hf_dr, hq_ha, hq_lw, hq_st, hq_dr, by omega, by omega, by omega, by omega, rfl⟩) dX10_line_335
          · skip
            exact z_vret hx hb hr hlk (by decide) (by decide) hw (⟨hsub, hfr, m7, m8, m9, m10, b2_267, p2_268, m22, m11, gha, glw, gst, gfo, gdr, hf_mm, hf_ha, hf_lw, hf_st, hf_fo, hf_dr, hq_ha, hq_lw, hq_st, hq_dr, by omega, by omega, by omega, by omega, rfl⟩) dX10_line_88
        · skip
          refine lv_iload_n hx hb dX10_line_62 rfl (lv_at hl 1 rfl) ?_
          refine z_if_eq (tgt := 81) hx hb (show (1 : Int32).toInt = 1 by decide) dX10_line_63 (by decide) (fun h => absurd h (by decide)) (fun _ => ?_)
          refine lv_aload_n hx hb dX10_line_66 rfl (lv_at hl 3 rfl) ?_
          refine lv_iconst (v := 4) hx hb dX10_line_67 (by decide) ?_
          have hz289 := (show (4 : Int32).toInt = 4 by decide)
          refine z_calliV (cells := 0) (slots := 0) (b := mm) (As := [.int 4]) (rest := []) (ci := 10) (q0 := (RX10, TX10, 54)) ⟨hx, hb, hml, hown, hT⟩ (c_X10_hasRead l hm_mm hm_ha hf_mm hf_ha hq_ha (by decide)) (cwV 1 hT (z_goodV (fun _ h => h) kw_1434 kw_1436 kw_44 kw_96 kw_1437) rfl rfl rfl (by decide +kernel) ⟨by decide, by decide⟩) z_mv hKK hK hw hA hm_mm hf_mm rfl rfl rfl hl.1 rfl (Nat.le_of_ble_eq_true rfl) dX10_line_68 ⟨by decide, by decide⟩ (fun r290 u H locs hp hw => ?_)
          obtain ⟨rfl, hp⟩ := hp
          have hw : z_H D vwCl (z_A L sz) s.heap L f H locs := hw
          refine lv_bipush (v := 8) hx hb dX10_line_71 (by decide) ?_
          refine z_icmp_ne (tgt := 81) hx hb rfl (show (8 : Int32).toInt = 8 by decide) dX10_line_73 (by decide) (fun c291 => ?_) (fun c291 => ?_)
          · skip
            refine lv_aload_n hx hb dX10_line_81 rfl (lv_at hl 3 rfl) ?_
            refine z_get (C := RX10) (T := TX10) (N := 54) (ci := 10) (v := .int m12) hx hb hT zin_X10 hown hK hw hm_mm hf_mm rfl 12 (by decide) (hT _ kw_1180) rfl dX10_line_82 ?_
            refine z_if_eq (tgt := 89) hx hb rfl dX10_line_85 (by decide) (fun c292 => ?_) (fun c292 => ?_)
            · skip
              refine lv_iload_n hx hb dX10_line_89 rfl (lv_at hl 2 rfl) ?_
              refine z_if_eq (tgt := 104) hx hb (show (1 : Int32).toInt = 1 by decide) dX10_line_90 (by decide) (fun h => absurd h (by decide)) (fun _ => ?_)
              refine lv_aload_n hx hb dX10_line_93 rfl (lv_at hl 3 rfl) ?_
              refine z_callvV (cells := 0) (slots := 0) (b := mm) (As := []) (rest := []) (ci := 10) (q0 := (RX10, TX10, 54)) ⟨hx, hb, hml, hown, hT⟩ (c_X10_next l hm_mm hm_ta hf_mm hf_ta (by first | omega | decide | assumption) (by first | omega | decide | assumption)) (cwV 0 hT (z_goodV (fun _ h => h) kw_1381 kw_1383 kw_34 kw_96 kw_1384) rfl rfl rfl (by decide +kernel) ⟨by decide, by decide⟩) z_mv hKK hK hw hA hm_mm hf_mm rfl rfl rfl hl.1 rfl (Nat.le_of_ble_eq_true rfl) dX10_line_94 ⟨by decide, by decide⟩ (fun u H locs hp hw => ?_)
              obtain ⟨L293, f294⟩ := u
              obtain ⟨hsb, hfm, a2_295, k2_296, p2_297, v2_298, w2_299, ha_0, hp⟩ := hp
              have hsb : L = L293 := hsb
              subst hsb
              have hsb : ∀ b ∈ L, b ∈ L := fun _ h => h
              have hw : z_H D vwCl (z_A L sz) s.heap L f294 H locs := hw
              have hfr : ∀ b ∈ L, b ≠ mm → b ≠ ha → b ≠ lw → b ≠ st → b ≠ fo → b ≠ dr → f294 b = f b := fun b hb h0 h1 h2 h3 h4 h5 => (hfm b hb h0).trans (hfr b hb h0 h1 h2 h3 h4 h5)
              have hf_ta : f294 ta = .inl (cy 0, 1600, .inl gta) := (hfm ta hm_ta (z_tne hf_ta hf_mm (m := 12900) (n := 10) rfl rfl (by decide))).trans hf_ta
              have hf_ha : f294 ha = .inl (cy 1, 30, .inl gha) := (hfm ha hm_ha (z_tne hf_ha hf_mm (m := 340) (n := 10) rfl rfl (by decide))).trans hf_ha
              have hf_lw : f294 lw = .inl (cy 1, 25, .inl glw) := (hfm lw hm_lw (z_tne hf_lw hf_mm (m := 300) (n := 10) rfl rfl (by decide))).trans hf_lw
              have hf_st : f294 st = .inl (cy 1, 20, .inl gst) := (hfm st hm_st (z_tne hf_st hf_mm (m := 260) (n := 10) rfl rfl (by decide))).trans hf_st
              have hf_fo : f294 fo = .inl (cy 1, 180, .inl gfo) := (hfm fo hm_fo (z_tne hf_fo hf_mm (m := 1540) (n := 10) rfl rfl (by decide))).trans hf_fo
              have hf_dr : f294 dr = .inl (cy 1, 520, .inl gdr) := (hfm dr hm_dr (z_tne hf_dr hf_mm (m := 4260) (n := 10) rfl rfl (by decide))).trans hf_dr
              have hf_mm : f294 mm = .inr (10, [.int m0, .ref wd, .ref my, .ref ce, .ref mv, .ref ta, .int m6, .int a2_295, .int k2_296, .int p2_297, .int v2_298, .long w2_299, .int m12, .int m13, .int m14, .int m15, .ref li, .ref ha, .ref lw, .ref st, .ref fo, .ref dr, .int m22, .ref ik, .int m24, .int m25, .long m26, .int m27, .int m28, .ref ro, .int m30, .ref ct, .ref se, .ref th, .ref cn, .ref be, .int m36, .ref du, .int m38, .ref db, .int m40, .int m41, .int m42, .ref pn, .ref wg, .ref wh, .ref tn, .ref he, .int m48, .ref tr, .ref fd, .ref po, .int m52, .int m53]) := ha_0
              have hC_ : (0 ≤ a2_295.toInt ∧ a2_295.toInt ≤ m6.toInt) ∧ m7.toInt ≤ a2_295.toInt ∧ (m12.toInt ≠ 0 ∨ m12.toInt = 0) ∧ (m12.toInt ≠ 0 ∨ k2_296.toInt ≠ 3 ∨ m7.toInt < a2_295.toInt) := by refine ⟨⟨?_, ?_⟩, ?_, ?_, ?_⟩ <;> omega
              clear hp
              replace hC := hC_
              clear hC_
              refine lv_aload_n hx hb dX10_line_97 rfl (lv_at hl 3 rfl) ?_
              refine z_callvV (cells := 0) (slots := 0) (b := mm) (As := []) (rest := []) (ci := 10) (q0 := (RX10, TX10, 54)) ⟨hx, hb, hml, hown, hT⟩ (c_X10_driveLine l hm_mm hm_ta hm_ha hm_dr hf_mm hf_ta hf_ha hf_dr hq_ha hq_dr (by first | omega | decide | assumption) (by first | omega | decide | assumption) (by omega)) (cwV 0 hT (z_goodV (fun _ h => h) kw_1438 kw_1440 kw_45 kw_96 kw_1441) rfl rfl rfl (by decide +kernel) ⟨by decide, by decide⟩) z_mv hKK hK hw hA hm_mm hf_mm rfl rfl rfl hl.1 rfl (Nat.le_of_ble_eq_true rfl) dX10_line_98 ⟨by decide, by decide⟩ (fun u H locs hp hw => ?_)
              obtain ⟨L300, f301⟩ := u
              obtain ⟨hsb, hfm, a2_302, k2_303, p2_304, v2_305, b2_306, q2_307, w2_308, nha_309, ndr_310, ha_0, ha_1, ha_2, hq_ha, hq_dr, hp⟩ := hp
              have hsb : L = L300 := hsb
              subst hsb
              have hsb : ∀ b ∈ L, b ∈ L := fun _ h => h
              have hw : z_H D vwCl (z_A L sz) s.heap L f301 H locs := hw
              have hfr : ∀ b ∈ L, b ≠ mm → b ≠ ha → b ≠ lw → b ≠ st → b ≠ fo → b ≠ dr → f301 b = f b := fun b hb h0 h1 h2 h3 h4 h5 => (hfm b hb h0 h1 h5).trans (hfr b hb h0 h1 h2 h3 h4 h5)
              have hf_ta : f301 ta = .inl (cy 0, 1600, .inl gta) := (hfm ta hm_ta (z_tne hf_ta hf_mm (m := 12900) (n := 10) rfl rfl (by decide)) (z_tne hf_ta hf_ha (m := 12900) (n := 340) rfl rfl (by decide)) (z_tne hf_ta hf_dr (m := 12900) (n := 4260) rfl rfl (by decide))).trans hf_ta
              have hf_lw : f301 lw = .inl (cy 1, 25, .inl glw) := (hfm lw hm_lw (z_tne hf_lw hf_mm (m := 300) (n := 10) rfl rfl (by decide)) (z_tne hf_lw hf_ha (m := 300) (n := 340) rfl rfl (by decide)) (z_tne hf_lw hf_dr (m := 300) (n := 4260) rfl rfl (by decide))).trans hf_lw
              have hf_st : f301 st = .inl (cy 1, 20, .inl gst) := (hfm st hm_st (z_tne hf_st hf_mm (m := 260) (n := 10) rfl rfl (by decide)) (z_tne hf_st hf_ha (m := 260) (n := 340) rfl rfl (by decide)) (z_tne hf_st hf_dr (m := 260) (n := 4260) rfl rfl (by decide))).trans hf_st
              have hf_fo : f301 fo = .inl (cy 1, 180, .inl gfo) := (hfm fo hm_fo (z_tne hf_fo hf_mm (m := 1540) (n := 10) rfl rfl (by decide)) (z_tne hf_fo hf_ha (m := 1540) (n := 340) rfl rfl (by decide)) (z_tne hf_fo hf_dr (m := 1540) (n := 4260) rfl rfl (by decide))).trans hf_fo
              have hf_mm : f301 mm = .inr (10, [.int m0, .ref wd, .ref my, .ref ce, .ref mv, .ref ta, .int m6, .int a2_302, .int k2_303, .int p2_304, .int v2_305, .long w2_308, .int b2_306, .int q2_307, .int m14, .int m15, .ref li, .ref ha, .ref lw, .ref st, .ref fo, .ref dr, .int m22, .ref ik, .int m24, .int m25, .long m26, .int m27, .int m28, .ref ro, .int m30, .ref ct, .ref se, .ref th, .ref cn, .ref be, .int m36, .ref du, .int m38, .ref db, .int m40, .int m41, .int m42, .ref pn, .ref wg, .ref wh, .ref tn, .ref he, .int m48, .ref tr, .ref fd, .ref po, .int m52, .int m53]) := ha_0
              have hf_ha : f301 ha = .inl (cy 1, 30, .inl nha_309) := ha_1
              have hf_dr : f301 dr = .inl (cy 1, 520, .inl ndr_310) := ha_2
              have hC_ : (0 ≤ a2_302.toInt ∧ a2_302.toInt ≤ m6.toInt) ∧ m7.toInt ≤ a2_302.toInt ∧ (b2_306.toInt ≠ 0 ∨ m12.toInt = 0) ∧ (b2_306.toInt ≠ 0 ∨ k2_303.toInt ≠ 3 ∨ m7.toInt < a2_302.toInt) := by refine ⟨⟨?_, ?_⟩, ?_, ?_, ?_⟩ <;> omega
              clear hp
              replace hC := hC_
              clear hC_
              refine lv_goto (tgt := 335) hx hb dX10_line_101 (by decide) ?_
              exact z_vret hx hb hr hlk (by decide) (by decide) hw (⟨hsub, hfr, a2_302, k2_303, p2_304, v2_305, b2_306, q2_307, m22, w2_308, nha_309, glw, gst, gfo, ndr_310, hf_mm, hf_ha, hf_lw, hf_st, hf_fo, hf_dr, hq_ha, hq_lw, hq_st, hq_dr, by omega, by omega, by omega, by omega, rfl⟩) dX10_line_335
            · skip
              exact z_vret hx hb hr hlk (by decide) (by decide) hw (⟨hsub, hfr, m7, m8, m9, m10, m12, m13, m22, m11, gha, glw, gst, gfo, gdr, hf_mm, hf_ha, hf_lw, hf_st, hf_fo, hf_dr, hq_ha, hq_lw, hq_st, hq_dr, by omega, by omega, by omega, by omega, rfl⟩) dX10_line_88
          · skip
            refine lv_aload_n hx hb dX10_line_76 rfl (lv_at hl 3 rfl) ?_
            refine lv_iconst (v := 3) hx hb dX10_line_77 (by decide) ?_
            have hz311 := (show (3 : Int32).toInt = 3 by decide)
            refine z_callvV (cells := 0) (slots := 0) (b := mm) (As := [.int 3]) (rest := []) (ci := 10) (q0 := (RX10, TX10, 54)) ⟨hx, hb, hml, hown, hT⟩ (c_X10_fails l hm_mm hf_mm (by first | omega | decide | assumption)) (cwV 1 hT (z_goodV (fun _ h => h) kw_1411 kw_1413 kw_40 kw_96 kw_1414) rfl rfl rfl (by decide +kernel) ⟨by decide, by decide⟩) z_mv hKK hK hw hA hm_mm hf_mm rfl rfl rfl hl.1 rfl (Nat.le_of_ble_eq_true rfl) dX10_line_78 ⟨by decide, by decide⟩ (fun u H locs hp hw => ?_)
            obtain ⟨L312, f313⟩ := u
            obtain ⟨hsb, hfm, b2_314, p2_315, ha_0, hp⟩ := hp
            have hsb : L = L312 := hsb
            subst hsb
            have hsb : ∀ b ∈ L, b ∈ L := fun _ h => h
            have hw : z_H D vwCl (z_A L sz) s.heap L f313 H locs := hw
            have hfr : ∀ b ∈ L, b ≠ mm → b ≠ ha → b ≠ lw → b ≠ st → b ≠ fo → b ≠ dr → f313 b = f b := fun b hb h0 h1 h2 h3 h4 h5 => (hfm b hb h0).trans (hfr b hb h0 h1 h2 h3 h4 h5)
            have hf_ta : f313 ta = .inl (cy 0, 1600, .inl gta) := (hfm ta hm_ta (z_tne hf_ta hf_mm (m := 12900) (n := 10) rfl rfl (by decide))).trans hf_ta
            have hf_ha : f313 ha = .inl (cy 1, 30, .inl gha) := (hfm ha hm_ha (z_tne hf_ha hf_mm (m := 340) (n := 10) rfl rfl (by decide))).trans hf_ha
            have hf_lw : f313 lw = .inl (cy 1, 25, .inl glw) := (hfm lw hm_lw (z_tne hf_lw hf_mm (m := 300) (n := 10) rfl rfl (by decide))).trans hf_lw
            have hf_st : f313 st = .inl (cy 1, 20, .inl gst) := (hfm st hm_st (z_tne hf_st hf_mm (m := 260) (n := 10) rfl rfl (by decide))).trans hf_st
            have hf_fo : f313 fo = .inl (cy 1, 180, .inl gfo) := (hfm fo hm_fo (z_tne hf_fo hf_mm (m := 1540) (n := 10) rfl rfl (by decide))).trans hf_fo
            have hf_dr : f313 dr = .inl (cy 1, 520, .inl gdr) := (hfm dr hm_dr (z_tne hf_dr hf_mm (m := 4260) (n := 10) rfl rfl (by decide))).trans hf_dr
            have hf_mm : f313 mm = .inr (10, [.int m0, .ref wd, .ref my, .ref ce, .ref mv, .ref ta, .int m6, .int m7, .int m8, .int m9, .int m10, .long m11, .int b2_314, .int p2_315, .int m14, .int m15, .ref li, .ref ha, .ref lw, .ref st, .ref fo, .ref dr, .int m22, .ref ik, .int m24, .int m25, .long m26, .int m27, .int m28, .ref ro, .int m30, .ref ct, .ref se, .ref th, .ref cn, .ref be, .int m36, .ref du, .int m38, .ref db, .int m40, .int m41, .int m42, .ref pn, .ref wg, .ref wh, .ref tn, .ref he, .int m48, .ref tr, .ref fd, .ref po, .int m52, .int m53]) := ha_0
            have hq316 := hp
            refine lv_aload_n hx hb dX10_line_81 rfl (lv_at hl 3 rfl) ?_
            refine z_get (C := RX10) (T := TX10) (N := 54) (ci := 10) (v := .int b2_314) hx hb hT zin_X10 hown hK hw hm_mm hf_mm rfl 12 (by decide) (hT _ kw_1180) rfl dX10_line_82 ?_
            refine z_if_eq (tgt := 89) hx hb rfl dX10_line_85 (by decide) (fun c317 => ?_) (fun c317 => ?_)
            · skip
              refine lv_iload_n hx hb dX10_line_89 rfl (lv_at hl 2 rfl) ?_
              refine z_if_eq (tgt := 104) hx hb (show (1 : Int32).toInt = 1 by decide) dX10_line_90 (by decide) (fun h => absurd h (by decide)) (fun _ => ?_)
              refine lv_aload_n hx hb dX10_line_93 rfl (lv_at hl 3 rfl) ?_
              refine z_callvV (cells := 0) (slots := 0) (b := mm) (As := []) (rest := []) (ci := 10) (q0 := (RX10, TX10, 54)) ⟨hx, hb, hml, hown, hT⟩ (c_X10_next l hm_mm hm_ta hf_mm hf_ta (by first | omega | decide | assumption) (by first | omega | decide | assumption)) (cwV 0 hT (z_goodV (fun _ h => h) kw_1381 kw_1383 kw_34 kw_96 kw_1384) rfl rfl rfl (by decide +kernel) ⟨by decide, by decide⟩) z_mv hKK hK hw hA hm_mm hf_mm rfl rfl rfl hl.1 rfl (Nat.le_of_ble_eq_true rfl) dX10_line_94 ⟨by decide, by decide⟩ (fun u H locs hp hw => ?_)
              obtain ⟨L318, f319⟩ := u
              obtain ⟨hsb, hfm, a2_320, k2_321, p2_322, v2_323, w2_324, ha_0, hp⟩ := hp
              have hsb : L = L318 := hsb
              subst hsb
              have hsb : ∀ b ∈ L, b ∈ L := fun _ h => h
              have hw : z_H D vwCl (z_A L sz) s.heap L f319 H locs := hw
              have hfr : ∀ b ∈ L, b ≠ mm → b ≠ ha → b ≠ lw → b ≠ st → b ≠ fo → b ≠ dr → f319 b = f b := fun b hb h0 h1 h2 h3 h4 h5 => (hfm b hb h0).trans (hfr b hb h0 h1 h2 h3 h4 h5)
              have hf_ta : f319 ta = .inl (cy 0, 1600, .inl gta) := (hfm ta hm_ta (z_tne hf_ta hf_mm (m := 12900) (n := 10) rfl rfl (by decide))).trans hf_ta
              have hf_ha : f319 ha = .inl (cy 1, 30, .inl gha) := (hfm ha hm_ha (z_tne hf_ha hf_mm (m := 340) (n := 10) rfl rfl (by decide))).trans hf_ha
              have hf_lw : f319 lw = .inl (cy 1, 25, .inl glw) := (hfm lw hm_lw (z_tne hf_lw hf_mm (m := 300) (n := 10) rfl rfl (by decide))).trans hf_lw
              have hf_st : f319 st = .inl (cy 1, 20, .inl gst) := (hfm st hm_st (z_tne hf_st hf_mm (m := 260) (n := 10) rfl rfl (by decide))).trans hf_st
              have hf_fo : f319 fo = .inl (cy 1, 180, .inl gfo) := (hfm fo hm_fo (z_tne hf_fo hf_mm (m := 1540) (n := 10) rfl rfl (by decide))).trans hf_fo
              have hf_dr : f319 dr = .inl (cy 1, 520, .inl gdr) := (hfm dr hm_dr (z_tne hf_dr hf_mm (m := 4260) (n := 10) rfl rfl (by decide))).trans hf_dr
              have hf_mm : f319 mm = .inr (10, [.int m0, .ref wd, .ref my, .ref ce, .ref mv, .ref ta, .int m6, .int a2_320, .int k2_321, .int p2_322, .int v2_323, .long w2_324, .int b2_314, .int p2_315, .int m14, .int m15, .ref li, .ref ha, .ref lw, .ref st, .ref fo, .ref dr, .int m22, .ref ik, .int m24, .int m25, .long m26, .int m27, .int m28, .ref ro, .int m30, .ref ct, .ref se, .ref th, .ref cn, .ref be, .int m36, .ref du, .int m38, .ref db, .int m40, .int m41, .int m42, .ref pn, .ref wg, .ref wh, .ref tn, .ref he, .int m48, .ref tr, .ref fd, .ref po, .int m52, .int m53]) := ha_0
              have hC_ : (0 ≤ a2_320.toInt ∧ a2_320.toInt ≤ m6.toInt) ∧ m7.toInt ≤ a2_320.toInt ∧ (b2_314.toInt ≠ 0 ∨ m12.toInt = 0) ∧ (b2_314.toInt ≠ 0 ∨ k2_321.toInt ≠ 3 ∨ m7.toInt < a2_320.toInt) := by refine ⟨⟨?_, ?_⟩, ?_, ?_, ?_⟩ <;> omega
              clear hp
              replace hC := hC_
              clear hC_
              refine lv_aload_n hx hb dX10_line_97 rfl (lv_at hl 3 rfl) ?_
              refine z_callvV (cells := 0) (slots := 0) (b := mm) (As := []) (rest := []) (ci := 10) (q0 := (RX10, TX10, 54)) ⟨hx, hb, hml, hown, hT⟩ (c_X10_driveLine l hm_mm hm_ta hm_ha hm_dr hf_mm hf_ta hf_ha hf_dr hq_ha hq_dr (by first | omega | decide | assumption) (by first | omega | decide | assumption) (by omega)) (cwV 0 hT (z_goodV (fun _ h => h) kw_1438 kw_1440 kw_45 kw_96 kw_1441) rfl rfl rfl (by decide +kernel) ⟨by decide, by decide⟩) z_mv hKK hK hw hA hm_mm hf_mm rfl rfl rfl hl.1 rfl (Nat.le_of_ble_eq_true rfl) dX10_line_98 ⟨by decide, by decide⟩ (fun u H locs hp hw => ?_)
              obtain ⟨L325, f326⟩ := u
              obtain ⟨hsb, hfm, a2_327, k2_328, p2_329, v2_330, b2_331, q2_332, w2_333, nha_334, ndr_335, ha_0, ha_1, ha_2, hq_ha, hq_dr, hp⟩ := hp
              have hsb : L = L325 := hsb
              subst hsb
              have hsb : ∀ b ∈ L, b ∈ L := fun _ h => h
              have hw : z_H D vwCl (z_A L sz) s.heap L f326 H locs := hw
              have hfr : ∀ b ∈ L, b ≠ mm → b ≠ ha → b ≠ lw → b ≠ st → b ≠ fo → b ≠ dr → f326 b = f b := fun b hb h0 h1 h2 h3 h4 h5 => (hfm b hb h0 h1 h5).trans (hfr b hb h0 h1 h2 h3 h4 h5)
              have hf_ta : f326 ta = .inl (cy 0, 1600, .inl gta) := (hfm ta hm_ta (z_tne hf_ta hf_mm (m := 12900) (n := 10) rfl rfl (by decide)) (z_tne hf_ta hf_ha (m := 12900) (n := 340) rfl rfl (by decide)) (z_tne hf_ta hf_dr (m := 12900) (n := 4260) rfl rfl (by decide))).trans hf_ta
              have hf_lw : f326 lw = .inl (cy 1, 25, .inl glw) := (hfm lw hm_lw (z_tne hf_lw hf_mm (m := 300) (n := 10) rfl rfl (by decide)) (z_tne hf_lw hf_ha (m := 300) (n := 340) rfl rfl (by decide)) (z_tne hf_lw hf_dr (m := 300) (n := 4260) rfl rfl (by decide))).trans hf_lw
              have hf_st : f326 st = .inl (cy 1, 20, .inl gst) := (hfm st hm_st (z_tne hf_st hf_mm (m := 260) (n := 10) rfl rfl (by decide)) (z_tne hf_st hf_ha (m := 260) (n := 340) rfl rfl (by decide)) (z_tne hf_st hf_dr (m := 260) (n := 4260) rfl rfl (by decide))).trans hf_st
              have hf_fo : f326 fo = .inl (cy 1, 180, .inl gfo) := (hfm fo hm_fo (z_tne hf_fo hf_mm (m := 1540) (n := 10) rfl rfl (by decide)) (z_tne hf_fo hf_ha (m := 1540) (n := 340) rfl rfl (by decide)) (z_tne hf_fo hf_dr (m := 1540) (n := 4260) rfl rfl (by decide))).trans hf_fo
              have hf_mm : f326 mm = .inr (10, [.int m0, .ref wd, .ref my, .ref ce, .ref mv, .ref ta, .int m6, .int a2_327, .int k2_328, .int p2_329, .int v2_330, .long w2_333, .int b2_331, .int q2_332, .int m14, .int m15, .ref li, .ref ha, .ref lw, .ref st, .ref fo, .ref dr, .int m22, .ref ik, .int m24, .int m25, .long m26, .int m27, .int m28, .ref ro, .int m30, .ref ct, .ref se, .ref th, .ref cn, .ref be, .int m36, .ref du, .int m38, .ref db, .int m40, .int m41, .int m42, .ref pn, .ref wg, .ref wh, .ref tn, .ref he, .int m48, .ref tr, .ref fd, .ref po, .int m52, .int m53]) := ha_0
              have hf_ha : f326 ha = .inl (cy 1, 30, .inl nha_334) := ha_1
              have hf_dr : f326 dr = .inl (cy 1, 520, .inl ndr_335) := ha_2
              have hC_ : (0 ≤ a2_327.toInt ∧ a2_327.toInt ≤ m6.toInt) ∧ m7.toInt ≤ a2_327.toInt ∧ (b2_331.toInt ≠ 0 ∨ m12.toInt = 0) ∧ (b2_331.toInt ≠ 0 ∨ k2_328.toInt ≠ 3 ∨ m7.toInt < a2_327.toInt) := by refine ⟨⟨?_, ?_⟩, ?_, ?_, ?_⟩ <;> omega
              clear hp
              replace hC := hC_
              clear hC_
              refine lv_goto (tgt := 335) hx hb dX10_line_101 (by decide) ?_
              exact z_vret hx hb hr hlk (by decide) (by decide) hw (⟨hsub, hfr, a2_327, k2_328, p2_329, v2_330, b2_331, q2_332, m22, w2_333, nha_334, glw, gst, gfo, ndr_335, hf_mm, hf_ha, hf_lw, hf_st, hf_fo, hf_dr, hq_ha, hq_lw, hq_st, hq_dr, by omega, by omega, by omega, by omega, rfl⟩) dX10_line_335
            · skip
              exact z_vret hx hb hr hlk (by decide) (by decide) hw (⟨hsub, hfr, m7, m8, m9, m10, b2_314, p2_315, m22, m11, gha, glw, gst, gfo, gdr, hf_mm, hf_ha, hf_lw, hf_st, hf_fo, hf_dr, hq_ha, hq_lw, hq_st, hq_dr, by omega, by omega, by omega, by omega, rfl⟩) dX10_line_88
    · skip
      refine lv_istore_n (lv' := [(2, .int 0), (1, .int 1), (0, .ref mm)]) hx hb dX10_line_15 rfl hl (by decide) rfl (fun ls hl => ?_)
      refine lv_aload_n hx hb dX10_line_16 rfl (lv_at hl 2 rfl) ?_
      refine lv_ldc2 (v := 227736460) hx hb hown (hT _ kw_1433) dX10_line_17 ?_
      have hz336 := (show (227736460 : Int64).toInt = 227736460 by decide)
      refine z_calliV (cells := 0) (slots := 0) (b := mm) (As := [.long 227736460]) (rest := []) (ci := 10) (q0 := (RX10, TX10, 54)) ⟨hx, hb, hml, hown, hT⟩ (c_X10_is l hm_mm hf_mm) (cwV 1 hT (z_goodV (fun _ h => h) kw_1407 kw_1409 kw_39 kw_96 kw_1410) rfl rfl rfl (by decide +kernel) ⟨by decide, by decide⟩) z_mv hKK hK hw hA hm_mm hf_mm rfl rfl rfl hl.1 rfl (Nat.le_of_ble_eq_true rfl) dX10_line_20 ⟨by decide, by decide⟩ (fun r337 u H locs hp hw => ?_)
      obtain ⟨rfl, hp⟩ := hp
      have hw : z_H D vwCl (z_A L sz) s.heap L f H locs := hw
      rcases hp with ⟨rfl, h338⟩ | ⟨rfl, h338⟩
      · skip
        refine lv_istore_n (lv' := [(3, .int 1), (2, .int 0), (1, .int 1), (0, .ref mm)]) hx hb dX10_line_23 rfl hl (by decide) rfl (fun ls hl => ?_)
        refine lv_iload_n hx hb dX10_line_24 rfl (lv_at hl 0 rfl) ?_
        refine z_if_eq (tgt := 48) hx hb (show (1 : Int32).toInt = 1 by decide) dX10_line_25 (by decide) (fun h => absurd h (by decide)) (fun _ => ?_)
        refine lv_aload_n hx hb dX10_line_28 rfl (lv_at hl 3 rfl) ?_
        refine z_get (C := RX10) (T := TX10) (N := 54) (ci := 10) (v := .int m22) hx hb hT zin_X10 hown hK hw hm_mm hf_mm rfl 22 (by decide) (hT _ kw_1190) rfl dX10_line_29 ?_
        refine z_if_ne (tgt := 43) hx hb rfl dX10_line_32 (by decide) (fun c339 => ?_) (fun c339 => ?_)
        · skip
          refine lv_aload_n hx hb dX10_line_43 rfl (lv_at hl 3 rfl) ?_
          refine lv_iconst (v := 2) hx hb dX10_line_44 (by decide) ?_
          have hz340 := (show (2 : Int32).toInt = 2 by decide)
          refine z_callvV (cells := 0) (slots := 0) (b := mm) (As := [.int 2]) (rest := []) (ci := 10) (q0 := (RX10, TX10, 54)) ⟨hx, hb, hml, hown, hT⟩ (c_X10_fails l hm_mm hf_mm (by first | omega | decide | assumption)) (cwV 1 hT (z_goodV (fun _ h => h) kw_1411 kw_1413 kw_40 kw_96 kw_1414) rfl rfl rfl (by decide +kernel) ⟨by decide, by decide⟩) z_mv hKK hK hw hA hm_mm hf_mm rfl rfl rfl hl.1 rfl (Nat.le_of_ble_eq_true rfl) dX10_line_45 ⟨by decide, by decide⟩ (fun u H locs hp hw => ?_)
          obtain ⟨L341, f342⟩ := u
          obtain ⟨hsb, hfm, b2_343, p2_344, ha_0, hp⟩ := hp
          have hsb : L = L341 := hsb
          subst hsb
          have hsb : ∀ b ∈ L, b ∈ L := fun _ h => h
          have hw : z_H D vwCl (z_A L sz) s.heap L f342 H locs := hw
          have hfr : ∀ b ∈ L, b ≠ mm → b ≠ ha → b ≠ lw → b ≠ st → b ≠ fo → b ≠ dr → f342 b = f b := fun b hb h0 h1 h2 h3 h4 h5 => (hfm b hb h0).trans (hfr b hb h0 h1 h2 h3 h4 h5)
          have hf_ta : f342 ta = .inl (cy 0, 1600, .inl gta) := (hfm ta hm_ta (z_tne hf_ta hf_mm (m := 12900) (n := 10) rfl rfl (by decide))).trans hf_ta
          have hf_ha : f342 ha = .inl (cy 1, 30, .inl gha) := (hfm ha hm_ha (z_tne hf_ha hf_mm (m := 340) (n := 10) rfl rfl (by decide))).trans hf_ha
          have hf_lw : f342 lw = .inl (cy 1, 25, .inl glw) := (hfm lw hm_lw (z_tne hf_lw hf_mm (m := 300) (n := 10) rfl rfl (by decide))).trans hf_lw
          have hf_st : f342 st = .inl (cy 1, 20, .inl gst) := (hfm st hm_st (z_tne hf_st hf_mm (m := 260) (n := 10) rfl rfl (by decide))).trans hf_st
          have hf_fo : f342 fo = .inl (cy 1, 180, .inl gfo) := (hfm fo hm_fo (z_tne hf_fo hf_mm (m := 1540) (n := 10) rfl rfl (by decide))).trans hf_fo
          have hf_dr : f342 dr = .inl (cy 1, 520, .inl gdr) := (hfm dr hm_dr (z_tne hf_dr hf_mm (m := 4260) (n := 10) rfl rfl (by decide))).trans hf_dr
          have hf_mm : f342 mm = .inr (10, [.int m0, .ref wd, .ref my, .ref ce, .ref mv, .ref ta, .int m6, .int m7, .int m8, .int m9, .int m10, .long m11, .int b2_343, .int p2_344, .int m14, .int m15, .ref li, .ref ha, .ref lw, .ref st, .ref fo, .ref dr, .int m22, .ref ik, .int m24, .int m25, .long m26, .int m27, .int m28, .ref ro, .int m30, .ref ct, .ref se, .ref th, .ref cn, .ref be, .int m36, .ref du, .int m38, .ref db, .int m40, .int m41, .int m42, .ref pn, .ref wg, .ref wh, .ref tn, .ref he, .int m48, .ref tr, .ref fd, .ref po, .int m52, .int m53]) := ha_0
          have hq345 := hp
          refine lv_iload_n hx hb dX10_line_48 rfl (lv_at hl 2 rfl) ?_
          refine z_if_eq (tgt := 62) hx hb (show (1 : Int32).toInt = 1 by decide) dX10_line_49 (by decide) (fun h => absurd h (by decide)) (fun _ => ?_)
          refine lv_aload_n hx hb dX10_line_52 rfl (lv_at hl 3 rfl) ?_
          refine lv_iconst (v := 3) hx hb dX10_line_53 (by decide) ?_
          have hz346 := (show (3 : Int32).toInt = 3 by decide)
          refine z_calliV (cells := 0) (slots := 0) (b := mm) (As := [.int 3]) (rest := []) (ci := 10) (q0 := (RX10, TX10, 54)) ⟨hx, hb, hml, hown, hT⟩ (c_X10_hasRead l hm_mm hm_ha hf_mm hf_ha hq_ha (by decide)) (cwV 1 hT (z_goodV (fun _ h => h) kw_1434 kw_1436 kw_44 kw_96 kw_1437) rfl rfl rfl (by decide +kernel) ⟨by decide, by decide⟩) z_mv hKK hK hw hA hm_mm hf_mm rfl rfl rfl hl.1 rfl (Nat.le_of_ble_eq_true rfl) dX10_line_54 ⟨by decide, by decide⟩ (fun r347 u H locs hp hw => ?_)
          obtain ⟨rfl, hp⟩ := hp
          have hw : z_H D vwCl (z_A L sz) s.heap L f342 H locs := hw
          have h3e348 : (gha 27).toInt = r347.toInt := by rw [hp]; rfl
          have hh349 : 0 ≤ r347.toInt ∧ r347.toInt ≤ 12 := by rw [hp]; exact (hq_ha 27).1.2.2.2 rfl
          refine lv_bipush (v := 12) hx hb dX10_line_57 (by decide) ?_
          refine z_icmp_eq (tgt := 76) hx hb rfl (show (12 : Int32).toInt = 12 by decide) dX10_line_59 (by decide) (fun c350 => ?_) (fun c350 => ?_)
          · skip
            refine lv_aload_n hx hb dX10_line_76 rfl (lv_at hl 3 rfl) ?_
            refine lv_iconst (v := 3) hx hb dX10_line_77 (by decide) ?_
            have hz351 := (show (3 : Int32).toInt = 3 by decide)
            refine z_callvV (cells := 0) (slots := 0) (b := mm) (As := [.int 3]) (rest := []) (ci := 10) (q0 := (RX10, TX10, 54)) ⟨hx, hb, hml, hown, hT⟩ (c_X10_fails l hm_mm hf_mm (by first | omega | decide | assumption)) (cwV 1 hT (z_goodV (fun _ h => h) kw_1411 kw_1413 kw_40 kw_96 kw_1414) rfl rfl rfl (by decide +kernel) ⟨by decide, by decide⟩) z_mv hKK hK hw hA hm_mm hf_mm rfl rfl rfl hl.1 rfl (Nat.le_of_ble_eq_true rfl) dX10_line_78 ⟨by decide, by decide⟩ (fun u H locs hp hw => ?_)
            obtain ⟨L352, f353⟩ := u
            obtain ⟨hsb, hfm, b2_354, p2_355, ha_0, hp⟩ := hp
            have hsb : L = L352 := hsb
            subst hsb
            have hsb : ∀ b ∈ L, b ∈ L := fun _ h => h
            have hw : z_H D vwCl (z_A L sz) s.heap L f353 H locs := hw
            have hfr : ∀ b ∈ L, b ≠ mm → b ≠ ha → b ≠ lw → b ≠ st → b ≠ fo → b ≠ dr → f353 b = f b := fun b hb h0 h1 h2 h3 h4 h5 => (hfm b hb h0).trans (hfr b hb h0 h1 h2 h3 h4 h5)
            have hf_ta : f353 ta = .inl (cy 0, 1600, .inl gta) := (hfm ta hm_ta (z_tne hf_ta hf_mm (m := 12900) (n := 10) rfl rfl (by decide))).trans hf_ta
            have hf_ha : f353 ha = .inl (cy 1, 30, .inl gha) := (hfm ha hm_ha (z_tne hf_ha hf_mm (m := 340) (n := 10) rfl rfl (by decide))).trans hf_ha
            have hf_lw : f353 lw = .inl (cy 1, 25, .inl glw) := (hfm lw hm_lw (z_tne hf_lw hf_mm (m := 300) (n := 10) rfl rfl (by decide))).trans hf_lw
            have hf_st : f353 st = .inl (cy 1, 20, .inl gst) := (hfm st hm_st (z_tne hf_st hf_mm (m := 260) (n := 10) rfl rfl (by decide))).trans hf_st
            have hf_fo : f353 fo = .inl (cy 1, 180, .inl gfo) := (hfm fo hm_fo (z_tne hf_fo hf_mm (m := 1540) (n := 10) rfl rfl (by decide))).trans hf_fo
            have hf_dr : f353 dr = .inl (cy 1, 520, .inl gdr) := (hfm dr hm_dr (z_tne hf_dr hf_mm (m := 4260) (n := 10) rfl rfl (by decide))).trans hf_dr
            have hf_mm : f353 mm = .inr (10, [.int m0, .ref wd, .ref my, .ref ce, .ref mv, .ref ta, .int m6, .int m7, .int m8, .int m9, .int m10, .long m11, .int b2_354, .int p2_355, .int m14, .int m15, .ref li, .ref ha, .ref lw, .ref st, .ref fo, .ref dr, .int m22, .ref ik, .int m24, .int m25, .long m26, .int m27, .int m28, .ref ro, .int m30, .ref ct, .ref se, .ref th, .ref cn, .ref be, .int m36, .ref du, .int m38, .ref db, .int m40, .int m41, .int m42, .ref pn, .ref wg, .ref wh, .ref tn, .ref he, .int m48, .ref tr, .ref fd, .ref po, .int m52, .int m53]) := ha_0
            have hq356 := hp
            refine lv_aload_n hx hb dX10_line_81 rfl (lv_at hl 3 rfl) ?_
            refine z_get (C := RX10) (T := TX10) (N := 54) (ci := 10) (v := .int b2_354) hx hb hT zin_X10 hown hK hw hm_mm hf_mm rfl 12 (by decide) (hT _ kw_1180) rfl dX10_line_82 ?_
            refine z_if_eq (tgt := 89) hx hb rfl dX10_line_85 (by decide) (fun c357 => ?_) (fun c357 => ?_)
            · skip
              refine lv_iload_n hx hb dX10_line_89 rfl (lv_at hl 2 rfl) ?_
              refine z_if_eq (tgt := 104) hx hb (show (1 : Int32).toInt = 1 by decide) dX10_line_90 (by decide) (fun h => absurd h (by decide)) (fun _ => ?_)
              refine lv_aload_n hx hb dX10_line_93 rfl (lv_at hl 3 rfl) ?_
              refine z_callvV (cells := 0) (slots := 0) (b := mm) (As := []) (rest := []) (ci := 10) (q0 := (RX10, TX10, 54)) ⟨hx, hb, hml, hown, hT⟩ (c_X10_next l hm_mm hm_ta hf_mm hf_ta (by first | omega | decide | assumption) (by first | omega | decide | assumption)) (cwV 0 hT (z_goodV (fun _ h => h) kw_1381 kw_1383 kw_34 kw_96 kw_1384) rfl rfl rfl (by decide +kernel) ⟨by decide, by decide⟩) z_mv hKK hK hw hA hm_mm hf_mm rfl rfl rfl hl.1 rfl (Nat.le_of_ble_eq_true rfl) dX10_line_94 ⟨by decide, by decide⟩ (fun u H locs hp hw => ?_)
              obtain ⟨L358, f359⟩ := u
              obtain ⟨hsb, hfm, a2_360, k2_361, p2_362, v2_363, w2_364, ha_0, hp⟩ := hp
              have hsb : L = L358 := hsb
              subst hsb
              have hsb : ∀ b ∈ L, b ∈ L := fun _ h => h
              have hw : z_H D vwCl (z_A L sz) s.heap L f359 H locs := hw
              have hfr : ∀ b ∈ L, b ≠ mm → b ≠ ha → b ≠ lw → b ≠ st → b ≠ fo → b ≠ dr → f359 b = f b := fun b hb h0 h1 h2 h3 h4 h5 => (hfm b hb h0).trans (hfr b hb h0 h1 h2 h3 h4 h5)
              have hf_ta : f359 ta = .inl (cy 0, 1600, .inl gta) := (hfm ta hm_ta (z_tne hf_ta hf_mm (m := 12900) (n := 10) rfl rfl (by decide))).trans hf_ta
              have hf_ha : f359 ha = .inl (cy 1, 30, .inl gha) := (hfm ha hm_ha (z_tne hf_ha hf_mm (m := 340) (n := 10) rfl rfl (by decide))).trans hf_ha
              have hf_lw : f359 lw = .inl (cy 1, 25, .inl glw) := (hfm lw hm_lw (z_tne hf_lw hf_mm (m := 300) (n := 10) rfl rfl (by decide))).trans hf_lw
              have hf_st : f359 st = .inl (cy 1, 20, .inl gst) := (hfm st hm_st (z_tne hf_st hf_mm (m := 260) (n := 10) rfl rfl (by decide))).trans hf_st
              have hf_fo : f359 fo = .inl (cy 1, 180, .inl gfo) := (hfm fo hm_fo (z_tne hf_fo hf_mm (m := 1540) (n := 10) rfl rfl (by decide))).trans hf_fo
              have hf_dr : f359 dr = .inl (cy 1, 520, .inl gdr) := (hfm dr hm_dr (z_tne hf_dr hf_mm (m := 4260) (n := 10) rfl rfl (by decide))).trans hf_dr
              have hf_mm : f359 mm = .inr (10, [.int m0, .ref wd, .ref my, .ref ce, .ref mv, .ref ta, .int m6, .int a2_360, .int k2_361, .int p2_362, .int v2_363, .long w2_364, .int b2_354, .int p2_355, .int m14, .int m15, .ref li, .ref ha, .ref lw, .ref st, .ref fo, .ref dr, .int m22, .ref ik, .int m24, .int m25, .long m26, .int m27, .int m28, .ref ro, .int m30, .ref ct, .ref se, .ref th, .ref cn, .ref be, .int m36, .ref du, .int m38, .ref db, .int m40, .int m41, .int m42, .ref pn, .ref wg, .ref wh, .ref tn, .ref he, .int m48, .ref tr, .ref fd, .ref po, .int m52, .int m53]) := ha_0
              have hC_ : (0 ≤ a2_360.toInt ∧ a2_360.toInt ≤ m6.toInt) ∧ m7.toInt ≤ a2_360.toInt ∧ (b2_354.toInt ≠ 0 ∨ m12.toInt = 0) ∧ (b2_354.toInt ≠ 0 ∨ k2_361.toInt ≠ 3 ∨ m7.toInt < a2_360.toInt) := by refine ⟨⟨?_, ?_⟩, ?_, ?_, ?_⟩ <;> omega
              clear hp
              replace hC := hC_
              clear hC_
              refine lv_aload_n hx hb dX10_line_97 rfl (lv_at hl 3 rfl) ?_
              refine z_callvV (cells := 0) (slots := 0) (b := mm) (As := []) (rest := []) (ci := 10) (q0 := (RX10, TX10, 54)) ⟨hx, hb, hml, hown, hT⟩ (c_X10_driveLine l hm_mm hm_ta hm_ha hm_dr hf_mm hf_ta hf_ha hf_dr hq_ha hq_dr (by first | omega | decide | assumption) (by first | omega | decide | assumption) (by omega)) (cwV 0 hT (z_goodV (fun _ h => h) kw_1438 kw_1440 kw_45 kw_96 kw_1441) rfl rfl rfl (by decide +kernel) ⟨by decide, by decide⟩) z_mv hKK hK hw hA hm_mm hf_mm rfl rfl rfl hl.1 rfl (Nat.le_of_ble_eq_true rfl) dX10_line_98 ⟨by decide, by decide⟩ (fun u H locs hp hw => ?_)
              obtain ⟨L365, f366⟩ := u
              obtain ⟨hsb, hfm, a2_367, k2_368, p2_369, v2_370, b2_371, q2_372, w2_373, nha_374, ndr_375, ha_0, ha_1, ha_2, hq_ha, hq_dr, hp⟩ := hp
              have hsb : L = L365 := hsb
              subst hsb
              have hsb : ∀ b ∈ L, b ∈ L := fun _ h => h
              have hw : z_H D vwCl (z_A L sz) s.heap L f366 H locs := hw
              have hfr : ∀ b ∈ L, b ≠ mm → b ≠ ha → b ≠ lw → b ≠ st → b ≠ fo → b ≠ dr → f366 b = f b := fun b hb h0 h1 h2 h3 h4 h5 => (hfm b hb h0 h1 h5).trans (hfr b hb h0 h1 h2 h3 h4 h5)
              have hf_ta : f366 ta = .inl (cy 0, 1600, .inl gta) := (hfm ta hm_ta (z_tne hf_ta hf_mm (m := 12900) (n := 10) rfl rfl (by decide)) (z_tne hf_ta hf_ha (m := 12900) (n := 340) rfl rfl (by decide)) (z_tne hf_ta hf_dr (m := 12900) (n := 4260) rfl rfl (by decide))).trans hf_ta
              have hf_lw : f366 lw = .inl (cy 1, 25, .inl glw) := (hfm lw hm_lw (z_tne hf_lw hf_mm (m := 300) (n := 10) rfl rfl (by decide)) (z_tne hf_lw hf_ha (m := 300) (n := 340) rfl rfl (by decide)) (z_tne hf_lw hf_dr (m := 300) (n := 4260) rfl rfl (by decide))).trans hf_lw
              have hf_st : f366 st = .inl (cy 1, 20, .inl gst) := (hfm st hm_st (z_tne hf_st hf_mm (m := 260) (n := 10) rfl rfl (by decide)) (z_tne hf_st hf_ha (m := 260) (n := 340) rfl rfl (by decide)) (z_tne hf_st hf_dr (m := 260) (n := 4260) rfl rfl (by decide))).trans hf_st
              have hf_fo : f366 fo = .inl (cy 1, 180, .inl gfo) := (hfm fo hm_fo (z_tne hf_fo hf_mm (m := 1540) (n := 10) rfl rfl (by decide)) (z_tne hf_fo hf_ha (m := 1540) (n := 340) rfl rfl (by decide)) (z_tne hf_fo hf_dr (m := 1540) (n := 4260) rfl rfl (by decide))).trans hf_fo
              have hf_mm : f366 mm = .inr (10, [.int m0, .ref wd, .ref my, .ref ce, .ref mv, .ref ta, .int m6, .int a2_367, .int k2_368, .int p2_369, .int v2_370, .long w2_373, .int b2_371, .int q2_372, .int m14, .int m15, .ref li, .ref ha, .ref lw, .ref st, .ref fo, .ref dr, .int m22, .ref ik, .int m24, .int m25, .long m26, .int m27, .int m28, .ref ro, .int m30, .ref ct, .ref se, .ref th, .ref cn, .ref be, .int m36, .ref du, .int m38, .ref db, .int m40, .int m41, .int m42, .ref pn, .ref wg, .ref wh, .ref tn, .ref he, .int m48, .ref tr, .ref fd, .ref po, .int m52, .int m53]) := ha_0
              have hf_ha : f366 ha = .inl (cy 1, 30, .inl nha_374) := ha_1
              have hf_dr : f366 dr = .inl (cy 1, 520, .inl ndr_375) := ha_2
              have hC_ : (0 ≤ a2_367.toInt ∧ a2_367.toInt ≤ m6.toInt) ∧ m7.toInt ≤ a2_367.toInt ∧ (b2_371.toInt ≠ 0 ∨ m12.toInt = 0) ∧ (b2_371.toInt ≠ 0 ∨ k2_368.toInt ≠ 3 ∨ m7.toInt < a2_367.toInt) := by refine ⟨⟨?_, ?_⟩, ?_, ?_, ?_⟩ <;> omega
              clear hp
              replace hC := hC_
              clear hC_
              refine lv_goto (tgt := 335) hx hb dX10_line_101 (by decide) ?_
              exact z_vret hx hb hr hlk (by decide) (by decide) hw (⟨hsub, hfr, a2_367, k2_368, p2_369, v2_370, b2_371, q2_372, m22, w2_373, nha_374, glw, gst, gfo, ndr_375, hf_mm, hf_ha, hf_lw, hf_st, hf_fo, hf_dr, hq_ha, hq_lw, hq_st, hq_dr, by omega, by omega, by omega, by omega, rfl⟩) dX10_line_335
            · skip
              exact z_vret hx hb hr hlk (by decide) (by decide) hw (⟨hsub, hfr, m7, m8, m9, m10, b2_354, p2_355, m22, m11, gha, glw, gst, gfo, gdr, hf_mm, hf_ha, hf_lw, hf_st, hf_fo, hf_dr, hq_ha, hq_lw, hq_st, hq_dr, by omega, by omega, by omega, by omega, rfl⟩) dX10_line_88
          · skip
            refine lv_iload_n hx hb dX10_line_62 rfl (lv_at hl 1 rfl) ?_
            refine z_if_eq (tgt := 81) hx hb (show (0 : Int32).toInt = 0 by decide) dX10_line_63 (by decide) (fun _ => ?_) (fun h => absurd h (by decide))
            refine lv_aload_n hx hb dX10_line_81 rfl (lv_at hl 3 rfl) ?_
            refine z_get (C := RX10) (T := TX10) (N := 54) (ci := 10) (v := .int b2_343) hx hb hT zin_X10 hown hK hw hm_mm hf_mm rfl 12 (by decide) (hT _ kw_1180) rfl dX10_line_82 ?_
            refine z_if_eq (tgt := 89) hx hb rfl dX10_line_85 (by decide) (fun c376 => ?_) (fun c376 => ?_)
            · skip
              refine lv_iload_n hx hb dX10_line_89 rfl (lv_at hl 2 rfl) ?_
              refine z_if_eq (tgt := 104) hx hb (show (1 : Int32).toInt = 1 by decide) dX10_line_90 (by decide) (fun h => absurd h (by decide)) (fun _ => ?_)
              refine lv_aload_n hx hb dX10_line_93 rfl (lv_at hl 3 rfl) ?_
              refine z_callvV (cells := 0) (slots := 0) (b := mm) (As := []) (rest := []) (ci := 10) (q0 := (RX10, TX10, 54)) ⟨hx, hb, hml, hown, hT⟩ (c_X10_next l hm_mm hm_ta hf_mm hf_ta (by first | omega | decide | assumption) (by first | omega | decide | assumption)) (cwV 0 hT (z_goodV (fun _ h => h) kw_1381 kw_1383 kw_34 kw_96 kw_1384) rfl rfl rfl (by decide +kernel) ⟨by decide, by decide⟩) z_mv hKK hK hw hA hm_mm hf_mm rfl rfl rfl hl.1 rfl (Nat.le_of_ble_eq_true rfl) dX10_line_94 ⟨by decide, by decide⟩ (fun u H locs hp hw => ?_)
              obtain ⟨L377, f378⟩ := u
              obtain ⟨hsb, hfm, a2_379, k2_380, p2_381, v2_382, w2_383, ha_0, hp⟩ := hp
              have hsb : L = L377 := hsb
              subst hsb
              have hsb : ∀ b ∈ L, b ∈ L := fun _ h => h
              have hw : z_H D vwCl (z_A L sz) s.heap L f378 H locs := hw
              have hfr : ∀ b ∈ L, b ≠ mm → b ≠ ha → b ≠ lw → b ≠ st → b ≠ fo → b ≠ dr → f378 b = f b := fun b hb h0 h1 h2 h3 h4 h5 => (hfm b hb h0).trans (hfr b hb h0 h1 h2 h3 h4 h5)
              have hf_ta : f378 ta = .inl (cy 0, 1600, .inl gta) := (hfm ta hm_ta (z_tne hf_ta hf_mm (m := 12900) (n := 10) rfl rfl (by decide))).trans hf_ta
              have hf_ha : f378 ha = .inl (cy 1, 30, .inl gha) := (hfm ha hm_ha (z_tne hf_ha hf_mm (m := 340) (n := 10) rfl rfl (by decide))).trans hf_ha
              have hf_lw : f378 lw = .inl (cy 1, 25, .inl glw) := (hfm lw hm_lw (z_tne hf_lw hf_mm (m := 300) (n := 10) rfl rfl (by decide))).trans hf_lw
              have hf_st : f378 st = .inl (cy 1, 20, .inl gst) := (hfm st hm_st (z_tne hf_st hf_mm (m := 260) (n := 10) rfl rfl (by decide))).trans hf_st
              have hf_fo : f378 fo = .inl (cy 1, 180, .inl gfo) := (hfm fo hm_fo (z_tne hf_fo hf_mm (m := 1540) (n := 10) rfl rfl (by decide))).trans hf_fo
              have hf_dr : f378 dr = .inl (cy 1, 520, .inl gdr) := (hfm dr hm_dr (z_tne hf_dr hf_mm (m := 4260) (n := 10) rfl rfl (by decide))).trans hf_dr
              have hf_mm : f378 mm = .inr (10, [.int m0, .ref wd, .ref my, .ref ce, .ref mv, .ref ta, .int m6, .int a2_379, .int k2_380, .int p2_381, .int v2_382, .long w2_383, .int b2_343, .int p2_344, .int m14, .int m15, .ref li, .ref ha, .ref lw, .ref st, .ref fo, .ref dr, .int m22, .ref ik, .int m24, .int m25, .long m26, .int m27, .int m28, .ref ro, .int m30, .ref ct, .ref se, .ref th, .ref cn, .ref be, .int m36, .ref du, .int m38, .ref db, .int m40, .int m41, .int m42, .ref pn, .ref wg, .ref wh, .ref tn, .ref he, .int m48, .ref tr, .ref fd, .ref po, .int m52, .int m53]) := ha_0
              have hC_ : (0 ≤ a2_379.toInt ∧ a2_379.toInt ≤ m6.toInt) ∧ m7.toInt ≤ a2_379.toInt ∧ (b2_343.toInt ≠ 0 ∨ m12.toInt = 0) ∧ (b2_343.toInt ≠ 0 ∨ k2_380.toInt ≠ 3 ∨ m7.toInt < a2_379.toInt) := by refine ⟨⟨?_, ?_⟩, ?_, ?_, ?_⟩ <;> omega
              clear hp
              replace hC := hC_
              clear hC_
              refine lv_aload_n hx hb dX10_line_97 rfl (lv_at hl 3 rfl) ?_
              refine z_callvV (cells := 0) (slots := 0) (b := mm) (As := []) (rest := []) (ci := 10) (q0 := (RX10, TX10, 54)) ⟨hx, hb, hml, hown, hT⟩ (c_X10_driveLine l hm_mm hm_ta hm_ha hm_dr hf_mm hf_ta hf_ha hf_dr hq_ha hq_dr (by first | omega | decide | assumption) (by first | omega | decide | assumption) (by omega)) (cwV 0 hT (z_goodV (fun _ h => h) kw_1438 kw_1440 kw_45 kw_96 kw_1441) rfl rfl rfl (by decide +kernel) ⟨by decide, by decide⟩) z_mv hKK hK hw hA hm_mm hf_mm rfl rfl rfl hl.1 rfl (Nat.le_of_ble_eq_true rfl) dX10_line_98 ⟨by decide, by decide⟩ (fun u H locs hp hw => ?_)
              obtain ⟨L384, f385⟩ := u
              obtain ⟨hsb, hfm, a2_386, k2_387, p2_388, v2_389, b2_390, q2_391, w2_392, nha_393, ndr_394, ha_0, ha_1, ha_2, hq_ha, hq_dr, hp⟩ := hp
              have hsb : L = L384 := hsb
              subst hsb
              have hsb : ∀ b ∈ L, b ∈ L := fun _ h => h
              have hw : z_H D vwCl (z_A L sz) s.heap L f385 H locs := hw
              have hfr : ∀ b ∈ L, b ≠ mm → b ≠ ha → b ≠ lw → b ≠ st → b ≠ fo → b ≠ dr → f385 b = f b := fun b hb h0 h1 h2 h3 h4 h5 => (hfm b hb h0 h1 h5).trans (hfr b hb h0 h1 h2 h3 h4 h5)
              have hf_ta : f385 ta = .inl (cy 0, 1600, .inl gta) := (hfm ta hm_ta (z_tne hf_ta hf_mm (m := 12900) (n := 10) rfl rfl (by decide)) (z_tne hf_ta hf_ha (m := 12900) (n := 340) rfl rfl (by decide)) (z_tne hf_ta hf_dr (m := 12900) (n := 4260) rfl rfl (by decide))).trans hf_ta
              have hf_lw : f385 lw = .inl (cy 1, 25, .inl glw) := (hfm lw hm_lw (z_tne hf_lw hf_mm (m := 300) (n := 10) rfl rfl (by decide)) (z_tne hf_lw hf_ha (m := 300) (n := 340) rfl rfl (by decide)) (z_tne hf_lw hf_dr (m := 300) (n := 4260) rfl rfl (by decide))).trans hf_lw
              have hf_st : f385 st = .inl (cy 1, 20, .inl gst) := (hfm st hm_st (z_tne hf_st hf_mm (m := 260) (n := 10) rfl rfl (by decide)) (z_tne hf_st hf_ha (m := 260) (n := 340) rfl rfl (by decide)) (z_tne hf_st hf_dr (m := 260) (n := 4260) rfl rfl (by decide))).trans hf_st
              have hf_fo : f385 fo = .inl (cy 1, 180, .inl gfo) := (hfm fo hm_fo (z_tne hf_fo hf_mm (m := 1540) (n := 10) rfl rfl (by decide)) (z_tne hf_fo hf_ha (m := 1540) (n := 340) rfl rfl (by decide)) (z_tne hf_fo hf_dr (m := 1540) (n := 4260) rfl rfl (by decide))).trans hf_fo
              have hf_mm : f385 mm = .inr (10, [.int m0, .ref wd, .ref my, .ref ce, .ref mv, .ref ta, .int m6, .int a2_386, .int k2_387, .int p2_388, .int v2_389, .long w2_392, .int b2_390, .int q2_391, .int m14, .int m15, .ref li, .ref ha, .ref lw, .ref st, .ref fo, .ref dr, .int m22, .ref ik, .int m24, .int m25, .long m26, .int m27, .int m28, .ref ro, .int m30, .ref ct, .ref se, .ref th, .ref cn, .ref be, .int m36, .ref du, .int m38, .ref db, .int m40, .int m41, .int m42, .ref pn, .ref wg, .ref wh, .ref tn, .ref he, .int m48, .ref tr, .ref fd, .ref po, .int m52, .int m53]) := ha_0
              have hf_ha : f385 ha = .inl (cy 1, 30, .inl nha_393) := ha_1
              have hf_dr : f385 dr = .inl (cy 1, 520, .inl ndr_394) := ha_2
              have hC_ : (0 ≤ a2_386.toInt ∧ a2_386.toInt ≤ m6.toInt) ∧ m7.toInt ≤ a2_386.toInt ∧ (b2_390.toInt ≠ 0 ∨ m12.toInt = 0) ∧ (b2_390.toInt ≠ 0 ∨ k2_387.toInt ≠ 3 ∨ m7.toInt < a2_386.toInt) := by refine ⟨⟨?_, ?_⟩, ?_, ?_, ?_⟩ <;> omega
              clear hp
              replace hC := hC_
              clear hC_
              refine lv_goto (tgt := 335) hx hb dX10_line_101 (by decide) ?_
              exact z_vret hx hb hr hlk (by decide) (by decide) hw (⟨hsub, hfr, a2_386, k2_387, p2_388, v2_389, b2_390, q2_391, m22, w2_392, nha_393, glw, gst, gfo, ndr_394, hf_mm, hf_ha, hf_lw, hf_st, hf_fo, hf_dr, hq_ha, hq_lw, hq_st, hq_dr, by omega, by omega, by omega, by omega, rfl⟩) dX10_line_335
            · skip
              exact z_vret hx hb hr hlk (by decide) (by decide) hw (⟨hsub, hfr, m7, m8, m9, m10, b2_343, p2_344, m22, m11, gha, glw, gst, gfo, gdr, hf_mm, hf_ha, hf_lw, hf_st, hf_fo, hf_dr, hq_ha, hq_lw, hq_st, hq_dr, by omega, by omega, by omega, by omega, rfl⟩) dX10_line_88
        · skip
          refine lv_aload_n hx hb dX10_line_35 rfl (lv_at hl 3 rfl) ?_
          refine lv_iconst (v := 3) hx hb dX10_line_36 (by decide) ?_
          have hz395 := (show (3 : Int32).toInt = 3 by decide)
          refine z_calliV (cells := 0) (slots := 0) (b := mm) (As := [.int 3]) (rest := []) (ci := 10) (q0 := (RX10, TX10, 54)) ⟨hx, hb, hml, hown, hT⟩ (c_X10_hasRead l hm_mm hm_ha hf_mm hf_ha hq_ha (by decide)) (cwV 1 hT (z_goodV (fun _ h => h) kw_1434 kw_1436 kw_44 kw_96 kw_1437) rfl rfl rfl (by decide +kernel) ⟨by decide, by decide⟩) z_mv hKK hK hw hA hm_mm hf_mm rfl rfl rfl hl.1 rfl (Nat.le_of_ble_eq_true rfl) dX10_line_37 ⟨by decide, by decide⟩ (fun r396 u H locs hp hw => ?_)
          obtain ⟨rfl, hp⟩ := hp
          have hw : z_H D vwCl (z_A L sz) s.heap L f H locs := hw
          have h3e397 : (gha 27).toInt = r396.toInt := by rw [hp]; rfl
          have hh398 : 0 ≤ r396.toInt ∧ r396.toInt ≤ 12 := by rw [hp]; exact (hq_ha 27).1.2.2.2 rfl
          refine z_if_le (tgt := 48) hx hb rfl dX10_line_40 (by decide) (fun c399 => ?_) (fun c399 => ?_)
          · skip
            refine lv_iload_n hx hb dX10_line_48 rfl (lv_at hl 2 rfl) ?_
            refine z_if_eq (tgt := 62) hx hb (show (1 : Int32).toInt = 1 by decide) dX10_line_49 (by decide) (fun h => absurd h (by decide)) (fun _ => ?_)
            refine lv_aload_n hx hb dX10_line_52 rfl (lv_at hl 3 rfl) ?_
            refine lv_iconst (v := 3) hx hb dX10_line_53 (by decide) ?_
            have hz400 := (show (3 : Int32).toInt = 3 by decide)
            refine z_calliV (cells := 0) (slots := 0) (b := mm) (As := [.int 3]) (rest := []) (ci := 10) (q0 := (RX10, TX10, 54)) ⟨hx, hb, hml, hown, hT⟩ (c_X10_hasRead l hm_mm hm_ha hf_mm hf_ha hq_ha (by decide)) (cwV 1 hT (z_goodV (fun _ h => h) kw_1434 kw_1436 kw_44 kw_96 kw_1437) rfl rfl rfl (by decide +kernel) ⟨by decide, by decide⟩) z_mv hKK hK hw hA hm_mm hf_mm rfl rfl rfl hl.1 rfl (Nat.le_of_ble_eq_true rfl) dX10_line_54 ⟨by decide, by decide⟩ (fun r401 u H locs hp hw => ?_)
            obtain ⟨rfl, hp⟩ := hp
            have hw : z_H D vwCl (z_A L sz) s.heap L f H locs := hw
            have h3e402 : (gha 27).toInt = r401.toInt := by rw [hp]; rfl
            have hh403 : 0 ≤ r401.toInt ∧ r401.toInt ≤ 12 := by rw [hp]; exact (hq_ha 27).1.2.2.2 rfl
            refine lv_bipush (v := 12) hx hb dX10_line_57 (by decide) ?_
            refine z_icmp_eq (tgt := 76) hx hb rfl (show (12 : Int32).toInt = 12 by decide) dX10_line_59 (by decide) (fun c404 => ?_) (fun c404 => ?_)
            · skip
              refine lv_aload_n hx hb dX10_line_76 rfl (lv_at hl 3 rfl) ?_
              refine lv_iconst (v := 3) hx hb dX10_line_77 (by decide) ?_
              have hz405 := (show (3 : Int32).toInt = 3 by decide)
              refine z_callvV (cells := 0) (slots := 0) (b := mm) (As := [.int 3]) (rest := []) (ci := 10) (q0 := (RX10, TX10, 54)) ⟨hx, hb, hml, hown, hT⟩ (c_X10_fails l hm_mm hf_mm (by first | omega | decide | assumption)) (cwV 1 hT (z_goodV (fun _ h => h) kw_1411 kw_1413 kw_40 kw_96 kw_1414) rfl rfl rfl (by decide +kernel) ⟨by decide, by decide⟩) z_mv hKK hK hw hA hm_mm hf_mm rfl rfl rfl hl.1 rfl (Nat.le_of_ble_eq_true rfl) dX10_line_78 ⟨by decide, by decide⟩ (fun u H locs hp hw => ?_)
              obtain ⟨L406, f407⟩ := u
              obtain ⟨hsb, hfm, b2_408, p2_409, ha_0, hp⟩ := hp
              have hsb : L = L406 := hsb
              subst hsb
              have hsb : ∀ b ∈ L, b ∈ L := fun _ h => h
              have hw : z_H D vwCl (z_A L sz) s.heap L f407 H locs := hw
              have hfr : ∀ b ∈ L, b ≠ mm → b ≠ ha → b ≠ lw → b ≠ st → b ≠ fo → b ≠ dr → f407 b = f b := fun b hb h0 h1 h2 h3 h4 h5 => (hfm b hb h0).trans (hfr b hb h0 h1 h2 h3 h4 h5)
              have hf_ta : f407 ta = .inl (cy 0, 1600, .inl gta) := (hfm ta hm_ta (z_tne hf_ta hf_mm (m := 12900) (n := 10) rfl rfl (by decide))).trans hf_ta
              have hf_ha : f407 ha = .inl (cy 1, 30, .inl gha) := (hfm ha hm_ha (z_tne hf_ha hf_mm (m := 340) (n := 10) rfl rfl (by decide))).trans hf_ha
              have hf_lw : f407 lw = .inl (cy 1, 25, .inl glw) := (hfm lw hm_lw (z_tne hf_lw hf_mm (m := 300) (n := 10) rfl rfl (by decide))).trans hf_lw
              have hf_st : f407 st = .inl (cy 1, 20, .inl gst) := (hfm st hm_st (z_tne hf_st hf_mm (m := 260) (n := 10) rfl rfl (by decide))).trans hf_st
              have hf_fo : f407 fo = .inl (cy 1, 180, .inl gfo) := (hfm fo hm_fo (z_tne hf_fo hf_mm (m := 1540) (n := 10) rfl rfl (by decide))).trans hf_fo
              have hf_dr : f407 dr = .inl (cy 1, 520, .inl gdr) := (hfm dr hm_dr (z_tne hf_dr hf_mm (m := 4260) (n := 10) rfl rfl (by decide))).trans hf_dr
              have hf_mm : f407 mm = .inr (10, [.int m0, .ref wd, .ref my, .ref ce, .ref mv, .ref ta, .int m6, .int m7, .int m8, .int m9, .int m10, .long m11, .int b2_408, .int p2_409, .int m14, .int m15, .ref li, .ref ha, .ref lw, .ref st, .ref fo, .ref dr, .int m22, .ref ik, .int m24, .int m25, .long m26, .int m27, .int m28, .ref ro, .int m30, .ref ct, .ref se, .ref th, .ref cn, .ref be, .int m36, .ref du, .int m38, .ref db, .int m40, .int m41, .int m42, .ref pn, .ref wg, .ref wh, .ref tn, .ref he, .int m48, .ref tr, .ref fd, .ref po, .int m52, .int m53]) := ha_0
              have hq410 := hp
              refine lv_aload_n hx hb dX10_line_81 rfl (lv_at hl 3 rfl) ?_
              refine z_get (C := RX10) (T := TX10) (N := 54) (ci := 10) (v := .int b2_408) hx hb hT zin_X10 hown hK hw hm_mm hf_mm rfl 12 (by decide) (hT _ kw_1180) rfl dX10_line_82 ?_
              refine z_if_eq (tgt := 89) hx hb rfl dX10_line_85 (by decide) (fun c411 => ?_) (fun c411 => ?_)
              · skip
                refine lv_iload_n hx hb dX10_line_89 rfl (lv_at hl 2 rfl) ?_
                refine z_if_eq (tgt := 104) hx hb (show (1 : Int32).toInt = 1 by decide) dX10_line_90 (by decide) (fun h => absurd h (by decide)) (fun _ => ?_)
                refine lv_aload_n hx hb dX10_line_93 rfl (lv_at hl 3 rfl) ?_
                refine z_callvV (cells := 0) (slots := 0) (b := mm) (As := []) (rest := []) (ci := 10) (q0 := (RX10, TX10, 54)) ⟨hx, hb, hml, hown, hT⟩ (c_X10_next l hm_mm hm_ta hf_mm hf_ta (by first | omega | decide | assumption) (by first | omega | decide | assumption)) (cwV 0 hT (z_goodV (fun _ h => h) kw_1381 kw_1383 kw_34 kw_96 kw_1384) rfl rfl rfl (by decide +kernel) ⟨by decide, by decide⟩) z_mv hKK hK hw hA hm_mm hf_mm rfl rfl rfl hl.1 rfl (Nat.le_of_ble_eq_true rfl) dX10_line_94 ⟨by decide, by decide⟩ (fun u H locs hp hw => ?_)
                obtain ⟨L412, f413⟩ := u
                obtain ⟨hsb, hfm, a2_414, k2_415, p2_416, v2_417, w2_418, ha_0, hp⟩ := hp
                have hsb : L = L412 := hsb
                subst hsb
                have hsb : ∀ b ∈ L, b ∈ L := fun _ h => h
                have hw : z_H D vwCl (z_A L sz) s.heap L f413 H locs := hw
                have hfr : ∀ b ∈ L, b ≠ mm → b ≠ ha → b ≠ lw → b ≠ st → b ≠ fo → b ≠ dr → f413 b = f b := fun b hb h0 h1 h2 h3 h4 h5 => (hfm b hb h0).trans (hfr b hb h0 h1 h2 h3 h4 h5)
                have hf_ta : f413 ta = .inl (cy 0, 1600, .inl gta) := (hfm ta hm_ta (z_tne hf_ta hf_mm (m := 12900) (n := 10) rfl rfl (by decide))).trans hf_ta
                have hf_ha : f413 ha = .inl (cy 1, 30, .inl gha) := (hfm ha hm_ha (z_tne hf_ha hf_mm (m := 340) (n := 10) rfl rfl (by decide))).trans hf_ha
                have hf_lw : f413 lw = .inl (cy 1, 25, .inl glw) := (hfm lw hm_lw (z_tne hf_lw hf_mm (m := 300) (n := 10) rfl rfl (by decide))).trans hf_lw
                have hf_st : f413 st = .inl (cy 1, 20, .inl gst) := (hfm st hm_st (z_tne hf_st hf_mm (m := 260) (n := 10) rfl rfl (by decide))).trans hf_st
                have hf_fo : f413 fo = .inl (cy 1, 180, .inl gfo) := (hfm fo hm_fo (z_tne hf_fo hf_mm (m := 1540) (n := 10) rfl rfl (by decide))).trans hf_fo
                have hf_dr : f413 dr = .inl (cy 1, 520, .inl gdr) := (hfm dr hm_dr (z_tne hf_dr hf_mm (m := 4260) (n := 10) rfl rfl (by decide))).trans hf_dr
                have hf_mm : f413 mm = .inr (10, [.int m0, .ref wd, .ref my, .ref ce, .ref mv, .ref ta, .int m6, .int a2_414, .int k2_415, .int p2_416, .int v2_417, .long w2_418, .int b2_408, .int p2_409, .int m14, .int m15, .ref li, .ref ha, .ref lw, .ref st, .ref fo, .ref dr, .int m22, .ref ik, .int m24, .int m25, .long m26, .int m27, .int m28, .ref ro, .int m30, .ref ct, .ref se, .ref th, .ref cn, .ref be, .int m36, .ref du, .int m38, .ref db, .int m40, .int m41, .int m42, .ref pn, .ref wg, .ref wh, .ref tn, .ref he, .int m48, .ref tr, .ref fd, .ref po, .int m52, .int m53]) := ha_0
                have hC_ : (0 ≤ a2_414.toInt ∧ a2_414.toInt ≤ m6.toInt) ∧ m7.toInt ≤ a2_414.toInt ∧ (b2_408.toInt ≠ 0 ∨ m12.toInt = 0) ∧ (b2_408.toInt ≠ 0 ∨ k2_415.toInt ≠ 3 ∨ m7.toInt < a2_414.toInt) := by refine ⟨⟨?_, ?_⟩, ?_, ?_, ?_⟩ <;> omega
                clear hp
                replace hC := hC_
                clear hC_
                refine lv_aload_n hx hb dX10_line_97 rfl (lv_at hl 3 rfl) ?_
                refine z_callvV (cells := 0) (slots := 0) (b := mm) (As := []) (rest := []) (ci := 10) (q0 := (RX10, TX10, 54)) ⟨hx, hb, hml, hown, hT⟩ (c_X10_driveLine l hm_mm hm_ta hm_ha hm_dr hf_mm hf_ta hf_ha hf_dr hq_ha hq_dr (by first | omega | decide | assumption) (by first | omega | decide | assumption) (by omega)) (cwV 0 hT (z_goodV (fun _ h => h) kw_1438 kw_1440 kw_45 kw_96 kw_1441) rfl rfl rfl (by decide +kernel) ⟨by decide, by decide⟩) z_mv hKK hK hw hA hm_mm hf_mm rfl rfl rfl hl.1 rfl (Nat.le_of_ble_eq_true rfl) dX10_line_98 ⟨by decide, by decide⟩ (fun u H locs hp hw => ?_)
                obtain ⟨L419, f420⟩ := u
                obtain ⟨hsb, hfm, a2_421, k2_422, p2_423, v2_424, b2_425, q2_426, w2_427, nha_428, ndr_429, ha_0, ha_1, ha_2, hq_ha, hq_dr, hp⟩ := hp
                have hsb : L = L419 := hsb
                subst hsb
                have hsb : ∀ b ∈ L, b ∈ L := fun _ h => h
                have hw : z_H D vwCl (z_A L sz) s.heap L f420 H locs := hw
                have hfr : ∀ b ∈ L, b ≠ mm → b ≠ ha → b ≠ lw → b ≠ st → b ≠ fo → b ≠ dr → f420 b = f b := fun b hb h0 h1 h2 h3 h4 h5 => (hfm b hb h0 h1 h5).trans (hfr b hb h0 h1 h2 h3 h4 h5)
                have hf_ta : f420 ta = .inl (cy 0, 1600, .inl gta) := (hfm ta hm_ta (z_tne hf_ta hf_mm (m := 12900) (n := 10) rfl rfl (by decide)) (z_tne hf_ta hf_ha (m := 12900) (n := 340) rfl rfl (by decide)) (z_tne hf_ta hf_dr (m := 12900) (n := 4260) rfl rfl (by decide))).trans hf_ta
                have hf_lw : f420 lw = .inl (cy 1, 25, .inl glw) := (hfm lw hm_lw (z_tne hf_lw hf_mm (m := 300) (n := 10) rfl rfl (by decide)) (z_tne hf_lw hf_ha (m := 300) (n := 340) rfl rfl (by decide)) (z_tne hf_lw hf_dr (m := 300) (n := 4260) rfl rfl (by decide))).trans hf_lw
                have hf_st : f420 st = .inl (cy 1, 20, .inl gst) := (hfm st hm_st (z_tne hf_st hf_mm (m := 260) (n := 10) rfl rfl (by decide)) (z_tne hf_st hf_ha (m := 260) (n := 340) rfl rfl (by decide)) (z_tne hf_st hf_dr (m := 260) (n := 4260) rfl rfl (by decide))).trans hf_st
                have hf_fo : f420 fo = .inl (cy 1, 180, .inl gfo) := (hfm fo hm_fo (z_tne hf_fo hf_mm (m := 1540) (n := 10) rfl rfl (by decide)) (z_tne hf_fo hf_ha (m := 1540) (n := 340) rfl rfl (by decide)) (z_tne hf_fo hf_dr (m := 1540) (n := 4260) rfl rfl (by decide))).trans hf_fo
                have hf_mm : f420 mm = .inr (10, [.int m0, .ref wd, .ref my, .ref ce, .ref mv, .ref ta, .int m6, .int a2_421, .int k2_422, .int p2_423, .int v2_424, .long w2_427, .int b2_425, .int q2_426, .int m14, .int m15, .ref li, .ref ha, .ref lw, .ref st, .ref fo, .ref dr, .int m22, .ref ik, .int m24, .int m25, .long m26, .int m27, .int m28, .ref ro, .int m30, .ref ct, .ref se, .ref th, .ref cn, .ref be, .int m36, .ref du, .int m38, .ref db, .int m40, .int m41, .int m42, .ref pn, .ref wg, .ref wh, .ref tn, .ref he, .int m48, .ref tr, .ref fd, .ref po, .int m52, .int m53]) := ha_0
                have hf_ha : f420 ha = .inl (cy 1, 30, .inl nha_428) := ha_1
                have hf_dr : f420 dr = .inl (cy 1, 520, .inl ndr_429) := ha_2
                have hC_ : (0 ≤ a2_421.toInt ∧ a2_421.toInt ≤ m6.toInt) ∧ m7.toInt ≤ a2_421.toInt ∧ (b2_425.toInt ≠ 0 ∨ m12.toInt = 0) ∧ (b2_425.toInt ≠ 0 ∨ k2_422.toInt ≠ 3 ∨ m7.toInt < a2_421.toInt) := by refine ⟨⟨?_, ?_⟩, ?_, ?_, ?_⟩ <;> omega
                clear hp
                replace hC := hC_
                clear hC_
                refine lv_goto (tgt := 335) hx hb dX10_line_101 (by decide) ?_
                exact z_vret hx hb hr hlk (by decide) (by decide) hw (⟨hsub, hfr, a2_421, k2_422, p2_423, v2_424, b2_425, q2_426, m22, w2_427, nha_428, glw, gst, gfo, ndr_429, hf_mm, hf_ha, hf_lw, hf_st, hf_fo, hf_dr, hq_ha, hq_lw, hq_st, hq_dr, by omega, by omega, by omega, by omega, rfl⟩) dX10_line_335
              · skip
                exact z_vret hx hb hr hlk (by decide) (by decide) hw (⟨hsub, hfr, m7, m8, m9, m10, b2_408, p2_409, m22, m11, gha, glw, gst, gfo, gdr, hf_mm, hf_ha, hf_lw, hf_st, hf_fo, hf_dr, hq_ha, hq_lw, hq_st, hq_dr, by omega, by omega, by omega, by omega, rfl⟩) dX10_line_88
            · skip
              refine lv_iload_n hx hb dX10_line_62 rfl (lv_at hl 1 rfl) ?_
              refine z_if_eq (tgt := 81) hx hb (show (0 : Int32).toInt = 0 by decide) dX10_line_63 (by decide) (fun _ => ?_) (fun h => absurd h (by decide))
              refine lv_aload_n hx hb dX10_line_81 rfl (lv_at hl 3 rfl) ?_
              refine z_get (C := RX10) (T := TX10) (N := 54) (ci := 10) (v := .int m12) hx hb hT zin_X10 hown hK hw hm_mm hf_mm rfl 12 (by decide) (hT _ kw_1180) rfl dX10_line_82 ?_
              refine z_if_eq (tgt := 89) hx hb rfl dX10_line_85 (by decide) (fun c430 => ?_) (fun c430 => ?_)
              · skip
                refine lv_iload_n hx hb dX10_line_89 rfl (lv_at hl 2 rfl) ?_
                refine z_if_eq (tgt := 104) hx hb (show (1 : Int32).toInt = 1 by decide) dX10_line_90 (by decide) (fun h => absurd h (by decide)) (fun _ => ?_)
                refine lv_aload_n hx hb dX10_line_93 rfl (lv_at hl 3 rfl) ?_
                refine z_callvV (cells := 0) (slots := 0) (b := mm) (As := []) (rest := []) (ci := 10) (q0 := (RX10, TX10, 54)) ⟨hx, hb, hml, hown, hT⟩ (c_X10_next l hm_mm hm_ta hf_mm hf_ta (by first | omega | decide | assumption) (by first | omega | decide | assumption)) (cwV 0 hT (z_goodV (fun _ h => h) kw_1381 kw_1383 kw_34 kw_96 kw_1384) rfl rfl rfl (by decide +kernel) ⟨by decide, by decide⟩) z_mv hKK hK hw hA hm_mm hf_mm rfl rfl rfl hl.1 rfl (Nat.le_of_ble_eq_true rfl) dX10_line_94 ⟨by decide, by decide⟩ (fun u H locs hp hw => ?_)
                obtain ⟨L431, f432⟩ := u
                obtain ⟨hsb, hfm, a2_433, k2_434, p2_435, v2_436, w2_437, ha_0, hp⟩ := hp
                have hsb : L = L431 := hsb
                subst hsb
                have hsb : ∀ b ∈ L, b ∈ L := fun _ h => h
                have hw : z_H D vwCl (z_A L sz) s.heap L f432 H locs := hw
                have hfr : ∀ b ∈ L, b ≠ mm → b ≠ ha → b ≠ lw → b ≠ st → b ≠ fo → b ≠ dr → f432 b = f b := fun b hb h0 h1 h2 h3 h4 h5 => (hfm b hb h0).trans (hfr b hb h0 h1 h2 h3 h4 h5)
                have hf_ta : f432 ta = .inl (cy 0, 1600, .inl gta) := (hfm ta hm_ta (z_tne hf_ta hf_mm (m := 12900) (n := 10) rfl rfl (by decide))).trans hf_ta
                have hf_ha : f432 ha = .inl (cy 1, 30, .inl gha) := (hfm ha hm_ha (z_tne hf_ha hf_mm (m := 340) (n := 10) rfl rfl (by decide))).trans hf_ha
                have hf_lw : f432 lw = .inl (cy 1, 25, .inl glw) := (hfm lw hm_lw (z_tne hf_lw hf_mm (m := 300) (n := 10) rfl rfl (by decide))).trans hf_lw
                have hf_st : f432 st = .inl (cy 1, 20, .inl gst) := (hfm st hm_st (z_tne hf_st hf_mm (m := 260) (n := 10) rfl rfl (by decide))).trans hf_st
                have hf_fo : f432 fo = .inl (cy 1, 180, .inl gfo) := (hfm fo hm_fo (z_tne hf_fo hf_mm (m := 1540) (n := 10) rfl rfl (by decide))).trans hf_fo
                have hf_dr : f432 dr = .inl (cy 1, 520, .inl gdr) := (hfm dr hm_dr (z_tne hf_dr hf_mm (m := 4260) (n := 10) rfl rfl (by decide))).trans hf_dr
                have hf_mm : f432 mm = .inr (10, [.int m0, .ref wd, .ref my, .ref ce, .ref mv, .ref ta, .int m6, .int a2_433, .int k2_434, .int p2_435, .int v2_436, .long w2_437, .int m12, .int m13, .int m14, .int m15, .ref li, .ref ha, .ref lw, .ref st, .ref fo, .ref dr, .int m22, .ref ik, .int m24, .int m25, .long m26, .int m27, .int m28, .ref ro, .int m30, .ref ct, .ref se, .ref th, .ref cn, .ref be, .int m36, .ref du, .int m38, .ref db, .int m40, .int m41, .int m42, .ref pn, .ref wg, .ref wh, .ref tn, .ref he, .int m48, .ref tr, .ref fd, .ref po, .int m52, .int m53]) := ha_0
                have hC_ : (0 ≤ a2_433.toInt ∧ a2_433.toInt ≤ m6.toInt) ∧ m7.toInt ≤ a2_433.toInt ∧ (m12.toInt ≠ 0 ∨ m12.toInt = 0) ∧ (m12.toInt ≠ 0 ∨ k2_434.toInt ≠ 3 ∨ m7.toInt < a2_433.toInt) := by refine ⟨⟨?_, ?_⟩, ?_, ?_, ?_⟩ <;> omega
                clear hp
                replace hC := hC_
                clear hC_
                refine lv_aload_n hx hb dX10_line_97 rfl (lv_at hl 3 rfl) ?_
                refine z_callvV (cells := 0) (slots := 0) (b := mm) (As := []) (rest := []) (ci := 10) (q0 := (RX10, TX10, 54)) ⟨hx, hb, hml, hown, hT⟩ (c_X10_driveLine l hm_mm hm_ta hm_ha hm_dr hf_mm hf_ta hf_ha hf_dr hq_ha hq_dr (by first | omega | decide | assumption) (by first | omega | decide | assumption) (by omega)) (cwV 0 hT (z_goodV (fun _ h => h) kw_1438 kw_1440 kw_45 kw_96 kw_1441) rfl rfl rfl (by decide +kernel) ⟨by decide, by decide⟩) z_mv hKK hK hw hA hm_mm hf_mm rfl rfl rfl hl.1 rfl (Nat.le_of_ble_eq_true rfl) dX10_line_98 ⟨by decide, by decide⟩ (fun u H locs hp hw => ?_)
                obtain ⟨L438, f439⟩ := u
                obtain ⟨hsb, hfm, a2_440, k2_441, p2_442, v2_443, b2_444, q2_445, w2_446, nha_447, ndr_448, ha_0, ha_1, ha_2, hq_ha, hq_dr, hp⟩ := hp
                have hsb : L = L438 := hsb
                subst hsb
                have hsb : ∀ b ∈ L, b ∈ L := fun _ h => h
                have hw : z_H D vwCl (z_A L sz) s.heap L f439 H locs := hw
                have hfr : ∀ b ∈ L, b ≠ mm → b ≠ ha → b ≠ lw → b ≠ st → b ≠ fo → b ≠ dr → f439 b = f b := fun b hb h0 h1 h2 h3 h4 h5 => (hfm b hb h0 h1 h5).trans (hfr b hb h0 h1 h2 h3 h4 h5)
                have hf_ta : f439 ta = .inl (cy 0, 1600, .inl gta) := (hfm ta hm_ta (z_tne hf_ta hf_mm (m := 12900) (n := 10) rfl rfl (by decide)) (z_tne hf_ta hf_ha (m := 12900) (n := 340) rfl rfl (by decide)) (z_tne hf_ta hf_dr (m := 12900) (n := 4260) rfl rfl (by decide))).trans hf_ta
                have hf_lw : f439 lw = .inl (cy 1, 25, .inl glw) := (hfm lw hm_lw (z_tne hf_lw hf_mm (m := 300) (n := 10) rfl rfl (by decide)) (z_tne hf_lw hf_ha (m := 300) (n := 340) rfl rfl (by decide)) (z_tne hf_lw hf_dr (m := 300) (n := 4260) rfl rfl (by decide))).trans hf_lw
                have hf_st : f439 st = .inl (cy 1, 20, .inl gst) := (hfm st hm_st (z_tne hf_st hf_mm (m := 260) (n := 10) rfl rfl (by decide)) (z_tne hf_st hf_ha (m := 260) (n := 340) rfl rfl (by decide)) (z_tne hf_st hf_dr (m := 260) (n := 4260) rfl rfl (by decide))).trans hf_st
                have hf_fo : f439 fo = .inl (cy 1, 180, .inl gfo) := (hfm fo hm_fo (z_tne hf_fo hf_mm (m := 1540) (n := 10) rfl rfl (by decide)) (z_tne hf_fo hf_ha (m := 1540) (n := 340) rfl rfl (by decide)) (z_tne hf_fo hf_dr (m := 1540) (n := 4260) rfl rfl (by decide))).trans hf_fo
                have hf_mm : f439 mm = .inr (10, [.int m0, .ref wd, .ref my, .ref ce, .ref mv, .ref ta, .int m6, .int a2_440, .int k2_441, .int p2_442, .int v2_443, .long w2_446, .int b2_444, .int q2_445, .int m14, .int m15, .ref li, .ref ha, .ref lw, .ref st, .ref fo, .ref dr, .int m22, .ref ik, .int m24, .int m25, .long m26, .int m27, .int m28, .ref ro, .int m30, .ref ct, .ref se, .ref th, .ref cn, .ref be, .int m36, .ref du, .int m38, .ref db, .int m40, .int m41, .int m42, .ref pn, .ref wg, .ref wh, .ref tn, .ref he, .int m48, .ref tr, .ref fd, .ref po, .int m52, .int m53]) := ha_0
                have hf_ha : f439 ha = .inl (cy 1, 30, .inl nha_447) := ha_1
                have hf_dr : f439 dr = .inl (cy 1, 520, .inl ndr_448) := ha_2
                have hC_ : (0 ≤ a2_440.toInt ∧ a2_440.toInt ≤ m6.toInt) ∧ m7.toInt ≤ a2_440.toInt ∧ (b2_444.toInt ≠ 0 ∨ m12.toInt = 0) ∧ (b2_444.toInt ≠ 0 ∨ k2_441.toInt ≠ 3 ∨ m7.toInt < a2_440.toInt) := by refine ⟨⟨?_, ?_⟩, ?_, ?_, ?_⟩ <;> omega
                clear hp
                replace hC := hC_
                clear hC_
                refine lv_goto (tgt := 335) hx hb dX10_line_101 (by decide) ?_
                exact z_vret hx hb hr hlk (by decide) (by decide) hw (⟨hsub, hfr, a2_440, k2_441, p2_442, v2_443, b2_444, q2_445, m22, w2_446, nha_447, glw, gst, gfo, ndr_448, hf_mm, hf_ha, hf_lw, hf_st, hf_fo, hf_dr, hq_ha, hq_lw, hq_st, hq_dr, by omega, by omega, by omega, by omega, rfl⟩) dX10_line_335
              · skip
                exact z_vret hx hb hr hlk (by decide) (by decide) hw (⟨hsub, hfr, m7, m8, m9, m10, m12, m13, m22, m11, gha, glw, gst, gfo, gdr, hf_mm, hf_ha, hf_lw, hf_st, hf_fo, hf_dr, hq_ha, hq_lw, hq_st, hq_dr, by omega, by omega, by omega, by omega, rfl⟩) dX10_line_88
          · skip
            refine lv_aload_n hx hb dX10_line_43 rfl (lv_at hl 3 rfl) ?_
            refine lv_iconst (v := 2) hx hb dX10_line_44 (by decide) ?_
            have hz449 := (show (2 : Int32).toInt = 2 by decide)
            refine z_callvV (cells := 0) (slots := 0) (b := mm) (As := [.int 2]) (rest := []) (ci := 10) (q0 := (RX10, TX10, 54)) ⟨hx, hb, hml, hown, hT⟩ (c_X10_fails l hm_mm hf_mm (by first | omega | decide | assumption)) (cwV 1 hT (z_goodV (fun _ h => h) kw_1411 kw_1413 kw_40 kw_96 kw_1414) rfl rfl rfl (by decide +kernel) ⟨by decide, by decide⟩) z_mv hKK hK hw hA hm_mm hf_mm rfl rfl rfl hl.1 rfl (Nat.le_of_ble_eq_true rfl) dX10_line_45 ⟨by decide, by decide⟩ (fun u H locs hp hw => ?_)
            obtain ⟨L450, f451⟩ := u
            obtain ⟨hsb, hfm, b2_452, p2_453, ha_0, hp⟩ := hp
            have hsb : L = L450 := hsb
            subst hsb
            have hsb : ∀ b ∈ L, b ∈ L := fun _ h => h
            have hw : z_H D vwCl (z_A L sz) s.heap L f451 H locs := hw
            have hfr : ∀ b ∈ L, b ≠ mm → b ≠ ha → b ≠ lw → b ≠ st → b ≠ fo → b ≠ dr → f451 b = f b := fun b hb h0 h1 h2 h3 h4 h5 => (hfm b hb h0).trans (hfr b hb h0 h1 h2 h3 h4 h5)
            have hf_ta : f451 ta = .inl (cy 0, 1600, .inl gta) := (hfm ta hm_ta (z_tne hf_ta hf_mm (m := 12900) (n := 10) rfl rfl (by decide))).trans hf_ta
            have hf_ha : f451 ha = .inl (cy 1, 30, .inl gha) := (hfm ha hm_ha (z_tne hf_ha hf_mm (m := 340) (n := 10) rfl rfl (by decide))).trans hf_ha
            have hf_lw : f451 lw = .inl (cy 1, 25, .inl glw) := (hfm lw hm_lw (z_tne hf_lw hf_mm (m := 300) (n := 10) rfl rfl (by decide))).trans hf_lw
            have hf_st : f451 st = .inl (cy 1, 20, .inl gst) := (hfm st hm_st (z_tne hf_st hf_mm (m := 260) (n := 10) rfl rfl (by decide))).trans hf_st
            have hf_fo : f451 fo = .inl (cy 1, 180, .inl gfo) := (hfm fo hm_fo (z_tne hf_fo hf_mm (m := 1540) (n := 10) rfl rfl (by decide))).trans hf_fo
            have hf_dr : f451 dr = .inl (cy 1, 520, .inl gdr) := (hfm dr hm_dr (z_tne hf_dr hf_mm (m := 4260) (n := 10) rfl rfl (by decide))).trans hf_dr
            have hf_mm : f451 mm = .inr (10, [.int m0, .ref wd, .ref my, .ref ce, .ref mv, .ref ta, .int m6, .int m7, .int m8, .int m9, .int m10, .long m11, .int b2_452, .int p2_453, .int m14, .int m15, .ref li, .ref ha, .ref lw, .ref st, .ref fo, .ref dr, .int m22, .ref ik, .int m24, .int m25, .long m26, .int m27, .int m28, .ref ro, .int m30, .ref ct, .ref se, .ref th, .ref cn, .ref be, .int m36, .ref du, .int m38, .ref db, .int m40, .int m41, .int m42, .ref pn, .ref wg, .ref wh, .ref tn, .ref he, .int m48, .ref tr, .ref fd, .ref po, .int m52, .int m53]) := ha_0
            have hq454 := hp
            refine lv_iload_n hx hb dX10_line_48 rfl (lv_at hl 2 rfl) ?_
            refine z_if_eq (tgt := 62) hx hb (show (1 : Int32).toInt = 1 by decide) dX10_line_49 (by decide) (fun h => absurd h (by decide)) (fun _ => ?_)
            refine lv_aload_n hx hb dX10_line_52 rfl (lv_at hl 3 rfl) ?_
            refine lv_iconst (v := 3) hx hb dX10_line_53 (by decide) ?_
            have hz455 := (show (3 : Int32).toInt = 3 by decide)
            refine z_calliV (cells := 0) (slots := 0) (b := mm) (As := [.int 3]) (rest := []) (ci := 10) (q0 := (RX10, TX10, 54)) ⟨hx, hb, hml, hown, hT⟩ (c_X10_hasRead l hm_mm hm_ha hf_mm hf_ha hq_ha (by decide)) (cwV 1 hT (z_goodV (fun _ h => h) kw_1434 kw_1436 kw_44 kw_96 kw_1437) rfl rfl rfl (by decide +kernel) ⟨by decide, by decide⟩) z_mv hKK hK hw hA hm_mm hf_mm rfl rfl rfl hl.1 rfl (Nat.le_of_ble_eq_true rfl) dX10_line_54 ⟨by decide, by decide⟩ (fun r456 u H locs hp hw => ?_)
            obtain ⟨rfl, hp⟩ := hp
            have hw : z_H D vwCl (z_A L sz) s.heap L f451 H locs := hw
            have h3e457 : (gha 27).toInt = r456.toInt := by rw [hp]; rfl
            have hh458 : 0 ≤ r456.toInt ∧ r456.toInt ≤ 12 := by rw [hp]; exact (hq_ha 27).1.2.2.2 rfl
            refine lv_bipush (v := 12) hx hb dX10_line_57 (by decide) ?_
            refine z_icmp_eq (tgt := 76) hx hb rfl (show (12 : Int32).toInt = 12 by decide) dX10_line_59 (by decide) (fun c459 => ?_) (fun c459 => ?_)
            · skip
              refine lv_aload_n hx hb dX10_line_76 rfl (lv_at hl 3 rfl) ?_
              refine lv_iconst (v := 3) hx hb dX10_line_77 (by decide) ?_
              have hz460 := (show (3 : Int32).toInt = 3 by decide)
              refine z_callvV (cells := 0) (slots := 0) (b := mm) (As := [.int 3]) (rest := []) (ci := 10) (q0 := (RX10, TX10, 54)) ⟨hx, hb, hml, hown, hT⟩ (c_X10_fails l hm_mm hf_mm (by first | omega | decide | assumption)) (cwV 1 hT (z_goodV (fun _ h => h) kw_1411 kw_1413 kw_40 kw_96 kw_1414) rfl rfl rfl (by decide +kernel) ⟨by decide, by decide⟩) z_mv hKK hK hw hA hm_mm hf_mm rfl rfl rfl hl.1 rfl (Nat.le_of_ble_eq_true rfl) dX10_line_78 ⟨by decide, by decide⟩ (fun u H locs hp hw => ?_)
              obtain ⟨L461, f462⟩ := u
              obtain ⟨hsb, hfm, b2_463, p2_464, ha_0, hp⟩ := hp
              have hsb : L = L461 := hsb
              subst hsb
              have hsb : ∀ b ∈ L, b ∈ L := fun _ h => h
              have hw : z_H D vwCl (z_A L sz) s.heap L f462 H locs := hw
              have hfr : ∀ b ∈ L, b ≠ mm → b ≠ ha → b ≠ lw → b ≠ st → b ≠ fo → b ≠ dr → f462 b = f b := fun b hb h0 h1 h2 h3 h4 h5 => (hfm b hb h0).trans (hfr b hb h0 h1 h2 h3 h4 h5)
              have hf_ta : f462 ta = .inl (cy 0, 1600, .inl gta) := (hfm ta hm_ta (z_tne hf_ta hf_mm (m := 12900) (n := 10) rfl rfl (by decide))).trans hf_ta
              have hf_ha : f462 ha = .inl (cy 1, 30, .inl gha) := (hfm ha hm_ha (z_tne hf_ha hf_mm (m := 340) (n := 10) rfl rfl (by decide))).trans hf_ha
              have hf_lw : f462 lw = .inl (cy 1, 25, .inl glw) := (hfm lw hm_lw (z_tne hf_lw hf_mm (m := 300) (n := 10) rfl rfl (by decide))).trans hf_lw
              have hf_st : f462 st = .inl (cy 1, 20, .inl gst) := (hfm st hm_st (z_tne hf_st hf_mm (m := 260) (n := 10) rfl rfl (by decide))).trans hf_st
              have hf_fo : f462 fo = .inl (cy 1, 180, .inl gfo) := (hfm fo hm_fo (z_tne hf_fo hf_mm (m := 1540) (n := 10) rfl rfl (by decide))).trans hf_fo
              have hf_dr : f462 dr = .inl (cy 1, 520, .inl gdr) := (hfm dr hm_dr (z_tne hf_dr hf_mm (m := 4260) (n := 10) rfl rfl (by decide))).trans hf_dr
              have hf_mm : f462 mm = .inr (10, [.int m0, .ref wd, .ref my, .ref ce, .ref mv, .ref ta, .int m6, .int m7, .int m8, .int m9, .int m10, .long m11, .int b2_463, .int p2_464, .int m14, .int m15, .ref li, .ref ha, .ref lw, .ref st, .ref fo, .ref dr, .int m22, .ref ik, .int m24, .int m25, .long m26, .int m27, .int m28, .ref ro, .int m30, .ref ct, .ref se, .ref th, .ref cn, .ref be, .int m36, .ref du, .int m38, .ref db, .int m40, .int m41, .int m42, .ref pn, .ref wg, .ref wh, .ref tn, .ref he, .int m48, .ref tr, .ref fd, .ref po, .int m52, .int m53]) := ha_0
              have hq465 := hp
              refine lv_aload_n hx hb dX10_line_81 rfl (lv_at hl 3 rfl) ?_
              refine z_get (C := RX10) (T := TX10) (N := 54) (ci := 10) (v := .int b2_463) hx hb hT zin_X10 hown hK hw hm_mm hf_mm rfl 12 (by decide) (hT _ kw_1180) rfl dX10_line_82 ?_
              refine z_if_eq (tgt := 89) hx hb rfl dX10_line_85 (by decide) (fun c466 => ?_) (fun c466 => ?_)
              · skip
                refine lv_iload_n hx hb dX10_line_89 rfl (lv_at hl 2 rfl) ?_
                refine z_if_eq (tgt := 104) hx hb (show (1 : Int32).toInt = 1 by decide) dX10_line_90 (by decide) (fun h => absurd h (by decide)) (fun _ => ?_)
                refine lv_aload_n hx hb dX10_line_93 rfl (lv_at hl 3 rfl) ?_
                refine z_callvV (cells := 0) (slots := 0) (b := mm) (As := []) (rest := []) (ci := 10) (q0 := (RX10, TX10, 54)) ⟨hx, hb, hml, hown, hT⟩ (c_X10_next l hm_mm hm_ta hf_mm hf_ta (by first | omega | decide | assumption) (by first | omega | decide | assumption)) (cwV 0 hT (z_goodV (fun _ h => h) kw_1381 kw_1383 kw_34 kw_96 kw_1384) rfl rfl rfl (by decide +kernel) ⟨by decide, by decide⟩) z_mv hKK hK hw hA hm_mm hf_mm rfl rfl rfl hl.1 rfl (Nat.le_of_ble_eq_true rfl) dX10_line_94 ⟨by decide, by decide⟩ (fun u H locs hp hw => ?_)
                obtain ⟨L467, f468⟩ := u
                obtain ⟨hsb, hfm, a2_469, k2_470, p2_471, v2_472, w2_473, ha_0, hp⟩ := hp
                have hsb : L = L467 := hsb
                subst hsb
                have hsb : ∀ b ∈ L, b ∈ L := fun _ h => h
                have hw : z_H D vwCl (z_A L sz) s.heap L f468 H locs := hw
                have hfr : ∀ b ∈ L, b ≠ mm → b ≠ ha → b ≠ lw → b ≠ st → b ≠ fo → b ≠ dr → f468 b = f b := fun b hb h0 h1 h2 h3 h4 h5 => (hfm b hb h0).trans (hfr b hb h0 h1 h2 h3 h4 h5)
                have hf_ta : f468 ta = .inl (cy 0, 1600, .inl gta) := (hfm ta hm_ta (z_tne hf_ta hf_mm (m := 12900) (n := 10) rfl rfl (by decide))).trans hf_ta
                have hf_ha : f468 ha = .inl (cy 1, 30, .inl gha) := (hfm ha hm_ha (z_tne hf_ha hf_mm (m := 340) (n := 10) rfl rfl (by decide))).trans hf_ha
                have hf_lw : f468 lw = .inl (cy 1, 25, .inl glw) := (hfm lw hm_lw (z_tne hf_lw hf_mm (m := 300) (n := 10) rfl rfl (by decide))).trans hf_lw
                have hf_st : f468 st = .inl (cy 1, 20, .inl gst) := (hfm st hm_st (z_tne hf_st hf_mm (m := 260) (n := 10) rfl rfl (by decide))).trans hf_st
                have hf_fo : f468 fo = .inl (cy 1, 180, .inl gfo) := (hfm fo hm_fo (z_tne hf_fo hf_mm (m := 1540) (n := 10) rfl rfl (by decide))).trans hf_fo
                have hf_dr : f468 dr = .inl (cy 1, 520, .inl gdr) := (hfm dr hm_dr (z_tne hf_dr hf_mm (m := 4260) (n := 10) rfl rfl (by decide))).trans hf_dr
                have hf_mm : f468 mm = .inr (10, [.int m0, .ref wd, .ref my, .ref ce, .ref mv, .ref ta, .int m6, .int a2_469, .int k2_470, .int p2_471, .int v2_472, .long w2_473, .int b2_463, .int p2_464, .int m14, .int m15, .ref li, .ref ha, .ref lw, .ref st, .ref fo, .ref dr, .int m22, .ref ik, .int m24, .int m25, .long m26, .int m27, .int m28, .ref ro, .int m30, .ref ct, .ref se, .ref th, .ref cn, .ref be, .int m36, .ref du, .int m38, .ref db, .int m40, .int m41, .int m42, .ref pn, .ref wg, .ref wh, .ref tn, .ref he, .int m48, .ref tr, .ref fd, .ref po, .int m52, .int m53]) := ha_0
                have hC_ : (0 ≤ a2_469.toInt ∧ a2_469.toInt ≤ m6.toInt) ∧ m7.toInt ≤ a2_469.toInt ∧ (b2_463.toInt ≠ 0 ∨ m12.toInt = 0) ∧ (b2_463.toInt ≠ 0 ∨ k2_470.toInt ≠ 3 ∨ m7.toInt < a2_469.toInt) := by refine ⟨⟨?_, ?_⟩, ?_, ?_, ?_⟩ <;> omega
                clear hp
                replace hC := hC_
                clear hC_
                refine lv_aload_n hx hb dX10_line_97 rfl (lv_at hl 3 rfl) ?_
                refine z_callvV (cells := 0) (slots := 0) (b := mm) (As := []) (rest := []) (ci := 10) (q0 := (RX10, TX10, 54)) ⟨hx, hb, hml, hown, hT⟩ (c_X10_driveLine l hm_mm hm_ta hm_ha hm_dr hf_mm hf_ta hf_ha hf_dr hq_ha hq_dr (by first | omega | decide | assumption) (by first | omega | decide | assumption) (by omega)) (cwV 0 hT (z_goodV (fun _ h => h) kw_1438 kw_1440 kw_45 kw_96 kw_1441) rfl rfl rfl (by decide +kernel) ⟨by decide, by decide⟩) z_mv hKK hK hw hA hm_mm hf_mm rfl rfl rfl hl.1 rfl (Nat.le_of_ble_eq_true rfl) dX10_line_98 ⟨by decide, by decide⟩ (fun u H locs hp hw => ?_)
                obtain ⟨L474, f475⟩ := u
                obtain ⟨hsb, hfm, a2_476, k2_477, p2_478, v2_479, b2_480, q2_481, w2_482, nha_483, ndr_484, ha_0, ha_1, ha_2, hq_ha, hq_dr, hp⟩ := hp
                have hsb : L = L474 := hsb
                subst hsb
                have hsb : ∀ b ∈ L, b ∈ L := fun _ h => h
                have hw : z_H D vwCl (z_A L sz) s.heap L f475 H locs := hw
                have hfr : ∀ b ∈ L, b ≠ mm → b ≠ ha → b ≠ lw → b ≠ st → b ≠ fo → b ≠ dr → f475 b = f b := fun b hb h0 h1 h2 h3 h4 h5 => (hfm b hb h0 h1 h5).trans (hfr b hb h0 h1 h2 h3 h4 h5)
                have hf_ta : f475 ta = .inl (cy 0, 1600, .inl gta) := (hfm ta hm_ta (z_tne hf_ta hf_mm (m := 12900) (n := 10) rfl rfl (by decide)) (z_tne hf_ta hf_ha (m := 12900) (n := 340) rfl rfl (by decide)) (z_tne hf_ta hf_dr (m := 12900) (n := 4260) rfl rfl (by decide))).trans hf_ta
                have hf_lw : f475 lw = .inl (cy 1, 25, .inl glw) := (hfm lw hm_lw (z_tne hf_lw hf_mm (m := 300) (n := 10) rfl rfl (by decide)) (z_tne hf_lw hf_ha (m := 300) (n := 340) rfl rfl (by decide)) (z_tne hf_lw hf_dr (m := 300) (n := 4260) rfl rfl (by decide))).trans hf_lw
                have hf_st : f475 st = .inl (cy 1, 20, .inl gst) := (hfm st hm_st (z_tne hf_st hf_mm (m := 260) (n := 10) rfl rfl (by decide)) (z_tne hf_st hf_ha (m := 260) (n := 340) rfl rfl (by decide)) (z_tne hf_st hf_dr (m := 260) (n := 4260) rfl rfl (by decide))).trans hf_st
                have hf_fo : f475 fo = .inl (cy 1, 180, .inl gfo) := (hfm fo hm_fo (z_tne hf_fo hf_mm (m := 1540) (n := 10) rfl rfl (by decide)) (z_tne hf_fo hf_ha (m := 1540) (n := 340) rfl rfl (by decide)) (z_tne hf_fo hf_dr (m := 1540) (n := 4260) rfl rfl (by decide))).trans hf_fo
                have hf_mm : f475 mm = .inr (10, [.int m0, .ref wd, .ref my, .ref ce, .ref mv, .ref ta, .int m6, .int a2_476, .int k2_477, .int p2_478, .int v2_479, .long w2_482, .int b2_480, .int q2_481, .int m14, .int m15, .ref li, .ref ha, .ref lw, .ref st, .ref fo, .ref dr, .int m22, .ref ik, .int m24, .int m25, .long m26, .int m27, .int m28, .ref ro, .int m30, .ref ct, .ref se, .ref th, .ref cn, .ref be, .int m36, .ref du, .int m38, .ref db, .int m40, .int m41, .int m42, .ref pn, .ref wg, .ref wh, .ref tn, .ref he, .int m48, .ref tr, .ref fd, .ref po, .int m52, .int m53]) := ha_0
                have hf_ha : f475 ha = .inl (cy 1, 30, .inl nha_483) := ha_1
                have hf_dr : f475 dr = .inl (cy 1, 520, .inl ndr_484) := ha_2
                have hC_ : (0 ≤ a2_476.toInt ∧ a2_476.toInt ≤ m6.toInt) ∧ m7.toInt ≤ a2_476.toInt ∧ (b2_480.toInt ≠ 0 ∨ m12.toInt = 0) ∧ (b2_480.toInt ≠ 0 ∨ k2_477.toInt ≠ 3 ∨ m7.toInt < a2_476.toInt) := by refine ⟨⟨?_, ?_⟩, ?_, ?_, ?_⟩ <;> omega
                clear hp
                replace hC := hC_
                clear hC_
                refine lv_goto (tgt := 335) hx hb dX10_line_101 (by decide) ?_
                exact z_vret hx hb hr hlk (by decide) (by decide) hw (⟨hsub, hfr, a2_476, k2_477, p2_478, v2_479, b2_480, q2_481, m22, w2_482, nha_483, glw, gst, gfo, ndr_484, hf_mm, hf_ha, hf_lw, hf_st, hf_fo, hf_dr, hq_ha, hq_lw, hq_st, hq_dr, by omega, by omega, by omega, by omega, rfl⟩) dX10_line_335
              · skip
                exact z_vret hx hb hr hlk (by decide) (by decide) hw (⟨hsub, hfr, m7, m8, m9, m10, b2_463, p2_464, m22, m11, gha, glw, gst, gfo, gdr, hf_mm, hf_ha, hf_lw, hf_st, hf_fo, hf_dr, hq_ha, hq_lw, hq_st, hq_dr, by omega, by omega, by omega, by omega, rfl⟩) dX10_line_88
            · skip
              refine lv_iload_n hx hb dX10_line_62 rfl (lv_at hl 1 rfl) ?_
              refine z_if_eq (tgt := 81) hx hb (show (0 : Int32).toInt = 0 by decide) dX10_line_63 (by decide) (fun _ => ?_) (fun h => absurd h (by decide))
              refine lv_aload_n hx hb dX10_line_81 rfl (lv_at hl 3 rfl) ?_
              refine z_get (C := RX10) (T := TX10) (N := 54) (ci := 10) (v := .int b2_452) hx hb hT zin_X10 hown hK hw hm_mm hf_mm rfl 12 (by decide) (hT _ kw_1180) rfl dX10_line_82 ?_
              refine z_if_eq (tgt := 89) hx hb rfl dX10_line_85 (by decide) (fun c485 => ?_) (fun c485 => ?_)
              · skip
                refine lv_iload_n hx hb dX10_line_89 rfl (lv_at hl 2 rfl) ?_
                refine z_if_eq (tgt := 104) hx hb (show (1 : Int32).toInt = 1 by decide) dX10_line_90 (by decide) (fun h => absurd h (by decide)) (fun _ => ?_)
                refine lv_aload_n hx hb dX10_line_93 rfl (lv_at hl 3 rfl) ?_
                refine z_callvV (cells := 0) (slots := 0) (b := mm) (As := []) (rest := []) (ci := 10) (q0 := (RX10, TX10, 54)) ⟨hx, hb, hml, hown, hT⟩ (c_X10_next l hm_mm hm_ta hf_mm hf_ta (by first | omega | decide | assumption) (by first | omega | decide | assumption)) (cwV 0 hT (z_goodV (fun _ h => h) kw_1381 kw_1383 kw_34 kw_96 kw_1384) rfl rfl rfl (by decide +kernel) ⟨by decide, by decide⟩) z_mv hKK hK hw hA hm_mm hf_mm rfl rfl rfl hl.1 rfl (Nat.le_of_ble_eq_true rfl) dX10_line_94 ⟨by decide, by decide⟩ (fun u H locs hp hw => ?_)
                obtain ⟨L486, f487⟩ := u
                obtain ⟨hsb, hfm, a2_488, k2_489, p2_490, v2_491, w2_492, ha_0, hp⟩ := hp
                have hsb : L = L486 := hsb
                subst hsb
                have hsb : ∀ b ∈ L, b ∈ L := fun _ h => h
                have hw : z_H D vwCl (z_A L sz) s.heap L f487 H locs := hw
                have hfr : ∀ b ∈ L, b ≠ mm → b ≠ ha → b ≠ lw → b ≠ st → b ≠ fo → b ≠ dr → f487 b = f b := fun b hb h0 h1 h2 h3 h4 h5 => (hfm b hb h0).trans (hfr b hb h0 h1 h2 h3 h4 h5)
                have hf_ta : f487 ta = .inl (cy 0, 1600, .inl gta) := (hfm ta hm_ta (z_tne hf_ta hf_mm (m := 12900) (n := 10) rfl rfl (by decide))).trans hf_ta
                have hf_ha : f487 ha = .inl (cy 1, 30, .inl gha) := (hfm ha hm_ha (z_tne hf_ha hf_mm (m := 340) (n := 10) rfl rfl (by decide))).trans hf_ha
                have hf_lw : f487 lw = .inl (cy 1, 25, .inl glw) := (hfm lw hm_lw (z_tne hf_lw hf_mm (m := 300) (n := 10) rfl rfl (by decide))).trans hf_lw
                have hf_st : f487 st = .inl (cy 1, 20, .inl gst) := (hfm st hm_st (z_tne hf_st hf_mm (m := 260) (n := 10) rfl rfl (by decide))).trans hf_st
                have hf_fo : f487 fo = .inl (cy 1, 180, .inl gfo) := (hfm fo hm_fo (z_tne hf_fo hf_mm (m := 1540) (n := 10) rfl rfl (by decide))).trans hf_fo
                have hf_dr : f487 dr = .inl (cy 1, 520, .inl gdr) := (hfm dr hm_dr (z_tne hf_dr hf_mm (m := 4260) (n := 10) rfl rfl (by decide))).trans hf_dr
                have hf_mm : f487 mm = .inr (10, [.int m0, .ref wd, .ref my, .ref ce, .ref mv, .ref ta, .int m6, .int a2_488, .int k2_489, .int p2_490, .int v2_491, .long w2_492, .int b2_452, .int p2_453, .int m14, .int m15, .ref li, .ref ha, .ref lw, .ref st, .ref fo, .ref dr, .int m22, .ref ik, .int m24, .int m25, .long m26, .int m27, .int m28, .ref ro, .int m30, .ref ct, .ref se, .ref th, .ref cn, .ref be, .int m36, .ref du, .int m38, .ref db, .int m40, .int m41, .int m42, .ref pn, .ref wg, .ref wh, .ref tn, .ref he, .int m48, .ref tr, .ref fd, .ref po, .int m52, .int m53]) := ha_0
                have hC_ : (0 ≤ a2_488.toInt ∧ a2_488.toInt ≤ m6.toInt) ∧ m7.toInt ≤ a2_488.toInt ∧ (b2_452.toInt ≠ 0 ∨ m12.toInt = 0) ∧ (b2_452.toInt ≠ 0 ∨ k2_489.toInt ≠ 3 ∨ m7.toInt < a2_488.toInt) := by refine ⟨⟨?_, ?_⟩, ?_, ?_, ?_⟩ <;> omega
                clear hp
                replace hC := hC_
                clear hC_
                refine lv_aload_n hx hb dX10_line_97 rfl (lv_at hl 3 rfl) ?_
                refine z_callvV (cells := 0) (slots := 0) (b := mm) (As := []) (rest := []) (ci := 10) (q0 := (RX10, TX10, 54)) ⟨hx, hb, hml, hown, hT⟩ (c_X10_driveLine l hm_mm hm_ta hm_ha hm_dr hf_mm hf_ta hf_ha hf_dr hq_ha hq_dr (by first | omega | decide | assumption) (by first | omega | decide | assumption) (by omega)) (cwV 0 hT (z_goodV (fun _ h => h) kw_1438 kw_1440 kw_45 kw_96 kw_1441) rfl rfl rfl (by decide +kernel) ⟨by decide, by decide⟩) z_mv hKK hK hw hA hm_mm hf_mm rfl rfl rfl hl.1 rfl (Nat.le_of_ble_eq_true rfl) dX10_line_98 ⟨by decide, by decide⟩ (fun u H locs hp hw => ?_)
                obtain ⟨L493, f494⟩ := u
                obtain ⟨hsb, hfm, a2_495, k2_496, p2_497, v2_498, b2_499, q2_500, w2_501, nha_502, ndr_503, ha_0, ha_1, ha_2, hq_ha, hq_dr, hp⟩ := hp
                have hsb : L = L493 := hsb
                subst hsb
                have hsb : ∀ b ∈ L, b ∈ L := fun _ h => h
                have hw : z_H D vwCl (z_A L sz) s.heap L f494 H locs := hw
                have hfr : ∀ b ∈ L, b ≠ mm → b ≠ ha → b ≠ lw → b ≠ st → b ≠ fo → b ≠ dr → f494 b = f b := fun b hb h0 h1 h2 h3 h4 h5 => (hfm b hb h0 h1 h5).trans (hfr b hb h0 h1 h2 h3 h4 h5)
                have hf_ta : f494 ta = .inl (cy 0, 1600, .inl gta) := (hfm ta hm_ta (z_tne hf_ta hf_mm (m := 12900) (n := 10) rfl rfl (by decide)) (z_tne hf_ta hf_ha (m := 12900) (n := 340) rfl rfl (by decide)) (z_tne hf_ta hf_dr (m := 12900) (n := 4260) rfl rfl (by decide))).trans hf_ta
                have hf_lw : f494 lw = .inl (cy 1, 25, .inl glw) := (hfm lw hm_lw (z_tne hf_lw hf_mm (m := 300) (n := 10) rfl rfl (by decide)) (z_tne hf_lw hf_ha (m := 300) (n := 340) rfl rfl (by decide)) (z_tne hf_lw hf_dr (m := 300) (n := 4260) rfl rfl (by decide))).trans hf_lw
                have hf_st : f494 st = .inl (cy 1, 20, .inl gst) := (hfm st hm_st (z_tne hf_st hf_mm (m := 260) (n := 10) rfl rfl (by decide)) (z_tne hf_st hf_ha (m := 260) (n := 340) rfl rfl (by decide)) (z_tne hf_st hf_dr (m := 260) (n := 4260) rfl rfl (by decide))).trans hf_st
                have hf_fo : f494 fo = .inl (cy 1, 180, .inl gfo) := (hfm fo hm_fo (z_tne hf_fo hf_mm (m := 1540) (n := 10) rfl rfl (by decide)) (z_tne hf_fo hf_ha (m := 1540) (n := 340) rfl rfl (by decide)) (z_tne hf_fo hf_dr (m := 1540) (n := 4260) rfl rfl (by decide))).trans hf_fo
                have hf_mm : f494 mm = .inr (10, [.int m0, .ref wd, .ref my, .ref ce, .ref mv, .ref ta, .int m6, .int a2_495, .int k2_496, .int p2_497, .int v2_498, .long w2_501, .int b2_499, .int q2_500, .int m14, .int m15, .ref li, .ref ha, .ref lw, .ref st, .ref fo, .ref dr, .int m22, .ref ik, .int m24, .int m25, .long m26, .int m27, .int m28, .ref ro, .int m30, .ref ct, .ref se, .ref th, .ref cn, .ref be, .int m36, .ref du, .int m38, .ref db, .int m40, .int m41, .int m42, .ref pn, .ref wg, .ref wh, .ref tn, .ref he, .int m48, .ref tr, .ref fd, .ref po, .int m52, .int m53]) := ha_0
                have hf_ha : f494 ha = .inl (cy 1, 30, .inl nha_502) := ha_1
                have hf_dr : f494 dr = .inl (cy 1, 520, .inl ndr_503) := ha_2
                have hC_ : (0 ≤ a2_495.toInt ∧ a2_495.toInt ≤ m6.toInt) ∧ m7.toInt ≤ a2_495.toInt ∧ (b2_499.toInt ≠ 0 ∨ m12.toInt = 0) ∧ (b2_499.toInt ≠ 0 ∨ k2_496.toInt ≠ 3 ∨ m7.toInt < a2_495.toInt) := by refine ⟨⟨?_, ?_⟩, ?_, ?_, ?_⟩ <;> omega
                clear hp
                replace hC := hC_
                clear hC_
                refine lv_goto (tgt := 335) hx hb dX10_line_101 (by decide) ?_
                exact z_vret hx hb hr hlk (by decide) (by decide) hw (⟨hsub, hfr, a2_495, k2_496, p2_497, v2_498, b2_499, q2_500, m22, w2_501, nha_502, glw, gst, gfo, ndr_503, hf_mm, hf_ha, hf_lw, hf_st, hf_fo, hf_dr, hq_ha, hq_lw, hq_st, hq_dr, by omega, by omega, by omega, by omega, rfl⟩) dX10_line_335
              · skip
                exact z_vret hx hb hr hlk (by decide) (by decide) hw (⟨hsub, hfr, m7, m8, m9, m10, b2_452, p2_453, m22, m11, gha, glw, gst, gfo, gdr, hf_mm, hf_ha, hf_lw, hf_st, hf_fo, hf_dr, hq_ha, hq_lw, hq_st, hq_dr, by omega, by omega, by omega, by omega, rfl⟩) dX10_line_88
      · skip
        refine lv_istore_n (lv' := [(3, .int 0), (2, .int 0), (1, .int 1), (0, .ref mm)]) hx hb dX10_line_23 rfl hl (by decide) rfl (fun ls hl => ?_)
        refine lv_iload_n hx hb dX10_line_24 rfl (lv_at hl 0 rfl) ?_
        refine z_if_eq (tgt := 48) hx hb (show (0 : Int32).toInt = 0 by decide) dX10_line_25 (by decide) (fun _ => ?_) (fun h => absurd h (by decide))
        refine lv_iload_n hx hb dX10_line_48 rfl (lv_at hl 2 rfl) ?_
        refine z_if_eq (tgt := 62) hx hb (show (1 : Int32).toInt = 1 by decide) dX10_line_49 (by decide) (fun h => absurd h (by decide)) (fun _ => ?_)
        refine lv_aload_n hx hb dX10_line_52 rfl (lv_at hl 3 rfl) ?_
        refine lv_iconst (v := 3) hx hb dX10_line_53 (by decide) ?_
        have hz504 := (show (3 : Int32).toInt = 3 by decide)
        refine z_calliV (cells := 0) (slots := 0) (b := mm) (As := [.int 3]) (rest := []) (ci := 10) (q0 := (RX10, TX10, 54)) ⟨hx, hb, hml, hown, hT⟩ (c_X10_hasRead l hm_mm hm_ha hf_mm hf_ha hq_ha (by decide)) (cwV 1 hT (z_goodV (fun _ h => h) kw_1434 kw_1436 kw_44 kw_96 kw_1437) rfl rfl rfl (by decide +kernel) ⟨by decide, by decide⟩) z_mv hKK hK hw hA hm_mm hf_mm rfl rfl rfl hl.1 rfl (Nat.le_of_ble_eq_true rfl) dX10_line_54 ⟨by decide, by decide⟩ (fun r505 u H locs hp hw => ?_)
        obtain ⟨rfl, hp⟩ := hp
        have hw : z_H D vwCl (z_A L sz) s.heap L f H locs := hw
        have h3e506 : (gha 27).toInt = r505.toInt := by rw [hp]; rfl
        have hh507 : 0 ≤ r505.toInt ∧ r505.toInt ≤ 12 := by rw [hp]; exact (hq_ha 27).1.2.2.2 rfl
        refine lv_bipush (v := 12) hx hb dX10_line_57 (by decide) ?_
        refine z_icmp_eq (tgt := 76) hx hb rfl (show (12 : Int32).toInt = 12 by decide) dX10_line_59 (by decide) (fun c508 => ?_) (fun c508 => ?_)
        · skip
          refine lv_aload_n hx hb dX10_line_76 rfl (lv_at hl 3 rfl) ?_
          refine lv_iconst (v := 3) hx hb dX10_line_77 (by decide) ?_
          have hz509 := (show (3 : Int32).toInt = 3 by decide)
          refine z_callvV (cells := 0) (slots := 0) (b := mm) (As := [.int 3]) (rest := []) (ci := 10) (q0 := (RX10, TX10, 54)) ⟨hx, hb, hml, hown, hT⟩ (c_X10_fails l hm_mm hf_mm (by first | omega | decide | assumption)) (cwV 1 hT (z_goodV (fun _ h => h) kw_1411 kw_1413 kw_40 kw_96 kw_1414) rfl rfl rfl (by decide +kernel) ⟨by decide, by decide⟩) z_mv hKK hK hw hA hm_mm hf_mm rfl rfl rfl hl.1 rfl (Nat.le_of_ble_eq_true rfl) dX10_line_78 ⟨by decide, by decide⟩ (fun u H locs hp hw => ?_)
          obtain ⟨L510, f511⟩ := u
          obtain ⟨hsb, hfm, b2_512, p2_513, ha_0, hp⟩ := hp
          have hsb : L = L510 := hsb
          subst hsb
          have hsb : ∀ b ∈ L, b ∈ L := fun _ h => h
          have hw : z_H D vwCl (z_A L sz) s.heap L f511 H locs := hw
          have hfr : ∀ b ∈ L, b ≠ mm → b ≠ ha → b ≠ lw → b ≠ st → b ≠ fo → b ≠ dr → f511 b = f b := fun b hb h0 h1 h2 h3 h4 h5 => (hfm b hb h0).trans (hfr b hb h0 h1 h2 h3 h4 h5)
          have hf_ta : f511 ta = .inl (cy 0, 1600, .inl gta) := (hfm ta hm_ta (z_tne hf_ta hf_mm (m := 12900) (n := 10) rfl rfl (by decide))).trans hf_ta
          have hf_ha : f511 ha = .inl (cy 1, 30, .inl gha) := (hfm ha hm_ha (z_tne hf_ha hf_mm (m := 340) (n := 10) rfl rfl (by decide))).trans hf_ha
          have hf_lw : f511 lw = .inl (cy 1, 25, .inl glw) := (hfm lw hm_lw (z_tne hf_lw hf_mm (m := 300) (n := 10) rfl rfl (by decide))).trans hf_lw
          have hf_st : f511 st = .inl (cy 1, 20, .inl gst) := (hfm st hm_st (z_tne hf_st hf_mm (m := 260) (n := 10) rfl rfl (by decide))).trans hf_st
          have hf_fo : f511 fo = .inl (cy 1, 180, .inl gfo) := (hfm fo hm_fo (z_tne hf_fo hf_mm (m := 1540) (n := 10) rfl rfl (by decide))).trans hf_fo
          have hf_dr : f511 dr = .inl (cy 1, 520, .inl gdr) := (hfm dr hm_dr (z_tne hf_dr hf_mm (m := 4260) (n := 10) rfl rfl (by decide))).trans hf_dr
          have hf_mm : f511 mm = .inr (10, [.int m0, .ref wd, .ref my, .ref ce, .ref mv, .ref ta, .int m6, .int m7, .int m8, .int m9, .int m10, .long m11, .int b2_512, .int p2_513, .int m14, .int m15, .ref li, .ref ha, .ref lw, .ref st, .ref fo, .ref dr, .int m22, .ref ik, .int m24, .int m25, .long m26, .int m27, .int m28, .ref ro, .int m30, .ref ct, .ref se, .ref th, .ref cn, .ref be, .int m36, .ref du, .int m38, .ref db, .int m40, .int m41, .int m42, .ref pn, .ref wg, .ref wh, .ref tn, .ref he, .int m48, .ref tr, .ref fd, .ref po, .int m52, .int m53]) := ha_0
          have hq514 := hp
          refine lv_aload_n hx hb dX10_line_81 rfl (lv_at hl 3 rfl) ?_
          refine z_get (C := RX10) (T := TX10) (N := 54) (ci := 10) (v := .int b2_512) hx hb hT zin_X10 hown hK hw hm_mm hf_mm rfl 12 (by decide) (hT _ kw_1180) rfl dX10_line_82 ?_
          refine z_if_eq (tgt := 89) hx hb rfl dX10_line_85 (by decide) (fun c515 => ?_) (fun c515 => ?_)
          · skip
            refine lv_iload_n hx hb dX10_line_89 rfl (lv_at hl 2 rfl) ?_
            refine z_if_eq (tgt := 104) hx hb (show (1 : Int32).toInt = 1 by decide) dX10_line_90 (by decide) (fun h => absurd h (by decide)) (fun _ => ?_)
            refine lv_aload_n hx hb dX10_line_93 rfl (lv_at hl 3 rfl) ?_
            refine z_callvV (cells := 0) (slots := 0) (b := mm) (As := []) (rest := []) (ci := 10) (q0 := (RX10, TX10, 54)) ⟨hx, hb, hml, hown, hT⟩ (c_X10_next l hm_mm hm_ta hf_mm hf_ta (by first | omega | decide | assumption) (by first | omega | decide | assumption)) (cwV 0 hT (z_goodV (fun _ h => h) kw_1381 kw_1383 kw_34 kw_96 kw_1384) rfl rfl rfl (by decide +kernel) ⟨by decide, by decide⟩) z_mv hKK hK hw hA hm_mm hf_mm rfl rfl rfl hl.1 rfl (Nat.le_of_ble_eq_true rfl) dX10_line_94 ⟨by decide, by decide⟩ (fun u H locs hp hw => ?_)
            obtain ⟨L516, f517⟩ := u
            obtain ⟨hsb, hfm, a2_518, k2_519, p2_520, v2_521, w2_522, ha_0, hp⟩ := hp
            have hsb : L = L516 := hsb
            subst hsb
            have hsb : ∀ b ∈ L, b ∈ L := fun _ h => h
            have hw : z_H D vwCl (z_A L sz) s.heap L f517 H locs := hw
            have hfr : ∀ b ∈ L, b ≠ mm → b ≠ ha → b ≠ lw → b ≠ st → b ≠ fo → b ≠ dr → f517 b = f b := fun b hb h0 h1 h2 h3 h4 h5 => (hfm b hb h0).trans (hfr b hb h0 h1 h2 h3 h4 h5)
            have hf_ta : f517 ta = .inl (cy 0, 1600, .inl gta) := (hfm ta hm_ta (z_tne hf_ta hf_mm (m := 12900) (n := 10) rfl rfl (by decide))).trans hf_ta
            have hf_ha : f517 ha = .inl (cy 1, 30, .inl gha) := (hfm ha hm_ha (z_tne hf_ha hf_mm (m := 340) (n := 10) rfl rfl (by decide))).trans hf_ha
            have hf_lw : f517 lw = .inl (cy 1, 25, .inl glw) := (hfm lw hm_lw (z_tne hf_lw hf_mm (m := 300) (n := 10) rfl rfl (by decide))).trans hf_lw
            have hf_st : f517 st = .inl (cy 1, 20, .inl gst) := (hfm st hm_st (z_tne hf_st hf_mm (m := 260) (n := 10) rfl rfl (by decide))).trans hf_st
            have hf_fo : f517 fo = .inl (cy 1, 180, .inl gfo) := (hfm fo hm_fo (z_tne hf_fo hf_mm (m := 1540) (n := 10) rfl rfl (by decide))).trans hf_fo
            have hf_dr : f517 dr = .inl (cy 1, 520, .inl gdr) := (hfm dr hm_dr (z_tne hf_dr hf_mm (m := 4260) (n := 10) rfl rfl (by decide))).trans hf_dr
            have hf_mm : f517 mm = .inr (10, [.int m0, .ref wd, .ref my, .ref ce, .ref mv, .ref ta, .int m6, .int a2_518, .int k2_519, .int p2_520, .int v2_521, .long w2_522, .int b2_512, .int p2_513, .int m14, .int m15, .ref li, .ref ha, .ref lw, .ref st, .ref fo, .ref dr, .int m22, .ref ik, .int m24, .int m25, .long m26, .int m27, .int m28, .ref ro, .int m30, .ref ct, .ref se, .ref th, .ref cn, .ref be, .int m36, .ref du, .int m38, .ref db, .int m40, .int m41, .int m42, .ref pn, .ref wg, .ref wh, .ref tn, .ref he, .int m48, .ref tr, .ref fd, .ref po, .int m52, .int m53]) := ha_0
            have hC_ : (0 ≤ a2_518.toInt ∧ a2_518.toInt ≤ m6.toInt) ∧ m7.toInt ≤ a2_518.toInt ∧ (b2_512.toInt ≠ 0 ∨ m12.toInt = 0) ∧ (b2_512.toInt ≠ 0 ∨ k2_519.toInt ≠ 3 ∨ m7.toInt < a2_518.toInt) := by refine ⟨⟨?_, ?_⟩, ?_, ?_, ?_⟩ <;> omega
            clear hp
            replace hC := hC_
            clear hC_
            refine lv_aload_n hx hb dX10_line_97 rfl (lv_at hl 3 rfl) ?_
            refine z_callvV (cells := 0) (slots := 0) (b := mm) (As := []) (rest := []) (ci := 10) (q0 := (RX10, TX10, 54)) ⟨hx, hb, hml, hown, hT⟩ (c_X10_driveLine l hm_mm hm_ta hm_ha hm_dr hf_mm hf_ta hf_ha hf_dr hq_ha hq_dr (by first | omega | decide | assumption) (by first | omega | decide | assumption) (by omega)) (cwV 0 hT (z_goodV (fun _ h => h) kw_1438 kw_1440 kw_45 kw_96 kw_1441) rfl rfl rfl (by decide +kernel) ⟨by decide, by decide⟩) z_mv hKK hK hw hA hm_mm hf_mm rfl rfl rfl hl.1 rfl (Nat.le_of_ble_eq_true rfl) dX10_line_98 ⟨by decide, by decide⟩ (fun u H locs hp hw => ?_)
            obtain ⟨L523, f524⟩ := u
            obtain ⟨hsb, hfm, a2_525, k2_526, p2_527, v2_528, b2_529, q2_530, w2_531, nha_532, ndr_533, ha_0, ha_1, ha_2, hq_ha, hq_dr, hp⟩ := hp
            have hsb : L = L523 := hsb
            subst hsb
            have hsb : ∀ b ∈ L, b ∈ L := fun _ h => h
            have hw : z_H D vwCl (z_A L sz) s.heap L f524 H locs := hw
            have hfr : ∀ b ∈ L, b ≠ mm → b ≠ ha → b ≠ lw → b ≠ st → b ≠ fo → b ≠ dr → f524 b = f b := fun b hb h0 h1 h2 h3 h4 h5 => (hfm b hb h0 h1 h5).trans (hfr b hb h0 h1 h2 h3 h4 h5)
            have hf_ta : f524 ta = .inl (cy 0, 1600, .inl gta) := (hfm ta hm_ta (z_tne hf_ta hf_mm (m := 12900) (n := 10) rfl rfl (by decide)) (z_tne hf_ta hf_ha (m := 12900) (n := 340) rfl rfl (by decide)) (z_tne hf_ta hf_dr (m := 12900) (n := 4260) rfl rfl (by decide))).trans hf_ta
            have hf_lw : f524 lw = .inl (cy 1, 25, .inl glw) := (hfm lw hm_lw (z_tne hf_lw hf_mm (m := 300) (n := 10) rfl rfl (by decide)) (z_tne hf_lw hf_ha (m := 300) (n := 340) rfl rfl (by decide)) (z_tne hf_lw hf_dr (m := 300) (n := 4260) rfl rfl (by decide))).trans hf_lw
            have hf_st : f524 st = .inl (cy 1, 20, .inl gst) := (hfm st hm_st (z_tne hf_st hf_mm (m := 260) (n := 10) rfl rfl (by decide)) (z_tne hf_st hf_ha (m := 260) (n := 340) rfl rfl (by decide)) (z_tne hf_st hf_dr (m := 260) (n := 4260) rfl rfl (by decide))).trans hf_st
            have hf_fo : f524 fo = .inl (cy 1, 180, .inl gfo) := (hfm fo hm_fo (z_tne hf_fo hf_mm (m := 1540) (n := 10) rfl rfl (by decide)) (z_tne hf_fo hf_ha (m := 1540) (n := 340) rfl rfl (by decide)) (z_tne hf_fo hf_dr (m := 1540) (n := 4260) rfl rfl (by decide))).trans hf_fo
            have hf_mm : f524 mm = .inr (10, [.int m0, .ref wd, .ref my, .ref ce, .ref mv, .ref ta, .int m6, .int a2_525, .int k2_526, .int p2_527, .int v2_528, .long w2_531, .int b2_529, .int q2_530, .int m14, .int m15, .ref li, .ref ha, .ref lw, .ref st, .ref fo, .ref dr, .int m22, .ref ik, .int m24, .int m25, .long m26, .int m27, .int m28, .ref ro, .int m30, .ref ct, .ref se, .ref th, .ref cn, .ref be, .int m36, .ref du, .int m38, .ref db, .int m40, .int m41, .int m42, .ref pn, .ref wg, .ref wh, .ref tn, .ref he, .int m48, .ref tr, .ref fd, .ref po, .int m52, .int m53]) := ha_0
            have hf_ha : f524 ha = .inl (cy 1, 30, .inl nha_532) := ha_1
            have hf_dr : f524 dr = .inl (cy 1, 520, .inl ndr_533) := ha_2
            have hC_ : (0 ≤ a2_525.toInt ∧ a2_525.toInt ≤ m6.toInt) ∧ m7.toInt ≤ a2_525.toInt ∧ (b2_529.toInt ≠ 0 ∨ m12.toInt = 0) ∧ (b2_529.toInt ≠ 0 ∨ k2_526.toInt ≠ 3 ∨ m7.toInt < a2_525.toInt) := by refine ⟨⟨?_, ?_⟩, ?_, ?_, ?_⟩ <;> omega
            clear hp
            replace hC := hC_
            clear hC_
            refine lv_goto (tgt := 335) hx hb dX10_line_101 (by decide) ?_
            exact z_vret hx hb hr hlk (by decide) (by decide) hw (⟨hsub, hfr, a2_525, k2_526, p2_527, v2_528, b2_529, q2_530, m22, w2_531, nha_532, glw, gst, gfo, ndr_533, hf_mm, hf_ha, hf_lw, hf_st, hf_fo, hf_dr, hq_ha, hq_lw, hq_st, hq_dr, by omega, by omega, by omega, by omega, rfl⟩) dX10_line_335
          · skip
            exact z_vret hx hb hr hlk (by decide) (by decide) hw (⟨hsub, hfr, m7, m8, m9, m10, b2_512, p2_513, m22, m11, gha, glw, gst, gfo, gdr, hf_mm, hf_ha, hf_lw, hf_st, hf_fo, hf_dr, hq_ha, hq_lw, hq_st, hq_dr, by omega, by omega, by omega, by omega, rfl⟩) dX10_line_88
        · skip
          refine lv_iload_n hx hb dX10_line_62 rfl (lv_at hl 1 rfl) ?_
          refine z_if_eq (tgt := 81) hx hb (show (0 : Int32).toInt = 0 by decide) dX10_line_63 (by decide) (fun _ => ?_) (fun h => absurd h (by decide))
          refine lv_aload_n hx hb dX10_line_81 rfl (lv_at hl 3 rfl) ?_
          refine z_get (C := RX10) (T := TX10) (N := 54) (ci := 10) (v := .int m12) hx hb hT zin_X10 hown hK hw hm_mm hf_mm rfl 12 (by decide) (hT _ kw_1180) rfl dX10_line_82 ?_
          refine z_if_eq (tgt := 89) hx hb rfl dX10_line_85 (by decide) (fun c534 => ?_) (fun c534 => ?_)
          · skip
            refine lv_iload_n hx hb dX10_line_89 rfl (lv_at hl 2 rfl) ?_
            refine z_if_eq (tgt := 104) hx hb (show (1 : Int32).toInt = 1 by decide) dX10_line_90 (by decide) (fun h => absurd h (by decide)) (fun _ => ?_)
            refine lv_aload_n hx hb dX10_line_93 rfl (lv_at hl 3 rfl) ?_
            refine z_callvV (cells := 0) (slots := 0) (b := mm) (As := []) (rest := []) (ci := 10) (q0 := (RX10, TX10, 54)) ⟨hx, hb, hml, hown, hT⟩ (c_X10_next l hm_mm hm_ta hf_mm hf_ta (by first | omega | decide | assumption) (by first | omega | decide | assumption)) (cwV 0 hT (z_goodV (fun _ h => h) kw_1381 kw_1383 kw_34 kw_96 kw_1384) rfl rfl rfl (by decide +kernel) ⟨by decide, by decide⟩) z_mv hKK hK hw hA hm_mm hf_mm rfl rfl rfl hl.1 rfl (Nat.le_of_ble_eq_true rfl) dX10_line_94 ⟨by decide, by decide⟩ (fun u H locs hp hw => ?_)
            obtain ⟨L535, f536⟩ := u
            obtain ⟨hsb, hfm, a2_537, k2_538, p2_539, v2_540, w2_541, ha_0, hp⟩ := hp
            have hsb : L = L535 := hsb
            subst hsb
            have hsb : ∀ b ∈ L, b ∈ L := fun _ h => h
            have hw : z_H D vwCl (z_A L sz) s.heap L f536 H locs := hw
            have hfr : ∀ b ∈ L, b ≠ mm → b ≠ ha → b ≠ lw → b ≠ st → b ≠ fo → b ≠ dr → f536 b = f b := fun b hb h0 h1 h2 h3 h4 h5 => (hfm b hb h0).trans (hfr b hb h0 h1 h2 h3 h4 h5)
            have hf_ta : f536 ta = .inl (cy 0, 1600, .inl gta) := (hfm ta hm_ta (z_tne hf_ta hf_mm (m := 12900) (n := 10) rfl rfl (by decide))).trans hf_ta
            have hf_ha : f536 ha = .inl (cy 1, 30, .inl gha) := (hfm ha hm_ha (z_tne hf_ha hf_mm (m := 340) (n := 10) rfl rfl (by decide))).trans hf_ha
            have hf_lw : f536 lw = .inl (cy 1, 25, .inl glw) := (hfm lw hm_lw (z_tne hf_lw hf_mm (m := 300) (n := 10) rfl rfl (by decide))).trans hf_lw
            have hf_st : f536 st = .inl (cy 1, 20, .inl gst) := (hfm st hm_st (z_tne hf_st hf_mm (m := 260) (n := 10) rfl rfl (by decide))).trans hf_st
            have hf_fo : f536 fo = .inl (cy 1, 180, .inl gfo) := (hfm fo hm_fo (z_tne hf_fo hf_mm (m := 1540) (n := 10) rfl rfl (by decide))).trans hf_fo
            have hf_dr : f536 dr = .inl (cy 1, 520, .inl gdr) := (hfm dr hm_dr (z_tne hf_dr hf_mm (m := 4260) (n := 10) rfl rfl (by decide))).trans hf_dr
            have hf_mm : f536 mm = .inr (10, [.int m0, .ref wd, .ref my, .ref ce, .ref mv, .ref ta, .int m6, .int a2_537, .int k2_538, .int p2_539, .int v2_540, .long w2_541, .int m12, .int m13, .int m14, .int m15, .ref li, .ref ha, .ref lw, .ref st, .ref fo, .ref dr, .int m22, .ref ik, .int m24, .int m25, .long m26, .int m27, .int m28, .ref ro, .int m30, .ref ct, .ref se, .ref th, .ref cn, .ref be, .int m36, .ref du, .int m38, .ref db, .int m40, .int m41, .int m42, .ref pn, .ref wg, .ref wh, .ref tn, .ref he, .int m48, .ref tr, .ref fd, .ref po, .int m52, .int m53]) := ha_0
            have hC_ : (0 ≤ a2_537.toInt ∧ a2_537.toInt ≤ m6.toInt) ∧ m7.toInt ≤ a2_537.toInt ∧ (m12.toInt ≠ 0 ∨ m12.toInt = 0) ∧ (m12.toInt ≠ 0 ∨ k2_538.toInt ≠ 3 ∨ m7.toInt < a2_537.toInt) := by refine ⟨⟨?_, ?_⟩, ?_, ?_, ?_⟩ <;> omega
            clear hp
            replace hC := hC_
            clear hC_
            refine lv_aload_n hx hb dX10_line_97 rfl (lv_at hl 3 rfl) ?_
            refine z_callvV (cells := 0) (slots := 0) (b := mm) (As := []) (rest := []) (ci := 10) (q0 := (RX10, TX10, 54)) ⟨hx, hb, hml, hown, hT⟩ (c_X10_driveLine l hm_mm hm_ta hm_ha hm_dr hf_mm hf_ta hf_ha hf_dr hq_ha hq_dr (by first | omega | decide | assumption) (by first | omega | decide | assumption) (by omega)) (cwV 0 hT (z_goodV (fun _ h => h) kw_1438 kw_1440 kw_45 kw_96 kw_1441) rfl rfl rfl (by decide +kernel) ⟨by decide, by decide⟩) z_mv hKK hK hw hA hm_mm hf_mm rfl rfl rfl hl.1 rfl (Nat.le_of_ble_eq_true rfl) dX10_line_98 ⟨by decide, by decide⟩ (fun u H locs hp hw => ?_)
            obtain ⟨L542, f543⟩ := u
            obtain ⟨hsb, hfm, a2_544, k2_545, p2_546, v2_547, b2_548, q2_549, w2_550, nha_551, ndr_552, ha_0, ha_1, ha_2, hq_ha, hq_dr, hp⟩ := hp
            have hsb : L = L542 := hsb
            subst hsb
            have hsb : ∀ b ∈ L, b ∈ L := fun _ h => h
            have hw : z_H D vwCl (z_A L sz) s.heap L f543 H locs := hw
            have hfr : ∀ b ∈ L, b ≠ mm → b ≠ ha → b ≠ lw → b ≠ st → b ≠ fo → b ≠ dr → f543 b = f b := fun b hb h0 h1 h2 h3 h4 h5 => (hfm b hb h0 h1 h5).trans (hfr b hb h0 h1 h2 h3 h4 h5)
            have hf_ta : f543 ta = .inl (cy 0, 1600, .inl gta) := (hfm ta hm_ta (z_tne hf_ta hf_mm (m := 12900) (n := 10) rfl rfl (by decide)) (z_tne hf_ta hf_ha (m := 12900) (n := 340) rfl rfl (by decide)) (z_tne hf_ta hf_dr (m := 12900) (n := 4260) rfl rfl (by decide))).trans hf_ta
            have hf_lw : f543 lw = .inl (cy 1, 25, .inl glw) := (hfm lw hm_lw (z_tne hf_lw hf_mm (m := 300) (n := 10) rfl rfl (by decide)) (z_tne hf_lw hf_ha (m := 300) (n := 340) rfl rfl (by decide)) (z_tne hf_lw hf_dr (m := 300) (n := 4260) rfl rfl (by decide))).trans hf_lw
            have hf_st : f543 st = .inl (cy 1, 20, .inl gst) := (hfm st hm_st (z_tne hf_st hf_mm (m := 260) (n := 10) rfl rfl (by decide)) (z_tne hf_st hf_ha (m := 260) (n := 340) rfl rfl (by decide)) (z_tne hf_st hf_dr (m := 260) (n := 4260) rfl rfl (by decide))).trans hf_st
            have hf_fo : f543 fo = .inl (cy 1, 180, .inl gfo) := (hfm fo hm_fo (z_tne hf_fo hf_mm (m := 1540) (n := 10) rfl rfl (by decide)) (z_tne hf_fo hf_ha (m := 1540) (n := 340) rfl rfl (by decide)) (z_tne hf_fo hf_dr (m := 1540) (n := 4260) rfl rfl (by decide))).trans hf_fo
            have hf_mm : f543 mm = .inr (10, [.int m0, .ref wd, .ref my, .ref ce, .ref mv, .ref ta, .int m6, .int a2_544, .int k2_545, .int p2_546, .int v2_547, .long w2_550, .int b2_548, .int q2_549, .int m14, .int m15, .ref li, .ref ha, .ref lw, .ref st, .ref fo, .ref dr, .int m22, .ref ik, .int m24, .int m25, .long m26, .int m27, .int m28, .ref ro, .int m30, .ref ct, .ref se, .ref th, .ref cn, .ref be, .int m36, .ref du, .int m38, .ref db, .int m40, .int m41, .int m42, .ref pn, .ref wg, .ref wh, .ref tn, .ref he, .int m48, .ref tr, .ref fd, .ref po, .int m52, .int m53]) := ha_0
            have hf_ha : f543 ha = .inl (cy 1, 30, .inl nha_551) := ha_1
            have hf_dr : f543 dr = .inl (cy 1, 520, .inl ndr_552) := ha_2
            have hC_ : (0 ≤ a2_544.toInt ∧ a2_544.toInt ≤ m6.toInt) ∧ m7.toInt ≤ a2_544.toInt ∧ (b2_548.toInt ≠ 0 ∨ m12.toInt = 0) ∧ (b2_548.toInt ≠ 0 ∨ k2_545.toInt ≠ 3 ∨ m7.toInt < a2_544.toInt) := by refine ⟨⟨?_, ?_⟩, ?_, ?_, ?_⟩ <;> omega
            clear hp
            replace hC := hC_
            clear hC_
            refine lv_goto (tgt := 335) hx hb dX10_line_101 (by decide) ?_
            exact z_vret hx hb hr hlk (by decide) (by decide) hw (⟨hsub, hfr, a2_544, k2_545, p2_546, v2_547, b2_548, q2_549, m22, w2_550, nha_551, glw, gst, gfo, ndr_552, hf_mm, hf_ha, hf_lw, hf_st, hf_fo, hf_dr, hq_ha, hq_lw, hq_st, hq_dr, by omega, by omega, by omega, by omega, rfl⟩) dX10_line_335
          · skip
            exact z_vret hx hb hr hlk (by decide) (by decide) hw (⟨hsub, hfr, m7, m8, m9, m10, m12, m13, m22, m11, gha, glw, gst, gfo, gdr, hf_mm, hf_ha, hf_lw, hf_st, hf_fo, hf_dr, hq_ha, hq_lw, hq_st, hq_dr, by omega, by omega, by omega, by omega, rfl⟩) dX10_line_88
  · skip
    refine lv_istore_n (lv' := [(1, .int 0), (0, .ref mm)]) hx hb dX10_line_7 rfl hl (by decide) rfl (fun ls hl => ?_)
    refine lv_aload_n hx hb dX10_line_8 rfl (lv_at hl 1 rfl) ?_
    refine lv_ldc2 (v := 4786) hx hb hown (hT _ kw_1432) dX10_line_9 ?_
    have hz553 := (show (4786 : Int64).toInt = 4786 by decide)
    refine z_calliV (cells := 0) (slots := 0) (b := mm) (As := [.long 4786]) (rest := []) (ci := 10) (q0 := (RX10, TX10, 54)) ⟨hx, hb, hml, hown, hT⟩ (c_X10_is l hm_mm hf_mm) (cwV 1 hT (z_goodV (fun _ h => h) kw_1407 kw_1409 kw_39 kw_96 kw_1410) rfl rfl rfl (by decide +kernel) ⟨by decide, by decide⟩) z_mv hKK hK hw hA hm_mm hf_mm rfl rfl rfl hl.1 rfl (Nat.le_of_ble_eq_true rfl) dX10_line_12 ⟨by decide, by decide⟩ (fun r554 u H locs hp hw => ?_)
    obtain ⟨rfl, hp⟩ := hp
    have hw : z_H D vwCl (z_A L sz) s.heap L f H locs := hw
    rcases hp with ⟨rfl, h555⟩ | ⟨rfl, h555⟩
    · skip
      refine lv_istore_n (lv' := [(2, .int 1), (1, .int 0), (0, .ref mm)]) hx hb dX10_line_15 rfl hl (by decide) rfl (fun ls hl => ?_)
      refine lv_aload_n hx hb dX10_line_16 rfl (lv_at hl 2 rfl) ?_
      refine lv_ldc2 (v := 227736460) hx hb hown (hT _ kw_1433) dX10_line_17 ?_
      have hz556 := (show (227736460 : Int64).toInt = 227736460 by decide)
      refine z_calliV (cells := 0) (slots := 0) (b := mm) (As := [.long 227736460]) (rest := []) (ci := 10) (q0 := (RX10, TX10, 54)) ⟨hx, hb, hml, hown, hT⟩ (c_X10_is l hm_mm hf_mm) (cwV 1 hT (z_goodV (fun _ h => h) kw_1407 kw_1409 kw_39 kw_96 kw_1410) rfl rfl rfl (by decide +kernel) ⟨by decide, by decide⟩) z_mv hKK hK hw hA hm_mm hf_mm rfl rfl rfl hl.1 rfl (Nat.le_of_ble_eq_true rfl) dX10_line_20 ⟨by decide, by decide⟩ (fun r557 u H locs hp hw => ?_)
      obtain ⟨rfl, hp⟩ := hp
      have hw : z_H D vwCl (z_A L sz) s.heap L f H locs := hw
      rcases hp with ⟨rfl, h558⟩ | ⟨rfl, h558⟩
      · skip
        refine lv_istore_n (lv' := [(3, .int 1), (2, .int 1), (1, .int 0), (0, .ref mm)]) hx hb dX10_line_23 rfl hl (by decide) rfl (fun ls hl => ?_)
        refine lv_iload_n hx hb dX10_line_24 rfl (lv_at hl 0 rfl) ?_
        refine z_if_eq (tgt := 48) hx hb (show (1 : Int32).toInt = 1 by decide) dX10_line_25 (by decide) (fun h => absurd h (by decide)) (fun _ => ?_)
        refine lv_aload_n hx hb dX10_line_28 rfl (lv_at hl 3 rfl) ?_
        refine z_get (C := RX10) (T := TX10) (N := 54) (ci := 10) (v := .int m22) hx hb hT zin_X10 hown hK hw hm_mm hf_mm rfl 22 (by decide) (hT _ kw_1190) rfl dX10_line_29 ?_
        refine z_if_ne (tgt := 43) hx hb rfl dX10_line_32 (by decide) (fun c559 => ?_) (fun c559 => ?_)
        · skip
          refine lv_aload_n hx hb dX10_line_43 rfl (lv_at hl 3 rfl) ?_
          refine lv_iconst (v := 2) hx hb dX10_line_44 (by decide) ?_
          have hz560 := (show (2 : Int32).toInt = 2 by decide)
          refine z_callvV (cells := 0) (slots := 0) (b := mm) (As := [.int 2]) (rest := []) (ci := 10) (q0 := (RX10, TX10, 54)) ⟨hx, hb, hml, hown, hT⟩ (c_X10_fails l hm_mm hf_mm (by first | omega | decide | assumption)) (cwV 1 hT (z_goodV (fun _ h => h) kw_1411 kw_1413 kw_40 kw_96 kw_1414) rfl rfl rfl (by decide +kernel) ⟨by decide, by decide⟩) z_mv hKK hK hw hA hm_mm hf_mm rfl rfl rfl hl.1 rfl (Nat.le_of_ble_eq_true rfl) dX10_line_45 ⟨by decide, by decide⟩ (fun u H locs hp hw => ?_)
          obtain ⟨L561, f562⟩ := u
          obtain ⟨hsb, hfm, b2_563, p2_564, ha_0, hp⟩ := hp
          have hsb : L = L561 := hsb
          subst hsb
          have hsb : ∀ b ∈ L, b ∈ L := fun _ h => h
          have hw : z_H D vwCl (z_A L sz) s.heap L f562 H locs := hw
          have hfr : ∀ b ∈ L, b ≠ mm → b ≠ ha → b ≠ lw → b ≠ st → b ≠ fo → b ≠ dr → f562 b = f b := fun b hb h0 h1 h2 h3 h4 h5 => (hfm b hb h0).trans (hfr b hb h0 h1 h2 h3 h4 h5)
          have hf_ta : f562 ta = .inl (cy 0, 1600, .inl gta) := (hfm ta hm_ta (z_tne hf_ta hf_mm (m := 12900) (n := 10) rfl rfl (by decide))).trans hf_ta
          have hf_ha : f562 ha = .inl (cy 1, 30, .inl gha) := (hfm ha hm_ha (z_tne hf_ha hf_mm (m := 340) (n := 10) rfl rfl (by decide))).trans hf_ha
          have hf_lw : f562 lw = .inl (cy 1, 25, .inl glw) := (hfm lw hm_lw (z_tne hf_lw hf_mm (m := 300) (n := 10) rfl rfl (by decide))).trans hf_lw
          have hf_st : f562 st = .inl (cy 1, 20, .inl gst) := (hfm st hm_st (z_tne hf_st hf_mm (m := 260) (n := 10) rfl rfl (by decide))).trans hf_st
          have hf_fo : f562 fo = .inl (cy 1, 180, .inl gfo) := (hfm fo hm_fo (z_tne hf_fo hf_mm (m := 1540) (n := 10) rfl rfl (by decide))).trans hf_fo
          have hf_dr : f562 dr = .inl (cy 1, 520, .inl gdr) := (hfm dr hm_dr (z_tne hf_dr hf_mm (m := 4260) (n := 10) rfl rfl (by decide))).trans hf_dr
          have hf_mm : f562 mm = .inr (10, [.int m0, .ref wd, .ref my, .ref ce, .ref mv, .ref ta, .int m6, .int m7, .int m8, .int m9, .int m10, .long m11, .int b2_563, .int p2_564, .int m14, .int m15, .ref li, .ref ha, .ref lw, .ref st, .ref fo, .ref dr, .int m22, .ref ik, .int m24, .int m25, .long m26, .int m27, .int m28, .ref ro, .int m30, .ref ct, .ref se, .ref th, .ref cn, .ref be, .int m36, .ref du, .int m38, .ref db, .int m40, .int m41, .int m42, .ref pn, .ref wg, .ref wh, .ref tn, .ref he, .int m48, .ref tr, .ref fd, .ref po, .int m52, .int m53]) := ha_0
          have hq565 := hp
          refine lv_iload_n hx hb dX10_line_48 rfl (lv_at hl 2 rfl) ?_
          refine z_if_eq (tgt := 62) hx hb (show (0 : Int32).toInt = 0 by decide) dX10_line_49 (by decide) (fun _ => ?_) (fun h => absurd h (by decide))
          refine lv_iload_n hx hb dX10_line_62 rfl (lv_at hl 1 rfl) ?_
          refine z_if_eq (tgt := 81) hx hb (show (1 : Int32).toInt = 1 by decide) dX10_line_63 (by decide) (fun h => absurd h (by decide)) (fun _ => ?_)
          refine lv_aload_n hx hb dX10_line_66 rfl (lv_at hl 3 rfl) ?_
          refine lv_iconst (v := 4) hx hb dX10_line_67 (by decide) ?_
          have hz566 := (show (4 : Int32).toInt = 4 by decide)
          refine z_calliV (cells := 0) (slots := 0) (b := mm) (As := [.int 4]) (rest := []) (ci := 10) (q0 := (RX10, TX10, 54)) ⟨hx, hb, hml, hown, hT⟩ (c_X10_hasRead l hm_mm hm_ha hf_mm hf_ha hq_ha (by decide)) (cwV 1 hT (z_goodV (fun _ h => h) kw_1434 kw_1436 kw_44 kw_96 kw_1437) rfl rfl rfl (by decide +kernel) ⟨by decide, by decide⟩) z_mv hKK hK hw hA hm_mm hf_mm rfl rfl rfl hl.1 rfl (Nat.le_of_ble_eq_true rfl) dX10_line_68 ⟨by decide, by decide⟩ (fun r567 u H locs hp hw => ?_)
          obtain ⟨rfl, hp⟩ := hp
          have hw : z_H D vwCl (z_A L sz) s.heap L f562 H locs := hw
          refine lv_bipush (v := 8) hx hb dX10_line_71 (by decide) ?_
          refine z_icmp_ne (tgt := 81) hx hb rfl (show (8 : Int32).toInt = 8 by decide) dX10_line_73 (by decide) (fun c568 => ?_) (fun c568 => ?_)
          · skip
            refine lv_aload_n hx hb dX10_line_81 rfl (lv_at hl 3 rfl) ?_
            refine z_get (C := RX10) (T := TX10) (N := 54) (ci := 10) (v := .int b2_563) hx hb hT zin_X10 hown hK hw hm_mm hf_mm rfl 12 (by decide) (hT _ kw_1180) rfl dX10_line_82 ?_
            refine z_if_eq (tgt := 89) hx hb rfl dX10_line_85 (by decide) (fun c569 => ?_) (fun c569 => ?_)
            · skip
              refine lv_iload_n hx hb dX10_line_89 rfl (lv_at hl 2 rfl) ?_
              refine z_if_eq (tgt := 104) hx hb (show (0 : Int32).toInt = 0 by decide) dX10_line_90 (by decide) (fun _ => ?_) (fun h => absurd h (by decide))
              refine lv_iload_n hx hb dX10_line_104 rfl (lv_at hl 1 rfl) ?_
              refine z_if_eq (tgt := 195) hx hb (show (1 : Int32).toInt = 1 by decide) dX10_line_105 (by decide) (fun h => absurd h (by decide)) (fun _ => ?_)
              refine lv_aload_n hx hb dX10_line_108 rfl (lv_at hl 3 rfl) ?_
              refine z_callvV (cells := 0) (slots := 0) (b := mm) (As := []) (rest := []) (ci := 10) (q0 := (RX10, TX10, 54)) ⟨hx, hb, hml, hown, hT⟩ (c_X10_next l hm_mm hm_ta hf_mm hf_ta (by first | omega | decide | assumption) (by first | omega | decide | assumption)) (cwV 0 hT (z_goodV (fun _ h => h) kw_1381 kw_1383 kw_34 kw_96 kw_1384) rfl rfl rfl (by decide +kernel) ⟨by decide, by decide⟩) z_mv hKK hK hw hA hm_mm hf_mm rfl rfl rfl hl.1 rfl (Nat.le_of_ble_eq_true rfl) dX10_line_109 ⟨by decide, by decide⟩ (fun u H locs hp hw => ?_)
              obtain ⟨L570, f571⟩ := u
              obtain ⟨hsb, hfm, a2_572, k2_573, p2_574, v2_575, w2_576, ha_0, hp⟩ := hp
              have hsb : L = L570 := hsb
              subst hsb
              have hsb : ∀ b ∈ L, b ∈ L := fun _ h => h
              have hw : z_H D vwCl (z_A L sz) s.heap L f571 H locs := hw
              have hfr : ∀ b ∈ L, b ≠ mm → b ≠ ha → b ≠ lw → b ≠ st → b ≠ fo → b ≠ dr → f571 b = f b := fun b hb h0 h1 h2 h3 h4 h5 => (hfm b hb h0).trans (hfr b hb h0 h1 h2 h3 h4 h5)
              have hf_ta : f571 ta = .inl (cy 0, 1600, .inl gta) := (hfm ta hm_ta (z_tne hf_ta hf_mm (m := 12900) (n := 10) rfl rfl (by decide))).trans hf_ta
              have hf_ha : f571 ha = .inl (cy 1, 30, .inl gha) := (hfm ha hm_ha (z_tne hf_ha hf_mm (m := 340) (n := 10) rfl rfl (by decide))).trans hf_ha
              have hf_lw : f571 lw = .inl (cy 1, 25, .inl glw) := (hfm lw hm_lw (z_tne hf_lw hf_mm (m := 300) (n := 10) rfl rfl (by decide))).trans hf_lw
              have hf_st : f571 st = .inl (cy 1, 20, .inl gst) := (hfm st hm_st (z_tne hf_st hf_mm (m := 260) (n := 10) rfl rfl (by decide))).trans hf_st
              have hf_fo : f571 fo = .inl (cy 1, 180, .inl gfo) := (hfm fo hm_fo (z_tne hf_fo hf_mm (m := 1540) (n := 10) rfl rfl (by decide))).trans hf_fo
              have hf_dr : f571 dr = .inl (cy 1, 520, .inl gdr) := (hfm dr hm_dr (z_tne hf_dr hf_mm (m := 4260) (n := 10) rfl rfl (by decide))).trans hf_dr
              have hf_mm : f571 mm = .inr (10, [.int m0, .ref wd, .ref my, .ref ce, .ref mv, .ref ta, .int m6, .int a2_572, .int k2_573, .int p2_574, .int v2_575, .long w2_576, .int b2_563, .int p2_564, .int m14, .int m15, .ref li, .ref ha, .ref lw, .ref st, .ref fo, .ref dr, .int m22, .ref ik, .int m24, .int m25, .long m26, .int m27, .int m28, .ref ro, .int m30, .ref ct, .ref se, .ref th, .ref cn, .ref be, .int m36, .ref du, .int m38, .ref db, .int m40, .int m41, .int m42, .ref pn, .ref wg, .ref wh, .ref tn, .ref he, .int m48, .ref tr, .ref fd, .ref po, .int m52, .int m53]) := ha_0
              have hC_ : (0 ≤ a2_572.toInt ∧ a2_572.toInt ≤ m6.toInt) ∧ m7.toInt ≤ a2_572.toInt ∧ (b2_563.toInt ≠ 0 ∨ m12.toInt = 0) ∧ (b2_563.toInt ≠ 0 ∨ k2_573.toInt ≠ 3 ∨ m7.toInt < a2_572.toInt) := by refine ⟨⟨?_, ?_⟩, ?_, ?_, ?_⟩ <;> omega
              clear hp
              replace hC := hC_
              clear hC_
              refine lv_aload_n hx hb dX10_line_112 rfl (lv_at hl 3 rfl) ?_
              refine lv_iconst (v := 0) hx hb dX10_line_113 (by decide) ?_
              refine lv_aload_n hx hb dX10_line_114 rfl (lv_at hl 3 rfl) ?_
              refine lv_iconst (v := 0) hx hb dX10_line_115 (by decide) ?_
              have hz577 := (show (0 : Int32).toInt = 0 by decide)
              refine z_calliV (cells := 0) (slots := 0) (b := mm) (As := [.int 0]) (rest := [.int 0, .ref mm]) (ci := 10) (q0 := (RX10, TX10, 54)) ⟨hx, hb, hml, hown, hT⟩ (c_X10_hasRead l hm_mm hm_ha hf_mm hf_ha hq_ha (by decide)) (cwV 1 hT (z_goodV (fun _ h => h) kw_1434 kw_1436 kw_44 kw_96 kw_1437) rfl rfl rfl (by decide +kernel) ⟨by decide, by decide⟩) z_mv hKK hK hw hA hm_mm hf_mm rfl rfl rfl hl.1 rfl (Nat.le_of_ble_eq_true rfl) dX10_line_116 ⟨by decide, by decide⟩ (fun r578 u H locs hp hw => ?_)
              obtain ⟨rfl, hp⟩ := hp
              have hw : z_H D vwCl (z_A L sz) s.heap L f571 H locs := hw
              have hh579 : 0 ≤ r578.toInt ∧ r578.toInt ≤ 4 := by rw [hp]; exact (hq_ha 24).1.1 rfl
              refine lv_iconst (v := 1) hx hb dX10_line_119 (by decide) ?_
              refine lv_isub hx hb dX10_line_120 ?_
              refine lv_topi (fun w580 e_w580 => ?_)
              have i_w580 : w580.toInt = (r578.toInt - 1) := z_subI e_w580 rfl (show (1 : Int32).toInt = 1 by decide) (by omega)
              have hz581 := (show (0 : Int32).toInt = 0 by decide)
              refine z_calliV (cells := 0) (slots := 0) (b := mm) (As := [.int 0, .int w580]) (rest := []) (ci := 10) (q0 := (RX10, TX10, 54)) ⟨hx, hb, hml, hown, hT⟩ (c_X10_number l hm_mm hm_ta hf_mm hf_ta (by first | omega | decide | assumption) (by first | omega | decide | assumption)) (cwV 2 hT (z_goodV (fun _ h => h) kw_1420 kw_1422 kw_42 kw_96 kw_1423) rfl rfl rfl (by decide +kernel) ⟨by decide, by decide⟩) z_mv hKK hK hw hA hm_mm hf_mm rfl rfl rfl hl.1 rfl (Nat.le_of_ble_eq_true rfl) dX10_line_121 ⟨by decide, by decide⟩ (fun r582 u H locs hp hw => ?_)
              obtain ⟨L583, f584⟩ := u
              obtain ⟨hsb, hfm, a2_585, k2_586, p2_587, v2_588, b2_589, q2_590, w2_591, ha_0, hp⟩ := hp
              have hsb : L = L583 := hsb
              subst hsb
              have hsb : ∀ b ∈ L, b ∈ L := fun _ h => h
              have hw : z_H D vwCl (z_A L sz) s.heap L f584 H locs := hw
              have hfr : ∀ b ∈ L, b ≠ mm → b ≠ ha → b ≠ lw → b ≠ st → b ≠ fo → b ≠ dr → f584 b = f b := fun b hb h0 h1 h2 h3 h4 h5 => (hfm b hb h0).trans (hfr b hb h0 h1 h2 h3 h4 h5)
              have hf_ta : f584 ta = .inl (cy 0, 1600, .inl gta) := (hfm ta hm_ta (z_tne hf_ta hf_mm (m := 12900) (n := 10) rfl rfl (by decide))).trans hf_ta
              have hf_ha : f584 ha = .inl (cy 1, 30, .inl gha) := (hfm ha hm_ha (z_tne hf_ha hf_mm (m := 340) (n := 10) rfl rfl (by decide))).trans hf_ha
              have hf_lw : f584 lw = .inl (cy 1, 25, .inl glw) := (hfm lw hm_lw (z_tne hf_lw hf_mm (m := 300) (n := 10) rfl rfl (by decide))).trans hf_lw
              have hf_st : f584 st = .inl (cy 1, 20, .inl gst) := (hfm st hm_st (z_tne hf_st hf_mm (m := 260) (n := 10) rfl rfl (by decide))).trans hf_st
              have hf_fo : f584 fo = .inl (cy 1, 180, .inl gfo) := (hfm fo hm_fo (z_tne hf_fo hf_mm (m := 1540) (n := 10) rfl rfl (by decide))).trans hf_fo
              have hf_dr : f584 dr = .inl (cy 1, 520, .inl gdr) := (hfm dr hm_dr (z_tne hf_dr hf_mm (m := 4260) (n := 10) rfl rfl (by decide))).trans hf_dr
              have hf_mm : f584 mm = .inr (10, [.int m0, .ref wd, .ref my, .ref ce, .ref mv, .ref ta, .int m6, .int a2_585, .int k2_586, .int p2_587, .int v2_588, .long w2_591, .int b2_589, .int q2_590, .int m14, .int m15, .ref li, .ref ha, .ref lw, .ref st, .ref fo, .ref dr, .int m22, .ref ik, .int m24, .int m25, .long m26, .int m27, .int m28, .ref ro, .int m30, .ref ct, .ref se, .ref th, .ref cn, .ref be, .int m36, .ref du, .int m38, .ref db, .int m40, .int m41, .int m42, .ref pn, .ref wg, .ref wh, .ref tn, .ref he, .int m48, .ref tr, .ref fd, .ref po, .int m52, .int m53]) := ha_0
              have hR_r582 : 0 ≤ r582.toInt ∧ r582.toInt ≤ 3 := by omega
              have hC_ : (0 ≤ a2_585.toInt ∧ a2_585.toInt ≤ m6.toInt) ∧ m7.toInt ≤ a2_585.toInt ∧ (b2_589.toInt ≠ 0 ∨ m12.toInt = 0) ∧ (b2_589.toInt ≠ 0 ∨ k2_586.toInt ≠ 3 ∨ m7.toInt < a2_585.toInt) := by refine ⟨⟨?_, ?_⟩, ?_, ?_, ?_⟩ <;> omega
              clear hp
              replace hC := hC_
              clear hC_
              refine lv_istore (lv' := [(4, .int r582), (3, .int 1), (2, .int 1), (1, .int 0), (0, .ref mm)]) hx hb dX10_line_124 hl (by decide) rfl (fun ls hl => ?_)
              refine lv_aload_n hx hb dX10_line_126 rfl (lv_at hl 4 rfl) ?_
              refine lv_ldc2 (v := 419) hx hb hown (hT _ kw_1443) dX10_line_127 ?_
              refine lv_iconst (v := 0) hx hb dX10_line_130 (by decide) ?_
              refine lv_aload_n hx hb dX10_line_131 rfl (lv_at hl 4 rfl) ?_
              refine lv_iconst (v := 1) hx hb dX10_line_132 (by decide) ?_
              have hz592 := (show (1 : Int32).toInt = 1 by decide)
              refine z_calliV (cells := 0) (slots := 0) (b := mm) (As := [.int 1]) (rest := [.int 0, .long 419, .ref mm]) (ci := 10) (q0 := (RX10, TX10, 54)) ⟨hx, hb, hml, hown, hT⟩ (c_X10_hasRead l hm_mm hm_ha hf_mm hf_ha hq_ha (by decide)) (cwV 1 hT (z_goodV (fun _ h => h) kw_1434 kw_1436 kw_44 kw_96 kw_1437) rfl rfl rfl (by decide +kernel) ⟨by decide, by decide⟩) z_mv hKK hK hw hA hm_mm hf_mm rfl rfl rfl hl.1 rfl (Nat.le_of_ble_eq_true rfl) dX10_line_133 ⟨by decide, by decide⟩ (fun r593 u H locs hp hw => ?_)
              obtain ⟨rfl, hp⟩ := hp
              have hw : z_H D vwCl (z_A L sz) s.heap L f584 H locs := hw
              have hh594 : 0 ≤ r593.toInt ∧ r593.toInt ≤ 9 := by rw [hp]; exact (hq_ha 25).1.2.1 rfl
              refine lv_iconst (v := 1) hx hb dX10_line_136 (by decide) ?_
              refine lv_isub hx hb dX10_line_137 ?_
              refine lv_topi (fun w595 e_w595 => ?_)
              have i_w595 : w595.toInt = (r593.toInt - 1) := z_subI e_w595 rfl (show (1 : Int32).toInt = 1 by decide) (by omega)
              have hz596 := (show (419 : Int64).toInt = 419 by decide)
              have hz597 := (show (0 : Int32).toInt = 0 by decide)
              refine z_calliV (cells := 0) (slots := 0) (b := mm) (As := [.long 419, .int 0, .int w595]) (rest := []) (ci := 10) (q0 := (RX10, TX10, 54)) ⟨hx, hb, hml, hown, hT⟩ (c_X10_number_ l hm_mm hm_ta hf_mm hf_ta (by first | omega | decide | assumption) (by first | omega | decide | assumption)) (cwV 3 hT (z_goodV (fun _ h => h) kw_1416 kw_1418 kw_41 kw_96 kw_1419) rfl rfl rfl (by decide +kernel) ⟨by decide, by decide⟩) z_mv hKK hK hw hA hm_mm hf_mm rfl rfl rfl hl.1 rfl (Nat.le_of_ble_eq_true rfl) dX10_line_138 ⟨by decide, by decide⟩ (fun r598 u H locs hp hw => ?_)
              obtain ⟨L599, f600⟩ := u
              obtain ⟨hsb, hfm, a2_601, k2_602, p2_603, v2_604, b2_605, q2_606, w2_607, ha_0, hp⟩ := hp
              have hsb : L = L599 := hsb
              subst hsb
              have hsb : ∀ b ∈ L, b ∈ L := fun _ h => h
              have hw : z_H D vwCl (z_A L sz) s.heap L f600 H locs := hw
              have hfr : ∀ b ∈ L, b ≠ mm → b ≠ ha → b ≠ lw → b ≠ st → b ≠ fo → b ≠ dr → f600 b = f b := fun b hb h0 h1 h2 h3 h4 h5 => (hfm b hb h0).trans (hfr b hb h0 h1 h2 h3 h4 h5)
              have hf_ta : f600 ta = .inl (cy 0, 1600, .inl gta) := (hfm ta hm_ta (z_tne hf_ta hf_mm (m := 12900) (n := 10) rfl rfl (by decide))).trans hf_ta
              have hf_ha : f600 ha = .inl (cy 1, 30, .inl gha) := (hfm ha hm_ha (z_tne hf_ha hf_mm (m := 340) (n := 10) rfl rfl (by decide))).trans hf_ha
              have hf_lw : f600 lw = .inl (cy 1, 25, .inl glw) := (hfm lw hm_lw (z_tne hf_lw hf_mm (m := 300) (n := 10) rfl rfl (by decide))).trans hf_lw
              have hf_st : f600 st = .inl (cy 1, 20, .inl gst) := (hfm st hm_st (z_tne hf_st hf_mm (m := 260) (n := 10) rfl rfl (by decide))).trans hf_st
              have hf_fo : f600 fo = .inl (cy 1, 180, .inl gfo) := (hfm fo hm_fo (z_tne hf_fo hf_mm (m := 1540) (n := 10) rfl rfl (by decide))).trans hf_fo
              have hf_dr : f600 dr = .inl (cy 1, 520, .inl gdr) := (hfm dr hm_dr (z_tne hf_dr hf_mm (m := 4260) (n := 10) rfl rfl (by decide))).trans hf_dr
              have hf_mm : f600 mm = .inr (10, [.int m0, .ref wd, .ref my, .ref ce, .ref mv, .ref ta, .int m6, .int a2_601, .int k2_602, .int p2_603, .int v2_604, .long w2_607, .int b2_605, .int q2_606, .int m14, .int m15, .ref li, .ref ha, .ref lw, .ref st, .ref fo, .ref dr, .int m22, .ref ik, .int m24, .int m25, .long m26, .int m27, .int m28, .ref ro, .int m30, .ref ct, .ref se, .ref th, .ref cn, .ref be, .int m36, .ref du, .int m38, .ref db, .int m40, .int m41, .int m42, .ref pn, .ref wg, .ref wh, .ref tn, .ref he, .int m48, .ref tr, .ref fd, .ref po, .int m52, .int m53]) := ha_0
              have hR_r598 : 0 ≤ r598.toInt ∧ r598.toInt ≤ 8 := by omega
              have hC_ : (0 ≤ a2_601.toInt ∧ a2_601.toInt ≤ m6.toInt) ∧ m7.toInt ≤ a2_601.toInt ∧ (b2_605.toInt ≠ 0 ∨ m12.toInt = 0) ∧ (b2_605.toInt ≠ 0 ∨ k2_602.toInt ≠ 3 ∨ m7.toInt < a2_601.toInt) := by refine ⟨⟨?_, ?_⟩, ?_, ?_, ?_⟩ <;> omega
              clear hp
              replace hC := hC_
              clear hC_
              refine lv_istore (lv' := [(5, .int r598), (4, .int r582), (3, .int 1), (2, .int 1), (1, .int 0), (0, .ref mm)]) hx hb dX10_line_141 hl (by decide) rfl (fun ls hl => ?_)
              refine lv_aload_n hx hb dX10_line_143 rfl (lv_at hl 5 rfl) ?_
              refine lv_ldc2 (v := 191706742) hx hb hown (hT _ kw_1449) dX10_line_144 ?_
              refine lv_iconst (v := 2) hx hb dX10_line_147 (by decide) ?_
              refine lv_bipush (v := 9) hx hb dX10_line_148 (by decide) ?_
              have hz608 := (show (191706742 : Int64).toInt = 191706742 by decide)
              have hz609 := (show (2 : Int32).toInt = 2 by decide)
              have hz610 := (show (9 : Int32).toInt = 9 by decide)
              refine z_calliV (cells := 0) (slots := 0) (b := mm) (As := [.long 191706742, .int 2, .int 9]) (rest := []) (ci := 10) (q0 := (RX10, TX10, 54)) ⟨hx, hb, hml, hown, hT⟩ (c_X10_number_ l hm_mm hm_ta hf_mm hf_ta (by first | omega | decide | assumption) (by first | omega | decide | assumption)) (cwV 3 hT (z_goodV (fun _ h => h) kw_1416 kw_1418 kw_41 kw_96 kw_1419) rfl rfl rfl (by decide +kernel) ⟨by decide, by decide⟩) z_mv hKK hK hw hA hm_mm hf_mm rfl rfl rfl hl.1 rfl (Nat.le_of_ble_eq_true rfl) dX10_line_150 ⟨by decide, by decide⟩ (fun r611 u H locs hp hw => ?_)
              obtain ⟨L612, f613⟩ := u
              obtain ⟨hsb, hfm, a2_614, k2_615, p2_616, v2_617, b2_618, q2_619, w2_620, ha_0, hp⟩ := hp
              have hsb : L = L612 := hsb
              subst hsb
              have hsb : ∀ b ∈ L, b ∈ L := fun _ h => h
              have hw : z_H D vwCl (z_A L sz) s.heap L f613 H locs := hw
              have hfr : ∀ b ∈ L, b ≠ mm → b ≠ ha → b ≠ lw → b ≠ st → b ≠ fo → b ≠ dr → f613 b = f b := fun b hb h0 h1 h2 h3 h4 h5 => (hfm b hb h0).trans (hfr b hb h0 h1 h2 h3 h4 h5)
              have hf_ta : f613 ta = .inl (cy 0, 1600, .inl gta) := (hfm ta hm_ta (z_tne hf_ta hf_mm (m := 12900) (n := 10) rfl rfl (by decide))).trans hf_ta
              have hf_ha : f613 ha = .inl (cy 1, 30, .inl gha) := (hfm ha hm_ha (z_tne hf_ha hf_mm (m := 340) (n := 10) rfl rfl (by decide))).trans hf_ha
              have hf_lw : f613 lw = .inl (cy 1, 25, .inl glw) := (hfm lw hm_lw (z_tne hf_lw hf_mm (m := 300) (n := 10) rfl rfl (by decide))).trans hf_lw
              have hf_st : f613 st = .inl (cy 1, 20, .inl gst) := (hfm st hm_st (z_tne hf_st hf_mm (m := 260) (n := 10) rfl rfl (by decide))).trans hf_st
              have hf_fo : f613 fo = .inl (cy 1, 180, .inl gfo) := (hfm fo hm_fo (z_tne hf_fo hf_mm (m := 1540) (n := 10) rfl rfl (by decide))).trans hf_fo
              have hf_dr : f613 dr = .inl (cy 1, 520, .inl gdr) := (hfm dr hm_dr (z_tne hf_dr hf_mm (m := 4260) (n := 10) rfl rfl (by decide))).trans hf_dr
              have hf_mm : f613 mm = .inr (10, [.int m0, .ref wd, .ref my, .ref ce, .ref mv, .ref ta, .int m6, .int a2_614, .int k2_615, .int p2_616, .int v2_617, .long w2_620, .int b2_618, .int q2_619, .int m14, .int m15, .ref li, .ref ha, .ref lw, .ref st, .ref fo, .ref dr, .int m22, .ref ik, .int m24, .int m25, .long m26, .int m27, .int m28, .ref ro, .int m30, .ref ct, .ref se, .ref th, .ref cn, .ref be, .int m36, .ref du, .int m38, .ref db, .int m40, .int m41, .int m42, .ref pn, .ref wg, .ref wh, .ref tn, .ref he, .int m48, .ref tr, .ref fd, .ref po, .int m52, .int m53]) := ha_0
              have hR_r611 : 2 ≤ r611.toInt ∧ r611.toInt ≤ 9 := by omega
              have hC_ : (0 ≤ a2_614.toInt ∧ a2_614.toInt ≤ m6.toInt) ∧ m7.toInt ≤ a2_614.toInt ∧ (b2_618.toInt ≠ 0 ∨ m12.toInt = 0) ∧ (b2_618.toInt ≠ 0 ∨ k2_615.toInt ≠ 3 ∨ m7.toInt < a2_614.toInt) := by refine ⟨⟨?_, ?_⟩, ?_, ?_, ?_⟩ <;> omega
              clear hp
              replace hC := hC_
              clear hC_
              refine lv_istore (lv' := [(6, .int r611), (5, .int r598), (4, .int r582), (3, .int 1), (2, .int 1), (1, .int 0), (0, .ref mm)]) hx hb dX10_line_153 hl (by decide) rfl (fun ls hl => ?_)
              refine lv_aload_n hx hb dX10_line_155 rfl (lv_at hl 6 rfl) ?_
              refine z_calliV (cells := 0) (slots := 0) (b := mm) (As := []) (rest := []) (ci := 10) (q0 := (RX10, TX10, 54)) ⟨hx, hb, hml, hown, hT⟩ (c_X10_isGood l hm_mm hf_mm) (cwV 0 hT (z_goodV (fun _ h => h) kw_1394 kw_1396 kw_36 kw_96 kw_1397) rfl rfl rfl (by decide +kernel) ⟨by decide, by decide⟩) z_mv hKK hK hw hA hm_mm hf_mm rfl rfl rfl hl.1 rfl (Nat.le_of_ble_eq_true rfl) dX10_line_156 ⟨by decide, by decide⟩ (fun r621 u H locs hp hw => ?_)
              obtain ⟨rfl, hp⟩ := hp
              have hw : z_H D vwCl (z_A L sz) s.heap L f613 H locs := hw
              rcases hp with ⟨rfl, h622⟩ | ⟨rfl, h622⟩
              · skip
                refine z_if_eq (tgt := 181) hx hb (show (1 : Int32).toInt = 1 by decide) dX10_line_159 (by decide) (fun h => absurd h (by decide)) (fun _ => ?_)
                refine lv_aload_n hx hb dX10_line_162 rfl (lv_at hl 6 rfl) ?_
                refine z_get (C := RX10) (T := TX10) (N := 54) (ci := 10) (v := .ref fo) hx hb hT zin_X10 hown hK hw hm_mm hf_mm rfl 20 (by decide) (hT _ kw_1188) rfl dX10_line_163 ?_
                refine lv_sipush (v := 144) hx hb dX10_line_166 (by decide) ?_
                refine lv_bipush (v := 9) hx hb dX10_line_169 (by decide) ?_
                refine lv_iload hx hb dX10_line_171 (lv_at hl 2 rfl) ?_
                refine lv_imul hx hb dX10_line_173 ?_
                refine lv_topi (fun w623 e_w623 => ?_)
                have i_w623 : w623.toInt = (9 * r582.toInt) := z_mul e_w623 (show (9 : Int32).toInt = 9 by decide) rfl (by omega)
                refine lv_iadd hx hb dX10_line_174 ?_
                refine lv_topi (fun w624 e_w624 => ?_)
                have i_w624 : w624.toInt = (144 + (9 * r582.toInt)) := z_add e_w624 (show (144 : Int32).toInt = 144 by decide) i_w623 (by omega)
                refine lv_iload hx hb dX10_line_175 (lv_at hl 1 rfl) ?_
                refine lv_iadd hx hb dX10_line_177 ?_
                refine lv_topi (fun w625 e_w625 => ?_)
                have i_w625 : w625.toInt = ((144 + (9 * r582.toInt)) + r598.toInt) := z_add e_w625 i_w624 rfl (by omega)
                refine lv_iload hx hb dX10_line_178 (lv_at hl 0 rfl) ?_
                refine z_iast hx hb hK hw 1 hm_fo hf_fo rfl (z_ix i_w625 (by omega)) dX10_line_180 (fun H locs hw => ?_)
                obtain ⟨f627, e_f627⟩ : ∃ z, z = va_up f613 fo (.inl (cy 1, 180, .inl (upd gfo w625.toNatClampNeg r611))) := ⟨_, rfl⟩
                rw [← e_f627] at hw
                have hf_mm : f627 mm = .inr (10, [.int m0, .ref wd, .ref my, .ref ce, .ref mv, .ref ta, .int m6, .int a2_614, .int k2_615, .int p2_616, .int v2_617, .long w2_620, .int b2_618, .int q2_619, .int m14, .int m15, .ref li, .ref ha, .ref lw, .ref st, .ref fo, .ref dr, .int m22, .ref ik, .int m24, .int m25, .long m26, .int m27, .int m28, .ref ro, .int m30, .ref ct, .ref se, .ref th, .ref cn, .ref be, .int m36, .ref du, .int m38, .ref db, .int m40, .int m41, .int m42, .ref pn, .ref wg, .ref wh, .ref tn, .ref he, .int m48, .ref tr, .ref fd, .ref po, .int m52, .int m53]) := (congrFun e_f627 mm).trans (z_up_ne (z_tne hf_mm hf_fo (m := 10) (n := 1540) rfl rfl (by decide)) hf_mm)
                have hf_ta : f627 ta = .inl (cy 0, 1600, .inl gta) := (congrFun e_f627 ta).trans (z_up_ne (z_tne hf_ta hf_fo (m := 12900) (n := 1540) rfl rfl (by decide)) hf_ta)
                have hf_ha : f627 ha = .inl (cy 1, 30, .inl gha) := (congrFun e_f627 ha).trans (z_up_ne (z_tne hf_ha hf_fo (m := 340) (n := 1540) rfl rfl (by decide)) hf_ha)
                have hf_lw : f627 lw = .inl (cy 1, 25, .inl glw) := (congrFun e_f627 lw).trans (z_up_ne (z_tne hf_lw hf_fo (m := 300) (n := 1540) rfl rfl (by decide)) hf_lw)
                have hf_st : f627 st = .inl (cy 1, 20, .inl gst) := (congrFun e_f627 st).trans (z_up_ne (z_tne hf_st hf_fo (m := 260) (n := 1540) rfl rfl (by decide)) hf_st)
                have hf_dr : f627 dr = .inl (cy 1, 520, .inl gdr) := (congrFun e_f627 dr).trans (z_up_ne (z_tne hf_dr hf_fo (m := 4260) (n := 1540) rfl rfl (by decide)) hf_dr)
                have hf_fo : f627 fo = .inl (cy 1, 180, .inl (upd gfo w625.toNatClampNeg r611)) := (congrFun e_f627 fo).trans z_up_self
                have hfr : ∀ b ∈ L, b ≠ mm → b ≠ ha → b ≠ lw → b ≠ st → b ≠ fo → b ≠ dr → f627 b = f b := fun b hb h0 h1 h2 h3 h4 h5 => (congrFun e_f627 b).trans (z_up_ne h4 (hfr b hb h0 h1 h2 h3 h4 h5))
                obtain ⟨g626, e_g626⟩ : ∃ z, z = (upd gfo w625.toNatClampNeg r611) := ⟨_, rfl⟩
                rw [← e_g626] at hf_fo
                refine lv_aload_n hx hb dX10_line_181 rfl (lv_at hl 6 rfl) ?_
                refine z_get (C := RX10) (T := TX10) (N := 54) (ci := 10) (v := .ref ha) hx hb hT zin_X10 hown hK hw hm_mm hf_mm rfl 17 (by decide) (hT _ kw_1185) rfl dX10_line_182 ?_
                refine lv_bipush (v := 28) hx hb dX10_line_185 (by decide) ?_
                refine lv_dup2_11 hx hb dX10_line_187 rfl rfl ?_
                refine z_iald hx hb hK hw 1 hm_ha hf_ha rfl (z_ix (show (28 : Int32).toInt = 28 by decide) (by decide)) dX10_line_188 ?_
                refine lv_topi (fun w628 e_w628 => ?_)
                refine lv_iconst (v := 1) hx hb dX10_line_189 (by decide) ?_
                refine lv_iadd hx hb dX10_line_190 ?_
                refine lv_topi (fun w629 e_w629 => ?_)
                refine z_iast hx hb hK hw 1 hm_ha hf_ha rfl (z_ix (show (28 : Int32).toInt = 28 by decide) (by decide)) dX10_line_191 (fun H locs hw => ?_)
                obtain ⟨f631, e_f631⟩ : ∃ z, z = va_up f627 ha (.inl (cy 1, 30, .inl (upd gha (28 : Int32).toNatClampNeg w629))) := ⟨_, rfl⟩
                rw [← e_f631] at hw
                have hf_mm : f631 mm = .inr (10, [.int m0, .ref wd, .ref my, .ref ce, .ref mv, .ref ta, .int m6, .int a2_614, .int k2_615, .int p2_616, .int v2_617, .long w2_620, .int b2_618, .int q2_619, .int m14, .int m15, .ref li, .ref ha, .ref lw, .ref st, .ref fo, .ref dr, .int m22, .ref ik, .int m24, .int m25, .long m26, .int m27, .int m28, .ref ro, .int m30, .ref ct, .ref se, .ref th, .ref cn, .ref be, .int m36, .ref du, .int m38, .ref db, .int m40, .int m41, .int m42, .ref pn, .ref wg, .ref wh, .ref tn, .ref he, .int m48, .ref tr, .ref fd, .ref po, .int m52, .int m53]) := (congrFun e_f631 mm).trans (z_up_ne (z_tne hf_mm hf_ha (m := 10) (n := 340) rfl rfl (by decide)) hf_mm)
                have hf_ta : f631 ta = .inl (cy 0, 1600, .inl gta) := (congrFun e_f631 ta).trans (z_up_ne (z_tne hf_ta hf_ha (m := 12900) (n := 340) rfl rfl (by decide)) hf_ta)
                have hf_lw : f631 lw = .inl (cy 1, 25, .inl glw) := (congrFun e_f631 lw).trans (z_up_ne (z_tne hf_lw hf_ha (m := 300) (n := 340) rfl rfl (by decide)) hf_lw)
                have hf_st : f631 st = .inl (cy 1, 20, .inl gst) := (congrFun e_f631 st).trans (z_up_ne (z_tne hf_st hf_ha (m := 260) (n := 340) rfl rfl (by decide)) hf_st)
                have hf_fo : f631 fo = .inl (cy 1, 180, .inl g626) := (congrFun e_f631 fo).trans (z_up_ne (z_tne hf_fo hf_ha (m := 1540) (n := 340) rfl rfl (by decide)) hf_fo)
                have hf_dr : f631 dr = .inl (cy 1, 520, .inl gdr) := (congrFun e_f631 dr).trans (z_up_ne (z_tne hf_dr hf_ha (m := 4260) (n := 340) rfl rfl (by decide)) hf_dr)
                have hf_ha : f631 ha = .inl (cy 1, 30, .inl (upd gha (28 : Int32).toNatClampNeg w629)) := (congrFun e_f631 ha).trans z_up_self
                have hfr : ∀ b ∈ L, b ≠ mm → b ≠ ha → b ≠ lw → b ≠ st → b ≠ fo → b ≠ dr → f631 b = f b := fun b hb h0 h1 h2 h3 h4 h5 => (congrFun e_f631 b).trans (z_up_ne h1 (hfr b hb h0 h1 h2 h3 h4 h5))
                obtain ⟨g630, e_g630⟩ : ∃ z, z = (upd gha (28 : Int32).toNatClampNeg w629) := ⟨_, rfl⟩
                rw [← e_g630] at hf_ha
                have hq_ha : ∀ j : Nat, (q_hasR hz) j (g630 j) := z_updQ hq_ha e_g630 (show q_hasR _ _ _ from ⟨(show q_has _ _ from ⟨(fun h => absurd h (by decide)), (fun h => absurd h (by decide)), (fun h => absurd h (by decide)), (fun h => absurd h (by decide))⟩), fun h => absurd h (by decide)⟩)
                refine lv_goto (tgt := 335) hx hb dX10_line_192 (by decide) ?_
                exact z_vret hx hb hr hlk (by decide) (by decide) hw (⟨hsub, hfr, a2_614, k2_615, p2_616, v2_617, b2_618, q2_619, m22, w2_620, g630, glw, gst, g626, gdr, hf_mm, hf_ha, hf_lw, hf_st, hf_fo, hf_dr, hq_ha, hq_lw, hq_st, hq_dr, by omega, by omega, by omega, by omega, rfl⟩) dX10_line_335
              · skip
                refine z_if_eq (tgt := 181) hx hb (show (0 : Int32).toInt = 0 by decide) dX10_line_159 (by decide) (fun _ => ?_) (fun h => absurd h (by decide))
                refine lv_aload_n hx hb dX10_line_181 rfl (lv_at hl 6 rfl) ?_
                refine z_get (C := RX10) (T := TX10) (N := 54) (ci := 10) (v := .ref ha) hx hb hT zin_X10 hown hK hw hm_mm hf_mm rfl 17 (by decide) (hT _ kw_1185) rfl dX10_line_182 ?_
                refine lv_bipush (v := 28) hx hb dX10_line_185 (by decide) ?_
                refine lv_dup2_11 hx hb dX10_line_187 rfl rfl ?_
                refine z_iald hx hb hK hw 1 hm_ha hf_ha rfl (z_ix (show (28 : Int32).toInt = 28 by decide) (by decide)) dX10_line_188 ?_
                refine lv_topi (fun w632 e_w632 => ?_)
                refine lv_iconst (v := 1) hx hb dX10_line_189 (by decide) ?_
                refine lv_iadd hx hb dX10_line_190 ?_
                refine lv_topi (fun w633 e_w633 => ?_)
                refine z_iast hx hb hK hw 1 hm_ha hf_ha rfl (z_ix (show (28 : Int32).toInt = 28 by decide) (by decide)) dX10_line_191 (fun H locs hw => ?_)
                obtain ⟨f635, e_f635⟩ : ∃ z, z = va_up f613 ha (.inl (cy 1, 30, .inl (upd gha (28 : Int32).toNatClampNeg w633))) := ⟨_, rfl⟩
                rw [← e_f635] at hw
                have hf_mm : f635 mm = .inr (10, [.int m0, .ref wd, .ref my, .ref ce, .ref mv, .ref ta, .int m6, .int a2_614, .int k2_615, .int p2_616, .int v2_617, .long w2_620, .int b2_618, .int q2_619, .int m14, .int m15, .ref li, .ref ha, .ref lw, .ref st, .ref fo, .ref dr, .int m22, .ref ik, .int m24, .int m25, .long m26, .int m27, .int m28, .ref ro, .int m30, .ref ct, .ref se, .ref th, .ref cn, .ref be, .int m36, .ref du, .int m38, .ref db, .int m40, .int m41, .int m42, .ref pn, .ref wg, .ref wh, .ref tn, .ref he, .int m48, .ref tr, .ref fd, .ref po, .int m52, .int m53]) := (congrFun e_f635 mm).trans (z_up_ne (z_tne hf_mm hf_ha (m := 10) (n := 340) rfl rfl (by decide)) hf_mm)
                have hf_ta : f635 ta = .inl (cy 0, 1600, .inl gta) := (congrFun e_f635 ta).trans (z_up_ne (z_tne hf_ta hf_ha (m := 12900) (n := 340) rfl rfl (by decide)) hf_ta)
                have hf_lw : f635 lw = .inl (cy 1, 25, .inl glw) := (congrFun e_f635 lw).trans (z_up_ne (z_tne hf_lw hf_ha (m := 300) (n := 340) rfl rfl (by decide)) hf_lw)
                have hf_st : f635 st = .inl (cy 1, 20, .inl gst) := (congrFun e_f635 st).trans (z_up_ne (z_tne hf_st hf_ha (m := 260) (n := 340) rfl rfl (by decide)) hf_st)
                have hf_fo : f635 fo = .inl (cy 1, 180, .inl gfo) := (congrFun e_f635 fo).trans (z_up_ne (z_tne hf_fo hf_ha (m := 1540) (n := 340) rfl rfl (by decide)) hf_fo)
                have hf_dr : f635 dr = .inl (cy 1, 520, .inl gdr) := (congrFun e_f635 dr).trans (z_up_ne (z_tne hf_dr hf_ha (m := 4260) (n := 340) rfl rfl (by decide)) hf_dr)
                have hf_ha : f635 ha = .inl (cy 1, 30, .inl (upd gha (28 : Int32).toNatClampNeg w633)) := (congrFun e_f635 ha).trans z_up_self
                have hfr : ∀ b ∈ L, b ≠ mm → b ≠ ha → b ≠ lw → b ≠ st → b ≠ fo → b ≠ dr → f635 b = f b := fun b hb h0 h1 h2 h3 h4 h5 => (congrFun e_f635 b).trans (z_up_ne h1 (hfr b hb h0 h1 h2 h3 h4 h5))
                obtain ⟨g634, e_g634⟩ : ∃ z, z = (upd gha (28 : Int32).toNatClampNeg w633) := ⟨_, rfl⟩
                rw [← e_g634] at hf_ha
                have hq_ha : ∀ j : Nat, (q_hasR hz) j (g634 j) := z_updQ hq_ha e_g634 (show q_hasR _ _ _ from ⟨(show q_has _ _ from ⟨(fun h => absurd h (by decide)), (fun h => absurd h (by decide)), (fun h => absurd h (by decide)), (fun h => absurd h (by decide))⟩), fun h => absurd h (by decide)⟩)
                refine lv_goto (tgt := 335) hx hb dX10_line_192 (by decide) ?_
                exact z_vret hx hb hr hlk (by decide) (by decide) hw (⟨hsub, hfr, a2_614, k2_615, p2_616, v2_617, b2_618, q2_619, m22, w2_620, g634, glw, gst, gfo, gdr, hf_mm, hf_ha, hf_lw, hf_st, hf_fo, hf_dr, hq_ha, hq_lw, hq_st, hq_dr, by omega, by omega, by omega, by omega, rfl⟩) dX10_line_335
            · skip
              exact z_vret hx hb hr hlk (by decide) (by decide) hw (⟨hsub, hfr, m7, m8, m9, m10, b2_563, p2_564, m22, m11, gha, glw, gst, gfo, gdr, hf_mm, hf_ha, hf_lw, hf_st, hf_fo, hf_dr, hq_ha, hq_lw, hq_st, hq_dr, by omega, by omega, by omega, by omega, rfl⟩) dX10_line_88
          · skip
            refine lv_aload_n hx hb dX10_line_76 rfl (lv_at hl 3 rfl) ?_
            refine lv_iconst (v := 3) hx hb dX10_line_77 (by decide) ?_
            have hz636 := (show (3 : Int32).toInt = 3 by decide)
            refine z_callvV (cells := 0) (slots := 0) (b := mm) (As := [.int 3]) (rest := []) (ci := 10) (q0 := (RX10, TX10, 54)) ⟨hx, hb, hml, hown, hT⟩ (c_X10_fails l hm_mm hf_mm (by first | omega | decide | assumption)) (cwV 1 hT (z_goodV (fun _ h => h) kw_1411 kw_1413 kw_40 kw_96 kw_1414) rfl rfl rfl (by decide +kernel) ⟨by decide, by decide⟩) z_mv hKK hK hw hA hm_mm hf_mm rfl rfl rfl hl.1 rfl (Nat.le_of_ble_eq_true rfl) dX10_line_78 ⟨by decide, by decide⟩ (fun u H locs hp hw => ?_)
            obtain ⟨L637, f638⟩ := u
            obtain ⟨hsb, hfm, b2_639, p2_640, ha_0, hp⟩ := hp
            have hsb : L = L637 := hsb
            subst hsb
            have hsb : ∀ b ∈ L, b ∈ L := fun _ h => h
            have hw : z_H D vwCl (z_A L sz) s.heap L f638 H locs := hw
            have hfr : ∀ b ∈ L, b ≠ mm → b ≠ ha → b ≠ lw → b ≠ st → b ≠ fo → b ≠ dr → f638 b = f b := fun b hb h0 h1 h2 h3 h4 h5 => (hfm b hb h0).trans (hfr b hb h0 h1 h2 h3 h4 h5)
            have hf_ta : f638 ta = .inl (cy 0, 1600, .inl gta) := (hfm ta hm_ta (z_tne hf_ta hf_mm (m := 12900) (n := 10) rfl rfl (by decide))).trans hf_ta
            have hf_ha : f638 ha = .inl (cy 1, 30, .inl gha) := (hfm ha hm_ha (z_tne hf_ha hf_mm (m := 340) (n := 10) rfl rfl (by decide))).trans hf_ha
            have hf_lw : f638 lw = .inl (cy 1, 25, .inl glw) := (hfm lw hm_lw (z_tne hf_lw hf_mm (m := 300) (n := 10) rfl rfl (by decide))).trans hf_lw
            have hf_st : f638 st = .inl (cy 1, 20, .inl gst) := (hfm st hm_st (z_tne hf_st hf_mm (m := 260) (n := 10) rfl rfl (by decide))).trans hf_st
            have hf_fo : f638 fo = .inl (cy 1, 180, .inl gfo) := (hfm fo hm_fo (z_tne hf_fo hf_mm (m := 1540) (n := 10) rfl rfl (by decide))).trans hf_fo
            have hf_dr : f638 dr = .inl (cy 1, 520, .inl gdr) := (hfm dr hm_dr (z_tne hf_dr hf_mm (m := 4260) (n := 10) rfl rfl (by decide))).trans hf_dr
            have hf_mm : f638 mm = .inr (10, [.int m0, .ref wd, .ref my, .ref ce, .ref mv, .ref ta, .int m6, .int m7, .int m8, .int m9, .int m10, .long m11, .int b2_639, .int p2_640, .int m14, .int m15, .ref li, .ref ha, .ref lw, .ref st, .ref fo, .ref dr, .int m22, .ref ik, .int m24, .int m25, .long m26, .int m27, .int m28, .ref ro, .int m30, .ref ct, .ref se, .ref th, .ref cn, .ref be, .int m36, .ref du, .int m38, .ref db, .int m40, .int m41, .int m42, .ref pn, .ref wg, .ref wh, .ref tn, .ref he, .int m48, .ref tr, .ref fd, .ref po, .int m52, .int m53]) := ha_0
            have hq641 := hp
            refine lv_aload_n hx hb dX10_line_81 rfl (lv_at hl 3 rfl) ?_
            refine z_get (C := RX10) (T := TX10) (N := 54) (ci := 10) (v := .int b2_639) hx hb hT zin_X10 hown hK hw hm_mm hf_mm rfl 12 (by decide) (hT _ kw_1180) rfl dX10_line_82 ?_
            refine z_if_eq (tgt := 89) hx hb rfl dX10_line_85 (by decide) (fun c642 => ?_) (fun c642 => ?_)
            · skip
              refine lv_iload_n hx hb dX10_line_89 rfl (lv_at hl 2 rfl) ?_
              refine z_if_eq (tgt := 104) hx hb (show (0 : Int32).toInt = 0 by decide) dX10_line_90 (by decide) (fun _ => ?_) (fun h => absurd h (by decide))
              refine lv_iload_n hx hb dX10_line_104 rfl (lv_at hl 1 rfl) ?_
              refine z_if_eq (tgt := 195) hx hb (show (1 : Int32).toInt = 1 by decide) dX10_line_105 (by decide) (fun h => absurd h (by decide)) (fun _ => ?_)
              refine lv_aload_n hx hb dX10_line_108 rfl (lv_at hl 3 rfl) ?_
              refine z_callvV (cells := 0) (slots := 0) (b := mm) (As := []) (rest := []) (ci := 10) (q0 := (RX10, TX10, 54)) ⟨hx, hb, hml, hown, hT⟩ (c_X10_next l hm_mm hm_ta hf_mm hf_ta (by first | omega | decide | assumption) (by first | omega | decide | assumption)) (cwV 0 hT (z_goodV (fun _ h => h) kw_1381 kw_1383 kw_34 kw_96 kw_1384) rfl rfl rfl (by decide +kernel) ⟨by decide, by decide⟩) z_mv hKK hK hw hA hm_mm hf_mm rfl rfl rfl hl.1 rfl (Nat.le_of_ble_eq_true rfl) dX10_line_109 ⟨by decide, by decide⟩ (fun u H locs hp hw => ?_)
              obtain ⟨L643, f644⟩ := u
              obtain ⟨hsb, hfm, a2_645, k2_646, p2_647, v2_648, w2_649, ha_0, hp⟩ := hp
              have hsb : L = L643 := hsb
              subst hsb
              have hsb : ∀ b ∈ L, b ∈ L := fun _ h => h
              have hw : z_H D vwCl (z_A L sz) s.heap L f644 H locs := hw
              have hfr : ∀ b ∈ L, b ≠ mm → b ≠ ha → b ≠ lw → b ≠ st → b ≠ fo → b ≠ dr → f644 b = f b := fun b hb h0 h1 h2 h3 h4 h5 => (hfm b hb h0).trans (hfr b hb h0 h1 h2 h3 h4 h5)
              have hf_ta : f644 ta = .inl (cy 0, 1600, .inl gta) := (hfm ta hm_ta (z_tne hf_ta hf_mm (m := 12900) (n := 10) rfl rfl (by decide))).trans hf_ta
              have hf_ha : f644 ha = .inl (cy 1, 30, .inl gha) := (hfm ha hm_ha (z_tne hf_ha hf_mm (m := 340) (n := 10) rfl rfl (by decide))).trans hf_ha
              have hf_lw : f644 lw = .inl (cy 1, 25, .inl glw) := (hfm lw hm_lw (z_tne hf_lw hf_mm (m := 300) (n := 10) rfl rfl (by decide))).trans hf_lw
              have hf_st : f644 st = .inl (cy 1, 20, .inl gst) := (hfm st hm_st (z_tne hf_st hf_mm (m := 260) (n := 10) rfl rfl (by decide))).trans hf_st
              have hf_fo : f644 fo = .inl (cy 1, 180, .inl gfo) := (hfm fo hm_fo (z_tne hf_fo hf_mm (m := 1540) (n := 10) rfl rfl (by decide))).trans hf_fo
              have hf_dr : f644 dr = .inl (cy 1, 520, .inl gdr) := (hfm dr hm_dr (z_tne hf_dr hf_mm (m := 4260) (n := 10) rfl rfl (by decide))).trans hf_dr
              have hf_mm : f644 mm = .inr (10, [.int m0, .ref wd, .ref my, .ref ce, .ref mv, .ref ta, .int m6, .int a2_645, .int k2_646, .int p2_647, .int v2_648, .long w2_649, .int b2_639, .int p2_640, .int m14, .int m15, .ref li, .ref ha, .ref lw, .ref st, .ref fo, .ref dr, .int m22, .ref ik, .int m24, .int m25, .long m26, .int m27, .int m28, .ref ro, .int m30, .ref ct, .ref se, .ref th, .ref cn, .ref be, .int m36, .ref du, .int m38, .ref db, .int m40, .int m41, .int m42, .ref pn, .ref wg, .ref wh, .ref tn, .ref he, .int m48, .ref tr, .ref fd, .ref po, .int m52, .int m53]) := ha_0
              have hC_ : (0 ≤ a2_645.toInt ∧ a2_645.toInt ≤ m6.toInt) ∧ m7.toInt ≤ a2_645.toInt ∧ (b2_639.toInt ≠ 0 ∨ m12.toInt = 0) ∧ (b2_639.toInt ≠ 0 ∨ k2_646.toInt ≠ 3 ∨ m7.toInt < a2_645.toInt) := by refine ⟨⟨?_, ?_⟩, ?_, ?_, ?_⟩ <;> omega
              clear hp
              replace hC := hC_
              clear hC_
              refine lv_aload_n hx hb dX10_line_112 rfl (lv_at hl 3 rfl) ?_
              refine lv_iconst (v := 0) hx hb dX10_line_113 (by decide) ?_
              refine lv_aload_n hx hb dX10_line_114 rfl (lv_at hl 3 rfl) ?_
              refine lv_iconst (v := 0) hx hb dX10_line_115 (by decide) ?_
              have hz650 := (show (0 : Int32).toInt = 0 by decide)
              refine z_calliV (cells := 0) (slots := 0) (b := mm) (As := [.int 0]) (rest := [.int 0, .ref mm]) (ci := 10) (q0 := (RX10, TX10, 54)) ⟨hx, hb, hml, hown, hT⟩ (c_X10_hasRead l hm_mm hm_ha hf_mm hf_ha hq_ha (by decide)) (cwV 1 hT (z_goodV (fun _ h => h) kw_1434 kw_1436 kw_44 kw_96 kw_1437) rfl rfl rfl (by decide +kernel) ⟨by decide, by decide⟩) z_mv hKK hK hw hA hm_mm hf_mm rfl rfl rfl hl.1 rfl (Nat.le_of_ble_eq_true rfl) dX10_line_116 ⟨by decide, by decide⟩ (fun r651 u H locs hp hw => ?_)
              obtain ⟨rfl, hp⟩ := hp
              have hw : z_H D vwCl (z_A L sz) s.heap L f644 H locs := hw
              have hh652 : 0 ≤ r651.toInt ∧ r651.toInt ≤ 4 := by rw [hp]; exact (hq_ha 24).1.1 rfl
              refine lv_iconst (v := 1) hx hb dX10_line_119 (by decide) ?_
              refine lv_isub hx hb dX10_line_120 ?_
              refine lv_topi (fun w653 e_w653 => ?_)
              have i_w653 : w653.toInt = (r651.toInt - 1) := z_subI e_w653 rfl (show (1 : Int32).toInt = 1 by decide) (by omega)
              have hz654 := (show (0 : Int32).toInt = 0 by decide)
              refine z_calliV (cells := 0) (slots := 0) (b := mm) (As := [.int 0, .int w653]) (rest := []) (ci := 10) (q0 := (RX10, TX10, 54)) ⟨hx, hb, hml, hown, hT⟩ (c_X10_number l hm_mm hm_ta hf_mm hf_ta (by first | omega | decide | assumption) (by first | omega | decide | assumption)) (cwV 2 hT (z_goodV (fun _ h => h) kw_1420 kw_1422 kw_42 kw_96 kw_1423) rfl rfl rfl (by decide +kernel) ⟨by decide, by decide⟩) z_mv hKK hK hw hA hm_mm hf_mm rfl rfl rfl hl.1 rfl (Nat.le_of_ble_eq_true rfl) dX10_line_121 ⟨by decide, by decide⟩ (fun r655 u H locs hp hw => ?_)
              obtain ⟨L656, f657⟩ := u
              obtain ⟨hsb, hfm, a2_658, k2_659, p2_660, v2_661, b2_662, q2_663, w2_664, ha_0, hp⟩ := hp
              have hsb : L = L656 := hsb
              subst hsb
              have hsb : ∀ b ∈ L, b ∈ L := fun _ h => h
              have hw : z_H D vwCl (z_A L sz) s.heap L f657 H locs := hw
              have hfr : ∀ b ∈ L, b ≠ mm → b ≠ ha → b ≠ lw → b ≠ st → b ≠ fo → b ≠ dr → f657 b = f b := fun b hb h0 h1 h2 h3 h4 h5 => (hfm b hb h0).trans (hfr b hb h0 h1 h2 h3 h4 h5)
              have hf_ta : f657 ta = .inl (cy 0, 1600, .inl gta) := (hfm ta hm_ta (z_tne hf_ta hf_mm (m := 12900) (n := 10) rfl rfl (by decide))).trans hf_ta
              have hf_ha : f657 ha = .inl (cy 1, 30, .inl gha) := (hfm ha hm_ha (z_tne hf_ha hf_mm (m := 340) (n := 10) rfl rfl (by decide))).trans hf_ha
              have hf_lw : f657 lw = .inl (cy 1, 25, .inl glw) := (hfm lw hm_lw (z_tne hf_lw hf_mm (m := 300) (n := 10) rfl rfl (by decide))).trans hf_lw
              have hf_st : f657 st = .inl (cy 1, 20, .inl gst) := (hfm st hm_st (z_tne hf_st hf_mm (m := 260) (n := 10) rfl rfl (by decide))).trans hf_st
              have hf_fo : f657 fo = .inl (cy 1, 180, .inl gfo) := (hfm fo hm_fo (z_tne hf_fo hf_mm (m := 1540) (n := 10) rfl rfl (by decide))).trans hf_fo
              have hf_dr : f657 dr = .inl (cy 1, 520, .inl gdr) := (hfm dr hm_dr (z_tne hf_dr hf_mm (m := 4260) (n := 10) rfl rfl (by decide))).trans hf_dr
              have hf_mm : f657 mm = .inr (10, [.int m0, .ref wd, .ref my, .ref ce, .ref mv, .ref ta, .int m6, .int a2_658, .int k2_659, .int p2_660, .int v2_661, .long w2_664, .int b2_662, .int q2_663, .int m14, .int m15, .ref li, .ref ha, .ref lw, .ref st, .ref fo, .ref dr, .int m22, .ref ik, .int m24, .int m25, .long m26, .int m27, .int m28, .ref ro, .int m30, .ref ct, .ref se, .ref th, .ref cn, .ref be, .int m36, .ref du, .int m38, .ref db, .int m40, .int m41, .int m42, .ref pn, .ref wg, .ref wh, .ref tn, .ref he, .int m48, .ref tr, .ref fd, .ref po, .int m52, .int m53]) := ha_0
              have hR_r655 : 0 ≤ r655.toInt ∧ r655.toInt ≤ 3 := by omega
              have hC_ : (0 ≤ a2_658.toInt ∧ a2_658.toInt ≤ m6.toInt) ∧ m7.toInt ≤ a2_658.toInt ∧ (b2_662.toInt ≠ 0 ∨ m12.toInt = 0) ∧ (b2_662.toInt ≠ 0 ∨ k2_659.toInt ≠ 3 ∨ m7.toInt < a2_658.toInt) := by refine ⟨⟨?_, ?_⟩, ?_, ?_, ?_⟩ <;> omega
              clear hp
              replace hC := hC_
              clear hC_
              refine lv_istore (lv' := [(4, .int r655), (3, .int 1), (2, .int 1), (1, .int 0), (0, .ref mm)]) hx hb dX10_line_124 hl (by decide) rfl (fun ls hl => ?_)
              refine lv_aload_n hx hb dX10_line_126 rfl (lv_at hl 4 rfl) ?_
              refine lv_ldc2 (v := 419) hx hb hown (hT _ kw_1443) dX10_line_127 ?_
              refine lv_iconst (v := 0) hx hb dX10_line_130 (by decide) ?_
              refine lv_aload_n hx hb dX10_line_131 rfl (lv_at hl 4 rfl) ?_
              refine lv_iconst (v := 1) hx hb dX10_line_132 (by decide) ?_
              have hz665 := (show (1 : Int32).toInt = 1 by decide)
              refine z_calliV (cells := 0) (slots := 0) (b := mm) (As := [.int 1]) (rest := [.int 0, .long 419, .ref mm]) (ci := 10) (q0 := (RX10, TX10, 54)) ⟨hx, hb, hml, hown, hT⟩ (c_X10_hasRead l hm_mm hm_ha hf_mm hf_ha hq_ha (by decide)) (cwV 1 hT (z_goodV (fun _ h => h) kw_1434 kw_1436 kw_44 kw_96 kw_1437) rfl rfl rfl (by decide +kernel) ⟨by decide, by decide⟩) z_mv hKK hK hw hA hm_mm hf_mm rfl rfl rfl hl.1 rfl (Nat.le_of_ble_eq_true rfl) dX10_line_133 ⟨by decide, by decide⟩ (fun r666 u H locs hp hw => ?_)
              obtain ⟨rfl, hp⟩ := hp
              have hw : z_H D vwCl (z_A L sz) s.heap L f657 H locs := hw
              have hh667 : 0 ≤ r666.toInt ∧ r666.toInt ≤ 9 := by rw [hp]; exact (hq_ha 25).1.2.1 rfl
              refine lv_iconst (v := 1) hx hb dX10_line_136 (by decide) ?_
              refine lv_isub hx hb dX10_line_137 ?_
              refine lv_topi (fun w668 e_w668 => ?_)
              have i_w668 : w668.toInt = (r666.toInt - 1) := z_subI e_w668 rfl (show (1 : Int32).toInt = 1 by decide) (by omega)
              have hz669 := (show (419 : Int64).toInt = 419 by decide)
              have hz670 := (show (0 : Int32).toInt = 0 by decide)
              refine z_calliV (cells := 0) (slots := 0) (b := mm) (As := [.long 419, .int 0, .int w668]) (rest := []) (ci := 10) (q0 := (RX10, TX10, 54)) ⟨hx, hb, hml, hown, hT⟩ (c_X10_number_ l hm_mm hm_ta hf_mm hf_ta (by first | omega | decide | assumption) (by first | omega | decide | assumption)) (cwV 3 hT (z_goodV (fun _ h => h) kw_1416 kw_1418 kw_41 kw_96 kw_1419) rfl rfl rfl (by decide +kernel) ⟨by decide, by decide⟩) z_mv hKK hK hw hA hm_mm hf_mm rfl rfl rfl hl.1 rfl (Nat.le_of_ble_eq_true rfl) dX10_line_138 ⟨by decide, by decide⟩ (fun r671 u H locs hp hw => ?_)
              obtain ⟨L672, f673⟩ := u
              obtain ⟨hsb, hfm, a2_674, k2_675, p2_676, v2_677, b2_678, q2_679, w2_680, ha_0, hp⟩ := hp
              have hsb : L = L672 := hsb
              subst hsb
              have hsb : ∀ b ∈ L, b ∈ L := fun _ h => h
              have hw : z_H D vwCl (z_A L sz) s.heap L f673 H locs := hw
              have hfr : ∀ b ∈ L, b ≠ mm → b ≠ ha → b ≠ lw → b ≠ st → b ≠ fo → b ≠ dr → f673 b = f b := fun b hb h0 h1 h2 h3 h4 h5 => (hfm b hb h0).trans (hfr b hb h0 h1 h2 h3 h4 h5)
              have hf_ta : f673 ta = .inl (cy 0, 1600, .inl gta) := (hfm ta hm_ta (z_tne hf_ta hf_mm (m := 12900) (n := 10) rfl rfl (by decide))).trans hf_ta
              have hf_ha : f673 ha = .inl (cy 1, 30, .inl gha) := (hfm ha hm_ha (z_tne hf_ha hf_mm (m := 340) (n := 10) rfl rfl (by decide))).trans hf_ha
              have hf_lw : f673 lw = .inl (cy 1, 25, .inl glw) := (hfm lw hm_lw (z_tne hf_lw hf_mm (m := 300) (n := 10) rfl rfl (by decide))).trans hf_lw
              have hf_st : f673 st = .inl (cy 1, 20, .inl gst) := (hfm st hm_st (z_tne hf_st hf_mm (m := 260) (n := 10) rfl rfl (by decide))).trans hf_st
              have hf_fo : f673 fo = .inl (cy 1, 180, .inl gfo) := (hfm fo hm_fo (z_tne hf_fo hf_mm (m := 1540) (n := 10) rfl rfl (by decide))).trans hf_fo
              have hf_dr : f673 dr = .inl (cy 1, 520, .inl gdr) := (hfm dr hm_dr (z_tne hf_dr hf_mm (m := 4260) (n := 10) rfl rfl (by decide))).trans hf_dr
              have hf_mm : f673 mm = .inr (10, [.int m0, .ref wd, .ref my, .ref ce, .ref mv, .ref ta, .int m6, .int a2_674, .int k2_675, .int p2_676, .int v2_677, .long w2_680, .int b2_678, .int q2_679, .int m14, .int m15, .ref li, .ref ha, .ref lw, .ref st, .ref fo, .ref dr, .int m22, .ref ik, .int m24, .int m25, .long m26, .int m27, .int m28, .ref ro, .int m30, .ref ct, .ref se, .ref th, .ref cn, .ref be, .int m36, .ref du, .int m38, .ref db, .int m40, .int m41, .int m42, .ref pn, .ref wg, .ref wh, .ref tn, .ref he, .int m48, .ref tr, .ref fd, .ref po, .int m52, .int m53]) := ha_0
              have hR_r671 : 0 ≤ r671.toInt ∧ r671.toInt ≤ 8 := by omega
              have hC_ : (0 ≤ a2_674.toInt ∧ a2_674.toInt ≤ m6.toInt) ∧ m7.toInt ≤ a2_674.toInt ∧ (b2_678.toInt ≠ 0 ∨ m12.toInt = 0) ∧ (b2_678.toInt ≠ 0 ∨ k2_675.toInt ≠ 3 ∨ m7.toInt < a2_674.toInt) := by refine ⟨⟨?_, ?_⟩, ?_, ?_, ?_⟩ <;> omega
              clear hp
              replace hC := hC_
              clear hC_
              refine lv_istore (lv' := [(5, .int r671), (4, .int r655), (3, .int 1), (2, .int 1), (1, .int 0), (0, .ref mm)]) hx hb dX10_line_141 hl (by decide) rfl (fun ls hl => ?_)
              refine lv_aload_n hx hb dX10_line_143 rfl (lv_at hl 5 rfl) ?_
              refine lv_ldc2 (v := 191706742) hx hb hown (hT _ kw_1449) dX10_line_144 ?_
              refine lv_iconst (v := 2) hx hb dX10_line_147 (by decide) ?_
              refine lv_bipush (v := 9) hx hb dX10_line_148 (by decide) ?_
              have hz681 := (show (191706742 : Int64).toInt = 191706742 by decide)
              have hz682 := (show (2 : Int32).toInt = 2 by decide)
              have hz683 := (show (9 : Int32).toInt = 9 by decide)
              refine z_calliV (cells := 0) (slots := 0) (b := mm) (As := [.long 191706742, .int 2, .int 9]) (rest := []) (ci := 10) (q0 := (RX10, TX10, 54)) ⟨hx, hb, hml, hown, hT⟩ (c_X10_number_ l hm_mm hm_ta hf_mm hf_ta (by first | omega | decide | assumption) (by first | omega | decide | assumption)) (cwV 3 hT (z_goodV (fun _ h => h) kw_1416 kw_1418 kw_41 kw_96 kw_1419) rfl rfl rfl (by decide +kernel) ⟨by decide, by decide⟩) z_mv hKK hK hw hA hm_mm hf_mm rfl rfl rfl hl.1 rfl (Nat.le_of_ble_eq_true rfl) dX10_line_150 ⟨by decide, by decide⟩ (fun r684 u H locs hp hw => ?_)
              obtain ⟨L685, f686⟩ := u
              obtain ⟨hsb, hfm, a2_687, k2_688, p2_689, v2_690, b2_691, q2_692, w2_693, ha_0, hp⟩ := hp
              have hsb : L = L685 := hsb
              subst hsb
              have hsb : ∀ b ∈ L, b ∈ L := fun _ h => h
              have hw : z_H D vwCl (z_A L sz) s.heap L f686 H locs := hw
              have hfr : ∀ b ∈ L, b ≠ mm → b ≠ ha → b ≠ lw → b ≠ st → b ≠ fo → b ≠ dr → f686 b = f b := fun b hb h0 h1 h2 h3 h4 h5 => (hfm b hb h0).trans (hfr b hb h0 h1 h2 h3 h4 h5)
              have hf_ta : f686 ta = .inl (cy 0, 1600, .inl gta) := (hfm ta hm_ta (z_tne hf_ta hf_mm (m := 12900) (n := 10) rfl rfl (by decide))).trans hf_ta
              have hf_ha : f686 ha = .inl (cy 1, 30, .inl gha) := (hfm ha hm_ha (z_tne hf_ha hf_mm (m := 340) (n := 10) rfl rfl (by decide))).trans hf_ha
              have hf_lw : f686 lw = .inl (cy 1, 25, .inl glw) := (hfm lw hm_lw (z_tne hf_lw hf_mm (m := 300) (n := 10) rfl rfl (by decide))).trans hf_lw
              have hf_st : f686 st = .inl (cy 1, 20, .inl gst) := (hfm st hm_st (z_tne hf_st hf_mm (m := 260) (n := 10) rfl rfl (by decide))).trans hf_st
              have hf_fo : f686 fo = .inl (cy 1, 180, .inl gfo) := (hfm fo hm_fo (z_tne hf_fo hf_mm (m := 1540) (n := 10) rfl rfl (by decide))).trans hf_fo
              have hf_dr : f686 dr = .inl (cy 1, 520, .inl gdr) := (hfm dr hm_dr (z_tne hf_dr hf_mm (m := 4260) (n := 10) rfl rfl (by decide))).trans hf_dr
              have hf_mm : f686 mm = .inr (10, [.int m0, .ref wd, .ref my, .ref ce, .ref mv, .ref ta, .int m6, .int a2_687, .int k2_688, .int p2_689, .int v2_690, .long w2_693, .int b2_691, .int q2_692, .int m14, .int m15, .ref li, .ref ha, .ref lw, .ref st, .ref fo, .ref dr, .int m22, .ref ik, .int m24, .int m25, .long m26, .int m27, .int m28, .ref ro, .int m30, .ref ct, .ref se, .ref th, .ref cn, .ref be, .int m36, .ref du, .int m38, .ref db, .int m40, .int m41, .int m42, .ref pn, .ref wg, .ref wh, .ref tn, .ref he, .int m48, .ref tr, .ref fd, .ref po, .int m52, .int m53]) := ha_0
              have hR_r684 : 2 ≤ r684.toInt ∧ r684.toInt ≤ 9 := by omega
              have hC_ : (0 ≤ a2_687.toInt ∧ a2_687.toInt ≤ m6.toInt) ∧ m7.toInt ≤ a2_687.toInt ∧ (b2_691.toInt ≠ 0 ∨ m12.toInt = 0) ∧ (b2_691.toInt ≠ 0 ∨ k2_688.toInt ≠ 3 ∨ m7.toInt < a2_687.toInt) := by refine ⟨⟨?_, ?_⟩, ?_, ?_, ?_⟩ <;> omega
              clear hp
              replace hC := hC_
              clear hC_
              refine lv_istore (lv' := [(6, .int r684), (5, .int r671), (4, .int r655), (3, .int 1), (2, .int 1), (1, .int 0), (0, .ref mm)]) hx hb dX10_line_153 hl (by decide) rfl (fun ls hl => ?_)
              refine lv_aload_n hx hb dX10_line_155 rfl (lv_at hl 6 rfl) ?_
              refine z_calliV (cells := 0) (slots := 0) (b := mm) (As := []) (rest := []) (ci := 10) (q0 := (RX10, TX10, 54)) ⟨hx, hb, hml, hown, hT⟩ (c_X10_isGood l hm_mm hf_mm) (cwV 0 hT (z_goodV (fun _ h => h) kw_1394 kw_1396 kw_36 kw_96 kw_1397) rfl rfl rfl (by decide +kernel) ⟨by decide, by decide⟩) z_mv hKK hK hw hA hm_mm hf_mm rfl rfl rfl hl.1 rfl (Nat.le_of_ble_eq_true rfl) dX10_line_156 ⟨by decide, by decide⟩ (fun r694 u H locs hp hw => ?_)
              obtain ⟨rfl, hp⟩ := hp
              have hw : z_H D vwCl (z_A L sz) s.heap L f686 H locs := hw
              rcases hp with ⟨rfl, h695⟩ | ⟨rfl, h695⟩
              · skip
                refine z_if_eq (tgt := 181) hx hb (show (1 : Int32).toInt = 1 by decide) dX10_line_159 (by decide) (fun h => absurd h (by decide)) (fun _ => ?_)
                refine lv_aload_n hx hb dX10_line_162 rfl (lv_at hl 6 rfl) ?_
                refine z_get (C := RX10) (T := TX10) (N := 54) (ci := 10) (v := .ref fo) hx hb hT zin_X10 hown hK hw hm_mm hf_mm rfl 20 (by decide) (hT _ kw_1188) rfl dX10_line_163 ?_
                refine lv_sipush (v := 144) hx hb dX10_line_166 (by decide) ?_
                refine lv_bipush (v := 9) hx hb dX10_line_169 (by decide) ?_
                refine lv_iload hx hb dX10_line_171 (lv_at hl 2 rfl) ?_
                refine lv_imul hx hb dX10_line_173 ?_
                refine lv_topi (fun w696 e_w696 => ?_)
                have i_w696 : w696.toInt = (9 * r655.toInt) := z_mul e_w696 (show (9 : Int32).toInt = 9 by decide) rfl (by omega)
                refine lv_iadd hx hb dX10_line_174 ?_
                refine lv_topi (fun w697 e_w697 => ?_)
                have i_w697 : w697.toInt = (144 + (9 * r655.toInt)) := z_add e_w697 (show (144 : Int32).toInt = 144 by decide) i_w696 (by omega)
                refine lv_iload hx hb dX10_line_175 (lv_at hl 1 rfl) ?_
                refine lv_iadd hx hb dX10_line_177 ?_
                refine lv_topi (fun w698 e_w698 => ?_)
                have i_w698 : w698.toInt = ((144 + (9 * r655.toInt)) + r671.toInt) := z_add e_w698 i_w697 rfl (by omega)
                refine lv_iload hx hb dX10_line_178 (lv_at hl 0 rfl) ?_
                refine z_iast hx hb hK hw 1 hm_fo hf_fo rfl (z_ix i_w698 (by omega)) dX10_line_180 (fun H locs hw => ?_)
                obtain ⟨f700, e_f700⟩ : ∃ z, z = va_up f686 fo (.inl (cy 1, 180, .inl (upd gfo w698.toNatClampNeg r684))) := ⟨_, rfl⟩
                rw [← e_f700] at hw
                have hf_mm : f700 mm = .inr (10, [.int m0, .ref wd, .ref my, .ref ce, .ref mv, .ref ta, .int m6, .int a2_687, .int k2_688, .int p2_689, .int v2_690, .long w2_693, .int b2_691, .int q2_692, .int m14, .int m15, .ref li, .ref ha, .ref lw, .ref st, .ref fo, .ref dr, .int m22, .ref ik, .int m24, .int m25, .long m26, .int m27, .int m28, .ref ro, .int m30, .ref ct, .ref se, .ref th, .ref cn, .ref be, .int m36, .ref du, .int m38, .ref db, .int m40, .int m41, .int m42, .ref pn, .ref wg, .ref wh, .ref tn, .ref he, .int m48, .ref tr, .ref fd, .ref po, .int m52, .int m53]) := (congrFun e_f700 mm).trans (z_up_ne (z_tne hf_mm hf_fo (m := 10) (n := 1540) rfl rfl (by decide)) hf_mm)
                have hf_ta : f700 ta = .inl (cy 0, 1600, .inl gta) := (congrFun e_f700 ta).trans (z_up_ne (z_tne hf_ta hf_fo (m := 12900) (n := 1540) rfl rfl (by decide)) hf_ta)
                have hf_ha : f700 ha = .inl (cy 1, 30, .inl gha) := (congrFun e_f700 ha).trans (z_up_ne (z_tne hf_ha hf_fo (m := 340) (n := 1540) rfl rfl (by decide)) hf_ha)
                have hf_lw : f700 lw = .inl (cy 1, 25, .inl glw) := (congrFun e_f700 lw).trans (z_up_ne (z_tne hf_lw hf_fo (m := 300) (n := 1540) rfl rfl (by decide)) hf_lw)
                have hf_st : f700 st = .inl (cy 1, 20, .inl gst) := (congrFun e_f700 st).trans (z_up_ne (z_tne hf_st hf_fo (m := 260) (n := 1540) rfl rfl (by decide)) hf_st)
                have hf_dr : f700 dr = .inl (cy 1, 520, .inl gdr) := (congrFun e_f700 dr).trans (z_up_ne (z_tne hf_dr hf_fo (m := 4260) (n := 1540) rfl rfl (by decide)) hf_dr)
                have hf_fo : f700 fo = .inl (cy 1, 180, .inl (upd gfo w698.toNatClampNeg r684)) := (congrFun e_f700 fo).trans z_up_self
                have hfr : ∀ b ∈ L, b ≠ mm → b ≠ ha → b ≠ lw → b ≠ st → b ≠ fo → b ≠ dr → f700 b = f b := fun b hb h0 h1 h2 h3 h4 h5 => (congrFun e_f700 b).trans (z_up_ne h4 (hfr b hb h0 h1 h2 h3 h4 h5))
                obtain ⟨g699, e_g699⟩ : ∃ z, z = (upd gfo w698.toNatClampNeg r684) := ⟨_, rfl⟩
                rw [← e_g699] at hf_fo
                refine lv_aload_n hx hb dX10_line_181 rfl (lv_at hl 6 rfl) ?_
                refine z_get (C := RX10) (T := TX10) (N := 54) (ci := 10) (v := .ref ha) hx hb hT zin_X10 hown hK hw hm_mm hf_mm rfl 17 (by decide) (hT _ kw_1185) rfl dX10_line_182 ?_
                refine lv_bipush (v := 28) hx hb dX10_line_185 (by decide) ?_
                refine lv_dup2_11 hx hb dX10_line_187 rfl rfl ?_
                refine z_iald hx hb hK hw 1 hm_ha hf_ha rfl (z_ix (show (28 : Int32).toInt = 28 by decide) (by decide)) dX10_line_188 ?_
                refine lv_topi (fun w701 e_w701 => ?_)
                refine lv_iconst (v := 1) hx hb dX10_line_189 (by decide) ?_
                refine lv_iadd hx hb dX10_line_190 ?_
                refine lv_topi (fun w702 e_w702 => ?_)
                refine z_iast hx hb hK hw 1 hm_ha hf_ha rfl (z_ix (show (28 : Int32).toInt = 28 by decide) (by decide)) dX10_line_191 (fun H locs hw => ?_)
                obtain ⟨f704, e_f704⟩ : ∃ z, z = va_up f700 ha (.inl (cy 1, 30, .inl (upd gha (28 : Int32).toNatClampNeg w702))) := ⟨_, rfl⟩
                rw [← e_f704] at hw
                have hf_mm : f704 mm = .inr (10, [.int m0, .ref wd, .ref my, .ref ce, .ref mv, .ref ta, .int m6, .int a2_687, .int k2_688, .int p2_689, .int v2_690, .long w2_693, .int b2_691, .int q2_692, .int m14, .int m15, .ref li, .ref ha, .ref lw, .ref st, .ref fo, .ref dr, .int m22, .ref ik, .int m24, .int m25, .long m26, .int m27, .int m28, .ref ro, .int m30, .ref ct, .ref se, .ref th, .ref cn, .ref be, .int m36, .ref du, .int m38, .ref db, .int m40, .int m41, .int m42, .ref pn, .ref wg, .ref wh, .ref tn, .ref he, .int m48, .ref tr, .ref fd, .ref po, .int m52, .int m53]) := (congrFun e_f704 mm).trans (z_up_ne (z_tne hf_mm hf_ha (m := 10) (n := 340) rfl rfl (by decide)) hf_mm)
                have hf_ta : f704 ta = .inl (cy 0, 1600, .inl gta) := (congrFun e_f704 ta).trans (z_up_ne (z_tne hf_ta hf_ha (m := 12900) (n := 340) rfl rfl (by decide)) hf_ta)
                have hf_lw : f704 lw = .inl (cy 1, 25, .inl glw) := (congrFun e_f704 lw).trans (z_up_ne (z_tne hf_lw hf_ha (m := 300) (n := 340) rfl rfl (by decide)) hf_lw)
                have hf_st : f704 st = .inl (cy 1, 20, .inl gst) := (congrFun e_f704 st).trans (z_up_ne (z_tne hf_st hf_ha (m := 260) (n := 340) rfl rfl (by decide)) hf_st)
                have hf_fo : f704 fo = .inl (cy 1, 180, .inl g699) := (congrFun e_f704 fo).trans (z_up_ne (z_tne hf_fo hf_ha (m := 1540) (n := 340) rfl rfl (by decide)) hf_fo)
                have hf_dr : f704 dr = .inl (cy 1, 520, .inl gdr) := (congrFun e_f704 dr).trans (z_up_ne (z_tne hf_dr hf_ha (m := 4260) (n := 340) rfl rfl (by decide)) hf_dr)
                have hf_ha : f704 ha = .inl (cy 1, 30, .inl (upd gha (28 : Int32).toNatClampNeg w702)) := (congrFun e_f704 ha).trans z_up_self
                have hfr : ∀ b ∈ L, b ≠ mm → b ≠ ha → b ≠ lw → b ≠ st → b ≠ fo → b ≠ dr → f704 b = f b := fun b hb h0 h1 h2 h3 h4 h5 => (congrFun e_f704 b).trans (z_up_ne h1 (hfr b hb h0 h1 h2 h3 h4 h5))
                obtain ⟨g703, e_g703⟩ : ∃ z, z = (upd gha (28 : Int32).toNatClampNeg w702) := ⟨_, rfl⟩
                rw [← e_g703] at hf_ha
                have hq_ha : ∀ j : Nat, (q_hasR hz) j (g703 j) := z_updQ hq_ha e_g703 (show q_hasR _ _ _ from ⟨(show q_has _ _ from ⟨(fun h => absurd h (by decide)), (fun h => absurd h (by decide)), (fun h => absurd h (by decide)), (fun h => absurd h (by decide))⟩), fun h => absurd h (by decide)⟩)
                refine lv_goto (tgt := 335) hx hb dX10_line_192 (by decide) ?_
                exact z_vret hx hb hr hlk (by decide) (by decide) hw (⟨hsub, hfr, a2_687, k2_688, p2_689, v2_690, b2_691, q2_692, m22, w2_693, g703, glw, gst, g699, gdr, hf_mm, hf_ha, hf_lw, hf_st, hf_fo, hf_dr, hq_ha, hq_lw, hq_st, hq_dr, by omega, by omega, by omega, by omega, rfl⟩) dX10_line_335
              · skip
                refine z_if_eq (tgt := 181) hx hb (show (0 : Int32).toInt = 0 by decide) dX10_line_159 (by decide) (fun _ => ?_) (fun h => absurd h (by decide))
                refine lv_aload_n hx hb dX10_line_181 rfl (lv_at hl 6 rfl) ?_
                refine z_get (C := RX10) (T := TX10) (N := 54) (ci := 10) (v := .ref ha) hx hb hT zin_X10 hown hK hw hm_mm hf_mm rfl 17 (by decide) (hT _ kw_1185) rfl dX10_line_182 ?_
                refine lv_bipush (v := 28) hx hb dX10_line_185 (by decide) ?_
                refine lv_dup2_11 hx hb dX10_line_187 rfl rfl ?_
                refine z_iald hx hb hK hw 1 hm_ha hf_ha rfl (z_ix (show (28 : Int32).toInt = 28 by decide) (by decide)) dX10_line_188 ?_
                refine lv_topi (fun w705 e_w705 => ?_)
                refine lv_iconst (v := 1) hx hb dX10_line_189 (by decide) ?_
                refine lv_iadd hx hb dX10_line_190 ?_
                refine lv_topi (fun w706 e_w706 => ?_)
                refine z_iast hx hb hK hw 1 hm_ha hf_ha rfl (z_ix (show (28 : Int32).toInt = 28 by decide) (by decide)) dX10_line_191 (fun H locs hw => ?_)
                obtain ⟨f708, e_f708⟩ : ∃ z, z = va_up f686 ha (.inl (cy 1, 30, .inl (upd gha (28 : Int32).toNatClampNeg w706))) := ⟨_, rfl⟩
                rw [← e_f708] at hw
                have hf_mm : f708 mm = .inr (10, [.int m0, .ref wd, .ref my, .ref ce, .ref mv, .ref ta, .int m6, .int a2_687, .int k2_688, .int p2_689, .int v2_690, .long w2_693, .int b2_691, .int q2_692, .int m14, .int m15, .ref li, .ref ha, .ref lw, .ref st, .ref fo, .ref dr, .int m22, .ref ik, .int m24, .int m25, .long m26, .int m27, .int m28, .ref ro, .int m30, .ref ct, .ref se, .ref th, .ref cn, .ref be, .int m36, .ref du, .int m38, .ref db, .int m40, .int m41, .int m42, .ref pn, .ref wg, .ref wh, .ref tn, .ref he, .int m48, .ref tr, .ref fd, .ref po, .int m52, .int m53]) := (congrFun e_f708 mm).trans (z_up_ne (z_tne hf_mm hf_ha (m := 10) (n := 340) rfl rfl (by decide)) hf_mm)
                have hf_ta : f708 ta = .inl (cy 0, 1600, .inl gta) := (congrFun e_f708 ta).trans (z_up_ne (z_tne hf_ta hf_ha (m := 12900) (n := 340) rfl rfl (by decide)) hf_ta)
                have hf_lw : f708 lw = .inl (cy 1, 25, .inl glw) := (congrFun e_f708 lw).trans (z_up_ne (z_tne hf_lw hf_ha (m := 300) (n := 340) rfl rfl (by decide)) hf_lw)
                have hf_st : f708 st = .inl (cy 1, 20, .inl gst) := (congrFun e_f708 st).trans (z_up_ne (z_tne hf_st hf_ha (m := 260) (n := 340) rfl rfl (by decide)) hf_st)
                have hf_fo : f708 fo = .inl (cy 1, 180, .inl gfo) := (congrFun e_f708 fo).trans (z_up_ne (z_tne hf_fo hf_ha (m := 1540) (n := 340) rfl rfl (by decide)) hf_fo)
                have hf_dr : f708 dr = .inl (cy 1, 520, .inl gdr) := (congrFun e_f708 dr).trans (z_up_ne (z_tne hf_dr hf_ha (m := 4260) (n := 340) rfl rfl (by decide)) hf_dr)
                have hf_ha : f708 ha = .inl (cy 1, 30, .inl (upd gha (28 : Int32).toNatClampNeg w706)) := (congrFun e_f708 ha).trans z_up_self
                have hfr : ∀ b ∈ L, b ≠ mm → b ≠ ha → b ≠ lw → b ≠ st → b ≠ fo → b ≠ dr → f708 b = f b := fun b hb h0 h1 h2 h3 h4 h5 => (congrFun e_f708 b).trans (z_up_ne h1 (hfr b hb h0 h1 h2 h3 h4 h5))
                obtain ⟨g707, e_g707⟩ : ∃ z, z = (upd gha (28 : Int32).toNatClampNeg w706) := ⟨_, rfl⟩
                rw [← e_g707] at hf_ha
                have hq_ha : ∀ j : Nat, (q_hasR hz) j (g707 j) := z_updQ hq_ha e_g707 (show q_hasR _ _ _ from ⟨(show q_has _ _ from ⟨(fun h => absurd h (by decide)), (fun h => absurd h (by decide)), (fun h => absurd h (by decide)), (fun h => absurd h (by decide))⟩), fun h => absurd h (by decide)⟩)
                refine lv_goto (tgt := 335) hx hb dX10_line_192 (by decide) ?_
                exact z_vret hx hb hr hlk (by decide) (by decide) hw (⟨hsub, hfr, a2_687, k2_688, p2_689, v2_690, b2_691, q2_692, m22, w2_693, g707, glw, gst, gfo, gdr, hf_mm, hf_ha, hf_lw, hf_st, hf_fo, hf_dr, hq_ha, hq_lw, hq_st, hq_dr, by omega, by omega, by omega, by omega, rfl⟩) dX10_line_335
            · skip
              exact z_vret hx hb hr hlk (by decide) (by decide) hw (⟨hsub, hfr, m7, m8, m9, m10, b2_639, p2_640, m22, m11, gha, glw, gst, gfo, gdr, hf_mm, hf_ha, hf_lw, hf_st, hf_fo, hf_dr, hq_ha, hq_lw, hq_st, hq_dr, by omega, by omega, by omega, by omega, rfl⟩) dX10_line_88
        · skip
          refine lv_aload_n hx hb dX10_line_35 rfl (lv_at hl 3 rfl) ?_
          refine lv_iconst (v := 3) hx hb dX10_line_36 (by decide) ?_
          have hz709 := (show (3 : Int32).toInt = 3 by decide)
          refine z_calliV (cells := 0) (slots := 0) (b := mm) (As := [.int 3]) (rest := []) (ci := 10) (q0 := (RX10, TX10, 54)) ⟨hx, hb, hml, hown, hT⟩ (c_X10_hasRead l hm_mm hm_ha hf_mm hf_ha hq_ha (by decide)) (cwV 1 hT (z_goodV (fun _ h => h) kw_1434 kw_1436 kw_44 kw_96 kw_1437) rfl rfl rfl (by decide +kernel) ⟨by decide, by decide⟩) z_mv hKK hK hw hA hm_mm hf_mm rfl rfl rfl hl.1 rfl (Nat.le_of_ble_eq_true rfl) dX10_line_37 ⟨by decide, by decide⟩ (fun r710 u H locs hp hw => ?_)
          obtain ⟨rfl, hp⟩ := hp
          have hw : z_H D vwCl (z_A L sz) s.heap L f H locs := hw
          have h3e711 : (gha 27).toInt = r710.toInt := by rw [hp]; rfl
          have hh712 : 0 ≤ r710.toInt ∧ r710.toInt ≤ 12 := by rw [hp]; exact (hq_ha 27).1.2.2.2 rfl
          refine z_if_le (tgt := 48) hx hb rfl dX10_line_40 (by decide) (fun c713 => ?_) (fun c713 => ?_)
          · skip
            refine lv_iload_n hx hb dX10_line_48 rfl (lv_at hl 2 rfl) ?_
            refine z_if_eq (tgt := 62) hx hb (show (0 : Int32).toInt = 0 by decide) dX10_line_49 (by decide) (fun _ => ?_) (fun h => absurd h (by decide))
            refine lv_iload_n hx hb dX10_line_62 rfl (lv_at hl 1 rfl) ?_
            refine z_if_eq (tgt := 81) hx hb (show (1 : Int32).toInt = 1 by decide) dX10_line_63 (by decide) (fun h => absurd h (by decide)) (fun _ => ?_)
            refine lv_aload_n hx hb dX10_line_66 rfl (lv_at hl 3 rfl) ?_
            refine lv_iconst (v := 4) hx hb dX10_line_67 (by decide) ?_
            have hz714 := (show (4 : Int32).toInt = 4 by decide)
            refine z_calliV (cells := 0) (slots := 0) (b := mm) (As := [.int 4]) (rest := []) (ci := 10) (q0 := (RX10, TX10, 54)) ⟨hx, hb, hml, hown, hT⟩ (c_X10_hasRead l hm_mm hm_ha hf_mm hf_ha hq_ha (by decide)) (cwV 1 hT (z_goodV (fun _ h => h) kw_1434 kw_1436 kw_44 kw_96 kw_1437) rfl rfl rfl (by decide +kernel) ⟨by decide, by decide⟩) z_mv hKK hK hw hA hm_mm hf_mm rfl rfl rfl hl.1 rfl (Nat.le_of_ble_eq_true rfl) dX10_line_68 ⟨by decide, by decide⟩ (fun r715 u H locs hp hw => ?_)
            obtain ⟨rfl, hp⟩ := hp
            have hw : z_H D vwCl (z_A L sz) s.heap L f H locs := hw
            refine lv_bipush (v := 8) hx hb dX10_line_71 (by decide) ?_
            refine z_icmp_ne (tgt := 81) hx hb rfl (show (8 : Int32).toInt = 8 by decide) dX10_line_73 (by decide) (fun c716 => ?_) (fun c716 => ?_)
            · skip
              refine lv_aload_n hx hb dX10_line_81 rfl (lv_at hl 3 rfl) ?_
              refine z_get (C := RX10) (T := TX10) (N := 54) (ci := 10) (v := .int m12) hx hb hT zin_X10 hown hK hw hm_mm hf_mm rfl 12 (by decide) (hT _ kw_1180) rfl dX10_line_82 ?_
              refine z_if_eq (tgt := 89) hx hb rfl dX10_line_85 (by decide) (fun c717 => ?_) (fun c717 => ?_)
              · skip
                refine lv_iload_n hx hb dX10_line_89 rfl (lv_at hl 2 rfl) ?_
                refine z_if_eq (tgt := 104) hx hb (show (0 : Int32).toInt = 0 by decide) dX10_line_90 (by decide) (fun _ => ?_) (fun h => absurd h (by decide))
                refine lv_iload_n hx hb dX10_line_104 rfl (lv_at hl 1 rfl) ?_
                refine z_if_eq (tgt := 195) hx hb (show (1 : Int32).toInt = 1 by decide) dX10_line_105 (by decide) (fun h => absurd h (by decide)) (fun _ => ?_)
                refine lv_aload_n hx hb dX10_line_108 rfl (lv_at hl 3 rfl) ?_
                refine z_callvV (cells := 0) (slots := 0) (b := mm) (As := []) (rest := []) (ci := 10) (q0 := (RX10, TX10, 54)) ⟨hx, hb, hml, hown, hT⟩ (c_X10_next l hm_mm hm_ta hf_mm hf_ta (by first | omega | decide | assumption) (by first | omega | decide | assumption)) (cwV 0 hT (z_goodV (fun _ h => h) kw_1381 kw_1383 kw_34 kw_96 kw_1384) rfl rfl rfl (by decide +kernel) ⟨by decide, by decide⟩) z_mv hKK hK hw hA hm_mm hf_mm rfl rfl rfl hl.1 rfl (Nat.le_of_ble_eq_true rfl) dX10_line_109 ⟨by decide, by decide⟩ (fun u H locs hp hw => ?_)
                obtain ⟨L718, f719⟩ := u
                obtain ⟨hsb, hfm, a2_720, k2_721, p2_722, v2_723, w2_724, ha_0, hp⟩ := hp
                have hsb : L = L718 := hsb
                subst hsb
                have hsb : ∀ b ∈ L, b ∈ L := fun _ h => h
                have hw : z_H D vwCl (z_A L sz) s.heap L f719 H locs := hw
                have hfr : ∀ b ∈ L, b ≠ mm → b ≠ ha → b ≠ lw → b ≠ st → b ≠ fo → b ≠ dr → f719 b = f b := fun b hb h0 h1 h2 h3 h4 h5 => (hfm b hb h0).trans (hfr b hb h0 h1 h2 h3 h4 h5)
                have hf_ta : f719 ta = .inl (cy 0, 1600, .inl gta) := (hfm ta hm_ta (z_tne hf_ta hf_mm (m := 12900) (n := 10) rfl rfl (by decide))).trans hf_ta
                have hf_ha : f719 ha = .inl (cy 1, 30, .inl gha) := (hfm ha hm_ha (z_tne hf_ha hf_mm (m := 340) (n := 10) rfl rfl (by decide))).trans hf_ha
                have hf_lw : f719 lw = .inl (cy 1, 25, .inl glw) := (hfm lw hm_lw (z_tne hf_lw hf_mm (m := 300) (n := 10) rfl rfl (by decide))).trans hf_lw
                have hf_st : f719 st = .inl (cy 1, 20, .inl gst) := (hfm st hm_st (z_tne hf_st hf_mm (m := 260) (n := 10) rfl rfl (by decide))).trans hf_st
                have hf_fo : f719 fo = .inl (cy 1, 180, .inl gfo) := (hfm fo hm_fo (z_tne hf_fo hf_mm (m := 1540) (n := 10) rfl rfl (by decide))).trans hf_fo
                have hf_dr : f719 dr = .inl (cy 1, 520, .inl gdr) := (hfm dr hm_dr (z_tne hf_dr hf_mm (m := 4260) (n := 10) rfl rfl (by decide))).trans hf_dr
                have hf_mm : f719 mm = .inr (10, [.int m0, .ref wd, .ref my, .ref ce, .ref mv, .ref ta, .int m6, .int a2_720, .int k2_721, .int p2_722, .int v2_723, .long w2_724, .int m12, .int m13, .int m14, .int m15, .ref li, .ref ha, .ref lw, .ref st, .ref fo, .ref dr, .int m22, .ref ik, .int m24, .int m25, .long m26, .int m27, .int m28, .ref ro, .int m30, .ref ct, .ref se, .ref th, .ref cn, .ref be, .int m36, .ref du, .int m38, .ref db, .int m40, .int m41, .int m42, .ref pn, .ref wg, .ref wh, .ref tn, .ref he, .int m48, .ref tr, .ref fd, .ref po, .int m52, .int m53]) := ha_0
                have hC_ : (0 ≤ a2_720.toInt ∧ a2_720.toInt ≤ m6.toInt) ∧ m7.toInt ≤ a2_720.toInt ∧ (m12.toInt ≠ 0 ∨ m12.toInt = 0) ∧ (m12.toInt ≠ 0 ∨ k2_721.toInt ≠ 3 ∨ m7.toInt < a2_720.toInt) := by refine ⟨⟨?_, ?_⟩, ?_, ?_, ?_⟩ <;> omega
                clear hp
                replace hC := hC_
                clear hC_
                refine lv_aload_n hx hb dX10_line_112 rfl (lv_at hl 3 rfl) ?_
                refine lv_iconst (v := 0) hx hb dX10_line_113 (by decide) ?_
                refine lv_aload_n hx hb dX10_line_114 rfl (lv_at hl 3 rfl) ?_
                refine lv_iconst (v := 0) hx hb dX10_line_115 (by decide) ?_
                have hz725 := (show (0 : Int32).toInt = 0 by decide)
                refine z_calliV (cells := 0) (slots := 0) (b := mm) (As := [.int 0]) (rest := [.int 0, .ref mm]) (ci := 10) (q0 := (RX10, TX10, 54)) ⟨hx, hb, hml, hown, hT⟩ (c_X10_hasRead l hm_mm hm_ha hf_mm hf_ha hq_ha (by decide)) (cwV 1 hT (z_goodV (fun _ h => h) kw_1434 kw_1436 kw_44 kw_96 kw_1437) rfl rfl rfl (by decide +kernel) ⟨by decide, by decide⟩) z_mv hKK hK hw hA hm_mm hf_mm rfl rfl rfl hl.1 rfl (Nat.le_of_ble_eq_true rfl) dX10_line_116 ⟨by decide, by decide⟩ (fun r726 u H locs hp hw => ?_)
                obtain ⟨rfl, hp⟩ := hp
                have hw : z_H D vwCl (z_A L sz) s.heap L f719 H locs := hw
                have hh727 : 0 ≤ r726.toInt ∧ r726.toInt ≤ 4 := by rw [hp]; exact (hq_ha 24).1.1 rfl
                refine lv_iconst (v := 1) hx hb dX10_line_119 (by decide) ?_
                refine lv_isub hx hb dX10_line_120 ?_
                refine lv_topi (fun w728 e_w728 => ?_)
                have i_w728 : w728.toInt = (r726.toInt - 1) := z_subI e_w728 rfl (show (1 : Int32).toInt = 1 by decide) (by omega)
                have hz729 := (show (0 : Int32).toInt = 0 by decide)
                refine z_calliV (cells := 0) (slots := 0) (b := mm) (As := [.int 0, .int w728]) (rest := []) (ci := 10) (q0 := (RX10, TX10, 54)) ⟨hx, hb, hml, hown, hT⟩ (c_X10_number l hm_mm hm_ta hf_mm hf_ta (by first | omega | decide | assumption) (by first | omega | decide | assumption)) (cwV 2 hT (z_goodV (fun _ h => h) kw_1420 kw_1422 kw_42 kw_96 kw_1423) rfl rfl rfl (by decide +kernel) ⟨by decide, by decide⟩) z_mv hKK hK hw hA hm_mm hf_mm rfl rfl rfl hl.1 rfl (Nat.le_of_ble_eq_true rfl) dX10_line_121 ⟨by decide, by decide⟩ (fun r730 u H locs hp hw => ?_)
                obtain ⟨L731, f732⟩ := u
                obtain ⟨hsb, hfm, a2_733, k2_734, p2_735, v2_736, b2_737, q2_738, w2_739, ha_0, hp⟩ := hp
                have hsb : L = L731 := hsb
                subst hsb
                have hsb : ∀ b ∈ L, b ∈ L := fun _ h => h
                have hw : z_H D vwCl (z_A L sz) s.heap L f732 H locs := hw
                have hfr : ∀ b ∈ L, b ≠ mm → b ≠ ha → b ≠ lw → b ≠ st → b ≠ fo → b ≠ dr → f732 b = f b := fun b hb h0 h1 h2 h3 h4 h5 => (hfm b hb h0).trans (hfr b hb h0 h1 h2 h3 h4 h5)
                have hf_ta : f732 ta = .inl (cy 0, 1600, .inl gta) := (hfm ta hm_ta (z_tne hf_ta hf_mm (m := 12900) (n := 10) rfl rfl (by decide))).trans hf_ta
                have hf_ha : f732 ha = .inl (cy 1, 30, .inl gha) := (hfm ha hm_ha (z_tne hf_ha hf_mm (m := 340) (n := 10) rfl rfl (by decide))).trans hf_ha
                have hf_lw : f732 lw = .inl (cy 1, 25, .inl glw) := (hfm lw hm_lw (z_tne hf_lw hf_mm (m := 300) (n := 10) rfl rfl (by decide))).trans hf_lw
                have hf_st : f732 st = .inl (cy 1, 20, .inl gst) := (hfm st hm_st (z_tne hf_st hf_mm (m := 260) (n := 10) rfl rfl (by decide))).trans hf_st
                have hf_fo : f732 fo = .inl (cy 1, 180, .inl gfo) := (hfm fo hm_fo (z_tne hf_fo hf_mm (m := 1540) (n := 10) rfl rfl (by decide))).trans hf_fo
                have hf_dr : f732 dr = .inl (cy 1, 520, .inl gdr) := (hfm dr hm_dr (z_tne hf_dr hf_mm (m := 4260) (n := 10) rfl rfl (by decide))).trans hf_dr
                have hf_mm : f732 mm = .inr (10, [.int m0, .ref wd, .ref my, .ref ce, .ref mv, .ref ta, .int m6, .int a2_733, .int k2_734, .int p2_735, .int v2_736, .long w2_739, .int b2_737, .int q2_738, .int m14, .int m15, .ref li, .ref ha, .ref lw, .ref st, .ref fo, .ref dr, .int m22, .ref ik, .int m24, .int m25, .long m26, .int m27, .int m28, .ref ro, .int m30, .ref ct, .ref se, .ref th, .ref cn, .ref be, .int m36, .ref du, .int m38, .ref db, .int m40, .int m41, .int m42, .ref pn, .ref wg, .ref wh, .ref tn, .ref he, .int m48, .ref tr, .ref fd, .ref po, .int m52, .int m53]) := ha_0
                have hR_r730 : 0 ≤ r730.toInt ∧ r730.toInt ≤ 3 := by omega
                have hC_ : (0 ≤ a2_733.toInt ∧ a2_733.toInt ≤ m6.toInt) ∧ m7.toInt ≤ a2_733.toInt ∧ (b2_737.toInt ≠ 0 ∨ m12.toInt = 0) ∧ (b2_737.toInt ≠ 0 ∨ k2_734.toInt ≠ 3 ∨ m7.toInt < a2_733.toInt) := by refine ⟨⟨?_, ?_⟩, ?_, ?_, ?_⟩ <;> omega
                clear hp
                replace hC := hC_
                clear hC_
                refine lv_istore (lv' := [(4, .int r730), (3, .int 1), (2, .int 1), (1, .int 0), (0, .ref mm)]) hx hb dX10_line_124 hl (by decide) rfl (fun ls hl => ?_)
                refine lv_aload_n hx hb dX10_line_126 rfl (lv_at hl 4 rfl) ?_
                refine lv_ldc2 (v := 419) hx hb hown (hT _ kw_1443) dX10_line_127 ?_
                refine lv_iconst (v := 0) hx hb dX10_line_130 (by decide) ?_
                refine lv_aload_n hx hb dX10_line_131 rfl (lv_at hl 4 rfl) ?_
                refine lv_iconst (v := 1) hx hb dX10_line_132 (by decide) ?_
                have hz740 := (show (1 : Int32).toInt = 1 by decide)
                refine z_calliV (cells := 0) (slots := 0) (b := mm) (As := [.int 1]) (rest := [.int 0, .long 419, .ref mm]) (ci := 10) (q0 := (RX10, TX10, 54)) ⟨hx, hb, hml, hown, hT⟩ (c_X10_hasRead l hm_mm hm_ha hf_mm hf_ha hq_ha (by decide)) (cwV 1 hT (z_goodV (fun _ h => h) kw_1434 kw_1436 kw_44 kw_96 kw_1437) rfl rfl rfl (by decide +kernel) ⟨by decide, by decide⟩) z_mv hKK hK hw hA hm_mm hf_mm rfl rfl rfl hl.1 rfl (Nat.le_of_ble_eq_true rfl) dX10_line_133 ⟨by decide, by decide⟩ (fun r741 u H locs hp hw => ?_)
                obtain ⟨rfl, hp⟩ := hp
                have hw : z_H D vwCl (z_A L sz) s.heap L f732 H locs := hw
                have hh742 : 0 ≤ r741.toInt ∧ r741.toInt ≤ 9 := by rw [hp]; exact (hq_ha 25).1.2.1 rfl
                refine lv_iconst (v := 1) hx hb dX10_line_136 (by decide) ?_
                refine lv_isub hx hb dX10_line_137 ?_
                refine lv_topi (fun w743 e_w743 => ?_)
                have i_w743 : w743.toInt = (r741.toInt - 1) := z_subI e_w743 rfl (show (1 : Int32).toInt = 1 by decide) (by omega)
                have hz744 := (show (419 : Int64).toInt = 419 by decide)
                have hz745 := (show (0 : Int32).toInt = 0 by decide)
                refine z_calliV (cells := 0) (slots := 0) (b := mm) (As := [.long 419, .int 0, .int w743]) (rest := []) (ci := 10) (q0 := (RX10, TX10, 54)) ⟨hx, hb, hml, hown, hT⟩ (c_X10_number_ l hm_mm hm_ta hf_mm hf_ta (by first | omega | decide | assumption) (by first | omega | decide | assumption)) (cwV 3 hT (z_goodV (fun _ h => h) kw_1416 kw_1418 kw_41 kw_96 kw_1419) rfl rfl rfl (by decide +kernel) ⟨by decide, by decide⟩) z_mv hKK hK hw hA hm_mm hf_mm rfl rfl rfl hl.1 rfl (Nat.le_of_ble_eq_true rfl) dX10_line_138 ⟨by decide, by decide⟩ (fun r746 u H locs hp hw => ?_)
                obtain ⟨L747, f748⟩ := u
                obtain ⟨hsb, hfm, a2_749, k2_750, p2_751, v2_752, b2_753, q2_754, w2_755, ha_0, hp⟩ := hp
                have hsb : L = L747 := hsb
                subst hsb
                have hsb : ∀ b ∈ L, b ∈ L := fun _ h => h
                have hw : z_H D vwCl (z_A L sz) s.heap L f748 H locs := hw
                have hfr : ∀ b ∈ L, b ≠ mm → b ≠ ha → b ≠ lw → b ≠ st → b ≠ fo → b ≠ dr → f748 b = f b := fun b hb h0 h1 h2 h3 h4 h5 => (hfm b hb h0).trans (hfr b hb h0 h1 h2 h3 h4 h5)
                have hf_ta : f748 ta = .inl (cy 0, 1600, .inl gta) := (hfm ta hm_ta (z_tne hf_ta hf_mm (m := 12900) (n := 10) rfl rfl (by decide))).trans hf_ta
                have hf_ha : f748 ha = .inl (cy 1, 30, .inl gha) := (hfm ha hm_ha (z_tne hf_ha hf_mm (m := 340) (n := 10) rfl rfl (by decide))).trans hf_ha
                have hf_lw : f748 lw = .inl (cy 1, 25, .inl glw) := (hfm lw hm_lw (z_tne hf_lw hf_mm (m := 300) (n := 10) rfl rfl (by decide))).trans hf_lw
                have hf_st : f748 st = .inl (cy 1, 20, .inl gst) := (hfm st hm_st (z_tne hf_st hf_mm (m := 260) (n := 10) rfl rfl (by decide))).trans hf_st
                have hf_fo : f748 fo = .inl (cy 1, 180, .inl gfo) := (hfm fo hm_fo (z_tne hf_fo hf_mm (m := 1540) (n := 10) rfl rfl (by decide))).trans hf_fo
                have hf_dr : f748 dr = .inl (cy 1, 520, .inl gdr) := (hfm dr hm_dr (z_tne hf_dr hf_mm (m := 4260) (n := 10) rfl rfl (by decide))).trans hf_dr
                have hf_mm : f748 mm = .inr (10, [.int m0, .ref wd, .ref my, .ref ce, .ref mv, .ref ta, .int m6, .int a2_749, .int k2_750, .int p2_751, .int v2_752, .long w2_755, .int b2_753, .int q2_754, .int m14, .int m15, .ref li, .ref ha, .ref lw, .ref st, .ref fo, .ref dr, .int m22, .ref ik, .int m24, .int m25, .long m26, .int m27, .int m28, .ref ro, .int m30, .ref ct, .ref se, .ref th, .ref cn, .ref be, .int m36, .ref du, .int m38, .ref db, .int m40, .int m41, .int m42, .ref pn, .ref wg, .ref wh, .ref tn, .ref he, .int m48, .ref tr, .ref fd, .ref po, .int m52, .int m53]) := ha_0
                have hR_r746 : 0 ≤ r746.toInt ∧ r746.toInt ≤ 8 := by omega
                have hC_ : (0 ≤ a2_749.toInt ∧ a2_749.toInt ≤ m6.toInt) ∧ m7.toInt ≤ a2_749.toInt ∧ (b2_753.toInt ≠ 0 ∨ m12.toInt = 0) ∧ (b2_753.toInt ≠ 0 ∨ k2_750.toInt ≠ 3 ∨ m7.toInt < a2_749.toInt) := by refine ⟨⟨?_, ?_⟩, ?_, ?_, ?_⟩ <;> omega
                clear hp
                replace hC := hC_
                clear hC_
                refine lv_istore (lv' := [(5, .int r746), (4, .int r730), (3, .int 1), (2, .int 1), (1, .int 0), (0, .ref mm)]) hx hb dX10_line_141 hl (by decide) rfl (fun ls hl => ?_)
                refine lv_aload_n hx hb dX10_line_143 rfl (lv_at hl 5 rfl) ?_
                refine lv_ldc2 (v := 191706742) hx hb hown (hT _ kw_1449) dX10_line_144 ?_
                refine lv_iconst (v := 2) hx hb dX10_line_147 (by decide) ?_
                refine lv_bipush (v := 9) hx hb dX10_line_148 (by decide) ?_
                have hz756 := (show (191706742 : Int64).toInt = 191706742 by decide)
                have hz757 := (show (2 : Int32).toInt = 2 by decide)
                have hz758 := (show (9 : Int32).toInt = 9 by decide)
                refine z_calliV (cells := 0) (slots := 0) (b := mm) (As := [.long 191706742, .int 2, .int 9]) (rest := []) (ci := 10) (q0 := (RX10, TX10, 54)) ⟨hx, hb, hml, hown, hT⟩ (c_X10_number_ l hm_mm hm_ta hf_mm hf_ta (by first | omega | decide | assumption) (by first | omega | decide | assumption)) (cwV 3 hT (z_goodV (fun _ h => h) kw_1416 kw_1418 kw_41 kw_96 kw_1419) rfl rfl rfl (by decide +kernel) ⟨by decide, by decide⟩) z_mv hKK hK hw hA hm_mm hf_mm rfl rfl rfl hl.1 rfl (Nat.le_of_ble_eq_true rfl) dX10_line_150 ⟨by decide, by decide⟩ (fun r759 u H locs hp hw => ?_)
                obtain ⟨L760, f761⟩ := u
                obtain ⟨hsb, hfm, a2_762, k2_763, p2_764, v2_765, b2_766, q2_767, w2_768, ha_0, hp⟩ := hp
                have hsb : L = L760 := hsb
                subst hsb
                have hsb : ∀ b ∈ L, b ∈ L := fun _ h => h
                have hw : z_H D vwCl (z_A L sz) s.heap L f761 H locs := hw
                have hfr : ∀ b ∈ L, b ≠ mm → b ≠ ha → b ≠ lw → b ≠ st → b ≠ fo → b ≠ dr → f761 b = f b := fun b hb h0 h1 h2 h3 h4 h5 => (hfm b hb h0).trans (hfr b hb h0 h1 h2 h3 h4 h5)
                have hf_ta : f761 ta = .inl (cy 0, 1600, .inl gta) := (hfm ta hm_ta (z_tne hf_ta hf_mm (m := 12900) (n := 10) rfl rfl (by decide))).trans hf_ta
                have hf_ha : f761 ha = .inl (cy 1, 30, .inl gha) := (hfm ha hm_ha (z_tne hf_ha hf_mm (m := 340) (n := 10) rfl rfl (by decide))).trans hf_ha
                have hf_lw : f761 lw = .inl (cy 1, 25, .inl glw) := (hfm lw hm_lw (z_tne hf_lw hf_mm (m := 300) (n := 10) rfl rfl (by decide))).trans hf_lw
                have hf_st : f761 st = .inl (cy 1, 20, .inl gst) := (hfm st hm_st (z_tne hf_st hf_mm (m := 260) (n := 10) rfl rfl (by decide))).trans hf_st
                have hf_fo : f761 fo = .inl (cy 1, 180, .inl gfo) := (hfm fo hm_fo (z_tne hf_fo hf_mm (m := 1540) (n := 10) rfl rfl (by decide))).trans hf_fo
                have hf_dr : f761 dr = .inl (cy 1, 520, .inl gdr) := (hfm dr hm_dr (z_tne hf_dr hf_mm (m := 4260) (n := 10) rfl rfl (by decide))).trans hf_dr
                have hf_mm : f761 mm = .inr (10, [.int m0, .ref wd, .ref my, .ref ce, .ref mv, .ref ta, .int m6, .int a2_762, .int k2_763, .int p2_764, .int v2_765, .long w2_768, .int b2_766, .int q2_767, .int m14, .int m15, .ref li, .ref ha, .ref lw, .ref st, .ref fo, .ref dr, .int m22, .ref ik, .int m24, .int m25, .long m26, .int m27, .int m28, .ref ro, .int m30, .ref ct, .ref se, .ref th, .ref cn, .ref be, .int m36, .ref du, .int m38, .ref db, .int m40, .int m41, .int m42, .ref pn, .ref wg, .ref wh, .ref tn, .ref he, .int m48, .ref tr, .ref fd, .ref po, .int m52, .int m53]) := ha_0
                have hR_r759 : 2 ≤ r759.toInt ∧ r759.toInt ≤ 9 := by omega
                have hC_ : (0 ≤ a2_762.toInt ∧ a2_762.toInt ≤ m6.toInt) ∧ m7.toInt ≤ a2_762.toInt ∧ (b2_766.toInt ≠ 0 ∨ m12.toInt = 0) ∧ (b2_766.toInt ≠ 0 ∨ k2_763.toInt ≠ 3 ∨ m7.toInt < a2_762.toInt) := by refine ⟨⟨?_, ?_⟩, ?_, ?_, ?_⟩ <;> omega
                clear hp
                replace hC := hC_
                clear hC_
                refine lv_istore (lv' := [(6, .int r759), (5, .int r746), (4, .int r730), (3, .int 1), (2, .int 1), (1, .int 0), (0, .ref mm)]) hx hb dX10_line_153 hl (by decide) rfl (fun ls hl => ?_)
                refine lv_aload_n hx hb dX10_line_155 rfl (lv_at hl 6 rfl) ?_
                refine z_calliV (cells := 0) (slots := 0) (b := mm) (As := []) (rest := []) (ci := 10) (q0 := (RX10, TX10, 54)) ⟨hx, hb, hml, hown, hT⟩ (c_X10_isGood l hm_mm hf_mm) (cwV 0 hT (z_goodV (fun _ h => h) kw_1394 kw_1396 kw_36 kw_96 kw_1397) rfl rfl rfl (by decide +kernel) ⟨by decide, by decide⟩) z_mv hKK hK hw hA hm_mm hf_mm rfl rfl rfl hl.1 rfl (Nat.le_of_ble_eq_true rfl) dX10_line_156 ⟨by decide, by decide⟩ (fun r769 u H locs hp hw => ?_)
                obtain ⟨rfl, hp⟩ := hp
                have hw : z_H D vwCl (z_A L sz) s.heap L f761 H locs := hw
                rcases hp with ⟨rfl, h770⟩ | ⟨rfl, h770⟩
                · skip
                  refine z_if_eq (tgt := 181) hx hb (show (1 : Int32).toInt = 1 by decide) dX10_line_159 (by decide) (fun h => absurd h (by decide)) (fun _ => ?_)
                  refine lv_aload_n hx hb dX10_line_162 rfl (lv_at hl 6 rfl) ?_
                  refine z_get (C := RX10) (T := TX10) (N := 54) (ci := 10) (v := .ref fo) hx hb hT zin_X10 hown hK hw hm_mm hf_mm rfl 20 (by decide) (hT _ kw_1188) rfl dX10_line_163 ?_
                  refine lv_sipush (v := 144) hx hb dX10_line_166 (by decide) ?_
                  refine lv_bipush (v := 9) hx hb dX10_line_169 (by decide) ?_
                  refine lv_iload hx hb dX10_line_171 (lv_at hl 2 rfl) ?_
                  refine lv_imul hx hb dX10_line_173 ?_
                  refine lv_topi (fun w771 e_w771 => ?_)
                  have i_w771 : w771.toInt = (9 * r730.toInt) := z_mul e_w771 (show (9 : Int32).toInt = 9 by decide) rfl (by omega)
                  refine lv_iadd hx hb dX10_line_174 ?_
                  refine lv_topi (fun w772 e_w772 => ?_)
                  have i_w772 : w772.toInt = (144 + (9 * r730.toInt)) := z_add e_w772 (show (144 : Int32).toInt = 144 by decide) i_w771 (by omega)
                  refine lv_iload hx hb dX10_line_175 (lv_at hl 1 rfl) ?_
                  refine lv_iadd hx hb dX10_line_177 ?_
                  refine lv_topi (fun w773 e_w773 => ?_)
                  have i_w773 : w773.toInt = ((144 + (9 * r730.toInt)) + r746.toInt) := z_add e_w773 i_w772 rfl (by omega)
                  refine lv_iload hx hb dX10_line_178 (lv_at hl 0 rfl) ?_
                  refine z_iast hx hb hK hw 1 hm_fo hf_fo rfl (z_ix i_w773 (by omega)) dX10_line_180 (fun H locs hw => ?_)
                  obtain ⟨f775, e_f775⟩ : ∃ z, z = va_up f761 fo (.inl (cy 1, 180, .inl (upd gfo w773.toNatClampNeg r759))) := ⟨_, rfl⟩
                  rw [← e_f775] at hw
                  have hf_mm : f775 mm = .inr (10, [.int m0, .ref wd, .ref my, .ref ce, .ref mv, .ref ta, .int m6, .int a2_762, .int k2_763, .int p2_764, .int v2_765, .long w2_768, .int b2_766, .int q2_767, .int m14, .int m15, .ref li, .ref ha, .ref lw, .ref st, .ref fo, .ref dr, .int m22, .ref ik, .int m24, .int m25, .long m26, .int m27, .int m28, .ref ro, .int m30, .ref ct, .ref se, .ref th, .ref cn, .ref be, .int m36, .ref du, .int m38, .ref db, .int m40, .int m41, .int m42, .ref pn, .ref wg, .ref wh, .ref tn, .ref he, .int m48, .ref tr, .ref fd, .ref po, .int m52, .int m53]) := (congrFun e_f775 mm).trans (z_up_ne (z_tne hf_mm hf_fo (m := 10) (n := 1540) rfl rfl (by decide)) hf_mm)
                  have hf_ta : f775 ta = .inl (cy 0, 1600, .inl gta) := (congrFun e_f775 ta).trans (z_up_ne (z_tne hf_ta hf_fo (m := 12900) (n := 1540) rfl rfl (by decide)) hf_ta)
                  have hf_ha : f775 ha = .inl (cy 1, 30, .inl gha) := (congrFun e_f775 ha).trans (z_up_ne (z_tne hf_ha hf_fo (m := 340) (n := 1540) rfl rfl (by decide)) hf_ha)
                  have hf_lw : f775 lw = .inl (cy 1, 25, .inl glw) := (congrFun e_f775 lw).trans (z_up_ne (z_tne hf_lw hf_fo (m := 300) (n := 1540) rfl rfl (by decide)) hf_lw)
                  have hf_st : f775 st = .inl (cy 1, 20, .inl gst) := (congrFun e_f775 st).trans (z_up_ne (z_tne hf_st hf_fo (m := 260) (n := 1540) rfl rfl (by decide)) hf_st)
                  have hf_dr : f775 dr = .inl (cy 1, 520, .inl gdr) := (congrFun e_f775 dr).trans (z_up_ne (z_tne hf_dr hf_fo (m := 4260) (n := 1540) rfl rfl (by decide)) hf_dr)
                  have hf_fo : f775 fo = .inl (cy 1, 180, .inl (upd gfo w773.toNatClampNeg r759)) := (congrFun e_f775 fo).trans z_up_self
                  have hfr : ∀ b ∈ L, b ≠ mm → b ≠ ha → b ≠ lw → b ≠ st → b ≠ fo → b ≠ dr → f775 b = f b := fun b hb h0 h1 h2 h3 h4 h5 => (congrFun e_f775 b).trans (z_up_ne h4 (hfr b hb h0 h1 h2 h3 h4 h5))
                  obtain ⟨g774, e_g774⟩ : ∃ z, z = (upd gfo w773.toNatClampNeg r759) := ⟨_, rfl⟩
                  rw [← e_g774] at hf_fo
                  refine lv_aload_n hx hb dX10_line_181 rfl (lv_at hl 6 rfl) ?_
                  refine z_get (C := RX10) (T := TX10) (N := 54) (ci := 10) (v := .ref ha) hx hb hT zin_X10 hown hK hw hm_mm hf_mm rfl 17 (by decide) (hT _ kw_1185) rfl dX10_line_182 ?_
                  refine lv_bipush (v := 28) hx hb dX10_line_185 (by decide) ?_
                  refine lv_dup2_11 hx hb dX10_line_187 rfl rfl ?_
                  refine z_iald hx hb hK hw 1 hm_ha hf_ha rfl (z_ix (show (28 : Int32).toInt = 28 by decide) (by decide)) dX10_line_188 ?_
                  refine lv_topi (fun w776 e_w776 => ?_)
                  refine lv_iconst (v := 1) hx hb dX10_line_189 (by decide) ?_
                  refine lv_iadd hx hb dX10_line_190 ?_
                  refine lv_topi (fun w777 e_w777 => ?_)
                  refine z_iast hx hb hK hw 1 hm_ha hf_ha rfl (z_ix (show (28 : Int32).toInt = 28 by decide) (by decide)) dX10_line_191 (fun H locs hw => ?_)
                  obtain ⟨f779, e_f779⟩ : ∃ z, z = va_up f775 ha (.inl (cy 1, 30, .inl (upd gha (28 : Int32).toNatClampNeg w777))) := ⟨_, rfl⟩
                  rw [← e_f779] at hw
                  have hf_mm : f779 mm = .inr (10, [.int m0, .ref wd, .ref my, .ref ce, .ref mv, .ref ta, .int m6, .int a2_762, .int k2_763, .int p2_764, .int v2_765, .long w2_768, .int b2_766, .int q2_767, .int m14, .int m15, .ref li, .ref ha, .ref lw, .ref st, .ref fo, .ref dr, .int m22, .ref ik, .int m24, .int m25, .long m26, .int m27, .int m28, .ref ro, .int m30, .ref ct, .ref se, .ref th, .ref cn, .ref be, .int m36, .ref du, .int m38, .ref db, .int m40, .int m41, .int m42, .ref pn, .ref wg, .ref wh, .ref tn, .ref he, .int m48, .ref tr, .ref fd, .ref po, .int m52, .int m53]) := (congrFun e_f779 mm).trans (z_up_ne (z_tne hf_mm hf_ha (m := 10) (n := 340) rfl rfl (by decide)) hf_mm)
                  have hf_ta : f779 ta = .inl (cy 0, 1600, .inl gta) := (congrFun e_f779 ta).trans (z_up_ne (z_tne hf_ta hf_ha (m := 12900) (n := 340) rfl rfl (by decide)) hf_ta)
                  have hf_lw : f779 lw = .inl (cy 1, 25, .inl glw) := (congrFun e_f779 lw).trans (z_up_ne (z_tne hf_lw hf_ha (m := 300) (n := 340) rfl rfl (by decide)) hf_lw)
                  have hf_st : f779 st = .inl (cy 1, 20, .inl gst) := (congrFun e_f779 st).trans (z_up_ne (z_tne hf_st hf_ha (m := 260) (n := 340) rfl rfl (by decide)) hf_st)
                  have hf_fo : f779 fo = .inl (cy 1, 180, .inl g774) := (congrFun e_f779 fo).trans (z_up_ne (z_tne hf_fo hf_ha (m := 1540) (n := 340) rfl rfl (by decide)) hf_fo)
                  have hf_dr : f779 dr = .inl (cy 1, 520, .inl gdr) := (congrFun e_f779 dr).trans (z_up_ne (z_tne hf_dr hf_ha (m := 4260) (n := 340) rfl rfl (by decide)) hf_dr)
                  have hf_ha : f779 ha = .inl (cy 1, 30, .inl (upd gha (28 : Int32).toNatClampNeg w777)) := (congrFun e_f779 ha).trans z_up_self
                  have hfr : ∀ b ∈ L, b ≠ mm → b ≠ ha → b ≠ lw → b ≠ st → b ≠ fo → b ≠ dr → f779 b = f b := fun b hb h0 h1 h2 h3 h4 h5 => (congrFun e_f779 b).trans (z_up_ne h1 (hfr b hb h0 h1 h2 h3 h4 h5))
                  obtain ⟨g778, e_g778⟩ : ∃ z, z = (upd gha (28 : Int32).toNatClampNeg w777) := ⟨_, rfl⟩
                  rw [← e_g778] at hf_ha
                  have hq_ha : ∀ j : Nat, (q_hasR hz) j (g778 j) := z_updQ hq_ha e_g778 (show q_hasR _ _ _ from ⟨(show q_has _ _ from ⟨(fun h => absurd h (by decide)), (fun h => absurd h (by decide)), (fun h => absurd h (by decide)), (fun h => absurd h (by decide))⟩), fun h => absurd h (by decide)⟩)
                  refine lv_goto (tgt := 335) hx hb dX10_line_192 (by decide) ?_
                  exact z_vret hx hb hr hlk (by decide) (by decide) hw (⟨hsub, hfr, a2_762, k2_763, p2_764, v2_765, b2_766, q2_767, m22, w2_768, g778, glw, gst, g774, gdr, hf_mm, hf_ha, hf_lw, hf_st, hf_fo, hf_dr, hq_ha, hq_lw, hq_st, hq_dr, by omega, by omega, by omega, by omega, rfl⟩) dX10_line_335
                · skip
                  refine z_if_eq (tgt := 181) hx hb (show (0 : Int32).toInt = 0 by decide) dX10_line_159 (by decide) (fun _ => ?_) (fun h => absurd h (by decide))
                  refine lv_aload_n hx hb dX10_line_181 rfl (lv_at hl 6 rfl) ?_
                  refine z_get (C := RX10) (T := TX10) (N := 54) (ci := 10) (v := .ref ha) hx hb hT zin_X10 hown hK hw hm_mm hf_mm rfl 17 (by decide) (hT _ kw_1185) rfl dX10_line_182 ?_
                  refine lv_bipush (v := 28) hx hb dX10_line_185 (by decide) ?_
                  refine lv_dup2_11 hx hb dX10_line_187 rfl rfl ?_
                  refine z_iald hx hb hK hw 1 hm_ha hf_ha rfl (z_ix (show (28 : Int32).toInt = 28 by decide) (by decide)) dX10_line_188 ?_
                  refine lv_topi (fun w780 e_w780 => ?_)
                  refine lv_iconst (v := 1) hx hb dX10_line_189 (by decide) ?_
                  refine lv_iadd hx hb dX10_line_190 ?_
                  refine lv_topi (fun w781 e_w781 => ?_)
                  refine z_iast hx hb hK hw 1 hm_ha hf_ha rfl (z_ix (show (28 : Int32).toInt = 28 by decide) (by decide)) dX10_line_191 (fun H locs hw => ?_)
                  obtain ⟨f783, e_f783⟩ : ∃ z, z = va_up f761 ha (.inl (cy 1, 30, .inl (upd gha (28 : Int32).toNatClampNeg w781))) := ⟨_, rfl⟩
                  rw [← e_f783] at hw
                  have hf_mm : f783 mm = .inr (10, [.int m0, .ref wd, .ref my, .ref ce, .ref mv, .ref ta, .int m6, .int a2_762, .int k2_763, .int p2_764, .int v2_765, .long w2_768, .int b2_766, .int q2_767, .int m14, .int m15, .ref li, .ref ha, .ref lw, .ref st, .ref fo, .ref dr, .int m22, .ref ik, .int m24, .int m25, .long m26, .int m27, .int m28, .ref ro, .int m30, .ref ct, .ref se, .ref th, .ref cn, .ref be, .int m36, .ref du, .int m38, .ref db, .int m40, .int m41, .int m42, .ref pn, .ref wg, .ref wh, .ref tn, .ref he, .int m48, .ref tr, .ref fd, .ref po, .int m52, .int m53]) := (congrFun e_f783 mm).trans (z_up_ne (z_tne hf_mm hf_ha (m := 10) (n := 340) rfl rfl (by decide)) hf_mm)
                  have hf_ta : f783 ta = .inl (cy 0, 1600, .inl gta) := (congrFun e_f783 ta).trans (z_up_ne (z_tne hf_ta hf_ha (m := 12900) (n := 340) rfl rfl (by decide)) hf_ta)
                  have hf_lw : f783 lw = .inl (cy 1, 25, .inl glw) := (congrFun e_f783 lw).trans (z_up_ne (z_tne hf_lw hf_ha (m := 300) (n := 340) rfl rfl (by decide)) hf_lw)
                  have hf_st : f783 st = .inl (cy 1, 20, .inl gst) := (congrFun e_f783 st).trans (z_up_ne (z_tne hf_st hf_ha (m := 260) (n := 340) rfl rfl (by decide)) hf_st)
                  have hf_fo : f783 fo = .inl (cy 1, 180, .inl gfo) := (congrFun e_f783 fo).trans (z_up_ne (z_tne hf_fo hf_ha (m := 1540) (n := 340) rfl rfl (by decide)) hf_fo)
                  have hf_dr : f783 dr = .inl (cy 1, 520, .inl gdr) := (congrFun e_f783 dr).trans (z_up_ne (z_tne hf_dr hf_ha (m := 4260) (n := 340) rfl rfl (by decide)) hf_dr)
                  have hf_ha : f783 ha = .inl (cy 1, 30, .inl (upd gha (28 : Int32).toNatClampNeg w781)) := (congrFun e_f783 ha).trans z_up_self
                  have hfr : ∀ b ∈ L, b ≠ mm → b ≠ ha → b ≠ lw → b ≠ st → b ≠ fo → b ≠ dr → f783 b = f b := fun b hb h0 h1 h2 h3 h4 h5 => (congrFun e_f783 b).trans (z_up_ne h1 (hfr b hb h0 h1 h2 h3 h4 h5))
                  obtain ⟨g782, e_g782⟩ : ∃ z, z = (upd gha (28 : Int32).toNatClampNeg w781) := ⟨_, rfl⟩
                  rw [← e_g782] at hf_ha
                  have hq_ha : ∀ j : Nat, (q_hasR hz) j (g782 j) := z_updQ hq_ha e_g782 (show q_hasR _ _ _ from ⟨(show q_has _ _ from ⟨(fun h => absurd h (by decide)), (fun h => absurd h (by decide)), (fun h => absurd h (by decide)), (fun h => absurd h (by decide))⟩), fun h => absurd h (by decide)⟩)
                  refine lv_goto (tgt := 335) hx hb dX10_line_192 (by decide) ?_
                  exact z_vret hx hb hr hlk (by decide) (by decide) hw (⟨hsub, hfr, a2_762, k2_763, p2_764, v2_765, b2_766, q2_767, m22, w2_768, g782, glw, gst, gfo, gdr, hf_mm, hf_ha, hf_lw, hf_st, hf_fo, hf_dr, hq_ha, hq_lw, hq_st, hq_dr, by omega, by omega, by omega, by omega, rfl⟩) dX10_line_335
              · skip
                exact z_vret hx hb hr hlk (by decide) (by decide) hw (⟨hsub, hfr, m7, m8, m9, m10, m12, m13, m22, m11, gha, glw, gst, gfo, gdr, hf_mm, hf_ha, hf_lw, hf_st, hf_fo, hf_dr, hq_ha, hq_lw, hq_st, hq_dr, by omega, by omega, by omega, by omega, rfl⟩) dX10_line_88
            · skip
              refine lv_aload_n hx hb dX10_line_76 rfl (lv_at hl 3 rfl) ?_
              refine lv_iconst (v := 3) hx hb dX10_line_77 (by decide) ?_
              have hz784 := (show (3 : Int32).toInt = 3 by decide)
              refine z_callvV (cells := 0) (slots := 0) (b := mm) (As := [.int 3]) (rest := []) (ci := 10) (q0 := (RX10, TX10, 54)) ⟨hx, hb, hml, hown, hT⟩ (c_X10_fails l hm_mm hf_mm (by first | omega | decide | assumption)) (cwV 1 hT (z_goodV (fun _ h => h) kw_1411 kw_1413 kw_40 kw_96 kw_1414) rfl rfl rfl (by decide +kernel) ⟨by decide, by decide⟩) z_mv hKK hK hw hA hm_mm hf_mm rfl rfl rfl hl.1 rfl (Nat.le_of_ble_eq_true rfl) dX10_line_78 ⟨by decide, by decide⟩ (fun u H locs hp hw => ?_)
              obtain ⟨L785, f786⟩ := u
              obtain ⟨hsb, hfm, b2_787, p2_788, ha_0, hp⟩ := hp
              have hsb : L = L785 := hsb
              subst hsb
              have hsb : ∀ b ∈ L, b ∈ L := fun _ h => h
              have hw : z_H D vwCl (z_A L sz) s.heap L f786 H locs := hw
              have hfr : ∀ b ∈ L, b ≠ mm → b ≠ ha → b ≠ lw → b ≠ st → b ≠ fo → b ≠ dr → f786 b = f b := fun b hb h0 h1 h2 h3 h4 h5 => (hfm b hb h0).trans (hfr b hb h0 h1 h2 h3 h4 h5)
              have hf_ta : f786 ta = .inl (cy 0, 1600, .inl gta) := (hfm ta hm_ta (z_tne hf_ta hf_mm (m := 12900) (n := 10) rfl rfl (by decide))).trans hf_ta
              have hf_ha : f786 ha = .inl (cy 1, 30, .inl gha) := (hfm ha hm_ha (z_tne hf_ha hf_mm (m := 340) (n := 10) rfl rfl (by decide))).trans hf_ha
              have hf_lw : f786 lw = .inl (cy 1, 25, .inl glw) := (hfm lw hm_lw (z_tne hf_lw hf_mm (m := 300) (n := 10) rfl rfl (by decide))).trans hf_lw
              have hf_st : f786 st = .inl (cy 1, 20, .inl gst) := (hfm st hm_st (z_tne hf_st hf_mm (m := 260) (n := 10) rfl rfl (by decide))).trans hf_st
              have hf_fo : f786 fo = .inl (cy 1, 180, .inl gfo) := (hfm fo hm_fo (z_tne hf_fo hf_mm (m := 1540) (n := 10) rfl rfl (by decide))).trans hf_fo
              have hf_dr : f786 dr = .inl (cy 1, 520, .inl gdr) := (hfm dr hm_dr (z_tne hf_dr hf_mm (m := 4260) (n := 10) rfl rfl (by decide))).trans hf_dr
              have hf_mm : f786 mm = .inr (10, [.int m0, .ref wd, .ref my, .ref ce, .ref mv, .ref ta, .int m6, .int m7, .int m8, .int m9, .int m10, .long m11, .int b2_787, .int p2_788, .int m14, .int m15, .ref li, .ref ha, .ref lw, .ref st, .ref fo, .ref dr, .int m22, .ref ik, .int m24, .int m25, .long m26, .int m27, .int m28, .ref ro, .int m30, .ref ct, .ref se, .ref th, .ref cn, .ref be, .int m36, .ref du, .int m38, .ref db, .int m40, .int m41, .int m42, .ref pn, .ref wg, .ref wh, .ref tn, .ref he, .int m48, .ref tr, .ref fd, .ref po, .int m52, .int m53]) := ha_0
              have hq789 := hp
              refine lv_aload_n hx hb dX10_line_81 rfl (lv_at hl 3 rfl) ?_
              refine z_get (C := RX10) (T := TX10) (N := 54) (ci := 10) (v := .int b2_787) hx hb hT zin_X10 hown hK hw hm_mm hf_mm rfl 12 (by decide) (hT _ kw_1180) rfl dX10_line_82 ?_
              refine z_if_eq (tgt := 89) hx hb rfl dX10_line_85 (by decide) (fun c790 => ?_) (fun c790 => ?_)
              · skip
                refine lv_iload_n hx hb dX10_line_89 rfl (lv_at hl 2 rfl) ?_
                refine z_if_eq (tgt := 104) hx hb (show (0 : Int32).toInt = 0 by decide) dX10_line_90 (by decide) (fun _ => ?_) (fun h => absurd h (by decide))
                refine lv_iload_n hx hb dX10_line_104 rfl (lv_at hl 1 rfl) ?_
                refine z_if_eq (tgt := 195) hx hb (show (1 : Int32).toInt = 1 by decide) dX10_line_105 (by decide) (fun h => absurd h (by decide)) (fun _ => ?_)
                refine lv_aload_n hx hb dX10_line_108 rfl (lv_at hl 3 rfl) ?_
                refine z_callvV (cells := 0) (slots := 0) (b := mm) (As := []) (rest := []) (ci := 10) (q0 := (RX10, TX10, 54)) ⟨hx, hb, hml, hown, hT⟩ (c_X10_next l hm_mm hm_ta hf_mm hf_ta (by first | omega | decide | assumption) (by first | omega | decide | assumption)) (cwV 0 hT (z_goodV (fun _ h => h) kw_1381 kw_1383 kw_34 kw_96 kw_1384) rfl rfl rfl (by decide +kernel) ⟨by decide, by decide⟩) z_mv hKK hK hw hA hm_mm hf_mm rfl rfl rfl hl.1 rfl (Nat.le_of_ble_eq_true rfl) dX10_line_109 ⟨by decide, by decide⟩ (fun u H locs hp hw => ?_)
                obtain ⟨L791, f792⟩ := u
                obtain ⟨hsb, hfm, a2_793, k2_794, p2_795, v2_796, w2_797, ha_0, hp⟩ := hp
                have hsb : L = L791 := hsb
                subst hsb
                have hsb : ∀ b ∈ L, b ∈ L := fun _ h => h
                have hw : z_H D vwCl (z_A L sz) s.heap L f792 H locs := hw
                have hfr : ∀ b ∈ L, b ≠ mm → b ≠ ha → b ≠ lw → b ≠ st → b ≠ fo → b ≠ dr → f792 b = f b := fun b hb h0 h1 h2 h3 h4 h5 => (hfm b hb h0).trans (hfr b hb h0 h1 h2 h3 h4 h5)
                have hf_ta : f792 ta = .inl (cy 0, 1600, .inl gta) := (hfm ta hm_ta (z_tne hf_ta hf_mm (m := 12900) (n := 10) rfl rfl (by decide))).trans hf_ta
                have hf_ha : f792 ha = .inl (cy 1, 30, .inl gha) := (hfm ha hm_ha (z_tne hf_ha hf_mm (m := 340) (n := 10) rfl rfl (by decide))).trans hf_ha
                have hf_lw : f792 lw = .inl (cy 1, 25, .inl glw) := (hfm lw hm_lw (z_tne hf_lw hf_mm (m := 300) (n := 10) rfl rfl (by decide))).trans hf_lw
                have hf_st : f792 st = .inl (cy 1, 20, .inl gst) := (hfm st hm_st (z_tne hf_st hf_mm (m := 260) (n := 10) rfl rfl (by decide))).trans hf_st
                have hf_fo : f792 fo = .inl (cy 1, 180, .inl gfo) := (hfm fo hm_fo (z_tne hf_fo hf_mm (m := 1540) (n := 10) rfl rfl (by decide))).trans hf_fo
                have hf_dr : f792 dr = .inl (cy 1, 520, .inl gdr) := (hfm dr hm_dr (z_tne hf_dr hf_mm (m := 4260) (n := 10) rfl rfl (by decide))).trans hf_dr
                have hf_mm : f792 mm = .inr (10, [.int m0, .ref wd, .ref my, .ref ce, .ref mv, .ref ta, .int m6, .int a2_793, .int k2_794, .int p2_795, .int v2_796, .long w2_797, .int b2_787, .int p2_788, .int m14, .int m15, .ref li, .ref ha, .ref lw, .ref st, .ref fo, .ref dr, .int m22, .ref ik, .int m24, .int m25, .long m26, .int m27, .int m28, .ref ro, .int m30, .ref ct, .ref se, .ref th, .ref cn, .ref be, .int m36, .ref du, .int m38, .ref db, .int m40, .int m41, .int m42, .ref pn, .ref wg, .ref wh, .ref tn, .ref he, .int m48, .ref tr, .ref fd, .ref po, .int m52, .int m53]) := ha_0
                have hC_ : (0 ≤ a2_793.toInt ∧ a2_793.toInt ≤ m6.toInt) ∧ m7.toInt ≤ a2_793.toInt ∧ (b2_787.toInt ≠ 0 ∨ m12.toInt = 0) ∧ (b2_787.toInt ≠ 0 ∨ k2_794.toInt ≠ 3 ∨ m7.toInt < a2_793.toInt) := by refine ⟨⟨?_, ?_⟩, ?_, ?_, ?_⟩ <;> omega
                clear hp
                replace hC := hC_
                clear hC_
                refine lv_aload_n hx hb dX10_line_112 rfl (lv_at hl 3 rfl) ?_
                refine lv_iconst (v := 0) hx hb dX10_line_113 (by decide) ?_
                refine lv_aload_n hx hb dX10_line_114 rfl (lv_at hl 3 rfl) ?_
                refine lv_iconst (v := 0) hx hb dX10_line_115 (by decide) ?_
                have hz798 := (show (0 : Int32).toInt = 0 by decide)
                refine z_calliV (cells := 0) (slots := 0) (b := mm) (As := [.int 0]) (rest := [.int 0, .ref mm]) (ci := 10) (q0 := (RX10, TX10, 54)) ⟨hx, hb, hml, hown, hT⟩ (c_X10_hasRead l hm_mm hm_ha hf_mm hf_ha hq_ha (by decide)) (cwV 1 hT (z_goodV (fun _ h => h) kw_1434 kw_1436 kw_44 kw_96 kw_1437) rfl rfl rfl (by decide +kernel) ⟨by decide, by decide⟩) z_mv hKK hK hw hA hm_mm hf_mm rfl rfl rfl hl.1 rfl (Nat.le_of_ble_eq_true rfl) dX10_line_116 ⟨by decide, by decide⟩ (fun r799 u H locs hp hw => ?_)
                obtain ⟨rfl, hp⟩ := hp
                have hw : z_H D vwCl (z_A L sz) s.heap L f792 H locs := hw
                have hh800 : 0 ≤ r799.toInt ∧ r799.toInt ≤ 4 := by rw [hp]; exact (hq_ha 24).1.1 rfl
                refine lv_iconst (v := 1) hx hb dX10_line_119 (by decide) ?_
                refine lv_isub hx hb dX10_line_120 ?_
                refine lv_topi (fun w801 e_w801 => ?_)
                have i_w801 : w801.toInt = (r799.toInt - 1) := z_subI e_w801 rfl (show (1 : Int32).toInt = 1 by decide) (by omega)
                have hz802 := (show (0 : Int32).toInt = 0 by decide)
                refine z_calliV (cells := 0) (slots := 0) (b := mm) (As := [.int 0, .int w801]) (rest := []) (ci := 10) (q0 := (RX10, TX10, 54)) ⟨hx, hb, hml, hown, hT⟩ (c_X10_number l hm_mm hm_ta hf_mm hf_ta (by first | omega | decide | assumption) (by first | omega | decide | assumption)) (cwV 2 hT (z_goodV (fun _ h => h) kw_1420 kw_1422 kw_42 kw_96 kw_1423) rfl rfl rfl (by decide +kernel) ⟨by decide, by decide⟩) z_mv hKK hK hw hA hm_mm hf_mm rfl rfl rfl hl.1 rfl (Nat.le_of_ble_eq_true rfl) dX10_line_121 ⟨by decide, by decide⟩ (fun r803 u H locs hp hw => ?_)
                obtain ⟨L804, f805⟩ := u
                obtain ⟨hsb, hfm, a2_806, k2_807, p2_808, v2_809, b2_810, q2_811, w2_812, ha_0, hp⟩ := hp
                have hsb : L = L804 := hsb
                subst hsb
                have hsb : ∀ b ∈ L, b ∈ L := fun _ h => h
                have hw : z_H D vwCl (z_A L sz) s.heap L f805 H locs := hw
                have hfr : ∀ b ∈ L, b ≠ mm → b ≠ ha → b ≠ lw → b ≠ st → b ≠ fo → b ≠ dr → f805 b = f b := fun b hb h0 h1 h2 h3 h4 h5 => (hfm b hb h0).trans (hfr b hb h0 h1 h2 h3 h4 h5)
                have hf_ta : f805 ta = .inl (cy 0, 1600, .inl gta) := (hfm ta hm_ta (z_tne hf_ta hf_mm (m := 12900) (n := 10) rfl rfl (by decide))).trans hf_ta
                have hf_ha : f805 ha = .inl (cy 1, 30, .inl gha) := (hfm ha hm_ha (z_tne hf_ha hf_mm (m := 340) (n := 10) rfl rfl (by decide))).trans hf_ha
                have hf_lw : f805 lw = .inl (cy 1, 25, .inl glw) := (hfm lw hm_lw (z_tne hf_lw hf_mm (m := 300) (n := 10) rfl rfl (by decide))).trans hf_lw
                have hf_st : f805 st = .inl (cy 1, 20, .inl gst) := (hfm st hm_st (z_tne hf_st hf_mm (m := 260) (n := 10) rfl rfl (by decide))).trans hf_st
                have hf_fo : f805 fo = .inl (cy 1, 180, .inl gfo) := (hfm fo hm_fo (z_tne hf_fo hf_mm (m := 1540) (n := 10) rfl rfl (by decide))).trans hf_fo
                have hf_dr : f805 dr = .inl (cy 1, 520, .inl gdr) := (hfm dr hm_dr (z_tne hf_dr hf_mm (m := 4260) (n := 10) rfl rfl (by decide))).trans hf_dr
                have hf_mm : f805 mm = .inr (10, [.int m0, .ref wd, .ref my, .ref ce, .ref mv, .ref ta, .int m6, .int a2_806, .int k2_807, .int p2_808, .int v2_809, .long w2_812, .int b2_810, .int q2_811, .int m14, .int m15, .ref li, .ref ha, .ref lw, .ref st, .ref fo, .ref dr, .int m22, .ref ik, .int m24, .int m25, .long m26, .int m27, .int m28, .ref ro, .int m30, .ref ct, .ref se, .ref th, .ref cn, .ref be, .int m36, .ref du, .int m38, .ref db, .int m40, .int m41, .int m42, .ref pn, .ref wg, .ref wh, .ref tn, .ref he, .int m48, .ref tr, .ref fd, .ref po, .int m52, .int m53]) := ha_0
                have hR_r803 : 0 ≤ r803.toInt ∧ r803.toInt ≤ 3 := by omega
                have hC_ : (0 ≤ a2_806.toInt ∧ a2_806.toInt ≤ m6.toInt) ∧ m7.toInt ≤ a2_806.toInt ∧ (b2_810.toInt ≠ 0 ∨ m12.toInt = 0) ∧ (b2_810.toInt ≠ 0 ∨ k2_807.toInt ≠ 3 ∨ m7.toInt < a2_806.toInt) := by refine ⟨⟨?_, ?_⟩, ?_, ?_, ?_⟩ <;> omega
                clear hp
                replace hC := hC_
                clear hC_
                refine lv_istore (lv' := [(4, .int r803), (3, .int 1), (2, .int 1), (1, .int 0), (0, .ref mm)]) hx hb dX10_line_124 hl (by decide) rfl (fun ls hl => ?_)
                refine lv_aload_n hx hb dX10_line_126 rfl (lv_at hl 4 rfl) ?_
                refine lv_ldc2 (v := 419) hx hb hown (hT _ kw_1443) dX10_line_127 ?_
                refine lv_iconst (v := 0) hx hb dX10_line_130 (by decide) ?_
                refine lv_aload_n hx hb dX10_line_131 rfl (lv_at hl 4 rfl) ?_
                refine lv_iconst (v := 1) hx hb dX10_line_132 (by decide) ?_
                have hz813 := (show (1 : Int32).toInt = 1 by decide)
                refine z_calliV (cells := 0) (slots := 0) (b := mm) (As := [.int 1]) (rest := [.int 0, .long 419, .ref mm]) (ci := 10) (q0 := (RX10, TX10, 54)) ⟨hx, hb, hml, hown, hT⟩ (c_X10_hasRead l hm_mm hm_ha hf_mm hf_ha hq_ha (by decide)) (cwV 1 hT (z_goodV (fun _ h => h) kw_1434 kw_1436 kw_44 kw_96 kw_1437) rfl rfl rfl (by decide +kernel) ⟨by decide, by decide⟩) z_mv hKK hK hw hA hm_mm hf_mm rfl rfl rfl hl.1 rfl (Nat.le_of_ble_eq_true rfl) dX10_line_133 ⟨by decide, by decide⟩ (fun r814 u H locs hp hw => ?_)
                obtain ⟨rfl, hp⟩ := hp
                have hw : z_H D vwCl (z_A L sz) s.heap L f805 H locs := hw
                have hh815 : 0 ≤ r814.toInt ∧ r814.toInt ≤ 9 := by rw [hp]; exact (hq_ha 25).1.2.1 rfl
                refine lv_iconst (v := 1) hx hb dX10_line_136 (by decide) ?_
                refine lv_isub hx hb dX10_line_137 ?_
                refine lv_topi (fun w816 e_w816 => ?_)
                have i_w816 : w816.toInt = (r814.toInt - 1) := z_subI e_w816 rfl (show (1 : Int32).toInt = 1 by decide) (by omega)
                have hz817 := (show (419 : Int64).toInt = 419 by decide)
                have hz818 := (show (0 : Int32).toInt = 0 by decide)
                refine z_calliV (cells := 0) (slots := 0) (b := mm) (As := [.long 419, .int 0, .int w816]) (rest := []) (ci := 10) (q0 := (RX10, TX10, 54)) ⟨hx, hb, hml, hown, hT⟩ (c_X10_number_ l hm_mm hm_ta hf_mm hf_ta (by first | omega | decide | assumption) (by first | omega | decide | assumption)) (cwV 3 hT (z_goodV (fun _ h => h) kw_1416 kw_1418 kw_41 kw_96 kw_1419) rfl rfl rfl (by decide +kernel) ⟨by decide, by decide⟩) z_mv hKK hK hw hA hm_mm hf_mm rfl rfl rfl hl.1 rfl (Nat.le_of_ble_eq_true rfl) dX10_line_138 ⟨by decide, by decide⟩ (fun r819 u H locs hp hw => ?_)
                obtain ⟨L820, f821⟩ := u
                obtain ⟨hsb, hfm, a2_822, k2_823, p2_824, v2_825, b2_826, q2_827, w2_828, ha_0, hp⟩ := hp
                have hsb : L = L820 := hsb
                subst hsb
                have hsb : ∀ b ∈ L, b ∈ L := fun _ h => h
                have hw : z_H D vwCl (z_A L sz) s.heap L f821 H locs := hw
                have hfr : ∀ b ∈ L, b ≠ mm → b ≠ ha → b ≠ lw → b ≠ st → b ≠ fo → b ≠ dr → f821 b = f b := fun b hb h0 h1 h2 h3 h4 h5 => (hfm b hb h0).trans (hfr b hb h0 h1 h2 h3 h4 h5)
                have hf_ta : f821 ta = .inl (cy 0, 1600, .inl gta) := (hfm ta hm_ta (z_tne hf_ta hf_mm (m := 12900) (n := 10) rfl rfl (by decide))).trans hf_ta
                have hf_ha : f821 ha = .inl (cy 1, 30, .inl gha) := (hfm ha hm_ha (z_tne hf_ha hf_mm (m := 340) (n := 10) rfl rfl (by decide))).trans hf_ha
                have hf_lw : f821 lw = .inl (cy 1, 25, .inl glw) := (hfm lw hm_lw (z_tne hf_lw hf_mm (m := 300) (n := 10) rfl rfl (by decide))).trans hf_lw
                have hf_st : f821 st = .inl (cy 1, 20, .inl gst) := (hfm st hm_st (z_tne hf_st hf_mm (m := 260) (n := 10) rfl rfl (by decide))).trans hf_st
                have hf_fo : f821 fo = .inl (cy 1, 180, .inl gfo) := (hfm fo hm_fo (z_tne hf_fo hf_mm (m := 1540) (n := 10) rfl rfl (by decide))).trans hf_fo
                have hf_dr : f821 dr = .inl (cy 1, 520, .inl gdr) := (hfm dr hm_dr (z_tne hf_dr hf_mm (m := 4260) (n := 10) rfl rfl (by decide))).trans hf_dr
                have hf_mm : f821 mm = .inr (10, [.int m0, .ref wd, .ref my, .ref ce, .ref mv, .ref ta, .int m6, .int a2_822, .int k2_823, .int p2_824, .int v2_825, .long w2_828, .int b2_826, .int q2_827, .int m14, .int m15, .ref li, .ref ha, .ref lw, .ref st, .ref fo, .ref dr, .int m22, .ref ik, .int m24, .int m25, .long m26, .int m27, .int m28, .ref ro, .int m30, .ref ct, .ref se, .ref th, .ref cn, .ref be, .int m36, .ref du, .int m38, .ref db, .int m40, .int m41, .int m42, .ref pn, .ref wg, .ref wh, .ref tn, .ref he, .int m48, .ref tr, .ref fd, .ref po, .int m52, .int m53]) := ha_0
                have hR_r819 : 0 ≤ r819.toInt ∧ r819.toInt ≤ 8 := by omega
                have hC_ : (0 ≤ a2_822.toInt ∧ a2_822.toInt ≤ m6.toInt) ∧ m7.toInt ≤ a2_822.toInt ∧ (b2_826.toInt ≠ 0 ∨ m12.toInt = 0) ∧ (b2_826.toInt ≠ 0 ∨ k2_823.toInt ≠ 3 ∨ m7.toInt < a2_822.toInt) := by refine ⟨⟨?_, ?_⟩, ?_, ?_, ?_⟩ <;> omega
                clear hp
                replace hC := hC_
                clear hC_
                refine lv_istore (lv' := [(5, .int r819), (4, .int r803), (3, .int 1), (2, .int 1), (1, .int 0), (0, .ref mm)]) hx hb dX10_line_141 hl (by decide) rfl (fun ls hl => ?_)
                refine lv_aload_n hx hb dX10_line_143 rfl (lv_at hl 5 rfl) ?_
                refine lv_ldc2 (v := 191706742) hx hb hown (hT _ kw_1449) dX10_line_144 ?_
                refine lv_iconst (v := 2) hx hb dX10_line_147 (by decide) ?_
                refine lv_bipush (v := 9) hx hb dX10_line_148 (by decide) ?_
                have hz829 := (show (191706742 : Int64).toInt = 191706742 by decide)
                have hz830 := (show (2 : Int32).toInt = 2 by decide)
                have hz831 := (show (9 : Int32).toInt = 9 by decide)
                refine z_calliV (cells := 0) (slots := 0) (b := mm) (As := [.long 191706742, .int 2, .int 9]) (rest := []) (ci := 10) (q0 := (RX10, TX10, 54)) ⟨hx, hb, hml, hown, hT⟩ (c_X10_number_ l hm_mm hm_ta hf_mm hf_ta (by first | omega | decide | assumption) (by first | omega | decide | assumption)) (cwV 3 hT (z_goodV (fun _ h => h) kw_1416 kw_1418 kw_41 kw_96 kw_1419) rfl rfl rfl (by decide +kernel) ⟨by decide, by decide⟩) z_mv hKK hK hw hA hm_mm hf_mm rfl rfl rfl hl.1 rfl (Nat.le_of_ble_eq_true rfl) dX10_line_150 ⟨by decide, by decide⟩ (fun r832 u H locs hp hw => ?_)
                obtain ⟨L833, f834⟩ := u
                obtain ⟨hsb, hfm, a2_835, k2_836, p2_837, v2_838, b2_839, q2_840, w2_841, ha_0, hp⟩ := hp
                have hsb : L = L833 := hsb
                subst hsb
                have hsb : ∀ b ∈ L, b ∈ L := fun _ h => h
                have hw : z_H D vwCl (z_A L sz) s.heap L f834 H locs := hw
                have hfr : ∀ b ∈ L, b ≠ mm → b ≠ ha → b ≠ lw → b ≠ st → b ≠ fo → b ≠ dr → f834 b = f b := fun b hb h0 h1 h2 h3 h4 h5 => (hfm b hb h0).trans (hfr b hb h0 h1 h2 h3 h4 h5)
                have hf_ta : f834 ta = .inl (cy 0, 1600, .inl gta) := (hfm ta hm_ta (z_tne hf_ta hf_mm (m := 12900) (n := 10) rfl rfl (by decide))).trans hf_ta
                have hf_ha : f834 ha = .inl (cy 1, 30, .inl gha) := (hfm ha hm_ha (z_tne hf_ha hf_mm (m := 340) (n := 10) rfl rfl (by decide))).trans hf_ha
                have hf_lw : f834 lw = .inl (cy 1, 25, .inl glw) := (hfm lw hm_lw (z_tne hf_lw hf_mm (m := 300) (n := 10) rfl rfl (by decide))).trans hf_lw
                have hf_st : f834 st = .inl (cy 1, 20, .inl gst) := (hfm st hm_st (z_tne hf_st hf_mm (m := 260) (n := 10) rfl rfl (by decide))).trans hf_st
                have hf_fo : f834 fo = .inl (cy 1, 180, .inl gfo) := (hfm fo hm_fo (z_tne hf_fo hf_mm (m := 1540) (n := 10) rfl rfl (by decide))).trans hf_fo
                have hf_dr : f834 dr = .inl (cy 1, 520, .inl gdr) := (hfm dr hm_dr (z_tne hf_dr hf_mm (m := 4260) (n := 10) rfl rfl (by decide))).trans hf_dr
                have hf_mm : f834 mm = .inr (10, [.int m0, .ref wd, .ref my, .ref ce, .ref mv, .ref ta, .int m6, .int a2_835, .int k2_836, .int p2_837, .int v2_838, .long w2_841, .int b2_839, .int q2_840, .int m14, .int m15, .ref li, .ref ha, .ref lw, .ref st, .ref fo, .ref dr, .int m22, .ref ik, .int m24, .int m25, .long m26, .int m27, .int m28, .ref ro, .int m30, .ref ct, .ref se, .ref th, .ref cn, .ref be, .int m36, .ref du, .int m38, .ref db, .int m40, .int m41, .int m42, .ref pn, .ref wg, .ref wh, .ref tn, .ref he, .int m48, .ref tr, .ref fd, .ref po, .int m52, .int m53]) := ha_0
                have hR_r832 : 2 ≤ r832.toInt ∧ r832.toInt ≤ 9 := by omega
                have hC_ : (0 ≤ a2_835.toInt ∧ a2_835.toInt ≤ m6.toInt) ∧ m7.toInt ≤ a2_835.toInt ∧ (b2_839.toInt ≠ 0 ∨ m12.toInt = 0) ∧ (b2_839.toInt ≠ 0 ∨ k2_836.toInt ≠ 3 ∨ m7.toInt < a2_835.toInt) := by refine ⟨⟨?_, ?_⟩, ?_, ?_, ?_⟩ <;> omega
                clear hp
                replace hC := hC_
                clear hC_
                refine lv_istore (lv' := [(6, .int r832), (5, .int r819), (4, .int r803), (3, .int 1), (2, .int 1), (1, .int 0), (0, .ref mm)]) hx hb dX10_line_153 hl (by decide) rfl (fun ls hl => ?_)
                refine lv_aload_n hx hb dX10_line_155 rfl (lv_at hl 6 rfl) ?_
                refine z_calliV (cells := 0) (slots := 0) (b := mm) (As := []) (rest := []) (ci := 10) (q0 := (RX10, TX10, 54)) ⟨hx, hb, hml, hown, hT⟩ (c_X10_isGood l hm_mm hf_mm) (cwV 0 hT (z_goodV (fun _ h => h) kw_1394 kw_1396 kw_36 kw_96 kw_1397) rfl rfl rfl (by decide +kernel) ⟨by decide, by decide⟩) z_mv hKK hK hw hA hm_mm hf_mm rfl rfl rfl hl.1 rfl (Nat.le_of_ble_eq_true rfl) dX10_line_156 ⟨by decide, by decide⟩ (fun r842 u H locs hp hw => ?_)
                obtain ⟨rfl, hp⟩ := hp
                have hw : z_H D vwCl (z_A L sz) s.heap L f834 H locs := hw
                rcases hp with ⟨rfl, h843⟩ | ⟨rfl, h843⟩
                · skip
                  refine z_if_eq (tgt := 181) hx hb (show (1 : Int32).toInt = 1 by decide) dX10_line_159 (by decide) (fun h => absurd h (by decide)) (fun _ => ?_)
                  refine lv_aload_n hx hb dX10_line_162 rfl (lv_at hl 6 rfl) ?_
                  refine z_get (C := RX10) (T := TX10) (N := 54) (ci := 10) (v := .ref fo) hx hb hT zin_X10 hown hK hw hm_mm hf_mm rfl 20 (by decide) (hT _ kw_1188) rfl dX10_line_163 ?_
                  refine lv_sipush (v := 144) hx hb dX10_line_166 (by decide) ?_
                  refine lv_bipush (v := 9) hx hb dX10_line_169 (by decide) ?_
                  refine lv_iload hx hb dX10_line_171 (lv_at hl 2 rfl) ?_
                  refine lv_imul hx hb dX10_line_173 ?_
                  refine lv_topi (fun w844 e_w844 => ?_)
                  have i_w844 : w844.toInt = (9 * r803.toInt) := z_mul e_w844 (show (9 : Int32).toInt = 9 by decide) rfl (by omega)
                  refine lv_iadd hx hb dX10_line_174 ?_
                  refine lv_topi (fun w845 e_w845 => ?_)
                  have i_w845 : w845.toInt = (144 + (9 * r803.toInt)) := z_add e_w845 (show (144 : Int32).toInt = 144 by decide) i_w844 (by omega)
                  refine lv_iload hx hb dX10_line_175 (lv_at hl 1 rfl) ?_
                  refine lv_iadd hx hb dX10_line_177 ?_
                  refine lv_topi (fun w846 e_w846 => ?_)
                  have i_w846 : w846.toInt = ((144 + (9 * r803.toInt)) + r819.toInt) := z_add e_w846 i_w845 rfl (by omega)
                  refine lv_iload hx hb dX10_line_178 (lv_at hl 0 rfl) ?_
                  refine z_iast hx hb hK hw 1 hm_fo hf_fo rfl (z_ix i_w846 (by omega)) dX10_line_180 (fun H locs hw => ?_)
                  obtain ⟨f848, e_f848⟩ : ∃ z, z = va_up f834 fo (.inl (cy 1, 180, .inl (upd gfo w846.toNatClampNeg r832))) := ⟨_, rfl⟩
                  rw [← e_f848] at hw
                  have hf_mm : f848 mm = .inr (10, [.int m0, .ref wd, .ref my, .ref ce, .ref mv, .ref ta, .int m6, .int a2_835, .int k2_836, .int p2_837, .int v2_838, .long w2_841, .int b2_839, .int q2_840, .int m14, .int m15, .ref li, .ref ha, .ref lw, .ref st, .ref fo, .ref dr, .int m22, .ref ik, .int m24, .int m25, .long m26, .int m27, .int m28, .ref ro, .int m30, .ref ct, .ref se, .ref th, .ref cn, .ref be, .int m36, .ref du, .int m38, .ref db, .int m40, .int m41, .int m42, .ref pn, .ref wg, .ref wh, .ref tn, .ref he, .int m48, .ref tr, .ref fd, .ref po, .int m52, .int m53]) := (congrFun e_f848 mm).trans (z_up_ne (z_tne hf_mm hf_fo (m := 10) (n := 1540) rfl rfl (by decide)) hf_mm)
                  have hf_ta : f848 ta = .inl (cy 0, 1600, .inl gta) := (congrFun e_f848 ta).trans (z_up_ne (z_tne hf_ta hf_fo (m := 12900) (n := 1540) rfl rfl (by decide)) hf_ta)
                  have hf_ha : f848 ha = .inl (cy 1, 30, .inl gha) := (congrFun e_f848 ha).trans (z_up_ne (z_tne hf_ha hf_fo (m := 340) (n := 1540) rfl rfl (by decide)) hf_ha)
                  have hf_lw : f848 lw = .inl (cy 1, 25, .inl glw) := (congrFun e_f848 lw).trans (z_up_ne (z_tne hf_lw hf_fo (m := 300) (n := 1540) rfl rfl (by decide)) hf_lw)
                  have hf_st : f848 st = .inl (cy 1, 20, .inl gst) := (congrFun e_f848 st).trans (z_up_ne (z_tne hf_st hf_fo (m := 260) (n := 1540) rfl rfl (by decide)) hf_st)
                  have hf_dr : f848 dr = .inl (cy 1, 520, .inl gdr) := (congrFun e_f848 dr).trans (z_up_ne (z_tne hf_dr hf_fo (m := 4260) (n := 1540) rfl rfl (by decide)) hf_dr)
                  have hf_fo : f848 fo = .inl (cy 1, 180, .inl (upd gfo w846.toNatClampNeg r832)) := (congrFun e_f848 fo).trans z_up_self
                  have hfr : ∀ b ∈ L, b ≠ mm → b ≠ ha → b ≠ lw → b ≠ st → b ≠ fo → b ≠ dr → f848 b = f b := fun b hb h0 h1 h2 h3 h4 h5 => (congrFun e_f848 b).trans (z_up_ne h4 (hfr b hb h0 h1 h2 h3 h4 h5))
                  obtain ⟨g847, e_g847⟩ : ∃ z, z = (upd gfo w846.toNatClampNeg r832) := ⟨_, rfl⟩
                  rw [← e_g847] at hf_fo
                  refine lv_aload_n hx hb dX10_line_181 rfl (lv_at hl 6 rfl) ?_
                  refine z_get (C := RX10) (T := TX10) (N := 54) (ci := 10) (v := .ref ha) hx hb hT zin_X10 hown hK hw hm_mm hf_mm rfl 17 (by decide) (hT _ kw_1185) rfl dX10_line_182 ?_
                  refine lv_bipush (v := 28) hx hb dX10_line_185 (by decide) ?_
                  refine lv_dup2_11 hx hb dX10_line_187 rfl rfl ?_
                  refine z_iald hx hb hK hw 1 hm_ha hf_ha rfl (z_ix (show (28 : Int32).toInt = 28 by decide) (by decide)) dX10_line_188 ?_
                  refine lv_topi (fun w849 e_w849 => ?_)
                  refine lv_iconst (v := 1) hx hb dX10_line_189 (by decide) ?_
                  refine lv_iadd hx hb dX10_line_190 ?_
                  refine lv_topi (fun w850 e_w850 => ?_)
                  refine z_iast hx hb hK hw 1 hm_ha hf_ha rfl (z_ix (show (28 : Int32).toInt = 28 by decide) (by decide)) dX10_line_191 (fun H locs hw => ?_)
                  obtain ⟨f852, e_f852⟩ : ∃ z, z = va_up f848 ha (.inl (cy 1, 30, .inl (upd gha (28 : Int32).toNatClampNeg w850))) := ⟨_, rfl⟩
                  rw [← e_f852] at hw
                  have hf_mm : f852 mm = .inr (10, [.int m0, .ref wd, .ref my, .ref ce, .ref mv, .ref ta, .int m6, .int a2_835, .int k2_836, .int p2_837, .int v2_838, .long w2_841, .int b2_839, .int q2_840, .int m14, .int m15, .ref li, .ref ha, .ref lw, .ref st, .ref fo, .ref dr, .int m22, .ref ik, .int m24, .int m25, .long m26, .int m27, .int m28, .ref ro, .int m30, .ref ct, .ref se, .ref th, .ref cn, .ref be, .int m36, .ref du, .int m38, .ref db, .int m40, .int m41, .int m42, .ref pn, .ref wg, .ref wh, .ref tn, .ref he, .int m48, .ref tr, .ref fd, .ref po, .int m52, .int m53]) := (congrFun e_f852 mm).trans (z_up_ne (z_tne hf_mm hf_ha (m := 10) (n := 340) rfl rfl (by decide)) hf_mm)
                  have hf_ta : f852 ta = .inl (cy 0, 1600, .inl gta) := (congrFun e_f852 ta).trans (z_up_ne (z_tne hf_ta hf_ha (m := 12900) (n := 340) rfl rfl (by decide)) hf_ta)
                  have hf_lw : f852 lw = .inl (cy 1, 25, .inl glw) := (congrFun e_f852 lw).trans (z_up_ne (z_tne hf_lw hf_ha (m := 300) (n := 340) rfl rfl (by decide)) hf_lw)
                  have hf_st : f852 st = .inl (cy 1, 20, .inl gst) := (congrFun e_f852 st).trans (z_up_ne (z_tne hf_st hf_ha (m := 260) (n := 340) rfl rfl (by decide)) hf_st)
                  have hf_fo : f852 fo = .inl (cy 1, 180, .inl g847) := (congrFun e_f852 fo).trans (z_up_ne (z_tne hf_fo hf_ha (m := 1540) (n := 340) rfl rfl (by decide)) hf_fo)
                  have hf_dr : f852 dr = .inl (cy 1, 520, .inl gdr) := (congrFun e_f852 dr).trans (z_up_ne (z_tne hf_dr hf_ha (m := 4260) (n := 340) rfl rfl (by decide)) hf_dr)
                  have hf_ha : f852 ha = .inl (cy 1, 30, .inl (upd gha (28 : Int32).toNatClampNeg w850)) := (congrFun e_f852 ha).trans z_up_self
                  have hfr : ∀ b ∈ L, b ≠ mm → b ≠ ha → b ≠ lw → b ≠ st → b ≠ fo → b ≠ dr → f852 b = f b := fun b hb h0 h1 h2 h3 h4 h5 => (congrFun e_f852 b).trans (z_up_ne h1 (hfr b hb h0 h1 h2 h3 h4 h5))
                  obtain ⟨g851, e_g851⟩ : ∃ z, z = (upd gha (28 : Int32).toNatClampNeg w850) := ⟨_, rfl⟩
                  rw [← e_g851] at hf_ha
                  have hq_ha : ∀ j : Nat, (q_hasR hz) j (g851 j) := z_updQ hq_ha e_g851 (show q_hasR _ _ _ from ⟨(show q_has _ _ from ⟨(fun h => absurd h (by decide)), (fun h => absurd h (by decide)), (fun h => absurd h (by decide)), (fun h => absurd h (by decide))⟩), fun h => absurd h (by decide)⟩)
                  refine lv_goto (tgt := 335) hx hb dX10_line_192 (by decide) ?_
                  exact z_vret hx hb hr hlk (by decide) (by decide) hw (⟨hsub, hfr, a2_835, k2_836, p2_837, v2_838, b2_839, q2_840, m22, w2_841, g851, glw, gst, g847, gdr, hf_mm, hf_ha, hf_lw, hf_st, hf_fo, hf_dr, hq_ha, hq_lw, hq_st, hq_dr, by omega, by omega, by omega, by omega, rfl⟩) dX10_line_335
                · skip
                  refine z_if_eq (tgt := 181) hx hb (show (0 : Int32).toInt = 0 by decide) dX10_line_159 (by decide) (fun _ => ?_) (fun h => absurd h (by decide))
                  refine lv_aload_n hx hb dX10_line_181 rfl (lv_at hl 6 rfl) ?_
                  refine z_get (C := RX10) (T := TX10) (N := 54) (ci := 10) (v := .ref ha) hx hb hT zin_X10 hown hK hw hm_mm hf_mm rfl 17 (by decide) (hT _ kw_1185) rfl dX10_line_182 ?_
                  refine lv_bipush (v := 28) hx hb dX10_line_185 (by decide) ?_
                  refine lv_dup2_11 hx hb dX10_line_187 rfl rfl ?_
                  refine z_iald hx hb hK hw 1 hm_ha hf_ha rfl (z_ix (show (28 : Int32).toInt = 28 by decide) (by decide)) dX10_line_188 ?_
                  refine lv_topi (fun w853 e_w853 => ?_)
                  refine lv_iconst (v := 1) hx hb dX10_line_189 (by decide) ?_
                  refine lv_iadd hx hb dX10_line_190 ?_
                  refine lv_topi (fun w854 e_w854 => ?_)
                  refine z_iast hx hb hK hw 1 hm_ha hf_ha rfl (z_ix (show (28 : Int32).toInt = 28 by decide) (by decide)) dX10_line_191 (fun H locs hw => ?_)
                  obtain ⟨f856, e_f856⟩ : ∃ z, z = va_up f834 ha (.inl (cy 1, 30, .inl (upd gha (28 : Int32).toNatClampNeg w854))) := ⟨_, rfl⟩
                  rw [← e_f856] at hw
                  have hf_mm : f856 mm = .inr (10, [.int m0, .ref wd, .ref my, .ref ce, .ref mv, .ref ta, .int m6, .int a2_835, .int k2_836, .int p2_837, .int v2_838, .long w2_841, .int b2_839, .int q2_840, .int m14, .int m15, .ref li, .ref ha, .ref lw, .ref st, .ref fo, .ref dr, .int m22, .ref ik, .int m24, .int m25, .long m26, .int m27, .int m28, .ref ro, .int m30, .ref ct, .ref se, .ref th, .ref cn, .ref be, .int m36, .ref du, .int m38, .ref db, .int m40, .int m41, .int m42, .ref pn, .ref wg, .ref wh, .ref tn, .ref he, .int m48, .ref tr, .ref fd, .ref po, .int m52, .int m53]) := (congrFun e_f856 mm).trans (z_up_ne (z_tne hf_mm hf_ha (m := 10) (n := 340) rfl rfl (by decide)) hf_mm)
                  have hf_ta : f856 ta = .inl (cy 0, 1600, .inl gta) := (congrFun e_f856 ta).trans (z_up_ne (z_tne hf_ta hf_ha (m := 12900) (n := 340) rfl rfl (by decide)) hf_ta)
                  have hf_lw : f856 lw = .inl (cy 1, 25, .inl glw) := (congrFun e_f856 lw).trans (z_up_ne (z_tne hf_lw hf_ha (m := 300) (n := 340) rfl rfl (by decide)) hf_lw)
                  have hf_st : f856 st = .inl (cy 1, 20, .inl gst) := (congrFun e_f856 st).trans (z_up_ne (z_tne hf_st hf_ha (m := 260) (n := 340) rfl rfl (by decide)) hf_st)
                  have hf_fo : f856 fo = .inl (cy 1, 180, .inl gfo) := (congrFun e_f856 fo).trans (z_up_ne (z_tne hf_fo hf_ha (m := 1540) (n := 340) rfl rfl (by decide)) hf_fo)
                  have hf_dr : f856 dr = .inl (cy 1, 520, .inl gdr) := (congrFun e_f856 dr).trans (z_up_ne (z_tne hf_dr hf_ha (m := 4260) (n := 340) rfl rfl (by decide)) hf_dr)
                  have hf_ha : f856 ha = .inl (cy 1, 30, .inl (upd gha (28 : Int32).toNatClampNeg w854)) := (congrFun e_f856 ha).trans z_up_self
                  have hfr : ∀ b ∈ L, b ≠ mm → b ≠ ha → b ≠ lw → b ≠ st → b ≠ fo → b ≠ dr → f856 b = f b := fun b hb h0 h1 h2 h3 h4 h5 => (congrFun e_f856 b).trans (z_up_ne h1 (hfr b hb h0 h1 h2 h3 h4 h5))
                  obtain ⟨g855, e_g855⟩ : ∃ z, z = (upd gha (28 : Int32).toNatClampNeg w854) := ⟨_, rfl⟩
                  rw [← e_g855] at hf_ha
                  have hq_ha : ∀ j : Nat, (q_hasR hz) j (g855 j) := z_updQ hq_ha e_g855 (show q_hasR _ _ _ from ⟨(show q_has _ _ from ⟨(fun h => absurd h (by decide)), (fun h => absurd h (by decide)), (fun h => absurd h (by decide)), (fun h => absurd h (by decide))⟩), fun h => absurd h (by decide)⟩)
                  refine lv_goto (tgt := 335) hx hb dX10_line_192 (by decide) ?_
                  exact z_vret hx hb hr hlk (by decide) (by decide) hw (⟨hsub, hfr, a2_835, k2_836, p2_837, v2_838, b2_839, q2_840, m22, w2_841, g855, glw, gst, gfo, gdr, hf_mm, hf_ha, hf_lw, hf_st, hf_fo, hf_dr, hq_ha, hq_lw, hq_st, hq_dr, by omega, by omega, by omega, by omega, rfl⟩) dX10_line_335
              · skip
                exact z_vret hx hb hr hlk (by decide) (by decide) hw (⟨hsub, hfr, m7, m8, m9, m10, b2_787, p2_788, m22, m11, gha, glw, gst, gfo, gdr, hf_mm, hf_ha, hf_lw, hf_st, hf_fo, hf_dr, hq_ha, hq_lw, hq_st, hq_dr, by omega, by omega, by omega, by omega, rfl⟩) dX10_line_88
          · skip
            refine lv_aload_n hx hb dX10_line_43 rfl (lv_at hl 3 rfl) ?_
            refine lv_iconst (v := 2) hx hb dX10_line_44 (by decide) ?_
            have hz857 := (show (2 : Int32).toInt = 2 by decide)
            refine z_callvV (cells := 0) (slots := 0) (b := mm) (As := [.int 2]) (rest := []) (ci := 10) (q0 := (RX10, TX10, 54)) ⟨hx, hb, hml, hown, hT⟩ (c_X10_fails l hm_mm hf_mm (by first | omega | decide | assumption)) (cwV 1 hT (z_goodV (fun _ h => h) kw_1411 kw_1413 kw_40 kw_96 kw_1414) rfl rfl rfl (by decide +kernel) ⟨by decide, by decide⟩) z_mv hKK hK hw hA hm_mm hf_mm rfl rfl rfl hl.1 rfl (Nat.le_of_ble_eq_true rfl) dX10_line_45 ⟨by decide, by decide⟩ (fun u H locs hp hw => ?_)
            obtain ⟨L858, f859⟩ := u
            obtain ⟨hsb, hfm, b2_860, p2_861, ha_0, hp⟩ := hp
            have hsb : L = L858 := hsb
            subst hsb
            have hsb : ∀ b ∈ L, b ∈ L := fun _ h => h
            have hw : z_H D vwCl (z_A L sz) s.heap L f859 H locs := hw
            have hfr : ∀ b ∈ L, b ≠ mm → b ≠ ha → b ≠ lw → b ≠ st → b ≠ fo → b ≠ dr → f859 b = f b := fun b hb h0 h1 h2 h3 h4 h5 => (hfm b hb h0).trans (hfr b hb h0 h1 h2 h3 h4 h5)
            have hf_ta : f859 ta = .inl (cy 0, 1600, .inl gta) := (hfm ta hm_ta (z_tne hf_ta hf_mm (m := 12900) (n := 10) rfl rfl (by decide))).trans hf_ta
            have hf_ha : f859 ha = .inl (cy 1, 30, .inl gha) := (hfm ha hm_ha (z_tne hf_ha hf_mm (m := 340) (n := 10) rfl rfl (by decide))).trans hf_ha
            have hf_lw : f859 lw = .inl (cy 1, 25, .inl glw) := (hfm lw hm_lw (z_tne hf_lw hf_mm (m := 300) (n := 10) rfl rfl (by decide))).trans hf_lw
            have hf_st : f859 st = .inl (cy 1, 20, .inl gst) := (hfm st hm_st (z_tne hf_st hf_mm (m := 260) (n := 10) rfl rfl (by decide))).trans hf_st
            have hf_fo : f859 fo = .inl (cy 1, 180, .inl gfo) := (hfm fo hm_fo (z_tne hf_fo hf_mm (m := 1540) (n := 10) rfl rfl (by decide))).trans hf_fo
            have hf_dr : f859 dr = .inl (cy 1, 520, .inl gdr) := (hfm dr hm_dr (z_tne hf_dr hf_mm (m := 4260) (n := 10) rfl rfl (by decide))).trans hf_dr
            have hf_mm : f859 mm = .inr (10, [.int m0, .ref wd, .ref my, .ref ce, .ref mv, .ref ta, .int m6, .int m7, .int m8, .int m9, .int m10, .long m11, .int b2_860, .int p2_861, .int m14, .int m15, .ref li, .ref ha, .ref lw, .ref st, .ref fo, .ref dr, .int m22, .ref ik, .int m24, .int m25, .long m26, .int m27, .int m28, .ref ro, .int m30, .ref ct, .ref se, .ref th, .ref cn, .ref be, .int m36, .ref du, .int m38, .ref db, .int m40, .int m41, .int m42, .ref pn, .ref wg, .ref wh, .ref tn, .ref he, .int m48, .ref tr, .ref fd, .ref po, .int m52, .int m53]) := ha_0
            have hq862 := hp
            refine lv_iload_n hx hb dX10_line_48 rfl (lv_at hl 2 rfl) ?_
            refine z_if_eq (tgt := 62) hx hb (show (0 : Int32).toInt = 0 by decide) dX10_line_49 (by decide) (fun _ => ?_) (fun h => absurd h (by decide))
            refine lv_iload_n hx hb dX10_line_62 rfl (lv_at hl 1 rfl) ?_
            refine z_if_eq (tgt := 81) hx hb (show (1 : Int32).toInt = 1 by decide) dX10_line_63 (by decide) (fun h => absurd h (by decide)) (fun _ => ?_)
            refine lv_aload_n hx hb dX10_line_66 rfl (lv_at hl 3 rfl) ?_
            refine lv_iconst (v := 4) hx hb dX10_line_67 (by decide) ?_
            have hz863 := (show (4 : Int32).toInt = 4 by decide)
            refine z_calliV (cells := 0) (slots := 0) (b := mm) (As := [.int 4]) (rest := []) (ci := 10) (q0 := (RX10, TX10, 54)) ⟨hx, hb, hml, hown, hT⟩ (c_X10_hasRead l hm_mm hm_ha hf_mm hf_ha hq_ha (by decide)) (cwV 1 hT (z_goodV (fun _ h => h) kw_1434 kw_1436 kw_44 kw_96 kw_1437) rfl rfl rfl (by decide +kernel) ⟨by decide, by decide⟩) z_mv hKK hK hw hA hm_mm hf_mm rfl rfl rfl hl.1 rfl (Nat.le_of_ble_eq_true rfl) dX10_line_68 ⟨by decide, by decide⟩ (fun r864 u H locs hp hw => ?_)
            obtain ⟨rfl, hp⟩ := hp
            have hw : z_H D vwCl (z_A L sz) s.heap L f859 H locs := hw
            refine lv_bipush (v := 8) hx hb dX10_line_71 (by decide) ?_
            refine z_icmp_ne (tgt := 81) hx hb rfl (show (8 : Int32).toInt = 8 by decide) dX10_line_73 (by decide) (fun c865 => ?_) (fun c865 => ?_)
            · skip
              refine lv_aload_n hx hb dX10_line_81 rfl (lv_at hl 3 rfl) ?_
              refine z_get (C := RX10) (T := TX10) (N := 54) (ci := 10) (v := .int b2_860) hx hb hT zin_X10 hown hK hw hm_mm hf_mm rfl 12 (by decide) (hT _ kw_1180) rfl dX10_line_82 ?_
              refine z_if_eq (tgt := 89) hx hb rfl dX10_line_85 (by decide) (fun c866 => ?_) (fun c866 => ?_)
              · skip
                refine lv_iload_n hx hb dX10_line_89 rfl (lv_at hl 2 rfl) ?_
                refine z_if_eq (tgt := 104) hx hb (show (0 : Int32).toInt = 0 by decide) dX10_line_90 (by decide) (fun _ => ?_) (fun h => absurd h (by decide))
                refine lv_iload_n hx hb dX10_line_104 rfl (lv_at hl 1 rfl) ?_
                refine z_if_eq (tgt := 195) hx hb (show (1 : Int32).toInt = 1 by decide) dX10_line_105 (by decide) (fun h => absurd h (by decide)) (fun _ => ?_)
                refine lv_aload_n hx hb dX10_line_108 rfl (lv_at hl 3 rfl) ?_
                refine z_callvV (cells := 0) (slots := 0) (b := mm) (As := []) (rest := []) (ci := 10) (q0 := (RX10, TX10, 54)) ⟨hx, hb, hml, hown, hT⟩ (c_X10_next l hm_mm hm_ta hf_mm hf_ta (by first | omega | decide | assumption) (by first | omega | decide | assumption)) (cwV 0 hT (z_goodV (fun _ h => h) kw_1381 kw_1383 kw_34 kw_96 kw_1384) rfl rfl rfl (by decide +kernel) ⟨by decide, by decide⟩) z_mv hKK hK hw hA hm_mm hf_mm rfl rfl rfl hl.1 rfl (Nat.le_of_ble_eq_true rfl) dX10_line_109 ⟨by decide, by decide⟩ (fun u H locs hp hw => ?_)
                obtain ⟨L867, f868⟩ := u
                obtain ⟨hsb, hfm, a2_869, k2_870, p2_871, v2_872, w2_873, ha_0, hp⟩ := hp
                have hsb : L = L867 := hsb
                subst hsb
                have hsb : ∀ b ∈ L, b ∈ L := fun _ h => h
                have hw : z_H D vwCl (z_A L sz) s.heap L f868 H locs := hw
                have hfr : ∀ b ∈ L, b ≠ mm → b ≠ ha → b ≠ lw → b ≠ st → b ≠ fo → b ≠ dr → f868 b = f b := fun b hb h0 h1 h2 h3 h4 h5 => (hfm b hb h0).trans (hfr b hb h0 h1 h2 h3 h4 h5)
                have hf_ta : f868 ta = .inl (cy 0, 1600, .inl gta) := (hfm ta hm_ta (z_tne hf_ta hf_mm (m := 12900) (n := 10) rfl rfl (by decide))).trans hf_ta
                have hf_ha : f868 ha = .inl (cy 1, 30, .inl gha) := (hfm ha hm_ha (z_tne hf_ha hf_mm (m := 340) (n := 10) rfl rfl (by decide))).trans hf_ha
                have hf_lw : f868 lw = .inl (cy 1, 25, .inl glw) := (hfm lw hm_lw (z_tne hf_lw hf_mm (m := 300) (n := 10) rfl rfl (by decide))).trans hf_lw
                have hf_st : f868 st = .inl (cy 1, 20, .inl gst) := (hfm st hm_st (z_tne hf_st hf_mm (m := 260) (n := 10) rfl rfl (by decide))).trans hf_st
                have hf_fo : f868 fo = .inl (cy 1, 180, .inl gfo) := (hfm fo hm_fo (z_tne hf_fo hf_mm (m := 1540) (n := 10) rfl rfl (by decide))).trans hf_fo
                have hf_dr : f868 dr = .inl (cy 1, 520, .inl gdr) := (hfm dr hm_dr (z_tne hf_dr hf_mm (m := 4260) (n := 10) rfl rfl (by decide))).trans hf_dr
                have hf_mm : f868 mm = .inr (10, [.int m0, .ref wd, .ref my, .ref ce, .ref mv, .ref ta, .int m6, .int a2_869, .int k2_870, .int p2_871, .int v2_872, .long w2_873, .int b2_860, .int p2_861, .int m14, .int m15, .ref li, .ref ha, .ref lw, .ref st, .ref fo, .ref dr, .int m22, .ref ik, .int m24, .int m25, .long m26, .int m27, .int m28, .ref ro, .int m30, .ref ct, .ref se, .ref th, .ref cn, .ref be, .int m36, .ref du, .int m38, .ref db, .int m40, .int m41, .int m42, .ref pn, .ref wg, .ref wh, .ref tn, .ref he, .int m48, .ref tr, .ref fd, .ref po, .int m52, .int m53]) := ha_0
                have hC_ : (0 ≤ a2_869.toInt ∧ a2_869.toInt ≤ m6.toInt) ∧ m7.toInt ≤ a2_869.toInt ∧ (b2_860.toInt ≠ 0 ∨ m12.toInt = 0) ∧ (b2_860.toInt ≠ 0 ∨ k2_870.toInt ≠ 3 ∨ m7.toInt < a2_869.toInt) := by refine ⟨⟨?_, ?_⟩, ?_, ?_, ?_⟩ <;> omega
                clear hp
                replace hC := hC_
                clear hC_
                refine lv_aload_n hx hb dX10_line_112 rfl (lv_at hl 3 rfl) ?_
                refine lv_iconst (v := 0) hx hb dX10_line_113 (by decide) ?_
                refine lv_aload_n hx hb dX10_line_114 rfl (lv_at hl 3 rfl) ?_
                refine lv_iconst (v := 0) hx hb dX10_line_115 (by decide) ?_
                have hz874 := (show (0 : Int32).toInt = 0 by decide)
                refine z_calliV (cells := 0) (slots := 0) (b := mm) (As := [.int 0]) (rest := [.int 0, .ref mm]) (ci := 10) (q0 := (RX10, TX10, 54)) ⟨hx, hb, hml, hown, hT⟩ (c_X10_hasRead l hm_mm hm_ha hf_mm hf_ha hq_ha (by decide)) (cwV 1 hT (z_goodV (fun _ h => h) kw_1434 kw_1436 kw_44 kw_96 kw_1437) rfl rfl rfl (by decide +kernel) ⟨by decide, by decide⟩) z_mv hKK hK hw hA hm_mm hf_mm rfl rfl rfl hl.1 rfl (Nat.le_of_ble_eq_true rfl) dX10_line_116 ⟨by decide, by decide⟩ (fun r875 u H locs hp hw => ?_)
                obtain ⟨rfl, hp⟩ := hp
                have hw : z_H D vwCl (z_A L sz) s.heap L f868 H locs := hw
                have hh876 : 0 ≤ r875.toInt ∧ r875.toInt ≤ 4 := by rw [hp]; exact (hq_ha 24).1.1 rfl
                refine lv_iconst (v := 1) hx hb dX10_line_119 (by decide) ?_
                refine lv_isub hx hb dX10_line_120 ?_
                refine lv_topi (fun w877 e_w877 => ?_)
                have i_w877 : w877.toInt = (r875.toInt - 1) := z_subI e_w877 rfl (show (1 : Int32).toInt = 1 by decide) (by omega)
                have hz878 := (show (0 : Int32).toInt = 0 by decide)
                refine z_calliV (cells := 0) (slots := 0) (b := mm) (As := [.int 0, .int w877]) (rest := []) (ci := 10) (q0 := (RX10, TX10, 54)) ⟨hx, hb, hml, hown, hT⟩ (c_X10_number l hm_mm hm_ta hf_mm hf_ta (by first | omega | decide | assumption) (by first | omega | decide | assumption)) (cwV 2 hT (z_goodV (fun _ h => h) kw_1420 kw_1422 kw_42 kw_96 kw_1423) rfl rfl rfl (by decide +kernel) ⟨by decide, by decide⟩) z_mv hKK hK hw hA hm_mm hf_mm rfl rfl rfl hl.1 rfl (Nat.le_of_ble_eq_true rfl) dX10_line_121 ⟨by decide, by decide⟩ (fun r879 u H locs hp hw => ?_)
                obtain ⟨L880, f881⟩ := u
                obtain ⟨hsb, hfm, a2_882, k2_883, p2_884, v2_885, b2_886, q2_887, w2_888, ha_0, hp⟩ := hp
                have hsb : L = L880 := hsb
                subst hsb
                have hsb : ∀ b ∈ L, b ∈ L := fun _ h => h
                have hw : z_H D vwCl (z_A L sz) s.heap L f881 H locs := hw
                have hfr : ∀ b ∈ L, b ≠ mm → b ≠ ha → b ≠ lw → b ≠ st → b ≠ fo → b ≠ dr → f881 b = f b := fun b hb h0 h1 h2 h3 h4 h5 => (hfm b hb h0).trans (hfr b hb h0 h1 h2 h3 h4 h5)
                have hf_ta : f881 ta = .inl (cy 0, 1600, .inl gta) := (hfm ta hm_ta (z_tne hf_ta hf_mm (m := 12900) (n := 10) rfl rfl (by decide))).trans hf_ta
                have hf_ha : f881 ha = .inl (cy 1, 30, .inl gha) := (hfm ha hm_ha (z_tne hf_ha hf_mm (m := 340) (n := 10) rfl rfl (by decide))).trans hf_ha
                have hf_lw : f881 lw = .inl (cy 1, 25, .inl glw) := (hfm lw hm_lw (z_tne hf_lw hf_mm (m := 300) (n := 10) rfl rfl (by decide))).trans hf_lw
                have hf_st : f881 st = .inl (cy 1, 20, .inl gst) := (hfm st hm_st (z_tne hf_st hf_mm (m := 260) (n := 10) rfl rfl (by decide))).trans hf_st
                have hf_fo : f881 fo = .inl (cy 1, 180, .inl gfo) := (hfm fo hm_fo (z_tne hf_fo hf_mm (m := 1540) (n := 10) rfl rfl (by decide))).trans hf_fo
                have hf_dr : f881 dr = .inl (cy 1, 520, .inl gdr) := (hfm dr hm_dr (z_tne hf_dr hf_mm (m := 4260) (n := 10) rfl rfl (by decide))).trans hf_dr
                have hf_mm : f881 mm = .inr (10, [.int m0, .ref wd, .ref my, .ref ce, .ref mv, .ref ta, .int m6, .int a2_882, .int k2_883, .int p2_884, .int v2_885, .long w2_888, .int b2_886, .int q2_887, .int m14, .int m15, .ref li, .ref ha, .ref lw, .ref st, .ref fo, .ref dr, .int m22, .ref ik, .int m24, .int m25, .long m26, .int m27, .int m28, .ref ro, .int m30, .ref ct, .ref se, .ref th, .ref cn, .ref be, .int m36, .ref du, .int m38, .ref db, .int m40, .int m41, .int m42, .ref pn, .ref wg, .ref wh, .ref tn, .ref he, .int m48, .ref tr, .ref fd, .ref po, .int m52, .int m53]) := ha_0
                have hR_r879 : 0 ≤ r879.toInt ∧ r879.toInt ≤ 3 := by omega
                have hC_ : (0 ≤ a2_882.toInt ∧ a2_882.toInt ≤ m6.toInt) ∧ m7.toInt ≤ a2_882.toInt ∧ (b2_886.toInt ≠ 0 ∨ m12.toInt = 0) ∧ (b2_886.toInt ≠ 0 ∨ k2_883.toInt ≠ 3 ∨ m7.toInt < a2_882.toInt) := by refine ⟨⟨?_, ?_⟩, ?_, ?_, ?_⟩ <;> omega
                clear hp
                replace hC := hC_
                clear hC_
                refine lv_istore (lv' := [(4, .int r879), (3, .int 1), (2, .int 1), (1, .int 0), (0, .ref mm)]) hx hb dX10_line_124 hl (by decide) rfl (fun ls hl => ?_)
                refine lv_aload_n hx hb dX10_line_126 rfl (lv_at hl 4 rfl) ?_
                refine lv_ldc2 (v := 419) hx hb hown (hT _ kw_1443) dX10_line_127 ?_
                refine lv_iconst (v := 0) hx hb dX10_line_130 (by decide) ?_
                refine lv_aload_n hx hb dX10_line_131 rfl (lv_at hl 4 rfl) ?_
                refine lv_iconst (v := 1) hx hb dX10_line_132 (by decide) ?_
                have hz889 := (show (1 : Int32).toInt = 1 by decide)
                refine z_calliV (cells := 0) (slots := 0) (b := mm) (As := [.int 1]) (rest := [.int 0, .long 419, .ref mm]) (ci := 10) (q0 := (RX10, TX10, 54)) ⟨hx, hb, hml, hown, hT⟩ (c_X10_hasRead l hm_mm hm_ha hf_mm hf_ha hq_ha (by decide)) (cwV 1 hT (z_goodV (fun _ h => h) kw_1434 kw_1436 kw_44 kw_96 kw_1437) rfl rfl rfl (by decide +kernel) ⟨by decide, by decide⟩) z_mv hKK hK hw hA hm_mm hf_mm rfl rfl rfl hl.1 rfl (Nat.le_of_ble_eq_true rfl) dX10_line_133 ⟨by decide, by decide⟩ (fun r890 u H locs hp hw => ?_)
                obtain ⟨rfl, hp⟩ := hp
                have hw : z_H D vwCl (z_A L sz) s.heap L f881 H locs := hw
                have hh891 : 0 ≤ r890.toInt ∧ r890.toInt ≤ 9 := by rw [hp]; exact (hq_ha 25).1.2.1 rfl
                refine lv_iconst (v := 1) hx hb dX10_line_136 (by decide) ?_
                refine lv_isub hx hb dX10_line_137 ?_
                refine lv_topi (fun w892 e_w892 => ?_)
                have i_w892 : w892.toInt = (r890.toInt - 1) := z_subI e_w892 rfl (show (1 : Int32).toInt = 1 by decide) (by omega)
                have hz893 := (show (419 : Int64).toInt = 419 by decide)
                have hz894 := (show (0 : Int32).toInt = 0 by decide)
                refine z_calliV (cells := 0) (slots := 0) (b := mm) (As := [.long 419, .int 0, .int w892]) (rest := []) (ci := 10) (q0 := (RX10, TX10, 54)) ⟨hx, hb, hml, hown, hT⟩ (c_X10_number_ l hm_mm hm_ta hf_mm hf_ta (by first | omega | decide | assumption) (by first | omega | decide | assumption)) (cwV 3 hT (z_goodV (fun _ h => h) kw_1416 kw_1418 kw_41 kw_96 kw_1419) rfl rfl rfl (by decide +kernel) ⟨by decide, by decide⟩) z_mv hKK hK hw hA hm_mm hf_mm rfl rfl rfl hl.1 rfl (Nat.le_of_ble_eq_true rfl) dX10_line_138 ⟨by decide, by decide⟩ (fun r895 u H locs hp hw => ?_)
                obtain ⟨L896, f897⟩ := u
                obtain ⟨hsb, hfm, a2_898, k2_899, p2_900, v2_901, b2_902, q2_903, w2_904, ha_0, hp⟩ := hp
                have hsb : L = L896 := hsb
                subst hsb
                have hsb : ∀ b ∈ L, b ∈ L := fun _ h => h
                have hw : z_H D vwCl (z_A L sz) s.heap L f897 H locs := hw
                have hfr : ∀ b ∈ L, b ≠ mm → b ≠ ha → b ≠ lw → b ≠ st → b ≠ fo → b ≠ dr → f897 b = f b := fun b hb h0 h1 h2 h3 h4 h5 => (hfm b hb h0).trans (hfr b hb h0 h1 h2 h3 h4 h5)
                have hf_ta : f897 ta = .inl (cy 0, 1600, .inl gta) := (hfm ta hm_ta (z_tne hf_ta hf_mm (m := 12900) (n := 10) rfl rfl (by decide))).trans hf_ta
                have hf_ha : f897 ha = .inl (cy 1, 30, .inl gha) := (hfm ha hm_ha (z_tne hf_ha hf_mm (m := 340) (n := 10) rfl rfl (by decide))).trans hf_ha
                have hf_lw : f897 lw = .inl (cy 1, 25, .inl glw) := (hfm lw hm_lw (z_tne hf_lw hf_mm (m := 300) (n := 10) rfl rfl (by decide))).trans hf_lw
                have hf_st : f897 st = .inl (cy 1, 20, .inl gst) := (hfm st hm_st (z_tne hf_st hf_mm (m := 260) (n := 10) rfl rfl (by decide))).trans hf_st
                have hf_fo : f897 fo = .inl (cy 1, 180, .inl gfo) := (hfm fo hm_fo (z_tne hf_fo hf_mm (m := 1540) (n := 10) rfl rfl (by decide))).trans hf_fo
                have hf_dr : f897 dr = .inl (cy 1, 520, .inl gdr) := (hfm dr hm_dr (z_tne hf_dr hf_mm (m := 4260) (n := 10) rfl rfl (by decide))).trans hf_dr
                have hf_mm : f897 mm = .inr (10, [.int m0, .ref wd, .ref my, .ref ce, .ref mv, .ref ta, .int m6, .int a2_898, .int k2_899, .int p2_900, .int v2_901, .long w2_904, .int b2_902, .int q2_903, .int m14, .int m15, .ref li, .ref ha, .ref lw, .ref st, .ref fo, .ref dr, .int m22, .ref ik, .int m24, .int m25, .long m26, .int m27, .int m28, .ref ro, .int m30, .ref ct, .ref se, .ref th, .ref cn, .ref be, .int m36, .ref du, .int m38, .ref db, .int m40, .int m41, .int m42, .ref pn, .ref wg, .ref wh, .ref tn, .ref he, .int m48, .ref tr, .ref fd, .ref po, .int m52, .int m53]) := ha_0
                have hR_r895 : 0 ≤ r895.toInt ∧ r895.toInt ≤ 8 := by omega
                have hC_ : (0 ≤ a2_898.toInt ∧ a2_898.toInt ≤ m6.toInt) ∧ m7.toInt ≤ a2_898.toInt ∧ (b2_902.toInt ≠ 0 ∨ m12.toInt = 0) ∧ (b2_902.toInt ≠ 0 ∨ k2_899.toInt ≠ 3 ∨ m7.toInt < a2_898.toInt) := by refine ⟨⟨?_, ?_⟩, ?_, ?_, ?_⟩ <;> omega
                clear hp
                replace hC := hC_
                clear hC_
                refine lv_istore (lv' := [(5, .int r895), (4, .int r879), (3, .int 1), (2, .int 1), (1, .int 0), (0, .ref mm)]) hx hb dX10_line_141 hl (by decide) rfl (fun ls hl => ?_)
                refine lv_aload_n hx hb dX10_line_143 rfl (lv_at hl 5 rfl) ?_
                refine lv_ldc2 (v := 191706742) hx hb hown (hT _ kw_1449) dX10_line_144 ?_
                refine lv_iconst (v := 2) hx hb dX10_line_147 (by decide) ?_
                refine lv_bipush (v := 9) hx hb dX10_line_148 (by decide) ?_
                have hz905 := (show (191706742 : Int64).toInt = 191706742 by decide)
                have hz906 := (show (2 : Int32).toInt = 2 by decide)
                have hz907 := (show (9 : Int32).toInt = 9 by decide)
                refine z_calliV (cells := 0) (slots := 0) (b := mm) (As := [.long 191706742, .int 2, .int 9]) (rest := []) (ci := 10) (q0 := (RX10, TX10, 54)) ⟨hx, hb, hml, hown, hT⟩ (c_X10_number_ l hm_mm hm_ta hf_mm hf_ta (by first | omega | decide | assumption) (by first | omega | decide | assumption)) (cwV 3 hT (z_goodV (fun _ h => h) kw_1416 kw_1418 kw_41 kw_96 kw_1419) rfl rfl rfl (by decide +kernel) ⟨by decide, by decide⟩) z_mv hKK hK hw hA hm_mm hf_mm rfl rfl rfl hl.1 rfl (Nat.le_of_ble_eq_true rfl) dX10_line_150 ⟨by decide, by decide⟩ (fun r908 u H locs hp hw => ?_)
                obtain ⟨L909, f910⟩ := u
                obtain ⟨hsb, hfm, a2_911, k2_912, p2_913, v2_914, b2_915, q2_916, w2_917, ha_0, hp⟩ := hp
                have hsb : L = L909 := hsb
                subst hsb
                have hsb : ∀ b ∈ L, b ∈ L := fun _ h => h
                have hw : z_H D vwCl (z_A L sz) s.heap L f910 H locs := hw
                have hfr : ∀ b ∈ L, b ≠ mm → b ≠ ha → b ≠ lw → b ≠ st → b ≠ fo → b ≠ dr → f910 b = f b := fun b hb h0 h1 h2 h3 h4 h5 => (hfm b hb h0).trans (hfr b hb h0 h1 h2 h3 h4 h5)
                have hf_ta : f910 ta = .inl (cy 0, 1600, .inl gta) := (hfm ta hm_ta (z_tne hf_ta hf_mm (m := 12900) (n := 10) rfl rfl (by decide))).trans hf_ta
                have hf_ha : f910 ha = .inl (cy 1, 30, .inl gha) := (hfm ha hm_ha (z_tne hf_ha hf_mm (m := 340) (n := 10) rfl rfl (by decide))).trans hf_ha
                have hf_lw : f910 lw = .inl (cy 1, 25, .inl glw) := (hfm lw hm_lw (z_tne hf_lw hf_mm (m := 300) (n := 10) rfl rfl (by decide))).trans hf_lw
                have hf_st : f910 st = .inl (cy 1, 20, .inl gst) := (hfm st hm_st (z_tne hf_st hf_mm (m := 260) (n := 10) rfl rfl (by decide))).trans hf_st
                have hf_fo : f910 fo = .inl (cy 1, 180, .inl gfo) := (hfm fo hm_fo (z_tne hf_fo hf_mm (m := 1540) (n := 10) rfl rfl (by decide))).trans hf_fo
                have hf_dr : f910 dr = .inl (cy 1, 520, .inl gdr) := (hfm dr hm_dr (z_tne hf_dr hf_mm (m := 4260) (n := 10) rfl rfl (by decide))).trans hf_dr
                have hf_mm : f910 mm = .inr (10, [.int m0, .ref wd, .ref my, .ref ce, .ref mv, .ref ta, .int m6, .int a2_911, .int k2_912, .int p2_913, .int v2_914, .long w2_917, .int b2_915, .int q2_916, .int m14, .int m15, .ref li, .ref ha, .ref lw, .ref st, .ref fo, .ref dr, .int m22, .ref ik, .int m24, .int m25, .long m26, .int m27, .int m28, .ref ro, .int m30, .ref ct, .ref se, .ref th, .ref cn, .ref be, .int m36, .ref du, .int m38, .ref db, .int m40, .int m41, .int m42, .ref pn, .ref wg, .ref wh, .ref tn, .ref he, .int m48, .ref tr, .ref fd, .ref po, .int m52, .int m53]) := ha_0
                have hR_r908 : 2 ≤ r908.toInt ∧ r908.toInt ≤ 9 := by omega
                have hC_ : (0 ≤ a2_911.toInt ∧ a2_911.toInt ≤ m6.toInt) ∧ m7.toInt ≤ a2_911.toInt ∧ (b2_915.toInt ≠ 0 ∨ m12.toInt = 0) ∧ (b2_915.toInt ≠ 0 ∨ k2_912.toInt ≠ 3 ∨ m7.toInt < a2_911.toInt) := by refine ⟨⟨?_, ?_⟩, ?_, ?_, ?_⟩ <;> omega
                clear hp
                replace hC := hC_
                clear hC_
                refine lv_istore (lv' := [(6, .int r908), (5, .int r895), (4, .int r879), (3, .int 1), (2, .int 1), (1, .int 0), (0, .ref mm)]) hx hb dX10_line_153 hl (by decide) rfl (fun ls hl => ?_)
                refine lv_aload_n hx hb dX10_line_155 rfl (lv_at hl 6 rfl) ?_
                refine z_calliV (cells := 0) (slots := 0) (b := mm) (As := []) (rest := []) (ci := 10) (q0 := (RX10, TX10, 54)) ⟨hx, hb, hml, hown, hT⟩ (c_X10_isGood l hm_mm hf_mm) (cwV 0 hT (z_goodV (fun _ h => h) kw_1394 kw_1396 kw_36 kw_96 kw_1397) rfl rfl rfl (by decide +kernel) ⟨by decide, by decide⟩) z_mv hKK hK hw hA hm_mm hf_mm rfl rfl rfl hl.1 rfl (Nat.le_of_ble_eq_true rfl) dX10_line_156 ⟨by decide, by decide⟩ (fun r918 u H locs hp hw => ?_)
                obtain ⟨rfl, hp⟩ := hp
                have hw : z_H D vwCl (z_A L sz) s.heap L f910 H locs := hw
                rcases hp with ⟨rfl, h919⟩ | ⟨rfl, h919⟩
                · skip
                  refine z_if_eq (tgt := 181) hx hb (show (1 : Int32).toInt = 1 by decide) dX10_line_159 (by decide) (fun h => absurd h (by decide)) (fun _ => ?_)
                  refine lv_aload_n hx hb dX10_line_162 rfl (lv_at hl 6 rfl) ?_
                  refine z_get (C := RX10) (T := TX10) (N := 54) (ci := 10) (v := .ref fo) hx hb hT zin_X10 hown hK hw hm_mm hf_mm rfl 20 (by decide) (hT _ kw_1188) rfl dX10_line_163 ?_
                  refine lv_sipush (v := 144) hx hb dX10_line_166 (by decide) ?_
                  refine lv_bipush (v := 9) hx hb dX10_line_169 (by decide) ?_
                  refine lv_iload hx hb dX10_line_171 (lv_at hl 2 rfl) ?_
                  refine lv_imul hx hb dX10_line_173 ?_
                  refine lv_topi (fun w920 e_w920 => ?_)
                  have i_w920 : w920.toInt = (9 * r879.toInt) := z_mul e_w920 (show (9 : Int32).toInt = 9 by decide) rfl (by omega)
                  refine lv_iadd hx hb dX10_line_174 ?_
                  refine lv_topi (fun w921 e_w921 => ?_)
                  have i_w921 : w921.toInt = (144 + (9 * r879.toInt)) := z_add e_w921 (show (144 : Int32).toInt = 144 by decide) i_w920 (by omega)
                  refine lv_iload hx hb dX10_line_175 (lv_at hl 1 rfl) ?_
                  refine lv_iadd hx hb dX10_line_177 ?_
                  refine lv_topi (fun w922 e_w922 => ?_)
                  have i_w922 : w922.toInt = ((144 + (9 * r879.toInt)) + r895.toInt) := z_add e_w922 i_w921 rfl (by omega)
                  refine lv_iload hx hb dX10_line_178 (lv_at hl 0 rfl) ?_
                  refine z_iast hx hb hK hw 1 hm_fo hf_fo rfl (z_ix i_w922 (by omega)) dX10_line_180 (fun H locs hw => ?_)
                  obtain ⟨f924, e_f924⟩ : ∃ z, z = va_up f910 fo (.inl (cy 1, 180, .inl (upd gfo w922.toNatClampNeg r908))) := ⟨_, rfl⟩
                  rw [← e_f924] at hw
                  have hf_mm : f924 mm = .inr (10, [.int m0, .ref wd, .ref my, .ref ce, .ref mv, .ref ta, .int m6, .int a2_911, .int k2_912, .int p2_913, .int v2_914, .long w2_917, .int b2_915, .int q2_916, .int m14, .int m15, .ref li, .ref ha, .ref lw, .ref st, .ref fo, .ref dr, .int m22, .ref ik, .int m24, .int m25, .long m26, .int m27, .int m28, .ref ro, .int m30, .ref ct, .ref se, .ref th, .ref cn, .ref be, .int m36, .ref du, .int m38, .ref db, .int m40, .int m41, .int m42, .ref pn, .ref wg, .ref wh, .ref tn, .ref he, .int m48, .ref tr, .ref fd, .ref po, .int m52, .int m53]) := (congrFun e_f924 mm).trans (z_up_ne (z_tne hf_mm hf_fo (m := 10) (n := 1540) rfl rfl (by decide)) hf_mm)
                  have hf_ta : f924 ta = .inl (cy 0, 1600, .inl gta) := (congrFun e_f924 ta).trans (z_up_ne (z_tne hf_ta hf_fo (m := 12900) (n := 1540) rfl rfl (by decide)) hf_ta)
                  have hf_ha : f924 ha = .inl (cy 1, 30, .inl gha) := (congrFun e_f924 ha).trans (z_up_ne (z_tne hf_ha hf_fo (m := 340) (n := 1540) rfl rfl (by decide)) hf_ha)
                  have hf_lw : f924 lw = .inl (cy 1, 25, .inl glw) := (congrFun e_f924 lw).trans (z_up_ne (z_tne hf_lw hf_fo (m := 300) (n := 1540) rfl rfl (by decide)) hf_lw)
                  have hf_st : f924 st = .inl (cy 1, 20, .inl gst) := (congrFun e_f924 st).trans (z_up_ne (z_tne hf_st hf_fo (m := 260) (n := 1540) rfl rfl (by decide)) hf_st)
                  have hf_dr : f924 dr = .inl (cy 1, 520, .inl gdr) := (congrFun e_f924 dr).trans (z_up_ne (z_tne hf_dr hf_fo (m := 4260) (n := 1540) rfl rfl (by decide)) hf_dr)
                  have hf_fo : f924 fo = .inl (cy 1, 180, .inl (upd gfo w922.toNatClampNeg r908)) := (congrFun e_f924 fo).trans z_up_self
                  have hfr : ∀ b ∈ L, b ≠ mm → b ≠ ha → b ≠ lw → b ≠ st → b ≠ fo → b ≠ dr → f924 b = f b := fun b hb h0 h1 h2 h3 h4 h5 => (congrFun e_f924 b).trans (z_up_ne h4 (hfr b hb h0 h1 h2 h3 h4 h5))
                  obtain ⟨g923, e_g923⟩ : ∃ z, z = (upd gfo w922.toNatClampNeg r908) := ⟨_, rfl⟩
                  rw [← e_g923] at hf_fo
                  refine lv_aload_n hx hb dX10_line_181 rfl (lv_at hl 6 rfl) ?_
                  refine z_get (C := RX10) (T := TX10) (N := 54) (ci := 10) (v := .ref ha) hx hb hT zin_X10 hown hK hw hm_mm hf_mm rfl 17 (by decide) (hT _ kw_1185) rfl dX10_line_182 ?_
                  refine lv_bipush (v := 28) hx hb dX10_line_185 (by decide) ?_
                  refine lv_dup2_11 hx hb dX10_line_187 rfl rfl ?_
                  refine z_iald hx hb hK hw 1 hm_ha hf_ha rfl (z_ix (show (28 : Int32).toInt = 28 by decide) (by decide)) dX10_line_188 ?_
                  refine lv_topi (fun w925 e_w925 => ?_)
                  refine lv_iconst (v := 1) hx hb dX10_line_189 (by decide) ?_
                  refine lv_iadd hx hb dX10_line_190 ?_
                  refine lv_topi (fun w926 e_w926 => ?_)
                  refine z_iast hx hb hK hw 1 hm_ha hf_ha rfl (z_ix (show (28 : Int32).toInt = 28 by decide) (by decide)) dX10_line_191 (fun H locs hw => ?_)
                  obtain ⟨f928, e_f928⟩ : ∃ z, z = va_up f924 ha (.inl (cy 1, 30, .inl (upd gha (28 : Int32).toNatClampNeg w926))) := ⟨_, rfl⟩
                  rw [← e_f928] at hw
                  have hf_mm : f928 mm = .inr (10, [.int m0, .ref wd, .ref my, .ref ce, .ref mv, .ref ta, .int m6, .int a2_911, .int k2_912, .int p2_913, .int v2_914, .long w2_917, .int b2_915, .int q2_916, .int m14, .int m15, .ref li, .ref ha, .ref lw, .ref st, .ref fo, .ref dr, .int m22, .ref ik, .int m24, .int m25, .long m26, .int m27, .int m28, .ref ro, .int m30, .ref ct, .ref se, .ref th, .ref cn, .ref be, .int m36, .ref du, .int m38, .ref db, .int m40, .int m41, .int m42, .ref pn, .ref wg, .ref wh, .ref tn, .ref he, .int m48, .ref tr, .ref fd, .ref po, .int m52, .int m53]) := (congrFun e_f928 mm).trans (z_up_ne (z_tne hf_mm hf_ha (m := 10) (n := 340) rfl rfl (by decide)) hf_mm)
                  have hf_ta : f928 ta = .inl (cy 0, 1600, .inl gta) := (congrFun e_f928 ta).trans (z_up_ne (z_tne hf_ta hf_ha (m := 12900) (n := 340) rfl rfl (by decide)) hf_ta)
                  have hf_lw : f928 lw = .inl (cy 1, 25, .inl glw) := (congrFun e_f928 lw).trans (z_up_ne (z_tne hf_lw hf_ha (m := 300) (n := 340) rfl rfl (by decide)) hf_lw)
                  have hf_st : f928 st = .inl (cy 1, 20, .inl gst) := (congrFun e_f928 st).trans (z_up_ne (z_tne hf_st hf_ha (m := 260) (n := 340) rfl rfl (by decide)) hf_st)
                  have hf_fo : f928 fo = .inl (cy 1, 180, .inl g923) := (congrFun e_f928 fo).trans (z_up_ne (z_tne hf_fo hf_ha (m := 1540) (n := 340) rfl rfl (by decide)) hf_fo)
                  have hf_dr : f928 dr = .inl (cy 1, 520, .inl gdr) := (congrFun e_f928 dr).trans (z_up_ne (z_tne hf_dr hf_ha (m := 4260) (n := 340) rfl rfl (by decide)) hf_dr)
                  have hf_ha : f928 ha = .inl (cy 1, 30, .inl (upd gha (28 : Int32).toNatClampNeg w926)) := (congrFun e_f928 ha).trans z_up_self
                  have hfr : ∀ b ∈ L, b ≠ mm → b ≠ ha → b ≠ lw → b ≠ st → b ≠ fo → b ≠ dr → f928 b = f b := fun b hb h0 h1 h2 h3 h4 h5 => (congrFun e_f928 b).trans (z_up_ne h1 (hfr b hb h0 h1 h2 h3 h4 h5))
                  obtain ⟨g927, e_g927⟩ : ∃ z, z = (upd gha (28 : Int32).toNatClampNeg w926) := ⟨_, rfl⟩
                  rw [← e_g927] at hf_ha
                  have hq_ha : ∀ j : Nat, (q_hasR hz) j (g927 j) := z_updQ hq_ha e_g927 (show q_hasR _ _ _ from ⟨(show q_has _ _ from ⟨(fun h => absurd h (by decide)), (fun h => absurd h (by decide)), (fun h => absurd h (by decide)), (fun h => absurd h (by decide))⟩), fun h => absurd h (by decide)⟩)
                  refine lv_goto (tgt := 335) hx hb dX10_line_192 (by decide) ?_
                  exact z_vret hx hb hr hlk (by decide) (by decide) hw (⟨hsub, hfr, a2_911, k2_912, p2_913, v2_914, b2_915, q2_916, m22, w2_917, g927, glw, gst, g923, gdr, hf_mm, hf_ha, hf_lw, hf_st, hf_fo, hf_dr, hq_ha, hq_lw, hq_st, hq_dr, by omega, by omega, by omega, by omega, rfl⟩) dX10_line_335
                · skip
                  refine z_if_eq (tgt := 181) hx hb (show (0 : Int32).toInt = 0 by decide) dX10_line_159 (by decide) (fun _ => ?_) (fun h => absurd h (by decide))
                  refine lv_aload_n hx hb dX10_line_181 rfl (lv_at hl 6 rfl) ?_
                  refine z_get (C := RX10) (T := TX10) (N := 54) (ci := 10) (v := .ref ha) hx hb hT zin_X10 hown hK hw hm_mm hf_mm rfl 17 (by decide) (hT _ kw_1185) rfl dX10_line_182 ?_
                  refine lv_bipush (v := 28) hx hb dX10_line_185 (by decide) ?_
                  refine lv_dup2_11 hx hb dX10_line_187 rfl rfl ?_
                  refine z_iald hx hb hK hw 1 hm_ha hf_ha rfl (z_ix (show (28 : Int32).toInt = 28 by decide) (by decide)) dX10_line_188 ?_
                  refine lv_topi (fun w929 e_w929 => ?_)
                  refine lv_iconst (v := 1) hx hb dX10_line_189 (by decide) ?_
                  refine lv_iadd hx hb dX10_line_190 ?_
                  refine lv_topi (fun w930 e_w930 => ?_)
                  refine z_iast hx hb hK hw 1 hm_ha hf_ha rfl (z_ix (show (28 : Int32).toInt = 28 by decide) (by decide)) dX10_line_191 (fun H locs hw => ?_)
                  obtain ⟨f932, e_f932⟩ : ∃ z, z = va_up f910 ha (.inl (cy 1, 30, .inl (upd gha (28 : Int32).toNatClampNeg w930))) := ⟨_, rfl⟩
                  rw [← e_f932] at hw
                  have hf_mm : f932 mm = .inr (10, [.int m0, .ref wd, .ref my, .ref ce, .ref mv, .ref ta, .int m6, .int a2_911, .int k2_912, .int p2_913, .int v2_914, .long w2_917, .int b2_915, .int q2_916, .int m14, .int m15, .ref li, .ref ha, .ref lw, .ref st, .ref fo, .ref dr, .int m22, .ref ik, .int m24, .int m25, .long m26, .int m27, .int m28, .ref ro, .int m30, .ref ct, .ref se, .ref th, .ref cn, .ref be, .int m36, .ref du, .int m38, .ref db, .int m40, .int m41, .int m42, .ref pn, .ref wg, .ref wh, .ref tn, .ref he, .int m48, .ref tr, .ref fd, .ref po, .int m52, .int m53]) := (congrFun e_f932 mm).trans (z_up_ne (z_tne hf_mm hf_ha (m := 10) (n := 340) rfl rfl (by decide)) hf_mm)
                  have hf_ta : f932 ta = .inl (cy 0, 1600, .inl gta) := (congrFun e_f932 ta).trans (z_up_ne (z_tne hf_ta hf_ha (m := 12900) (n := 340) rfl rfl (by decide)) hf_ta)
                  have hf_lw : f932 lw = .inl (cy 1, 25, .inl glw) := (congrFun e_f932 lw).trans (z_up_ne (z_tne hf_lw hf_ha (m := 300) (n := 340) rfl rfl (by decide)) hf_lw)
                  have hf_st : f932 st = .inl (cy 1, 20, .inl gst) := (congrFun e_f932 st).trans (z_up_ne (z_tne hf_st hf_ha (m := 260) (n := 340) rfl rfl (by decide)) hf_st)
                  have hf_fo : f932 fo = .inl (cy 1, 180, .inl gfo) := (congrFun e_f932 fo).trans (z_up_ne (z_tne hf_fo hf_ha (m := 1540) (n := 340) rfl rfl (by decide)) hf_fo)
                  have hf_dr : f932 dr = .inl (cy 1, 520, .inl gdr) := (congrFun e_f932 dr).trans (z_up_ne (z_tne hf_dr hf_ha (m := 4260) (n := 340) rfl rfl (by decide)) hf_dr)
                  have hf_ha : f932 ha = .inl (cy 1, 30, .inl (upd gha (28 : Int32).toNatClampNeg w930)) := (congrFun e_f932 ha).trans z_up_self
                  have hfr : ∀ b ∈ L, b ≠ mm → b ≠ ha → b ≠ lw → b ≠ st → b ≠ fo → b ≠ dr → f932 b = f b := fun b hb h0 h1 h2 h3 h4 h5 => (congrFun e_f932 b).trans (z_up_ne h1 (hfr b hb h0 h1 h2 h3 h4 h5))
                  obtain ⟨g931, e_g931⟩ : ∃ z, z = (upd gha (28 : Int32).toNatClampNeg w930) := ⟨_, rfl⟩
                  rw [← e_g931] at hf_ha
                  have hq_ha : ∀ j : Nat, (q_hasR hz) j (g931 j) := z_updQ hq_ha e_g931 (show q_hasR _ _ _ from ⟨(show q_has _ _ from ⟨(fun h => absurd h (by decide)), (fun h => absurd h (by decide)), (fun h => absurd h (by decide)), (fun h => absurd h (by decide))⟩), fun h => absurd h (by decide)⟩)
                  refine lv_goto (tgt := 335) hx hb dX10_line_192 (by decide) ?_
                  exact z_vret hx hb hr hlk (by decide) (by decide) hw (⟨hsub, hfr, a2_911, k2_912, p2_913, v2_914, b2_915, q2_916, m22, w2_917, g931, glw, gst, gfo, gdr, hf_mm, hf_ha, hf_lw, hf_st, hf_fo, hf_dr, hq_ha, hq_lw, hq_st, hq_dr, by omega, by omega, by omega, by omega, rfl⟩) dX10_line_335
              · skip
                exact z_vret hx hb hr hlk (by decide) (by decide) hw (⟨hsub, hfr, m7, m8, m9, m10, b2_860, p2_861, m22, m11, gha, glw, gst, gfo, gdr, hf_mm, hf_ha, hf_lw, hf_st, hf_fo, hf_dr, hq_ha, hq_lw, hq_st, hq_dr, by omega, by omega, by omega, by omega, rfl⟩) dX10_line_88
            · skip
              refine lv_aload_n hx hb dX10_line_76 rfl (lv_at hl 3 rfl) ?_
              refine lv_iconst (v := 3) hx hb dX10_line_77 (by decide) ?_
              have hz933 := (show (3 : Int32).toInt = 3 by decide)
              refine z_callvV (cells := 0) (slots := 0) (b := mm) (As := [.int 3]) (rest := []) (ci := 10) (q0 := (RX10, TX10, 54)) ⟨hx, hb, hml, hown, hT⟩ (c_X10_fails l hm_mm hf_mm (by first | omega | decide | assumption)) (cwV 1 hT (z_goodV (fun _ h => h) kw_1411 kw_1413 kw_40 kw_96 kw_1414) rfl rfl rfl (by decide +kernel) ⟨by decide, by decide⟩) z_mv hKK hK hw hA hm_mm hf_mm rfl rfl rfl hl.1 rfl (Nat.le_of_ble_eq_true rfl) dX10_line_78 ⟨by decide, by decide⟩ (fun u H locs hp hw => ?_)
              obtain ⟨L934, f935⟩ := u
              obtain ⟨hsb, hfm, b2_936, p2_937, ha_0, hp⟩ := hp
              have hsb : L = L934 := hsb
              subst hsb
              have hsb : ∀ b ∈ L, b ∈ L := fun _ h => h
              have hw : z_H D vwCl (z_A L sz) s.heap L f935 H locs := hw
              have hfr : ∀ b ∈ L, b ≠ mm → b ≠ ha → b ≠ lw → b ≠ st → b ≠ fo → b ≠ dr → f935 b = f b := fun b hb h0 h1 h2 h3 h4 h5 => (hfm b hb h0).trans (hfr b hb h0 h1 h2 h3 h4 h5)
              have hf_ta : f935 ta = .inl (cy 0, 1600, .inl gta) := (hfm ta hm_ta (z_tne hf_ta hf_mm (m := 12900) (n := 10) rfl rfl (by decide))).trans hf_ta
              have hf_ha : f935 ha = .inl (cy 1, 30, .inl gha) := (hfm ha hm_ha (z_tne hf_ha hf_mm (m := 340) (n := 10) rfl rfl (by decide))).trans hf_ha
              have hf_lw : f935 lw = .inl (cy 1, 25, .inl glw) := (hfm lw hm_lw (z_tne hf_lw hf_mm (m := 300) (n := 10) rfl rfl (by decide))).trans hf_lw
              have hf_st : f935 st = .inl (cy 1, 20, .inl gst) := (hfm st hm_st (z_tne hf_st hf_mm (m := 260) (n := 10) rfl rfl (by decide))).trans hf_st
              have hf_fo : f935 fo = .inl (cy 1, 180, .inl gfo) := (hfm fo hm_fo (z_tne hf_fo hf_mm (m := 1540) (n := 10) rfl rfl (by decide))).trans hf_fo
              have hf_dr : f935 dr = .inl (cy 1, 520, .inl gdr) := (hfm dr hm_dr (z_tne hf_dr hf_mm (m := 4260) (n := 10) rfl rfl (by decide))).trans hf_dr
              have hf_mm : f935 mm = .inr (10, [.int m0, .ref wd, .ref my, .ref ce, .ref mv, .ref ta, .int m6, .int m7, .int m8, .int m9, .int m10, .long m11, .int b2_936, .int p2_937, .int m14, .int m15, .ref li, .ref ha, .ref lw, .ref st, .ref fo, .ref dr, .int m22, .ref ik, .int m24, .int m25, .long m26, .int m27, .int m28, .ref ro, .int m30, .ref ct, .ref se, .ref th, .ref cn, .ref be, .int m36, .ref du, .int m38, .ref db, .int m40, .int m41, .int m42, .ref pn, .ref wg, .ref wh, .ref tn, .ref he, .int m48, .ref tr, .ref fd, .ref po, .int m52, .int m53]) := ha_0
              have hq938 := hp
              refine lv_aload_n hx hb dX10_line_81 rfl (lv_at hl 3 rfl) ?_
              refine z_get (C := RX10) (T := TX10) (N := 54) (ci := 10) (v := .int b2_936) hx hb hT zin_X10 hown hK hw hm_mm hf_mm rfl 12 (by decide) (hT _ kw_1180) rfl dX10_line_82 ?_
              refine z_if_eq (tgt := 89) hx hb rfl dX10_line_85 (by decide) (fun c939 => ?_) (fun c939 => ?_)
              · skip
                refine lv_iload_n hx hb dX10_line_89 rfl (lv_at hl 2 rfl) ?_
                refine z_if_eq (tgt := 104) hx hb (show (0 : Int32).toInt = 0 by decide) dX10_line_90 (by decide) (fun _ => ?_) (fun h => absurd h (by decide))
                refine lv_iload_n hx hb dX10_line_104 rfl (lv_at hl 1 rfl) ?_
                refine z_if_eq (tgt := 195) hx hb (show (1 : Int32).toInt = 1 by decide) dX10_line_105 (by decide) (fun h => absurd h (by decide)) (fun _ => ?_)
                refine lv_aload_n hx hb dX10_line_108 rfl (lv_at hl 3 rfl) ?_
                refine z_callvV (cells := 0) (slots := 0) (b := mm) (As := []) (rest := []) (ci := 10) (q0 := (RX10, TX10, 54)) ⟨hx, hb, hml, hown, hT⟩ (c_X10_next l hm_mm hm_ta hf_mm hf_ta (by first | omega | decide | assumption) (by first | omega | decide | assumption)) (cwV 0 hT (z_goodV (fun _ h => h) kw_1381 kw_1383 kw_34 kw_96 kw_1384) rfl rfl rfl (by decide +kernel) ⟨by decide, by decide⟩) z_mv hKK hK hw hA hm_mm hf_mm rfl rfl rfl hl.1 rfl (Nat.le_of_ble_eq_true rfl) dX10_line_109 ⟨by decide, by decide⟩ (fun u H locs hp hw => ?_)
                obtain ⟨L940, f941⟩ := u
                obtain ⟨hsb, hfm, a2_942, k2_943, p2_944, v2_945, w2_946, ha_0, hp⟩ := hp
                have hsb : L = L940 := hsb
                subst hsb
                have hsb : ∀ b ∈ L, b ∈ L := fun _ h => h
                have hw : z_H D vwCl (z_A L sz) s.heap L f941 H locs := hw
                have hfr : ∀ b ∈ L, b ≠ mm → b ≠ ha → b ≠ lw → b ≠ st → b ≠ fo → b ≠ dr → f941 b = f b := fun b hb h0 h1 h2 h3 h4 h5 => (hfm b hb h0).trans (hfr b hb h0 h1 h2 h3 h4 h5)
                have hf_ta : f941 ta = .inl (cy 0, 1600, .inl gta) := (hfm ta hm_ta (z_tne hf_ta hf_mm (m := 12900) (n := 10) rfl rfl (by decide))).trans hf_ta
                have hf_ha : f941 ha = .inl (cy 1, 30, .inl gha) := (hfm ha hm_ha (z_tne hf_ha hf_mm (m := 340) (n := 10) rfl rfl (by decide))).trans hf_ha
                have hf_lw : f941 lw = .inl (cy 1, 25, .inl glw) := (hfm lw hm_lw (z_tne hf_lw hf_mm (m := 300) (n := 10) rfl rfl (by decide))).trans hf_lw
                have hf_st : f941 st = .inl (cy 1, 20, .inl gst) := (hfm st hm_st (z_tne hf_st hf_mm (m := 260) (n := 10) rfl rfl (by decide))).trans hf_st
                have hf_fo : f941 fo = .inl (cy 1, 180, .inl gfo) := (hfm fo hm_fo (z_tne hf_fo hf_mm (m := 1540) (n := 10) rfl rfl (by decide))).trans hf_fo
                have hf_dr : f941 dr = .inl (cy 1, 520, .inl gdr) := (hfm dr hm_dr (z_tne hf_dr hf_mm (m := 4260) (n := 10) rfl rfl (by decide))).trans hf_dr
                have hf_mm : f941 mm = .inr (10, [.int m0, .ref wd, .ref my, .ref ce, .ref mv, .ref ta, .int m6, .int a2_942, .int k2_943, .int p2_944, .int v2_945, .long w2_946, .int b2_936, .int p2_937, .int m14, .int m15, .ref li, .ref ha, .ref lw, .ref st, .ref fo, .ref dr, .int m22, .ref ik, .int m24, .int m25, .long m26, .int m27, .int m28, .ref ro, .int m30, .ref ct, .ref se, .ref th, .ref cn, .ref be, .int m36, .ref du, .int m38, .ref db, .int m40, .int m41, .int m42, .ref pn, .ref wg, .ref wh, .ref tn, .ref he, .int m48, .ref tr, .ref fd, .ref po, .int m52, .int m53]) := ha_0
                have hC_ : (0 ≤ a2_942.toInt ∧ a2_942.toInt ≤ m6.toInt) ∧ m7.toInt ≤ a2_942.toInt ∧ (b2_936.toInt ≠ 0 ∨ m12.toInt = 0) ∧ (b2_936.toInt ≠ 0 ∨ k2_943.toInt ≠ 3 ∨ m7.toInt < a2_942.toInt) := by refine ⟨⟨?_, ?_⟩, ?_, ?_, ?_⟩ <;> omega
                clear hp
                replace hC := hC_
                clear hC_
                refine lv_aload_n hx hb dX10_line_112 rfl (lv_at hl 3 rfl) ?_
                refine lv_iconst (v := 0) hx hb dX10_line_113 (by decide) ?_
                refine lv_aload_n hx hb dX10_line_114 rfl (lv_at hl 3 rfl) ?_
                refine lv_iconst (v := 0) hx hb dX10_line_115 (by decide) ?_
                have hz947 := (show (0 : Int32).toInt = 0 by decide)
                refine z_calliV (cells := 0) (slots := 0) (b := mm) (As := [.int 0]) (rest := [.int 0, .ref mm]) (ci := 10) (q0 := (RX10, TX10, 54)) ⟨hx, hb, hml, hown, hT⟩ (c_X10_hasRead l hm_mm hm_ha hf_mm hf_ha hq_ha (by decide)) (cwV 1 hT (z_goodV (fun _ h => h) kw_1434 kw_1436 kw_44 kw_96 kw_1437) rfl rfl rfl (by decide +kernel) ⟨by decide, by decide⟩) z_mv hKK hK hw hA hm_mm hf_mm rfl rfl rfl hl.1 rfl (Nat.le_of_ble_eq_true rfl) dX10_line_116 ⟨by decide, by decide⟩ (fun r948 u H locs hp hw => ?_)
                obtain ⟨rfl, hp⟩ := hp
                have hw : z_H D vwCl (z_A L sz) s.heap L f941 H locs := hw
                have hh949 : 0 ≤ r948.toInt ∧ r948.toInt ≤ 4 := by rw [hp]; exact (hq_ha 24).1.1 rfl
                refine lv_iconst (v := 1) hx hb dX10_line_119 (by decide) ?_
                refine lv_isub hx hb dX10_line_120 ?_
                refine lv_topi (fun w950 e_w950 => ?_)
                have i_w950 : w950.toInt = (r948.toInt - 1) := z_subI e_w950 rfl (show (1 : Int32).toInt = 1 by decide) (by omega)
                have hz951 := (show (0 : Int32).toInt = 0 by decide)
                refine z_calliV (cells := 0) (slots := 0) (b := mm) (As := [.int 0, .int w950]) (rest := []) (ci := 10) (q0 := (RX10, TX10, 54)) ⟨hx, hb, hml, hown, hT⟩ (c_X10_number l hm_mm hm_ta hf_mm hf_ta (by first | omega | decide | assumption) (by first | omega | decide | assumption)) (cwV 2 hT (z_goodV (fun _ h => h) kw_1420 kw_1422 kw_42 kw_96 kw_1423) rfl rfl rfl (by decide +kernel) ⟨by decide, by decide⟩) z_mv hKK hK hw hA hm_mm hf_mm rfl rfl rfl hl.1 rfl (Nat.le_of_ble_eq_true rfl) dX10_line_121 ⟨by decide, by decide⟩ (fun r952 u H locs hp hw => ?_)
                obtain ⟨L953, f954⟩ := u
                obtain ⟨hsb, hfm, a2_955, k2_956, p2_957, v2_958, b2_959, q2_960, w2_961, ha_0, hp⟩ := hp
                have hsb : L = L953 := hsb
                subst hsb
                have hsb : ∀ b ∈ L, b ∈ L := fun _ h => h
                have hw : z_H D vwCl (z_A L sz) s.heap L f954 H locs := hw
                have hfr : ∀ b ∈ L, b ≠ mm → b ≠ ha → b ≠ lw → b ≠ st → b ≠ fo → b ≠ dr → f954 b = f b := fun b hb h0 h1 h2 h3 h4 h5 => (hfm b hb h0).trans (hfr b hb h0 h1 h2 h3 h4 h5)
                have hf_ta : f954 ta = .inl (cy 0, 1600, .inl gta) := (hfm ta hm_ta (z_tne hf_ta hf_mm (m := 12900) (n := 10) rfl rfl (by decide))).trans hf_ta
                have hf_ha : f954 ha = .inl (cy 1, 30, .inl gha) := (hfm ha hm_ha (z_tne hf_ha hf_mm (m := 340) (n := 10) rfl rfl (by decide))).trans hf_ha
                have hf_lw : f954 lw = .inl (cy 1, 25, .inl glw) := (hfm lw hm_lw (z_tne hf_lw hf_mm (m := 300) (n := 10) rfl rfl (by decide))).trans hf_lw
                have hf_st : f954 st = .inl (cy 1, 20, .inl gst) := (hfm st hm_st (z_tne hf_st hf_mm (m := 260) (n := 10) rfl rfl (by decide))).trans hf_st
                have hf_fo : f954 fo = .inl (cy 1, 180, .inl gfo) := (hfm fo hm_fo (z_tne hf_fo hf_mm (m := 1540) (n := 10) rfl rfl (by decide))).trans hf_fo
                have hf_dr : f954 dr = .inl (cy 1, 520, .inl gdr) := (hfm dr hm_dr (z_tne hf_dr hf_mm (m := 4260) (n := 10) rfl rfl (by decide))).trans hf_dr
                have hf_mm : f954 mm = .inr (10, [.int m0, .ref wd, .ref my, .ref ce, .ref mv, .ref ta, .int m6, .int a2_955, .int k2_956, .int p2_957, .int v2_958, .long w2_961, .int b2_959, .int q2_960, .int m14, .int m15, .ref li, .ref ha, .ref lw, .ref st, .ref fo, .ref dr, .int m22, .ref ik, .int m24, .int m25, .long m26, .int m27, .int m28, .ref ro, .int m30, .ref ct, .ref se, .ref th, .ref cn, .ref be, .int m36, .ref du, .int m38, .ref db, .int m40, .int m41, .int m42, .ref pn, .ref wg, .ref wh, .ref tn, .ref he, .int m48, .ref tr, .ref fd, .ref po, .int m52, .int m53]) := ha_0
                have hR_r952 : 0 ≤ r952.toInt ∧ r952.toInt ≤ 3 := by omega
                have hC_ : (0 ≤ a2_955.toInt ∧ a2_955.toInt ≤ m6.toInt) ∧ m7.toInt ≤ a2_955.toInt ∧ (b2_959.toInt ≠ 0 ∨ m12.toInt = 0) ∧ (b2_959.toInt ≠ 0 ∨ k2_956.toInt ≠ 3 ∨ m7.toInt < a2_955.toInt) := by refine ⟨⟨?_, ?_⟩, ?_, ?_, ?_⟩ <;> omega
                clear hp
                replace hC := hC_
                clear hC_
                refine lv_istore (lv' := [(4, .int r952), (3, .int 1), (2, .int 1), (1, .int 0), (0, .ref mm)]) hx hb dX10_line_124 hl (by decide) rfl (fun ls hl => ?_)
                refine lv_aload_n hx hb dX10_line_126 rfl (lv_at hl 4 rfl) ?_
                refine lv_ldc2 (v := 419) hx hb hown (hT _ kw_1443) dX10_line_127 ?_
                refine lv_iconst (v := 0) hx hb dX10_line_130 (by decide) ?_
                refine lv_aload_n hx hb dX10_line_131 rfl (lv_at hl 4 rfl) ?_
                refine lv_iconst (v := 1) hx hb dX10_line_132 (by decide) ?_
                have hz962 := (show (1 : Int32).toInt = 1 by decide)
                refine z_calliV (cells := 0) (slots := 0) (b := mm) (As := [.int 1]) (rest := [.int 0, .long 419, .ref mm]) (ci := 10) (q0 := (RX10, TX10, 54)) ⟨hx, hb, hml, hown, hT⟩ (c_X10_hasRead l hm_mm hm_ha hf_mm hf_ha hq_ha (by decide)) (cwV 1 hT (z_goodV (fun _ h => h) kw_1434 kw_1436 kw_44 kw_96 kw_1437) rfl rfl rfl (by decide +kernel) ⟨by decide, by decide⟩) z_mv hKK hK hw hA hm_mm hf_mm rfl rfl rfl hl.1 rfl (Nat.le_of_ble_eq_true rfl) dX10_line_133 ⟨by decide, by decide⟩ (fun r963 u H locs hp hw => ?_)
                obtain ⟨rfl, hp⟩ := hp
                have hw : z_H D vwCl (z_A L sz) s.heap L f954 H locs := hw
                have hh964 : 0 ≤ r963.toInt ∧ r963.toInt ≤ 9 := by rw [hp]; exact (hq_ha 25).1.2.1 rfl
                refine lv_iconst (v := 1) hx hb dX10_line_136 (by decide) ?_
                refine lv_isub hx hb dX10_line_137 ?_
                refine lv_topi (fun w965 e_w965 => ?_)
                have i_w965 : w965.toInt = (r963.toInt - 1) := z_subI e_w965 rfl (show (1 : Int32).toInt = 1 by decide) (by omega)
                have hz966 := (show (419 : Int64).toInt = 419 by decide)
                have hz967 := (show (0 : Int32).toInt = 0 by decide)
                refine z_calliV (cells := 0) (slots := 0) (b := mm) (As := [.long 419, .int 0, .int w965]) (rest := []) (ci := 10) (q0 := (RX10, TX10, 54)) ⟨hx, hb, hml, hown, hT⟩ (c_X10_number_ l hm_mm hm_ta hf_mm hf_ta (by first | omega | decide | assumption) (by first | omega | decide | assumption)) (cwV 3 hT (z_goodV (fun _ h => h) kw_1416 kw_1418 kw_41 kw_96 kw_1419) rfl rfl rfl (by decide +kernel) ⟨by decide, by decide⟩) z_mv hKK hK hw hA hm_mm hf_mm rfl rfl rfl hl.1 rfl (Nat.le_of_ble_eq_true rfl) dX10_line_138 ⟨by decide, by decide⟩ (fun r968 u H locs hp hw => ?_)
                obtain ⟨L969, f970⟩ := u
                obtain ⟨hsb, hfm, a2_971, k2_972, p2_973, v2_974, b2_975, q2_976, w2_977, ha_0, hp⟩ := hp
                have hsb : L = L969 := hsb
                subst hsb
                have hsb : ∀ b ∈ L, b ∈ L := fun _ h => h
                have hw : z_H D vwCl (z_A L sz) s.heap L f970 H locs := hw
                have hfr : ∀ b ∈ L, b ≠ mm → b ≠ ha → b ≠ lw → b ≠ st → b ≠ fo → b ≠ dr → f970 b = f b := fun b hb h0 h1 h2 h3 h4 h5 => (hfm b hb h0).trans (hfr b hb h0 h1 h2 h3 h4 h5)
                have hf_ta : f970 ta = .inl (cy 0, 1600, .inl gta) := (hfm ta hm_ta (z_tne hf_ta hf_mm (m := 12900) (n := 10) rfl rfl (by decide))).trans hf_ta
                have hf_ha : f970 ha = .inl (cy 1, 30, .inl gha) := (hfm ha hm_ha (z_tne hf_ha hf_mm (m := 340) (n := 10) rfl rfl (by decide))).trans hf_ha
                have hf_lw : f970 lw = .inl (cy 1, 25, .inl glw) := (hfm lw hm_lw (z_tne hf_lw hf_mm (m := 300) (n := 10) rfl rfl (by decide))).trans hf_lw
                have hf_st : f970 st = .inl (cy 1, 20, .inl gst) := (hfm st hm_st (z_tne hf_st hf_mm (m := 260) (n := 10) rfl rfl (by decide))).trans hf_st
                have hf_fo : f970 fo = .inl (cy 1, 180, .inl gfo) := (hfm fo hm_fo (z_tne hf_fo hf_mm (m := 1540) (n := 10) rfl rfl (by decide))).trans hf_fo
                have hf_dr : f970 dr = .inl (cy 1, 520, .inl gdr) := (hfm dr hm_dr (z_tne hf_dr hf_mm (m := 4260) (n := 10) rfl rfl (by decide))).trans hf_dr
                have hf_mm : f970 mm = .inr (10, [.int m0, .ref wd, .ref my, .ref ce, .ref mv, .ref ta, .int m6, .int a2_971, .int k2_972, .int p2_973, .int v2_974, .long w2_977, .int b2_975, .int q2_976, .int m14, .int m15, .ref li, .ref ha, .ref lw, .ref st, .ref fo, .ref dr, .int m22, .ref ik, .int m24, .int m25, .long m26, .int m27, .int m28, .ref ro, .int m30, .ref ct, .ref se, .ref th, .ref cn, .ref be, .int m36, .ref du, .int m38, .ref db, .int m40, .int m41, .int m42, .ref pn, .ref wg, .ref wh, .ref tn, .ref he, .int m48, .ref tr, .ref fd, .ref po, .int m52, .int m53]) := ha_0
                have hR_r968 : 0 ≤ r968.toInt ∧ r968.toInt ≤ 8 := by omega
                have hC_ : (0 ≤ a2_971.toInt ∧ a2_971.toInt ≤ m6.toInt) ∧ m7.toInt ≤ a2_971.toInt ∧ (b2_975.toInt ≠ 0 ∨ m12.toInt = 0) ∧ (b2_975.toInt ≠ 0 ∨ k2_972.toInt ≠ 3 ∨ m7.toInt < a2_971.toInt) := by refine ⟨⟨?_, ?_⟩, ?_, ?_, ?_⟩ <;> omega
                clear hp
                replace hC := hC_
                clear hC_
                refine lv_istore (lv' := [(5, .int r968), (4, .int r952), (3, .int 1), (2, .int 1), (1, .int 0), (0, .ref mm)]) hx hb dX10_line_141 hl (by decide) rfl (fun ls hl => ?_)
                refine lv_aload_n hx hb dX10_line_143 rfl (lv_at hl 5 rfl) ?_
                refine lv_ldc2 (v := 191706742) hx hb hown (hT _ kw_1449) dX10_line_144 ?_
                refine lv_iconst (v := 2) hx hb dX10_line_147 (by decide) ?_
                refine lv_bipush (v := 9) hx hb dX10_line_148 (by decide) ?_
                have hz978 := (show (191706742 : Int64).toInt = 191706742 by decide)
                have hz979 := (show (2 : Int32).toInt = 2 by decide)
                have hz980 := (show (9 : Int32).toInt = 9 by decide)
                refine z_calliV (cells := 0) (slots := 0) (b := mm) (As := [.long 191706742, .int 2, .int 9]) (rest := []) (ci := 10) (q0 := (RX10, TX10, 54)) ⟨hx, hb, hml, hown, hT⟩ (c_X10_number_ l hm_mm hm_ta hf_mm hf_ta (by first | omega | decide | assumption) (by first | omega | decide | assumption)) (cwV 3 hT (z_goodV (fun _ h => h) kw_1416 kw_1418 kw_41 kw_96 kw_1419) rfl rfl rfl (by decide +kernel) ⟨by decide, by decide⟩) z_mv hKK hK hw hA hm_mm hf_mm rfl rfl rfl hl.1 rfl (Nat.le_of_ble_eq_true rfl) dX10_line_150 ⟨by decide, by decide⟩ (fun r981 u H locs hp hw => ?_)
                obtain ⟨L982, f983⟩ := u
                obtain ⟨hsb, hfm, a2_984, k2_985, p2_986, v2_987, b2_988, q2_989, w2_990, ha_0, hp⟩ := hp
                have hsb : L = L982 := hsb
                subst hsb
                have hsb : ∀ b ∈ L, b ∈ L := fun _ h => h
                have hw : z_H D vwCl (z_A L sz) s.heap L f983 H locs := hw
                have hfr : ∀ b ∈ L, b ≠ mm → b ≠ ha → b ≠ lw → b ≠ st → b ≠ fo → b ≠ dr → f983 b = f b := fun b hb h0 h1 h2 h3 h4 h5 => (hfm b hb h0).trans (hfr b hb h0 h1 h2 h3 h4 h5)
                have hf_ta : f983 ta = .inl (cy 0, 1600, .inl gta) := (hfm ta hm_ta (z_tne hf_ta hf_mm (m := 12900) (n := 10) rfl rfl (by decide))).trans hf_ta
                have hf_ha : f983 ha = .inl (cy 1, 30, .inl gha) := (hfm ha hm_ha (z_tne hf_ha hf_mm (m := 340) (n := 10) rfl rfl (by decide))).trans hf_ha
                have hf_lw : f983 lw = .inl (cy 1, 25, .inl glw) := (hfm lw hm_lw (z_tne hf_lw hf_mm (m := 300) (n := 10) rfl rfl (by decide))).trans hf_lw
                have hf_st : f983 st = .inl (cy 1, 20, .inl gst) := (hfm st hm_st (z_tne hf_st hf_mm (m := 260) (n := 10) rfl rfl (by decide))).trans hf_st
                have hf_fo : f983 fo = .inl (cy 1, 180, .inl gfo) := (hfm fo hm_fo (z_tne hf_fo hf_mm (m := 1540) (n := 10) rfl rfl (by decide))).trans hf_fo
                have hf_dr : f983 dr = .inl (cy 1, 520, .inl gdr) := (hfm dr hm_dr (z_tne hf_dr hf_mm (m := 4260) (n := 10) rfl rfl (by decide))).trans hf_dr
                have hf_mm : f983 mm = .inr (10, [.int m0, .ref wd, .ref my, .ref ce, .ref mv, .ref ta, .int m6, .int a2_984, .int k2_985, .int p2_986, .int v2_987, .long w2_990, .int b2_988, .int q2_989, .int m14, .int m15, .ref li, .ref ha, .ref lw, .ref st, .ref fo, .ref dr, .int m22, .ref ik, .int m24, .int m25, .long m26, .int m27, .int m28, .ref ro, .int m30, .ref ct, .ref se, .ref th, .ref cn, .ref be, .int m36, .ref du, .int m38, .ref db, .int m40, .int m41, .int m42, .ref pn, .ref wg, .ref wh, .ref tn, .ref he, .int m48, .ref tr, .ref fd, .ref po, .int m52, .int m53]) := ha_0
                have hR_r981 : 2 ≤ r981.toInt ∧ r981.toInt ≤ 9 := by omega
                have hC_ : (0 ≤ a2_984.toInt ∧ a2_984.toInt ≤ m6.toInt) ∧ m7.toInt ≤ a2_984.toInt ∧ (b2_988.toInt ≠ 0 ∨ m12.toInt = 0) ∧ (b2_988.toInt ≠ 0 ∨ k2_985.toInt ≠ 3 ∨ m7.toInt < a2_984.toInt) := by refine ⟨⟨?_, ?_⟩, ?_, ?_, ?_⟩ <;> omega
                clear hp
                replace hC := hC_
                clear hC_
                refine lv_istore (lv' := [(6, .int r981), (5, .int r968), (4, .int r952), (3, .int 1), (2, .int 1), (1, .int 0), (0, .ref mm)]) hx hb dX10_line_153 hl (by decide) rfl (fun ls hl => ?_)
                refine lv_aload_n hx hb dX10_line_155 rfl (lv_at hl 6 rfl) ?_
                refine z_calliV (cells := 0) (slots := 0) (b := mm) (As := []) (rest := []) (ci := 10) (q0 := (RX10, TX10, 54)) ⟨hx, hb, hml, hown, hT⟩ (c_X10_isGood l hm_mm hf_mm) (cwV 0 hT (z_goodV (fun _ h => h) kw_1394 kw_1396 kw_36 kw_96 kw_1397) rfl rfl rfl (by decide +kernel) ⟨by decide, by decide⟩) z_mv hKK hK hw hA hm_mm hf_mm rfl rfl rfl hl.1 rfl (Nat.le_of_ble_eq_true rfl) dX10_line_156 ⟨by decide, by decide⟩ (fun r991 u H locs hp hw => ?_)
                obtain ⟨rfl, hp⟩ := hp
                have hw : z_H D vwCl (z_A L sz) s.heap L f983 H locs := hw
                rcases hp with ⟨rfl, h992⟩ | ⟨rfl, h992⟩
                · skip
                  refine z_if_eq (tgt := 181) hx hb (show (1 : Int32).toInt = 1 by decide) dX10_line_159 (by decide) (fun h => absurd h (by decide)) (fun _ => ?_)
                  refine lv_aload_n hx hb dX10_line_162 rfl (lv_at hl 6 rfl) ?_
                  refine z_get (C := RX10) (T := TX10) (N := 54) (ci := 10) (v := .ref fo) hx hb hT zin_X10 hown hK hw hm_mm hf_mm rfl 20 (by decide) (hT _ kw_1188) rfl dX10_line_163 ?_
                  refine lv_sipush (v := 144) hx hb dX10_line_166 (by decide) ?_
                  refine lv_bipush (v := 9) hx hb dX10_line_169 (by decide) ?_
                  refine lv_iload hx hb dX10_line_171 (lv_at hl 2 rfl) ?_
                  refine lv_imul hx hb dX10_line_173 ?_
                  refine lv_topi (fun w993 e_w993 => ?_)
                  have i_w993 : w993.toInt = (9 * r952.toInt) := z_mul e_w993 (show (9 : Int32).toInt = 9 by decide) rfl (by omega)
                  refine lv_iadd hx hb dX10_line_174 ?_
                  refine lv_topi (fun w994 e_w994 => ?_)
                  have i_w994 : w994.toInt = (144 + (9 * r952.toInt)) := z_add e_w994 (show (144 : Int32).toInt = 144 by decide) i_w993 (by omega)
                  refine lv_iload hx hb dX10_line_175 (lv_at hl 1 rfl) ?_
                  refine lv_iadd hx hb dX10_line_177 ?_
                  refine lv_topi (fun w995 e_w995 => ?_)
                  have i_w995 : w995.toInt = ((144 + (9 * r952.toInt)) + r968.toInt) := z_add e_w995 i_w994 rfl (by omega)
                  refine lv_iload hx hb dX10_line_178 (lv_at hl 0 rfl) ?_
                  refine z_iast hx hb hK hw 1 hm_fo hf_fo rfl (z_ix i_w995 (by omega)) dX10_line_180 (fun H locs hw => ?_)
                  obtain ⟨f997, e_f997⟩ : ∃ z, z = va_up f983 fo (.inl (cy 1, 180, .inl (upd gfo w995.toNatClampNeg r981))) := ⟨_, rfl⟩
                  rw [← e_f997] at hw
                  have hf_mm : f997 mm = .inr (10, [.int m0, .ref wd, .ref my, .ref ce, .ref mv, .ref ta, .int m6, .int a2_984, .int k2_985, .int p2_986, .int v2_987, .long w2_990, .int b2_988, .int q2_989, .int m14, .int m15, .ref li, .ref ha, .ref lw, .ref st, .ref fo, .ref dr, .int m22, .ref ik, .int m24, .int m25, .long m26, .int m27, .int m28, .ref ro, .int m30, .ref ct, .ref se, .ref th, .ref cn, .ref be, .int m36, .ref du, .int m38, .ref db, .int m40, .int m41, .int m42, .ref pn, .ref wg, .ref wh, .ref tn, .ref he, .int m48, .ref tr, .ref fd, .ref po, .int m52, .int m53]) := (congrFun e_f997 mm).trans (z_up_ne (z_tne hf_mm hf_fo (m := 10) (n := 1540) rfl rfl (by decide)) hf_mm)
                  have hf_ta : f997 ta = .inl (cy 0, 1600, .inl gta) := (congrFun e_f997 ta).trans (z_up_ne (z_tne hf_ta hf_fo (m := 12900) (n := 1540) rfl rfl (by decide)) hf_ta)
                  have hf_ha : f997 ha = .inl (cy 1, 30, .inl gha) := (congrFun e_f997 ha).trans (z_up_ne (z_tne hf_ha hf_fo (m := 340) (n := 1540) rfl rfl (by decide)) hf_ha)
                  have hf_lw : f997 lw = .inl (cy 1, 25, .inl glw) := (congrFun e_f997 lw).trans (z_up_ne (z_tne hf_lw hf_fo (m := 300) (n := 1540) rfl rfl (by decide)) hf_lw)
                  have hf_st : f997 st = .inl (cy 1, 20, .inl gst) := (congrFun e_f997 st).trans (z_up_ne (z_tne hf_st hf_fo (m := 260) (n := 1540) rfl rfl (by decide)) hf_st)
                  have hf_dr : f997 dr = .inl (cy 1, 520, .inl gdr) := (congrFun e_f997 dr).trans (z_up_ne (z_tne hf_dr hf_fo (m := 4260) (n := 1540) rfl rfl (by decide)) hf_dr)
                  have hf_fo : f997 fo = .inl (cy 1, 180, .inl (upd gfo w995.toNatClampNeg r981)) := (congrFun e_f997 fo).trans z_up_self
                  have hfr : ∀ b ∈ L, b ≠ mm → b ≠ ha → b ≠ lw → b ≠ st → b ≠ fo → b ≠ dr → f997 b = f b := fun b hb h0 h1 h2 h3 h4 h5 => (congrFun e_f997 b).trans (z_up_ne h4 (hfr b hb h0 h1 h2 h3 h4 h5))
                  obtain ⟨g996, e_g996⟩ : ∃ z, z = (upd gfo w995.toNatClampNeg r981) := ⟨_, rfl⟩
                  rw [← e_g996] at hf_fo
                  refine lv_aload_n hx hb dX10_line_181 rfl (lv_at hl 6 rfl) ?_
                  refine z_get (C := RX10) (T := TX10) (N := 54) (ci := 10) (v := .ref ha) hx hb hT zin_X10 hown hK hw hm_mm hf_mm rfl 17 (by decide) (hT _ kw_1185) rfl dX10_line_182 ?_
                  refine lv_bipush (v := 28) hx hb dX10_line_185 (by decide) ?_
                  refine lv_dup2_11 hx hb dX10_line_187 rfl rfl ?_
                  refine z_iald hx hb hK hw 1 hm_ha hf_ha rfl (z_ix (show (28 : Int32).toInt = 28 by decide) (by decide)) dX10_line_188 ?_
                  refine lv_topi (fun w998 e_w998 => ?_)
                  refine lv_iconst (v := 1) hx hb dX10_line_189 (by decide) ?_
                  refine lv_iadd hx hb dX10_line_190 ?_
                  refine lv_topi (fun w999 e_w999 => ?_)
                  refine z_iast hx hb hK hw 1 hm_ha hf_ha rfl (z_ix (show (28 : Int32).toInt = 28 by decide) (by decide)) dX10_line_191 (fun H locs hw => ?_)
                  obtain ⟨f1001, e_f1001⟩ : ∃ z, z = va_up f997 ha (.inl (cy 1, 30, .inl (upd gha (28 : Int32).toNatClampNeg w999))) := ⟨_, rfl⟩
                  rw [← e_f1001] at hw
                  have hf_mm : f1001 mm = .inr (10, [.int m0, .ref wd, .ref my, .ref ce, .ref mv, .ref ta, .int m6, .int a2_984, .int k2_985, .int p2_986, .int v2_987, .long w2_990, .int b2_988, .int q2_989, .int m14, .int m15, .ref li, .ref ha, .ref lw, .ref st, .ref fo, .ref dr, .int m22, .ref ik, .int m24, .int m25, .long m26, .int m27, .int m28, .ref ro, .int m30, .ref ct, .ref se, .ref th, .ref cn, .ref be, .int m36, .ref du, .int m38, .ref db, .int m40, .int m41, .int m42, .ref pn, .ref wg, .ref wh, .ref tn, .ref he, .int m48, .ref tr, .ref fd, .ref po, .int m52, .int m53]) := (congrFun e_f1001 mm).trans (z_up_ne (z_tne hf_mm hf_ha (m := 10) (n := 340) rfl rfl (by decide)) hf_mm)
                  have hf_ta : f1001 ta = .inl (cy 0, 1600, .inl gta) := (congrFun e_f1001 ta).trans (z_up_ne (z_tne hf_ta hf_ha (m := 12900) (n := 340) rfl rfl (by decide)) hf_ta)
                  have hf_lw : f1001 lw = .inl (cy 1, 25, .inl glw) := (congrFun e_f1001 lw).trans (z_up_ne (z_tne hf_lw hf_ha (m := 300) (n := 340) rfl rfl (by decide)) hf_lw)
                  have hf_st : f1001 st = .inl (cy 1, 20, .inl gst) := (congrFun e_f1001 st).trans (z_up_ne (z_tne hf_st hf_ha (m := 260) (n := 340) rfl rfl (by decide)) hf_st)
                  have hf_fo : f1001 fo = .inl (cy 1, 180, .inl g996) := (congrFun e_f1001 fo).trans (z_up_ne (z_tne hf_fo hf_ha (m := 1540) (n := 340) rfl rfl (by decide)) hf_fo)
                  have hf_dr : f1001 dr = .inl (cy 1, 520, .inl gdr) := (congrFun e_f1001 dr).trans (z_up_ne (z_tne hf_dr hf_ha (m := 4260) (n := 340) rfl rfl (by decide)) hf_dr)
                  have hf_ha : f1001 ha = .inl (cy 1, 30, .inl (upd gha (28 : Int32).toNatClampNeg w999)) := (congrFun e_f1001 ha).trans z_up_self
                  have hfr : ∀ b ∈ L, b ≠ mm → b ≠ ha → b ≠ lw → b ≠ st → b ≠ fo → b ≠ dr → f1001 b = f b := fun b hb h0 h1 h2 h3 h4 h5 => (congrFun e_f1001 b).trans (z_up_ne h1 (hfr b hb h0 h1 h2 h3 h4 h5))
                  obtain ⟨g1000, e_g1000⟩ : ∃ z, z = (upd gha (28 : Int32).toNatClampNeg w999) := ⟨_, rfl⟩
                  rw [← e_g1000] at hf_ha
                  have hq_ha : ∀ j : Nat, (q_hasR hz) j (g1000 j) := z_updQ hq_ha e_g1000 (show q_hasR _ _ _ from ⟨(show q_has _ _ from ⟨(fun h => absurd h (by decide)), (fun h => absurd h (by decide)), (fun h => absurd h (by decide)), (fun h => absurd h (by decide))⟩), fun h => absurd h (by decide)⟩)
                  refine lv_goto (tgt := 335) hx hb dX10_line_192 (by decide) ?_
                  exact z_vret hx hb hr hlk (by decide) (by decide) hw (⟨hsub, hfr, a2_984, k2_985, p2_986, v2_987, b2_988, q2_989, m22, w2_990, g1000, glw, gst, g996, gdr, hf_mm, hf_ha, hf_lw, hf_st, hf_fo, hf_dr, hq_ha, hq_lw, hq_st, hq_dr, by omega, by omega, by omega, by omega, rfl⟩) dX10_line_335
                · skip
                  refine z_if_eq (tgt := 181) hx hb (show (0 : Int32).toInt = 0 by decide) dX10_line_159 (by decide) (fun _ => ?_) (fun h => absurd h (by decide))
                  refine lv_aload_n hx hb dX10_line_181 rfl (lv_at hl 6 rfl) ?_
                  refine z_get (C := RX10) (T := TX10) (N := 54) (ci := 10) (v := .ref ha) hx hb hT zin_X10 hown hK hw hm_mm hf_mm rfl 17 (by decide) (hT _ kw_1185) rfl dX10_line_182 ?_
                  refine lv_bipush (v := 28) hx hb dX10_line_185 (by decide) ?_
                  refine lv_dup2_11 hx hb dX10_line_187 rfl rfl ?_
                  refine z_iald hx hb hK hw 1 hm_ha hf_ha rfl (z_ix (show (28 : Int32).toInt = 28 by decide) (by decide)) dX10_line_188 ?_
                  refine lv_topi (fun w1002 e_w1002 => ?_)
                  refine lv_iconst (v := 1) hx hb dX10_line_189 (by decide) ?_
                  refine lv_iadd hx hb dX10_line_190 ?_
                  refine lv_topi (fun w1003 e_w1003 => ?_)
                  refine z_iast hx hb hK hw 1 hm_ha hf_ha rfl (z_ix (show (28 : Int32).toInt = 28 by decide) (by decide)) dX10_line_191 (fun H locs hw => ?_)
                  obtain ⟨f1005, e_f1005⟩ : ∃ z, z = va_up f983 ha (.inl (cy 1, 30, .inl (upd gha (28 : Int32).toNatClampNeg w1003))) := ⟨_, rfl⟩
                  rw [← e_f1005] at hw
                  have hf_mm : f1005 mm = .inr (10, [.int m0, .ref wd, .ref my, .ref ce, .ref mv, .ref ta, .int m6, .int a2_984, .int k2_985, .int p2_986, .int v2_987, .long w2_990, .int b2_988, .int q2_989, .int m14, .int m15, .ref li, .ref ha, .ref lw, .ref st, .ref fo, .ref dr, .int m22, .ref ik, .int m24, .int m25, .long m26, .int m27, .int m28, .ref ro, .int m30, .ref ct, .ref se, .ref th, .ref cn, .ref be, .int m36, .ref du, .int m38, .ref db, .int m40, .int m41, .int m42, .ref pn, .ref wg, .ref wh, .ref tn, .ref he, .int m48, .ref tr, .ref fd, .ref po, .int m52, .int m53]) := (congrFun e_f1005 mm).trans (z_up_ne (z_tne hf_mm hf_ha (m := 10) (n := 340) rfl rfl (by decide)) hf_mm)
                  have hf_ta : f1005 ta = .inl (cy 0, 1600, .inl gta) := (congrFun e_f1005 ta).trans (z_up_ne (z_tne hf_ta hf_ha (m := 12900) (n := 340) rfl rfl (by decide)) hf_ta)
                  have hf_lw : f1005 lw = .inl (cy 1, 25, .inl glw) := (congrFun e_f1005 lw).trans (z_up_ne (z_tne hf_lw hf_ha (m := 300) (n := 340) rfl rfl (by decide)) hf_lw)
                  have hf_st : f1005 st = .inl (cy 1, 20, .inl gst) := (congrFun e_f1005 st).trans (z_up_ne (z_tne hf_st hf_ha (m := 260) (n := 340) rfl rfl (by decide)) hf_st)
                  have hf_fo : f1005 fo = .inl (cy 1, 180, .inl gfo) := (congrFun e_f1005 fo).trans (z_up_ne (z_tne hf_fo hf_ha (m := 1540) (n := 340) rfl rfl (by decide)) hf_fo)
                  have hf_dr : f1005 dr = .inl (cy 1, 520, .inl gdr) := (congrFun e_f1005 dr).trans (z_up_ne (z_tne hf_dr hf_ha (m := 4260) (n := 340) rfl rfl (by decide)) hf_dr)
                  have hf_ha : f1005 ha = .inl (cy 1, 30, .inl (upd gha (28 : Int32).toNatClampNeg w1003)) := (congrFun e_f1005 ha).trans z_up_self
                  have hfr : ∀ b ∈ L, b ≠ mm → b ≠ ha → b ≠ lw → b ≠ st → b ≠ fo → b ≠ dr → f1005 b = f b := fun b hb h0 h1 h2 h3 h4 h5 => (congrFun e_f1005 b).trans (z_up_ne h1 (hfr b hb h0 h1 h2 h3 h4 h5))
                  obtain ⟨g1004, e_g1004⟩ : ∃ z, z = (upd gha (28 : Int32).toNatClampNeg w1003) := ⟨_, rfl⟩
                  rw [← e_g1004] at hf_ha
                  have hq_ha : ∀ j : Nat, (q_hasR hz) j (g1004 j) := z_updQ hq_ha e_g1004 (show q_hasR _ _ _ from ⟨(show q_has _ _ from ⟨(fun h => absurd h (by decide)), (fun h => absurd h (by decide)), (fun h => absurd h (by decide)), (fun h => absurd h (by decide))⟩), fun h => absurd h (by decide)⟩)
                  refine lv_goto (tgt := 335) hx hb dX10_line_192 (by decide) ?_
                  exact z_vret hx hb hr hlk (by decide) (by decide) hw (⟨hsub, hfr, a2_984, k2_985, p2_986, v2_987, b2_988, q2_989, m22, w2_990, g1004, glw, gst, gfo, gdr, hf_mm, hf_ha, hf_lw, hf_st, hf_fo, hf_dr, hq_ha, hq_lw, hq_st, hq_dr, by omega, by omega, by omega, by omega, rfl⟩) dX10_line_335
              · skip
                exact z_vret hx hb hr hlk (by decide) (by decide) hw (⟨hsub, hfr, m7, m8, m9, m10, b2_936, p2_937, m22, m11, gha, glw, gst, gfo, gdr, hf_mm, hf_ha, hf_lw, hf_st, hf_fo, hf_dr, hq_ha, hq_lw, hq_st, hq_dr, by omega, by omega, by omega, by omega, rfl⟩) dX10_line_88
      · skip
        refine lv_istore_n (lv' := [(3, .int 0), (2, .int 1), (1, .int 0), (0, .ref mm)]) hx hb dX10_line_23 rfl hl (by decide) rfl (fun ls hl => ?_)
        refine lv_iload_n hx hb dX10_line_24 rfl (lv_at hl 0 rfl) ?_
        refine z_if_eq (tgt := 48) hx hb (show (0 : Int32).toInt = 0 by decide) dX10_line_25 (by decide) (fun _ => ?_) (fun h => absurd h (by decide))
        refine lv_iload_n hx hb dX10_line_48 rfl (lv_at hl 2 rfl) ?_
        refine z_if_eq (tgt := 62) hx hb (show (0 : Int32).toInt = 0 by decide) dX10_line_49 (by decide) (fun _ => ?_) (fun h => absurd h (by decide))
        refine lv_iload_n hx hb dX10_line_62 rfl (lv_at hl 1 rfl) ?_
        refine z_if_eq (tgt := 81) hx hb (show (1 : Int32).toInt = 1 by decide) dX10_line_63 (by decide) (fun h => absurd h (by decide)) (fun _ => ?_)
        refine lv_aload_n hx hb dX10_line_66 rfl (lv_at hl 3 rfl) ?_
        refine lv_iconst (v := 4) hx hb dX10_line_67 (by decide) ?_
        have hz1006 := (show (4 : Int32).toInt = 4 by decide)
        refine z_calliV (cells := 0) (slots := 0) (b := mm) (As := [.int 4]) (rest := []) (ci := 10) (q0 := (RX10, TX10, 54)) ⟨hx, hb, hml, hown, hT⟩ (c_X10_hasRead l hm_mm hm_ha hf_mm hf_ha hq_ha (by decide)) (cwV 1 hT (z_goodV (fun _ h => h) kw_1434 kw_1436 kw_44 kw_96 kw_1437) rfl rfl rfl (by decide +kernel) ⟨by decide, by decide⟩) z_mv hKK hK hw hA hm_mm hf_mm rfl rfl rfl hl.1 rfl (Nat.le_of_ble_eq_true rfl) dX10_line_68 ⟨by decide, by decide⟩ (fun r1007 u H locs hp hw => ?_)
        obtain ⟨rfl, hp⟩ := hp
        have hw : z_H D vwCl (z_A L sz) s.heap L f H locs := hw
        refine lv_bipush (v := 8) hx hb dX10_line_71 (by decide) ?_
        refine z_icmp_ne (tgt := 81) hx hb rfl (show (8 : Int32).toInt = 8 by decide) dX10_line_73 (by decide) (fun c1008 => ?_) (fun c1008 => ?_)
        · skip
          refine lv_aload_n hx hb dX10_line_81 rfl (lv_at hl 3 rfl) ?_
          refine z_get (C := RX10) (T := TX10) (N := 54) (ci := 10) (v := .int m12) hx hb hT zin_X10 hown hK hw hm_mm hf_mm rfl 12 (by decide) (hT _ kw_1180) rfl dX10_line_82 ?_
          refine z_if_eq (tgt := 89) hx hb rfl dX10_line_85 (by decide) (fun c1009 => ?_) (fun c1009 => ?_)
          · skip
            refine lv_iload_n hx hb dX10_line_89 rfl (lv_at hl 2 rfl) ?_
            refine z_if_eq (tgt := 104) hx hb (show (0 : Int32).toInt = 0 by decide) dX10_line_90 (by decide) (fun _ => ?_) (fun h => absurd h (by decide))
            refine lv_iload_n hx hb dX10_line_104 rfl (lv_at hl 1 rfl) ?_
            refine z_if_eq (tgt := 195) hx hb (show (1 : Int32).toInt = 1 by decide) dX10_line_105 (by decide) (fun h => absurd h (by decide)) (fun _ => ?_)
            refine lv_aload_n hx hb dX10_line_108 rfl (lv_at hl 3 rfl) ?_
            refine z_callvV (cells := 0) (slots := 0) (b := mm) (As := []) (rest := []) (ci := 10) (q0 := (RX10, TX10, 54)) ⟨hx, hb, hml, hown, hT⟩ (c_X10_next l hm_mm hm_ta hf_mm hf_ta (by first | omega | decide | assumption) (by first | omega | decide | assumption)) (cwV 0 hT (z_goodV (fun _ h => h) kw_1381 kw_1383 kw_34 kw_96 kw_1384) rfl rfl rfl (by decide +kernel) ⟨by decide, by decide⟩) z_mv hKK hK hw hA hm_mm hf_mm rfl rfl rfl hl.1 rfl (Nat.le_of_ble_eq_true rfl) dX10_line_109 ⟨by decide, by decide⟩ (fun u H locs hp hw => ?_)
            obtain ⟨L1010, f1011⟩ := u
            obtain ⟨hsb, hfm, a2_1012, k2_1013, p2_1014, v2_1015, w2_1016, ha_0, hp⟩ := hp
            have hsb : L = L1010 := hsb
            subst hsb
            have hsb : ∀ b ∈ L, b ∈ L := fun _ h => h
            have hw : z_H D vwCl (z_A L sz) s.heap L f1011 H locs := hw
            have hfr : ∀ b ∈ L, b ≠ mm → b ≠ ha → b ≠ lw → b ≠ st → b ≠ fo → b ≠ dr → f1011 b = f b := fun b hb h0 h1 h2 h3 h4 h5 => (hfm b hb h0).trans (hfr b hb h0 h1 h2 h3 h4 h5)
            have hf_ta : f1011 ta = .inl (cy 0, 1600, .inl gta) := (hfm ta hm_ta (z_tne hf_ta hf_mm (m := 12900) (n := 10) rfl rfl (by decide))).trans hf_ta
            have hf_ha : f1011 ha = .inl (cy 1, 30, .inl gha) := (hfm ha hm_ha (z_tne hf_ha hf_mm (m := 340) (n := 10) rfl rfl (by decide))).trans hf_ha
            have hf_lw : f1011 lw = .inl (cy 1, 25, .inl glw) := (hfm lw hm_lw (z_tne hf_lw hf_mm (m := 300) (n := 10) rfl rfl (by decide))).trans hf_lw
            have hf_st : f1011 st = .inl (cy 1, 20, .inl gst) := (hfm st hm_st (z_tne hf_st hf_mm (m := 260) (n := 10) rfl rfl (by decide))).trans hf_st
            have hf_fo : f1011 fo = .inl (cy 1, 180, .inl gfo) := (hfm fo hm_fo (z_tne hf_fo hf_mm (m := 1540) (n := 10) rfl rfl (by decide))).trans hf_fo
            have hf_dr : f1011 dr = .inl (cy 1, 520, .inl gdr) := (hfm dr hm_dr (z_tne hf_dr hf_mm (m := 4260) (n := 10) rfl rfl (by decide))).trans hf_dr
            have hf_mm : f1011 mm = .inr (10, [.int m0, .ref wd, .ref my, .ref ce, .ref mv, .ref ta, .int m6, .int a2_1012, .int k2_1013, .int p2_1014, .int v2_1015, .long w2_1016, .int m12, .int m13, .int m14, .int m15, .ref li, .ref ha, .ref lw, .ref st, .ref fo, .ref dr, .int m22, .ref ik, .int m24, .int m25, .long m26, .int m27, .int m28, .ref ro, .int m30, .ref ct, .ref se, .ref th, .ref cn, .ref be, .int m36, .ref du, .int m38, .ref db, .int m40, .int m41, .int m42, .ref pn, .ref wg, .ref wh, .ref tn, .ref he, .int m48, .ref tr, .ref fd, .ref po, .int m52, .int m53]) := ha_0
            have hC_ : (0 ≤ a2_1012.toInt ∧ a2_1012.toInt ≤ m6.toInt) ∧ m7.toInt ≤ a2_1012.toInt ∧ (m12.toInt ≠ 0 ∨ m12.toInt = 0) ∧ (m12.toInt ≠ 0 ∨ k2_1013.toInt ≠ 3 ∨ m7.toInt < a2_1012.toInt) := by refine ⟨⟨?_, ?_⟩, ?_, ?_, ?_⟩ <;> omega
            clear hp
            replace hC := hC_
            clear hC_
            refine lv_aload_n hx hb dX10_line_112 rfl (lv_at hl 3 rfl) ?_
            refine lv_iconst (v := 0) hx hb dX10_line_113 (by decide) ?_
            refine lv_aload_n hx hb dX10_line_114 rfl (lv_at hl 3 rfl) ?_
            refine lv_iconst (v := 0) hx hb dX10_line_115 (by decide) ?_
            have hz1017 := (show (0 : Int32).toInt = 0 by decide)
            refine z_calliV (cells := 0) (slots := 0) (b := mm) (As := [.int 0]) (rest := [.int 0, .ref mm]) (ci := 10) (q0 := (RX10, TX10, 54)) ⟨hx, hb, hml, hown, hT⟩ (c_X10_hasRead l hm_mm hm_ha hf_mm hf_ha hq_ha (by decide)) (cwV 1 hT (z_goodV (fun _ h => h) kw_1434 kw_1436 kw_44 kw_96 kw_1437) rfl rfl rfl (by decide +kernel) ⟨by decide, by decide⟩) z_mv hKK hK hw hA hm_mm hf_mm rfl rfl rfl hl.1 rfl (Nat.le_of_ble_eq_true rfl) dX10_line_116 ⟨by decide, by decide⟩ (fun r1018 u H locs hp hw => ?_)
            obtain ⟨rfl, hp⟩ := hp
            have hw : z_H D vwCl (z_A L sz) s.heap L f1011 H locs := hw
            have hh1019 : 0 ≤ r1018.toInt ∧ r1018.toInt ≤ 4 := by rw [hp]; exact (hq_ha 24).1.1 rfl
            refine lv_iconst (v := 1) hx hb dX10_line_119 (by decide) ?_
            refine lv_isub hx hb dX10_line_120 ?_
            refine lv_topi (fun w1020 e_w1020 => ?_)
            have i_w1020 : w1020.toInt = (r1018.toInt - 1) := z_subI e_w1020 rfl (show (1 : Int32).toInt = 1 by decide) (by omega)
            have hz1021 := (show (0 : Int32).toInt = 0 by decide)
            refine z_calliV (cells := 0) (slots := 0) (b := mm) (As := [.int 0, .int w1020]) (rest := []) (ci := 10) (q0 := (RX10, TX10, 54)) ⟨hx, hb, hml, hown, hT⟩ (c_X10_number l hm_mm hm_ta hf_mm hf_ta (by first | omega | decide | assumption) (by first | omega | decide | assumption)) (cwV 2 hT (z_goodV (fun _ h => h) kw_1420 kw_1422 kw_42 kw_96 kw_1423) rfl rfl rfl (by decide +kernel) ⟨by decide, by decide⟩) z_mv hKK hK hw hA hm_mm hf_mm rfl rfl rfl hl.1 rfl (Nat.le_of_ble_eq_true rfl) dX10_line_121 ⟨by decide, by decide⟩ (fun r1022 u H locs hp hw => ?_)
            obtain ⟨L1023, f1024⟩ := u
            obtain ⟨hsb, hfm, a2_1025, k2_1026, p2_1027, v2_1028, b2_1029, q2_1030, w2_1031, ha_0, hp⟩ := hp
            have hsb : L = L1023 := hsb
            subst hsb
            have hsb : ∀ b ∈ L, b ∈ L := fun _ h => h
            have hw : z_H D vwCl (z_A L sz) s.heap L f1024 H locs := hw
            have hfr : ∀ b ∈ L, b ≠ mm → b ≠ ha → b ≠ lw → b ≠ st → b ≠ fo → b ≠ dr → f1024 b = f b := fun b hb h0 h1 h2 h3 h4 h5 => (hfm b hb h0).trans (hfr b hb h0 h1 h2 h3 h4 h5)
            have hf_ta : f1024 ta = .inl (cy 0, 1600, .inl gta) := (hfm ta hm_ta (z_tne hf_ta hf_mm (m := 12900) (n := 10) rfl rfl (by decide))).trans hf_ta
            have hf_ha : f1024 ha = .inl (cy 1, 30, .inl gha) := (hfm ha hm_ha (z_tne hf_ha hf_mm (m := 340) (n := 10) rfl rfl (by decide))).trans hf_ha
            have hf_lw : f1024 lw = .inl (cy 1, 25, .inl glw) := (hfm lw hm_lw (z_tne hf_lw hf_mm (m := 300) (n := 10) rfl rfl (by decide))).trans hf_lw
            have hf_st : f1024 st = .inl (cy 1, 20, .inl gst) := (hfm st hm_st (z_tne hf_st hf_mm (m := 260) (n := 10) rfl rfl (by decide))).trans hf_st
            have hf_fo : f1024 fo = .inl (cy 1, 180, .inl gfo) := (hfm fo hm_fo (z_tne hf_fo hf_mm (m := 1540) (n := 10) rfl rfl (by decide))).trans hf_fo
            have hf_dr : f1024 dr = .inl (cy 1, 520, .inl gdr) := (hfm dr hm_dr (z_tne hf_dr hf_mm (m := 4260) (n := 10) rfl rfl (by decide))).trans hf_dr
            have hf_mm : f1024 mm = .inr (10, [.int m0, .ref wd, .ref my, .ref ce, .ref mv, .ref ta, .int m6, .int a2_1025, .int k2_1026, .int p2_1027, .int v2_1028, .long w2_1031, .int b2_1029, .int q2_1030, .int m14, .int m15, .ref li, .ref ha, .ref lw, .ref st, .ref fo, .ref dr, .int m22, .ref ik, .int m24, .int m25, .long m26, .int m27, .int m28, .ref ro, .int m30, .ref ct, .ref se, .ref th, .ref cn, .ref be, .int m36, .ref du, .int m38, .ref db, .int m40, .int m41, .int m42, .ref pn, .ref wg, .ref wh, .ref tn, .ref he, .int m48, .ref tr, .ref fd, .ref po, .int m52, .int m53]) := ha_0
            have hR_r1022 : 0 ≤ r1022.toInt ∧ r1022.toInt ≤ 3 := by omega
            have hC_ : (0 ≤ a2_1025.toInt ∧ a2_1025.toInt ≤ m6.toInt) ∧ m7.toInt ≤ a2_1025.toInt ∧ (b2_1029.toInt ≠ 0 ∨ m12.toInt = 0) ∧ (b2_1029.toInt ≠ 0 ∨ k2_1026.toInt ≠ 3 ∨ m7.toInt < a2_1025.toInt) := by refine ⟨⟨?_, ?_⟩, ?_, ?_, ?_⟩ <;> omega
            clear hp
            replace hC := hC_
            clear hC_
            refine lv_istore (lv' := [(4, .int r1022), (3, .int 0), (2, .int 1), (1, .int 0), (0, .ref mm)]) hx hb dX10_line_124 hl (by decide) rfl (fun ls hl => ?_)
            refine lv_aload_n hx hb dX10_line_126 rfl (lv_at hl 4 rfl) ?_
            refine lv_ldc2 (v := 419) hx hb hown (hT _ kw_1443) dX10_line_127 ?_
            refine lv_iconst (v := 0) hx hb dX10_line_130 (by decide) ?_
            refine lv_aload_n hx hb dX10_line_131 rfl (lv_at hl 4 rfl) ?_
            refine lv_iconst (v := 1) hx hb dX10_line_132 (by decide) ?_
            have hz1032 := (show (1 : Int32).toInt = 1 by decide)
            refine z_calliV (cells := 0) (slots := 0) (b := mm) (As := [.int 1]) (rest := [.int 0, .long 419, .ref mm]) (ci := 10) (q0 := (RX10, TX10, 54)) ⟨hx, hb, hml, hown, hT⟩ (c_X10_hasRead l hm_mm hm_ha hf_mm hf_ha hq_ha (by decide)) (cwV 1 hT (z_goodV (fun _ h => h) kw_1434 kw_1436 kw_44 kw_96 kw_1437) rfl rfl rfl (by decide +kernel) ⟨by decide, by decide⟩) z_mv hKK hK hw hA hm_mm hf_mm rfl rfl rfl hl.1 rfl (Nat.le_of_ble_eq_true rfl) dX10_line_133 ⟨by decide, by decide⟩ (fun r1033 u H locs hp hw => ?_)
            obtain ⟨rfl, hp⟩ := hp
            have hw : z_H D vwCl (z_A L sz) s.heap L f1024 H locs := hw
            have hh1034 : 0 ≤ r1033.toInt ∧ r1033.toInt ≤ 9 := by rw [hp]; exact (hq_ha 25).1.2.1 rfl
            refine lv_iconst (v := 1) hx hb dX10_line_136 (by decide) ?_
            refine lv_isub hx hb dX10_line_137 ?_
            refine lv_topi (fun w1035 e_w1035 => ?_)
            have i_w1035 : w1035.toInt = (r1033.toInt - 1) := z_subI e_w1035 rfl (show (1 : Int32).toInt = 1 by decide) (by omega)
            have hz1036 := (show (419 : Int64).toInt = 419 by decide)
            have hz1037 := (show (0 : Int32).toInt = 0 by decide)
            refine z_calliV (cells := 0) (slots := 0) (b := mm) (As := [.long 419, .int 0, .int w1035]) (rest := []) (ci := 10) (q0 := (RX10, TX10, 54)) ⟨hx, hb, hml, hown, hT⟩ (c_X10_number_ l hm_mm hm_ta hf_mm hf_ta (by first | omega | decide | assumption) (by first | omega | decide | assumption)) (cwV 3 hT (z_goodV (fun _ h => h) kw_1416 kw_1418 kw_41 kw_96 kw_1419) rfl rfl rfl (by decide +kernel) ⟨by decide, by decide⟩) z_mv hKK hK hw hA hm_mm hf_mm rfl rfl rfl hl.1 rfl (Nat.le_of_ble_eq_true rfl) dX10_line_138 ⟨by decide, by decide⟩ (fun r1038 u H locs hp hw => ?_)
            obtain ⟨L1039, f1040⟩ := u
            obtain ⟨hsb, hfm, a2_1041, k2_1042, p2_1043, v2_1044, b2_1045, q2_1046, w2_1047, ha_0, hp⟩ := hp
            have hsb : L = L1039 := hsb
            subst hsb
            have hsb : ∀ b ∈ L, b ∈ L := fun _ h => h
            have hw : z_H D vwCl (z_A L sz) s.heap L f1040 H locs := hw
            have hfr : ∀ b ∈ L, b ≠ mm → b ≠ ha → b ≠ lw → b ≠ st → b ≠ fo → b ≠ dr → f1040 b = f b := fun b hb h0 h1 h2 h3 h4 h5 => (hfm b hb h0).trans (hfr b hb h0 h1 h2 h3 h4 h5)
            have hf_ta : f1040 ta = .inl (cy 0, 1600, .inl gta) := (hfm ta hm_ta (z_tne hf_ta hf_mm (m := 12900) (n := 10) rfl rfl (by decide))).trans hf_ta
            have hf_ha : f1040 ha = .inl (cy 1, 30, .inl gha) := (hfm ha hm_ha (z_tne hf_ha hf_mm (m := 340) (n := 10) rfl rfl (by decide))).trans hf_ha
            have hf_lw : f1040 lw = .inl (cy 1, 25, .inl glw) := (hfm lw hm_lw (z_tne hf_lw hf_mm (m := 300) (n := 10) rfl rfl (by decide))).trans hf_lw
            have hf_st : f1040 st = .inl (cy 1, 20, .inl gst) := (hfm st hm_st (z_tne hf_st hf_mm (m := 260) (n := 10) rfl rfl (by decide))).trans hf_st
            have hf_fo : f1040 fo = .inl (cy 1, 180, .inl gfo) := (hfm fo hm_fo (z_tne hf_fo hf_mm (m := 1540) (n := 10) rfl rfl (by decide))).trans hf_fo
            have hf_dr : f1040 dr = .inl (cy 1, 520, .inl gdr) := (hfm dr hm_dr (z_tne hf_dr hf_mm (m := 4260) (n := 10) rfl rfl (by decide))).trans hf_dr
            have hf_mm : f1040 mm = .inr (10, [.int m0, .ref wd, .ref my, .ref ce, .ref mv, .ref ta, .int m6, .int a2_1041, .int k2_1042, .int p2_1043, .int v2_1044, .long w2_1047, .int b2_1045, .int q2_1046, .int m14, .int m15, .ref li, .ref ha, .ref lw, .ref st, .ref fo, .ref dr, .int m22, .ref ik, .int m24, .int m25, .long m26, .int m27, .int m28, .ref ro, .int m30, .ref ct, .ref se, .ref th, .ref cn, .ref be, .int m36, .ref du, .int m38, .ref db, .int m40, .int m41, .int m42, .ref pn, .ref wg, .ref wh, .ref tn, .ref he, .int m48, .ref tr, .ref fd, .ref po, .int m52, .int m53]) := ha_0
            have hR_r1038 : 0 ≤ r1038.toInt ∧ r1038.toInt ≤ 8 := by omega
            have hC_ : (0 ≤ a2_1041.toInt ∧ a2_1041.toInt ≤ m6.toInt) ∧ m7.toInt ≤ a2_1041.toInt ∧ (b2_1045.toInt ≠ 0 ∨ m12.toInt = 0) ∧ (b2_1045.toInt ≠ 0 ∨ k2_1042.toInt ≠ 3 ∨ m7.toInt < a2_1041.toInt) := by refine ⟨⟨?_, ?_⟩, ?_, ?_, ?_⟩ <;> omega
            clear hp
            replace hC := hC_
            clear hC_
            refine lv_istore (lv' := [(5, .int r1038), (4, .int r1022), (3, .int 0), (2, .int 1), (1, .int 0), (0, .ref mm)]) hx hb dX10_line_141 hl (by decide) rfl (fun ls hl => ?_)
            refine lv_aload_n hx hb dX10_line_143 rfl (lv_at hl 5 rfl) ?_
            refine lv_ldc2 (v := 191706742) hx hb hown (hT _ kw_1449) dX10_line_144 ?_
            refine lv_iconst (v := 2) hx hb dX10_line_147 (by decide) ?_
            refine lv_bipush (v := 9) hx hb dX10_line_148 (by decide) ?_
            have hz1048 := (show (191706742 : Int64).toInt = 191706742 by decide)
            have hz1049 := (show (2 : Int32).toInt = 2 by decide)
            have hz1050 := (show (9 : Int32).toInt = 9 by decide)
            refine z_calliV (cells := 0) (slots := 0) (b := mm) (As := [.long 191706742, .int 2, .int 9]) (rest := []) (ci := 10) (q0 := (RX10, TX10, 54)) ⟨hx, hb, hml, hown, hT⟩ (c_X10_number_ l hm_mm hm_ta hf_mm hf_ta (by first | omega | decide | assumption) (by first | omega | decide | assumption)) (cwV 3 hT (z_goodV (fun _ h => h) kw_1416 kw_1418 kw_41 kw_96 kw_1419) rfl rfl rfl (by decide +kernel) ⟨by decide, by decide⟩) z_mv hKK hK hw hA hm_mm hf_mm rfl rfl rfl hl.1 rfl (Nat.le_of_ble_eq_true rfl) dX10_line_150 ⟨by decide, by decide⟩ (fun r1051 u H locs hp hw => ?_)
            obtain ⟨L1052, f1053⟩ := u
            obtain ⟨hsb, hfm, a2_1054, k2_1055, p2_1056, v2_1057, b2_1058, q2_1059, w2_1060, ha_0, hp⟩ := hp
            have hsb : L = L1052 := hsb
            subst hsb
            have hsb : ∀ b ∈ L, b ∈ L := fun _ h => h
            have hw : z_H D vwCl (z_A L sz) s.heap L f1053 H locs := hw
            have hfr : ∀ b ∈ L, b ≠ mm → b ≠ ha → b ≠ lw → b ≠ st → b ≠ fo → b ≠ dr → f1053 b = f b := fun b hb h0 h1 h2 h3 h4 h5 => (hfm b hb h0).trans (hfr b hb h0 h1 h2 h3 h4 h5)
            have hf_ta : f1053 ta = .inl (cy 0, 1600, .inl gta) := (hfm ta hm_ta (z_tne hf_ta hf_mm (m := 12900) (n := 10) rfl rfl (by decide))).trans hf_ta
            have hf_ha : f1053 ha = .inl (cy 1, 30, .inl gha) := (hfm ha hm_ha (z_tne hf_ha hf_mm (m := 340) (n := 10) rfl rfl (by decide))).trans hf_ha
            have hf_lw : f1053 lw = .inl (cy 1, 25, .inl glw) := (hfm lw hm_lw (z_tne hf_lw hf_mm (m := 300) (n := 10) rfl rfl (by decide))).trans hf_lw
            have hf_st : f1053 st = .inl (cy 1, 20, .inl gst) := (hfm st hm_st (z_tne hf_st hf_mm (m := 260) (n := 10) rfl rfl (by decide))).trans hf_st
            have hf_fo : f1053 fo = .inl (cy 1, 180, .inl gfo) := (hfm fo hm_fo (z_tne hf_fo hf_mm (m := 1540) (n := 10) rfl rfl (by decide))).trans hf_fo
            have hf_dr : f1053 dr = .inl (cy 1, 520, .inl gdr) := (hfm dr hm_dr (z_tne hf_dr hf_mm (m := 4260) (n := 10) rfl rfl (by decide))).trans hf_dr
            have hf_mm : f1053 mm = .inr (10, [.int m0, .ref wd, .ref my, .ref ce, .ref mv, .ref ta, .int m6, .int a2_1054, .int k2_1055, .int p2_1056, .int v2_1057, .long w2_1060, .int b2_1058, .int q2_1059, .int m14, .int m15, .ref li, .ref ha, .ref lw, .ref st, .ref fo, .ref dr, .int m22, .ref ik, .int m24, .int m25, .long m26, .int m27, .int m28, .ref ro, .int m30, .ref ct, .ref se, .ref th, .ref cn, .ref be, .int m36, .ref du, .int m38, .ref db, .int m40, .int m41, .int m42, .ref pn, .ref wg, .ref wh, .ref tn, .ref he, .int m48, .ref tr, .ref fd, .ref po, .int m52, .int m53]) := ha_0
            have hR_r1051 : 2 ≤ r1051.toInt ∧ r1051.toInt ≤ 9 := by omega
            have hC_ : (0 ≤ a2_1054.toInt ∧ a2_1054.toInt ≤ m6.toInt) ∧ m7.toInt ≤ a2_1054.toInt ∧ (b2_1058.toInt ≠ 0 ∨ m12.toInt = 0) ∧ (b2_1058.toInt ≠ 0 ∨ k2_1055.toInt ≠ 3 ∨ m7.toInt < a2_1054.toInt) := by refine ⟨⟨?_, ?_⟩, ?_, ?_, ?_⟩ <;> omega
            clear hp
            replace hC := hC_
            clear hC_
            refine lv_istore (lv' := [(6, .int r1051), (5, .int r1038), (4, .int r1022), (3, .int 0), (2, .int 1), (1, .int 0), (0, .ref mm)]) hx hb dX10_line_153 hl (by decide) rfl (fun ls hl => ?_)
            refine lv_aload_n hx hb dX10_line_155 rfl (lv_at hl 6 rfl) ?_
            refine z_calliV (cells := 0) (slots := 0) (b := mm) (As := []) (rest := []) (ci := 10) (q0 := (RX10, TX10, 54)) ⟨hx, hb, hml, hown, hT⟩ (c_X10_isGood l hm_mm hf_mm) (cwV 0 hT (z_goodV (fun _ h => h) kw_1394 kw_1396 kw_36 kw_96 kw_1397) rfl rfl rfl (by decide +kernel) ⟨by decide, by decide⟩) z_mv hKK hK hw hA hm_mm hf_mm rfl rfl rfl hl.1 rfl (Nat.le_of_ble_eq_true rfl) dX10_line_156 ⟨by decide, by decide⟩ (fun r1061 u H locs hp hw => ?_)
            obtain ⟨rfl, hp⟩ := hp
            have hw : z_H D vwCl (z_A L sz) s.heap L f1053 H locs := hw
            rcases hp with ⟨rfl, h1062⟩ | ⟨rfl, h1062⟩
            · skip
              refine z_if_eq (tgt := 181) hx hb (show (1 : Int32).toInt = 1 by decide) dX10_line_159 (by decide) (fun h => absurd h (by decide)) (fun _ => ?_)
              refine lv_aload_n hx hb dX10_line_162 rfl (lv_at hl 6 rfl) ?_
              refine z_get (C := RX10) (T := TX10) (N := 54) (ci := 10) (v := .ref fo) hx hb hT zin_X10 hown hK hw hm_mm hf_mm rfl 20 (by decide) (hT _ kw_1188) rfl dX10_line_163 ?_
              refine lv_sipush (v := 144) hx hb dX10_line_166 (by decide) ?_
              refine lv_bipush (v := 9) hx hb dX10_line_169 (by decide) ?_
              refine lv_iload hx hb dX10_line_171 (lv_at hl 2 rfl) ?_
              refine lv_imul hx hb dX10_line_173 ?_
              refine lv_topi (fun w1063 e_w1063 => ?_)
              have i_w1063 : w1063.toInt = (9 * r1022.toInt) := z_mul e_w1063 (show (9 : Int32).toInt = 9 by decide) rfl (by omega)
              refine lv_iadd hx hb dX10_line_174 ?_
              refine lv_topi (fun w1064 e_w1064 => ?_)
              have i_w1064 : w1064.toInt = (144 + (9 * r1022.toInt)) := z_add e_w1064 (show (144 : Int32).toInt = 144 by decide) i_w1063 (by omega)
              refine lv_iload hx hb dX10_line_175 (lv_at hl 1 rfl) ?_
              refine lv_iadd hx hb dX10_line_177 ?_
              refine lv_topi (fun w1065 e_w1065 => ?_)
              have i_w1065 : w1065.toInt = ((144 + (9 * r1022.toInt)) + r1038.toInt) := z_add e_w1065 i_w1064 rfl (by omega)
              refine lv_iload hx hb dX10_line_178 (lv_at hl 0 rfl) ?_
              refine z_iast hx hb hK hw 1 hm_fo hf_fo rfl (z_ix i_w1065 (by omega)) dX10_line_180 (fun H locs hw => ?_)
              obtain ⟨f1067, e_f1067⟩ : ∃ z, z = va_up f1053 fo (.inl (cy 1, 180, .inl (upd gfo w1065.toNatClampNeg r1051))) := ⟨_, rfl⟩
              rw [← e_f1067] at hw
              have hf_mm : f1067 mm = .inr (10, [.int m0, .ref wd, .ref my, .ref ce, .ref mv, .ref ta, .int m6, .int a2_1054, .int k2_1055, .int p2_1056, .int v2_1057, .long w2_1060, .int b2_1058, .int q2_1059, .int m14, .int m15, .ref li, .ref ha, .ref lw, .ref st, .ref fo, .ref dr, .int m22, .ref ik, .int m24, .int m25, .long m26, .int m27, .int m28, .ref ro, .int m30, .ref ct, .ref se, .ref th, .ref cn, .ref be, .int m36, .ref du, .int m38, .ref db, .int m40, .int m41, .int m42, .ref pn, .ref wg, .ref wh, .ref tn, .ref he, .int m48, .ref tr, .ref fd, .ref po, .int m52, .int m53]) := (congrFun e_f1067 mm).trans (z_up_ne (z_tne hf_mm hf_fo (m := 10) (n := 1540) rfl rfl (by decide)) hf_mm)
              have hf_ta : f1067 ta = .inl (cy 0, 1600, .inl gta) := (congrFun e_f1067 ta).trans (z_up_ne (z_tne hf_ta hf_fo (m := 12900) (n := 1540) rfl rfl (by decide)) hf_ta)
              have hf_ha : f1067 ha = .inl (cy 1, 30, .inl gha) := (congrFun e_f1067 ha).trans (z_up_ne (z_tne hf_ha hf_fo (m := 340) (n := 1540) rfl rfl (by decide)) hf_ha)
              have hf_lw : f1067 lw = .inl (cy 1, 25, .inl glw) := (congrFun e_f1067 lw).trans (z_up_ne (z_tne hf_lw hf_fo (m := 300) (n := 1540) rfl rfl (by decide)) hf_lw)
              have hf_st : f1067 st = .inl (cy 1, 20, .inl gst) := (congrFun e_f1067 st).trans (z_up_ne (z_tne hf_st hf_fo (m := 260) (n := 1540) rfl rfl (by decide)) hf_st)
              have hf_dr : f1067 dr = .inl (cy 1, 520, .inl gdr) := (congrFun e_f1067 dr).trans (z_up_ne (z_tne hf_dr hf_fo (m := 4260) (n := 1540) rfl rfl (by decide)) hf_dr)
              have hf_fo : f1067 fo = .inl (cy 1, 180, .inl (upd gfo w1065.toNatClampNeg r1051)) := (congrFun e_f1067 fo).trans z_up_self
              have hfr : ∀ b ∈ L, b ≠ mm → b ≠ ha → b ≠ lw → b ≠ st → b ≠ fo → b ≠ dr → f1067 b = f b := fun b hb h0 h1 h2 h3 h4 h5 => (congrFun e_f1067 b).trans (z_up_ne h4 (hfr b hb h0 h1 h2 h3 h4 h5))
              obtain ⟨g1066, e_g1066⟩ : ∃ z, z = (upd gfo w1065.toNatClampNeg r1051) := ⟨_, rfl⟩
              rw [← e_g1066] at hf_fo
              refine lv_aload_n hx hb dX10_line_181 rfl (lv_at hl 6 rfl) ?_
              refine z_get (C := RX10) (T := TX10) (N := 54) (ci := 10) (v := .ref ha) hx hb hT zin_X10 hown hK hw hm_mm hf_mm rfl 17 (by decide) (hT _ kw_1185) rfl dX10_line_182 ?_
              refine lv_bipush (v := 28) hx hb dX10_line_185 (by decide) ?_
              refine lv_dup2_11 hx hb dX10_line_187 rfl rfl ?_
              refine z_iald hx hb hK hw 1 hm_ha hf_ha rfl (z_ix (show (28 : Int32).toInt = 28 by decide) (by decide)) dX10_line_188 ?_
              refine lv_topi (fun w1068 e_w1068 => ?_)
              refine lv_iconst (v := 1) hx hb dX10_line_189 (by decide) ?_
              refine lv_iadd hx hb dX10_line_190 ?_
              refine lv_topi (fun w1069 e_w1069 => ?_)
              refine z_iast hx hb hK hw 1 hm_ha hf_ha rfl (z_ix (show (28 : Int32).toInt = 28 by decide) (by decide)) dX10_line_191 (fun H locs hw => ?_)
              obtain ⟨f1071, e_f1071⟩ : ∃ z, z = va_up f1067 ha (.inl (cy 1, 30, .inl (upd gha (28 : Int32).toNatClampNeg w1069))) := ⟨_, rfl⟩
              rw [← e_f1071] at hw
              have hf_mm : f1071 mm = .inr (10, [.int m0, .ref wd, .ref my, .ref ce, .ref mv, .ref ta, .int m6, .int a2_1054, .int k2_1055, .int p2_1056, .int v2_1057, .long w2_1060, .int b2_1058, .int q2_1059, .int m14, .int m15, .ref li, .ref ha, .ref lw, .ref st, .ref fo, .ref dr, .int m22, .ref ik, .int m24, .int m25, .long m26, .int m27, .int m28, .ref ro, .int m30, .ref ct, .ref se, .ref th, .ref cn, .ref be, .int m36, .ref du, .int m38, .ref db, .int m40, .int m41, .int m42, .ref pn, .ref wg, .ref wh, .ref tn, .ref he, .int m48, .ref tr, .ref fd, .ref po, .int m52, .int m53]) := (congrFun e_f1071 mm).trans (z_up_ne (z_tne hf_mm hf_ha (m := 10) (n := 340) rfl rfl (by decide)) hf_mm)
              have hf_ta : f1071 ta = .inl (cy 0, 1600, .inl gta) := (congrFun e_f1071 ta).trans (z_up_ne (z_tne hf_ta hf_ha (m := 12900) (n := 340) rfl rfl (by decide)) hf_ta)
              have hf_lw : f1071 lw = .inl (cy 1, 25, .inl glw) := (congrFun e_f1071 lw).trans (z_up_ne (z_tne hf_lw hf_ha (m := 300) (n := 340) rfl rfl (by decide)) hf_lw)
              have hf_st : f1071 st = .inl (cy 1, 20, .inl gst) := (congrFun e_f1071 st).trans (z_up_ne (z_tne hf_st hf_ha (m := 260) (n := 340) rfl rfl (by decide)) hf_st)
              have hf_fo : f1071 fo = .inl (cy 1, 180, .inl g1066) := (congrFun e_f1071 fo).trans (z_up_ne (z_tne hf_fo hf_ha (m := 1540) (n := 340) rfl rfl (by decide)) hf_fo)
              have hf_dr : f1071 dr = .inl (cy 1, 520, .inl gdr) := (congrFun e_f1071 dr).trans (z_up_ne (z_tne hf_dr hf_ha (m := 4260) (n := 340) rfl rfl (by decide)) hf_dr)
              have hf_ha : f1071 ha = .inl (cy 1, 30, .inl (upd gha (28 : Int32).toNatClampNeg w1069)) := (congrFun e_f1071 ha).trans z_up_self
              have hfr : ∀ b ∈ L, b ≠ mm → b ≠ ha → b ≠ lw → b ≠ st → b ≠ fo → b ≠ dr → f1071 b = f b := fun b hb h0 h1 h2 h3 h4 h5 => (congrFun e_f1071 b).trans (z_up_ne h1 (hfr b hb h0 h1 h2 h3 h4 h5))
              obtain ⟨g1070, e_g1070⟩ : ∃ z, z = (upd gha (28 : Int32).toNatClampNeg w1069) := ⟨_, rfl⟩
              rw [← e_g1070] at hf_ha
              have hq_ha : ∀ j : Nat, (q_hasR hz) j (g1070 j) := z_updQ hq_ha e_g1070 (show q_hasR _ _ _ from ⟨(show q_has _ _ from ⟨(fun h => absurd h (by decide)), (fun h => absurd h (by decide)), (fun h => absurd h (by decide)), (fun h => absurd h (by decide))⟩), fun h => absurd h (by decide)⟩)
              refine lv_goto (tgt := 335) hx hb dX10_line_192 (by decide) ?_
              exact z_vret hx hb hr hlk (by decide) (by decide) hw (⟨hsub, hfr, a2_1054, k2_1055, p2_1056, v2_1057, b2_1058, q2_1059, m22, w2_1060, g1070, glw, gst, g1066, gdr, hf_mm, hf_ha, hf_lw, hf_st, hf_fo, hf_dr, hq_ha, hq_lw, hq_st, hq_dr, by omega, by omega, by omega, by omega, rfl⟩) dX10_line_335
            · skip
              refine z_if_eq (tgt := 181) hx hb (show (0 : Int32).toInt = 0 by decide) dX10_line_159 (by decide) (fun _ => ?_) (fun h => absurd h (by decide))
              refine lv_aload_n hx hb dX10_line_181 rfl (lv_at hl 6 rfl) ?_
              refine z_get (C := RX10) (T := TX10) (N := 54) (ci := 10) (v := .ref ha) hx hb hT zin_X10 hown hK hw hm_mm hf_mm rfl 17 (by decide) (hT _ kw_1185) rfl dX10_line_182 ?_
              refine lv_bipush (v := 28) hx hb dX10_line_185 (by decide) ?_
              refine lv_dup2_11 hx hb dX10_line_187 rfl rfl ?_
              refine z_iald hx hb hK hw 1 hm_ha hf_ha rfl (z_ix (show (28 : Int32).toInt = 28 by decide) (by decide)) dX10_line_188 ?_
              refine lv_topi (fun w1072 e_w1072 => ?_)
              refine lv_iconst (v := 1) hx hb dX10_line_189 (by decide) ?_
              refine lv_iadd hx hb dX10_line_190 ?_
              refine lv_topi (fun w1073 e_w1073 => ?_)
              refine z_iast hx hb hK hw 1 hm_ha hf_ha rfl (z_ix (show (28 : Int32).toInt = 28 by decide) (by decide)) dX10_line_191 (fun H locs hw => ?_)
              obtain ⟨f1075, e_f1075⟩ : ∃ z, z = va_up f1053 ha (.inl (cy 1, 30, .inl (upd gha (28 : Int32).toNatClampNeg w1073))) := ⟨_, rfl⟩
              rw [← e_f1075] at hw
              have hf_mm : f1075 mm = .inr (10, [.int m0, .ref wd, .ref my, .ref ce, .ref mv, .ref ta, .int m6, .int a2_1054, .int k2_1055, .int p2_1056, .int v2_1057, .long w2_1060, .int b2_1058, .int q2_1059, .int m14, .int m15, .ref li, .ref ha, .ref lw, .ref st, .ref fo, .ref dr, .int m22, .ref ik, .int m24, .int m25, .long m26, .int m27, .int m28, .ref ro, .int m30, .ref ct, .ref se, .ref th, .ref cn, .ref be, .int m36, .ref du, .int m38, .ref db, .int m40, .int m41, .int m42, .ref pn, .ref wg, .ref wh, .ref tn, .ref he, .int m48, .ref tr, .ref fd, .ref po, .int m52, .int m53]) := (congrFun e_f1075 mm).trans (z_up_ne (z_tne hf_mm hf_ha (m := 10) (n := 340) rfl rfl (by decide)) hf_mm)
              have hf_ta : f1075 ta = .inl (cy 0, 1600, .inl gta) := (congrFun e_f1075 ta).trans (z_up_ne (z_tne hf_ta hf_ha (m := 12900) (n := 340) rfl rfl (by decide)) hf_ta)
              have hf_lw : f1075 lw = .inl (cy 1, 25, .inl glw) := (congrFun e_f1075 lw).trans (z_up_ne (z_tne hf_lw hf_ha (m := 300) (n := 340) rfl rfl (by decide)) hf_lw)
              have hf_st : f1075 st = .inl (cy 1, 20, .inl gst) := (congrFun e_f1075 st).trans (z_up_ne (z_tne hf_st hf_ha (m := 260) (n := 340) rfl rfl (by decide)) hf_st)
              have hf_fo : f1075 fo = .inl (cy 1, 180, .inl gfo) := (congrFun e_f1075 fo).trans (z_up_ne (z_tne hf_fo hf_ha (m := 1540) (n := 340) rfl rfl (by decide)) hf_fo)
              have hf_dr : f1075 dr = .inl (cy 1, 520, .inl gdr) := (congrFun e_f1075 dr).trans (z_up_ne (z_tne hf_dr hf_ha (m := 4260) (n := 340) rfl rfl (by decide)) hf_dr)
              have hf_ha : f1075 ha = .inl (cy 1, 30, .inl (upd gha (28 : Int32).toNatClampNeg w1073)) := (congrFun e_f1075 ha).trans z_up_self
              have hfr : ∀ b ∈ L, b ≠ mm → b ≠ ha → b ≠ lw → b ≠ st → b ≠ fo → b ≠ dr → f1075 b = f b := fun b hb h0 h1 h2 h3 h4 h5 => (congrFun e_f1075 b).trans (z_up_ne h1 (hfr b hb h0 h1 h2 h3 h4 h5))
              obtain ⟨g1074, e_g1074⟩ : ∃ z, z = (upd gha (28 : Int32).toNatClampNeg w1073) := ⟨_, rfl⟩
              rw [← e_g1074] at hf_ha
              have hq_ha : ∀ j : Nat, (q_hasR hz) j (g1074 j) := z_updQ hq_ha e_g1074 (show q_hasR _ _ _ from ⟨(show q_has _ _ from ⟨(fun h => absurd h (by decide)), (fun h => absurd h (by decide)), (fun h => absurd h (by decide)), (fun h => absurd h (by decide))⟩), fun h => absurd h (by decide)⟩)
              refine lv_goto (tgt := 335) hx hb dX10_line_192 (by decide) ?_
              exact z_vret hx hb hr hlk (by decide) (by decide) hw (⟨hsub, hfr, a2_1054, k2_1055, p2_1056, v2_1057, b2_1058, q2_1059, m22, w2_1060, g1074, glw, gst, gfo, gdr, hf_mm, hf_ha, hf_lw, hf_st, hf_fo, hf_dr, hq_ha, hq_lw, hq_st, hq_dr, by omega, by omega, by omega, by omega, rfl⟩) dX10_line_335
          · skip
            exact z_vret hx hb hr hlk (by decide) (by decide) hw (⟨hsub, hfr, m7, m8, m9, m10, m12, m13, m22, m11, gha, glw, gst, gfo, gdr, hf_mm, hf_ha, hf_lw, hf_st, hf_fo, hf_dr, hq_ha, hq_lw, hq_st, hq_dr, by omega, by omega, by omega, by omega, rfl⟩) dX10_line_88
        · skip
          refine lv_aload_n hx hb dX10_line_76 rfl (lv_at hl 3 rfl) ?_
          refine lv_iconst (v := 3) hx hb dX10_line_77 (by decide) ?_
          have hz1076 := (show (3 : Int32).toInt = 3 by decide)
          refine z_callvV (cells := 0) (slots := 0) (b := mm) (As := [.int 3]) (rest := []) (ci := 10) (q0 := (RX10, TX10, 54)) ⟨hx, hb, hml, hown, hT⟩ (c_X10_fails l hm_mm hf_mm (by first | omega | decide | assumption)) (cwV 1 hT (z_goodV (fun _ h => h) kw_1411 kw_1413 kw_40 kw_96 kw_1414) rfl rfl rfl (by decide +kernel) ⟨by decide, by decide⟩) z_mv hKK hK hw hA hm_mm hf_mm rfl rfl rfl hl.1 rfl (Nat.le_of_ble_eq_true rfl) dX10_line_78 ⟨by decide, by decide⟩ (fun u H locs hp hw => ?_)
          obtain ⟨L1077, f1078⟩ := u
          obtain ⟨hsb, hfm, b2_1079, p2_1080, ha_0, hp⟩ := hp
          have hsb : L = L1077 := hsb
          subst hsb
          have hsb : ∀ b ∈ L, b ∈ L := fun _ h => h
          have hw : z_H D vwCl (z_A L sz) s.heap L f1078 H locs := hw
          have hfr : ∀ b ∈ L, b ≠ mm → b ≠ ha → b ≠ lw → b ≠ st → b ≠ fo → b ≠ dr → f1078 b = f b := fun b hb h0 h1 h2 h3 h4 h5 => (hfm b hb h0).trans (hfr b hb h0 h1 h2 h3 h4 h5)
          have hf_ta : f1078 ta = .inl (cy 0, 1600, .inl gta) := (hfm ta hm_ta (z_tne hf_ta hf_mm (m := 12900) (n := 10) rfl rfl (by decide))).trans hf_ta
          have hf_ha : f1078 ha = .inl (cy 1, 30, .inl gha) := (hfm ha hm_ha (z_tne hf_ha hf_mm (m := 340) (n := 10) rfl rfl (by decide))).trans hf_ha
          have hf_lw : f1078 lw = .inl (cy 1, 25, .inl glw) := (hfm lw hm_lw (z_tne hf_lw hf_mm (m := 300) (n := 10) rfl rfl (by decide))).trans hf_lw
          have hf_st : f1078 st = .inl (cy 1, 20, .inl gst) := (hfm st hm_st (z_tne hf_st hf_mm (m := 260) (n := 10) rfl rfl (by decide))).trans hf_st
          have hf_fo : f1078 fo = .inl (cy 1, 180, .inl gfo) := (hfm fo hm_fo (z_tne hf_fo hf_mm (m := 1540) (n := 10) rfl rfl (by decide))).trans hf_fo
          have hf_dr : f1078 dr = .inl (cy 1, 520, .inl gdr) := (hfm dr hm_dr (z_tne hf_dr hf_mm (m := 4260) (n := 10) rfl rfl (by decide))).trans hf_dr
          have hf_mm : f1078 mm = .inr (10, [.int m0, .ref wd, .ref my, .ref ce, .ref mv, .ref ta, .int m6, .int m7, .int m8, .int m9, .int m10, .long m11, .int b2_1079, .int p2_1080, .int m14, .int m15, .ref li, .ref ha, .ref lw, .ref st, .ref fo, .ref dr, .int m22, .ref ik, .int m24, .int m25, .long m26, .int m27, .int m28, .ref ro, .int m30, .ref ct, .ref se, .ref th, .ref cn, .ref be, .int m36, .ref du, .int m38, .ref db, .int m40, .int m41, .int m42, .ref pn, .ref wg, .ref wh, .ref tn, .ref he, .int m48, .ref tr, .ref fd, .ref po, .int m52, .int m53]) := ha_0
          have hq1081 := hp
          refine lv_aload_n hx hb dX10_line_81 rfl (lv_at hl 3 rfl) ?_
          refine z_get (C := RX10) (T := TX10) (N := 54) (ci := 10) (v := .int b2_1079) hx hb hT zin_X10 hown hK hw hm_mm hf_mm rfl 12 (by decide) (hT _ kw_1180) rfl dX10_line_82 ?_
          refine z_if_eq (tgt := 89) hx hb rfl dX10_line_85 (by decide) (fun c1082 => ?_) (fun c1082 => ?_)
          · skip
            refine lv_iload_n hx hb dX10_line_89 rfl (lv_at hl 2 rfl) ?_
            refine z_if_eq (tgt := 104) hx hb (show (0 : Int32).toInt = 0 by decide) dX10_line_90 (by decide) (fun _ => ?_) (fun h => absurd h (by decide))
            refine lv_iload_n hx hb dX10_line_104 rfl (lv_at hl 1 rfl) ?_
            refine z_if_eq (tgt := 195) hx hb (show (1 : Int32).toInt = 1 by decide) dX10_line_105 (by decide) (fun h => absurd h (by decide)) (fun _ => ?_)
            refine lv_aload_n hx hb dX10_line_108 rfl (lv_at hl 3 rfl) ?_
            refine z_callvV (cells := 0) (slots := 0) (b := mm) (As := []) (rest := []) (ci := 10) (q0 := (RX10, TX10, 54)) ⟨hx, hb, hml, hown, hT⟩ (c_X10_next l hm_mm hm_ta hf_mm hf_ta (by first | omega | decide | assumption) (by first | omega | decide | assumption)) (cwV 0 hT (z_goodV (fun _ h => h) kw_1381 kw_1383 kw_34 kw_96 kw_1384) rfl rfl rfl (by decide +kernel) ⟨by decide, by decide⟩) z_mv hKK hK hw hA hm_mm hf_mm rfl rfl rfl hl.1 rfl (Nat.le_of_ble_eq_true rfl) dX10_line_109 ⟨by decide, by decide⟩ (fun u H locs hp hw => ?_)
            obtain ⟨L1083, f1084⟩ := u
            obtain ⟨hsb, hfm, a2_1085, k2_1086, p2_1087, v2_1088, w2_1089, ha_0, hp⟩ := hp
            have hsb : L = L1083 := hsb
            subst hsb
            have hsb : ∀ b ∈ L, b ∈ L := fun _ h => h
            have hw : z_H D vwCl (z_A L sz) s.heap L f1084 H locs := hw
            have hfr : ∀ b ∈ L, b ≠ mm → b ≠ ha → b ≠ lw → b ≠ st → b ≠ fo → b ≠ dr → f1084 b = f b := fun b hb h0 h1 h2 h3 h4 h5 => (hfm b hb h0).trans (hfr b hb h0 h1 h2 h3 h4 h5)
            have hf_ta : f1084 ta = .inl (cy 0, 1600, .inl gta) := (hfm ta hm_ta (z_tne hf_ta hf_mm (m := 12900) (n := 10) rfl rfl (by decide))).trans hf_ta
            have hf_ha : f1084 ha = .inl (cy 1, 30, .inl gha) := (hfm ha hm_ha (z_tne hf_ha hf_mm (m := 340) (n := 10) rfl rfl (by decide))).trans hf_ha
            have hf_lw : f1084 lw = .inl (cy 1, 25, .inl glw) := (hfm lw hm_lw (z_tne hf_lw hf_mm (m := 300) (n := 10) rfl rfl (by decide))).trans hf_lw
            have hf_st : f1084 st = .inl (cy 1, 20, .inl gst) := (hfm st hm_st (z_tne hf_st hf_mm (m := 260) (n := 10) rfl rfl (by decide))).trans hf_st
            have hf_fo : f1084 fo = .inl (cy 1, 180, .inl gfo) := (hfm fo hm_fo (z_tne hf_fo hf_mm (m := 1540) (n := 10) rfl rfl (by decide))).trans hf_fo
            have hf_dr : f1084 dr = .inl (cy 1, 520, .inl gdr) := (hfm dr hm_dr (z_tne hf_dr hf_mm (m := 4260) (n := 10) rfl rfl (by decide))).trans hf_dr
            have hf_mm : f1084 mm = .inr (10, [.int m0, .ref wd, .ref my, .ref ce, .ref mv, .ref ta, .int m6, .int a2_1085, .int k2_1086, .int p2_1087, .int v2_1088, .long w2_1089, .int b2_1079, .int p2_1080, .int m14, .int m15, .ref li, .ref ha, .ref lw, .ref st, .ref fo, .ref dr, .int m22, .ref ik, .int m24, .int m25, .long m26, .int m27, .int m28, .ref ro, .int m30, .ref ct, .ref se, .ref th, .ref cn, .ref be, .int m36, .ref du, .int m38, .ref db, .int m40, .int m41, .int m42, .ref pn, .ref wg, .ref wh, .ref tn, .ref he, .int m48, .ref tr, .ref fd, .ref po, .int m52, .int m53]) := ha_0
            have hC_ : (0 ≤ a2_1085.toInt ∧ a2_1085.toInt ≤ m6.toInt) ∧ m7.toInt ≤ a2_1085.toInt ∧ (b2_1079.toInt ≠ 0 ∨ m12.toInt = 0) ∧ (b2_1079.toInt ≠ 0 ∨ k2_1086.toInt ≠ 3 ∨ m7.toInt < a2_1085.toInt) := by refine ⟨⟨?_, ?_⟩, ?_, ?_, ?_⟩ <;> omega
            clear hp
            replace hC := hC_
            clear hC_
            refine lv_aload_n hx hb dX10_line_112 rfl (lv_at hl 3 rfl) ?_
            refine lv_iconst (v := 0) hx hb dX10_line_113 (by decide) ?_
            refine lv_aload_n hx hb dX10_line_114 rfl (lv_at hl 3 rfl) ?_
            refine lv_iconst (v := 0) hx hb dX10_line_115 (by decide) ?_
            have hz1090 := (show (0 : Int32).toInt = 0 by decide)
            refine z_calliV (cells := 0) (slots := 0) (b := mm) (As := [.int 0]) (rest := [.int 0, .ref mm]) (ci := 10) (q0 := (RX10, TX10, 54)) ⟨hx, hb, hml, hown, hT⟩ (c_X10_hasRead l hm_mm hm_ha hf_mm hf_ha hq_ha (by decide)) (cwV 1 hT (z_goodV (fun _ h => h) kw_1434 kw_1436 kw_44 kw_96 kw_1437) rfl rfl rfl (by decide +kernel) ⟨by decide, by decide⟩) z_mv hKK hK hw hA hm_mm hf_mm rfl rfl rfl hl.1 rfl (Nat.le_of_ble_eq_true rfl) dX10_line_116 ⟨by decide, by decide⟩ (fun r1091 u H locs hp hw => ?_)
            obtain ⟨rfl, hp⟩ := hp
            have hw : z_H D vwCl (z_A L sz) s.heap L f1084 H locs := hw
            have hh1092 : 0 ≤ r1091.toInt ∧ r1091.toInt ≤ 4 := by rw [hp]; exact (hq_ha 24).1.1 rfl
            refine lv_iconst (v := 1) hx hb dX10_line_119 (by decide) ?_
            refine lv_isub hx hb dX10_line_120 ?_
            refine lv_topi (fun w1093 e_w1093 => ?_)
            have i_w1093 : w1093.toInt = (r1091.toInt - 1) := z_subI e_w1093 rfl (show (1 : Int32).toInt = 1 by decide) (by omega)
            have hz1094 := (show (0 : Int32).toInt = 0 by decide)
            refine z_calliV (cells := 0) (slots := 0) (b := mm) (As := [.int 0, .int w1093]) (rest := []) (ci := 10) (q0 := (RX10, TX10, 54)) ⟨hx, hb, hml, hown, hT⟩ (c_X10_number l hm_mm hm_ta hf_mm hf_ta (by first | omega | decide | assumption) (by first | omega | decide | assumption)) (cwV 2 hT (z_goodV (fun _ h => h) kw_1420 kw_1422 kw_42 kw_96 kw_1423) rfl rfl rfl (by decide +kernel) ⟨by decide, by decide⟩) z_mv hKK hK hw hA hm_mm hf_mm rfl rfl rfl hl.1 rfl (Nat.le_of_ble_eq_true rfl) dX10_line_121 ⟨by decide, by decide⟩ (fun r1095 u H locs hp hw => ?_)
            obtain ⟨L1096, f1097⟩ := u
            obtain ⟨hsb, hfm, a2_1098, k2_1099, p2_1100, v2_1101, b2_1102, q2_1103, w2_1104, ha_0, hp⟩ := hp
            have hsb : L = L1096 := hsb
            subst hsb
            have hsb : ∀ b ∈ L, b ∈ L := fun _ h => h
            have hw : z_H D vwCl (z_A L sz) s.heap L f1097 H locs := hw
            have hfr : ∀ b ∈ L, b ≠ mm → b ≠ ha → b ≠ lw → b ≠ st → b ≠ fo → b ≠ dr → f1097 b = f b := fun b hb h0 h1 h2 h3 h4 h5 => (hfm b hb h0).trans (hfr b hb h0 h1 h2 h3 h4 h5)
            have hf_ta : f1097 ta = .inl (cy 0, 1600, .inl gta) := (hfm ta hm_ta (z_tne hf_ta hf_mm (m := 12900) (n := 10) rfl rfl (by decide))).trans hf_ta
            have hf_ha : f1097 ha = .inl (cy 1, 30, .inl gha) := (hfm ha hm_ha (z_tne hf_ha hf_mm (m := 340) (n := 10) rfl rfl (by decide))).trans hf_ha
            have hf_lw : f1097 lw = .inl (cy 1, 25, .inl glw) := (hfm lw hm_lw (z_tne hf_lw hf_mm (m := 300) (n := 10) rfl rfl (by decide))).trans hf_lw
            have hf_st : f1097 st = .inl (cy 1, 20, .inl gst) := (hfm st hm_st (z_tne hf_st hf_mm (m := 260) (n := 10) rfl rfl (by decide))).trans hf_st
            have hf_fo : f1097 fo = .inl (cy 1, 180, .inl gfo) := (hfm fo hm_fo (z_tne hf_fo hf_mm (m := 1540) (n := 10) rfl rfl (by decide))).trans hf_fo
            have hf_dr : f1097 dr = .inl (cy 1, 520, .inl gdr) := (hfm dr hm_dr (z_tne hf_dr hf_mm (m := 4260) (n := 10) rfl rfl (by decide))).trans hf_dr
            have hf_mm : f1097 mm = .inr (10, [.int m0, .ref wd, .ref my, .ref ce, .ref mv, .ref ta, .int m6, .int a2_1098, .int k2_1099, .int p2_1100, .int v2_1101, .long w2_1104, .int b2_1102, .int q2_1103, .int m14, .int m15, .ref li, .ref ha, .ref lw, .ref st, .ref fo, .ref dr, .int m22, .ref ik, .int m24, .int m25, .long m26, .int m27, .int m28, .ref ro, .int m30, .ref ct, .ref se, .ref th, .ref cn, .ref be, .int m36, .ref du, .int m38, .ref db, .int m40, .int m41, .int m42, .ref pn, .ref wg, .ref wh, .ref tn, .ref he, .int m48, .ref tr, .ref fd, .ref po, .int m52, .int m53]) := ha_0
            have hR_r1095 : 0 ≤ r1095.toInt ∧ r1095.toInt ≤ 3 := by omega
            have hC_ : (0 ≤ a2_1098.toInt ∧ a2_1098.toInt ≤ m6.toInt) ∧ m7.toInt ≤ a2_1098.toInt ∧ (b2_1102.toInt ≠ 0 ∨ m12.toInt = 0) ∧ (b2_1102.toInt ≠ 0 ∨ k2_1099.toInt ≠ 3 ∨ m7.toInt < a2_1098.toInt) := by refine ⟨⟨?_, ?_⟩, ?_, ?_, ?_⟩ <;> omega
            clear hp
            replace hC := hC_
            clear hC_
            refine lv_istore (lv' := [(4, .int r1095), (3, .int 0), (2, .int 1), (1, .int 0), (0, .ref mm)]) hx hb dX10_line_124 hl (by decide) rfl (fun ls hl => ?_)
            refine lv_aload_n hx hb dX10_line_126 rfl (lv_at hl 4 rfl) ?_
            refine lv_ldc2 (v := 419) hx hb hown (hT _ kw_1443) dX10_line_127 ?_
            refine lv_iconst (v := 0) hx hb dX10_line_130 (by decide) ?_
            refine lv_aload_n hx hb dX10_line_131 rfl (lv_at hl 4 rfl) ?_
            refine lv_iconst (v := 1) hx hb dX10_line_132 (by decide) ?_
            have hz1105 := (show (1 : Int32).toInt = 1 by decide)
            refine z_calliV (cells := 0) (slots := 0) (b := mm) (As := [.int 1]) (rest := [.int 0, .long 419, .ref mm]) (ci := 10) (q0 := (RX10, TX10, 54)) ⟨hx, hb, hml, hown, hT⟩ (c_X10_hasRead l hm_mm hm_ha hf_mm hf_ha hq_ha (by decide)) (cwV 1 hT (z_goodV (fun _ h => h) kw_1434 kw_1436 kw_44 kw_96 kw_1437) rfl rfl rfl (by decide +kernel) ⟨by decide, by decide⟩) z_mv hKK hK hw hA hm_mm hf_mm rfl rfl rfl hl.1 rfl (Nat.le_of_ble_eq_true rfl) dX10_line_133 ⟨by decide, by decide⟩ (fun r1106 u H locs hp hw => ?_)
            obtain ⟨rfl, hp⟩ := hp
            have hw : z_H D vwCl (z_A L sz) s.heap L f1097 H locs := hw
            have hh1107 : 0 ≤ r1106.toInt ∧ r1106.toInt ≤ 9 := by rw [hp]; exact (hq_ha 25).1.2.1 rfl
            refine lv_iconst (v := 1) hx hb dX10_line_136 (by decide) ?_
            refine lv_isub hx hb dX10_line_137 ?_
            refine lv_topi (fun w1108 e_w1108 => ?_)
            have i_w1108 : w1108.toInt = (r1106.toInt - 1) := z_subI e_w1108 rfl (show (1 : Int32).toInt = 1 by decide) (by omega)
            have hz1109 := (show (419 : Int64).toInt = 419 by decide)
            have hz1110 := (show (0 : Int32).toInt = 0 by decide)
            refine z_calliV (cells := 0) (slots := 0) (b := mm) (As := [.long 419, .int 0, .int w1108]) (rest := []) (ci := 10) (q0 := (RX10, TX10, 54)) ⟨hx, hb, hml, hown, hT⟩ (c_X10_number_ l hm_mm hm_ta hf_mm hf_ta (by first | omega | decide | assumption) (by first | omega | decide | assumption)) (cwV 3 hT (z_goodV (fun _ h => h) kw_1416 kw_1418 kw_41 kw_96 kw_1419) rfl rfl rfl (by decide +kernel) ⟨by decide, by decide⟩) z_mv hKK hK hw hA hm_mm hf_mm rfl rfl rfl hl.1 rfl (Nat.le_of_ble_eq_true rfl) dX10_line_138 ⟨by decide, by decide⟩ (fun r1111 u H locs hp hw => ?_)
            obtain ⟨L1112, f1113⟩ := u
            obtain ⟨hsb, hfm, a2_1114, k2_1115, p2_1116, v2_1117, b2_1118, q2_1119, w2_1120, ha_0, hp⟩ := hp
            have hsb : L = L1112 := hsb
            subst hsb
            have hsb : ∀ b ∈ L, b ∈ L := fun _ h => h
            have hw : z_H D vwCl (z_A L sz) s.heap L f1113 H locs := hw
            have hfr : ∀ b ∈ L, b ≠ mm → b ≠ ha → b ≠ lw → b ≠ st → b ≠ fo → b ≠ dr → f1113 b = f b := fun b hb h0 h1 h2 h3 h4 h5 => (hfm b hb h0).trans (hfr b hb h0 h1 h2 h3 h4 h5)
            have hf_ta : f1113 ta = .inl (cy 0, 1600, .inl gta) := (hfm ta hm_ta (z_tne hf_ta hf_mm (m := 12900) (n := 10) rfl rfl (by decide))).trans hf_ta
            have hf_ha : f1113 ha = .inl (cy 1, 30, .inl gha) := (hfm ha hm_ha (z_tne hf_ha hf_mm (m := 340) (n := 10) rfl rfl (by decide))).trans hf_ha
            have hf_lw : f1113 lw = .inl (cy 1, 25, .inl glw) := (hfm lw hm_lw (z_tne hf_lw hf_mm (m := 300) (n := 10) rfl rfl (by decide))).trans hf_lw
            have hf_st : f1113 st = .inl (cy 1, 20, .inl gst) := (hfm st hm_st (z_tne hf_st hf_mm (m := 260) (n := 10) rfl rfl (by decide))).trans hf_st
            have hf_fo : f1113 fo = .inl (cy 1, 180, .inl gfo) := (hfm fo hm_fo (z_tne hf_fo hf_mm (m := 1540) (n := 10) rfl rfl (by decide))).trans hf_fo
            have hf_dr : f1113 dr = .inl (cy 1, 520, .inl gdr) := (hfm dr hm_dr (z_tne hf_dr hf_mm (m := 4260) (n := 10) rfl rfl (by decide))).trans hf_dr
            have hf_mm : f1113 mm = .inr (10, [.int m0, .ref wd, .ref my, .ref ce, .ref mv, .ref ta, .int m6, .int a2_1114, .int k2_1115, .int p2_1116, .int v2_1117, .long w2_1120, .int b2_1118, .int q2_1119, .int m14, .int m15, .ref li, .ref ha, .ref lw, .ref st, .ref fo, .ref dr, .int m22, .ref ik, .int m24, .int m25, .long m26, .int m27, .int m28, .ref ro, .int m30, .ref ct, .ref se, .ref th, .ref cn, .ref be, .int m36, .ref du, .int m38, .ref db, .int m40, .int m41, .int m42, .ref pn, .ref wg, .ref wh, .ref tn, .ref he, .int m48, .ref tr, .ref fd, .ref po, .int m52, .int m53]) := ha_0
            have hR_r1111 : 0 ≤ r1111.toInt ∧ r1111.toInt ≤ 8 := by omega
            have hC_ : (0 ≤ a2_1114.toInt ∧ a2_1114.toInt ≤ m6.toInt) ∧ m7.toInt ≤ a2_1114.toInt ∧ (b2_1118.toInt ≠ 0 ∨ m12.toInt = 0) ∧ (b2_1118.toInt ≠ 0 ∨ k2_1115.toInt ≠ 3 ∨ m7.toInt < a2_1114.toInt) := by refine ⟨⟨?_, ?_⟩, ?_, ?_, ?_⟩ <;> omega
            clear hp
            replace hC := hC_
            clear hC_
            refine lv_istore (lv' := [(5, .int r1111), (4, .int r1095), (3, .int 0), (2, .int 1), (1, .int 0), (0, .ref mm)]) hx hb dX10_line_141 hl (by decide) rfl (fun ls hl => ?_)
            refine lv_aload_n hx hb dX10_line_143 rfl (lv_at hl 5 rfl) ?_
            refine lv_ldc2 (v := 191706742) hx hb hown (hT _ kw_1449) dX10_line_144 ?_
            refine lv_iconst (v := 2) hx hb dX10_line_147 (by decide) ?_
            refine lv_bipush (v := 9) hx hb dX10_line_148 (by decide) ?_
            have hz1121 := (show (191706742 : Int64).toInt = 191706742 by decide)
            have hz1122 := (show (2 : Int32).toInt = 2 by decide)
            have hz1123 := (show (9 : Int32).toInt = 9 by decide)
            refine z_calliV (cells := 0) (slots := 0) (b := mm) (As := [.long 191706742, .int 2, .int 9]) (rest := []) (ci := 10) (q0 := (RX10, TX10, 54)) ⟨hx, hb, hml, hown, hT⟩ (c_X10_number_ l hm_mm hm_ta hf_mm hf_ta (by first | omega | decide | assumption) (by first | omega | decide | assumption)) (cwV 3 hT (z_goodV (fun _ h => h) kw_1416 kw_1418 kw_41 kw_96 kw_1419) rfl rfl rfl (by decide +kernel) ⟨by decide, by decide⟩) z_mv hKK hK hw hA hm_mm hf_mm rfl rfl rfl hl.1 rfl (Nat.le_of_ble_eq_true rfl) dX10_line_150 ⟨by decide, by decide⟩ (fun r1124 u H locs hp hw => ?_)
            obtain ⟨L1125, f1126⟩ := u
            obtain ⟨hsb, hfm, a2_1127, k2_1128, p2_1129, v2_1130, b2_1131, q2_1132, w2_1133, ha_0, hp⟩ := hp
            have hsb : L = L1125 := hsb
            subst hsb
            have hsb : ∀ b ∈ L, b ∈ L := fun _ h => h
            have hw : z_H D vwCl (z_A L sz) s.heap L f1126 H locs := hw
            have hfr : ∀ b ∈ L, b ≠ mm → b ≠ ha → b ≠ lw → b ≠ st → b ≠ fo → b ≠ dr → f1126 b = f b := fun b hb h0 h1 h2 h3 h4 h5 => (hfm b hb h0).trans (hfr b hb h0 h1 h2 h3 h4 h5)
            have hf_ta : f1126 ta = .inl (cy 0, 1600, .inl gta) := (hfm ta hm_ta (z_tne hf_ta hf_mm (m := 12900) (n := 10) rfl rfl (by decide))).trans hf_ta
            have hf_ha : f1126 ha = .inl (cy 1, 30, .inl gha) := (hfm ha hm_ha (z_tne hf_ha hf_mm (m := 340) (n := 10) rfl rfl (by decide))).trans hf_ha
            have hf_lw : f1126 lw = .inl (cy 1, 25, .inl glw) := (hfm lw hm_lw (z_tne hf_lw hf_mm (m := 300) (n := 10) rfl rfl (by decide))).trans hf_lw
            have hf_st : f1126 st = .inl (cy 1, 20, .inl gst) := (hfm st hm_st (z_tne hf_st hf_mm (m := 260) (n := 10) rfl rfl (by decide))).trans hf_st
            have hf_fo : f1126 fo = .inl (cy 1, 180, .inl gfo) := (hfm fo hm_fo (z_tne hf_fo hf_mm (m := 1540) (n := 10) rfl rfl (by decide))).trans hf_fo
            have hf_dr : f1126 dr = .inl (cy 1, 520, .inl gdr) := (hfm dr hm_dr (z_tne hf_dr hf_mm (m := 4260) (n := 10) rfl rfl (by decide))).trans hf_dr
            have hf_mm : f1126 mm = .inr (10, [.int m0, .ref wd, .ref my, .ref ce, .ref mv, .ref ta, .int m6, .int a2_1127, .int k2_1128, .int p2_1129, .int v2_1130, .long w2_1133, .int b2_1131, .int q2_1132, .int m14, .int m15, .ref li, .ref ha, .ref lw, .ref st, .ref fo, .ref dr, .int m22, .ref ik, .int m24, .int m25, .long m26, .int m27, .int m28, .ref ro, .int m30, .ref ct, .ref se, .ref th, .ref cn, .ref be, .int m36, .ref du, .int m38, .ref db, .int m40, .int m41, .int m42, .ref pn, .ref wg, .ref wh, .ref tn, .ref he, .int m48, .ref tr, .ref fd, .ref po, .int m52, .int m53]) := ha_0
            have hR_r1124 : 2 ≤ r1124.toInt ∧ r1124.toInt ≤ 9 := by omega
            have hC_ : (0 ≤ a2_1127.toInt ∧ a2_1127.toInt ≤ m6.toInt) ∧ m7.toInt ≤ a2_1127.toInt ∧ (b2_1131.toInt ≠ 0 ∨ m12.toInt = 0) ∧ (b2_1131.toInt ≠ 0 ∨ k2_1128.toInt ≠ 3 ∨ m7.toInt < a2_1127.toInt) := by refine ⟨⟨?_, ?_⟩, ?_, ?_, ?_⟩ <;> omega
            clear hp
            replace hC := hC_
            clear hC_
            refine lv_istore (lv' := [(6, .int r1124), (5, .int r1111), (4, .int r1095), (3, .int 0), (2, .int 1), (1, .int 0), (0, .ref mm)]) hx hb dX10_line_153 hl (by decide) rfl (fun ls hl => ?_)
            refine lv_aload_n hx hb dX10_line_155 rfl (lv_at hl 6 rfl) ?_
            refine z_calliV (cells := 0) (slots := 0) (b := mm) (As := []) (rest := []) (ci := 10) (q0 := (RX10, TX10, 54)) ⟨hx, hb, hml, hown, hT⟩ (c_X10_isGood l hm_mm hf_mm) (cwV 0 hT (z_goodV (fun _ h => h) kw_1394 kw_1396 kw_36 kw_96 kw_1397) rfl rfl rfl (by decide +kernel) ⟨by decide, by decide⟩) z_mv hKK hK hw hA hm_mm hf_mm rfl rfl rfl hl.1 rfl (Nat.le_of_ble_eq_true rfl) dX10_line_156 ⟨by decide, by decide⟩ (fun r1134 u H locs hp hw => ?_)
            obtain ⟨rfl, hp⟩ := hp
            have hw : z_H D vwCl (z_A L sz) s.heap L f1126 H locs := hw
            rcases hp with ⟨rfl, h1135⟩ | ⟨rfl, h1135⟩
            · skip
              refine z_if_eq (tgt := 181) hx hb (show (1 : Int32).toInt = 1 by decide) dX10_line_159 (by decide) (fun h => absurd h (by decide)) (fun _ => ?_)
              refine lv_aload_n hx hb dX10_line_162 rfl (lv_at hl 6 rfl) ?_
              refine z_get (C := RX10) (T := TX10) (N := 54) (ci := 10) (v := .ref fo) hx hb hT zin_X10 hown hK hw hm_mm hf_mm rfl 20 (by decide) (hT _ kw_1188) rfl dX10_line_163 ?_
              refine lv_sipush (v := 144) hx hb dX10_line_166 (by decide) ?_
              refine lv_bipush (v := 9) hx hb dX10_line_169 (by decide) ?_
              refine lv_iload hx hb dX10_line_171 (lv_at hl 2 rfl) ?_
              refine lv_imul hx hb dX10_line_173 ?_
              refine lv_topi (fun w1136 e_w1136 => ?_)
              have i_w1136 : w1136.toInt = (9 * r1095.toInt) := z_mul e_w1136 (show (9 : Int32).toInt = 9 by decide) rfl (by omega)
              refine lv_iadd hx hb dX10_line_174 ?_
              refine lv_topi (fun w1137 e_w1137 => ?_)
              have i_w1137 : w1137.toInt = (144 + (9 * r1095.toInt)) := z_add e_w1137 (show (144 : Int32).toInt = 144 by decide) i_w1136 (by omega)
              refine lv_iload hx hb dX10_line_175 (lv_at hl 1 rfl) ?_
              refine lv_iadd hx hb dX10_line_177 ?_
              refine lv_topi (fun w1138 e_w1138 => ?_)
              have i_w1138 : w1138.toInt = ((144 + (9 * r1095.toInt)) + r1111.toInt) := z_add e_w1138 i_w1137 rfl (by omega)
              refine lv_iload hx hb dX10_line_178 (lv_at hl 0 rfl) ?_
              refine z_iast hx hb hK hw 1 hm_fo hf_fo rfl (z_ix i_w1138 (by omega)) dX10_line_180 (fun H locs hw => ?_)
              obtain ⟨f1140, e_f1140⟩ : ∃ z, z = va_up f1126 fo (.inl (cy 1, 180, .inl (upd gfo w1138.toNatClampNeg r1124))) := ⟨_, rfl⟩
              rw [← e_f1140] at hw
              have hf_mm : f1140 mm = .inr (10, [.int m0, .ref wd, .ref my, .ref ce, .ref mv, .ref ta, .int m6, .int a2_1127, .int k2_1128, .int p2_1129, .int v2_1130, .long w2_1133, .int b2_1131, .int q2_1132, .int m14, .int m15, .ref li, .ref ha, .ref lw, .ref st, .ref fo, .ref dr, .int m22, .ref ik, .int m24, .int m25, .long m26, .int m27, .int m28, .ref ro, .int m30, .ref ct, .ref se, .ref th, .ref cn, .ref be, .int m36, .ref du, .int m38, .ref db, .int m40, .int m41, .int m42, .ref pn, .ref wg, .ref wh, .ref tn, .ref he, .int m48, .ref tr, .ref fd, .ref po, .int m52, .int m53]) := (congrFun e_f1140 mm).trans (z_up_ne (z_tne hf_mm hf_fo (m := 10) (n := 1540) rfl rfl (by decide)) hf_mm)
              have hf_ta : f1140 ta = .inl (cy 0, 1600, .inl gta) := (congrFun e_f1140 ta).trans (z_up_ne (z_tne hf_ta hf_fo (m := 12900) (n := 1540) rfl rfl (by decide)) hf_ta)
              have hf_ha : f1140 ha = .inl (cy 1, 30, .inl gha) := (congrFun e_f1140 ha).trans (z_up_ne (z_tne hf_ha hf_fo (m := 340) (n := 1540) rfl rfl (by decide)) hf_ha)
              have hf_lw : f1140 lw = .inl (cy 1, 25, .inl glw) := (congrFun e_f1140 lw).trans (z_up_ne (z_tne hf_lw hf_fo (m := 300) (n := 1540) rfl rfl (by decide)) hf_lw)
              have hf_st : f1140 st = .inl (cy 1, 20, .inl gst) := (congrFun e_f1140 st).trans (z_up_ne (z_tne hf_st hf_fo (m := 260) (n := 1540) rfl rfl (by decide)) hf_st)
              have hf_dr : f1140 dr = .inl (cy 1, 520, .inl gdr) := (congrFun e_f1140 dr).trans (z_up_ne (z_tne hf_dr hf_fo (m := 4260) (n := 1540) rfl rfl (by decide)) hf_dr)
              have hf_fo : f1140 fo = .inl (cy 1, 180, .inl (upd gfo w1138.toNatClampNeg r1124)) := (congrFun e_f1140 fo).trans z_up_self
              have hfr : ∀ b ∈ L, b ≠ mm → b ≠ ha → b ≠ lw → b ≠ st → b ≠ fo → b ≠ dr → f1140 b = f b := fun b hb h0 h1 h2 h3 h4 h5 => (congrFun e_f1140 b).trans (z_up_ne h4 (hfr b hb h0 h1 h2 h3 h4 h5))
              obtain ⟨g1139, e_g1139⟩ : ∃ z, z = (upd gfo w1138.toNatClampNeg r1124) := ⟨_, rfl⟩
              rw [← e_g1139] at hf_fo
              refine lv_aload_n hx hb dX10_line_181 rfl (lv_at hl 6 rfl) ?_
              refine z_get (C := RX10) (T := TX10) (N := 54) (ci := 10) (v := .ref ha) hx hb hT zin_X10 hown hK hw hm_mm hf_mm rfl 17 (by decide) (hT _ kw_1185) rfl dX10_line_182 ?_
              refine lv_bipush (v := 28) hx hb dX10_line_185 (by decide) ?_
              refine lv_dup2_11 hx hb dX10_line_187 rfl rfl ?_
              refine z_iald hx hb hK hw 1 hm_ha hf_ha rfl (z_ix (show (28 : Int32).toInt = 28 by decide) (by decide)) dX10_line_188 ?_
              refine lv_topi (fun w1141 e_w1141 => ?_)
              refine lv_iconst (v := 1) hx hb dX10_line_189 (by decide) ?_
              refine lv_iadd hx hb dX10_line_190 ?_
              refine lv_topi (fun w1142 e_w1142 => ?_)
              refine z_iast hx hb hK hw 1 hm_ha hf_ha rfl (z_ix (show (28 : Int32).toInt = 28 by decide) (by decide)) dX10_line_191 (fun H locs hw => ?_)
              obtain ⟨f1144, e_f1144⟩ : ∃ z, z = va_up f1140 ha (.inl (cy 1, 30, .inl (upd gha (28 : Int32).toNatClampNeg w1142))) := ⟨_, rfl⟩
              rw [← e_f1144] at hw
              have hf_mm : f1144 mm = .inr (10, [.int m0, .ref wd, .ref my, .ref ce, .ref mv, .ref ta, .int m6, .int a2_1127, .int k2_1128, .int p2_1129, .int v2_1130, .long w2_1133, .int b2_1131, .int q2_1132, .int m14, .int m15, .ref li, .ref ha, .ref lw, .ref st, .ref fo, .ref dr, .int m22, .ref ik, .int m24, .int m25, .long m26, .int m27, .int m28, .ref ro, .int m30, .ref ct, .ref se, .ref th, .ref cn, .ref be, .int m36, .ref du, .int m38, .ref db, .int m40, .int m41, .int m42, .ref pn, .ref wg, .ref wh, .ref tn, .ref he, .int m48, .ref tr, .ref fd, .ref po, .int m52, .int m53]) := (congrFun e_f1144 mm).trans (z_up_ne (z_tne hf_mm hf_ha (m := 10) (n := 340) rfl rfl (by decide)) hf_mm)
              have hf_ta : f1144 ta = .inl (cy 0, 1600, .inl gta) := (congrFun e_f1144 ta).trans (z_up_ne (z_tne hf_ta hf_ha (m := 12900) (n := 340) rfl rfl (by decide)) hf_ta)
              have hf_lw : f1144 lw = .inl (cy 1, 25, .inl glw) := (congrFun e_f1144 lw).trans (z_up_ne (z_tne hf_lw hf_ha (m := 300) (n := 340) rfl rfl (by decide)) hf_lw)
              have hf_st : f1144 st = .inl (cy 1, 20, .inl gst) := (congrFun e_f1144 st).trans (z_up_ne (z_tne hf_st hf_ha (m := 260) (n := 340) rfl rfl (by decide)) hf_st)
              have hf_fo : f1144 fo = .inl (cy 1, 180, .inl g1139) := (congrFun e_f1144 fo).trans (z_up_ne (z_tne hf_fo hf_ha (m := 1540) (n := 340) rfl rfl (by decide)) hf_fo)
              have hf_dr : f1144 dr = .inl (cy 1, 520, .inl gdr) := (congrFun e_f1144 dr).trans (z_up_ne (z_tne hf_dr hf_ha (m := 4260) (n := 340) rfl rfl (by decide)) hf_dr)
              have hf_ha : f1144 ha = .inl (cy 1, 30, .inl (upd gha (28 : Int32).toNatClampNeg w1142)) := (congrFun e_f1144 ha).trans z_up_self
              have hfr : ∀ b ∈ L, b ≠ mm → b ≠ ha → b ≠ lw → b ≠ st → b ≠ fo → b ≠ dr → f1144 b = f b := fun b hb h0 h1 h2 h3 h4 h5 => (congrFun e_f1144 b).trans (z_up_ne h1 (hfr b hb h0 h1 h2 h3 h4 h5))
              obtain ⟨g1143, e_g1143⟩ : ∃ z, z = (upd gha (28 : Int32).toNatClampNeg w1142) := ⟨_, rfl⟩
              rw [← e_g1143] at hf_ha
              have hq_ha : ∀ j : Nat, (q_hasR hz) j (g1143 j) := z_updQ hq_ha e_g1143 (show q_hasR _ _ _ from ⟨(show q_has _ _ from ⟨(fun h => absurd h (by decide)), (fun h => absurd h (by decide)), (fun h => absurd h (by decide)), (fun h => absurd h (by decide))⟩), fun h => absurd h (by decide)⟩)
              refine lv_goto (tgt := 335) hx hb dX10_line_192 (by decide) ?_
              exact z_vret hx hb hr hlk (by decide) (by decide) hw (⟨hsub, hfr, a2_1127, k2_1128, p2_1129, v2_1130, b2_1131, q2_1132, m22, w2_1133, g1143, glw, gst, g1139, gdr, hf_mm, hf_ha, hf_lw, hf_st, hf_fo, hf_dr, hq_ha, hq_lw, hq_st, hq_dr, by omega, by omega, by omega, by omega, rfl⟩) dX10_line_335
            · skip
              refine z_if_eq (tgt := 181) hx hb (show (0 : Int32).toInt = 0 by decide) dX10_line_159 (by decide) (fun _ => ?_) (fun h => absurd h (by decide))
              refine lv_aload_n hx hb dX10_line_181 rfl (lv_at hl 6 rfl) ?_
              refine z_get (C := RX10) (T := TX10) (N := 54) (ci := 10) (v := .ref ha) hx hb hT zin_X10 hown hK hw hm_mm hf_mm rfl 17 (by decide) (hT _ kw_1185) rfl dX10_line_182 ?_
              refine lv_bipush (v := 28) hx hb dX10_line_185 (by decide) ?_
              refine lv_dup2_11 hx hb dX10_line_187 rfl rfl ?_
              refine z_iald hx hb hK hw 1 hm_ha hf_ha rfl (z_ix (show (28 : Int32).toInt = 28 by decide) (by decide)) dX10_line_188 ?_
              refine lv_topi (fun w1145 e_w1145 => ?_)
              refine lv_iconst (v := 1) hx hb dX10_line_189 (by decide) ?_
              refine lv_iadd hx hb dX10_line_190 ?_
              refine lv_topi (fun w1146 e_w1146 => ?_)
              refine z_iast hx hb hK hw 1 hm_ha hf_ha rfl (z_ix (show (28 : Int32).toInt = 28 by decide) (by decide)) dX10_line_191 (fun H locs hw => ?_)
              obtain ⟨f1148, e_f1148⟩ : ∃ z, z = va_up f1126 ha (.inl (cy 1, 30, .inl (upd gha (28 : Int32).toNatClampNeg w1146))) := ⟨_, rfl⟩
              rw [← e_f1148] at hw
              have hf_mm : f1148 mm = .inr (10, [.int m0, .ref wd, .ref my, .ref ce, .ref mv, .ref ta, .int m6, .int a2_1127, .int k2_1128, .int p2_1129, .int v2_1130, .long w2_1133, .int b2_1131, .int q2_1132, .int m14, .int m15, .ref li, .ref ha, .ref lw, .ref st, .ref fo, .ref dr, .int m22, .ref ik, .int m24, .int m25, .long m26, .int m27, .int m28, .ref ro, .int m30, .ref ct, .ref se, .ref th, .ref cn, .ref be, .int m36, .ref du, .int m38, .ref db, .int m40, .int m41, .int m42, .ref pn, .ref wg, .ref wh, .ref tn, .ref he, .int m48, .ref tr, .ref fd, .ref po, .int m52, .int m53]) := (congrFun e_f1148 mm).trans (z_up_ne (z_tne hf_mm hf_ha (m := 10) (n := 340) rfl rfl (by decide)) hf_mm)
              have hf_ta : f1148 ta = .inl (cy 0, 1600, .inl gta) := (congrFun e_f1148 ta).trans (z_up_ne (z_tne hf_ta hf_ha (m := 12900) (n := 340) rfl rfl (by decide)) hf_ta)
              have hf_lw : f1148 lw = .inl (cy 1, 25, .inl glw) := (congrFun e_f1148 lw).trans (z_up_ne (z_tne hf_lw hf_ha (m := 300) (n := 340) rfl rfl (by decide)) hf_lw)
              have hf_st : f1148 st = .inl (cy 1, 20, .inl gst) := (congrFun e_f1148 st).trans (z_up_ne (z_tne hf_st hf_ha (m := 260) (n := 340) rfl rfl (by decide)) hf_st)
              have hf_fo : f1148 fo = .inl (cy 1, 180, .inl gfo) := (congrFun e_f1148 fo).trans (z_up_ne (z_tne hf_fo hf_ha (m := 1540) (n := 340) rfl rfl (by decide)) hf_fo)
              have hf_dr : f1148 dr = .inl (cy 1, 520, .inl gdr) := (congrFun e_f1148 dr).trans (z_up_ne (z_tne hf_dr hf_ha (m := 4260) (n := 340) rfl rfl (by decide)) hf_dr)
              have hf_ha : f1148 ha = .inl (cy 1, 30, .inl (upd gha (28 : Int32).toNatClampNeg w1146)) := (congrFun e_f1148 ha).trans z_up_self
              have hfr : ∀ b ∈ L, b ≠ mm → b ≠ ha → b ≠ lw → b ≠ st → b ≠ fo → b ≠ dr → f1148 b = f b := fun b hb h0 h1 h2 h3 h4 h5 => (congrFun e_f1148 b).trans (z_up_ne h1 (hfr b hb h0 h1 h2 h3 h4 h5))
              obtain ⟨g1147, e_g1147⟩ : ∃ z, z = (upd gha (28 : Int32).toNatClampNeg w1146) := ⟨_, rfl⟩
              rw [← e_g1147] at hf_ha
              have hq_ha : ∀ j : Nat, (q_hasR hz) j (g1147 j) := z_updQ hq_ha e_g1147 (show q_hasR _ _ _ from ⟨(show q_has _ _ from ⟨(fun h => absurd h (by decide)), (fun h => absurd h (by decide)), (fun h => absurd h (by decide)), (fun h => absurd h (by decide))⟩), fun h => absurd h (by decide)⟩)
              refine lv_goto (tgt := 335) hx hb dX10_line_192 (by decide) ?_
              exact z_vret hx hb hr hlk (by decide) (by decide) hw (⟨hsub, hfr, a2_1127, k2_1128, p2_1129, v2_1130, b2_1131, q2_1132, m22, w2_1133, g1147, glw, gst, gfo, gdr, hf_mm, hf_ha, hf_lw, hf_st, hf_fo, hf_dr, hq_ha, hq_lw, hq_st, hq_dr, by omega, by omega, by omega, by omega, rfl⟩) dX10_line_335
          · skip
            exact z_vret hx hb hr hlk (by decide) (by decide) hw (⟨hsub, hfr, m7, m8, m9, m10, b2_1079, p2_1080, m22, m11, gha, glw, gst, gfo, gdr, hf_mm, hf_ha, hf_lw, hf_st, hf_fo, hf_dr, hq_ha, hq_lw, hq_st, hq_dr, by omega, by omega, by omega, by omega, rfl⟩) dX10_line_88
    · skip
      refine lv_istore_n (lv' := [(2, .int 0), (1, .int 0), (0, .ref mm)]) hx hb dX10_line_15 rfl hl (by decide) rfl (fun ls hl => ?_)
      refine lv_aload_n hx hb dX10_line_16 rfl (lv_at hl 2 rfl) ?_
      refine lv_ldc2 (v := 227736460) hx hb hown (hT _ kw_1433) dX10_line_17 ?_
      have hz1149 := (show (227736460 : Int64).toInt = 227736460 by decide)
      refine z_calliV (cells := 0) (slots := 0) (b := mm) (As := [.long 227736460]) (rest := []) (ci := 10) (q0 := (RX10, TX10, 54)) ⟨hx, hb, hml, hown, hT⟩ (c_X10_is l hm_mm hf_mm) (cwV 1 hT (z_goodV (fun _ h => h) kw_1407 kw_1409 kw_39 kw_96 kw_1410) rfl rfl rfl (by decide +kernel) ⟨by decide, by decide⟩) z_mv hKK hK hw hA hm_mm hf_mm rfl rfl rfl hl.1 rfl (Nat.le_of_ble_eq_true rfl) dX10_line_20 ⟨by decide, by decide⟩ (fun r1150 u H locs hp hw => ?_)
      obtain ⟨rfl, hp⟩ := hp
      have hw : z_H D vwCl (z_A L sz) s.heap L f H locs := hw
      rcases hp with ⟨rfl, h1151⟩ | ⟨rfl, h1151⟩
      · skip
        refine lv_istore_n (lv' := [(3, .int 1), (2, .int 0), (1, .int 0), (0, .ref mm)]) hx hb dX10_line_23 rfl hl (by decide) rfl (fun ls hl => ?_)
        refine lv_iload_n hx hb dX10_line_24 rfl (lv_at hl 0 rfl) ?_
        refine z_if_eq (tgt := 48) hx hb (show (1 : Int32).toInt = 1 by decide) dX10_line_25 (by decide) (fun h => absurd h (by decide)) (fun _ => ?_)
        refine lv_aload_n hx hb dX10_line_28 rfl (lv_at hl 3 rfl) ?_
        refine z_get (C := RX10) (T := TX10) (N := 54) (ci := 10) (v := .int m22) hx hb hT zin_X10 hown hK hw hm_mm hf_mm rfl 22 (by decide) (hT _ kw_1190) rfl dX10_line_29 ?_
        refine z_if_ne (tgt := 43) hx hb rfl dX10_line_32 (by decide) (fun c1152 => ?_) (fun c1152 => ?_)
        · skip
          refine lv_aload_n hx hb dX10_line_43 rfl (lv_at hl 3 rfl) ?_
          refine lv_iconst (v := 2) hx hb dX10_line_44 (by decide) ?_
          have hz1153 := (show (2 : Int32).toInt = 2 by decide)
          refine z_callvV (cells := 0) (slots := 0) (b := mm) (As := [.int 2]) (rest := []) (ci := 10) (q0 := (RX10, TX10, 54)) ⟨hx, hb, hml, hown, hT⟩ (c_X10_fails l hm_mm hf_mm (by first | omega | decide | assumption)) (cwV 1 hT (z_goodV (fun _ h => h) kw_1411 kw_1413 kw_40 kw_96 kw_1414) rfl rfl rfl (by decide +kernel) ⟨by decide, by decide⟩) z_mv hKK hK hw hA hm_mm hf_mm rfl rfl rfl hl.1 rfl (Nat.le_of_ble_eq_true rfl) dX10_line_45 ⟨by decide, by decide⟩ (fun u H locs hp hw => ?_)
          obtain ⟨L1154, f1155⟩ := u
          obtain ⟨hsb, hfm, b2_1156, p2_1157, ha_0, hp⟩ := hp
          have hsb : L = L1154 := hsb
          subst hsb
          have hsb : ∀ b ∈ L, b ∈ L := fun _ h => h
          have hw : z_H D vwCl (z_A L sz) s.heap L f1155 H locs := hw
          have hfr : ∀ b ∈ L, b ≠ mm → b ≠ ha → b ≠ lw → b ≠ st → b ≠ fo → b ≠ dr → f1155 b = f b := fun b hb h0 h1 h2 h3 h4 h5 => (hfm b hb h0).trans (hfr b hb h0 h1 h2 h3 h4 h5)
          have hf_ta : f1155 ta = .inl (cy 0, 1600, .inl gta) := (hfm ta hm_ta (z_tne hf_ta hf_mm (m := 12900) (n := 10) rfl rfl (by decide))).trans hf_ta
          have hf_ha : f1155 ha = .inl (cy 1, 30, .inl gha) := (hfm ha hm_ha (z_tne hf_ha hf_mm (m := 340) (n := 10) rfl rfl (by decide))).trans hf_ha
          have hf_lw : f1155 lw = .inl (cy 1, 25, .inl glw) := (hfm lw hm_lw (z_tne hf_lw hf_mm (m := 300) (n := 10) rfl rfl (by decide))).trans hf_lw
          have hf_st : f1155 st = .inl (cy 1, 20, .inl gst) := (hfm st hm_st (z_tne hf_st hf_mm (m := 260) (n := 10) rfl rfl (by decide))).trans hf_st
          have hf_fo : f1155 fo = .inl (cy 1, 180, .inl gfo) := (hfm fo hm_fo (z_tne hf_fo hf_mm (m := 1540) (n := 10) rfl rfl (by decide))).trans hf_fo
          have hf_dr : f1155 dr = .inl (cy 1, 520, .inl gdr) := (hfm dr hm_dr (z_tne hf_dr hf_mm (m := 4260) (n := 10) rfl rfl (by decide))).trans hf_dr
          have hf_mm : f1155 mm = .inr (10, [.int m0, .ref wd, .ref my, .ref ce, .ref mv, .ref ta, .int m6, .int m7, .int m8, .int m9, .int m10, .long m11, .int b2_1156, .int p2_1157, .int m14, .int m15, .ref li, .ref ha, .ref lw, .ref st, .ref fo, .ref dr, .int m22, .ref ik, .int m24, .int m25, .long m26, .int m27, .int m28, .ref ro, .int m30, .ref ct, .ref se, .ref th, .ref cn, .ref be, .int m36, .ref du, .int m38, .ref db, .int m40, .int m41, .int m42, .ref pn, .ref wg, .ref wh, .ref tn, .ref he, .int m48, .ref tr, .ref fd, .ref po, .int m52, .int m53]) := ha_0
          have hq1158 := hp
          refine lv_iload_n hx hb dX10_line_48 rfl (lv_at hl 2 rfl) ?_
          refine z_if_eq (tgt := 62) hx hb (show (0 : Int32).toInt = 0 by decide) dX10_line_49 (by decide) (fun _ => ?_) (fun h => absurd h (by decide))
          refine lv_iload_n hx hb dX10_line_62 rfl (lv_at hl 1 rfl) ?_
          refine z_if_eq (tgt := 81) hx hb (show (0 : Int32).toInt = 0 by decide) dX10_line_63 (by decide) (fun _ => ?_) (fun h => absurd h (by decide))
          refine lv_aload_n hx hb dX10_line_81 rfl (lv_at hl 3 rfl) ?_
          refine z_get (C := RX10) (T := TX10) (N := 54) (ci := 10) (v := .int b2_1156) hx hb hT zin_X10 hown hK hw hm_mm hf_mm rfl 12 (by decide) (hT _ kw_1180) rfl dX10_line_82 ?_
          refine z_if_eq (tgt := 89) hx hb rfl dX10_line_85 (by decide) (fun c1159 => ?_) (fun c1159 => ?_)
          · skip
            refine lv_iload_n hx hb dX10_line_89 rfl (lv_at hl 2 rfl) ?_
            refine z_if_eq (tgt := 104) hx hb (show (0 : Int32).toInt = 0 by decide) dX10_line_90 (by decide) (fun _ => ?_) (fun h => absurd h (by decide))
            refine lv_iload_n hx hb dX10_line_104 rfl (lv_at hl 1 rfl) ?_
            refine z_if_eq (tgt := 195) hx hb (show (0 : Int32).toInt = 0 by decide) dX10_line_105 (by decide) (fun _ => ?_) (fun h => absurd h (by decide))
            refine lv_iload_n hx hb dX10_line_195 rfl (lv_at hl 0 rfl) ?_
            refine z_if_eq (tgt := 224) hx hb (show (1 : Int32).toInt = 1 by decide) dX10_line_196 (by decide) (fun h => absurd h (by decide)) (fun _ => ?_)
            refine lv_aload_n hx hb dX10_line_199 rfl (lv_at hl 3 rfl) ?_
            refine z_callvV (cells := 0) (slots := 0) (b := mm) (As := []) (rest := []) (ci := 10) (q0 := (RX10, TX10, 54)) ⟨hx, hb, hml, hown, hT⟩ (c_X10_next l hm_mm hm_ta hf_mm hf_ta (by first | omega | decide | assumption) (by first | omega | decide | assumption)) (cwV 0 hT (z_goodV (fun _ h => h) kw_1381 kw_1383 kw_34 kw_96 kw_1384) rfl rfl rfl (by decide +kernel) ⟨by decide, by decide⟩) z_mv hKK hK hw hA hm_mm hf_mm rfl rfl rfl hl.1 rfl (Nat.le_of_ble_eq_true rfl) dX10_line_200 ⟨by decide, by decide⟩ (fun u H locs hp hw => ?_)
            obtain ⟨L1160, f1161⟩ := u
            obtain ⟨hsb, hfm, a2_1162, k2_1163, p2_1164, v2_1165, w2_1166, ha_0, hp⟩ := hp
            have hsb : L = L1160 := hsb
            subst hsb
            have hsb : ∀ b ∈ L, b ∈ L := fun _ h => h
            have hw : z_H D vwCl (z_A L sz) s.heap L f1161 H locs := hw
            have hfr : ∀ b ∈ L, b ≠ mm → b ≠ ha → b ≠ lw → b ≠ st → b ≠ fo → b ≠ dr → f1161 b = f b := fun b hb h0 h1 h2 h3 h4 h5 => (hfm b hb h0).trans (hfr b hb h0 h1 h2 h3 h4 h5)
            have hf_ta : f1161 ta = .inl (cy 0, 1600, .inl gta) := (hfm ta hm_ta (z_tne hf_ta hf_mm (m := 12900) (n := 10) rfl rfl (by decide))).trans hf_ta
            have hf_ha : f1161 ha = .inl (cy 1, 30, .inl gha) := (hfm ha hm_ha (z_tne hf_ha hf_mm (m := 340) (n := 10) rfl rfl (by decide))).trans hf_ha
            have hf_lw : f1161 lw = .inl (cy 1, 25, .inl glw) := (hfm lw hm_lw (z_tne hf_lw hf_mm (m := 300) (n := 10) rfl rfl (by decide))).trans hf_lw
            have hf_st : f1161 st = .inl (cy 1, 20, .inl gst) := (hfm st hm_st (z_tne hf_st hf_mm (m := 260) (n := 10) rfl rfl (by decide))).trans hf_st
            have hf_fo : f1161 fo = .inl (cy 1, 180, .inl gfo) := (hfm fo hm_fo (z_tne hf_fo hf_mm (m := 1540) (n := 10) rfl rfl (by decide))).trans hf_fo
            have hf_dr : f1161 dr = .inl (cy 1, 520, .inl gdr) := (hfm dr hm_dr (z_tne hf_dr hf_mm (m := 4260) (n := 10) rfl rfl (by decide))).trans hf_dr
            have hf_mm : f1161 mm = .inr (10, [.int m0, .ref wd, .ref my, .ref ce, .ref mv, .ref ta, .int m6, .int a2_1162, .int k2_1163, .int p2_1164, .int v2_1165, .long w2_1166, .int b2_1156, .int p2_1157, .int m14, .int m15, .ref li, .ref ha, .ref lw, .ref st, .ref fo, .ref dr, .int m22, .ref ik, .int m24, .int m25, .long m26, .int m27, .int m28, .ref ro, .int m30, .ref ct, .ref se, .ref th, .ref cn, .ref be, .int m36, .ref du, .int m38, .ref db, .int m40, .int m41, .int m42, .ref pn, .ref wg, .ref wh, .ref tn, .ref he, .int m48, .ref tr, .ref fd, .ref po, .int m52, .int m53]) := ha_0
            have hC_ : (0 ≤ a2_1162.toInt ∧ a2_1162.toInt ≤ m6.toInt) ∧ m7.toInt ≤ a2_1162.toInt ∧ (b2_1156.toInt ≠ 0 ∨ m12.toInt = 0) ∧ (b2_1156.toInt ≠ 0 ∨ k2_1163.toInt ≠ 3 ∨ m7.toInt < a2_1162.toInt) := by refine ⟨⟨?_, ?_⟩, ?_, ?_, ?_⟩ <;> omega
            clear hp
            replace hC := hC_
            clear hC_
            refine lv_aload_n hx hb dX10_line_203 rfl (lv_at hl 3 rfl) ?_
            refine lv_iconst (v := 1) hx hb dX10_line_204 (by decide) ?_
            refine z_put (C := RX10) (T := TX10) (N := 54) (ci := 10) (v := .int 1) (fs' := [.int m0, .ref wd, .ref my, .ref ce, .ref mv, .ref ta, .int m6, .int a2_1162, .int k2_1163, .int p2_1164, .int v2_1165, .long w2_1166, .int b2_1156, .int p2_1157, .int m14, .int m15, .ref li, .ref ha, .ref lw, .ref st, .ref fo, .ref dr, .int 1, .ref ik, .int m24, .int m25, .long m26, .int m27, .int m28, .ref ro, .int m30, .ref ct, .ref se, .ref th, .ref cn, .ref be, .int m36, .ref du, .int m38, .ref db, .int m40, .int m41, .int m42, .ref pn, .ref wg, .ref wh, .ref tn, .ref he, .int m48, .ref tr, .ref fd, .ref po, .int m52, .int m53]) hx hb hT zin_X10 tyX10_ok nmX10 hown hK hw hm_mm hf_mm rfl 22 (by decide) (hT _ kw_1190) rfl rfl rfl (Nat.le_of_ble_eq_true rfl) rfl dX10_line_205 (fun H locs hw => ?_)
            obtain ⟨f1167, e_f1167⟩ : ∃ z, z = va_up f1161 mm (.inr (10, [.int m0, .ref wd, .ref my, .ref ce, .ref mv, .ref ta, .int m6, .int a2_1162, .int k2_1163, .int p2_1164, .int v2_1165, .long w2_1166, .int b2_1156, .int p2_1157, .int m14, .int m15, .ref li, .ref ha, .ref lw, .ref st, .ref fo, .ref dr, .int 1, .ref ik, .int m24, .int m25, .long m26, .int m27, .int m28, .ref ro, .int m30, .ref ct, .ref se, .ref th, .ref cn, .ref be, .int m36, .ref du, .int m38, .ref db, .int m40, .int m41, .int m42, .ref pn, .ref wg, .ref wh, .ref tn, .ref he, .int m48, .ref tr, .ref fd, .ref po, .int m52, .int m53])) := ⟨_, rfl⟩
            rw [← e_f1167] at hw
            have hf_ta : f1167 ta = .inl (cy 0, 1600, .inl gta) := (congrFun e_f1167 ta).trans (z_up_ne (z_tne hf_ta hf_mm (m := 12900) (n := 10) rfl rfl (by decide)) hf_ta)
            have hf_ha : f1167 ha = .inl (cy 1, 30, .inl gha) := (congrFun e_f1167 ha).trans (z_up_ne (z_tne hf_ha hf_mm (m := 340) (n := 10) rfl rfl (by decide)) hf_ha)
            have hf_lw : f1167 lw = .inl (cy 1, 25, .inl glw) := (congrFun e_f1167 lw).trans (z_up_ne (z_tne hf_lw hf_mm (m := 300) (n := 10) rfl rfl (by decide)) hf_lw)
            have hf_st : f1167 st = .inl (cy 1, 20, .inl gst) := (congrFun e_f1167 st).trans (z_up_ne (z_tne hf_st hf_mm (m := 260) (n := 10) rfl rfl (by decide)) hf_st)
            have hf_fo : f1167 fo = .inl (cy 1, 180, .inl gfo) := (congrFun e_f1167 fo).trans (z_up_ne (z_tne hf_fo hf_mm (m := 1540) (n := 10) rfl rfl (by decide)) hf_fo)
            have hf_dr : f1167 dr = .inl (cy 1, 520, .inl gdr) := (congrFun e_f1167 dr).trans (z_up_ne (z_tne hf_dr hf_mm (m := 4260) (n := 10) rfl rfl (by decide)) hf_dr)
            have hf_mm : f1167 mm = .inr (10, [.int m0, .ref wd, .ref my, .ref ce, .ref mv, .ref ta, .int m6, .int a2_1162, .int k2_1163, .int p2_1164, .int v2_1165, .long w2_1166, .int b2_1156, .int p2_1157, .int m14, .int m15, .ref li, .ref ha, .ref lw, .ref st, .ref fo, .ref dr, .int 1, .ref ik, .int m24, .int m25, .long m26, .int m27, .int m28, .ref ro, .int m30, .ref ct, .ref se, .ref th, .ref cn, .ref be, .int m36, .ref du, .int m38, .ref db, .int m40, .int m41, .int m42, .ref pn, .ref wg, .ref wh, .ref tn, .ref he, .int m48, .ref tr, .ref fd, .ref po, .int m52, .int m53]) := (congrFun e_f1167 mm).trans z_up_self
            have hfr : ∀ b ∈ L, b ≠ mm → b ≠ ha → b ≠ lw → b ≠ st → b ≠ fo → b ≠ dr → f1167 b = f b := fun b hb h0 h1 h2 h3 h4 h5 => (congrFun e_f1167 b).trans (z_up_ne h0 (hfr b hb h0 h1 h2 h3 h4 h5))
            refine lv_aload_n hx hb dX10_line_208 rfl (lv_at hl 3 rfl) ?_
            refine z_get (C := RX10) (T := TX10) (N := 54) (ci := 10) (v := .ref ha) hx hb hT zin_X10 hown hK hw hm_mm hf_mm rfl 17 (by decide) (hT _ kw_1185) rfl dX10_line_209 ?_
            refine lv_bipush (v := 26) hx hb dX10_line_212 (by decide) ?_
            refine lv_aload_n hx hb dX10_line_214 rfl (lv_at hl 3 rfl) ?_
            refine lv_iconst (v := 1) hx hb dX10_line_215 (by decide) ?_
            refine lv_iconst (v := 5) hx hb dX10_line_216 (by decide) ?_
            have hz1168 := (show (1 : Int32).toInt = 1 by decide)
            have hz1169 := (show (5 : Int32).toInt = 5 by decide)
            refine z_calliV (cells := 0) (slots := 0) (b := mm) (As := [.int 1, .int 5]) (rest := [.int 26, .ref ha]) (ci := 10) (q0 := (RX10, TX10, 54)) ⟨hx, hb, hml, hown, hT⟩ (c_X10_number l hm_mm hm_ta hf_mm hf_ta (by first | omega | decide | assumption) (by first | omega | decide | assumption)) (cwV 2 hT (z_goodV (fun _ h => h) kw_1420 kw_1422 kw_42 kw_96 kw_1423) rfl rfl rfl (by decide +kernel) ⟨by decide, by decide⟩) z_mv hKK hK hw hA hm_mm hf_mm rfl rfl rfl hl.1 rfl (Nat.le_of_ble_eq_true rfl) dX10_line_217 ⟨by decide, by decide⟩ (fun r1170 u H locs hp hw => ?_)
            obtain ⟨L1171, f1172⟩ := u
            obtain ⟨hsb, hfm, a2_1173, k2_1174, p2_1175, v2_1176, b2_1177, q2_1178, w2_1179, ha_0, hp⟩ := hp
            have hsb : L = L1171 := hsb
            subst hsb
            have hsb : ∀ b ∈ L, b ∈ L := fun _ h => h
            have hw : z_H D vwCl (z_A L sz) s.heap L f1172 H locs := hw
            have hfr : ∀ b ∈ L, b ≠ mm → b ≠ ha → b ≠ lw → b ≠ st → b ≠ fo → b ≠ dr → f1172 b = f b := fun b hb h0 h1 h2 h3 h4 h5 => (hfm b hb h0).trans (hfr b hb h0 h1 h2 h3 h4 h5)
            have hf_ta : f1172 ta = .inl (cy 0, 1600, .inl gta) := (hfm ta hm_ta (z_tne hf_ta hf_mm (m := 12900) (n := 10) rfl rfl (by decide))).trans hf_ta
            have hf_ha : f1172 ha = .inl (cy 1, 30, .inl gha) := (hfm ha hm_ha (z_tne hf_ha hf_mm (m := 340) (n := 10) rfl rfl (by decide))).trans hf_ha
            have hf_lw : f1172 lw = .inl (cy 1, 25, .inl glw) := (hfm lw hm_lw (z_tne hf_lw hf_mm (m := 300) (n := 10) rfl rfl (by decide))).trans hf_lw
            have hf_st : f1172 st = .inl (cy 1, 20, .inl gst) := (hfm st hm_st (z_tne hf_st hf_mm (m := 260) (n := 10) rfl rfl (by decide))).trans hf_st
            have hf_fo : f1172 fo = .inl (cy 1, 180, .inl gfo) := (hfm fo hm_fo (z_tne hf_fo hf_mm (m := 1540) (n := 10) rfl rfl (by decide))).trans hf_fo
            have hf_dr : f1172 dr = .inl (cy 1, 520, .inl gdr) := (hfm dr hm_dr (z_tne hf_dr hf_mm (m := 4260) (n := 10) rfl rfl (by decide))).trans hf_dr
            have hf_mm : f1172 mm = .inr (10, [.int m0, .ref wd, .ref my, .ref ce, .ref mv, .ref ta, .int m6, .int a2_1173, .int k2_1174, .int p2_1175, .int v2_1176, .long w2_1179, .int b2_1177, .int q2_1178, .int m14, .int m15, .ref li, .ref ha, .ref lw, .ref st, .ref fo, .ref dr, .int 1, .ref ik, .int m24, .int m25, .long m26, .int m27, .int m28, .ref ro, .int m30, .ref ct, .ref se, .ref th, .ref cn, .ref be, .int m36, .ref du, .int m38, .ref db, .int m40, .int m41, .int m42, .ref pn, .ref wg, .ref wh, .ref tn, .ref he, .int m48, .ref tr, .ref fd, .ref po, .int m52, .int m53]) := ha_0
            have hR_r1170 : 1 ≤ r1170.toInt ∧ r1170.toInt ≤ 5 := by omega
            have hC_ : (0 ≤ a2_1173.toInt ∧ a2_1173.toInt ≤ m6.toInt) ∧ m7.toInt ≤ a2_1173.toInt ∧ (b2_1177.toInt ≠ 0 ∨ m12.toInt = 0) ∧ (b2_1177.toInt ≠ 0 ∨ k2_1174.toInt ≠ 3 ∨ m7.toInt < a2_1173.toInt) := by refine ⟨⟨?_, ?_⟩, ?_, ?_, ?_⟩ <;> omega
            clear hp
            replace hC := hC_
            clear hC_
            refine z_iast hx hb hK hw 1 hm_ha hf_ha rfl (z_ix (show (26 : Int32).toInt = 26 by decide) (by decide)) dX10_line_220 (fun H locs hw => ?_)
            obtain ⟨f1181, e_f1181⟩ : ∃ z, z = va_up f1172 ha (.inl (cy 1, 30, .inl (upd gha (26 : Int32).toNatClampNeg r1170))) := ⟨_, rfl⟩
            rw [← e_f1181] at hw
            have hf_mm : f1181 mm = .inr (10, [.int m0, .ref wd, .ref my, .ref ce, .ref mv, .ref ta, .int m6, .int a2_1173, .int k2_1174, .int p2_1175, .int v2_1176, .long w2_1179, .int b2_1177, .int q2_1178, .int m14, .int m15, .ref li, .ref ha, .ref lw, .ref st, .ref fo, .ref dr, .int 1, .ref ik, .int m24, .int m25, .long m26, .int m27, .int m28, .ref ro, .int m30, .ref ct, .ref se, .ref th, .ref cn, .ref be, .int m36, .ref du, .int m38, .ref db, .int m40, .int m41, .int m42, .ref pn, .ref wg, .ref wh, .ref tn, .ref he, .int m48, .ref tr, .ref fd, .ref po, .int m52, .int m53]) := (congrFun e_f1181 mm).trans (z_up_ne (z_tne hf_mm hf_ha (m := 10) (n := 340) rfl rfl (by decide)) hf_mm)
            have hf_ta : f1181 ta = .inl (cy 0, 1600, .inl gta) := (congrFun e_f1181 ta).trans (z_up_ne (z_tne hf_ta hf_ha (m := 12900) (n := 340) rfl rfl (by decide)) hf_ta)
            have hf_lw : f1181 lw = .inl (cy 1, 25, .inl glw) := (congrFun e_f1181 lw).trans (z_up_ne (z_tne hf_lw hf_ha (m := 300) (n := 340) rfl rfl (by decide)) hf_lw)
            have hf_st : f1181 st = .inl (cy 1, 20, .inl gst) := (congrFun e_f1181 st).trans (z_up_ne (z_tne hf_st hf_ha (m := 260) (n := 340) rfl rfl (by decide)) hf_st)
            have hf_fo : f1181 fo = .inl (cy 1, 180, .inl gfo) := (congrFun e_f1181 fo).trans (z_up_ne (z_tne hf_fo hf_ha (m := 1540) (n := 340) rfl rfl (by decide)) hf_fo)
            have hf_dr : f1181 dr = .inl (cy 1, 520, .inl gdr) := (congrFun e_f1181 dr).trans (z_up_ne (z_tne hf_dr hf_ha (m := 4260) (n := 340) rfl rfl (by decide)) hf_dr)
            have hf_ha : f1181 ha = .inl (cy 1, 30, .inl (upd gha (26 : Int32).toNatClampNeg r1170)) := (congrFun e_f1181 ha).trans z_up_self
            have hfr : ∀ b ∈ L, b ≠ mm → b ≠ ha → b ≠ lw → b ≠ st → b ≠ fo → b ≠ dr → f1181 b = f b := fun b hb h0 h1 h2 h3 h4 h5 => (congrFun e_f1181 b).trans (z_up_ne h1 (hfr b hb h0 h1 h2 h3 h4 h5))
            obtain ⟨g1180, e_g1180⟩ : ∃ z, z = (upd gha (26 : Int32).toNatClampNeg r1170) := ⟨_, rfl⟩
            rw [← e_g1180] at hf_ha
            have hq_ha : ∀ j : Nat, (q_hasR hz) j (g1180 j) := z_updQ hq_ha e_g1180 (show q_hasR _ _ _ from ⟨(show q_has _ _ from ⟨(fun h => absurd h (by decide)), (fun h => absurd h (by decide)), (fun _ => (show 0 ≤ (r1170 : Int32).toInt ∧ (r1170 : Int32).toInt ≤ 5 by first | decide | omega)), (fun h => absurd h (by decide))⟩), fun h => absurd h (by decide)⟩)
            refine lv_goto (tgt := 335) hx hb dX10_line_221 (by decide) ?_
            exact z_vret hx hb hr hlk (by decide) (by decide) hw (⟨hsub, hfr, a2_1173, k2_1174, p2_1175, v2_1176, b2_1177, q2_1178, 1, w2_1179, g1180, glw, gst, gfo, gdr, hf_mm, hf_ha, hf_lw, hf_st, hf_fo, hf_dr, hq_ha, hq_lw, hq_st, hq_dr, by omega, by omega, by omega, by omega, rfl⟩) dX10_line_335
          · skip
            exact z_vret hx hb hr hlk (by decide) (by decide) hw (⟨hsub, hfr, m7, m8, m9, m10, b2_1156, p2_1157, m22, m11, gha, glw, gst, gfo, gdr, hf_mm, hf_ha, hf_lw, hf_st, hf_fo, hf_dr, hq_ha, hq_lw, hq_st, hq_dr, by omega, by omega, by omega, by omega, rfl⟩) dX10_line_88
        · skip
          refine lv_aload_n hx hb dX10_line_35 rfl (lv_at hl 3 rfl) ?_
          refine lv_iconst (v := 3) hx hb dX10_line_36 (by decide) ?_
          have hz1182 := (show (3 : Int32).toInt = 3 by decide)
          refine z_calliV (cells := 0) (slots := 0) (b := mm) (As := [.int 3]) (rest := []) (ci := 10) (q0 := (RX10, TX10, 54)) ⟨hx, hb, hml, hown, hT⟩ (c_X10_hasRead l hm_mm hm_ha hf_mm hf_ha hq_ha (by decide)) (cwV 1 hT (z_goodV (fun _ h => h) kw_1434 kw_1436 kw_44 kw_96 kw_1437) rfl rfl rfl (by decide +kernel) ⟨by decide, by decide⟩) z_mv hKK hK hw hA hm_mm hf_mm rfl rfl rfl hl.1 rfl (Nat.le_of_ble_eq_true rfl) dX10_line_37 ⟨by decide, by decide⟩ (fun r1183 u H locs hp hw => ?_)
          obtain ⟨rfl, hp⟩ := hp
          have hw : z_H D vwCl (z_A L sz) s.heap L f H locs := hw
          have h3e1184 : (gha 27).toInt = r1183.toInt := by rw [hp]; rfl
          have hh1185 : 0 ≤ r1183.toInt ∧ r1183.toInt ≤ 12 := by rw [hp]; exact (hq_ha 27).1.2.2.2 rfl
          refine z_if_le (tgt := 48) hx hb rfl dX10_line_40 (by decide) (fun c1186 => ?_) (fun c1186 => ?_)
          · skip
            refine lv_iload_n hx hb dX10_line_48 rfl (lv_at hl 2 rfl) ?_
            refine z_if_eq (tgt := 62) hx hb (show (0 : Int32).toInt = 0 by decide) dX10_line_49 (by decide) (fun _ => ?_) (fun h => absurd h (by decide))
            refine lv_iload_n hx hb dX10_line_62 rfl (lv_at hl 1 rfl) ?_
            refine z_if_eq (tgt := 81) hx hb (show (0 : Int32).toInt = 0 by decide) dX10_line_63 (by decide) (fun _ => ?_) (fun h => absurd h (by decide))
            refine lv_aload_n hx hb dX10_line_81 rfl (lv_at hl 3 rfl) ?_
            refine z_get (C := RX10) (T := TX10) (N := 54) (ci := 10) (v := .int m12) hx hb hT zin_X10 hown hK hw hm_mm hf_mm rfl 12 (by decide) (hT _ kw_1180) rfl dX10_line_82 ?_
            refine z_if_eq (tgt := 89) hx hb rfl dX10_line_85 (by decide) (fun c1187 => ?_) (fun c1187 => ?_)
            · skip
              refine lv_iload_n hx hb dX10_line_89 rfl (lv_at hl 2 rfl) ?_
              refine z_if_eq (tgt := 104) hx hb (show (0 : Int32).toInt = 0 by decide) dX10_line_90 (by decide) (fun _ => ?_) (fun h => absurd h (by decide))
              refine lv_iload_n hx hb dX10_line_104 rfl (lv_at hl 1 rfl) ?_
              refine z_if_eq (tgt := 195) hx hb (show (0 : Int32).toInt = 0 by decide) dX10_line_105 (by decide) (fun _ => ?_) (fun h => absurd h (by decide))
              refine lv_iload_n hx hb dX10_line_195 rfl (lv_at hl 0 rfl) ?_
              refine z_if_eq (tgt := 224) hx hb (show (1 : Int32).toInt = 1 by decide) dX10_line_196 (by decide) (fun h => absurd h (by decide)) (fun _ => ?_)
              refine lv_aload_n hx hb dX10_line_199 rfl (lv_at hl 3 rfl) ?_
              refine z_callvV (cells := 0) (slots := 0) (b := mm) (As := []) (rest := []) (ci := 10) (q0 := (RX10, TX10, 54)) ⟨hx, hb, hml, hown, hT⟩ (c_X10_next l hm_mm hm_ta hf_mm hf_ta (by first | omega | decide | assumption) (by first | omega | decide | assumption)) (cwV 0 hT (z_goodV (fun _ h => h) kw_1381 kw_1383 kw_34 kw_96 kw_1384) rfl rfl rfl (by decide +kernel) ⟨by decide, by decide⟩) z_mv hKK hK hw hA hm_mm hf_mm rfl rfl rfl hl.1 rfl (Nat.le_of_ble_eq_true rfl) dX10_line_200 ⟨by decide, by decide⟩ (fun u H locs hp hw => ?_)
              obtain ⟨L1188, f1189⟩ := u
              obtain ⟨hsb, hfm, a2_1190, k2_1191, p2_1192, v2_1193, w2_1194, ha_0, hp⟩ := hp
              have hsb : L = L1188 := hsb
              subst hsb
              have hsb : ∀ b ∈ L, b ∈ L := fun _ h => h
              have hw : z_H D vwCl (z_A L sz) s.heap L f1189 H locs := hw
              have hfr : ∀ b ∈ L, b ≠ mm → b ≠ ha → b ≠ lw → b ≠ st → b ≠ fo → b ≠ dr → f1189 b = f b := fun b hb h0 h1 h2 h3 h4 h5 => (hfm b hb h0).trans (hfr b hb h0 h1 h2 h3 h4 h5)
              have hf_ta : f1189 ta = .inl (cy 0, 1600, .inl gta) := (hfm ta hm_ta (z_tne hf_ta hf_mm (m := 12900) (n := 10) rfl rfl (by decide))).trans hf_ta
              have hf_ha : f1189 ha = .inl (cy 1, 30, .inl gha) := (hfm ha hm_ha (z_tne hf_ha hf_mm (m := 340) (n := 10) rfl rfl (by decide))).trans hf_ha
              have hf_lw : f1189 lw = .inl (cy 1, 25, .inl glw) := (hfm lw hm_lw (z_tne hf_lw hf_mm (m := 300) (n := 10) rfl rfl (by decide))).trans hf_lw
              have hf_st : f1189 st = .inl (cy 1, 20, .inl gst) := (hfm st hm_st (z_tne hf_st hf_mm (m := 260) (n := 10) rfl rfl (by decide))).trans hf_st
              have hf_fo : f1189 fo = .inl (cy 1, 180, .inl gfo) := (hfm fo hm_fo (z_tne hf_fo hf_mm (m := 1540) (n := 10) rfl rfl (by decide))).trans hf_fo
              have hf_dr : f1189 dr = .inl (cy 1, 520, .inl gdr) := (hfm dr hm_dr (z_tne hf_dr hf_mm (m := 4260) (n := 10) rfl rfl (by decide))).trans hf_dr
              have hf_mm : f1189 mm = .inr (10, [.int m0, .ref wd, .ref my, .ref ce, .ref mv, .ref ta, .int m6, .int a2_1190, .int k2_1191, .int p2_1192, .int v2_1193, .long w2_1194, .int m12, .int m13, .int m14, .int m15, .ref li, .ref ha, .ref lw, .ref st, .ref fo, .ref dr, .int m22, .ref ik, .int m24, .int m25, .long m26, .int m27, .int m28, .ref ro, .int m30, .ref ct, .ref se, .ref th, .ref cn, .ref be, .int m36, .ref du, .int m38, .ref db, .int m40, .int m41, .int m42, .ref pn, .ref wg, .ref wh, .ref tn, .ref he, .int m48, .ref tr, .ref fd, .ref po, .int m52, .int m53]) := ha_0
              have hC_ : (0 ≤ a2_1190.toInt ∧ a2_1190.toInt ≤ m6.toInt) ∧ m7.toInt ≤ a2_1190.toInt ∧ (m12.toInt ≠ 0 ∨ m12.toInt = 0) ∧ (m12.toInt ≠ 0 ∨ k2_1191.toInt ≠ 3 ∨ m7.toInt < a2_1190.toInt) := by refine ⟨⟨?_, ?_⟩, ?_, ?_, ?_⟩ <;> omega
              clear hp
              replace hC := hC_
              clear hC_
              refine lv_aload_n hx hb dX10_line_203 rfl (lv_at hl 3 rfl) ?_
              refine lv_iconst (v := 1) hx hb dX10_line_204 (by decide) ?_
              refine z_put (C := RX10) (T := TX10) (N := 54) (ci := 10) (v := .int 1) (fs' := [.int m0, .ref wd, .ref my, .ref ce, .ref mv, .ref ta, .int m6, .int a2_1190, .int k2_1191, .int p2_1192, .int v2_1193, .long w2_1194, .int m12, .int m13, .int m14, .int m15, .ref li, .ref ha, .ref lw, .ref st, .ref fo, .ref dr, .int 1, .ref ik, .int m24, .int m25, .long m26, .int m27, .int m28, .ref ro, .int m30, .ref ct, .ref se, .ref th, .ref cn, .ref be, .int m36, .ref du, .int m38, .ref db, .int m40, .int m41, .int m42, .ref pn, .ref wg, .ref wh, .ref tn, .ref he, .int m48, .ref tr, .ref fd, .ref po, .int m52, .int m53]) hx hb hT zin_X10 tyX10_ok nmX10 hown hK hw hm_mm hf_mm rfl 22 (by decide) (hT _ kw_1190) rfl rfl rfl (Nat.le_of_ble_eq_true rfl) rfl dX10_line_205 (fun H locs hw => ?_)
              obtain ⟨f1195, e_f1195⟩ : ∃ z, z = va_up f1189 mm (.inr (10, [.int m0, .ref wd, .ref my, .ref ce, .ref mv, .ref ta, .int m6, .int a2_1190, .int k2_1191, .int p2_1192, .int v2_1193, .long w2_1194, .int m12, .int m13, .int m14, .int m15, .ref li, .ref ha, .ref lw, .ref st, .ref fo, .ref dr, .int 1, .ref ik, .int m24, .int m25, .long m26, .int m27, .int m28, .ref ro, .int m30, .ref ct, .ref se, .ref th, .ref cn, .ref be, .int m36, .ref du, .int m38, .ref db, .int m40, .int m41, .int m42, .ref pn, .ref wg, .ref wh, .ref tn, .ref he, .int m48, .ref tr, .ref fd, .ref po, .int m52, .int m53])) := ⟨_, rfl⟩
              rw [← e_f1195] at hw
              have hf_ta : f1195 ta = .inl (cy 0, 1600, .inl gta) := (congrFun e_f1195 ta).trans (z_up_ne (z_tne hf_ta hf_mm (m := 12900) (n := 10) rfl rfl (by decide)) hf_ta)
              have hf_ha : f1195 ha = .inl (cy 1, 30, .inl gha) := (congrFun e_f1195 ha).trans (z_up_ne (z_tne hf_ha hf_mm (m := 340) (n := 10) rfl rfl (by decide)) hf_ha)
              have hf_lw : f1195 lw = .inl (cy 1, 25, .inl glw) := (congrFun e_f1195 lw).trans (z_up_ne (z_tne hf_lw hf_mm (m := 300) (n := 10) rfl rfl (by decide)) hf_lw)
              have hf_st : f1195 st = .inl (cy 1, 20, .inl gst) := (congrFun e_f1195 st).trans (z_up_ne (z_tne hf_st hf_mm (m := 260) (n := 10) rfl rfl (by decide)) hf_st)
              have hf_fo : f1195 fo = .inl (cy 1, 180, .inl gfo) := (congrFun e_f1195 fo).trans (z_up_ne (z_tne hf_fo hf_mm (m := 1540) (n := 10) rfl rfl (by decide)) hf_fo)
              have hf_dr : f1195 dr = .inl (cy 1, 520, .inl gdr) := (congrFun e_f1195 dr).trans (z_up_ne (z_tne hf_dr hf_mm (m := 4260) (n := 10) rfl rfl (by decide)) hf_dr)
              have hf_mm : f1195 mm = .inr (10, [.int m0, .ref wd, .ref my, .ref ce, .ref mv, .ref ta, .int m6, .int a2_1190, .int k2_1191, .int p2_1192, .int v2_1193, .long w2_1194, .int m12, .int m13, .int m14, .int m15, .ref li, .ref ha, .ref lw, .ref st, .ref fo, .ref dr, .int 1, .ref ik, .int m24, .int m25, .long m26, .int m27, .int m28, .ref ro, .int m30, .ref ct, .ref se, .ref th, .ref cn, .ref be, .int m36, .ref du, .int m38, .ref db, .int m40, .int m41, .int m42, .ref pn, .ref wg, .ref wh, .ref tn, .ref he, .int m48, .ref tr, .ref fd, .ref po, .int m52, .int m53]) := (congrFun e_f1195 mm).trans z_up_self
              have hfr : ∀ b ∈ L, b ≠ mm → b ≠ ha → b ≠ lw → b ≠ st → b ≠ fo → b ≠ dr → f1195 b = f b := fun b hb h0 h1 h2 h3 h4 h5 => (congrFun e_f1195 b).trans (z_up_ne h0 (hfr b hb h0 h1 h2 h3 h4 h5))
              refine lv_aload_n hx hb dX10_line_208 rfl (lv_at hl 3 rfl) ?_
              refine z_get (C := RX10) (T := TX10) (N := 54) (ci := 10) (v := .ref ha) hx hb hT zin_X10 hown hK hw hm_mm hf_mm rfl 17 (by decide) (hT _ kw_1185) rfl dX10_line_209 ?_
              refine lv_bipush (v := 26) hx hb dX10_line_212 (by decide) ?_
              refine lv_aload_n hx hb dX10_line_214 rfl (lv_at hl 3 rfl) ?_
              refine lv_iconst (v := 1) hx hb dX10_line_215 (by decide) ?_
              refine lv_iconst (v := 5) hx hb dX10_line_216 (by decide) ?_
              have hz1196 := (show (1 : Int32).toInt = 1 by decide)
              have hz1197 := (show (5 : Int32).toInt = 5 by decide)
              refine z_calliV (cells := 0) (slots := 0) (b := mm) (As := [.int 1, .int 5]) (rest := [.int 26, .ref ha]) (ci := 10) (q0 := (RX10, TX10, 54)) ⟨hx, hb, hml, hown, hT⟩ (c_X10_number l hm_mm hm_ta hf_mm hf_ta (by first | omega | decide | assumption) (by first | omega | decide | assumption)) (cwV 2 hT (z_goodV (fun _ h => h) kw_1420 kw_1422 kw_42 kw_96 kw_1423) rfl rfl rfl (by decide +kernel) ⟨by decide, by decide⟩) z_mv hKK hK hw hA hm_mm hf_mm rfl rfl rfl hl.1 rfl (Nat.le_of_ble_eq_true rfl) dX10_line_217 ⟨by decide, by decide⟩ (fun r1198 u H locs hp hw => ?_)
              obtain ⟨L1199, f1200⟩ := u
              obtain ⟨hsb, hfm, a2_1201, k2_1202, p2_1203, v2_1204, b2_1205, q2_1206, w2_1207, ha_0, hp⟩ := hp
              have hsb : L = L1199 := hsb
              subst hsb
              have hsb : ∀ b ∈ L, b ∈ L := fun _ h => h
              have hw : z_H D vwCl (z_A L sz) s.heap L f1200 H locs := hw
              have hfr : ∀ b ∈ L, b ≠ mm → b ≠ ha → b ≠ lw → b ≠ st → b ≠ fo → b ≠ dr → f1200 b = f b := fun b hb h0 h1 h2 h3 h4 h5 => (hfm b hb h0).trans (hfr b hb h0 h1 h2 h3 h4 h5)
              have hf_ta : f1200 ta = .inl (cy 0, 1600, .inl gta) := (hfm ta hm_ta (z_tne hf_ta hf_mm (m := 12900) (n := 10) rfl rfl (by decide))).trans hf_ta
              have hf_ha : f1200 ha = .inl (cy 1, 30, .inl gha) := (hfm ha hm_ha (z_tne hf_ha hf_mm (m := 340) (n := 10) rfl rfl (by decide))).trans hf_ha
              have hf_lw : f1200 lw = .inl (cy 1, 25, .inl glw) := (hfm lw hm_lw (z_tne hf_lw hf_mm (m := 300) (n := 10) rfl rfl (by decide))).trans hf_lw
              have hf_st : f1200 st = .inl (cy 1, 20, .inl gst) := (hfm st hm_st (z_tne hf_st hf_mm (m := 260) (n := 10) rfl rfl (by decide))).trans hf_st
              have hf_fo : f1200 fo = .inl (cy 1, 180, .inl gfo) := (hfm fo hm_fo (z_tne hf_fo hf_mm (m := 1540) (n := 10) rfl rfl (by decide))).trans hf_fo
              have hf_dr : f1200 dr = .inl (cy 1, 520, .inl gdr) := (hfm dr hm_dr (z_tne hf_dr hf_mm (m := 4260) (n := 10) rfl rfl (by decide))).trans hf_dr
              have hf_mm : f1200 mm = .inr (10, [.int m0, .ref wd, .ref my, .ref ce, .ref mv, .ref ta, .int m6, .int a2_1201, .int k2_1202, .int p2_1203, .int v2_1204, .long w2_1207, .int b2_1205, .int q2_1206, .int m14, .int m15, .ref li, .ref ha, .ref lw, .ref st, .ref fo, .ref dr, .int 1, .ref ik, .int m24, .int m25, .long m26, .int m27, .int m28, .ref ro, .int m30, .ref ct, .ref se, .ref th, .ref cn, .ref be, .int m36, .ref du, .int m38, .ref db, .int m40, .int m41, .int m42, .ref pn, .ref wg, .ref wh, .ref tn, .ref he, .int m48, .ref tr, .ref fd, .ref po, .int m52, .int m53]) := ha_0
              have hR_r1198 : 1 ≤ r1198.toInt ∧ r1198.toInt ≤ 5 := by omega
              have hC_ : (0 ≤ a2_1201.toInt ∧ a2_1201.toInt ≤ m6.toInt) ∧ m7.toInt ≤ a2_1201.toInt ∧ (b2_1205.toInt ≠ 0 ∨ m12.toInt = 0) ∧ (b2_1205.toInt ≠ 0 ∨ k2_1202.toInt ≠ 3 ∨ m7.toInt < a2_1201.toInt) := by refine ⟨⟨?_, ?_⟩, ?_, ?_, ?_⟩ <;> omega
              clear hp
              replace hC := hC_
              clear hC_
              refine z_iast hx hb hK hw 1 hm_ha hf_ha rfl (z_ix (show (26 : Int32).toInt = 26 by decide) (by decide)) dX10_line_220 (fun H locs hw => ?_)
              obtain ⟨f1209, e_f1209⟩ : ∃ z, z = va_up f1200 ha (.inl (cy 1, 30, .inl (upd gha (26 : Int32).toNatClampNeg r1198))) := ⟨_, rfl⟩
              rw [← e_f1209] at hw
              have hf_mm : f1209 mm = .inr (10, [.int m0, .ref wd, .ref my, .ref ce, .ref mv, .ref ta, .int m6, .int a2_1201, .int k2_1202, .int p2_1203, .int v2_1204, .long w2_1207, .int b2_1205, .int q2_1206, .int m14, .int m15, .ref li, .ref ha, .ref lw, .ref st, .ref fo, .ref dr, .int 1, .ref ik, .int m24, .int m25, .long m26, .int m27, .int m28, .ref ro, .int m30, .ref ct, .ref se, .ref th, .ref cn, .ref be, .int m36, .ref du, .int m38, .ref db, .int m40, .int m41, .int m42, .ref pn, .ref wg, .ref wh, .ref tn, .ref he, .int m48, .ref tr, .ref fd, .ref po, .int m52, .int m53]) := (congrFun e_f1209 mm).trans (z_up_ne (z_tne hf_mm hf_ha (m := 10) (n := 340) rfl rfl (by decide)) hf_mm)
              have hf_ta : f1209 ta = .inl (cy 0, 1600, .inl gta) := (congrFun e_f1209 ta).trans (z_up_ne (z_tne hf_ta hf_ha (m := 12900) (n := 340) rfl rfl (by decide)) hf_ta)
              have hf_lw : f1209 lw = .inl (cy 1, 25, .inl glw) := (congrFun e_f1209 lw).trans (z_up_ne (z_tne hf_lw hf_ha (m := 300) (n := 340) rfl rfl (by decide)) hf_lw)
              have hf_st : f1209 st = .inl (cy 1, 20, .inl gst) := (congrFun e_f1209 st).trans (z_up_ne (z_tne hf_st hf_ha (m := 260) (n := 340) rfl rfl (by decide)) hf_st)
              have hf_fo : f1209 fo = .inl (cy 1, 180, .inl gfo) := (congrFun e_f1209 fo).trans (z_up_ne (z_tne hf_fo hf_ha (m := 1540) (n := 340) rfl rfl (by decide)) hf_fo)
              have hf_dr : f1209 dr = .inl (cy 1, 520, .inl gdr) := (congrFun e_f1209 dr).trans (z_up_ne (z_tne hf_dr hf_ha (m := 4260) (n := 340) rfl rfl (by decide)) hf_dr)
              have hf_ha : f1209 ha = .inl (cy 1, 30, .inl (upd gha (26 : Int32).toNatClampNeg r1198)) := (congrFun e_f1209 ha).trans z_up_self
              have hfr : ∀ b ∈ L, b ≠ mm → b ≠ ha → b ≠ lw → b ≠ st → b ≠ fo → b ≠ dr → f1209 b = f b := fun b hb h0 h1 h2 h3 h4 h5 => (congrFun e_f1209 b).trans (z_up_ne h1 (hfr b hb h0 h1 h2 h3 h4 h5))
              obtain ⟨g1208, e_g1208⟩ : ∃ z, z = (upd gha (26 : Int32).toNatClampNeg r1198) := ⟨_, rfl⟩
              rw [← e_g1208] at hf_ha
              have hq_ha : ∀ j : Nat, (q_hasR hz) j (g1208 j) := z_updQ hq_ha e_g1208 (show q_hasR _ _ _ from ⟨(show q_has _ _ from ⟨(fun h => absurd h (by decide)), (fun h => absurd h (by decide)), (fun _ => (show 0 ≤ (r1198 : Int32).toInt ∧ (r1198 : Int32).toInt ≤ 5 by first | decide | omega)), (fun h => absurd h (by decide))⟩), fun h => absurd h (by decide)⟩)
              refine lv_goto (tgt := 335) hx hb dX10_line_221 (by decide) ?_
              exact z_vret hx hb hr hlk (by decide) (by decide) hw (⟨hsub, hfr, a2_1201, k2_1202, p2_1203, v2_1204, b2_1205, q2_1206, 1, w2_1207, g1208, glw, gst, gfo, gdr, hf_mm, hf_ha, hf_lw, hf_st, hf_fo, hf_dr, hq_ha, hq_lw, hq_st, hq_dr, by omega, by omega, by omega, by omega, rfl⟩) dX10_line_335
            · skip
              exact z_vret hx hb hr hlk (by decide) (by decide) hw (⟨hsub, hfr, m7, m8, m9, m10, m12, m13, m22, m11, gha, glw, gst, gfo, gdr, hf_mm, hf_ha, hf_lw, hf_st, hf_fo, hf_dr, hq_ha, hq_lw, hq_st, hq_dr, by omega, by omega, by omega, by omega, rfl⟩) dX10_line_88
          · skip
            refine lv_aload_n hx hb dX10_line_43 rfl (lv_at hl 3 rfl) ?_
            refine lv_iconst (v := 2) hx hb dX10_line_44 (by decide) ?_
            have hz1210 := (show (2 : Int32).toInt = 2 by decide)
            refine z_callvV (cells := 0) (slots := 0) (b := mm) (As := [.int 2]) (rest := []) (ci := 10) (q0 := (RX10, TX10, 54)) ⟨hx, hb, hml, hown, hT⟩ (c_X10_fails l hm_mm hf_mm (by first | omega | decide | assumption)) (cwV 1 hT (z_goodV (fun _ h => h) kw_1411 kw_1413 kw_40 kw_96 kw_1414) rfl rfl rfl (by decide +kernel) ⟨by decide, by decide⟩) z_mv hKK hK hw hA hm_mm hf_mm rfl rfl rfl hl.1 rfl (Nat.le_of_ble_eq_true rfl) dX10_line_45 ⟨by decide, by decide⟩ (fun u H locs hp hw => ?_)
            obtain ⟨L1211, f1212⟩ := u
            obtain ⟨hsb, hfm, b2_1213, p2_1214, ha_0, hp⟩ := hp
            have hsb : L = L1211 := hsb
            subst hsb
            have hsb : ∀ b ∈ L, b ∈ L := fun _ h => h
            have hw : z_H D vwCl (z_A L sz) s.heap L f1212 H locs := hw
            have hfr : ∀ b ∈ L, b ≠ mm → b ≠ ha → b ≠ lw → b ≠ st → b ≠ fo → b ≠ dr → f1212 b = f b := fun b hb h0 h1 h2 h3 h4 h5 => (hfm b hb h0).trans (hfr b hb h0 h1 h2 h3 h4 h5)
            have hf_ta : f1212 ta = .inl (cy 0, 1600, .inl gta) := (hfm ta hm_ta (z_tne hf_ta hf_mm (m := 12900) (n := 10) rfl rfl (by decide))).trans hf_ta
            have hf_ha : f1212 ha = .inl (cy 1, 30, .inl gha) := (hfm ha hm_ha (z_tne hf_ha hf_mm (m := 340) (n := 10) rfl rfl (by decide))).trans hf_ha
            have hf_lw : f1212 lw = .inl (cy 1, 25, .inl glw) := (hfm lw hm_lw (z_tne hf_lw hf_mm (m := 300) (n := 10) rfl rfl (by decide))).trans hf_lw
            have hf_st : f1212 st = .inl (cy 1, 20, .inl gst) := (hfm st hm_st (z_tne hf_st hf_mm (m := 260) (n := 10) rfl rfl (by decide))).trans hf_st
            have hf_fo : f1212 fo = .inl (cy 1, 180, .inl gfo) := (hfm fo hm_fo (z_tne hf_fo hf_mm (m := 1540) (n := 10) rfl rfl (by decide))).trans hf_fo
            have hf_dr : f1212 dr = .inl (cy 1, 520, .inl gdr) := (hfm dr hm_dr (z_tne hf_dr hf_mm (m := 4260) (n := 10) rfl rfl (by decide))).trans hf_dr
            have hf_mm : f1212 mm = .inr (10, [.int m0, .ref wd, .ref my, .ref ce, .ref mv, .ref ta, .int m6, .int m7, .int m8, .int m9, .int m10, .long m11, .int b2_1213, .int p2_1214, .int m14, .int m15, .ref li, .ref ha, .ref lw, .ref st, .ref fo, .ref dr, .int m22, .ref ik, .int m24, .int m25, .long m26, .int m27, .int m28, .ref ro, .int m30, .ref ct, .ref se, .ref th, .ref cn, .ref be, .int m36, .ref du, .int m38, .ref db, .int m40, .int m41, .int m42, .ref pn, .ref wg, .ref wh, .ref tn, .ref he, .int m48, .ref tr, .ref fd, .ref po, .int m52, .int m53]) := ha_0
            have hq1215 := hp
            refine lv_iload_n hx hb dX10_line_48 rfl (lv_at hl 2 rfl) ?_
            refine z_if_eq (tgt := 62) hx hb (show (0 : Int32).toInt = 0 by decide) dX10_line_49 (by decide) (fun _ => ?_) (fun h => absurd h (by decide))
            refine lv_iload_n hx hb dX10_line_62 rfl (lv_at hl 1 rfl) ?_
            refine z_if_eq (tgt := 81) hx hb (show (0 : Int32).toInt = 0 by decide) dX10_line_63 (by decide) (fun _ => ?_) (fun h => absurd h (by decide))
            refine lv_aload_n hx hb dX10_line_81 rfl (lv_at hl 3 rfl) ?_
            refine z_get (C := RX10) (T := TX10) (N := 54) (ci := 10) (v := .int b2_1213) hx hb hT zin_X10 hown hK hw hm_mm hf_mm rfl 12 (by decide) (hT _ kw_1180) rfl dX10_line_82 ?_
            refine z_if_eq (tgt := 89) hx hb rfl dX10_line_85 (by decide) (fun c1216 => ?_) (fun c1216 => ?_)
            · skip
              refine lv_iload_n hx hb dX10_line_89 rfl (lv_at hl 2 rfl) ?_
              refine z_if_eq (tgt := 104) hx hb (show (0 : Int32).toInt = 0 by decide) dX10_line_90 (by decide) (fun _ => ?_) (fun h => absurd h (by decide))
              refine lv_iload_n hx hb dX10_line_104 rfl (lv_at hl 1 rfl) ?_
              refine z_if_eq (tgt := 195) hx hb (show (0 : Int32).toInt = 0 by decide) dX10_line_105 (by decide) (fun _ => ?_) (fun h => absurd h (by decide))
              refine lv_iload_n hx hb dX10_line_195 rfl (lv_at hl 0 rfl) ?_
              refine z_if_eq (tgt := 224) hx hb (show (1 : Int32).toInt = 1 by decide) dX10_line_196 (by decide) (fun h => absurd h (by decide)) (fun _ => ?_)
              refine lv_aload_n hx hb dX10_line_199 rfl (lv_at hl 3 rfl) ?_
              refine z_callvV (cells := 0) (slots := 0) (b := mm) (As := []) (rest := []) (ci := 10) (q0 := (RX10, TX10, 54)) ⟨hx, hb, hml, hown, hT⟩ (c_X10_next l hm_mm hm_ta hf_mm hf_ta (by first | omega | decide | assumption) (by first | omega | decide | assumption)) (cwV 0 hT (z_goodV (fun _ h => h) kw_1381 kw_1383 kw_34 kw_96 kw_1384) rfl rfl rfl (by decide +kernel) ⟨by decide, by decide⟩) z_mv hKK hK hw hA hm_mm hf_mm rfl rfl rfl hl.1 rfl (Nat.le_of_ble_eq_true rfl) dX10_line_200 ⟨by decide, by decide⟩ (fun u H locs hp hw => ?_)
              obtain ⟨L1217, f1218⟩ := u
              obtain ⟨hsb, hfm, a2_1219, k2_1220, p2_1221, v2_1222, w2_1223, ha_0, hp⟩ := hp
              have hsb : L = L1217 := hsb
              subst hsb
              have hsb : ∀ b ∈ L, b ∈ L := fun _ h => h
              have hw : z_H D vwCl (z_A L sz) s.heap L f1218 H locs := hw
              have hfr : ∀ b ∈ L, b ≠ mm → b ≠ ha → b ≠ lw → b ≠ st → b ≠ fo → b ≠ dr → f1218 b = f b := fun b hb h0 h1 h2 h3 h4 h5 => (hfm b hb h0).trans (hfr b hb h0 h1 h2 h3 h4 h5)
              have hf_ta : f1218 ta = .inl (cy 0, 1600, .inl gta) := (hfm ta hm_ta (z_tne hf_ta hf_mm (m := 12900) (n := 10) rfl rfl (by decide))).trans hf_ta
              have hf_ha : f1218 ha = .inl (cy 1, 30, .inl gha) := (hfm ha hm_ha (z_tne hf_ha hf_mm (m := 340) (n := 10) rfl rfl (by decide))).trans hf_ha
              have hf_lw : f1218 lw = .inl (cy 1, 25, .inl glw) := (hfm lw hm_lw (z_tne hf_lw hf_mm (m := 300) (n := 10) rfl rfl (by decide))).trans hf_lw
              have hf_st : f1218 st = .inl (cy 1, 20, .inl gst) := (hfm st hm_st (z_tne hf_st hf_mm (m := 260) (n := 10) rfl rfl (by decide))).trans hf_st
              have hf_fo : f1218 fo = .inl (cy 1, 180, .inl gfo) := (hfm fo hm_fo (z_tne hf_fo hf_mm (m := 1540) (n := 10) rfl rfl (by decide))).trans hf_fo
              have hf_dr : f1218 dr = .inl (cy 1, 520, .inl gdr) := (hfm dr hm_dr (z_tne hf_dr hf_mm (m := 4260) (n := 10) rfl rfl (by decide))).trans hf_dr
              have hf_mm : f1218 mm = .inr (10, [.int m0, .ref wd, .ref my, .ref ce, .ref mv, .ref ta, .int m6, .int a2_1219, .int k2_1220, .int p2_1221, .int v2_1222, .long w2_1223, .int b2_1213, .int p2_1214, .int m14, .int m15, .ref li, .ref ha, .ref lw, .ref st, .ref fo, .ref dr, .int m22, .ref ik, .int m24, .int m25, .long m26, .int m27, .int m28, .ref ro, .int m30, .ref ct, .ref se, .ref th, .ref cn, .ref be, .int m36, .ref du, .int m38, .ref db, .int m40, .int m41, .int m42, .ref pn, .ref wg, .ref wh, .ref tn, .ref he, .int m48, .ref tr, .ref fd, .ref po, .int m52, .int m53]) := ha_0
              have hC_ : (0 ≤ a2_1219.toInt ∧ a2_1219.toInt ≤ m6.toInt) ∧ m7.toInt ≤ a2_1219.toInt ∧ (b2_1213.toInt ≠ 0 ∨ m12.toInt = 0) ∧ (b2_1213.toInt ≠ 0 ∨ k2_1220.toInt ≠ 3 ∨ m7.toInt < a2_1219.toInt) := by refine ⟨⟨?_, ?_⟩, ?_, ?_, ?_⟩ <;> omega
              clear hp
              replace hC := hC_
              clear hC_
              refine lv_aload_n hx hb dX10_line_203 rfl (lv_at hl 3 rfl) ?_
              refine lv_iconst (v := 1) hx hb dX10_line_204 (by decide) ?_
              refine z_put (C := RX10) (T := TX10) (N := 54) (ci := 10) (v := .int 1) (fs' := [.int m0, .ref wd, .ref my, .ref ce, .ref mv, .ref ta, .int m6, .int a2_1219, .int k2_1220, .int p2_1221, .int v2_1222, .long w2_1223, .int b2_1213, .int p2_1214, .int m14, .int m15, .ref li, .ref ha, .ref lw, .ref st, .ref fo, .ref dr, .int 1, .ref ik, .int m24, .int m25, .long m26, .int m27, .int m28, .ref ro, .int m30, .ref ct, .ref se, .ref th, .ref cn, .ref be, .int m36, .ref du, .int m38, .ref db, .int m40, .int m41, .int m42, .ref pn, .ref wg, .ref wh, .ref tn, .ref he, .int m48, .ref tr, .ref fd, .ref po, .int m52, .int m53]) hx hb hT zin_X10 tyX10_ok nmX10 hown hK hw hm_mm hf_mm rfl 22 (by decide) (hT _ kw_1190) rfl rfl rfl (Nat.le_of_ble_eq_true rfl) rfl dX10_line_205 (fun H locs hw => ?_)
              obtain ⟨f1224, e_f1224⟩ : ∃ z, z = va_up f1218 mm (.inr (10, [.int m0, .ref wd, .ref my, .ref ce, .ref mv, .ref ta, .int m6, .int a2_1219, .int k2_1220, .int p2_1221, .int v2_1222, .long w2_1223, .int b2_1213, .int p2_1214, .int m14, .int m15, .ref li, .ref ha, .ref lw, .ref st, .ref fo, .ref dr, .int 1, .ref ik, .int m24, .int m25, .long m26, .int m27, .int m28, .ref ro, .int m30, .ref ct, .ref se, .ref th, .ref cn, .ref be, .int m36, .ref du, .int m38, .ref db, .int m40, .int m41, .int m42, .ref pn, .ref wg, .ref wh, .ref tn, .ref he, .int m48, .ref tr, .ref fd, .ref po, .int m52, .int m53])) := ⟨_, rfl⟩
              rw [← e_f1224] at hw
              have hf_ta : f1224 ta = .inl (cy 0, 1600, .inl gta) := (congrFun e_f1224 ta).trans (z_up_ne (z_tne hf_ta hf_mm (m := 12900) (n := 10) rfl rfl (by decide)) hf_ta)
              have hf_ha : f1224 ha = .inl (cy 1, 30, .inl gha) := (congrFun e_f1224 ha).trans (z_up_ne (z_tne hf_ha hf_mm (m := 340) (n := 10) rfl rfl (by decide)) hf_ha)
              have hf_lw : f1224 lw = .inl (cy 1, 25, .inl glw) := (congrFun e_f1224 lw).trans (z_up_ne (z_tne hf_lw hf_mm (m := 300) (n := 10) rfl rfl (by decide)) hf_lw)
              have hf_st : f1224 st = .inl (cy 1, 20, .inl gst) := (congrFun e_f1224 st).trans (z_up_ne (z_tne hf_st hf_mm (m := 260) (n := 10) rfl rfl (by decide)) hf_st)
              have hf_fo : f1224 fo = .inl (cy 1, 180, .inl gfo) := (congrFun e_f1224 fo).trans (z_up_ne (z_tne hf_fo hf_mm (m := 1540) (n := 10) rfl rfl (by decide)) hf_fo)
              have hf_dr : f1224 dr = .inl (cy 1, 520, .inl gdr) := (congrFun e_f1224 dr).trans (z_up_ne (z_tne hf_dr hf_mm (m := 4260) (n := 10) rfl rfl (by decide)) hf_dr)
              have hf_mm : f1224 mm = .inr (10, [.int m0, .ref wd, .ref my, .ref ce, .ref mv, .ref ta, .int m6, .int a2_1219, .int k2_1220, .int p2_1221, .int v2_1222, .long w2_1223, .int b2_1213, .int p2_1214, .int m14, .int m15, .ref li, .ref ha, .ref lw, .ref st, .ref fo, .ref dr, .int 1, .ref ik, .int m24, .int m25, .long m26, .int m27, .int m28, .ref ro, .int m30, .ref ct, .ref se, .ref th, .ref cn, .ref be, .int m36, .ref du, .int m38, .ref db, .int m40, .int m41, .int m42, .ref pn, .ref wg, .ref wh, .ref tn, .ref he, .int m48, .ref tr, .ref fd, .ref po, .int m52, .int m53]) := (congrFun e_f1224 mm).trans z_up_self
              have hfr : ∀ b ∈ L, b ≠ mm → b ≠ ha → b ≠ lw → b ≠ st → b ≠ fo → b ≠ dr → f1224 b = f b := fun b hb h0 h1 h2 h3 h4 h5 => (congrFun e_f1224 b).trans (z_up_ne h0 (hfr b hb h0 h1 h2 h3 h4 h5))
              refine lv_aload_n hx hb dX10_line_208 rfl (lv_at hl 3 rfl) ?_
              refine z_get (C := RX10) (T := TX10) (N := 54) (ci := 10) (v := .ref ha) hx hb hT zin_X10 hown hK hw hm_mm hf_mm rfl 17 (by decide) (hT _ kw_1185) rfl dX10_line_209 ?_
              refine lv_bipush (v := 26) hx hb dX10_line_212 (by decide) ?_
              refine lv_aload_n hx hb dX10_line_214 rfl (lv_at hl 3 rfl) ?_
              refine lv_iconst (v := 1) hx hb dX10_line_215 (by decide) ?_
              refine lv_iconst (v := 5) hx hb dX10_line_216 (by decide) ?_
              have hz1225 := (show (1 : Int32).toInt = 1 by decide)
              have hz1226 := (show (5 : Int32).toInt = 5 by decide)
              refine z_calliV (cells := 0) (slots := 0) (b := mm) (As := [.int 1, .int 5]) (rest := [.int 26, .ref ha]) (ci := 10) (q0 := (RX10, TX10, 54)) ⟨hx, hb, hml, hown, hT⟩ (c_X10_number l hm_mm hm_ta hf_mm hf_ta (by first | omega | decide | assumption) (by first | omega | decide | assumption)) (cwV 2 hT (z_goodV (fun _ h => h) kw_1420 kw_1422 kw_42 kw_96 kw_1423) rfl rfl rfl (by decide +kernel) ⟨by decide, by decide⟩) z_mv hKK hK hw hA hm_mm hf_mm rfl rfl rfl hl.1 rfl (Nat.le_of_ble_eq_true rfl) dX10_line_217 ⟨by decide, by decide⟩ (fun r1227 u H locs hp hw => ?_)
              obtain ⟨L1228, f1229⟩ := u
              obtain ⟨hsb, hfm, a2_1230, k2_1231, p2_1232, v2_1233, b2_1234, q2_1235, w2_1236, ha_0, hp⟩ := hp
              have hsb : L = L1228 := hsb
              subst hsb
              have hsb : ∀ b ∈ L, b ∈ L := fun _ h => h
              have hw : z_H D vwCl (z_A L sz) s.heap L f1229 H locs := hw
              have hfr : ∀ b ∈ L, b ≠ mm → b ≠ ha → b ≠ lw → b ≠ st → b ≠ fo → b ≠ dr → f1229 b = f b := fun b hb h0 h1 h2 h3 h4 h5 => (hfm b hb h0).trans (hfr b hb h0 h1 h2 h3 h4 h5)
              have hf_ta : f1229 ta = .inl (cy 0, 1600, .inl gta) := (hfm ta hm_ta (z_tne hf_ta hf_mm (m := 12900) (n := 10) rfl rfl (by decide))).trans hf_ta
              have hf_ha : f1229 ha = .inl (cy 1, 30, .inl gha) := (hfm ha hm_ha (z_tne hf_ha hf_mm (m := 340) (n := 10) rfl rfl (by decide))).trans hf_ha
              have hf_lw : f1229 lw = .inl (cy 1, 25, .inl glw) := (hfm lw hm_lw (z_tne hf_lw hf_mm (m := 300) (n := 10) rfl rfl (by decide))).trans hf_lw
              have hf_st : f1229 st = .inl (cy 1, 20, .inl gst) := (hfm st hm_st (z_tne hf_st hf_mm (m := 260) (n := 10) rfl rfl (by decide))).trans hf_st
              have hf_fo : f1229 fo = .inl (cy 1, 180, .inl gfo) := (hfm fo hm_fo (z_tne hf_fo hf_mm (m := 1540) (n := 10) rfl rfl (by decide))).trans hf_fo
              have hf_dr : f1229 dr = .inl (cy 1, 520, .inl gdr) := (hfm dr hm_dr (z_tne hf_dr hf_mm (m := 4260) (n := 10) rfl rfl (by decide))).trans hf_dr
              have hf_mm : f1229 mm = .inr (10, [.int m0, .ref wd, .ref my, .ref ce, .ref mv, .ref ta, .int m6, .int a2_1230, .int k2_1231, .int p2_1232, .int v2_1233, .long w2_1236, .int b2_1234, .int q2_1235, .int m14, .int m15, .ref li, .ref ha, .ref lw, .ref st, .ref fo, .ref dr, .int 1, .ref ik, .int m24, .int m25, .long m26, .int m27, .int m28, .ref ro, .int m30, .ref ct, .ref se, .ref th, .ref cn, .ref be, .int m36, .ref du, .int m38, .ref db, .int m40, .int m41, .int m42, .ref pn, .ref wg, .ref wh, .ref tn, .ref he, .int m48, .ref tr, .ref fd, .ref po, .int m52, .int m53]) := ha_0
              have hR_r1227 : 1 ≤ r1227.toInt ∧ r1227.toInt ≤ 5 := by omega
              have hC_ : (0 ≤ a2_1230.toInt ∧ a2_1230.toInt ≤ m6.toInt) ∧ m7.toInt ≤ a2_1230.toInt ∧ (b2_1234.toInt ≠ 0 ∨ m12.toInt = 0) ∧ (b2_1234.toInt ≠ 0 ∨ k2_1231.toInt ≠ 3 ∨ m7.toInt < a2_1230.toInt) := by refine ⟨⟨?_, ?_⟩, ?_, ?_, ?_⟩ <;> omega
              clear hp
              replace hC := hC_
              clear hC_
              refine z_iast hx hb hK hw 1 hm_ha hf_ha rfl (z_ix (show (26 : Int32).toInt = 26 by decide) (by decide)) dX10_line_220 (fun H locs hw => ?_)
              obtain ⟨f1238, e_f1238⟩ : ∃ z, z = va_up f1229 ha (.inl (cy 1, 30, .inl (upd gha (26 : Int32).toNatClampNeg r1227))) := ⟨_, rfl⟩
              rw [← e_f1238] at hw
              have hf_mm : f1238 mm = .inr (10, [.int m0, .ref wd, .ref my, .ref ce, .ref mv, .ref ta, .int m6, .int a2_1230, .int k2_1231, .int p2_1232, .int v2_1233, .long w2_1236, .int b2_1234, .int q2_1235, .int m14, .int m15, .ref li, .ref ha, .ref lw, .ref st, .ref fo, .ref dr, .int 1, .ref ik, .int m24, .int m25, .long m26, .int m27, .int m28, .ref ro, .int m30, .ref ct, .ref se, .ref th, .ref cn, .ref be, .int m36, .ref du, .int m38, .ref db, .int m40, .int m41, .int m42, .ref pn, .ref wg, .ref wh, .ref tn, .ref he, .int m48, .ref tr, .ref fd, .ref po, .int m52, .int m53]) := (congrFun e_f1238 mm).trans (z_up_ne (z_tne hf_mm hf_ha (m := 10) (n := 340) rfl rfl (by decide)) hf_mm)
              have hf_ta : f1238 ta = .inl (cy 0, 1600, .inl gta) := (congrFun e_f1238 ta).trans (z_up_ne (z_tne hf_ta hf_ha (m := 12900) (n := 340) rfl rfl (by decide)) hf_ta)
              have hf_lw : f1238 lw = .inl (cy 1, 25, .inl glw) := (congrFun e_f1238 lw).trans (z_up_ne (z_tne hf_lw hf_ha (m := 300) (n := 340) rfl rfl (by decide)) hf_lw)
              have hf_st : f1238 st = .inl (cy 1, 20, .inl gst) := (congrFun e_f1238 st).trans (z_up_ne (z_tne hf_st hf_ha (m := 260) (n := 340) rfl rfl (by decide)) hf_st)
              have hf_fo : f1238 fo = .inl (cy 1, 180, .inl gfo) := (congrFun e_f1238 fo).trans (z_up_ne (z_tne hf_fo hf_ha (m := 1540) (n := 340) rfl rfl (by decide)) hf_fo)
              have hf_dr : f1238 dr = .inl (cy 1, 520, .inl gdr) := (congrFun e_f1238 dr).trans (z_up_ne (z_tne hf_dr hf_ha (m := 4260) (n := 340) rfl rfl (by decide)) hf_dr)
              have hf_ha : f1238 ha = .inl (cy 1, 30, .inl (upd gha (26 : Int32).toNatClampNeg r1227)) := (congrFun e_f1238 ha).trans z_up_self
              have hfr : ∀ b ∈ L, b ≠ mm → b ≠ ha → b ≠ lw → b ≠ st → b ≠ fo → b ≠ dr → f1238 b = f b := fun b hb h0 h1 h2 h3 h4 h5 => (congrFun e_f1238 b).trans (z_up_ne h1 (hfr b hb h0 h1 h2 h3 h4 h5))
              obtain ⟨g1237, e_g1237⟩ : ∃ z, z = (upd gha (26 : Int32).toNatClampNeg r1227) := ⟨_, rfl⟩
              rw [← e_g1237] at hf_ha
              have hq_ha : ∀ j : Nat, (q_hasR hz) j (g1237 j) := z_updQ hq_ha e_g1237 (show q_hasR _ _ _ from ⟨(show q_has _ _ from ⟨(fun h => absurd h (by decide)), (fun h => absurd h (by decide)), (fun _ => (show 0 ≤ (r1227 : Int32).toInt ∧ (r1227 : Int32).toInt ≤ 5 by first | decide | omega)), (fun h => absurd h (by decide))⟩), fun h => absurd h (by decide)⟩)
              refine lv_goto (tgt := 335) hx hb dX10_line_221 (by decide) ?_
              exact z_vret hx hb hr hlk (by decide) (by decide) hw (⟨hsub, hfr, a2_1230, k2_1231, p2_1232, v2_1233, b2_1234, q2_1235, 1, w2_1236, g1237, glw, gst, gfo, gdr, hf_mm, hf_ha, hf_lw, hf_st, hf_fo, hf_dr, hq_ha, hq_lw, hq_st, hq_dr, by omega, by omega, by omega, by omega, rfl⟩) dX10_line_335
            · skip
              exact z_vret hx hb hr hlk (by decide) (by decide) hw (⟨hsub, hfr, m7, m8, m9, m10, b2_1213, p2_1214, m22, m11, gha, glw, gst, gfo, gdr, hf_mm, hf_ha, hf_lw, hf_st, hf_fo, hf_dr, hq_ha, hq_lw, hq_st, hq_dr, by omega, by omega, by omega, by omega, rfl⟩) dX10_line_88
      · skip
        refine lv_istore_n (lv' := [(3, .int 0), (2, .int 0), (1, .int 0), (0, .ref mm)]) hx hb dX10_line_23 rfl hl (by decide) rfl (fun ls hl => ?_)
        refine lv_iload_n hx hb dX10_line_24 rfl (lv_at hl 0 rfl) ?_
        refine z_if_eq (tgt := 48) hx hb (show (0 : Int32).toInt = 0 by decide) dX10_line_25 (by decide) (fun _ => ?_) (fun h => absurd h (by decide))
        refine lv_iload_n hx hb dX10_line_48 rfl (lv_at hl 2 rfl) ?_
        refine z_if_eq (tgt := 62) hx hb (show (0 : Int32).toInt = 0 by decide) dX10_line_49 (by decide) (fun _ => ?_) (fun h => absurd h (by decide))
        refine lv_iload_n hx hb dX10_line_62 rfl (lv_at hl 1 rfl) ?_
        refine z_if_eq (tgt := 81) hx hb (show (0 : Int32).toInt = 0 by decide) dX10_line_63 (by decide) (fun _ => ?_) (fun h => absurd h (by decide))
        refine lv_aload_n hx hb dX10_line_81 rfl (lv_at hl 3 rfl) ?_
        refine z_get (C := RX10) (T := TX10) (N := 54) (ci := 10) (v := .int m12) hx hb hT zin_X10 hown hK hw hm_mm hf_mm rfl 12 (by decide) (hT _ kw_1180) rfl dX10_line_82 ?_
        refine z_if_eq (tgt := 89) hx hb rfl dX10_line_85 (by decide) (fun c1239 => ?_) (fun c1239 => ?_)
        · skip
          refine lv_iload_n hx hb dX10_line_89 rfl (lv_at hl 2 rfl) ?_
          refine z_if_eq (tgt := 104) hx hb (show (0 : Int32).toInt = 0 by decide) dX10_line_90 (by decide) (fun _ => ?_) (fun h => absurd h (by decide))
          refine lv_iload_n hx hb dX10_line_104 rfl (lv_at hl 1 rfl) ?_
          refine z_if_eq (tgt := 195) hx hb (show (0 : Int32).toInt = 0 by decide) dX10_line_105 (by decide) (fun _ => ?_) (fun h => absurd h (by decide))
          refine lv_iload_n hx hb dX10_line_195 rfl (lv_at hl 0 rfl) ?_
          refine z_if_eq (tgt := 224) hx hb (show (0 : Int32).toInt = 0 by decide) dX10_line_196 (by decide) (fun _ => ?_) (fun h => absurd h (by decide))
          refine lv_aload_n hx hb dX10_line_224 rfl (lv_at hl 3 rfl) ?_
          refine lv_ldc2 (v := 8798) hx hb hown (hT _ kw_1450) dX10_line_225 ?_
          have hz1240 := (show (8798 : Int64).toInt = 8798 by decide)
          refine z_calliV (cells := 0) (slots := 0) (b := mm) (As := [.long 8798]) (rest := []) (ci := 10) (q0 := (RX10, TX10, 54)) ⟨hx, hb, hml, hown, hT⟩ (c_X10_takes l hm_mm hm_ta hf_mm hf_ta (by first | omega | decide | assumption) (by first | omega | decide | assumption)) (cwV 1 hT (z_goodV (fun _ h => h) kw_1403 kw_1405 kw_38 kw_96 kw_1406) rfl rfl rfl (by decide +kernel) ⟨by decide, by decide⟩) z_mv hKK hK hw hA hm_mm hf_mm rfl rfl rfl hl.1 rfl (Nat.le_of_ble_eq_true rfl) dX10_line_228 ⟨by decide, by decide⟩ (fun r1241 u H locs hp hw => ?_)
          obtain ⟨L1242, f1243⟩ := u
          obtain ⟨hsb, hfm, a2_1244, k2_1245, p2_1246, v2_1247, w2_1248, ha_0, hp⟩ := hp
          have hsb : L = L1242 := hsb
          subst hsb
          have hsb : ∀ b ∈ L, b ∈ L := fun _ h => h
          have hw : z_H D vwCl (z_A L sz) s.heap L f1243 H locs := hw
          have hfr : ∀ b ∈ L, b ≠ mm → b ≠ ha → b ≠ lw → b ≠ st → b ≠ fo → b ≠ dr → f1243 b = f b := fun b hb h0 h1 h2 h3 h4 h5 => (hfm b hb h0).trans (hfr b hb h0 h1 h2 h3 h4 h5)
          have hf_ta : f1243 ta = .inl (cy 0, 1600, .inl gta) := (hfm ta hm_ta (z_tne hf_ta hf_mm (m := 12900) (n := 10) rfl rfl (by decide))).trans hf_ta
          have hf_ha : f1243 ha = .inl (cy 1, 30, .inl gha) := (hfm ha hm_ha (z_tne hf_ha hf_mm (m := 340) (n := 10) rfl rfl (by decide))).trans hf_ha
          have hf_lw : f1243 lw = .inl (cy 1, 25, .inl glw) := (hfm lw hm_lw (z_tne hf_lw hf_mm (m := 300) (n := 10) rfl rfl (by decide))).trans hf_lw
          have hf_st : f1243 st = .inl (cy 1, 20, .inl gst) := (hfm st hm_st (z_tne hf_st hf_mm (m := 260) (n := 10) rfl rfl (by decide))).trans hf_st
          have hf_fo : f1243 fo = .inl (cy 1, 180, .inl gfo) := (hfm fo hm_fo (z_tne hf_fo hf_mm (m := 1540) (n := 10) rfl rfl (by decide))).trans hf_fo
          have hf_dr : f1243 dr = .inl (cy 1, 520, .inl gdr) := (hfm dr hm_dr (z_tne hf_dr hf_mm (m := 4260) (n := 10) rfl rfl (by decide))).trans hf_dr
          have hf_mm : f1243 mm = .inr (10, [.int m0, .ref wd, .ref my, .ref ce, .ref mv, .ref ta, .int m6, .int a2_1244, .int k2_1245, .int p2_1246, .int v2_1247, .long w2_1248, .int m12, .int m13, .int m14, .int m15, .ref li, .ref ha, .ref lw, .ref st, .ref fo, .ref dr, .int m22, .ref ik, .int m24, .int m25, .long m26, .int m27, .int m28, .ref ro, .int m30, .ref ct, .ref se, .ref th, .ref cn, .ref be, .int m36, .ref du, .int m38, .ref db, .int m40, .int m41, .int m42, .ref pn, .ref wg, .ref wh, .ref tn, .ref he, .int m48, .ref tr, .ref fd, .ref po, .int m52, .int m53]) := ha_0
          replace hp : (r1241 = 1 ∧ ((0 ≤ a2_1244.toInt ∧ a2_1244.toInt ≤ m6.toInt) ∧ m7.toInt ≤ a2_1244.toInt ∧ (m12.toInt ≠ 0 ∨ m12.toInt = 0) ∧ (m12.toInt ≠ 0 ∨ k2_1245.toInt ≠ 3 ∨ m7.toInt < a2_1244.toInt))) ∨ (r1241 = 0 ∧ (a2_1244.toInt = m7.toInt ∧ k2_1245.toInt = m8.toInt)) := hp.1.elim (fun h => Or.inl ⟨h.1, by refine ⟨⟨?_, ?_⟩, ?_, ?_, ?_⟩ <;> omega⟩) (fun h => Or.inr ⟨h.1, by omega, by omega⟩)
          rcases hp with ⟨rfl, h1249⟩ | ⟨rfl, h1249⟩
          · skip
            refine z_if_eq (tgt := 241) hx hb (show (1 : Int32).toInt = 1 by decide) dX10_line_231 (by decide) (fun h => absurd h (by decide)) (fun _ => ?_)
            refine lv_aload_n hx hb dX10_line_234 rfl (lv_at hl 3 rfl) ?_
            refine z_callvV (cells := 0) (slots := 0) (b := mm) (As := []) (rest := []) (ci := 10) (q0 := (RX10, TX10, 54)) ⟨hx, hb, hml, hown, hT⟩ (c_X10_lawLine l hm_mm hm_ta hm_lw hf_mm hf_ta hf_lw hq_lw (by first | omega | decide | assumption) (by first | omega | decide | assumption)) (cwV 0 hT (z_goodV (fun _ h => h) kw_1451 kw_1453 kw_46 kw_96 kw_1454) rfl rfl rfl (by decide +kernel) ⟨by decide, by decide⟩) z_mv hKK hK hw hA hm_mm hf_mm rfl rfl rfl hl.1 rfl (Nat.le_of_ble_eq_true rfl) dX10_line_235 ⟨by decide, by decide⟩ (fun u H locs hp hw => ?_)
            obtain ⟨L1250, f1251⟩ := u
            obtain ⟨hsb, hfm, a2_1252, k2_1253, p2_1254, v2_1255, b2_1256, q2_1257, w2_1258, nlw_1259, ha_0, ha_1, hq_lw, hp⟩ := hp
            have hsb : L = L1250 := hsb
            subst hsb
            have hsb : ∀ b ∈ L, b ∈ L := fun _ h => h
            have hw : z_H D vwCl (z_A L sz) s.heap L f1251 H locs := hw
            have hfr : ∀ b ∈ L, b ≠ mm → b ≠ ha → b ≠ lw → b ≠ st → b ≠ fo → b ≠ dr → f1251 b = f b := fun b hb h0 h1 h2 h3 h4 h5 => (hfm b hb h0 h2).trans (hfr b hb h0 h1 h2 h3 h4 h5)
            have hf_ta : f1251 ta = .inl (cy 0, 1600, .inl gta) := (hfm ta hm_ta (z_tne hf_ta hf_mm (m := 12900) (n := 10) rfl rfl (by decide)) (z_tne hf_ta hf_lw (m := 12900) (n := 300) rfl rfl (by decide))).trans hf_ta
            have hf_ha : f1251 ha = .inl (cy 1, 30, .inl gha) := (hfm ha hm_ha (z_tne hf_ha hf_mm (m := 340) (n := 10) rfl rfl (by decide)) (z_tne hf_ha hf_lw (m := 340) (n := 300) rfl rfl (by decide))).trans hf_ha
            have hf_st : f1251 st = .inl (cy 1, 20, .inl gst) := (hfm st hm_st (z_tne hf_st hf_mm (m := 260) (n := 10) rfl rfl (by decide)) (z_tne hf_st hf_lw (m := 260) (n := 300) rfl rfl (by decide))).trans hf_st
            have hf_fo : f1251 fo = .inl (cy 1, 180, .inl gfo) := (hfm fo hm_fo (z_tne hf_fo hf_mm (m := 1540) (n := 10) rfl rfl (by decide)) (z_tne hf_fo hf_lw (m := 1540) (n := 300) rfl rfl (by decide))).trans hf_fo
            have hf_dr : f1251 dr = .inl (cy 1, 520, .inl gdr) := (hfm dr hm_dr (z_tne hf_dr hf_mm (m := 4260) (n := 10) rfl rfl (by decide)) (z_tne hf_dr hf_lw (m := 4260) (n := 300) rfl rfl (by decide))).trans hf_dr
            have hf_mm : f1251 mm = .inr (10, [.int m0, .ref wd, .ref my, .ref ce, .ref mv, .ref ta, .int m6, .int a2_1252, .int k2_1253, .int p2_1254, .int v2_1255, .long w2_1258, .int b2_1256, .int q2_1257, .int m14, .int m15, .ref li, .ref ha, .ref lw, .ref st, .ref fo, .ref dr, .int m22, .ref ik, .int m24, .int m25, .long m26, .int m27, .int m28, .ref ro, .int m30, .ref ct, .ref se, .ref th, .ref cn, .ref be, .int m36, .ref du, .int m38, .ref db, .int m40, .int m41, .int m42, .ref pn, .ref wg, .ref wh, .ref tn, .ref he, .int m48, .ref tr, .ref fd, .ref po, .int m52, .int m53]) := ha_0
            have hf_lw : f1251 lw = .inl (cy 1, 25, .inl nlw_1259) := ha_1
            have hlwE := hp.2.2.2.2
            have hC_ : (0 ≤ a2_1252.toInt ∧ a2_1252.toInt ≤ m6.toInt) ∧ m7.toInt ≤ a2_1252.toInt ∧ (b2_1256.toInt ≠ 0 ∨ m12.toInt = 0) ∧ (b2_1256.toInt ≠ 0 ∨ k2_1253.toInt ≠ 3 ∨ m7.toInt < a2_1252.toInt) := by refine ⟨⟨?_, ?_⟩, ?_, ?_, ?_⟩ <;> omega
            clear hp
            replace hC := hC_
            clear hC_
            refine lv_goto (tgt := 335) hx hb dX10_line_238 (by decide) ?_
            exact z_vret hx hb hr hlk (by decide) (by decide) hw (⟨hsub, hfr, a2_1252, k2_1253, p2_1254, v2_1255, b2_1256, q2_1257, m22, w2_1258, gha, nlw_1259, gst, gfo, gdr, hf_mm, hf_ha, hf_lw, hf_st, hf_fo, hf_dr, hq_ha, hq_lw, hq_st, hq_dr, by omega, by omega, by omega, by omega, hlwE⟩) dX10_line_335
          · skip
            refine z_if_eq (tgt := 241) hx hb (show (0 : Int32).toInt = 0 by decide) dX10_line_231 (by decide) (fun _ => ?_) (fun h => absurd h (by decide))
            refine lv_aload_n hx hb dX10_line_241 rfl (lv_at hl 3 rfl) ?_
            refine lv_ldc2 (v := 10492274) hx hb hown (hT _ kw_1460) dX10_line_242 ?_
            have hz1260 := (show (10492274 : Int64).toInt = 10492274 by decide)
            refine z_calliV (cells := 0) (slots := 0) (b := mm) (As := [.long 10492274]) (rest := []) (ci := 10) (q0 := (RX10, TX10, 54)) ⟨hx, hb, hml, hown, hT⟩ (c_X10_takes l hm_mm hm_ta hf_mm hf_ta (by first | omega | decide | assumption) (by first | omega | decide | assumption)) (cwV 1 hT (z_goodV (fun _ h => h) kw_1403 kw_1405 kw_38 kw_96 kw_1406) rfl rfl rfl (by decide +kernel) ⟨by decide, by decide⟩) z_mv hKK hK hw hA hm_mm hf_mm rfl rfl rfl hl.1 rfl (Nat.le_of_ble_eq_true rfl) dX10_line_245 ⟨by decide, by decide⟩ (fun r1261 u H locs hp hw => ?_)
            obtain ⟨L1262, f1263⟩ := u
            obtain ⟨hsb, hfm, a2_1264, k2_1265, p2_1266, v2_1267, w2_1268, ha_0, hp⟩ := hp
            have hsb : L = L1262 := hsb
            subst hsb
            have hsb : ∀ b ∈ L, b ∈ L := fun _ h => h
            have hw : z_H D vwCl (z_A L sz) s.heap L f1263 H locs := hw
            have hfr : ∀ b ∈ L, b ≠ mm → b ≠ ha → b ≠ lw → b ≠ st → b ≠ fo → b ≠ dr → f1263 b = f b := fun b hb h0 h1 h2 h3 h4 h5 => (hfm b hb h0).trans (hfr b hb h0 h1 h2 h3 h4 h5)
            have hf_ta : f1263 ta = .inl (cy 0, 1600, .inl gta) := (hfm ta hm_ta (z_tne hf_ta hf_mm (m := 12900) (n := 10) rfl rfl (by decide))).trans hf_ta
            have hf_ha : f1263 ha = .inl (cy 1, 30, .inl gha) := (hfm ha hm_ha (z_tne hf_ha hf_mm (m := 340) (n := 10) rfl rfl (by decide))).trans hf_ha
            have hf_lw : f1263 lw = .inl (cy 1, 25, .inl glw) := (hfm lw hm_lw (z_tne hf_lw hf_mm (m := 300) (n := 10) rfl rfl (by decide))).trans hf_lw
            have hf_st : f1263 st = .inl (cy 1, 20, .inl gst) := (hfm st hm_st (z_tne hf_st hf_mm (m := 260) (n := 10) rfl rfl (by decide))).trans hf_st
            have hf_fo : f1263 fo = .inl (cy 1, 180, .inl gfo) := (hfm fo hm_fo (z_tne hf_fo hf_mm (m := 1540) (n := 10) rfl rfl (by decide))).trans hf_fo
            have hf_dr : f1263 dr = .inl (cy 1, 520, .inl gdr) := (hfm dr hm_dr (z_tne hf_dr hf_mm (m := 4260) (n := 10) rfl rfl (by decide))).trans hf_dr
            have hf_mm : f1263 mm = .inr (10, [.int m0, .ref wd, .ref my, .ref ce, .ref mv, .ref ta, .int m6, .int a2_1264, .int k2_1265, .int p2_1266, .int v2_1267, .long w2_1268, .int m12, .int m13, .int m14, .int m15, .ref li, .ref ha, .ref lw, .ref st, .ref fo, .ref dr, .int m22, .ref ik, .int m24, .int m25, .long m26, .int m27, .int m28, .ref ro, .int m30, .ref ct, .ref se, .ref th, .ref cn, .ref be, .int m36, .ref du, .int m38, .ref db, .int m40, .int m41, .int m42, .ref pn, .ref wg, .ref wh, .ref tn, .ref he, .int m48, .ref tr, .ref fd, .ref po, .int m52, .int m53]) := ha_0
            replace hp : (r1261 = 1 ∧ ((0 ≤ a2_1264.toInt ∧ a2_1264.toInt ≤ m6.toInt) ∧ m7.toInt ≤ a2_1264.toInt ∧ (m12.toInt ≠ 0 ∨ m12.toInt = 0) ∧ (m12.toInt ≠ 0 ∨ k2_1265.toInt ≠ 3 ∨ m7.toInt < a2_1264.toInt))) ∨ (r1261 = 0 ∧ (a2_1264.toInt = m7.toInt ∧ k2_1265.toInt = m8.toInt)) := hp.1.elim (fun h => Or.inl ⟨h.1, by refine ⟨⟨?_, ?_⟩, ?_, ?_, ?_⟩ <;> omega⟩) (fun h => Or.inr ⟨h.1, by omega, by omega⟩)
            rcases hp with ⟨rfl, h1269⟩ | ⟨rfl, h1269⟩
            · skip
              refine z_if_eq (tgt := 306) hx hb (show (1 : Int32).toInt = 1 by decide) dX10_line_248 (by decide) (fun h => absurd h (by decide)) (fun _ => ?_)
              refine lv_aload_n hx hb dX10_line_251 rfl (lv_at hl 3 rfl) ?_
              refine lv_iconst (v := 0) hx hb dX10_line_252 (by decide) ?_
              refine lv_aload_n hx hb dX10_line_253 rfl (lv_at hl 3 rfl) ?_
              refine lv_iconst (v := 0) hx hb dX10_line_254 (by decide) ?_
              have hz1270 := (show (0 : Int32).toInt = 0 by decide)
              refine z_calliV (cells := 0) (slots := 0) (b := mm) (As := [.int 0]) (rest := [.int 0, .ref mm]) (ci := 10) (q0 := (RX10, TX10, 54)) ⟨hx, hb, hml, hown, hT⟩ (c_X10_hasRead l hm_mm hm_ha hf_mm hf_ha hq_ha (by decide)) (cwV 1 hT (z_goodV (fun _ h => h) kw_1434 kw_1436 kw_44 kw_96 kw_1437) rfl rfl rfl (by decide +kernel) ⟨by decide, by decide⟩) z_mv hKK hK hw hA hm_mm hf_mm rfl rfl rfl hl.1 rfl (Nat.le_of_ble_eq_true rfl) dX10_line_255 ⟨by decide, by decide⟩ (fun r1271 u H locs hp hw => ?_)
              obtain ⟨rfl, hp⟩ := hp
              have hw : z_H D vwCl (z_A L sz) s.heap L f1263 H locs := hw
              have hh1272 : 0 ≤ r1271.toInt ∧ r1271.toInt ≤ 4 := by rw [hp]; exact (hq_ha 24).1.1 rfl
              refine lv_iconst (v := 1) hx hb dX10_line_258 (by decide) ?_
              refine lv_isub hx hb dX10_line_259 ?_
              refine lv_topi (fun w1273 e_w1273 => ?_)
              have i_w1273 : w1273.toInt = (r1271.toInt - 1) := z_subI e_w1273 rfl (show (1 : Int32).toInt = 1 by decide) (by omega)
              have hz1274 := (show (0 : Int32).toInt = 0 by decide)
              refine z_calliV (cells := 0) (slots := 0) (b := mm) (As := [.int 0, .int w1273]) (rest := []) (ci := 10) (q0 := (RX10, TX10, 54)) ⟨hx, hb, hml, hown, hT⟩ (c_X10_number l hm_mm hm_ta hf_mm hf_ta (by first | omega | decide | assumption) (by first | omega | decide | assumption)) (cwV 2 hT (z_goodV (fun _ h => h) kw_1420 kw_1422 kw_42 kw_96 kw_1423) rfl rfl rfl (by decide +kernel) ⟨by decide, by decide⟩) z_mv hKK hK hw hA hm_mm hf_mm rfl rfl rfl hl.1 rfl (Nat.le_of_ble_eq_true rfl) dX10_line_260 ⟨by decide, by decide⟩ (fun r1275 u H locs hp hw => ?_)
              obtain ⟨L1276, f1277⟩ := u
              obtain ⟨hsb, hfm, a2_1278, k2_1279, p2_1280, v2_1281, b2_1282, q2_1283, w2_1284, ha_0, hp⟩ := hp
              have hsb : L = L1276 := hsb
              subst hsb
              have hsb : ∀ b ∈ L, b ∈ L := fun _ h => h
              have hw : z_H D vwCl (z_A L sz) s.heap L f1277 H locs := hw
              have hfr : ∀ b ∈ L, b ≠ mm → b ≠ ha → b ≠ lw → b ≠ st → b ≠ fo → b ≠ dr → f1277 b = f b := fun b hb h0 h1 h2 h3 h4 h5 => (hfm b hb h0).trans (hfr b hb h0 h1 h2 h3 h4 h5)
              have hf_ta : f1277 ta = .inl (cy 0, 1600, .inl gta) := (hfm ta hm_ta (z_tne hf_ta hf_mm (m := 12900) (n := 10) rfl rfl (by decide))).trans hf_ta
              have hf_ha : f1277 ha = .inl (cy 1, 30, .inl gha) := (hfm ha hm_ha (z_tne hf_ha hf_mm (m := 340) (n := 10) rfl rfl (by decide))).trans hf_ha
              have hf_lw : f1277 lw = .inl (cy 1, 25, .inl glw) := (hfm lw hm_lw (z_tne hf_lw hf_mm (m := 300) (n := 10) rfl rfl (by decide))).trans hf_lw
              have hf_st : f1277 st = .inl (cy 1, 20, .inl gst) := (hfm st hm_st (z_tne hf_st hf_mm (m := 260) (n := 10) rfl rfl (by decide))).trans hf_st
              have hf_fo : f1277 fo = .inl (cy 1, 180, .inl gfo) := (hfm fo hm_fo (z_tne hf_fo hf_mm (m := 1540) (n := 10) rfl rfl (by decide))).trans hf_fo
              have hf_dr : f1277 dr = .inl (cy 1, 520, .inl gdr) := (hfm dr hm_dr (z_tne hf_dr hf_mm (m := 4260) (n := 10) rfl rfl (by decide))).trans hf_dr
              have hf_mm : f1277 mm = .inr (10, [.int m0, .ref wd, .ref my, .ref ce, .ref mv, .ref ta, .int m6, .int a2_1278, .int k2_1279, .int p2_1280, .int v2_1281, .long w2_1284, .int b2_1282, .int q2_1283, .int m14, .int m15, .ref li, .ref ha, .ref lw, .ref st, .ref fo, .ref dr, .int m22, .ref ik, .int m24, .int m25, .long m26, .int m27, .int m28, .ref ro, .int m30, .ref ct, .ref se, .ref th, .ref cn, .ref be, .int m36, .ref du, .int m38, .ref db, .int m40, .int m41, .int m42, .ref pn, .ref wg, .ref wh, .ref tn, .ref he, .int m48, .ref tr, .ref fd, .ref po, .int m52, .int m53]) := ha_0
              have hR_r1275 : 0 ≤ r1275.toInt ∧ r1275.toInt ≤ 3 := by omega
              have hC_ : (0 ≤ a2_1278.toInt ∧ a2_1278.toInt ≤ m6.toInt) ∧ m7.toInt ≤ a2_1278.toInt ∧ (b2_1282.toInt ≠ 0 ∨ m12.toInt = 0) ∧ (b2_1282.toInt ≠ 0 ∨ k2_1279.toInt ≠ 3 ∨ m7.toInt < a2_1278.toInt) := by refine ⟨⟨?_, ?_⟩, ?_, ?_, ?_⟩ <;> omega
              clear hp
              replace hC := hC_
              clear hC_
              refine lv_istore (lv' := [(4, .int r1275), (3, .int 0), (2, .int 0), (1, .int 0), (0, .ref mm)]) hx hb dX10_line_263 hl (by decide) rfl (fun ls hl => ?_)
              refine lv_aload_n hx hb dX10_line_265 rfl (lv_at hl 4 rfl) ?_
              refine lv_ldc2 (v := 262) hx hb hown (hT _ kw_1461) dX10_line_266 ?_
              refine lv_iconst (v := 0) hx hb dX10_line_269 (by decide) ?_
              refine lv_aload_n hx hb dX10_line_270 rfl (lv_at hl 4 rfl) ?_
              refine z_get (C := RX10) (T := TX10) (N := 54) (ci := 10) (v := .ref lw) hx hb hT zin_X10 hown hK hw hm_mm hf_mm rfl 18 (by decide) (hT _ kw_1186) rfl dX10_line_271 ?_
              refine lv_bipush (v := 23) hx hb dX10_line_274 (by decide) ?_
              refine z_iald hx hb hK hw 1 hm_lw hf_lw rfl (z_ix (show (23 : Int32).toInt = 23 by decide) (by decide)) dX10_line_276 ?_
              refine lv_topi (fun w1285 e_w1285 => ?_)
              have hv_w1285 : 0 ≤ w1285.toInt ∧ w1285.toInt ≤ 999 := by rw [e_w1285]; exact (hq_lw _).1
              refine lv_iconst (v := 1) hx hb dX10_line_277 (by decide) ?_
              refine lv_isub hx hb dX10_line_278 ?_
              refine lv_topi (fun w1286 e_w1286 => ?_)
              have i_w1286 : w1286.toInt = (w1285.toInt - 1) := z_subI e_w1286 rfl (show (1 : Int32).toInt = 1 by decide) (by omega)
              have hz1287 := (show (262 : Int64).toInt = 262 by decide)
              have hz1288 := (show (0 : Int32).toInt = 0 by decide)
              refine z_calliV (cells := 0) (slots := 0) (b := mm) (As := [.long 262, .int 0, .int w1286]) (rest := []) (ci := 10) (q0 := (RX10, TX10, 54)) ⟨hx, hb, hml, hown, hT⟩ (c_X10_number_ l hm_mm hm_ta hf_mm hf_ta (by first | omega | decide | assumption) (by first | omega | decide | assumption)) (cwV 3 hT (z_goodV (fun _ h => h) kw_1416 kw_1418 kw_41 kw_96 kw_1419) rfl rfl rfl (by decide +kernel) ⟨by decide, by decide⟩) z_mv hKK hK hw hA hm_mm hf_mm rfl rfl rfl hl.1 rfl (Nat.le_of_ble_eq_true rfl) dX10_line_279 ⟨by decide, by decide⟩ (fun r1289 u H locs hp hw => ?_)
              obtain ⟨L1290, f1291⟩ := u
              obtain ⟨hsb, hfm, a2_1292, k2_1293, p2_1294, v2_1295, b2_1296, q2_1297, w2_1298, ha_0, hp⟩ := hp
              have hsb : L = L1290 := hsb
              subst hsb
              have hsb : ∀ b ∈ L, b ∈ L := fun _ h => h
              have hw : z_H D vwCl (z_A L sz) s.heap L f1291 H locs := hw
              have hfr : ∀ b ∈ L, b ≠ mm → b ≠ ha → b ≠ lw → b ≠ st → b ≠ fo → b ≠ dr → f1291 b = f b := fun b hb h0 h1 h2 h3 h4 h5 => (hfm b hb h0).trans (hfr b hb h0 h1 h2 h3 h4 h5)
              have hf_ta : f1291 ta = .inl (cy 0, 1600, .inl gta) := (hfm ta hm_ta (z_tne hf_ta hf_mm (m := 12900) (n := 10) rfl rfl (by decide))).trans hf_ta
              have hf_ha : f1291 ha = .inl (cy 1, 30, .inl gha) := (hfm ha hm_ha (z_tne hf_ha hf_mm (m := 340) (n := 10) rfl rfl (by decide))).trans hf_ha
              have hf_lw : f1291 lw = .inl (cy 1, 25, .inl glw) := (hfm lw hm_lw (z_tne hf_lw hf_mm (m := 300) (n := 10) rfl rfl (by decide))).trans hf_lw
              have hf_st : f1291 st = .inl (cy 1, 20, .inl gst) := (hfm st hm_st (z_tne hf_st hf_mm (m := 260) (n := 10) rfl rfl (by decide))).trans hf_st
              have hf_fo : f1291 fo = .inl (cy 1, 180, .inl gfo) := (hfm fo hm_fo (z_tne hf_fo hf_mm (m := 1540) (n := 10) rfl rfl (by decide))).trans hf_fo
              have hf_dr : f1291 dr = .inl (cy 1, 520, .inl gdr) := (hfm dr hm_dr (z_tne hf_dr hf_mm (m := 4260) (n := 10) rfl rfl (by decide))).trans hf_dr
              have hf_mm : f1291 mm = .inr (10, [.int m0, .ref wd, .ref my, .ref ce, .ref mv, .ref ta, .int m6, .int a2_1292, .int k2_1293, .int p2_1294, .int v2_1295, .long w2_1298, .int b2_1296, .int q2_1297, .int m14, .int m15, .ref li, .ref ha, .ref lw, .ref st, .ref fo, .ref dr, .int m22, .ref ik, .int m24, .int m25, .long m26, .int m27, .int m28, .ref ro, .int m30, .ref ct, .ref se, .ref th, .ref cn, .ref be, .int m36, .ref du, .int m38, .ref db, .int m40, .int m41, .int m42, .ref pn, .ref wg, .ref wh, .ref tn, .ref he, .int m48, .ref tr, .ref fd, .ref po, .int m52, .int m53]) := ha_0
              have hR_r1289 : 0 ≤ r1289.toInt ∧ r1289.toInt ≤ 998 := by omega
              have hC_ : (0 ≤ a2_1292.toInt ∧ a2_1292.toInt ≤ m6.toInt) ∧ m7.toInt ≤ a2_1292.toInt ∧ (b2_1296.toInt ≠ 0 ∨ m12.toInt = 0) ∧ (b2_1296.toInt ≠ 0 ∨ k2_1293.toInt ≠ 3 ∨ m7.toInt < a2_1292.toInt) := by refine ⟨⟨?_, ?_⟩, ?_, ?_, ?_⟩ <;> omega
              clear hp
              replace hC := hC_
              clear hC_
              refine lv_istore (lv' := [(5, .int r1289), (4, .int r1275), (3, .int 0), (2, .int 0), (1, .int 0), (0, .ref mm)]) hx hb dX10_line_282 hl (by decide) rfl (fun ls hl => ?_)
              refine lv_aload_n hx hb dX10_line_284 rfl (lv_at hl 5 rfl) ?_
              refine z_calliV (cells := 0) (slots := 0) (b := mm) (As := []) (rest := []) (ci := 10) (q0 := (RX10, TX10, 54)) ⟨hx, hb, hml, hown, hT⟩ (c_X10_isGood l hm_mm hf_mm) (cwV 0 hT (z_goodV (fun _ h => h) kw_1394 kw_1396 kw_36 kw_96 kw_1397) rfl rfl rfl (by decide +kernel) ⟨by decide, by decide⟩) z_mv hKK hK hw hA hm_mm hf_mm rfl rfl rfl hl.1 rfl (Nat.le_of_ble_eq_true rfl) dX10_line_285 ⟨by decide, by decide⟩ (fun r1299 u H locs hp hw => ?_)
              obtain ⟨rfl, hp⟩ := hp
              have hw : z_H D vwCl (z_A L sz) s.heap L f1291 H locs := hw
              rcases hp with ⟨rfl, h1300⟩ | ⟨rfl, h1300⟩
              · skip
                refine z_if_eq (tgt := 303) hx hb (show (1 : Int32).toInt = 1 by decide) dX10_line_288 (by decide) (fun h => absurd h (by decide)) (fun _ => ?_)
                refine lv_aload_n hx hb dX10_line_291 rfl (lv_at hl 5 rfl) ?_
                refine z_get (C := RX10) (T := TX10) (N := 54) (ci := 10) (v := .ref st) hx hb hT zin_X10 hown hK hw hm_mm hf_mm rfl 19 (by decide) (hT _ kw_1187) rfl dX10_line_292 ?_
                refine lv_bipush (v := 16) hx hb dX10_line_295 (by decide) ?_
                refine lv_iload hx hb dX10_line_297 (lv_at hl 1 rfl) ?_
                refine lv_iadd hx hb dX10_line_299 ?_
                refine lv_topi (fun w1301 e_w1301 => ?_)
                have i_w1301 : w1301.toInt = (16 + r1275.toInt) := z_add e_w1301 (show (16 : Int32).toInt = 16 by decide) rfl (by omega)
                refine lv_iload hx hb dX10_line_300 (lv_at hl 0 rfl) ?_
                refine z_iast hx hb hK hw 1 hm_st hf_st rfl (z_ix i_w1301 (by omega)) dX10_line_302 (fun H locs hw => ?_)
                obtain ⟨f1303, e_f1303⟩ : ∃ z, z = va_up f1291 st (.inl (cy 1, 20, .inl (upd gst w1301.toNatClampNeg r1289))) := ⟨_, rfl⟩
                rw [← e_f1303] at hw
                have hf_mm : f1303 mm = .inr (10, [.int m0, .ref wd, .ref my, .ref ce, .ref mv, .ref ta, .int m6, .int a2_1292, .int k2_1293, .int p2_1294, .int v2_1295, .long w2_1298, .int b2_1296, .int q2_1297, .int m14, .int m15, .ref li, .ref ha, .ref lw, .ref st, .ref fo, .ref dr, .int m22, .ref ik, .int m24, .int m25, .long m26, .int m27, .int m28, .ref ro, .int m30, .ref ct, .ref se, .ref th, .ref cn, .ref be, .int m36, .ref du, .int m38, .ref db, .int m40, .int m41, .int m42, .ref pn, .ref wg, .ref wh, .ref tn, .ref he, .int m48, .ref tr, .ref fd, .ref po, .int m52, .int m53]) := (congrFun e_f1303 mm).trans (z_up_ne (z_tne hf_mm hf_st (m := 10) (n := 260) rfl rfl (by decide)) hf_mm)
                have hf_ta : f1303 ta = .inl (cy 0, 1600, .inl gta) := (congrFun e_f1303 ta).trans (z_up_ne (z_tne hf_ta hf_st (m := 12900) (n := 260) rfl rfl (by decide)) hf_ta)
                have hf_ha : f1303 ha = .inl (cy 1, 30, .inl gha) := (congrFun e_f1303 ha).trans (z_up_ne (z_tne hf_ha hf_st (m := 340) (n := 260) rfl rfl (by decide)) hf_ha)
                have hf_lw : f1303 lw = .inl (cy 1, 25, .inl glw) := (congrFun e_f1303 lw).trans (z_up_ne (z_tne hf_lw hf_st (m := 300) (n := 260) rfl rfl (by decide)) hf_lw)
                have hf_fo : f1303 fo = .inl (cy 1, 180, .inl gfo) := (congrFun e_f1303 fo).trans (z_up_ne (z_tne hf_fo hf_st (m := 1540) (n := 260) rfl rfl (by decide)) hf_fo)
                have hf_dr : f1303 dr = .inl (cy 1, 520, .inl gdr) := (congrFun e_f1303 dr).trans (z_up_ne (z_tne hf_dr hf_st (m := 4260) (n := 260) rfl rfl (by decide)) hf_dr)
                have hf_st : f1303 st = .inl (cy 1, 20, .inl (upd gst w1301.toNatClampNeg r1289)) := (congrFun e_f1303 st).trans z_up_self
                have hfr : ∀ b ∈ L, b ≠ mm → b ≠ ha → b ≠ lw → b ≠ st → b ≠ fo → b ≠ dr → f1303 b = f b := fun b hb h0 h1 h2 h3 h4 h5 => (congrFun e_f1303 b).trans (z_up_ne h3 (hfr b hb h0 h1 h2 h3 h4 h5))
                obtain ⟨g1302, e_g1302⟩ : ∃ z, z = (upd gst w1301.toNatClampNeg r1289) := ⟨_, rfl⟩
                rw [← e_g1302] at hf_st
                have hq_st : ∀ j : Nat, q_law j (g1302 j) := z_updQ hq_st e_g1302 (show 0 ≤ (r1289 : Int32).toInt ∧ (r1289 : Int32).toInt ≤ 999 by first | decide | omega)
                refine lv_goto (tgt := 335) hx hb dX10_line_303 (by decide) ?_
                exact z_vret hx hb hr hlk (by decide) (by decide) hw (⟨hsub, hfr, a2_1292, k2_1293, p2_1294, v2_1295, b2_1296, q2_1297, m22, w2_1298, gha, glw, g1302, gfo, gdr, hf_mm, hf_ha, hf_lw, hf_st, hf_fo, hf_dr, hq_ha, hq_lw, hq_st, hq_dr, by omega, by omega, by omega, by omega, rfl⟩) dX10_line_335
              · skip
                refine z_if_eq (tgt := 303) hx hb (show (0 : Int32).toInt = 0 by decide) dX10_line_288 (by decide) (fun _ => ?_) (fun h => absurd h (by decide))
                refine lv_goto (tgt := 335) hx hb dX10_line_303 (by decide) ?_
                exact z_vret hx hb hr hlk (by decide) (by decide) hw (⟨hsub, hfr, a2_1292, k2_1293, p2_1294, v2_1295, b2_1296, q2_1297, m22, w2_1298, gha, glw, gst, gfo, gdr, hf_mm, hf_ha, hf_lw, hf_st, hf_fo, hf_dr, hq_ha, hq_lw, hq_st, hq_dr, by omega, by omega, by omega, by omega, rfl⟩) dX10_line_335
            · skip
              refine z_if_eq (tgt := 306) hx hb (show (0 : Int32).toInt = 0 by decide) dX10_line_248 (by decide) (fun _ => ?_) (fun h => absurd h (by decide))
              refine lv_aload_n hx hb dX10_line_306 rfl (lv_at hl 3 rfl) ?_
              refine lv_ldc2 (v := 6406525) hx hb hown (hT _ kw_1446) dX10_line_307 ?_
              have hz1304 := (show (6406525 : Int64).toInt = 6406525 by decide)
              refine z_callvV (cells := 0) (slots := 0) (b := mm) (As := [.long 6406525]) (rest := []) (ci := 10) (q0 := (RX10, TX10, 54)) ⟨hx, hb, hml, hown, hT⟩ (c_X10_asks l hm_mm hm_ta hf_mm hf_ta (by first | omega | decide | assumption) (by first | omega | decide | assumption)) (cwV 1 hT (z_goodV (fun _ h => h) kw_1399 kw_1401 kw_37 kw_96 kw_1402) rfl rfl rfl (by decide +kernel) ⟨by decide, by decide⟩) z_mv hKK hK hw hA hm_mm hf_mm rfl rfl rfl hl.1 rfl (Nat.le_of_ble_eq_true rfl) dX10_line_310 ⟨by decide, by decide⟩ (fun u H locs hp hw => ?_)
              obtain ⟨L1305, f1306⟩ := u
              obtain ⟨hsb, hfm, a2_1307, k2_1308, p2_1309, v2_1310, b2_1311, q2_1312, w2_1313, ha_0, hp⟩ := hp
              have hsb : L = L1305 := hsb
              subst hsb
              have hsb : ∀ b ∈ L, b ∈ L := fun _ h => h
              have hw : z_H D vwCl (z_A L sz) s.heap L f1306 H locs := hw
              have hfr : ∀ b ∈ L, b ≠ mm → b ≠ ha → b ≠ lw → b ≠ st → b ≠ fo → b ≠ dr → f1306 b = f b := fun b hb h0 h1 h2 h3 h4 h5 => (hfm b hb h0).trans (hfr b hb h0 h1 h2 h3 h4 h5)
              have hf_ta : f1306 ta = .inl (cy 0, 1600, .inl gta) := (hfm ta hm_ta (z_tne hf_ta hf_mm (m := 12900) (n := 10) rfl rfl (by decide))).trans hf_ta
              have hf_ha : f1306 ha = .inl (cy 1, 30, .inl gha) := (hfm ha hm_ha (z_tne hf_ha hf_mm (m := 340) (n := 10) rfl rfl (by decide))).trans hf_ha
              have hf_lw : f1306 lw = .inl (cy 1, 25, .inl glw) := (hfm lw hm_lw (z_tne hf_lw hf_mm (m := 300) (n := 10) rfl rfl (by decide))).trans hf_lw
              have hf_st : f1306 st = .inl (cy 1, 20, .inl gst) := (hfm st hm_st (z_tne hf_st hf_mm (m := 260) (n := 10) rfl rfl (by decide))).trans hf_st
              have hf_fo : f1306 fo = .inl (cy 1, 180, .inl gfo) := (hfm fo hm_fo (z_tne hf_fo hf_mm (m := 1540) (n := 10) rfl rfl (by decide))).trans hf_fo
              have hf_dr : f1306 dr = .inl (cy 1, 520, .inl gdr) := (hfm dr hm_dr (z_tne hf_dr hf_mm (m := 4260) (n := 10) rfl rfl (by decide))).trans hf_dr
              have hf_mm : f1306 mm = .inr (10, [.int m0, .ref wd, .ref my, .ref ce, .ref mv, .ref ta, .int m6, .int a2_1307, .int k2_1308, .int p2_1309, .int v2_1310, .long w2_1313, .int b2_1311, .int q2_1312, .int m14, .int m15, .ref li, .ref ha, .ref lw, .ref st, .ref fo, .ref dr, .int m22, .ref ik, .int m24, .int m25, .long m26, .int m27, .int m28, .ref ro, .int m30, .ref ct, .ref se, .ref th, .ref cn, .ref be, .int m36, .ref du, .int m38, .ref db, .int m40, .int m41, .int m42, .ref pn, .ref wg, .ref wh, .ref tn, .ref he, .int m48, .ref tr, .ref fd, .ref po, .int m52, .int m53]) := ha_0
              have hC_ : (0 ≤ a2_1307.toInt ∧ a2_1307.toInt ≤ m6.toInt) ∧ m7.toInt ≤ a2_1307.toInt ∧ (b2_1311.toInt ≠ 0 ∨ m12.toInt = 0) ∧ (b2_1311.toInt ≠ 0 ∨ k2_1308.toInt ≠ 3 ∨ m7.toInt < a2_1307.toInt) := by refine ⟨⟨?_, ?_⟩, ?_, ?_, ?_⟩ <;> omega
              clear hp
              replace hC := hC_
              clear hC_
              refine lv_aload_n hx hb dX10_line_313 rfl (lv_at hl 3 rfl) ?_
              refine z_get (C := RX10) (T := TX10) (N := 54) (ci := 10) (v := .ref ha) hx hb hT zin_X10 hown hK hw hm_mm hf_mm rfl 17 (by decide) (hT _ kw_1185) rfl dX10_line_314 ?_
              refine lv_bipush (v := 29) hx hb dX10_line_317 (by decide) ?_
              refine lv_aload_n hx hb dX10_line_319 rfl (lv_at hl 3 rfl) ?_
              refine lv_ldc2 (v := 131638) hx hb hown (hT _ kw_1462) dX10_line_320 ?_
              refine lv_iconst (v := 0) hx hb dX10_line_323 (by decide) ?_
              refine lv_aload_n hx hb dX10_line_324 rfl (lv_at hl 3 rfl) ?_
              refine lv_iconst (v := 1) hx hb dX10_line_325 (by decide) ?_
              have hz1314 := (show (1 : Int32).toInt = 1 by decide)
              refine z_calliV (cells := 0) (slots := 0) (b := mm) (As := [.int 1]) (rest := [.int 0, .long 131638, .ref mm, .int 29, .ref ha]) (ci := 10) (q0 := (RX10, TX10, 54)) ⟨hx, hb, hml, hown, hT⟩ (c_X10_hasRead l hm_mm hm_ha hf_mm hf_ha hq_ha (by decide)) (cwV 1 hT (z_goodV (fun _ h => h) kw_1434 kw_1436 kw_44 kw_96 kw_1437) rfl rfl rfl (by decide +kernel) ⟨by decide, by decide⟩) z_mv hKK hK hw hA hm_mm hf_mm rfl rfl rfl hl.1 rfl (Nat.le_of_ble_eq_true rfl) dX10_line_326 ⟨by decide, by decide⟩ (fun r1315 u H locs hp hw => ?_)
              obtain ⟨rfl, hp⟩ := hp
              have hw : z_H D vwCl (z_A L sz) s.heap L f1306 H locs := hw
              have hh1316 : 0 ≤ r1315.toInt ∧ r1315.toInt ≤ 9 := by rw [hp]; exact (hq_ha 25).1.2.1 rfl
              refine lv_iconst (v := 1) hx hb dX10_line_329 (by decide) ?_
              refine lv_isub hx hb dX10_line_330 ?_
              refine lv_topi (fun w1317 e_w1317 => ?_)
              have i_w1317 : w1317.toInt = (r1315.toInt - 1) := z_subI e_w1317 rfl (show (1 : Int32).toInt = 1 by decide) (by omega)
              have hz1318 := (show (131638 : Int64).toInt = 131638 by decide)
              have hz1319 := (show (0 : Int32).toInt = 0 by decide)
              refine z_calliV (cells := 0) (slots := 0) (b := mm) (As := [.long 131638, .int 0, .int w1317]) (rest := [.int 29, .ref ha]) (ci := 10) (q0 := (RX10, TX10, 54)) ⟨hx, hb, hml, hown, hT⟩ (c_X10_number_ l hm_mm hm_ta hf_mm hf_ta (by first | omega | decide | assumption) (by first | omega | decide | assumption)) (cwV 3 hT (z_goodV (fun _ h => h) kw_1416 kw_1418 kw_41 kw_96 kw_1419) rfl rfl rfl (by decide +kernel) ⟨by decide, by decide⟩) z_mv hKK hK hw hA hm_mm hf_mm rfl rfl rfl hl.1 rfl (Nat.le_of_ble_eq_true rfl) dX10_line_331 ⟨by decide, by decide⟩ (fun r1320 u H locs hp hw => ?_)
              obtain ⟨L1321, f1322⟩ := u
              obtain ⟨hsb, hfm, a2_1323, k2_1324, p2_1325, v2_1326, b2_1327, q2_1328, w2_1329, ha_0, hp⟩ := hp
              have hsb : L = L1321 := hsb
              subst hsb
              have hsb : ∀ b ∈ L, b ∈ L := fun _ h => h
              have hw : z_H D vwCl (z_A L sz) s.heap L f1322 H locs := hw
              have hfr : ∀ b ∈ L, b ≠ mm → b ≠ ha → b ≠ lw → b ≠ st → b ≠ fo → b ≠ dr → f1322 b = f b := fun b hb h0 h1 h2 h3 h4 h5 => (hfm b hb h0).trans (hfr b hb h0 h1 h2 h3 h4 h5)
              have hf_ta : f1322 ta = .inl (cy 0, 1600, .inl gta) := (hfm ta hm_ta (z_tne hf_ta hf_mm (m := 12900) (n := 10) rfl rfl (by decide))).trans hf_ta
              have hf_ha : f1322 ha = .inl (cy 1, 30, .inl gha) := (hfm ha hm_ha (z_tne hf_ha hf_mm (m := 340) (n := 10) rfl rfl (by decide))).trans hf_ha
              have hf_lw : f1322 lw = .inl (cy 1, 25, .inl glw) := (hfm lw hm_lw (z_tne hf_lw hf_mm (m := 300) (n := 10) rfl rfl (by decide))).trans hf_lw
              have hf_st : f1322 st = .inl (cy 1, 20, .inl gst) := (hfm st hm_st (z_tne hf_st hf_mm (m := 260) (n := 10) rfl rfl (by decide))).trans hf_st
              have hf_fo : f1322 fo = .inl (cy 1, 180, .inl gfo) := (hfm fo hm_fo (z_tne hf_fo hf_mm (m := 1540) (n := 10) rfl rfl (by decide))).trans hf_fo
              have hf_dr : f1322 dr = .inl (cy 1, 520, .inl gdr) := (hfm dr hm_dr (z_tne hf_dr hf_mm (m := 4260) (n := 10) rfl rfl (by decide))).trans hf_dr
              have hf_mm : f1322 mm = .inr (10, [.int m0, .ref wd, .ref my, .ref ce, .ref mv, .ref ta, .int m6, .int a2_1323, .int k2_1324, .int p2_1325, .int v2_1326, .long w2_1329, .int b2_1327, .int q2_1328, .int m14, .int m15, .ref li, .ref ha, .ref lw, .ref st, .ref fo, .ref dr, .int m22, .ref ik, .int m24, .int m25, .long m26, .int m27, .int m28, .ref ro, .int m30, .ref ct, .ref se, .ref th, .ref cn, .ref be, .int m36, .ref du, .int m38, .ref db, .int m40, .int m41, .int m42, .ref pn, .ref wg, .ref wh, .ref tn, .ref he, .int m48, .ref tr, .ref fd, .ref po, .int m52, .int m53]) := ha_0
              have hR_r1320 : 0 ≤ r1320.toInt ∧ r1320.toInt ≤ 8 := by omega
              have hC_ : (0 ≤ a2_1323.toInt ∧ a2_1323.toInt ≤ m6.toInt) ∧ m7.toInt ≤ a2_1323.toInt ∧ (b2_1327.toInt ≠ 0 ∨ m12.toInt = 0) ∧ (b2_1327.toInt ≠ 0 ∨ k2_1324.toInt ≠ 3 ∨ m7.toInt < a2_1323.toInt) := by refine ⟨⟨?_, ?_⟩, ?_, ?_, ?_⟩ <;> omega
              clear hp
              replace hC := hC_
              clear hC_
              refine z_iast hx hb hK hw 1 hm_ha hf_ha rfl (z_ix (show (29 : Int32).toInt = 29 by decide) (by decide)) dX10_line_334 (fun H locs hw => ?_)
              obtain ⟨f1331, e_f1331⟩ : ∃ z, z = va_up f1322 ha (.inl (cy 1, 30, .inl (upd gha (29 : Int32).toNatClampNeg r1320))) := ⟨_, rfl⟩
              rw [← e_f1331] at hw
              have hf_mm : f1331 mm = .inr (10, [.int m0, .ref wd, .ref my, .ref ce, .ref mv, .ref ta, .int m6, .int a2_1323, .int k2_1324, .int p2_1325, .int v2_1326, .long w2_1329, .int b2_1327, .int q2_1328, .int m14, .int m15, .ref li, .ref ha, .ref lw, .ref st, .ref fo, .ref dr, .int m22, .ref ik, .int m24, .int m25, .long m26, .int m27, .int m28, .ref ro, .int m30, .ref ct, .ref se, .ref th, .ref cn, .ref be, .int m36, .ref du, .int m38, .ref db, .int m40, .int m41, .int m42, .ref pn, .ref wg, .ref wh, .ref tn, .ref he, .int m48, .ref tr, .ref fd, .ref po, .int m52, .int m53]) := (congrFun e_f1331 mm).trans (z_up_ne (z_tne hf_mm hf_ha (m := 10) (n := 340) rfl rfl (by decide)) hf_mm)
              have hf_ta : f1331 ta = .inl (cy 0, 1600, .inl gta) := (congrFun e_f1331 ta).trans (z_up_ne (z_tne hf_ta hf_ha (m := 12900) (n := 340) rfl rfl (by decide)) hf_ta)
              have hf_lw : f1331 lw = .inl (cy 1, 25, .inl glw) := (congrFun e_f1331 lw).trans (z_up_ne (z_tne hf_lw hf_ha (m := 300) (n := 340) rfl rfl (by decide)) hf_lw)
              have hf_st : f1331 st = .inl (cy 1, 20, .inl gst) := (congrFun e_f1331 st).trans (z_up_ne (z_tne hf_st hf_ha (m := 260) (n := 340) rfl rfl (by decide)) hf_st)
              have hf_fo : f1331 fo = .inl (cy 1, 180, .inl gfo) := (congrFun e_f1331 fo).trans (z_up_ne (z_tne hf_fo hf_ha (m := 1540) (n := 340) rfl rfl (by decide)) hf_fo)
              have hf_dr : f1331 dr = .inl (cy 1, 520, .inl gdr) := (congrFun e_f1331 dr).trans (z_up_ne (z_tne hf_dr hf_ha (m := 4260) (n := 340) rfl rfl (by decide)) hf_dr)
              have hf_ha : f1331 ha = .inl (cy 1, 30, .inl (upd gha (29 : Int32).toNatClampNeg r1320)) := (congrFun e_f1331 ha).trans z_up_self
              have hfr : ∀ b ∈ L, b ≠ mm → b ≠ ha → b ≠ lw → b ≠ st → b ≠ fo → b ≠ dr → f1331 b = f b := fun b hb h0 h1 h2 h3 h4 h5 => (congrFun e_f1331 b).trans (z_up_ne h1 (hfr b hb h0 h1 h2 h3 h4 h5))
              obtain ⟨g1330, e_g1330⟩ : ∃ z, z = (upd gha (29 : Int32).toNatClampNeg r1320) := ⟨_, rfl⟩
              rw [← e_g1330] at hf_ha
              have hq_ha : ∀ j : Nat, (q_hasR hz) j (g1330 j) := z_updQ hq_ha e_g1330 (show q_hasR _ _ _ from ⟨(show q_has _ _ from ⟨(fun h => absurd h (by decide)), (fun h => absurd h (by decide)), (fun h => absurd h (by decide)), (fun h => absurd h (by decide))⟩), fun h => absurd h (by decide)⟩)
              exact z_vret hx hb hr hlk (by decide) (by decide) hw (⟨hsub, hfr, a2_1323, k2_1324, p2_1325, v2_1326, b2_1327, q2_1328, m22, w2_1329, g1330, glw, gst, gfo, gdr, hf_mm, hf_ha, hf_lw, hf_st, hf_fo, hf_dr, hq_ha, hq_lw, hq_st, hq_dr, by omega, by omega, by omega, by omega, rfl⟩) dX10_line_335
        · skip
          exact z_vret hx hb hr hlk (by decide) (by decide) hw (⟨hsub, hfr, m7, m8, m9, m10, m12, m13, m22, m11, gha, glw, gst, gfo, gdr, hf_mm, hf_ha, hf_lw, hf_st, hf_fo, hf_dr, hq_ha, hq_lw, hq_st, hq_dr, by omega, by omega, by omega, by omega, rfl⟩) dX10_line_88
