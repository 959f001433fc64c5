set_option maxHeartbeats 2000000 in
set_option maxRecDepth 100000 in
theorem c_X10_harm (l : Launch) {D : va_G} {cy : Nat → ClassId} {L : List Nat} {f : Nat → va_E} {sz : Nat} {adK adV : Nat → Nat} {mm wd my ce mv ta li ha lw st fo dr ik ro ct se th cn be du db pn wg wh tn he tr fd po : Nat} {m0 m6 m7 m8 m9 m10 m12 m13 m14 m15 m22 m24 m25 m27 m28 m30 m36 m38 m40 m41 m42 m48 m52 m53 : Int32} {m11 m26 : Int64} {gha glw gst gfo gdr gro gct gse gth gcn gbe gdu gdb : Nat → Int32}  {kk : Int32} (hm_mm : mm ∈ L) (hm_ha : ha ∈ L) (hm_dr : dr ∈ L) (hm_ro : ro ∈ L) (hm_lw : lw ∈ L) (hm_st : st ∈ L) (hm_ct : ct ∈ L) (hm_se : se ∈ L) (hm_th : th ∈ L) (hm_cn : cn ∈ L) (hm_db : db ∈ L) (hm_be : be ∈ L) (hm_du : du ∈ L) (hm_fo : fo ∈ L) (hf_mm : f mm = .inr (10, [.int m0, .ref wd, .ref my, .ref ce, .ref mv, .ref ta, .int m6, .int m7, .int m8, .int m9, .int m10, .long m11, .int m12, .int m13, .int m14, .int m15, .ref li, .ref ha, .ref lw, .ref st, .ref fo, .ref dr, .int m22, .ref ik, .int m24, .int m25, .long m26, .int m27, .int m28, .ref ro, .int m30, .ref ct, .ref se, .ref th, .ref cn, .ref be, .int m36, .ref du, .int m38, .ref db, .int m40, .int m41, .int m42, .ref pn, .ref wg, .ref wh, .ref tn, .ref he, .int m48, .ref tr, .ref fd, .ref po, .int m52, .int m53])) (hf_ha : f ha = .inl (cy 1, 30, .inl gha)) (hf_dr : f dr = .inl (cy 1, 520, .inl gdr)) (hf_ro : f ro = .inl (cy 1, 13, .inl gro)) (hf_lw : f lw = .inl (cy 1, 25, .inl glw)) (hf_st : f st = .inl (cy 1, 20, .inl gst)) (hf_ct : f ct = .inl (cy 1, 4, .inl gct)) (hf_se : f se = .inl (cy 1, 36, .inl gse)) (hf_th : f th = .inl (cy 1, 36, .inl gth)) (hf_cn : f cn = .inl (cy 1, 36, .inl gcn)) (hf_db : f db = .inl (cy 1, 5, .inl gdb)) (hf_be : f be = .inl (cy 1, 2574, .inl gbe)) (hf_du : f du = .inl (cy 1, 5200, .inl gdu)) (hf_fo : f fo = .inl (cy 1, 180, .inl gfo)) (ne_se_th : se ≠ th) (ne_se_cn : se ≠ cn) (ne_th_cn : th ≠ cn) (hq_ha : ∀ j : Nat, q_has j (gha j)) (hq_dr : ∀ j : Nat, q_drv j (gdr j)) (hq_ro : ∀ j : Nat, q_12 j (gro j)) (hq_lw : ∀ j : Nat, q_law j (glw j)) (hq_st : ∀ j : Nat, q_law j (gst j)) (hq_ct : ∀ j : Nat, q_law j (gct j)) (hq_be : ∀ j : Nat, q_be j (gbe j)) (hq_du : ∀ j : Nat, q_du j (gdu j)) (hxx : 0 ≤ m26.toInt ∧ m26.toInt < 2147483648) (hea : ∀ m : Nat, m < 5 → z_ea gha glw m) : Met l yX10_harm (z_ws yX10_harm cX10_harm 3 (some .int)) (z_R 7 0 0) (va_Pc [.ref mm, .int kk] (z_Pre D vwCl (z_KK D cy adK adV) L f sz)) (z_Qi D vwCl (fun r u => L = u.1 ∧ (∀ b ∈ L, b ≠ mm → b ≠ ro → b ≠ ct → b ≠ se → b ≠ th → b ≠ cn → b ≠ db → b ≠ be → b ≠ du → u.2 b = f b) ∧ (∃ (o2 mn2 i2 u2 n2 d2 y2 : Int32) (x2 : Int64) (nro nct nse nth ncn ndb nbe ndu : Nat → Int32), (u.2 mm = .inr (10, [.int 0, .ref wd, .ref my, .ref ce, .ref mv, .ref ta, .int m6, .int m7, .int m8, .int m9, .int m10, .long m11, .int m12, .int m13, .int m14, .int m15, .ref li, .ref ha, .ref lw, .ref st, .ref fo, .ref dr, .int m22, .ref ik, .int o2, .int mn2, .long x2, .int i2, .int u2, .ref ro, .int n2, .ref ct, .ref se, .ref th, .ref cn, .ref be, .int y2, .ref du, .int d2, .ref db, .int m40, .int m41, .int m42, .ref pn, .ref wg, .ref wh, .ref tn, .ref he, .int m48, .ref tr, .ref fd, .ref po, .int m52, .int m53])) ∧ (u.2 ro = .inl (cy 1, 13, .inl nro)) ∧ (u.2 ct = .inl (cy 1, 4, .inl nct)) ∧ (u.2 se = .inl (cy 1, 36, .inl nse)) ∧ (u.2 th = .inl (cy 1, 36, .inl nth)) ∧ (u.2 cn = .inl (cy 1, 36, .inl ncn)) ∧ (u.2 db = .inl (cy 1, 5, .inl ndb)) ∧ (u.2 be = .inl (cy 1, 2574, .inl nbe)) ∧ (u.2 du = .inl (cy 1, 5200, .inl ndu)) ∧ (∀ j : Nat, q_12 j (nro j)) ∧ (∀ j : Nat, q_law j (nct j)) ∧ (∀ j : Nat, q_be j (nbe j)) ∧ (∀ j : Nat, q_du j (ndu j)) ∧ (0 ≤ x2.toInt ∧ x2.toInt < 2147483648))) L sz) 0 0 (z_A L sz) := by
  refine z_met (cc := cX10_harm) (maxL := 3) (ret := (some .int)) (lv := [(0, .ref mm), (1, .int kk)]) (by decide) rfl (Nat.le_of_ble_eq_true rfl) rfl ?_
  intro p e s m below meth c ls hx hb hr hlk hml hown hnm hts hKK hA hw hl
  have hK := hKK.1.1
  have hown : s.vm.findClass RX10 = some m.cls := hown
  have hT : ∀ w ∈ lw_all, w.before ([.ref mm, .int kk] : List Value).toArray s = true := fun w h => hts w (z_cons w h)
  have hsub : L = L := rfl
  have hfr : ∀ b ∈ L, b ≠ mm → b ≠ ro → b ≠ ct → b ≠ se → b ≠ th → b ≠ cn → b ≠ db → b ≠ be → b ≠ du → f b = f b := fun _ _ _ _ _ _ _ _ _ _ _ => rfl
  have hh0 := (hq_ha 0).1 rfl
  have hh1 := (hq_ha 1).2.1 rfl
  have hh2 := (hq_ha 2).2.2.1 rfl
  have hh3 := (hq_ha 3).2.2.2 rfl
  have hea0 : 2 ≤ (glw 3).toInt ∨ ((gha 3).toInt = 0 ∧ (gha 0).toInt = 0) := hea 0 (by decide)
  have hz_m2 : (-2 : Int32).toInt = -2 := by decide
  have hz_m1 : (-1 : Int32).toInt = -1 := by decide
  have hz_0 : (0 : Int32).toInt = 0 := by decide
  refine lv_aload_n hx hb dX10_harm_0 rfl (lv_at hl 0 rfl) ?_
  refine lv_iconst (v := 0) hx hb dX10_harm_1 (by decide) ?_
  refine z_put (C := RX10) (T := TX10) (N := 54) (ci := 10) (v := .int 0) (fs' := [.int 0, .ref wd, .ref my, .ref ce, .ref mv, .ref ta, .int m6, .int m7, .int m8, .int m9, .int m10, .long m11, .int m12, .int m13, .int m14, .int m15, .ref li, .ref ha, .ref lw, .ref st, .ref fo, .ref dr, .int m22, .ref ik, .int m24, .int m25, .long m26, .int m27, .int m28, .ref ro, .int m30, .ref ct, .ref se, .ref th, .ref cn, .ref be, .int m36, .ref du, .int m38, .ref db, .int m40, .int m41, .int m42, .ref pn, .ref wg, .ref wh, .ref tn, .ref he, .int m48, .ref tr, .ref fd, .ref po, .int m52, .int m53]) hx hb hT zin_X10 tyX10_ok nmX10 hown hK hw hm_mm hf_mm rfl 0 (by decide) (hT _ kw_1168) rfl rfl rfl (Nat.le_of_ble_eq_true rfl) rfl dX10_harm_2 (fun H locs hw => ?_)
  obtain ⟨f1, e_f1⟩ : ∃ z, z = va_up f mm (.inr (10, [.int 0, .ref wd, .ref my, .ref ce, .ref mv, .ref ta, .int m6, .int m7, .int m8, .int m9, .int m10, .long m11, .int m12, .int m13, .int m14, .int m15, .ref li, .ref ha, .ref lw, .ref st, .ref fo, .ref dr, .int m22, .ref ik, .int m24, .int m25, .long m26, .int m27, .int m28, .ref ro, .int m30, .ref ct, .ref se, .ref th, .ref cn, .ref be, .int m36, .ref du, .int m38, .ref db, .int m40, .int m41, .int m42, .ref pn, .ref wg, .ref wh, .ref tn, .ref he, .int m48, .ref tr, .ref fd, .ref po, .int m52, .int m53])) := ⟨_, rfl⟩
  rw [← e_f1] at hw
  have hf_ha : f1 ha = .inl (cy 1, 30, .inl gha) := (congrFun e_f1 ha).trans (z_up_ne (z_tne hf_ha hf_mm (m := 340) (n := 10) rfl rfl (by decide)) hf_ha)
  have hf_dr : f1 dr = .inl (cy 1, 520, .inl gdr) := (congrFun e_f1 dr).trans (z_up_ne (z_tne hf_dr hf_mm (m := 4260) (n := 10) rfl rfl (by decide)) hf_dr)
  have hf_ro : f1 ro = .inl (cy 1, 13, .inl gro) := (congrFun e_f1 ro).trans (z_up_ne (z_tne hf_ro hf_mm (m := 204) (n := 10) rfl rfl (by decide)) hf_ro)
  have hf_lw : f1 lw = .inl (cy 1, 25, .inl glw) := (congrFun e_f1 lw).trans (z_up_ne (z_tne hf_lw hf_mm (m := 300) (n := 10) rfl rfl (by decide)) hf_lw)
  have hf_st : f1 st = .inl (cy 1, 20, .inl gst) := (congrFun e_f1 st).trans (z_up_ne (z_tne hf_st hf_mm (m := 260) (n := 10) rfl rfl (by decide)) hf_st)
  have hf_ct : f1 ct = .inl (cy 1, 4, .inl gct) := (congrFun e_f1 ct).trans (z_up_ne (z_tne hf_ct hf_mm (m := 132) (n := 10) rfl rfl (by decide)) hf_ct)
  have hf_se : f1 se = .inl (cy 1, 36, .inl gse) := (congrFun e_f1 se).trans (z_up_ne (z_tne hf_se hf_mm (m := 388) (n := 10) rfl rfl (by decide)) hf_se)
  have hf_th : f1 th = .inl (cy 1, 36, .inl gth) := (congrFun e_f1 th).trans (z_up_ne (z_tne hf_th hf_mm (m := 388) (n := 10) rfl rfl (by decide)) hf_th)
  have hf_cn : f1 cn = .inl (cy 1, 36, .inl gcn) := (congrFun e_f1 cn).trans (z_up_ne (z_tne hf_cn hf_mm (m := 388) (n := 10) rfl rfl (by decide)) hf_cn)
  have hf_db : f1 db = .inl (cy 1, 5, .inl gdb) := (congrFun e_f1 db).trans (z_up_ne (z_tne hf_db hf_mm (m := 140) (n := 10) rfl rfl (by decide)) hf_db)
  have hf_be : f1 be = .inl (cy 1, 2574, .inl gbe) := (congrFun e_f1 be).trans (z_up_ne (z_tne hf_be hf_mm (m := 20692) (n := 10) rfl rfl (by decide)) hf_be)
  have hf_du : f1 du = .inl (cy 1, 5200, .inl gdu) := (congrFun e_f1 du).trans (z_up_ne (z_tne hf_du hf_mm (m := 41700) (n := 10) rfl rfl (by decide)) hf_du)
  have hf_fo : f1 fo = .inl (cy 1, 180, .inl gfo) := (congrFun e_f1 fo).trans (z_up_ne (z_tne hf_fo hf_mm (m := 1540) (n := 10) rfl rfl (by decide)) hf_fo)
  have hf_mm : f1 mm = .inr (10, [.int 0, .ref wd, .ref my, .ref ce, .ref mv, .ref ta, .int m6, .int m7, .int m8, .int m9, .int m10, .long m11, .int m12, .int m13, .int m14, .int m15, .ref li, .ref ha, .ref lw, .ref st, .ref fo, .ref dr, .int m22, .ref ik, .int m24, .int m25, .long m26, .int m27, .int m28, .ref ro, .int m30, .ref ct, .ref se, .ref th, .ref cn, .ref be, .int m36, .ref du, .int m38, .ref db, .int m40, .int m41, .int m42, .ref pn, .ref wg, .ref wh, .ref tn, .ref he, .int m48, .ref tr, .ref fd, .ref po, .int m52, .int m53]) := (congrFun e_f1 mm).trans z_up_self
  have hfr : ∀ b ∈ L, b ≠ mm → b ≠ ro → b ≠ ct → b ≠ se → b ≠ th → b ≠ cn → b ≠ db → b ≠ be → b ≠ du → f1 b = f b := fun b hb h0 h1 h2 h3 h4 h5 h6 h7 h8 => (congrFun e_f1 b).trans (z_up_ne h0 (hfr b hb h0 h1 h2 h3 h4 h5 h6 h7 h8))
  refine lv_aload_n hx hb dX10_harm_5 rfl (lv_at hl 0 rfl) ?_
  refine lv_iload_n hx hb dX10_harm_6 rfl (lv_at hl 1 rfl) ?_
  refine z_calliV (cells := 0) (slots := 0) (b := mm) (As := [.int kk]) (rest := []) (ci := 10) (q0 := (RX10, TX10, 54)) ⟨hx, hb, hml, hown, hT⟩ (c_X10_isDrive l hm_mm hm_ha hf_mm hf_ha hq_ha) (cwV 1 hT (z_goodV (fun _ h => h) kw_1482 kw_1484 kw_50 kw_96 kw_1485) rfl rfl rfl (by decide +kernel) ⟨by decide, by decide⟩) z_mv hKK hK hw hA hm_mm hf_mm rfl rfl rfl hl.1 rfl (Nat.le_of_ble_eq_true rfl) dX10_harm_7 ⟨by decide, by decide⟩ (fun r2 u H locs hp hw => ?_)
  obtain ⟨rfl, hp⟩ := hp
  have hw : z_H D vwCl (z_A L sz) s.heap L f1 H locs := hw
  rcases hp with ⟨rfl, h3⟩ | ⟨rfl, h3⟩
  · skip
    refine z_if_ne (tgt := 16) hx hb (show (1 : Int32).toInt = 1 by decide) dX10_harm_10 (by decide) (fun _ => ?_) (fun h => absurd h (by decide))
    refine lv_aload_n hx hb dX10_harm_16 rfl (lv_at hl 0 rfl) ?_
    refine z_callvV (cells := 0) (slots := 0) (b := mm) (As := []) (rest := []) (ci := 10) (q0 := (RX10, TX10, 54)) ⟨hx, hb, hml, hown, hT⟩ (c_X10_asTold l hm_mm hm_ha hm_dr hm_ro hm_lw hm_st hm_ct hm_se hm_th hm_cn hm_db hm_be hm_du hm_fo hf_mm hf_ha hf_dr hf_ro hf_lw hf_st hf_ct hf_se hf_th hf_cn hf_db hf_be hf_du hf_fo ne_se_th ne_se_cn ne_th_cn hq_ha hq_dr hq_ro hq_lw hq_st hq_ct hq_be hq_du (by first | omega | decide | assumption) hea) (cwV 0 hT (z_goodV (fun _ h => h) kw_1587 kw_1589 kw_68 kw_96 kw_1590) rfl rfl rfl (by decide +kernel) ⟨by decide, by decide⟩) z_mv hKK hK hw hA hm_mm hf_mm rfl rfl rfl hl.1 rfl (Nat.le_of_ble_eq_true rfl) dX10_harm_17 ⟨by decide, by decide⟩ (fun u H locs hp hw => ?_)
    obtain ⟨L4, f5⟩ := u
    obtain ⟨hsb, hfm, mn2_6, n2_7, d2_8, y2_9, x2_10, nro_11, nct_12, nse_13, nth_14, ncn_15, ndb_16, nbe_17, ndu_18, ha_0, ha_1, ha_2, ha_3, ha_4, ha_5, ha_6, ha_7, ha_8, hq_ro, hq_ct, hq_be, hq_du, hp⟩ := hp
    have hsb : L = L4 := hsb
    subst hsb
    have hsb : ∀ b ∈ L, b ∈ L := fun _ h => h
    have hw : z_H D vwCl (z_A L sz) s.heap L f5 H locs := hw
    have hfr : ∀ b ∈ L, b ≠ mm → b ≠ ro → b ≠ ct → b ≠ se → b ≠ th → b ≠ cn → b ≠ db → b ≠ be → b ≠ du → f5 b = f b := fun b hb h0 h1 h2 h3 h4 h5 h6 h7 h8 => (hfm b hb h0 h1 h2 h3 h4 h5 h6 h7 h8).trans (hfr b hb h0 h1 h2 h3 h4 h5 h6 h7 h8)
    have hf_ha : f5 ha = .inl (cy 1, 30, .inl gha) := (hfm ha hm_ha (z_tne hf_ha hf_mm (m := 340) (n := 10) rfl rfl (by decide)) (z_tne hf_ha hf_ro (m := 340) (n := 204) rfl rfl (by decide)) (z_tne hf_ha hf_ct (m := 340) (n := 132) rfl rfl (by decide)) (z_tne hf_ha hf_se (m := 340) (n := 388) rfl rfl (by decide)) (z_tne hf_ha hf_th (m := 340) (n := 388) rfl rfl (by decide)) (z_tne hf_ha hf_cn (m := 340) (n := 388) rfl rfl (by decide)) (z_tne hf_ha hf_db (m := 340) (n := 140) rfl rfl (by decide)) (z_tne hf_ha hf_be (m := 340) (n := 20692) rfl rfl (by decide)) (z_tne hf_ha hf_du (m := 340) (n := 41700) rfl rfl (by decide))).trans hf_ha
    have hf_dr : f5 dr = .inl (cy 1, 520, .inl gdr) := (hfm dr hm_dr (z_tne hf_dr hf_mm (m := 4260) (n := 10) rfl rfl (by decide)) (z_tne hf_dr hf_ro (m := 4260) (n := 204) rfl rfl (by decide)) (z_tne hf_dr hf_ct (m := 4260) (n := 132) rfl rfl (by decide)) (z_tne hf_dr hf_se (m := 4260) (n := 388) rfl rfl (by decide)) (z_tne hf_dr hf_th (m := 4260) (n := 388) rfl rfl (by decide)) (z_tne hf_dr hf_cn (m := 4260) (n := 388) rfl rfl (by decide)) (z_tne hf_dr hf_db (m := 4260) (n := 140) rfl rfl (by decide)) (z_tne hf_dr hf_be (m := 4260) (n := 20692) rfl rfl (by decide)) (z_tne hf_dr hf_du (m := 4260) (n := 41700) rfl rfl (by decide))).trans hf_dr
    have hf_lw : f5 lw = .inl (cy 1, 25, .inl glw) := (hfm lw hm_lw (z_tne hf_lw hf_mm (m := 300) (n := 10) rfl rfl (by decide)) (z_tne hf_lw hf_ro (m := 300) (n := 204) rfl rfl (by decide)) (z_tne hf_lw hf_ct (m := 300) (n := 132) rfl rfl (by decide)) (z_tne hf_lw hf_se (m := 300) (n := 388) rfl rfl (by decide)) (z_tne hf_lw hf_th (m := 300) (n := 388) rfl rfl (by decide)) (z_tne hf_lw hf_cn (m := 300) (n := 388) rfl rfl (by decide)) (z_tne hf_lw hf_db (m := 300) (n := 140) rfl rfl (by decide)) (z_tne hf_lw hf_be (m := 300) (n := 20692) rfl rfl (by decide)) (z_tne hf_lw hf_du (m := 300) (n := 41700) rfl rfl (by decide))).trans hf_lw
    have hf_st : f5 st = .inl (cy 1, 20, .inl gst) := (hfm st hm_st (z_tne hf_st hf_mm (m := 260) (n := 10) rfl rfl (by decide)) (z_tne hf_st hf_ro (m := 260) (n := 204) rfl rfl (by decide)) (z_tne hf_st hf_ct (m := 260) (n := 132) rfl rfl (by decide)) (z_tne hf_st hf_se (m := 260) (n := 388) rfl rfl (by decide)) (z_tne hf_st hf_th (m := 260) (n := 388) rfl rfl (by decide)) (z_tne hf_st hf_cn (m := 260) (n := 388) rfl rfl (by decide)) (z_tne hf_st hf_db (m := 260) (n := 140) rfl rfl (by decide)) (z_tne hf_st hf_be (m := 260) (n := 20692) rfl rfl (by decide)) (z_tne hf_st hf_du (m := 260) (n := 41700) rfl rfl (by decide))).trans hf_st
    have hf_fo : f5 fo = .inl (cy 1, 180, .inl gfo) := (hfm fo hm_fo (z_tne hf_fo hf_mm (m := 1540) (n := 10) rfl rfl (by decide)) (z_tne hf_fo hf_ro (m := 1540) (n := 204) rfl rfl (by decide)) (z_tne hf_fo hf_ct (m := 1540) (n := 132) rfl rfl (by decide)) (z_tne hf_fo hf_se (m := 1540) (n := 388) rfl rfl (by decide)) (z_tne hf_fo hf_th (m := 1540) (n := 388) rfl rfl (by decide)) (z_tne hf_fo hf_cn (m := 1540) (n := 388) rfl rfl (by decide)) (z_tne hf_fo hf_db (m := 1540) (n := 140) rfl rfl (by decide)) (z_tne hf_fo hf_be (m := 1540) (n := 20692) rfl rfl (by decide)) (z_tne hf_fo hf_du (m := 1540) (n := 41700) rfl rfl (by decide))).trans hf_fo
    have hf_mm : f5 mm = .inr (10, [.int 0, .ref wd, .ref my, .ref ce, .ref mv, .ref ta, .int m6, .int m7, .int m8, .int m9, .int m10, .long m11, .int m12, .int m13, .int m14, .int m15, .ref li, .ref ha, .ref lw, .ref st, .ref fo, .ref dr, .int m22, .ref ik, .int (-1), .int mn2_6, .long x2_10, .int 0, .int 1000, .ref ro, .int n2_7, .ref ct, .ref se, .ref th, .ref cn, .ref be, .int y2_9, .ref du, .int d2_8, .ref db, .int m40, .int m41, .int m42, .ref pn, .ref wg, .ref wh, .ref tn, .ref he, .int m48, .ref tr, .ref fd, .ref po, .int m52, .int m53]) := ha_0
    have hf_ro : f5 ro = .inl (cy 1, 13, .inl nro_11) := ha_1
    have hf_ct : f5 ct = .inl (cy 1, 4, .inl nct_12) := ha_2
    have hf_se : f5 se = .inl (cy 1, 36, .inl nse_13) := ha_3
    have hf_th : f5 th = .inl (cy 1, 36, .inl nth_14) := ha_4
    have hf_cn : f5 cn = .inl (cy 1, 36, .inl ncn_15) := ha_5
    have hf_db : f5 db = .inl (cy 1, 5, .inl ndb_16) := ha_6
    have hf_be : f5 be = .inl (cy 1, 2574, .inl nbe_17) := ha_7
    have hf_du : f5 du = .inl (cy 1, 5200, .inl ndu_18) := ha_8
    have hto := hp
    refine lv_aload_n hx hb dX10_harm_20 rfl (lv_at hl 0 rfl) ?_
    refine lv_aload_n hx hb dX10_harm_21 rfl (lv_at hl 0 rfl) ?_
    refine lv_iload_n hx hb dX10_harm_22 rfl (lv_at hl 1 rfl) ?_
    refine lv_iconst (v := 0) hx hb dX10_harm_23 (by decide) ?_
    have hz19 := (show (0 : Int32).toInt = 0 by decide)
    refine z_calliV (cells := 0) (slots := 0) (b := mm) (As := [.int kk, .int 0]) (rest := [.ref mm]) (ci := 10) (q0 := (RX10, TX10, 54)) ⟨hx, hb, hml, hown, hT⟩ (c_X10_of l hm_mm hm_dr hf_mm hf_dr hq_dr (by first | omega | decide | assumption) (by decide)) (cwV 2 hT (z_goodV (fun _ h => h) kw_1487 kw_1489 kw_51 kw_96 kw_1490) rfl rfl rfl (by decide +kernel) ⟨by decide, by decide⟩) z_mv hKK hK hw hA hm_mm hf_mm rfl rfl rfl hl.1 rfl (Nat.le_of_ble_eq_true rfl) dX10_harm_24 ⟨by decide, by decide⟩ (fun r20 u H locs hp hw => ?_)
    obtain ⟨rfl, hp⟩ := hp
    have hw : z_H D vwCl (z_A L sz) s.heap L f5 H locs := hw
    have hof_r20 : r20 = gdr (8 * kk.toNatClampNeg + 0) := hp
    have hh_r20 : 0 ≤ r20.toInt ∧ r20.toInt ≤ 4 := by rw [hof_r20]; exact (hq_dr _).1 (by omega)
    refine z_calliV (cells := 0) (slots := 0) (b := mm) (As := [.int r20]) (rest := []) (ci := 10) (q0 := (RX10, TX10, 54)) ⟨hx, hb, hml, hown, hT⟩ (c_X10_othersThan l hm_mm hm_db hm_lw hf_mm hf_db hf_lw hq_lw) (cwV 1 hT (z_goodV (fun _ h => h) kw_1665 kw_1667 kw_75 kw_96 kw_1668) rfl rfl rfl (by decide +kernel) ⟨by decide, by decide⟩) z_mv hKK hK hw hA hm_mm hf_mm rfl rfl rfl hl.1 rfl (Nat.le_of_ble_eq_true rfl) dX10_harm_27 ⟨by decide, by decide⟩ (fun r21 u H locs hp hw => ?_)
    obtain ⟨rfl, hp⟩ := hp
    have hw : z_H D vwCl (z_A L sz) s.heap L f5 H locs := hw
    refine lv_istore_n (lv' := [(2, .int r21), (0, .ref mm), (1, .int kk)]) hx hb dX10_harm_30 rfl hl (by decide) rfl (fun ls hl => ?_)
    refine lv_aload_n hx hb dX10_harm_31 rfl (lv_at hl 1 rfl) ?_
    refine z_callvV (cells := 0) (slots := 0) (b := mm) (As := []) (rest := []) (ci := 10) (q0 := (RX10, TX10, 54)) ⟨hx, hb, hml, hown, hT⟩ (c_X10_plainly l hm_mm hm_ha hf_mm hf_ha hq_ha) (cwV 0 hT (z_goodV (fun _ h => h) kw_1539 kw_1541 kw_58 kw_96 kw_1542) rfl rfl rfl (by decide +kernel) ⟨by decide, by decide⟩) z_mv hKK hK hw hA hm_mm hf_mm rfl rfl rfl hl.1 rfl (Nat.le_of_ble_eq_true rfl) dX10_harm_32 ⟨by decide, by decide⟩ (fun u H locs hp hw => ?_)
    obtain ⟨L22, f23⟩ := u
    obtain ⟨hsb, hfm, mn2_24, ha_0, hp⟩ := hp
    have hsb : L = L22 := hsb
    subst hsb
    have hsb : ∀ b ∈ L, b ∈ L := fun _ h => h
    have hw : z_H D vwCl (z_A L sz) s.heap L f23 H locs := hw
    have hfr : ∀ b ∈ L, b ≠ mm → b ≠ ro → b ≠ ct → b ≠ se → b ≠ th → b ≠ cn → b ≠ db → b ≠ be → b ≠ du → f23 b = f b := fun b hb h0 h1 h2 h3 h4 h5 h6 h7 h8 => (hfm b hb h0).trans (hfr b hb h0 h1 h2 h3 h4 h5 h6 h7 h8)
    have hf_ha : f23 ha = .inl (cy 1, 30, .inl gha) := (hfm ha hm_ha (z_tne hf_ha hf_mm (m := 340) (n := 10) rfl rfl (by decide))).trans hf_ha
    have hf_dr : f23 dr = .inl (cy 1, 520, .inl gdr) := (hfm dr hm_dr (z_tne hf_dr hf_mm (m := 4260) (n := 10) rfl rfl (by decide))).trans hf_dr
    have hf_ro : f23 ro = .inl (cy 1, 13, .inl nro_11) := (hfm ro hm_ro (z_tne hf_ro hf_mm (m := 204) (n := 10) rfl rfl (by decide))).trans hf_ro
    have hf_lw : f23 lw = .inl (cy 1, 25, .inl glw) := (hfm lw hm_lw (z_tne hf_lw hf_mm (m := 300) (n := 10) rfl rfl (by decide))).trans hf_lw
    have hf_st : f23 st = .inl (cy 1, 20, .inl gst) := (hfm st hm_st (z_tne hf_st hf_mm (m := 260) (n := 10) rfl rfl (by decide))).trans hf_st
    have hf_ct : f23 ct = .inl (cy 1, 4, .inl nct_12) := (hfm ct hm_ct (z_tne hf_ct hf_mm (m := 132) (n := 10) rfl rfl (by decide))).trans hf_ct
    have hf_se : f23 se = .inl (cy 1, 36, .inl nse_13) := (hfm se hm_se (z_tne hf_se hf_mm (m := 388) (n := 10) rfl rfl (by decide))).trans hf_se
    have hf_th : f23 th = .inl (cy 1, 36, .inl nth_14) := (hfm th hm_th (z_tne hf_th hf_mm (m := 388) (n := 10) rfl rfl (by decide))).trans hf_th
    have hf_cn : f23 cn = .inl (cy 1, 36, .inl ncn_15) := (hfm cn hm_cn (z_tne hf_cn hf_mm (m := 388) (n := 10) rfl rfl (by decide))).trans hf_cn
    have hf_db : f23 db = .inl (cy 1, 5, .inl ndb_16) := (hfm db hm_db (z_tne hf_db hf_mm (m := 140) (n := 10) rfl rfl (by decide))).trans hf_db
    have hf_be : f23 be = .inl (cy 1, 2574, .inl nbe_17) := (hfm be hm_be (z_tne hf_be hf_mm (m := 20692) (n := 10) rfl rfl (by decide))).trans hf_be
    have hf_du : f23 du = .inl (cy 1, 5200, .inl ndu_18) := (hfm du hm_du (z_tne hf_du hf_mm (m := 41700) (n := 10) rfl rfl (by decide))).trans hf_du
    have hf_fo : f23 fo = .inl (cy 1, 180, .inl gfo) := (hfm fo hm_fo (z_tne hf_fo hf_mm (m := 1540) (n := 10) rfl rfl (by decide))).trans hf_fo
    have hf_mm : f23 mm = .inr (10, [.int 0, .ref wd, .ref my, .ref ce, .ref mv, .ref ta, .int m6, .int m7, .int m8, .int m9, .int m10, .long m11, .int m12, .int m13, .int m14, .int m15, .ref li, .ref ha, .ref lw, .ref st, .ref fo, .ref dr, .int m22, .ref ik, .int (-1), .int mn2_24, .long x2_10, .int 0, .int 1000, .ref ro, .int n2_7, .ref ct, .ref se, .ref th, .ref cn, .ref be, .int y2_9, .ref du, .int d2_8, .ref db, .int m40, .int m41, .int m42, .ref pn, .ref wg, .ref wh, .ref tn, .ref he, .int m48, .ref tr, .ref fd, .ref po, .int m52, .int m53]) := ha_0
    have hq25 := hp
    refine lv_aload_n hx hb dX10_harm_35 rfl (lv_at hl 1 rfl) ?_
    refine lv_iload_n hx hb dX10_harm_36 rfl (lv_at hl 2 rfl) ?_
    refine z_put (C := RX10) (T := TX10) (N := 54) (ci := 10) (v := .int kk) (fs' := [.int 0, .ref wd, .ref my, .ref ce, .ref mv, .ref ta, .int m6, .int m7, .int m8, .int m9, .int m10, .long m11, .int m12, .int m13, .int m14, .int m15, .ref li, .ref ha, .ref lw, .ref st, .ref fo, .ref dr, .int m22, .ref ik, .int kk, .int mn2_24, .long x2_10, .int 0, .int 1000, .ref ro, .int n2_7, .ref ct, .ref se, .ref th, .ref cn, .ref be, .int y2_9, .ref du, .int d2_8, .ref db, .int m40, .int m41, .int m42, .ref pn, .ref wg, .ref wh, .ref tn, .ref he, .int m48, .ref tr, .ref fd, .ref po, .int m52, .int m53]) hx hb hT zin_X10 tyX10_ok nmX10 hown hK hw hm_mm hf_mm rfl 24 (by decide) (hT _ kw_1192) rfl rfl rfl (Nat.le_of_ble_eq_true rfl) rfl dX10_harm_37 (fun H locs hw => ?_)
    obtain ⟨f26, e_f26⟩ : ∃ z, z = va_up f23 mm (.inr (10, [.int 0, .ref wd, .ref my, .ref ce, .ref mv, .ref ta, .int m6, .int m7, .int m8, .int m9, .int m10, .long m11, .int m12, .int m13, .int m14, .int m15, .ref li, .ref ha, .ref lw, .ref st, .ref fo, .ref dr, .int m22, .ref ik, .int kk, .int mn2_24, .long x2_10, .int 0, .int 1000, .ref ro, .int n2_7, .ref ct, .ref se, .ref th, .ref cn, .ref be, .int y2_9, .ref du, .int d2_8, .ref db, .int m40, .int m41, .int m42, .ref pn, .ref wg, .ref wh, .ref tn, .ref he, .int m48, .ref tr, .ref fd, .ref po, .int m52, .int m53])) := ⟨_, rfl⟩
    rw [← e_f26] at hw
    have hf_ha : f26 ha = .inl (cy 1, 30, .inl gha) := (congrFun e_f26 ha).trans (z_up_ne (z_tne hf_ha hf_mm (m := 340) (n := 10) rfl rfl (by decide)) hf_ha)
    have hf_dr : f26 dr = .inl (cy 1, 520, .inl gdr) := (congrFun e_f26 dr).trans (z_up_ne (z_tne hf_dr hf_mm (m := 4260) (n := 10) rfl rfl (by decide)) hf_dr)
    have hf_ro : f26 ro = .inl (cy 1, 13, .inl nro_11) := (congrFun e_f26 ro).trans (z_up_ne (z_tne hf_ro hf_mm (m := 204) (n := 10) rfl rfl (by decide)) hf_ro)
    have hf_lw : f26 lw = .inl (cy 1, 25, .inl glw) := (congrFun e_f26 lw).trans (z_up_ne (z_tne hf_lw hf_mm (m := 300) (n := 10) rfl rfl (by decide)) hf_lw)
    have hf_st : f26 st = .inl (cy 1, 20, .inl gst) := (congrFun e_f26 st).trans (z_up_ne (z_tne hf_st hf_mm (m := 260) (n := 10) rfl rfl (by decide)) hf_st)
    have hf_ct : f26 ct = .inl (cy 1, 4, .inl nct_12) := (congrFun e_f26 ct).trans (z_up_ne (z_tne hf_ct hf_mm (m := 132) (n := 10) rfl rfl (by decide)) hf_ct)
    have hf_se : f26 se = .inl (cy 1, 36, .inl nse_13) := (congrFun e_f26 se).trans (z_up_ne (z_tne hf_se hf_mm (m := 388) (n := 10) rfl rfl (by decide)) hf_se)
    have hf_th : f26 th = .inl (cy 1, 36, .inl nth_14) := (congrFun e_f26 th).trans (z_up_ne (z_tne hf_th hf_mm (m := 388) (n := 10) rfl rfl (by decide)) hf_th)
    have hf_cn : f26 cn = .inl (cy 1, 36, .inl ncn_15) := (congrFun e_f26 cn).trans (z_up_ne (z_tne hf_cn hf_mm (m := 388) (n := 10) rfl rfl (by decide)) hf_cn)
    have hf_db : f26 db = .inl (cy 1, 5, .inl ndb_16) := (congrFun e_f26 db).trans (z_up_ne (z_tne hf_db hf_mm (m := 140) (n := 10) rfl rfl (by decide)) hf_db)
    have hf_be : f26 be = .inl (cy 1, 2574, .inl nbe_17) := (congrFun e_f26 be).trans (z_up_ne (z_tne hf_be hf_mm (m := 20692) (n := 10) rfl rfl (by decide)) hf_be)
    have hf_du : f26 du = .inl (cy 1, 5200, .inl ndu_18) := (congrFun e_f26 du).trans (z_up_ne (z_tne hf_du hf_mm (m := 41700) (n := 10) rfl rfl (by decide)) hf_du)
    have hf_fo : f26 fo = .inl (cy 1, 180, .inl gfo) := (congrFun e_f26 fo).trans (z_up_ne (z_tne hf_fo hf_mm (m := 1540) (n := 10) rfl rfl (by decide)) hf_fo)
    have hf_mm : f26 mm = .inr (10, [.int 0, .ref wd, .ref my, .ref ce, .ref mv, .ref ta, .int m6, .int m7, .int m8, .int m9, .int m10, .long m11, .int m12, .int m13, .int m14, .int m15, .ref li, .ref ha, .ref lw, .ref st, .ref fo, .ref dr, .int m22, .ref ik, .int kk, .int mn2_24, .long x2_10, .int 0, .int 1000, .ref ro, .int n2_7, .ref ct, .ref se, .ref th, .ref cn, .ref be, .int y2_9, .ref du, .int d2_8, .ref db, .int m40, .int m41, .int m42, .ref pn, .ref wg, .ref wh, .ref tn, .ref he, .int m48, .ref tr, .ref fd, .ref po, .int m52, .int m53]) := (congrFun e_f26 mm).trans z_up_self
    have hfr : ∀ b ∈ L, b ≠ mm → b ≠ ro → b ≠ ct → b ≠ se → b ≠ th → b ≠ cn → b ≠ db → b ≠ be → b ≠ du → f26 b = f b := fun b hb h0 h1 h2 h3 h4 h5 h6 h7 h8 => (congrFun e_f26 b).trans (z_up_ne h0 (hfr b hb h0 h1 h2 h3 h4 h5 h6 h7 h8))
    refine lv_aload_n hx hb dX10_harm_40 rfl (lv_at hl 1 rfl) ?_
    refine z_callvV (cells := 0) (slots := 0) (b := mm) (As := []) (rest := []) (ci := 10) (q0 := (RX10, TX10, 54)) ⟨hx, hb, hml, hown, hT⟩ (c_X10_goes_ l hm_mm hm_ha hm_dr hm_ro hm_lw hm_st hm_ct hm_se hm_th hm_cn hm_db hm_be hm_du hm_fo hf_mm hf_ha hf_dr hf_ro hf_lw hf_st hf_ct hf_se hf_th hf_cn hf_db hf_be hf_du hf_fo ne_se_th ne_se_cn ne_th_cn hq_ha hq_dr hq_ro hq_lw hq_st hq_ct hq_be hq_du (by first | omega | decide | assumption) (by omega) (by first | omega | decide | assumption)) (cwV 0 hT (z_goodV (fun _ h => h) kw_1543 kw_1545 kw_59 kw_96 kw_1546) rfl rfl rfl (by decide +kernel) ⟨by decide, by decide⟩) z_mv hKK hK hw hA hm_mm hf_mm rfl rfl rfl hl.1 rfl (Nat.le_of_ble_eq_true rfl) dX10_harm_41 ⟨by decide, by decide⟩ (fun u H locs hp hw => ?_)
    obtain ⟨L27, f28⟩ := u
    obtain ⟨hsb, hfm, n2_29, d2_30, y2_31, x2_32, nro_33, nct_34, nse_35, nth_36, ncn_37, ndb_38, nbe_39, ndu_40, ha_0, ha_1, ha_2, ha_3, ha_4, ha_5, ha_6, ha_7, ha_8, hq_ro, hq_ct, hq_be, hq_du, hp⟩ := hp
    have hsb : L = L27 := hsb
    subst hsb
    have hsb : ∀ b ∈ L, b ∈ L := fun _ h => h
    have hw : z_H D vwCl (z_A L sz) s.heap L f28 H locs := hw
    have hfr : ∀ b ∈ L, b ≠ mm → b ≠ ro → b ≠ ct → b ≠ se → b ≠ th → b ≠ cn → b ≠ db → b ≠ be → b ≠ du → f28 b = f b := fun b hb h0 h1 h2 h3 h4 h5 h6 h7 h8 => (hfm b hb h0 h1 h2 h3 h4 h5 h6 h7 h8).trans (hfr b hb h0 h1 h2 h3 h4 h5 h6 h7 h8)
    have hf_ha : f28 ha = .inl (cy 1, 30, .inl gha) := (hfm ha hm_ha (z_tne hf_ha hf_mm (m := 340) (n := 10) rfl rfl (by decide)) (z_tne hf_ha hf_ro (m := 340) (n := 204) rfl rfl (by decide)) (z_tne hf_ha hf_ct (m := 340) (n := 132) rfl rfl (by decide)) (z_tne hf_ha hf_se (m := 340) (n := 388) rfl rfl (by decide)) (z_tne hf_ha hf_th (m := 340) (n := 388) rfl rfl (by decide)) (z_tne hf_ha hf_cn (m := 340) (n := 388) rfl rfl (by decide)) (z_tne hf_ha hf_db (m := 340) (n := 140) rfl rfl (by decide)) (z_tne hf_ha hf_be (m := 340) (n := 20692) rfl rfl (by decide)) (z_tne hf_ha hf_du (m := 340) (n := 41700) rfl rfl (by decide))).trans hf_ha
    have hf_dr : f28 dr = .inl (cy 1, 520, .inl gdr) := (hfm dr hm_dr (z_tne hf_dr hf_mm (m := 4260) (n := 10) rfl rfl (by decide)) (z_tne hf_dr hf_ro (m := 4260) (n := 204) rfl rfl (by decide)) (z_tne hf_dr hf_ct (m := 4260) (n := 132) rfl rfl (by decide)) (z_tne hf_dr hf_se (m := 4260) (n := 388) rfl rfl (by decide)) (z_tne hf_dr hf_th (m := 4260) (n := 388) rfl rfl (by decide)) (z_tne hf_dr hf_cn (m := 4260) (n := 388) rfl rfl (by decide)) (z_tne hf_dr hf_db (m := 4260) (n := 140) rfl rfl (by decide)) (z_tne hf_dr hf_be (m := 4260) (n := 20692) rfl rfl (by decide)) (z_tne hf_dr hf_du (m := 4260) (n := 41700) rfl rfl (by decide))).trans hf_dr
    have hf_lw : f28 lw = .inl (cy 1, 25, .inl glw) := (hfm lw hm_lw (z_tne hf_lw hf_mm (m := 300) (n := 10) rfl rfl (by decide)) (z_tne hf_lw hf_ro (m := 300) (n := 204) rfl rfl (by decide)) (z_tne hf_lw hf_ct (m := 300) (n := 132) rfl rfl (by decide)) (z_tne hf_lw hf_se (m := 300) (n := 388) rfl rfl (by decide)) (z_tne hf_lw hf_th (m := 300) (n := 388) rfl rfl (by decide)) (z_tne hf_lw hf_cn (m := 300) (n := 388) rfl rfl (by decide)) (z_tne hf_lw hf_db (m := 300) (n := 140) rfl rfl (by decide)) (z_tne hf_lw hf_be (m := 300) (n := 20692) rfl rfl (by decide)) (z_tne hf_lw hf_du (m := 300) (n := 41700) rfl rfl (by decide))).trans hf_lw
    have hf_st : f28 st = .inl (cy 1, 20, .inl gst) := (hfm st hm_st (z_tne hf_st hf_mm (m := 260) (n := 10) rfl rfl (by decide)) (z_tne hf_st hf_ro (m := 260) (n := 204) rfl rfl (by decide)) (z_tne hf_st hf_ct (m := 260) (n := 132) rfl rfl (by decide)) (z_tne hf_st hf_se (m := 260) (n := 388) rfl rfl (by decide)) (z_tne hf_st hf_th (m := 260) (n := 388) rfl rfl (by decide)) (z_tne hf_st hf_cn (m := 260) (n := 388) rfl rfl (by decide)) (z_tne hf_st hf_db (m := 260) (n := 140) rfl rfl (by decide)) (z_tne hf_st hf_be (m := 260) (n := 20692) rfl rfl (by decide)) (z_tne hf_st hf_du (m := 260) (n := 41700) rfl rfl (by decide))).trans hf_st
    have hf_fo : f28 fo = .inl (cy 1, 180, .inl gfo) := (hfm fo hm_fo (z_tne hf_fo hf_mm (m := 1540) (n := 10) rfl rfl (by decide)) (z_tne hf_fo hf_ro (m := 1540) (n := 204) rfl rfl (by decide)) (z_tne hf_fo hf_ct (m := 1540) (n := 132) rfl rfl (by decide)) (z_tne hf_fo hf_se (m := 1540) (n := 388) rfl rfl (by decide)) (z_tne hf_fo hf_th (m := 1540) (n := 388) rfl rfl (by decide)) (z_tne hf_fo hf_cn (m := 1540) (n := 388) rfl rfl (by decide)) (z_tne hf_fo hf_db (m := 1540) (n := 140) rfl rfl (by decide)) (z_tne hf_fo hf_be (m := 1540) (n := 20692) rfl rfl (by decide)) (z_tne hf_fo hf_du (m := 1540) (n := 41700) rfl rfl (by decide))).trans hf_fo
    have hf_mm : f28 mm = .inr (10, [.int 0, .ref wd, .ref my, .ref ce, .ref mv, .ref ta, .int m6, .int m7, .int m8, .int m9, .int m10, .long m11, .int m12, .int m13, .int m14, .int m15, .ref li, .ref ha, .ref lw, .ref st, .ref fo, .ref dr, .int m22, .ref ik, .int kk, .int mn2_24, .long x2_32, .int 0, .int 1000, .ref ro, .int n2_29, .ref ct, .ref se, .ref th, .ref cn, .ref be, .int y2_31, .ref du, .int d2_30, .ref db, .int m40, .int m41, .int m42, .ref pn, .ref wg, .ref wh, .ref tn, .ref he, .int m48, .ref tr, .ref fd, .ref po, .int m52, .int m53]) := ha_0
    have hf_ro : f28 ro = .inl (cy 1, 13, .inl nro_33) := ha_1
    have hf_ct : f28 ct = .inl (cy 1, 4, .inl nct_34) := ha_2
    have hf_se : f28 se = .inl (cy 1, 36, .inl nse_35) := ha_3
    have hf_th : f28 th = .inl (cy 1, 36, .inl nth_36) := ha_4
    have hf_cn : f28 cn = .inl (cy 1, 36, .inl ncn_37) := ha_5
    have hf_db : f28 db = .inl (cy 1, 5, .inl ndb_38) := ha_6
    have hf_be : f28 be = .inl (cy 1, 2574, .inl nbe_39) := ha_7
    have hf_du : f28 du = .inl (cy 1, 5200, .inl ndu_40) := ha_8
    have hgx := hp.2.2.1
    clear hp
    refine lv_iload_n hx hb dX10_harm_44 rfl (lv_at hl 0 rfl) ?_
    refine lv_aload_n hx hb dX10_harm_45 rfl (lv_at hl 1 rfl) ?_
    refine lv_aload_n hx hb dX10_harm_46 rfl (lv_at hl 1 rfl) ?_
    refine lv_iload_n hx hb dX10_harm_47 rfl (lv_at hl 2 rfl) ?_
    refine lv_iconst (v := 0) hx hb dX10_harm_48 (by decide) ?_
    have hz41 := (show (0 : Int32).toInt = 0 by decide)
    refine z_calliV (cells := 0) (slots := 0) (b := mm) (As := [.int kk, .int 0]) (rest := [.ref mm, .int r21]) (ci := 10) (q0 := (RX10, TX10, 54)) ⟨hx, hb, hml, hown, hT⟩ (c_X10_of l hm_mm hm_dr hf_mm hf_dr hq_dr (by first | omega | decide | assumption) (by decide)) (cwV 2 hT (z_goodV (fun _ h => h) kw_1487 kw_1489 kw_51 kw_96 kw_1490) rfl rfl rfl (by decide +kernel) ⟨by decide, by decide⟩) z_mv hKK hK hw hA hm_mm hf_mm rfl rfl rfl hl.1 rfl (Nat.le_of_ble_eq_true rfl) dX10_harm_49 ⟨by decide, by decide⟩ (fun r42 u H locs hp hw => ?_)
    obtain ⟨rfl, hp⟩ := hp
    have hw : z_H D vwCl (z_A L sz) s.heap L f28 H locs := hw
    have hof_r42 : r42 = gdr (8 * kk.toNatClampNeg + 0) := hp
    have hh_r42 : 0 ≤ r42.toInt ∧ r42.toInt ≤ 4 := by rw [hof_r42]; exact (hq_dr _).1 (by omega)
    refine z_calliV (cells := 0) (slots := 0) (b := mm) (As := [.int r42]) (rest := [.int r21]) (ci := 10) (q0 := (RX10, TX10, 54)) ⟨hx, hb, hml, hown, hT⟩ (c_X10_othersThan l hm_mm hm_db hm_lw hf_mm hf_db hf_lw hq_lw) (cwV 1 hT (z_goodV (fun _ h => h) kw_1665 kw_1667 kw_75 kw_96 kw_1668) rfl rfl rfl (by decide +kernel) ⟨by decide, by decide⟩) z_mv hKK hK hw hA hm_mm hf_mm rfl rfl rfl hl.1 rfl (Nat.le_of_ble_eq_true rfl) dX10_harm_52 ⟨by decide, by decide⟩ (fun r43 u H locs hp hw => ?_)
    obtain ⟨rfl, hp⟩ := hp
    have hw : z_H D vwCl (z_A L sz) s.heap L f28 H locs := hw
    refine lv_isub hx hb dX10_harm_55 ?_
    refine lv_topi (fun w44 e_w44 => ?_)
    exact z_iret hx hb hr hlk (by decide) (by decide) hw (⟨hsub, hfr, kk, mn2_24, 0, 1000, n2_29, d2_30, y2_31, x2_32, nro_33, nct_34, nse_35, nth_36, ncn_37, ndb_38, nbe_39, ndu_40, hf_mm, hf_ro, hf_ct, hf_se, hf_th, hf_cn, hf_db, hf_be, hf_du, hq_ro, hq_ct, hq_be, hq_du, by omega⟩) dX10_harm_56
  · skip
    refine z_if_ne (tgt := 16) hx hb (show (0 : Int32).toInt = 0 by decide) dX10_harm_10 (by decide) (fun h => absurd h (by decide)) (fun _ => ?_)
    refine lv_bipush (v := (-2)) hx hb dX10_harm_13 (by decide) ?_
    exact z_iret hx hb hr hlk (by decide) (by decide) hw (⟨hsub, hfr, m24, m25, m27, m28, m30, m38, m36, m26, gro, gct, gse, gth, gcn, gdb, gbe, gdu, hf_mm, hf_ro, hf_ct, hf_se, hf_th, hf_cn, hf_db, hf_be, hf_du, hq_ro, hq_ct, hq_be, hq_du, by omega⟩) dX10_harm_15

set_option maxHeartbeats 2000000 in
set_option maxRecDepth 100000 in
theorem c_X10_eweOf (l : Launch) {D : va_G} {cy : Nat → ClassId} {L : List Nat} {f : Nat → va_E} {sz : Nat} {adK adV : Nat → Nat} {mm wd my ce mv ta li ha lw st fo dr ik ro ct se th cn be du db pn wg wh tn he tr fd po : Nat} {m0 m6 m7 m8 m9 m10 m12 m13 m14 m15 m22 m24 m25 m27 m28 m30 m36 m38 m40 m41 m42 m48 m52 m53 : Int32} {m11 m26 : Int64} {gha glw gst gfo gdr gro gct gse gth gcn gbe gdu gdb : Nat → Int32}  {oo ga dy ho : Int32} (hm_mm : mm ∈ L) (hm_ha : ha ∈ L) (hm_dr : dr ∈ L) (hm_ro : ro ∈ L) (hm_lw : lw ∈ L) (hm_st : st ∈ L) (hm_ct : ct ∈ L) (hm_se : se ∈ L) (hm_th : th ∈ L) (hm_cn : cn ∈ L) (hm_db : db ∈ L) (hm_be : be ∈ L) (hm_du : du ∈ L) (hm_fo : fo ∈ L) (hf_mm : f mm = .inr (10, [.int m0, .ref wd, .ref my, .ref ce, .ref mv, .ref ta, .int m6, .int m7, .int m8, .int m9, .int m10, .long m11, .int m12, .int m13, .int m14, .int m15, .ref li, .ref ha, .ref lw, .ref st, .ref fo, .ref dr, .int m22, .ref ik, .int m24, .int m25, .long m26, .int m27, .int m28, .ref ro, .int m30, .ref ct, .ref se, .ref th, .ref cn, .ref be, .int m36, .ref du, .int m38, .ref db, .int m40, .int m41, .int m42, .ref pn, .ref wg, .ref wh, .ref tn, .ref he, .int m48, .ref tr, .ref fd, .ref po, .int m52, .int m53])) (hf_ha : f ha = .inl (cy 1, 30, .inl gha)) (hf_dr : f dr = .inl (cy 1, 520, .inl gdr)) (hf_ro : f ro = .inl (cy 1, 13, .inl gro)) (hf_lw : f lw = .inl (cy 1, 25, .inl glw)) (hf_st : f st = .inl (cy 1, 20, .inl gst)) (hf_ct : f ct = .inl (cy 1, 4, .inl gct)) (hf_se : f se = .inl (cy 1, 36, .inl gse)) (hf_th : f th = .inl (cy 1, 36, .inl gth)) (hf_cn : f cn = .inl (cy 1, 36, .inl gcn)) (hf_db : f db = .inl (cy 1, 5, .inl gdb)) (hf_be : f be = .inl (cy 1, 2574, .inl gbe)) (hf_du : f du = .inl (cy 1, 5200, .inl gdu)) (hf_fo : f fo = .inl (cy 1, 180, .inl gfo)) (ne_se_th : se ≠ th) (ne_se_cn : se ≠ cn) (ne_th_cn : th ≠ cn) (hq_ha : ∀ j : Nat, q_has j (gha j)) (hq_dr : ∀ j : Nat, q_drv j (gdr j)) (hq_ro : ∀ j : Nat, q_12 j (gro j)) (hq_lw : ∀ j : Nat, q_law j (glw j)) (hq_st : ∀ j : Nat, q_law j (gst j)) (hq_ct : ∀ j : Nat, q_law j (gct j)) (hq_be : ∀ j : Nat, q_be j (gbe j)) (hq_du : ∀ j : Nat, q_du j (gdu j)) (hxx : 0 ≤ m26.toInt ∧ m26.toInt < 2147483648) (hea : ∀ m : Nat, m < 5 → z_ea gha glw m) (hoo : 0 ≤ oo.toInt ∧ oo.toInt ≤ 4) (hga : 0 ≤ ga.toInt ∧ ga.toInt ≤ (gha 0).toInt - 1) (hdy : 0 ≤ dy.toInt ∧ dy.toInt ≤ 8) (hho : 0 ≤ ho.toInt ∧ ho.toInt ≤ 23) : Met l yX10_eweOf (z_ws yX10_eweOf cX10_eweOf 6 (some .int)) (z_R 7 0 0) (va_Pc [.ref mm, .int oo, .int ga, .int dy, .int ho] (z_Pre D vwCl (z_KK D cy adK adV) L f sz)) (z_Qi D vwCl (fun r u => L = u.1 ∧ (∀ b ∈ L, b ≠ mm → b ≠ ro → b ≠ ct → b ≠ se → b ≠ th → b ≠ cn → b ≠ db → b ≠ be → b ≠ du → b ≠ dr → u.2 b = f b) ∧ (∃ (mn2 n2 d2 y2 : Int32) (x2 : Int64) (nro nct nse nth ncn ndb nbe ndu ndr : Nat → Int32), (u.2 mm = .inr (10, [.int m0, .ref wd, .ref my, .ref ce, .ref mv, .ref ta, .int m6, .int m7, .int m8, .int m9, .int m10, .long m11, .int m12, .int m13, .int m14, .int m15, .ref li, .ref ha, .ref lw, .ref st, .ref fo, .ref dr, .int m22, .ref ik, .int (-1), .int mn2, .long x2, .int 0, .int 1000, .ref ro, .int n2, .ref ct, .ref se, .ref th, .ref cn, .ref be, .int y2, .ref du, .int d2, .ref db, .int m40, .int m41, .int m42, .ref pn, .ref wg, .ref wh, .ref tn, .ref he, .int m48, .ref tr, .ref fd, .ref po, .int m52, .int m53])) ∧ (u.2 ro = .inl (cy 1, 13, .inl nro)) ∧ (u.2 ct = .inl (cy 1, 4, .inl nct)) ∧ (u.2 se = .inl (cy 1, 36, .inl nse)) ∧ (u.2 th = .inl (cy 1, 36, .inl nth)) ∧ (u.2 cn = .inl (cy 1, 36, .inl ncn)) ∧ (u.2 db = .inl (cy 1, 5, .inl ndb)) ∧ (u.2 be = .inl (cy 1, 2574, .inl nbe)) ∧ (u.2 du = .inl (cy 1, 5200, .inl ndu)) ∧ (u.2 dr = .inl (cy 1, 520, .inl ndr)) ∧ (∀ j : Nat, q_12 j (nro j)) ∧ (∀ j : Nat, q_law j (nct j)) ∧ (∀ j : Nat, q_be j (nbe j)) ∧ (∀ j : Nat, q_du j (ndu j)) ∧ (∀ j : Nat, q_drv j (ndr j)) ∧ (0 ≤ x2.toInt ∧ x2.toInt < 2147483648))) L sz) 0 0 (z_A L sz) := by
  refine z_met (cc := cX10_eweOf) (maxL := 6) (ret := (some .int)) (lv := [(0, .ref mm), (1, .int oo), (2, .int ga), (3, .int dy), (4, .int ho)]) (by decide) rfl (Nat.le_of_ble_eq_true rfl) rfl ?_
  intro p e s m below meth c ls hx hb hr hlk hml hown hnm hts hKK hA hw hl
  have hK := hKK.1.1
  have hown : s.vm.findClass RX10 = some m.cls := hown
  have hT : ∀ w ∈ lw_all, w.before ([.ref mm, .int oo, .int ga, .int dy, .int ho] : List Value).toArray s = true := fun w h => hts w (z_cons w h)
  have hsub : L = L := rfl
  have hfr : ∀ b ∈ L, b ≠ mm → b ≠ ro → b ≠ ct → b ≠ se → b ≠ th → b ≠ cn → b ≠ db → b ≠ be → b ≠ du → b ≠ dr → f b = f b := fun _ _ _ _ _ _ _ _ _ _ _ _ => rfl
  have hh0 := (hq_ha 0).1 rfl
  have hh1 := (hq_ha 1).2.1 rfl
  have hh2 := (hq_ha 2).2.2.1 rfl
  have hh3 := (hq_ha 3).2.2.2 rfl
  have hea0 : 2 ≤ (glw 3).toInt ∨ ((gha 3).toInt = 0 ∧ (gha 0).toInt = 0) := hea 0 (by decide)
  have hz_0 : (0 : Int32).toInt = 0 := by decide
  have hz_1 : (1 : Int32).toInt = 1 := by decide
  refine lv_aload_n hx hb dX10_eweOf_0 rfl (lv_at hl 0 rfl) ?_
  refine z_callvV (cells := 0) (slots := 0) (b := mm) (As := []) (rest := []) (ci := 10) (q0 := (RX10, TX10, 54)) ⟨hx, hb, hml, hown, hT⟩ (c_X10_asTold l hm_mm hm_ha hm_dr hm_ro hm_lw hm_st hm_ct hm_se hm_th hm_cn hm_db hm_be hm_du hm_fo hf_mm hf_ha hf_dr hf_ro hf_lw hf_st hf_ct hf_se hf_th hf_cn hf_db hf_be hf_du hf_fo ne_se_th ne_se_cn ne_th_cn hq_ha hq_dr hq_ro hq_lw hq_st hq_ct hq_be hq_du (by first | omega | decide | assumption) hea) (cwV 0 hT (z_goodV (fun _ h => h) kw_1587 kw_1589 kw_68 kw_96 kw_1590) rfl rfl rfl (by decide +kernel) ⟨by decide, by decide⟩) z_mv hKK hK hw hA hm_mm hf_mm rfl rfl rfl hl.1 rfl (Nat.le_of_ble_eq_true rfl) dX10_eweOf_1 ⟨by decide, by decide⟩ (fun u H locs hp hw => ?_)
  obtain ⟨L1, f2⟩ := u
  obtain ⟨hsb, hfm, mn2_3, n2_4, d2_5, y2_6, x2_7, nro_8, nct_9, nse_10, nth_11, ncn_12, ndb_13, nbe_14, ndu_15, ha_0, ha_1, ha_2, ha_3, ha_4, ha_5, ha_6, ha_7, ha_8, hq_ro, hq_ct, hq_be, hq_du, hp⟩ := hp
  have hsb : L = L1 := hsb
  subst hsb
  have hsb : ∀ b ∈ L, b ∈ L := fun _ h => h
  have hw : z_H D vwCl (z_A L sz) s.heap L f2 H locs := hw
  have hfr : ∀ b ∈ L, b ≠ mm → b ≠ ro → b ≠ ct → b ≠ se → b ≠ th → b ≠ cn → b ≠ db → b ≠ be → b ≠ du → b ≠ dr → f2 b = f b := fun b hb h0 h1 h2 h3 h4 h5 h6 h7 h8 h9 => (hfm b hb h0 h1 h2 h3 h4 h5 h6 h7 h8).trans (hfr b hb h0 h1 h2 h3 h4 h5 h6 h7 h8 h9)
  have hf_ha : f2 ha = .inl (cy 1, 30, .inl gha) := (hfm ha hm_ha (z_tne hf_ha hf_mm (m := 340) (n := 10) rfl rfl (by decide)) (z_tne hf_ha hf_ro (m := 340) (n := 204) rfl rfl (by decide)) (z_tne hf_ha hf_ct (m := 340) (n := 132) rfl rfl (by decide)) (z_tne hf_ha hf_se (m := 340) (n := 388) rfl rfl (by decide)) (z_tne hf_ha hf_th (m := 340) (n := 388) rfl rfl (by decide)) (z_tne hf_ha hf_cn (m := 340) (n := 388) rfl rfl (by decide)) (z_tne hf_ha hf_db (m := 340) (n := 140) rfl rfl (by decide)) (z_tne hf_ha hf_be (m := 340) (n := 20692) rfl rfl (by decide)) (z_tne hf_ha hf_du (m := 340) (n := 41700) rfl rfl (by decide))).trans hf_ha
  have hf_dr : f2 dr = .inl (cy 1, 520, .inl gdr) := (hfm dr hm_dr (z_tne hf_dr hf_mm (m := 4260) (n := 10) rfl rfl (by decide)) (z_tne hf_dr hf_ro (m := 4260) (n := 204) rfl rfl (by decide)) (z_tne hf_dr hf_ct (m := 4260) (n := 132) rfl rfl (by decide)) (z_tne hf_dr hf_se (m := 4260) (n := 388) rfl rfl (by decide)) (z_tne hf_dr hf_th (m := 4260) (n := 388) rfl rfl (by decide)) (z_tne hf_dr hf_cn (m := 4260) (n := 388) rfl rfl (by decide)) (z_tne hf_dr hf_db (m := 4260) (n := 140) rfl rfl (by decide)) (z_tne hf_dr hf_be (m := 4260) (n := 20692) rfl rfl (by decide)) (z_tne hf_dr hf_du (m := 4260) (n := 41700) rfl rfl (by decide))).trans hf_dr
  have hf_lw : f2 lw = .inl (cy 1, 25, .inl glw) := (hfm lw hm_lw (z_tne hf_lw hf_mm (m := 300) (n := 10) rfl rfl (by decide)) (z_tne hf_lw hf_ro (m := 300) (n := 204) rfl rfl (by decide)) (z_tne hf_lw hf_ct (m := 300) (n := 132) rfl rfl (by decide)) (z_tne hf_lw hf_se (m := 300) (n := 388) rfl rfl (by decide)) (z_tne hf_lw hf_th (m := 300) (n := 388) rfl rfl (by decide)) (z_tne hf_lw hf_cn (m := 300) (n := 388) rfl rfl (by decide)) (z_tne hf_lw hf_db (m := 300) (n := 140) rfl rfl (by decide)) (z_tne hf_lw hf_be (m := 300) (n := 20692) rfl rfl (by decide)) (z_tne hf_lw hf_du (m := 300) (n := 41700) rfl rfl (by decide))).trans hf_lw
  have hf_st : f2 st = .inl (cy 1, 20, .inl gst) := (hfm st hm_st (z_tne hf_st hf_mm (m := 260) (n := 10) rfl rfl (by decide)) (z_tne hf_st hf_ro (m := 260) (n := 204) rfl rfl (by decide)) (z_tne hf_st hf_ct (m := 260) (n := 132) rfl rfl (by decide)) (z_tne hf_st hf_se (m := 260) (n := 388) rfl rfl (by decide)) (z_tne hf_st hf_th (m := 260) (n := 388) rfl rfl (by decide)) (z_tne hf_st hf_cn (m := 260) (n := 388) rfl rfl (by decide)) (z_tne hf_st hf_db (m := 260) (n := 140) rfl rfl (by decide)) (z_tne hf_st hf_be (m := 260) (n := 20692) rfl rfl (by decide)) (z_tne hf_st hf_du (m := 260) (n := 41700) rfl rfl (by decide))).trans hf_st
  have hf_fo : f2 fo = .inl (cy 1, 180, .inl gfo) := (hfm fo hm_fo (z_tne hf_fo hf_mm (m := 1540) (n := 10) rfl rfl (by decide)) (z_tne hf_fo hf_ro (m := 1540) (n := 204) rfl rfl (by decide)) (z_tne hf_fo hf_ct (m := 1540) (n := 132) rfl rfl (by decide)) (z_tne hf_fo hf_se (m := 1540) (n := 388) rfl rfl (by decide)) (z_tne hf_fo hf_th (m := 1540) (n := 388) rfl rfl (by decide)) (z_tne hf_fo hf_cn (m := 1540) (n := 388) rfl rfl (by decide)) (z_tne hf_fo hf_db (m := 1540) (n := 140) rfl rfl (by decide)) (z_tne hf_fo hf_be (m := 1540) (n := 20692) rfl rfl (by decide)) (z_tne hf_fo hf_du (m := 1540) (n := 41700) rfl rfl (by decide))).trans hf_fo
  have hf_mm : f2 mm = .inr (10, [.int m0, .ref wd, .ref my, .ref ce, .ref mv, .ref ta, .int m6, .int m7, .int m8, .int m9, .int m10, .long m11, .int m12, .int m13, .int m14, .int m15, .ref li, .ref ha, .ref lw, .ref st, .ref fo, .ref dr, .int m22, .ref ik, .int (-1), .int mn2_3, .long x2_7, .int 0, .int 1000, .ref ro, .int n2_4, .ref ct, .ref se, .ref th, .ref cn, .ref be, .int y2_6, .ref du, .int d2_5, .ref db, .int m40, .int m41, .int m42, .ref pn, .ref wg, .ref wh, .ref tn, .ref he, .int m48, .ref tr, .ref fd, .ref po, .int m52, .int m53]) := ha_0
  have hf_ro : f2 ro = .inl (cy 1, 13, .inl nro_8) := ha_1
  have hf_ct : f2 ct = .inl (cy 1, 4, .inl nct_9) := ha_2
  have hf_se : f2 se = .inl (cy 1, 36, .inl nse_10) := ha_3
  have hf_th : f2 th = .inl (cy 1, 36, .inl nth_11) := ha_4
  have hf_cn : f2 cn = .inl (cy 1, 36, .inl ncn_12) := ha_5
  have hf_db : f2 db = .inl (cy 1, 5, .inl ndb_13) := ha_6
  have hf_be : f2 be = .inl (cy 1, 2574, .inl nbe_14) := ha_7
  have hf_du : f2 du = .inl (cy 1, 5200, .inl ndu_15) := ha_8
  have hto := hp
  refine lv_aload_n hx hb dX10_eweOf_4 rfl (lv_at hl 0 rfl) ?_
  refine lv_iload_n hx hb dX10_eweOf_5 rfl (lv_at hl 1 rfl) ?_
  refine z_calliV (cells := 0) (slots := 0) (b := mm) (As := [.int oo]) (rest := []) (ci := 10) (q0 := (RX10, TX10, 54)) ⟨hx, hb, hml, hown, hT⟩ (c_X10_othersThan l hm_mm hm_db hm_lw hf_mm hf_db hf_lw hq_lw) (cwV 1 hT (z_goodV (fun _ h => h) kw_1665 kw_1667 kw_75 kw_96 kw_1668) rfl rfl rfl (by decide +kernel) ⟨by decide, by decide⟩) z_mv hKK hK hw hA hm_mm hf_mm rfl rfl rfl hl.1 rfl (Nat.le_of_ble_eq_true rfl) dX10_eweOf_6 ⟨by decide, by decide⟩ (fun r16 u H locs hp hw => ?_)
  obtain ⟨rfl, hp⟩ := hp
  have hw : z_H D vwCl (z_A L sz) s.heap L f2 H locs := hw
  refine lv_istore (lv' := [(5, .int r16), (0, .ref mm), (1, .int oo), (2, .int ga), (3, .int dy), (4, .int ho)]) hx hb dX10_eweOf_9 hl (by decide) rfl (fun ls hl => ?_)
  refine lv_aload_n hx hb dX10_eweOf_11 rfl (lv_at hl 1 rfl) ?_
  refine z_callvV (cells := 0) (slots := 0) (b := mm) (As := []) (rest := []) (ci := 10) (q0 := (RX10, TX10, 54)) ⟨hx, hb, hml, hown, hT⟩ (c_X10_plainly l hm_mm hm_ha hf_mm hf_ha hq_ha) (cwV 0 hT (z_goodV (fun _ h => h) kw_1539 kw_1541 kw_58 kw_96 kw_1542) rfl rfl rfl (by decide +kernel) ⟨by decide, by decide⟩) z_mv hKK hK hw hA hm_mm hf_mm rfl rfl rfl hl.1 rfl (Nat.le_of_ble_eq_true rfl) dX10_eweOf_12 ⟨by decide, by decide⟩ (fun u H locs hp hw => ?_)
  obtain ⟨L17, f18⟩ := u
  obtain ⟨hsb, hfm, mn2_19, ha_0, hp⟩ := hp
  have hsb : L = L17 := hsb
  subst hsb
  have hsb : ∀ b ∈ L, b ∈ L := fun _ h => h
  have hw : z_H D vwCl (z_A L sz) s.heap L f18 H locs := hw
  have hfr : ∀ b ∈ L, b ≠ mm → b ≠ ro → b ≠ ct → b ≠ se → b ≠ th → b ≠ cn → b ≠ db → b ≠ be → b ≠ du → b ≠ dr → f18 b = f b := fun b hb h0 h1 h2 h3 h4 h5 h6 h7 h8 h9 => (hfm b hb h0).trans (hfr b hb h0 h1 h2 h3 h4 h5 h6 h7 h8 h9)
  have hf_ha : f18 ha = .inl (cy 1, 30, .inl gha) := (hfm ha hm_ha (z_tne hf_ha hf_mm (m := 340) (n := 10) rfl rfl (by decide))).trans hf_ha
  have hf_dr : f18 dr = .inl (cy 1, 520, .inl gdr) := (hfm dr hm_dr (z_tne hf_dr hf_mm (m := 4260) (n := 10) rfl rfl (by decide))).trans hf_dr
  have hf_ro : f18 ro = .inl (cy 1, 13, .inl nro_8) := (hfm ro hm_ro (z_tne hf_ro hf_mm (m := 204) (n := 10) rfl rfl (by decide))).trans hf_ro
  have hf_lw : f18 lw = .inl (cy 1, 25, .inl glw) := (hfm lw hm_lw (z_tne hf_lw hf_mm (m := 300) (n := 10) rfl rfl (by decide))).trans hf_lw
  have hf_st : f18 st = .inl (cy 1, 20, .inl gst) := (hfm st hm_st (z_tne hf_st hf_mm (m := 260) (n := 10) rfl rfl (by decide))).trans hf_st
  have hf_ct : f18 ct = .inl (cy 1, 4, .inl nct_9) := (hfm ct hm_ct (z_tne hf_ct hf_mm (m := 132) (n := 10) rfl rfl (by decide))).trans hf_ct
  have hf_se : f18 se = .inl (cy 1, 36, .inl nse_10) := (hfm se hm_se (z_tne hf_se hf_mm (m := 388) (n := 10) rfl rfl (by decide))).trans hf_se
  have hf_th : f18 th = .inl (cy 1, 36, .inl nth_11) := (hfm th hm_th (z_tne hf_th hf_mm (m := 388) (n := 10) rfl rfl (by decide))).trans hf_th
  have hf_cn : f18 cn = .inl (cy 1, 36, .inl ncn_12) := (hfm cn hm_cn (z_tne hf_cn hf_mm (m := 388) (n := 10) rfl rfl (by decide))).trans hf_cn
  have hf_db : f18 db = .inl (cy 1, 5, .inl ndb_13) := (hfm db hm_db (z_tne hf_db hf_mm (m := 140) (n := 10) rfl rfl (by decide))).trans hf_db
  have hf_be : f18 be = .inl (cy 1, 2574, .inl nbe_14) := (hfm be hm_be (z_tne hf_be hf_mm (m := 20692) (n := 10) rfl rfl (by decide))).trans hf_be
  have hf_du : f18 du = .inl (cy 1, 5200, .inl ndu_15) := (hfm du hm_du (z_tne hf_du hf_mm (m := 41700) (n := 10) rfl rfl (by decide))).trans hf_du
  have hf_fo : f18 fo = .inl (cy 1, 180, .inl gfo) := (hfm fo hm_fo (z_tne hf_fo hf_mm (m := 1540) (n := 10) rfl rfl (by decide))).trans hf_fo
  have hf_mm : f18 mm = .inr (10, [.int m0, .ref wd, .ref my, .ref ce, .ref mv, .ref ta, .int m6, .int m7, .int m8, .int m9, .int m10, .long m11, .int m12, .int m13, .int m14, .int m15, .ref li, .ref ha, .ref lw, .ref st, .ref fo, .ref dr, .int m22, .ref ik, .int (-1), .int mn2_19, .long x2_7, .int 0, .int 1000, .ref ro, .int n2_4, .ref ct, .ref se, .ref th, .ref cn, .ref be, .int y2_6, .ref du, .int d2_5, .ref db, .int m40, .int m41, .int m42, .ref pn, .ref wg, .ref wh, .ref tn, .ref he, .int m48, .ref tr, .ref fd, .ref po, .int m52, .int m53]) := ha_0
  have hq20 := hp
  refine lv_aload_n hx hb dX10_eweOf_15 rfl (lv_at hl 1 rfl) ?_
  refine lv_iload_n hx hb dX10_eweOf_16 rfl (lv_at hl 2 rfl) ?_
  refine lv_iload_n hx hb dX10_eweOf_17 rfl (lv_at hl 3 rfl) ?_
  refine lv_iload_n hx hb dX10_eweOf_18 rfl (lv_at hl 4 rfl) ?_
  refine lv_iload hx hb dX10_eweOf_19 (lv_at hl 5 rfl) ?_
  refine lv_iconst (v := 1) hx hb dX10_eweOf_21 (by decide) ?_
  refine lv_iconst (v := 0) hx hb dX10_eweOf_22 (by decide) ?_
  refine lv_iload_n hx hb dX10_eweOf_23 rfl (lv_at hl 2 rfl) ?_
  refine lv_iconst (v := 0) hx hb dX10_eweOf_24 (by decide) ?_
  have hz21 := (show (1 : Int32).toInt = 1 by decide)
  have hz22 := (show (0 : Int32).toInt = 0 by decide)
  have hz23 := (show (0 : Int32).toInt = 0 by decide)
  refine z_callvV (cells := 0) (slots := 0) (b := mm) (As := [.int oo, .int ga, .int dy, .int ho, .int 1, .int 0, .int oo, .int 0]) (rest := []) (ci := 10) (q0 := (RX10, TX10, 54)) ⟨hx, hb, hml, hown, hT⟩ (c_X10_adds l hm_mm hm_ha hm_dr hf_mm hf_ha hf_dr hq_ha hq_dr (by first | omega | decide | assumption) (by first | omega | decide | assumption) (by first | omega | decide | assumption) (by first | omega | decide | assumption) (by first | omega | decide | assumption) (by first | omega | decide | assumption) (by first | omega | decide | assumption) (by first | omega | decide | assumption)) (cwV 8 hT (z_goodV (fun _ h => h) kw_1636 kw_1638 kw_72 kw_96 kw_1639) rfl rfl rfl (by decide +kernel) ⟨by decide, by decide⟩) z_mv hKK hK hw hA hm_mm hf_mm rfl rfl rfl hl.1 rfl (Nat.le_of_ble_eq_true rfl) dX10_eweOf_25 ⟨by decide, by decide⟩ (fun u H locs hp hw => ?_)
  obtain ⟨L24, f25⟩ := u
  obtain ⟨hsb, hfm, mn2_26, ndr_27, ha_0, ha_1, hq_dr, hp⟩ := hp
  have hsb : L = L24 := hsb
  subst hsb
  have hsb : ∀ b ∈ L, b ∈ L := fun _ h => h
  have hw : z_H D vwCl (z_A L sz) s.heap L f25 H locs := hw
  have hfr : ∀ b ∈ L, b ≠ mm → b ≠ ro → b ≠ ct → b ≠ se → b ≠ th → b ≠ cn → b ≠ db → b ≠ be → b ≠ du → b ≠ dr → f25 b = f b := fun b hb h0 h1 h2 h3 h4 h5 h6 h7 h8 h9 => (hfm b hb h0 h9).trans (hfr b hb h0 h1 h2 h3 h4 h5 h6 h7 h8 h9)
  have hf_ha : f25 ha = .inl (cy 1, 30, .inl gha) := (hfm ha hm_ha (z_tne hf_ha hf_mm (m := 340) (n := 10) rfl rfl (by decide)) (z_tne hf_ha hf_dr (m := 340) (n := 4260) rfl rfl (by decide))).trans hf_ha
  have hf_ro : f25 ro = .inl (cy 1, 13, .inl nro_8) := (hfm ro hm_ro (z_tne hf_ro hf_mm (m := 204) (n := 10) rfl rfl (by decide)) (z_tne hf_ro hf_dr (m := 204) (n := 4260) rfl rfl (by decide))).trans hf_ro
  have hf_lw : f25 lw = .inl (cy 1, 25, .inl glw) := (hfm lw hm_lw (z_tne hf_lw hf_mm (m := 300) (n := 10) rfl rfl (by decide)) (z_tne hf_lw hf_dr (m := 300) (n := 4260) rfl rfl (by decide))).trans hf_lw
  have hf_st : f25 st = .inl (cy 1, 20, .inl gst) := (hfm st hm_st (z_tne hf_st hf_mm (m := 260) (n := 10) rfl rfl (by decide)) (z_tne hf_st hf_dr (m := 260) (n := 4260) rfl rfl (by decide))).trans hf_st
  have hf_ct : f25 ct = .inl (cy 1, 4, .inl nct_9) := (hfm ct hm_ct (z_tne hf_ct hf_mm (m := 132) (n := 10) rfl rfl (by decide)) (z_tne hf_ct hf_dr (m := 132) (n := 4260) rfl rfl (by decide))).trans hf_ct
  have hf_se : f25 se = .inl (cy 1, 36, .inl nse_10) := (hfm se hm_se (z_tne hf_se hf_mm (m := 388) (n := 10) rfl rfl (by decide)) (z_tne hf_se hf_dr (m := 388) (n := 4260) rfl rfl (by decide))).trans hf_se
  have hf_th : f25 th = .inl (cy 1, 36, .inl nth_11) := (hfm th hm_th (z_tne hf_th hf_mm (m := 388) (n := 10) rfl rfl (by decide)) (z_tne hf_th hf_dr (m := 388) (n := 4260) rfl rfl (by decide))).trans hf_th
  have hf_cn : f25 cn = .inl (cy 1, 36, .inl ncn_12) := (hfm cn hm_cn (z_tne hf_cn hf_mm (m := 388) (n := 10) rfl rfl (by decide)) (z_tne hf_cn hf_dr (m := 388) (n := 4260) rfl rfl (by decide))).trans hf_cn
  have hf_db : f25 db = .inl (cy 1, 5, .inl ndb_13) := (hfm db hm_db (z_tne hf_db hf_mm (m := 140) (n := 10) rfl rfl (by decide)) (z_tne hf_db hf_dr (m := 140) (n := 4260) rfl rfl (by decide))).trans hf_db
  have hf_be : f25 be = .inl (cy 1, 2574, .inl nbe_14) := (hfm be hm_be (z_tne hf_be hf_mm (m := 20692) (n := 10) rfl rfl (by decide)) (z_tne hf_be hf_dr (m := 20692) (n := 4260) rfl rfl (by decide))).trans hf_be
  have hf_du : f25 du = .inl (cy 1, 5200, .inl ndu_15) := (hfm du hm_du (z_tne hf_du hf_mm (m := 41700) (n := 10) rfl rfl (by decide)) (z_tne hf_du hf_dr (m := 41700) (n := 4260) rfl rfl (by decide))).trans hf_du
  have hf_fo : f25 fo = .inl (cy 1, 180, .inl gfo) := (hfm fo hm_fo (z_tne hf_fo hf_mm (m := 1540) (n := 10) rfl rfl (by decide)) (z_tne hf_fo hf_dr (m := 1540) (n := 4260) rfl rfl (by decide))).trans hf_fo
  have hf_mm : f25 mm = .inr (10, [.int m0, .ref wd, .ref my, .ref ce, .ref mv, .ref ta, .int m6, .int m7, .int m8, .int m9, .int m10, .long m11, .int m12, .int m13, .int m14, .int m15, .ref li, .ref ha, .ref lw, .ref st, .ref fo, .ref dr, .int m22, .ref ik, .int (-1), .int mn2_26, .long x2_7, .int 0, .int 1000, .ref ro, .int n2_4, .ref ct, .ref se, .ref th, .ref cn, .ref be, .int y2_6, .ref du, .int d2_5, .ref db, .int m40, .int m41, .int m42, .ref pn, .ref wg, .ref wh, .ref tn, .ref he, .int m48, .ref tr, .ref fd, .ref po, .int m52, .int m53]) := ha_0
  have hf_dr : f25 dr = .inl (cy 1, 520, .inl ndr_27) := ha_1
  have hq28 := hp
  refine lv_aload_n hx hb dX10_eweOf_28 rfl (lv_at hl 1 rfl) ?_
  refine z_callvV (cells := 0) (slots := 0) (b := mm) (As := []) (rest := []) (ci := 10) (q0 := (RX10, TX10, 54)) ⟨hx, hb, hml, hown, hT⟩ (c_X10_goes_ l hm_mm hm_ha hm_dr hm_ro hm_lw hm_st hm_ct hm_se hm_th hm_cn hm_db hm_be hm_du hm_fo hf_mm hf_ha hf_dr hf_ro hf_lw hf_st hf_ct hf_se hf_th hf_cn hf_db hf_be hf_du hf_fo ne_se_th ne_se_cn ne_th_cn hq_ha hq_dr hq_ro hq_lw hq_st hq_ct hq_be hq_du (by first | omega | decide | assumption) (by omega) (by first | omega | decide | assumption)) (cwV 0 hT (z_goodV (fun _ h => h) kw_1543 kw_1545 kw_59 kw_96 kw_1546) rfl rfl rfl (by decide +kernel) ⟨by decide, by decide⟩) z_mv hKK hK hw hA hm_mm hf_mm rfl rfl rfl hl.1 rfl (Nat.le_of_ble_eq_true rfl) dX10_eweOf_29 ⟨by decide, by decide⟩ (fun u H locs hp hw => ?_)
  obtain ⟨L29, f30⟩ := u
  obtain ⟨hsb, hfm, n2_31, d2_32, y2_33, x2_34, nro_35, nct_36, nse_37, nth_38, ncn_39, ndb_40, nbe_41, ndu_42, ha_0, ha_1, ha_2, ha_3, ha_4, ha_5, ha_6, ha_7, ha_8, hq_ro, hq_ct, hq_be, hq_du, hp⟩ := hp
  have hsb : L = L29 := hsb
  subst hsb
  have hsb : ∀ b ∈ L, b ∈ L := fun _ h => h
  have hw : z_H D vwCl (z_A L sz) s.heap L f30 H locs := hw
  have hfr : ∀ b ∈ L, b ≠ mm → b ≠ ro → b ≠ ct → b ≠ se → b ≠ th → b ≠ cn → b ≠ db → b ≠ be → b ≠ du → b ≠ dr → f30 b = f b := fun b hb h0 h1 h2 h3 h4 h5 h6 h7 h8 h9 => (hfm b hb h0 h1 h2 h3 h4 h5 h6 h7 h8).trans (hfr b hb h0 h1 h2 h3 h4 h5 h6 h7 h8 h9)
  have hf_ha : f30 ha = .inl (cy 1, 30, .inl gha) := (hfm ha hm_ha (z_tne hf_ha hf_mm (m := 340) (n := 10) rfl rfl (by decide)) (z_tne hf_ha hf_ro (m := 340) (n := 204) rfl rfl (by decide)) (z_tne hf_ha hf_ct (m := 340) (n := 132) rfl rfl (by decide)) (z_tne hf_ha hf_se (m := 340) (n := 388) rfl rfl (by decide)) (z_tne hf_ha hf_th (m := 340) (n := 388) rfl rfl (by decide)) (z_tne hf_ha hf_cn (m := 340) (n := 388) rfl rfl (by decide)) (z_tne hf_ha hf_db (m := 340) (n := 140) rfl rfl (by decide)) (z_tne hf_ha hf_be (m := 340) (n := 20692) rfl rfl (by decide)) (z_tne hf_ha hf_du (m := 340) (n := 41700) rfl rfl (by decide))).trans hf_ha
  have hf_dr : f30 dr = .inl (cy 1, 520, .inl ndr_27) := (hfm dr hm_dr (z_tne hf_dr hf_mm (m := 4260) (n := 10) rfl rfl (by decide)) (z_tne hf_dr hf_ro (m := 4260) (n := 204) rfl rfl (by decide)) (z_tne hf_dr hf_ct (m := 4260) (n := 132) rfl rfl (by decide)) (z_tne hf_dr hf_se (m := 4260) (n := 388) rfl rfl (by decide)) (z_tne hf_dr hf_th (m := 4260) (n := 388) rfl rfl (by decide)) (z_tne hf_dr hf_cn (m := 4260) (n := 388) rfl rfl (by decide)) (z_tne hf_dr hf_db (m := 4260) (n := 140) rfl rfl (by decide)) (z_tne hf_dr hf_be (m := 4260) (n := 20692) rfl rfl (by decide)) (z_tne hf_dr hf_du (m := 4260) (n := 41700) rfl rfl (by decide))).trans hf_dr
  have hf_lw : f30 lw = .inl (cy 1, 25, .inl glw) := (hfm lw hm_lw (z_tne hf_lw hf_mm (m := 300) (n := 10) rfl rfl (by decide)) (z_tne hf_lw hf_ro (m := 300) (n := 204) rfl rfl (by decide)) (z_tne hf_lw hf_ct (m := 300) (n := 132) rfl rfl (by decide)) (z_tne hf_lw hf_se (m := 300) (n := 388) rfl rfl (by decide)) (z_tne hf_lw hf_th (m := 300) (n := 388) rfl rfl (by decide)) (z_tne hf_lw hf_cn (m := 300) (n := 388) rfl rfl (by decide)) (z_tne hf_lw hf_db (m := 300) (n := 140) rfl rfl (by decide)) (z_tne hf_lw hf_be (m := 300) (n := 20692) rfl rfl (by decide)) (z_tne hf_lw hf_du (m := 300) (n := 41700) rfl rfl (by decide))).trans hf_lw
  have hf_st : f30 st = .inl (cy 1, 20, .inl gst) := (hfm st hm_st (z_tne hf_st hf_mm (m := 260) (n := 10) rfl rfl (by decide)) (z_tne hf_st hf_ro (m := 260) (n := 204) rfl rfl (by decide)) (z_tne hf_st hf_ct (m := 260) (n := 132) rfl rfl (by decide)) (z_tne hf_st hf_se (m := 260) (n := 388) rfl rfl (by decide)) (z_tne hf_st hf_th (m := 260) (n := 388) rfl rfl (by decide)) (z_tne hf_st hf_cn (m := 260) (n := 388) rfl rfl (by decide)) (z_tne hf_st hf_db (m := 260) (n := 140) rfl rfl (by decide)) (z_tne hf_st hf_be (m := 260) (n := 20692) rfl rfl (by decide)) (z_tne hf_st hf_du (m := 260) (n := 41700) rfl rfl (by decide))).trans hf_st
  have hf_fo : f30 fo = .inl (cy 1, 180, .inl gfo) := (hfm fo hm_fo (z_tne hf_fo hf_mm (m := 1540) (n := 10) rfl rfl (by decide)) (z_tne hf_fo hf_ro (m := 1540) (n := 204) rfl rfl (by decide)) (z_tne hf_fo hf_ct (m := 1540) (n := 132) rfl rfl (by decide)) (z_tne hf_fo hf_se (m := 1540) (n := 388) rfl rfl (by decide)) (z_tne hf_fo hf_th (m := 1540) (n := 388) rfl rfl (by decide)) (z_tne hf_fo hf_cn (m := 1540) (n := 388) rfl rfl (by decide)) (z_tne hf_fo hf_db (m := 1540) (n := 140) rfl rfl (by decide)) (z_tne hf_fo hf_be (m := 1540) (n := 20692) rfl rfl (by decide)) (z_tne hf_fo hf_du (m := 1540) (n := 41700) rfl rfl (by decide))).trans hf_fo
  have hf_mm : f30 mm = .inr (10, [.int m0, .ref wd, .ref my, .ref ce, .ref mv, .ref ta, .int m6, .int m7, .int m8, .int m9, .int m10, .long m11, .int m12, .int m13, .int m14, .int m15, .ref li, .ref ha, .ref lw, .ref st, .ref fo, .ref dr, .int m22, .ref ik, .int (-1), .int mn2_26, .long x2_34, .int 0, .int 1000, .ref ro, .int n2_31, .ref ct, .ref se, .ref th, .ref cn, .ref be, .int y2_33, .ref du, .int d2_32, .ref db, .int m40, .int m41, .int m42, .ref pn, .ref wg, .ref wh, .ref tn, .ref he, .int m48, .ref tr, .ref fd, .ref po, .int m52, .int m53]) := ha_0
  have hf_ro : f30 ro = .inl (cy 1, 13, .inl nro_35) := ha_1
  have hf_ct : f30 ct = .inl (cy 1, 4, .inl nct_36) := ha_2
  have hf_se : f30 se = .inl (cy 1, 36, .inl nse_37) := ha_3
  have hf_th : f30 th = .inl (cy 1, 36, .inl nth_38) := ha_4
  have hf_cn : f30 cn = .inl (cy 1, 36, .inl ncn_39) := ha_5
  have hf_db : f30 db = .inl (cy 1, 5, .inl ndb_40) := ha_6
  have hf_be : f30 be = .inl (cy 1, 2574, .inl nbe_41) := ha_7
  have hf_du : f30 du = .inl (cy 1, 5200, .inl ndu_42) := ha_8
  have hgx := hp.2.2.1
  clear hp
  refine lv_aload_n hx hb dX10_eweOf_32 rfl (lv_at hl 1 rfl) ?_
  refine lv_iload_n hx hb dX10_eweOf_33 rfl (lv_at hl 2 rfl) ?_
  refine z_calliV (cells := 0) (slots := 0) (b := mm) (As := [.int oo]) (rest := []) (ci := 10) (q0 := (RX10, TX10, 54)) ⟨hx, hb, hml, hown, hT⟩ (c_X10_othersThan l hm_mm hm_db hm_lw hf_mm hf_db hf_lw hq_lw) (cwV 1 hT (z_goodV (fun _ h => h) kw_1665 kw_1667 kw_75 kw_96 kw_1668) rfl rfl rfl (by decide +kernel) ⟨by decide, by decide⟩) z_mv hKK hK hw hA hm_mm hf_mm rfl rfl rfl hl.1 rfl (Nat.le_of_ble_eq_true rfl) dX10_eweOf_34 ⟨by decide, by decide⟩ (fun r43 u H locs hp hw => ?_)
  obtain ⟨rfl, hp⟩ := hp
  have hw : z_H D vwCl (z_A L sz) s.heap L f30 H locs := hw
  refine lv_iload hx hb dX10_eweOf_37 (lv_at hl 0 rfl) ?_
  refine lv_isub hx hb dX10_eweOf_39 ?_
  refine lv_topi (fun w44 e_w44 => ?_)
  exact z_iret hx hb hr hlk (by decide) (by decide) hw (⟨hsub, hfr, mn2_26, n2_31, d2_32, y2_33, x2_34, nro_35, nct_36, nse_37, nth_38, ncn_39, ndb_40, nbe_41, ndu_42, ndr_27, hf_mm, hf_ro, hf_ct, hf_se, hf_th, hf_cn, hf_db, hf_be, hf_du, hf_dr, hq_ro, hq_ct, hq_be, hq_du, hq_dr, by omega⟩) dX10_eweOf_40

set_option maxHeartbeats 2000000 in
set_option maxRecDepth 100000 in
theorem c_X10_ewe (l : Launch) {D : va_G} {cy : Nat → ClassId} {L : List Nat} {f : Nat → va_E} {sz : Nat} {adK adV : Nat → Nat} {mm wd my ce mv ta li ha lw st fo dr ik ro ct se th cn be du db pn wg wh tn he tr fd po : Nat} {m0 m6 m7 m8 m9 m10 m12 m13 m14 m15 m22 m24 m25 m27 m28 m30 m36 m38 m40 m41 m42 m48 m52 m53 : Int32} {m11 m26 : Int64} {gli gha glw gst gfo gdr gro gct gse gth gcn gbe gdu gdb : Nat → Int32}  {oo ga dy ho : Int32} (hm_mm : mm ∈ L) (hm_ha : ha ∈ L) (hm_dr : dr ∈ L) (hm_ro : ro ∈ L) (hm_lw : lw ∈ L) (hm_st : st ∈ L) (hm_ct : ct ∈ L) (hm_se : se ∈ L) (hm_th : th ∈ L) (hm_cn : cn ∈ L) (hm_db : db ∈ L) (hm_be : be ∈ L) (hm_du : du ∈ L) (hm_fo : fo ∈ L) (hm_li : li ∈ L) (hf_mm : f mm = .inr (10, [.int m0, .ref wd, .ref my, .ref ce, .ref mv, .ref ta, .int m6, .int m7, .int m8, .int m9, .int m10, .long m11, .int m12, .int m13, .int m14, .int m15, .ref li, .ref ha, .ref lw, .ref st, .ref fo, .ref dr, .int m22, .ref ik, .int m24, .int m25, .long m26, .int m27, .int m28, .ref ro, .int m30, .ref ct, .ref se, .ref th, .ref cn, .ref be, .int m36, .ref du, .int m38, .ref db, .int m40, .int m41, .int m42, .ref pn, .ref wg, .ref wh, .ref tn, .ref he, .int m48, .ref tr, .ref fd, .ref po, .int m52, .int m53])) (hf_ha : f ha = .inl (cy 1, 30, .inl gha)) (hf_dr : f dr = .inl (cy 1, 520, .inl gdr)) (hf_ro : f ro = .inl (cy 1, 13, .inl gro)) (hf_lw : f lw = .inl (cy 1, 25, .inl glw)) (hf_st : f st = .inl (cy 1, 20, .inl gst)) (hf_ct : f ct = .inl (cy 1, 4, .inl gct)) (hf_se : f se = .inl (cy 1, 36, .inl gse)) (hf_th : f th = .inl (cy 1, 36, .inl gth)) (hf_cn : f cn = .inl (cy 1, 36, .inl gcn)) (hf_db : f db = .inl (cy 1, 5, .inl gdb)) (hf_be : f be = .inl (cy 1, 2574, .inl gbe)) (hf_du : f du = .inl (cy 1, 5200, .inl gdu)) (hf_fo : f fo = .inl (cy 1, 180, .inl gfo)) (hf_li : f li = .inl (cy 1, 5, .inl gli)) (ne_se_th : se ≠ th) (ne_se_cn : se ≠ cn) (ne_th_cn : th ≠ cn) (ne_db_li : db ≠ li) (hq_ha : ∀ j : Nat, q_has j (gha j)) (hq_dr : ∀ j : Nat, q_drv j (gdr j)) (hq_ro : ∀ j : Nat, q_12 j (gro j)) (hq_lw : ∀ j : Nat, q_law j (glw j)) (hq_st : ∀ j : Nat, q_law j (gst j)) (hq_ct : ∀ j : Nat, q_law j (gct j)) (hq_be : ∀ j : Nat, q_be j (gbe j)) (hq_du : ∀ j : Nat, q_du j (gdu j)) (hxx : 0 ≤ m26.toInt ∧ m26.toInt < 2147483648) (hea : ∀ m : Nat, m < 5 → z_ea gha glw m) : Met l yX10_ewe (z_ws yX10_ewe cX10_ewe 5 (some .int)) (z_R 8 0 0) (va_Pc [.ref mm, .int oo, .int ga, .int dy, .int ho] (z_Pre D vwCl (z_KK D cy adK adV) L f sz)) (z_Qi D vwCl (fun r u => L = u.1 ∧ (∀ b ∈ L, b ≠ mm → b ≠ ro → b ≠ ct → b ≠ se → b ≠ th → b ≠ cn → b ≠ db → b ≠ be → b ≠ du → b ≠ dr → u.2 b = f b) ∧ (∃ (o2 mn2 i2 u2 n2 d2 y2 : Int32) (x2 : Int64) (nro nct nse nth ncn ndb nbe ndu ndr : Nat → Int32), (u.2 mm = .inr (10, [.int 0, .ref wd, .ref my, .ref ce, .ref mv, .ref ta, .int m6, .int m7, .int m8, .int m9, .int m10, .long m11, .int m12, .int m13, .int m14, .int m15, .ref li, .ref ha, .ref lw, .ref st, .ref fo, .ref dr, .int m22, .ref ik, .int o2, .int mn2, .long x2, .int i2, .int u2, .ref ro, .int n2, .ref ct, .ref se, .ref th, .ref cn, .ref be, .int y2, .ref du, .int d2, .ref db, .int m40, .int m41, .int m42, .ref pn, .ref wg, .ref wh, .ref tn, .ref he, .int m48, .ref tr, .ref fd, .ref po, .int m52, .int m53])) ∧ (u.2 ro = .inl (cy 1, 13, .inl nro)) ∧ (u.2 ct = .inl (cy 1, 4, .inl nct)) ∧ (u.2 se = .inl (cy 1, 36, .inl nse)) ∧ (u.2 th = .inl (cy 1, 36, .inl nth)) ∧ (u.2 cn = .inl (cy 1, 36, .inl ncn)) ∧ (u.2 db = .inl (cy 1, 5, .inl ndb)) ∧ (u.2 be = .inl (cy 1, 2574, .inl nbe)) ∧ (u.2 du = .inl (cy 1, 5200, .inl ndu)) ∧ (u.2 dr = .inl (cy 1, 520, .inl ndr)) ∧ (∀ j : Nat, q_12 j (nro j)) ∧ (∀ j : Nat, q_law j (nct j)) ∧ (∀ j : Nat, q_be j (nbe j)) ∧ (∀ j : Nat, q_du j (ndu j)) ∧ (∀ j : Nat, q_drv j (ndr j)) ∧ (0 ≤ x2.toInt ∧ x2.toInt < 2147483648))) L sz) 0 0 (z_A L sz) := by
  refine z_met (cc := cX10_ewe) (maxL := 5) (ret := (some .int)) (lv := [(0, .ref mm), (1, .int oo), (2, .int ga), (3, .int dy), (4, .int ho)]) (by decide) rfl (Nat.le_of_ble_eq_true rfl) rfl ?_
  intro p e s m below meth c ls hx hb hr hlk hml hown hnm hts hKK hA hw hl
  have hK := hKK.1.1
  have hown : s.vm.findClass RX10 = some m.cls := hown
  have hT : ∀ w ∈ lw_all, w.before ([.ref mm, .int oo, .int ga, .int dy, .int ho] : List Value).toArray s = true := fun w h => hts w (z_cons w h)
  have hsub : L = L := rfl
  have hfr : ∀ b ∈ L, b ≠ mm → b ≠ ro → b ≠ ct → b ≠ se → b ≠ th → b ≠ cn → b ≠ db → b ≠ be → b ≠ du → b ≠ dr → f b = f b := fun _ _ _ _ _ _ _ _ _ _ _ _ => rfl
  have hh0 := (hq_ha 0).1 rfl
  have hh1 := (hq_ha 1).2.1 rfl
  have hh2 := (hq_ha 2).2.2.1 rfl
  have hh3 := (hq_ha 3).2.2.2 rfl
  have hea0 : 2 ≤ (glw 3).toInt ∨ ((gha 3).toInt = 0 ∧ (gha 0).toInt = 0) := hea 0 (by decide)
  have hz_m2 : (-2 : Int32).toInt = -2 := by decide
  have hz_m1 : (-1 : Int32).toInt = -1 := by decide
  have hz_0 : (0 : Int32).toInt = 0 := by decide
  refine lv_aload_n hx hb dX10_ewe_0 rfl (lv_at hl 0 rfl) ?_
  refine lv_iconst (v := 0) hx hb dX10_ewe_1 (by decide) ?_
  refine z_put (C := RX10) (T := TX10) (N := 54) (ci := 10) (v := .int 0) (fs' := [.int 0, .ref wd, .ref my, .ref ce, .ref mv, .ref ta, .int m6, .int m7, .int m8, .int m9, .int m10, .long m11, .int m12, .int m13, .int m14, .int m15, .ref li, .ref ha, .ref lw, .ref st, .ref fo, .ref dr, .int m22, .ref ik, .int m24, .int m25, .long m26, .int m27, .int m28, .ref ro, .int m30, .ref ct, .ref se, .ref th, .ref cn, .ref be, .int m36, .ref du, .int m38, .ref db, .int m40, .int m41, .int m42, .ref pn, .ref wg, .ref wh, .ref tn, .ref he, .int m48, .ref tr, .ref fd, .ref po, .int m52, .int m53]) hx hb hT zin_X10 tyX10_ok nmX10 hown hK hw hm_mm hf_mm rfl 0 (by decide) (hT _ kw_1168) rfl rfl rfl (Nat.le_of_ble_eq_true rfl) rfl dX10_ewe_2 (fun H locs hw => ?_)
  obtain ⟨f1, e_f1⟩ : ∃ z, z = va_up f mm (.inr (10, [.int 0, .ref wd, .ref my, .ref ce, .ref mv, .ref ta, .int m6, .int m7, .int m8, .int m9, .int m10, .long m11, .int m12, .int m13, .int m14, .int m15, .ref li, .ref ha, .ref lw, .ref st, .ref fo, .ref dr, .int m22, .ref ik, .int m24, .int m25, .long m26, .int m27, .int m28, .ref ro, .int m30, .ref ct, .ref se, .ref th, .ref cn, .ref be, .int m36, .ref du, .int m38, .ref db, .int m40, .int m41, .int m42, .ref pn, .ref wg, .ref wh, .ref tn, .ref he, .int m48, .ref tr, .ref fd, .ref po, .int m52, .int m53])) := ⟨_, rfl⟩
  rw [← e_f1] at hw
  have hf_ha : f1 ha = .inl (cy 1, 30, .inl gha) := (congrFun e_f1 ha).trans (z_up_ne (z_tne hf_ha hf_mm (m := 340) (n := 10) rfl rfl (by decide)) hf_ha)
  have hf_dr : f1 dr = .inl (cy 1, 520, .inl gdr) := (congrFun e_f1 dr).trans (z_up_ne (z_tne hf_dr hf_mm (m := 4260) (n := 10) rfl rfl (by decide)) hf_dr)
  have hf_ro : f1 ro = .inl (cy 1, 13, .inl gro) := (congrFun e_f1 ro).trans (z_up_ne (z_tne hf_ro hf_mm (m := 204) (n := 10) rfl rfl (by decide)) hf_ro)
  have hf_lw : f1 lw = .inl (cy 1, 25, .inl glw) := (congrFun e_f1 lw).trans (z_up_ne (z_tne hf_lw hf_mm (m := 300) (n := 10) rfl rfl (by decide)) hf_lw)
  have hf_st : f1 st = .inl (cy 1, 20, .inl gst) := (congrFun e_f1 st).trans (z_up_ne (z_tne hf_st hf_mm (m := 260) (n := 10) rfl rfl (by decide)) hf_st)
  have hf_ct : f1 ct = .inl (cy 1, 4, .inl gct) := (congrFun e_f1 ct).trans (z_up_ne (z_tne hf_ct hf_mm (m := 132) (n := 10) rfl rfl (by decide)) hf_ct)
  have hf_se : f1 se = .inl (cy 1, 36, .inl gse) := (congrFun e_f1 se).trans (z_up_ne (z_tne hf_se hf_mm (m := 388) (n := 10) rfl rfl (by decide)) hf_se)
  have hf_th : f1 th = .inl (cy 1, 36, .inl gth) := (congrFun e_f1 th).trans (z_up_ne (z_tne hf_th hf_mm (m := 388) (n := 10) rfl rfl (by decide)) hf_th)
  have hf_cn : f1 cn = .inl (cy 1, 36, .inl gcn) := (congrFun e_f1 cn).trans (z_up_ne (z_tne hf_cn hf_mm (m := 388) (n := 10) rfl rfl (by decide)) hf_cn)
  have hf_db : f1 db = .inl (cy 1, 5, .inl gdb) := (congrFun e_f1 db).trans (z_up_ne (z_tne hf_db hf_mm (m := 140) (n := 10) rfl rfl (by decide)) hf_db)
  have hf_be : f1 be = .inl (cy 1, 2574, .inl gbe) := (congrFun e_f1 be).trans (z_up_ne (z_tne hf_be hf_mm (m := 20692) (n := 10) rfl rfl (by decide)) hf_be)
  have hf_du : f1 du = .inl (cy 1, 5200, .inl gdu) := (congrFun e_f1 du).trans (z_up_ne (z_tne hf_du hf_mm (m := 41700) (n := 10) rfl rfl (by decide)) hf_du)
  have hf_fo : f1 fo = .inl (cy 1, 180, .inl gfo) := (congrFun e_f1 fo).trans (z_up_ne (z_tne hf_fo hf_mm (m := 1540) (n := 10) rfl rfl (by decide)) hf_fo)
  have hf_li : f1 li = .inl (cy 1, 5, .inl gli) := (congrFun e_f1 li).trans (z_up_ne (z_tne hf_li hf_mm (m := 140) (n := 10) rfl rfl (by decide)) hf_li)
  have hf_mm : f1 mm = .inr (10, [.int 0, .ref wd, .ref my, .ref ce, .ref mv, .ref ta, .int m6, .int m7, .int m8, .int m9, .int m10, .long m11, .int m12, .int m13, .int m14, .int m15, .ref li, .ref ha, .ref lw, .ref st, .ref fo, .ref dr, .int m22, .ref ik, .int m24, .int m25, .long m26, .int m27, .int m28, .ref ro, .int m30, .ref ct, .ref se, .ref th, .ref cn, .ref be, .int m36, .ref du, .int m38, .ref db, .int m40, .int m41, .int m42, .ref pn, .ref wg, .ref wh, .ref tn, .ref he, .int m48, .ref tr, .ref fd, .ref po, .int m52, .int m53]) := (congrFun e_f1 mm).trans z_up_self
  have hfr : ∀ b ∈ L, b ≠ mm → b ≠ ro → b ≠ ct → b ≠ se → b ≠ th → b ≠ cn → b ≠ db → b ≠ be → b ≠ du → b ≠ dr → f1 b = f b := fun b hb h0 h1 h2 h3 h4 h5 h6 h7 h8 h9 => (congrFun e_f1 b).trans (z_up_ne h0 (hfr b hb h0 h1 h2 h3 h4 h5 h6 h7 h8 h9))
  refine lv_aload_n hx hb dX10_ewe_5 rfl (lv_at hl 0 rfl) ?_
  refine lv_iload_n hx hb dX10_ewe_6 rfl (lv_at hl 1 rfl) ?_
  refine lv_i2l hx hb dX10_ewe_7 rfl ?_
  refine lv_topl (fun w2 e_w2 => ?_)
  have i_w2 : w2.toInt = oo.toInt := z_i2l e_w2 rfl
  refine z_calliV (cells := 0) (slots := 0) (b := mm) (As := [.long w2]) (rest := []) (ci := 10) (q0 := (RX10, TX10, 54)) ⟨hx, hb, hml, hown, hT⟩ (c_X10_isOwner l hm_mm hm_li hm_ha hf_mm hf_li hf_ha hq_ha) (cwV 1 hT (z_goodV (fun _ h => h) kw_1604 kw_1606 kw_69 kw_96 kw_1607) rfl rfl rfl (by decide +kernel) ⟨by decide, by decide⟩) z_mv hKK hK hw hA hm_mm hf_mm rfl rfl rfl hl.1 rfl (Nat.le_of_ble_eq_true rfl) dX10_ewe_8 ⟨by decide, by decide⟩ (fun r3 u H locs hp hw => ?_)
  obtain ⟨rfl, hp⟩ := hp
  have hw : z_H D vwCl (z_A L sz) s.heap L f1 H locs := hw
  rcases hp with ⟨rfl, h4⟩ | ⟨rfl, h4⟩
  · skip
    refine z_if_eq (tgt := 50) hx hb (show (1 : Int32).toInt = 1 by decide) dX10_ewe_11 (by decide) (fun h => absurd h (by decide)) (fun _ => ?_)
    refine lv_aload_n hx hb dX10_ewe_14 rfl (lv_at hl 0 rfl) ?_
    refine lv_iload_n hx hb dX10_ewe_15 rfl (lv_at hl 2 rfl) ?_
    refine z_calliV (cells := 0) (slots := 0) (b := mm) (As := [.int ga]) (rest := []) (ci := 10) (q0 := (RX10, TX10, 54)) ⟨hx, hb, hml, hown, hT⟩ (c_X10_isGap l hm_mm hm_ha hf_mm hf_ha hq_ha) (cwV 1 hT (z_goodV (fun _ h => h) kw_1519 kw_1521 kw_55 kw_96 kw_1522) rfl rfl rfl (by decide +kernel) ⟨by decide, by decide⟩) z_mv hKK hK hw hA hm_mm hf_mm rfl rfl rfl hl.1 rfl (Nat.le_of_ble_eq_true rfl) dX10_ewe_16 ⟨by decide, by decide⟩ (fun r5 u H locs hp hw => ?_)
    obtain ⟨rfl, hp⟩ := hp
    have hw : z_H D vwCl (z_A L sz) s.heap L f1 H locs := hw
    rcases hp with ⟨rfl, h6⟩ | ⟨rfl, h6⟩
    · skip
      refine z_if_eq (tgt := 50) hx hb (show (1 : Int32).toInt = 1 by decide) dX10_ewe_19 (by decide) (fun h => absurd h (by decide)) (fun _ => ?_)
      refine lv_aload_n hx hb dX10_ewe_22 rfl (lv_at hl 0 rfl) ?_
      refine lv_iload_n hx hb dX10_ewe_23 rfl (lv_at hl 3 rfl) ?_
      refine z_calliV (cells := 0) (slots := 0) (b := mm) (As := [.int dy]) (rest := []) (ci := 10) (q0 := (RX10, TX10, 54)) ⟨hx, hb, hml, hown, hT⟩ (c_X10_isDay l hm_mm hm_ha hf_mm hf_ha hq_ha) (cwV 1 hT (z_goodV (fun _ h => h) kw_1535 kw_1537 kw_57 kw_96 kw_1538) rfl rfl rfl (by decide +kernel) ⟨by decide, by decide⟩) z_mv hKK hK hw hA hm_mm hf_mm rfl rfl rfl hl.1 rfl (Nat.le_of_ble_eq_true rfl) dX10_ewe_24 ⟨by decide, by decide⟩ (fun r7 u H locs hp hw => ?_)
      obtain ⟨rfl, hp⟩ := hp
      have hw : z_H D vwCl (z_A L sz) s.heap L f1 H locs := hw
      rcases hp with ⟨rfl, h8⟩ | ⟨rfl, h8⟩
      · skip
        refine z_if_eq (tgt := 50) hx hb (show (1 : Int32).toInt = 1 by decide) dX10_ewe_27 (by decide) (fun h => absurd h (by decide)) (fun _ => ?_)
        refine lv_iload hx hb dX10_ewe_30 (lv_at hl 4 rfl) ?_
        refine z_calliS (cells := 0) (slots := 0) (As := [.int ho]) (rest := []) ⟨hx, hb, hml, hown, hT⟩ (c_X10_isHour l ) (va_cwS 1 hT (z_goodS (fun _ h => h) kw_1523 kw_1524 kw_96 kw_1525) rfl rfl rfl (by decide +kernel) ⟨by decide, by decide⟩) z_mv hKK hw hA rfl hl.1 rfl (Nat.le_of_ble_eq_true rfl) dX10_ewe_32 ⟨by decide, by decide⟩ (fun r9 u H locs hp hw => ?_)
        obtain ⟨rfl, hp⟩ := hp
        have hw : z_H D vwCl (z_A L sz) s.heap L f1 H locs := hw
        rcases hp with ⟨rfl, h10⟩ | ⟨rfl, h10⟩
        · skip
          refine z_if_eq (tgt := 50) hx hb (show (1 : Int32).toInt = 1 by decide) dX10_ewe_35 (by decide) (fun h => absurd h (by decide)) (fun _ => ?_)
          refine lv_aload_n hx hb dX10_ewe_38 rfl (lv_at hl 0 rfl) ?_
          refine lv_iload_n hx hb dX10_ewe_39 rfl (lv_at hl 1 rfl) ?_
          refine lv_iload_n hx hb dX10_ewe_40 rfl (lv_at hl 2 rfl) ?_
          refine lv_iload_n hx hb dX10_ewe_41 rfl (lv_at hl 3 rfl) ?_
          refine lv_iload hx hb dX10_ewe_42 (lv_at hl 4 rfl) ?_
          refine z_calliV (cells := 0) (slots := 0) (b := mm) (As := [.int oo, .int ga, .int dy, .int ho]) (rest := []) (ci := 10) (q0 := (RX10, TX10, 54)) ⟨hx, hb, hml, hown, hT⟩ (c_X10_eweOf l hm_mm hm_ha hm_dr hm_ro hm_lw hm_st hm_ct hm_se hm_th hm_cn hm_db hm_be hm_du hm_fo hf_mm hf_ha hf_dr hf_ro hf_lw hf_st hf_ct hf_se hf_th hf_cn hf_db hf_be hf_du hf_fo ne_se_th ne_se_cn ne_th_cn hq_ha hq_dr hq_ro hq_lw hq_st hq_ct hq_be hq_du (by first | omega | decide | assumption) hea (by first | omega | decide | assumption) (by first | omega | decide | assumption) (by first | omega | decide | assumption) (by first | omega | decide | assumption)) (cwV 4 hT (z_goodV (fun _ h => h) kw_1673 kw_1675 kw_76 kw_96 kw_1676) rfl rfl rfl (by decide +kernel) ⟨by decide, by decide⟩) z_mv hKK hK hw hA hm_mm hf_mm rfl rfl rfl hl.1 rfl (Nat.le_of_ble_eq_true rfl) dX10_ewe_44 ⟨by decide, by decide⟩ (fun r11 u H locs hp hw => ?_)
          obtain ⟨L12, f13⟩ := u
          obtain ⟨hsb, hfm, mn2_14, n2_15, d2_16, y2_17, x2_18, nro_19, nct_20, nse_21, nth_22, ncn_23, ndb_24, nbe_25, ndu_26, ndr_27, ha_0, ha_1, ha_2, ha_3, ha_4, ha_5, ha_6, ha_7, ha_8, ha_9, hq_ro, hq_ct, hq_be, hq_du, hq_dr, hp⟩ := hp
          have hsb : L = L12 := hsb
          subst hsb
          have hsb : ∀ b ∈ L, b ∈ L := fun _ h => h
          have hw : z_H D vwCl (z_A L sz) s.heap L f13 H locs := hw
          have hfr : ∀ b ∈ L, b ≠ mm → b ≠ ro → b ≠ ct → b ≠ se → b ≠ th → b ≠ cn → b ≠ db → b ≠ be → b ≠ du → b ≠ dr → f13 b = f b := fun b hb h0 h1 h2 h3 h4 h5 h6 h7 h8 h9 => (hfm b hb h0 h1 h2 h3 h4 h5 h6 h7 h8 h9).trans (hfr b hb h0 h1 h2 h3 h4 h5 h6 h7 h8 h9)
          have hf_ha : f13 ha = .inl (cy 1, 30, .inl gha) := (hfm ha hm_ha (z_tne hf_ha hf_mm (m := 340) (n := 10) rfl rfl (by decide)) (z_tne hf_ha hf_ro (m := 340) (n := 204) rfl rfl (by decide)) (z_tne hf_ha hf_ct (m := 340) (n := 132) rfl rfl (by decide)) (z_tne hf_ha hf_se (m := 340) (n := 388) rfl rfl (by decide)) (z_tne hf_ha hf_th (m := 340) (n := 388) rfl rfl (by decide)) (z_tne hf_ha hf_cn (m := 340) (n := 388) rfl rfl (by decide)) (z_tne hf_ha hf_db (m := 340) (n := 140) rfl rfl (by decide)) (z_tne hf_ha hf_be (m := 340) (n := 20692) rfl rfl (by decide)) (z_tne hf_ha hf_du (m := 340) (n := 41700) rfl rfl (by decide)) (z_tne hf_ha hf_dr (m := 340) (n := 4260) rfl rfl (by decide))).trans hf_ha
          have hf_lw : f13 lw = .inl (cy 1, 25, .inl glw) := (hfm lw hm_lw (z_tne hf_lw hf_mm (m := 300) (n := 10) rfl rfl (by decide)) (z_tne hf_lw hf_ro (m := 300) (n := 204) rfl rfl (by decide)) (z_tne hf_lw hf_ct (m := 300) (n := 132) rfl rfl (by decide)) (z_tne hf_lw hf_se (m := 300) (n := 388) rfl rfl (by decide)) (z_tne hf_lw hf_th (m := 300) (n := 388) rfl rfl (by decide)) (z_tne hf_lw hf_cn (m := 300) (n := 388) rfl rfl (by decide)) (z_tne hf_lw hf_db (m := 300) (n := 140) rfl rfl (by decide)) (z_tne hf_lw hf_be (m := 300) (n := 20692) rfl rfl (by decide)) (z_tne hf_lw hf_du (m := 300) (n := 41700) rfl rfl (by decide)) (z_tne hf_lw hf_dr (m := 300) (n := 4260) rfl rfl (by decide))).trans hf_lw
          have hf_st : f13 st = .inl (cy 1, 20, .inl gst) := (hfm st hm_st (z_tne hf_st hf_mm (m := 260) (n := 10) rfl rfl (by decide)) (z_tne hf_st hf_ro (m := 260) (n := 204) rfl rfl (by decide)) (z_tne hf_st hf_ct (m := 260) (n := 132) rfl rfl (by decide)) (z_tne hf_st hf_se (m := 260) (n := 388) rfl rfl (by decide)) (z_tne hf_st hf_th (m := 260) (n := 388) rfl rfl (by decide)) (z_tne hf_st hf_cn (m := 260) (n := 388) rfl rfl (by decide)) (z_tne hf_st hf_db (m := 260) (n := 140) rfl rfl (by decide)) (z_tne hf_st hf_be (m := 260) (n := 20692) rfl rfl (by decide)) (z_tne hf_st hf_du (m := 260) (n := 41700) rfl rfl (by decide)) (z_tne hf_st hf_dr (m := 260) (n := 4260) rfl rfl (by decide))).trans hf_st
          have hf_fo : f13 fo = .inl (cy 1, 180, .inl gfo) := (hfm fo hm_fo (z_tne hf_fo hf_mm (m := 1540) (n := 10) rfl rfl (by decide)) (z_tne hf_fo hf_ro (m := 1540) (n := 204) rfl rfl (by decide)) (z_tne hf_fo hf_ct (m := 1540) (n := 132) rfl rfl (by decide)) (z_tne hf_fo hf_se (m := 1540) (n := 388) rfl rfl (by decide)) (z_tne hf_fo hf_th (m := 1540) (n := 388) rfl rfl (by decide)) (z_tne hf_fo hf_cn (m := 1540) (n := 388) rfl rfl (by decide)) (z_tne hf_fo hf_db (m := 1540) (n := 140) rfl rfl (by decide)) (z_tne hf_fo hf_be (m := 1540) (n := 20692) rfl rfl (by decide)) (z_tne hf_fo hf_du (m := 1540) (n := 41700) rfl rfl (by decide)) (z_tne hf_fo hf_dr (m := 1540) (n := 4260) rfl rfl (by decide))).trans hf_fo
          have hf_li : f13 li = .inl (cy 1, 5, .inl gli) := (hfm li hm_li (z_tne hf_li hf_mm (m := 140) (n := 10) rfl rfl (by decide)) (z_tne hf_li hf_ro (m := 140) (n := 204) rfl rfl (by decide)) (z_tne hf_li hf_ct (m := 140) (n := 132) rfl rfl (by decide)) (z_tne hf_li hf_se (m := 140) (n := 388) rfl rfl (by decide)) (z_tne hf_li hf_th (m := 140) (n := 388) rfl rfl (by decide)) (z_tne hf_li hf_cn (m := 140) (n := 388) rfl rfl (by decide)) (Ne.symm ne_db_li) (z_tne hf_li hf_be (m := 140) (n := 20692) rfl rfl (by decide)) (z_tne hf_li hf_du (m := 140) (n := 41700) rfl rfl (by decide)) (z_tne hf_li hf_dr (m := 140) (n := 4260) rfl rfl (by decide))).trans hf_li
          have hf_mm : f13 mm = .inr (10, [.int 0, .ref wd, .ref my, .ref ce, .ref mv, .ref ta, .int m6, .int m7, .int m8, .int m9, .int m10, .long m11, .int m12, .int m13, .int m14, .int m15, .ref li, .ref ha, .ref lw, .ref st, .ref fo, .ref dr, .int m22, .ref ik, .int (-1), .int mn2_14, .long x2_18, .int 0, .int 1000, .ref ro, .int n2_15, .ref ct, .ref se, .ref th, .ref cn, .ref be, .int y2_17, .ref du, .int d2_16, .ref db, .int m40, .int m41, .int m42, .ref pn, .ref wg, .ref wh, .ref tn, .ref he, .int m48, .ref tr, .ref fd, .ref po, .int m52, .int m53]) := ha_0
          have hf_ro : f13 ro = .inl (cy 1, 13, .inl nro_19) := ha_1
          have hf_ct : f13 ct = .inl (cy 1, 4, .inl nct_20) := ha_2
          have hf_se : f13 se = .inl (cy 1, 36, .inl nse_21) := ha_3
          have hf_th : f13 th = .inl (cy 1, 36, .inl nth_22) := ha_4
          have hf_cn : f13 cn = .inl (cy 1, 36, .inl ncn_23) := ha_5
          have hf_db : f13 db = .inl (cy 1, 5, .inl ndb_24) := ha_6
          have hf_be : f13 be = .inl (cy 1, 2574, .inl nbe_25) := ha_7
          have hf_du : f13 du = .inl (cy 1, 5200, .inl ndu_26) := ha_8
          have hf_dr : f13 dr = .inl (cy 1, 520, .inl ndr_27) := ha_9
          have hq28 := hp
          refine lv_goto (tgt := 52) hx hb dX10_ewe_47 (by decide) ?_
          exact z_iret hx hb hr hlk (by decide) (by decide) hw (⟨hsub, hfr, (-1), mn2_14, 0, 1000, n2_15, d2_16, y2_17, x2_18, nro_19, nct_20, nse_21, nth_22, ncn_23, ndb_24, nbe_25, ndu_26, ndr_27, hf_mm, hf_ro, hf_ct, hf_se, hf_th, hf_cn, hf_db, hf_be, hf_du, hf_dr, hq_ro, hq_ct, hq_be, hq_du, hq_dr, by omega⟩) dX10_ewe_52
        · skip
          refine z_if_eq (tgt := 50) hx hb (show (0 : Int32).toInt = 0 by decide) dX10_ewe_35 (by decide) (fun _ => ?_) (fun h => absurd h (by decide))
          refine lv_bipush (v := (-2)) hx hb dX10_ewe_50 (by decide) ?_
          exact z_iret hx hb hr hlk (by decide) (by decide) hw (⟨hsub, hfr, m24, m25, m27, m28, m30, m38, m36, m26, gro, gct, gse, gth, gcn, gdb, gbe, gdu, gdr, hf_mm, hf_ro, hf_ct, hf_se, hf_th, hf_cn, hf_db, hf_be, hf_du, hf_dr, hq_ro, hq_ct, hq_be, hq_du, hq_dr, by omega⟩) dX10_ewe_52
      · skip
        refine z_if_eq (tgt := 50) hx hb (show (0 : Int32).toInt = 0 by decide) dX10_ewe_27 (by decide) (fun _ => ?_) (fun h => absurd h (by decide))
        refine lv_bipush (v := (-2)) hx hb dX10_ewe_50 (by decide) ?_
        exact z_iret hx hb hr hlk (by decide) (by decide) hw (⟨hsub, hfr, m24, m25, m27, m28, m30, m38, m36, m26, gro, gct, gse, gth, gcn, gdb, gbe, gdu, gdr, hf_mm, hf_ro, hf_ct, hf_se, hf_th, hf_cn, hf_db, hf_be, hf_du, hf_dr, hq_ro, hq_ct, hq_be, hq_du, hq_dr, by omega⟩) dX10_ewe_52
    · skip
      refine z_if_eq (tgt := 50) hx hb (show (0 : Int32).toInt = 0 by decide) dX10_ewe_19 (by decide) (fun _ => ?_) (fun h => absurd h (by decide))
      refine lv_bipush (v := (-2)) hx hb dX10_ewe_50 (by decide) ?_
      exact z_iret hx hb hr hlk (by decide) (by decide) hw (⟨hsub, hfr, m24, m25, m27, m28, m30, m38, m36, m26, gro, gct, gse, gth, gcn, gdb, gbe, gdu, gdr, hf_mm, hf_ro, hf_ct, hf_se, hf_th, hf_cn, hf_db, hf_be, hf_du, hf_dr, hq_ro, hq_ct, hq_be, hq_du, hq_dr, by omega⟩) dX10_ewe_52
  · skip
    refine z_if_eq (tgt := 50) hx hb (show (0 : Int32).toInt = 0 by decide) dX10_ewe_11 (by decide) (fun _ => ?_) (fun h => absurd h (by decide))
    refine lv_bipush (v := (-2)) hx hb dX10_ewe_50 (by decide) ?_
    exact z_iret hx hb hr hlk (by decide) (by decide) hw (⟨hsub, hfr, m24, m25, m27, m28, m30, m38, m36, m26, gro, gct, gse, gth, gcn, gdb, gbe, gdu, gdr, hf_mm, hf_ro, hf_ct, hf_se, hf_th, hf_cn, hf_db, hf_be, hf_du, hf_dr, hq_ro, hq_ct, hq_be, hq_du, hq_dr, by omega⟩) dX10_ewe_52

set_option maxHeartbeats 2000000 in
set_option maxRecDepth 100000 in
theorem c_X10_waits (l : Launch) {D : va_G} {cy : Nat → ClassId} {L : List Nat} {f : Nat → va_E} {sz : Nat} {adK adV : Nat → Nat} {mm wd my ce mv ta li ha lw st fo dr ik ro ct se th cn be du db pn wg wh tn he tr fd po : Nat} {m0 m6 m7 m8 m9 m10 m12 m13 m14 m15 m22 m24 m25 m27 m28 m30 m36 m38 m40 m41 m42 m48 m52 m53 : Int32} {m11 m26 : Int64} {gli gha glw gst gfo gdr gro gct gse gth gcn gbe gdu gdb : Nat → Int32}  {oo ga dy wt : Int32} (hm_mm : mm ∈ L) (hm_ha : ha ∈ L) (hm_dr : dr ∈ L) (hm_ro : ro ∈ L) (hm_lw : lw ∈ L) (hm_st : st ∈ L) (hm_ct : ct ∈ L) (hm_se : se ∈ L) (hm_th : th ∈ L) (hm_cn : cn ∈ L) (hm_db : db ∈ L) (hm_be : be ∈ L) (hm_du : du ∈ L) (hm_fo : fo ∈ L) (hm_li : li ∈ L) (hf_mm : f mm = .inr (10, [.int m0, .ref wd, .ref my, .ref ce, .ref mv, .ref ta, .int m6, .int m7, .int m8, .int m9, .int m10, .long m11, .int m12, .int m13, .int m14, .int m15, .ref li, .ref ha, .ref lw, .ref st, .ref fo, .ref dr, .int m22, .ref ik, .int m24, .int m25, .long m26, .int m27, .int m28, .ref ro, .int m30, .ref ct, .ref se, .ref th, .ref cn, .ref be, .int m36, .ref du, .int m38, .ref db, .int m40, .int m41, .int m42, .ref pn, .ref wg, .ref wh, .ref tn, .ref he, .int m48, .ref tr, .ref fd, .ref po, .int m52, .int m53])) (hf_ha : f ha = .inl (cy 1, 30, .inl gha)) (hf_dr : f dr = .inl (cy 1, 520, .inl gdr)) (hf_ro : f ro = .inl (cy 1, 13, .inl gro)) (hf_lw : f lw = .inl (cy 1, 25, .inl glw)) (hf_st : f st = .inl (cy 1, 20, .inl gst)) (hf_ct : f ct = .inl (cy 1, 4, .inl gct)) (hf_se : f se = .inl (cy 1, 36, .inl gse)) (hf_th : f th = .inl (cy 1, 36, .inl gth)) (hf_cn : f cn = .inl (cy 1, 36, .inl gcn)) (hf_db : f db = .inl (cy 1, 5, .inl gdb)) (hf_be : f be = .inl (cy 1, 2574, .inl gbe)) (hf_du : f du = .inl (cy 1, 5200, .inl gdu)) (hf_fo : f fo = .inl (cy 1, 180, .inl gfo)) (hf_li : f li = .inl (cy 1, 5, .inl gli)) (ne_se_th : se ≠ th) (ne_se_cn : se ≠ cn) (ne_th_cn : th ≠ cn) (ne_db_li : db ≠ li) (hq_ha : ∀ j : Nat, q_has j (gha j)) (hq_dr : ∀ j : Nat, q_drv j (gdr j)) (hq_ro : ∀ j : Nat, q_12 j (gro j)) (hq_lw : ∀ j : Nat, q_law j (glw j)) (hq_st : ∀ j : Nat, q_law j (gst j)) (hq_ct : ∀ j : Nat, q_law j (gct j)) (hq_be : ∀ j : Nat, q_be j (gbe j)) (hq_du : ∀ j : Nat, q_du j (gdu j)) (hxx : 0 ≤ m26.toInt ∧ m26.toInt < 2147483648) (hea : ∀ m : Nat, m < 5 → z_ea gha glw m) : Met l yX10_waits (z_ws yX10_waits cX10_waits 9 (some .int)) (z_R 8 0 0) (va_Pc [.ref mm, .int oo, .int ga, .int dy, .int wt] (z_Pre D vwCl (z_KK D cy adK adV) L f sz)) (z_Qi D vwCl (fun r u => L = u.1 ∧ (∀ b ∈ L, b ≠ mm → b ≠ ro → b ≠ ct → b ≠ se → b ≠ th → b ≠ cn → b ≠ db → b ≠ be → b ≠ du → b ≠ dr → u.2 b = f b) ∧ (∃ (o2 mn2 i2 u2 n2 d2 y2 : Int32) (x2 : Int64) (nro nct nse nth ncn ndb nbe ndu ndr : Nat → Int32), (u.2 mm = .inr (10, [.int 0, .ref wd, .ref my, .ref ce, .ref mv, .ref ta, .int m6, .int m7, .int m8, .int m9, .int m10, .long m11, .int m12, .int m13, .int m14, .int m15, .ref li, .ref ha, .ref lw, .ref st, .ref fo, .ref dr, .int m22, .ref ik, .int o2, .int mn2, .long x2, .int i2, .int u2, .ref ro, .int n2, .ref ct, .ref se, .ref th, .ref cn, .ref be, .int y2, .ref du, .int d2, .ref db, .int m40, .int m41, .int m42, .ref pn, .ref wg, .ref wh, .ref tn, .ref he, .int m48, .ref tr, .ref fd, .ref po, .int m52, .int m53])) ∧ (u.2 ro = .inl (cy 1, 13, .inl nro)) ∧ (u.2 ct = .inl (cy 1, 4, .inl nct)) ∧ (u.2 se = .inl (cy 1, 36, .inl nse)) ∧ (u.2 th = .inl (cy 1, 36, .inl nth)) ∧ (u.2 cn = .inl (cy 1, 36, .inl ncn)) ∧ (u.2 db = .inl (cy 1, 5, .inl ndb)) ∧ (u.2 be = .inl (cy 1, 2574, .inl nbe)) ∧ (u.2 du = .inl (cy 1, 5200, .inl ndu)) ∧ (u.2 dr = .inl (cy 1, 520, .inl ndr)) ∧ (∀ j : Nat, q_12 j (nro j)) ∧ (∀ j : Nat, q_law j (nct j)) ∧ (∀ j : Nat, q_be j (nbe j)) ∧ (∀ j : Nat, q_du j (ndu j)) ∧ (∀ j : Nat, q_drv j (ndr j)) ∧ (0 ≤ x2.toInt ∧ x2.toInt < 2147483648))) L sz) 0 0 (z_A L sz) := by
  refine z_met (cc := cX10_waits) (maxL := 9) (ret := (some .int)) (lv := [(0, .ref mm), (1, .int oo), (2, .int ga), (3, .int dy), (4, .int wt)]) (by decide) rfl (Nat.le_of_ble_eq_true rfl) rfl ?_
  intro p e s m below meth c ls hx hb hr hlk hml hown hnm hts hKK hA hw hl
  have hK := hKK.1.1
  have hown : s.vm.findClass RX10 = some m.cls := hown
  have hT : ∀ w ∈ lw_all, w.before ([.ref mm, .int oo, .int ga, .int dy, .int wt] : List Value).toArray s = true := fun w h => hts w (z_cons w h)
  have hsub : L = L := rfl
  have hfr : ∀ b ∈ L, b ≠ mm → b ≠ ro → b ≠ ct → b ≠ se → b ≠ th → b ≠ cn → b ≠ db → b ≠ be → b ≠ du → b ≠ dr → f b = f b := fun _ _ _ _ _ _ _ _ _ _ _ _ => rfl
  have hh0 := (hq_ha 0).1 rfl
  have hh1 := (hq_ha 1).2.1 rfl
  have hh2 := (hq_ha 2).2.2.1 rfl
  have hh3 := (hq_ha 3).2.2.2 rfl
  have hea0 : 2 ≤ (glw 3).toInt ∨ ((gha 3).toInt = 0 ∧ (gha 0).toInt = 0) := hea 0 (by decide)
  have hz_m2 : (-2 : Int32).toInt = -2 := by decide
  have hz_m1 : (-1 : Int32).toInt = -1 := by decide
  have hz_0 : (0 : Int32).toInt = 0 := by decide
  refine lv_aload_n hx hb dX10_waits_0 rfl (lv_at hl 0 rfl) ?_
  refine lv_iconst (v := 0) hx hb dX10_waits_1 (by decide) ?_
  refine z_put (C := RX10) (T := TX10) (N := 54) (ci := 10) (v := .int 0) (fs' := [.int 0, .ref wd, .ref my, .ref ce, .ref mv, .ref ta, .int m6, .int m7, .int m8, .int m9, .int m10, .long m11, .int m12, .int m13, .int m14, .int m15, .ref li, .ref ha, .ref lw, .ref st, .ref fo, .ref dr, .int m22, .ref ik, .int m24, .int m25, .long m26, .int m27, .int m28, .ref ro, .int m30, .ref ct, .ref se, .ref th, .ref cn, .ref be, .int m36, .ref du, .int m38, .ref db, .int m40, .int m41, .int m42, .ref pn, .ref wg, .ref wh, .ref tn, .ref he, .int m48, .ref tr, .ref fd, .ref po, .int m52, .int m53]) hx hb hT zin_X10 tyX10_ok nmX10 hown hK hw hm_mm hf_mm rfl 0 (by decide) (hT _ kw_1168) rfl rfl rfl (Nat.le_of_ble_eq_true rfl) rfl dX10_waits_2 (fun H locs hw => ?_)
  obtain ⟨f1, e_f1⟩ : ∃ z, z = va_up f mm (.inr (10, [.int 0, .ref wd, .ref my, .ref ce, .ref mv, .ref ta, .int m6, .int m7, .int m8, .int m9, .int m10, .long m11, .int m12, .int m13, .int m14, .int m15, .ref li, .ref ha, .ref lw, .ref st, .ref fo, .ref dr, .int m22, .ref ik, .int m24, .int m25, .long m26, .int m27, .int m28, .ref ro, .int m30, .ref ct, .ref se, .ref th, .ref cn, .ref be, .int m36, .ref du, .int m38, .ref db, .int m40, .int m41, .int m42, .ref pn, .ref wg, .ref wh, .ref tn, .ref he, .int m48, .ref tr, .ref fd, .ref po, .int m52, .int m53])) := ⟨_, rfl⟩
  rw [← e_f1] at hw
  have hf_ha : f1 ha = .inl (cy 1, 30, .inl gha) := (congrFun e_f1 ha).trans (z_up_ne (z_tne hf_ha hf_mm (m := 340) (n := 10) rfl rfl (by decide)) hf_ha)
  have hf_dr : f1 dr = .inl (cy 1, 520, .inl gdr) := (congrFun e_f1 dr).trans (z_up_ne (z_tne hf_dr hf_mm (m := 4260) (n := 10) rfl rfl (by decide)) hf_dr)
  have hf_ro : f1 ro = .inl (cy 1, 13, .inl gro) := (congrFun e_f1 ro).trans (z_up_ne (z_tne hf_ro hf_mm (m := 204) (n := 10) rfl rfl (by decide)) hf_ro)
  have hf_lw : f1 lw = .inl (cy 1, 25, .inl glw) := (congrFun e_f1 lw).trans (z_up_ne (z_tne hf_lw hf_mm (m := 300) (n := 10) rfl rfl (by decide)) hf_lw)
  have hf_st : f1 st = .inl (cy 1, 20, .inl gst) := (congrFun e_f1 st).trans (z_up_ne (z_tne hf_st hf_mm (m := 260) (n := 10) rfl rfl (by decide)) hf_st)
  have hf_ct : f1 ct = .inl (cy 1, 4, .inl gct) := (congrFun e_f1 ct).trans (z_up_ne (z_tne hf_ct hf_mm (m := 132) (n := 10) rfl rfl (by decide)) hf_ct)
  have hf_se : f1 se = .inl (cy 1, 36, .inl gse) := (congrFun e_f1 se).trans (z_up_ne (z_tne hf_se hf_mm (m := 388) (n := 10) rfl rfl (by decide)) hf_se)
  have hf_th : f1 th = .inl (cy 1, 36, .inl gth) := (congrFun e_f1 th).trans (z_up_ne (z_tne hf_th hf_mm (m := 388) (n := 10) rfl rfl (by decide)) hf_th)
  have hf_cn : f1 cn = .inl (cy 1, 36, .inl gcn) := (congrFun e_f1 cn).trans (z_up_ne (z_tne hf_cn hf_mm (m := 388) (n := 10) rfl rfl (by decide)) hf_cn)
  have hf_db : f1 db = .inl (cy 1, 5, .inl gdb) := (congrFun e_f1 db).trans (z_up_ne (z_tne hf_db hf_mm (m := 140) (n := 10) rfl rfl (by decide)) hf_db)
  have hf_be : f1 be = .inl (cy 1, 2574, .inl gbe) := (congrFun e_f1 be).trans (z_up_ne (z_tne hf_be hf_mm (m := 20692) (n := 10) rfl rfl (by decide)) hf_be)
  have hf_du : f1 du = .inl (cy 1, 5200, .inl gdu) := (congrFun e_f1 du).trans (z_up_ne (z_tne hf_du hf_mm (m := 41700) (n := 10) rfl rfl (by decide)) hf_du)
  have hf_fo : f1 fo = .inl (cy 1, 180, .inl gfo) := (congrFun e_f1 fo).trans (z_up_ne (z_tne hf_fo hf_mm (m := 1540) (n := 10) rfl rfl (by decide)) hf_fo)
  have hf_li : f1 li = .inl (cy 1, 5, .inl gli) := (congrFun e_f1 li).trans (z_up_ne (z_tne hf_li hf_mm (m := 140) (n := 10) rfl rfl (by decide)) hf_li)
  have hf_mm : f1 mm = .inr (10, [.int 0, .ref wd, .ref my, .ref ce, .ref mv, .ref ta, .int m6, .int m7, .int m8, .int m9, .int m10, .long m11, .int m12, .int m13, .int m14, .int m15, .ref li, .ref ha, .ref lw, .ref st, .ref fo, .ref dr, .int m22, .ref ik, .int m24, .int m25, .long m26, .int m27, .int m28, .ref ro, .int m30, .ref ct, .ref se, .ref th, .ref cn, .ref be, .int m36, .ref du, .int m38, .ref db, .int m40, .int m41, .int m42, .ref pn, .ref wg, .ref wh, .ref tn, .ref he, .int m48, .ref tr, .ref fd, .ref po, .int m52, .int m53]) := (congrFun e_f1 mm).trans z_up_self
  have hfr : ∀ b ∈ L, b ≠ mm → b ≠ ro → b ≠ ct → b ≠ se → b ≠ th → b ≠ cn → b ≠ db → b ≠ be → b ≠ du → b ≠ dr → f1 b = f b := fun b hb h0 h1 h2 h3 h4 h5 h6 h7 h8 h9 => (congrFun e_f1 b).trans (z_up_ne h0 (hfr b hb h0 h1 h2 h3 h4 h5 h6 h7 h8 h9))
  refine lv_aload_n hx hb dX10_waits_5 rfl (lv_at hl 0 rfl) ?_
  refine lv_iload_n hx hb dX10_waits_6 rfl (lv_at hl 1 rfl) ?_
  refine lv_i2l hx hb dX10_waits_7 rfl ?_
  refine lv_topl (fun w2 e_w2 => ?_)
  have i_w2 : w2.toInt = oo.toInt := z_i2l e_w2 rfl
  refine z_calliV (cells := 0) (slots := 0) (b := mm) (As := [.long w2]) (rest := []) (ci := 10) (q0 := (RX10, TX10, 54)) ⟨hx, hb, hml, hown, hT⟩ (c_X10_isOwner l hm_mm hm_li hm_ha hf_mm hf_li hf_ha hq_ha) (cwV 1 hT (z_goodV (fun _ h => h) kw_1604 kw_1606 kw_69 kw_96 kw_1607) rfl rfl rfl (by decide +kernel) ⟨by decide, by decide⟩) z_mv hKK hK hw hA hm_mm hf_mm rfl rfl rfl hl.1 rfl (Nat.le_of_ble_eq_true rfl) dX10_waits_8 ⟨by decide, by decide⟩ (fun r3 u H locs hp hw => ?_)
  obtain ⟨rfl, hp⟩ := hp
  have hw : z_H D vwCl (z_A L sz) s.heap L f1 H locs := hw
  rcases hp with ⟨rfl, h4⟩ | ⟨rfl, h4⟩
  · skip
    refine z_if_eq (tgt := 41) hx hb (show (1 : Int32).toInt = 1 by decide) dX10_waits_11 (by decide) (fun h => absurd h (by decide)) (fun _ => ?_)
    refine lv_aload_n hx hb dX10_waits_14 rfl (lv_at hl 0 rfl) ?_
    refine lv_iload_n hx hb dX10_waits_15 rfl (lv_at hl 2 rfl) ?_
    refine z_calliV (cells := 0) (slots := 0) (b := mm) (As := [.int ga]) (rest := []) (ci := 10) (q0 := (RX10, TX10, 54)) ⟨hx, hb, hml, hown, hT⟩ (c_X10_isGap l hm_mm hm_ha hf_mm hf_ha hq_ha) (cwV 1 hT (z_goodV (fun _ h => h) kw_1519 kw_1521 kw_55 kw_96 kw_1522) rfl rfl rfl (by decide +kernel) ⟨by decide, by decide⟩) z_mv hKK hK hw hA hm_mm hf_mm rfl rfl rfl hl.1 rfl (Nat.le_of_ble_eq_true rfl) dX10_waits_16 ⟨by decide, by decide⟩ (fun r5 u H locs hp hw => ?_)
    obtain ⟨rfl, hp⟩ := hp
    have hw : z_H D vwCl (z_A L sz) s.heap L f1 H locs := hw
    rcases hp with ⟨rfl, h6⟩ | ⟨rfl, h6⟩
    · skip
      refine z_if_eq (tgt := 41) hx hb (show (1 : Int32).toInt = 1 by decide) dX10_waits_19 (by decide) (fun h => absurd h (by decide)) (fun _ => ?_)
      refine lv_aload_n hx hb dX10_waits_22 rfl (lv_at hl 0 rfl) ?_
      refine lv_iload_n hx hb dX10_waits_23 rfl (lv_at hl 3 rfl) ?_
      refine z_calliV (cells := 0) (slots := 0) (b := mm) (As := [.int dy]) (rest := []) (ci := 10) (q0 := (RX10, TX10, 54)) ⟨hx, hb, hml, hown, hT⟩ (c_X10_isDay l hm_mm hm_ha hf_mm hf_ha hq_ha) (cwV 1 hT (z_goodV (fun _ h => h) kw_1535 kw_1537 kw_57 kw_96 kw_1538) rfl rfl rfl (by decide +kernel) ⟨by decide, by decide⟩) z_mv hKK hK hw hA hm_mm hf_mm rfl rfl rfl hl.1 rfl (Nat.le_of_ble_eq_true rfl) dX10_waits_24 ⟨by decide, by decide⟩ (fun r7 u H locs hp hw => ?_)
      obtain ⟨rfl, hp⟩ := hp
      have hw : z_H D vwCl (z_A L sz) s.heap L f1 H locs := hw
      rcases hp with ⟨rfl, h8⟩ | ⟨rfl, h8⟩
      · skip
        refine z_if_eq (tgt := 41) hx hb (show (1 : Int32).toInt = 1 by decide) dX10_waits_27 (by decide) (fun h => absurd h (by decide)) (fun _ => ?_)
        refine lv_iload hx hb dX10_waits_30 (lv_at hl 4 rfl) ?_
        refine lv_i2l hx hb dX10_waits_32 rfl ?_
        refine lv_topl (fun w9 e_w9 => ?_)
        have i_w9 : w9.toInt = wt.toInt := z_i2l e_w9 rfl
        refine lv_lconst (v := 0) hx hb dX10_waits_33 (by decide) ?_
        refine lv_lconst (v := 1) hx hb dX10_waits_34 (by decide) ?_
        have hz10 := (show (0 : Int64).toInt = 0 by decide)
        have hz11 := (show (1 : Int64).toInt = 1 by decide)
        refine z_calliS (cells := 0) (slots := 0) (As := [.long w9, .long 0, .long 1]) (rest := []) ⟨hx, hb, hml, hown, hT⟩ (c_X10_in l ) (va_cwS 3 hT (z_goodS (fun _ h => h) kw_1339 kw_1340 kw_96 kw_1341) rfl rfl rfl (by decide +kernel) ⟨by decide, by decide⟩) z_mv hKK hw hA rfl hl.1 rfl (Nat.le_of_ble_eq_true rfl) dX10_waits_35 ⟨by decide, by decide⟩ (fun r12 u H locs hp hw => ?_)
        obtain ⟨rfl, hp⟩ := hp
        have hw : z_H D vwCl (z_A L sz) s.heap L f1 H locs := hw
        rcases hp with ⟨rfl, h13⟩ | ⟨rfl, h13⟩
        · skip
          refine z_if_ne (tgt := 44) hx hb (show (1 : Int32).toInt = 1 by decide) dX10_waits_38 (by decide) (fun _ => ?_) (fun h => absurd h (by decide))
          refine lv_iconst (v := 0) hx hb dX10_waits_44 (by decide) ?_
          refine lv_istore (lv' := [(5, .int 0), (0, .ref mm), (1, .int oo), (2, .int ga), (3, .int dy), (4, .int wt)]) hx hb dX10_waits_45 hl (by decide) rfl (fun ls hl => ?_)
          refine lv_aload_n hx hb dX10_waits_47 rfl (lv_at hl 1 rfl) ?_
          refine lv_iload_n hx hb dX10_waits_48 rfl (lv_at hl 2 rfl) ?_
          refine lv_iload_n hx hb dX10_waits_49 rfl (lv_at hl 3 rfl) ?_
          refine lv_iload_n hx hb dX10_waits_50 rfl (lv_at hl 4 rfl) ?_
          refine lv_iconst (v := 0) hx hb dX10_waits_51 (by decide) ?_
          have hz14 := (show (0 : Int32).toInt = 0 by decide)
          refine z_calliV (cells := 0) (slots := 0) (b := mm) (As := [.int oo, .int ga, .int dy, .int 0]) (rest := []) (ci := 10) (q0 := (RX10, TX10, 54)) ⟨hx, hb, hml, hown, hT⟩ (c_X10_eweOf l hm_mm hm_ha hm_dr hm_ro hm_lw hm_st hm_ct hm_se hm_th hm_cn hm_db hm_be hm_du hm_fo hf_mm hf_ha hf_dr hf_ro hf_lw hf_st hf_ct hf_se hf_th hf_cn hf_db hf_be hf_du hf_fo ne_se_th ne_se_cn ne_th_cn hq_ha hq_dr hq_ro hq_lw hq_st hq_ct hq_be hq_du (by first | omega | decide | assumption) hea (by first | omega | decide | assumption) (by first | omega | decide | assumption) (by first | omega | decide | assumption) (by first | omega | decide | assumption)) (cwV 4 hT (z_goodV (fun _ h => h) kw_1673 kw_1675 kw_76 kw_96 kw_1676) rfl rfl rfl (by decide +kernel) ⟨by decide, by decide⟩) z_mv hKK hK hw hA hm_mm hf_mm rfl rfl rfl hl.1 rfl (Nat.le_of_ble_eq_true rfl) dX10_waits_52 ⟨by decide, by decide⟩ (fun r15 u H locs hp hw => ?_)
          obtain ⟨L16, f17⟩ := u
          obtain ⟨hsb, hfm, mn2_18, n2_19, d2_20, y2_21, x2_22, nro_23, nct_24, nse_25, nth_26, ncn_27, ndb_28, nbe_29, ndu_30, ndr_31, ha_0, ha_1, ha_2, ha_3, ha_4, ha_5, ha_6, ha_7, ha_8, ha_9, hq_ro, hq_ct, hq_be, hq_du, hq_dr, hp⟩ := hp
          have hsb : L = L16 := hsb
          subst hsb
          have hsb : ∀ b ∈ L, b ∈ L := fun _ h => h
          have hw : z_H D vwCl (z_A L sz) s.heap L f17 H locs := hw
          have hfr : ∀ b ∈ L, b ≠ mm → b ≠ ro → b ≠ ct → b ≠ se → b ≠ th → b ≠ cn → b ≠ db → b ≠ be → b ≠ du → b ≠ dr → f17 b = f b := fun b hb h0 h1 h2 h3 h4 h5 h6 h7 h8 h9 => (hfm b hb h0 h1 h2 h3 h4 h5 h6 h7 h8 h9).trans (hfr b hb h0 h1 h2 h3 h4 h5 h6 h7 h8 h9)
          have hf_ha : f17 ha = .inl (cy 1, 30, .inl gha) := (hfm ha hm_ha (z_tne hf_ha hf_mm (m := 340) (n := 10) rfl rfl (by decide)) (z_tne hf_ha hf_ro (m := 340) (n := 204) rfl rfl (by decide)) (z_tne hf_ha hf_ct (m := 340) (n := 132) rfl rfl (by decide)) (z_tne hf_ha hf_se (m := 340) (n := 388) rfl rfl (by decide)) (z_tne hf_ha hf_th (m := 340) (n := 388) rfl rfl (by decide)) (z_tne hf_ha hf_cn (m := 340) (n := 388) rfl rfl (by decide)) (z_tne hf_ha hf_db (m := 340) (n := 140) rfl rfl (by decide)) (z_tne hf_ha hf_be (m := 340) (n := 20692) rfl rfl (by decide)) (z_tne hf_ha hf_du (m := 340) (n := 41700) rfl rfl (by decide)) (z_tne hf_ha hf_dr (m := 340) (n := 4260) rfl rfl (by decide))).trans hf_ha
          have hf_lw : f17 lw = .inl (cy 1, 25, .inl glw) := (hfm lw hm_lw (z_tne hf_lw hf_mm (m := 300) (n := 10) rfl rfl (by decide)) (z_tne hf_lw hf_ro (m := 300) (n := 204) rfl rfl (by decide)) (z_tne hf_lw hf_ct (m := 300) (n := 132) rfl rfl (by decide)) (z_tne hf_lw hf_se (m := 300) (n := 388) rfl rfl (by decide)) (z_tne hf_lw hf_th (m := 300) (n := 388) rfl rfl (by decide)) (z_tne hf_lw hf_cn (m := 300) (n := 388) rfl rfl (by decide)) (z_tne hf_lw hf_db (m := 300) (n := 140) rfl rfl (by decide)) (z_tne hf_lw hf_be (m := 300) (n := 20692) rfl rfl (by decide)) (z_tne hf_lw hf_du (m := 300) (n := 41700) rfl rfl (by decide)) (z_tne hf_lw hf_dr (m := 300) (n := 4260) rfl rfl (by decide))).trans hf_lw
          have hf_st : f17 st = .inl (cy 1, 20, .inl gst) := (hfm st hm_st (z_tne hf_st hf_mm (m := 260) (n := 10) rfl rfl (by decide)) (z_tne hf_st hf_ro (m := 260) (n := 204) rfl rfl (by decide)) (z_tne hf_st hf_ct (m := 260) (n := 132) rfl rfl (by decide)) (z_tne hf_st hf_se (m := 260) (n := 388) rfl rfl (by decide)) (z_tne hf_st hf_th (m := 260) (n := 388) rfl rfl (by decide)) (z_tne hf_st hf_cn (m := 260) (n := 388) rfl rfl (by decide)) (z_tne hf_st hf_db (m := 260) (n := 140) rfl rfl (by decide)) (z_tne hf_st hf_be (m := 260) (n := 20692) rfl rfl (by decide)) (z_tne hf_st hf_du (m := 260) (n := 41700) rfl rfl (by decide)) (z_tne hf_st hf_dr (m := 260) (n := 4260) rfl rfl (by decide))).trans hf_st
          have hf_fo : f17 fo = .inl (cy 1, 180, .inl gfo) := (hfm fo hm_fo (z_tne hf_fo hf_mm (m := 1540) (n := 10) rfl rfl (by decide)) (z_tne hf_fo hf_ro (m := 1540) (n := 204) rfl rfl (by decide)) (z_tne hf_fo hf_ct (m := 1540) (n := 132) rfl rfl (by decide)) (z_tne hf_fo hf_se (m := 1540) (n := 388) rfl rfl (by decide)) (z_tne hf_fo hf_th (m := 1540) (n := 388) rfl rfl (by decide)) (z_tne hf_fo hf_cn (m := 1540) (n := 388) rfl rfl (by decide)) (z_tne hf_fo hf_db (m := 1540) (n := 140) rfl rfl (by decide)) (z_tne hf_fo hf_be (m := 1540) (n := 20692) rfl rfl (by decide)) (z_tne hf_fo hf_du (m := 1540) (n := 41700) rfl rfl (by decide)) (z_tne hf_fo hf_dr (m := 1540) (n := 4260) rfl rfl (by decide))).trans hf_fo
          have hf_li : f17 li = .inl (cy 1, 5, .inl gli) := (hfm li hm_li (z_tne hf_li hf_mm (m := 140) (n := 10) rfl rfl (by decide)) (z_tne hf_li hf_ro (m := 140) (n := 204) rfl rfl (by decide)) (z_tne hf_li hf_ct (m := 140) (n := 132) rfl rfl (by decide)) (z_tne hf_li hf_se (m := 140) (n := 388) rfl rfl (by decide)) (z_tne hf_li hf_th (m := 140) (n := 388) rfl rfl (by decide)) (z_tne hf_li hf_cn (m := 140) (n := 388) rfl rfl (by decide)) (Ne.symm ne_db_li) (z_tne hf_li hf_be (m := 140) (n := 20692) rfl rfl (by decide)) (z_tne hf_li hf_du (m := 140) (n := 41700) rfl rfl (by decide)) (z_tne hf_li hf_dr (m := 140) (n := 4260) rfl rfl (by decide))).trans hf_li
          have hf_mm : f17 mm = .inr (10, [.int 0, .ref wd, .ref my, .ref ce, .ref mv, .ref ta, .int m6, .int m7, .int m8, .int m9, .int m10, .long m11, .int m12, .int m13, .int m14, .int m15, .ref li, .ref ha, .ref lw, .ref st, .ref fo, .ref dr, .int m22, .ref ik, .int (-1), .int mn2_18, .long x2_22, .int 0, .int 1000, .ref ro, .int n2_19, .ref ct, .ref se, .ref th, .ref cn, .ref be, .int y2_21, .ref du, .int d2_20, .ref db, .int m40, .int m41, .int m42, .ref pn, .ref wg, .ref wh, .ref tn, .ref he, .int m48, .ref tr, .ref fd, .ref po, .int m52, .int m53]) := ha_0
          have hf_ro : f17 ro = .inl (cy 1, 13, .inl nro_23) := ha_1
          have hf_ct : f17 ct = .inl (cy 1, 4, .inl nct_24) := ha_2
          have hf_se : f17 se = .inl (cy 1, 36, .inl nse_25) := ha_3
          have hf_th : f17 th = .inl (cy 1, 36, .inl nth_26) := ha_4
          have hf_cn : f17 cn = .inl (cy 1, 36, .inl ncn_27) := ha_5
          have hf_db : f17 db = .inl (cy 1, 5, .inl ndb_28) := ha_6
          have hf_be : f17 be = .inl (cy 1, 2574, .inl nbe_29) := ha_7
          have hf_du : f17 du = .inl (cy 1, 5200, .inl ndu_30) := ha_8
          have hf_dr : f17 dr = .inl (cy 1, 520, .inl ndr_31) := ha_9
          have hq32 := hp
          refine lv_istore (lv' := [(6, .int r15), (5, .int 0), (0, .ref mm), (1, .int oo), (2, .int ga), (3, .int dy), (4, .int wt)]) hx hb dX10_waits_55 hl (by decide) rfl (fun ls hl => ?_)
          refine lv_iconst (v := 1) hx hb dX10_waits_57 (by decide) ?_
          refine lv_istore (lv' := [(7, .int 1), (6, .int r15), (5, .int 0), (0, .ref mm), (1, .int oo), (2, .int ga), (3, .int dy), (4, .int wt)]) hx hb dX10_waits_58 hl (by decide) rfl (fun ls hl => ?_)
          have hzk : (1 : Int32).toInt = 1 := by decide
          refine z_loop (fun n H locs ls => ∃ (K33 : Int32) (G41 : Nat → Int32) (G42 : Nat → Int32) (G43 : Nat → Int32) (G44 : Nat → Int32) (G45 : Nat → Int32) (G46 : Nat → Int32) (G47 : Nat → Int32) (G48 : Nat → Int32) (G40 : Nat → Int32) (MN35 : Int32) (RM36 : Int32) (DM37 : Int32) (DN38 : Int32) (XX39 : Int64) (V49 : Int32) (V50 : Int32) (f34 : Nat → va_E), (n = (24 - K33.toInt).toNat) ∧ (1 ≤ K33.toInt) ∧ (K33.toInt ≤ 24) ∧ (0 ≤ XX39.toInt ∧ XX39.toInt < 2147483648) ∧ (z_H D vwCl (z_A L sz) s.heap L f34 H locs) ∧ (f34 mm = .inr (10, [.int 0, .ref wd, .ref my, .ref ce, .ref mv, .ref ta, .int m6, .int m7, .int m8, .int m9, .int m10, .long m11, .int m12, .int m13, .int m14, .int m15, .ref li, .ref ha, .ref lw, .ref st, .ref fo, .ref dr, .int m22, .ref ik, .int (-1), .int MN35, .long XX39, .int 0, .int 1000, .ref ro, .int RM36, .ref ct, .ref se, .ref th, .ref cn, .ref be, .int DN38, .ref du, .int DM37, .ref db, .int m40, .int m41, .int m42, .ref pn, .ref wg, .ref wh, .ref tn, .ref he, .int m48, .ref tr, .ref fd, .ref po, .int m52, .int m53])) ∧ (f34 ha = .inl (cy 1, 30, .inl gha)) ∧ (f34 dr = .inl (cy 1, 520, .inl G40)) ∧ (f34 ro = .inl (cy 1, 13, .inl G41)) ∧ (f34 lw = .inl (cy 1, 25, .inl glw)) ∧ (f34 st = .inl (cy 1, 20, .inl gst)) ∧ (f34 ct = .inl (cy 1, 4, .inl G42)) ∧ (f34 se = .inl (cy 1, 36, .inl G43)) ∧ (f34 th = .inl (cy 1, 36, .inl G44)) ∧ (f34 cn = .inl (cy 1, 36, .inl G45)) ∧ (f34 db = .inl (cy 1, 5, .inl G46)) ∧ (f34 be = .inl (cy 1, 2574, .inl G47)) ∧ (f34 du = .inl (cy 1, 5200, .inl G48)) ∧ (f34 fo = .inl (cy 1, 180, .inl gfo)) ∧ (f34 li = .inl (cy 1, 5, .inl gli)) ∧ (∀ b ∈ L, b ≠ mm → b ≠ ro → b ≠ ct → b ≠ se → b ≠ th → b ≠ cn → b ≠ db → b ≠ be → b ≠ du → b ≠ dr → f34 b = f b) ∧ (∀ j : Nat, q_12 j (G41 j)) ∧ (∀ j : Nat, q_law j (G42 j)) ∧ (∀ j : Nat, q_be j (G47 j)) ∧ (∀ j : Nat, q_du j (G48 j)) ∧ (∀ j : Nat, q_drv j (G40 j)) ∧ (lv_has ls 9 [(7, .int K33), (6, .int V50), (5, .int V49), (0, .ref mm), (1, .int oo), (2, .int ga), (3, .int dy), (4, .int wt)])) _ ⟨1, nro_23, nct_24, nse_25, nth_26, ncn_27, ndb_28, nbe_29, ndu_30, ndr_31, mn2_18, n2_19, d2_20, y2_21, x2_22, 0, r15, f17, rfl, (by first | decide | omega), (by first | decide | omega), (by omega), hw, hf_mm, hf_ha, hf_dr, hf_ro, hf_lw, hf_st, hf_ct, hf_se, hf_th, hf_cn, hf_db, hf_be, hf_du, hf_fo, hf_li, hfr, hq_ro, hq_ct, hq_be, hq_du, hq_dr, (lv_sub hl [0, 1, 2, 3, 4, 5, 6, 7] rfl)⟩ (fun n H locs ls hI ih_60 => ?_)
          obtain ⟨K33, G41, G42, G43, G44, G45, G46, G47, G48, G40, MN35, RM36, DM37, DN38, XX39, V49, V50, f34, hn, hk0, hk1, hi0, hw, hf_mm, hf_ha, hf_dr, hf_ro, hf_lw, hf_st, hf_ct, hf_se, hf_th, hf_cn, hf_db, hf_be, hf_du, hf_fo, hf_li, hfr, hq_ro, hq_ct, hq_be, hq_du, hq_dr, hl⟩ := hI
          refine lv_iload hx hb dX10_waits_60 (lv_at hl 0 rfl) ?_
          refine lv_bipush (v := 24) hx hb dX10_waits_62 (by decide) ?_
          refine z_icmp_ge (tgt := 102) hx hb rfl (show (24 : Int32).toInt = 24 by decide) dX10_waits_64 (by decide) (fun c51 => ?_) (fun c51 => ?_)
          · skip
            refine lv_iload hx hb dX10_waits_102 (lv_at hl 7 rfl) ?_
            refine z_if_ne (tgt := 112) hx hb rfl dX10_waits_104 (by decide) (fun c52 => ?_) (fun c52 => ?_)
            · skip
              refine lv_iload hx hb dX10_waits_112 (lv_at hl 1 rfl) ?_
              exact z_iret hx hb hr hlk (by decide) (by decide) hw (⟨hsub, hfr, (-1), MN35, 0, 1000, RM36, DM37, DN38, XX39, G41, G42, G43, G44, G45, G46, G47, G48, G40, hf_mm, hf_ro, hf_ct, hf_se, hf_th, hf_cn, hf_db, hf_be, hf_du, hf_dr, hq_ro, hq_ct, hq_be, hq_du, hq_dr, by omega⟩) dX10_waits_114
            · skip
              refine lv_iload hx hb dX10_waits_107 (lv_at hl 2 rfl) ?_
              refine lv_goto (tgt := 114) hx hb dX10_waits_109 (by decide) ?_
              exact z_iret hx hb hr hlk (by decide) (by decide) hw (⟨hsub, hfr, (-1), MN35, 0, 1000, RM36, DM37, DN38, XX39, G41, G42, G43, G44, G45, G46, G47, G48, G40, hf_mm, hf_ro, hf_ct, hf_se, hf_th, hf_cn, hf_db, hf_be, hf_du, hf_dr, hq_ro, hq_ct, hq_be, hq_du, hq_dr, by omega⟩) dX10_waits_114
          · skip
            refine lv_aload_n hx hb dX10_waits_67 rfl (lv_at hl 3 rfl) ?_
            refine lv_iload_n hx hb dX10_waits_68 rfl (lv_at hl 4 rfl) ?_
            refine lv_iload_n hx hb dX10_waits_69 rfl (lv_at hl 5 rfl) ?_
            refine lv_iload_n hx hb dX10_waits_70 rfl (lv_at hl 6 rfl) ?_
            refine lv_iload hx hb dX10_waits_71 (lv_at hl 0 rfl) ?_
            refine z_calliV (cells := 0) (slots := 0) (b := mm) (As := [.int oo, .int ga, .int dy, .int K33]) (rest := []) (ci := 10) (q0 := (RX10, TX10, 54)) ⟨hx, hb, hml, hown, hT⟩ (c_X10_eweOf l hm_mm hm_ha hm_dr hm_ro hm_lw hm_st hm_ct hm_se hm_th hm_cn hm_db hm_be hm_du hm_fo hf_mm hf_ha hf_dr hf_ro hf_lw hf_st hf_ct hf_se hf_th hf_cn hf_db hf_be hf_du hf_fo ne_se_th ne_se_cn ne_th_cn hq_ha hq_dr hq_ro hq_lw hq_st hq_ct hq_be hq_du (by first | omega | decide | assumption) hea (by first | omega | decide | assumption) (by first | omega | decide | assumption) (by first | omega | decide | assumption) (by first | omega | decide | assumption)) (cwV 4 hT (z_goodV (fun _ h => h) kw_1673 kw_1675 kw_76 kw_96 kw_1676) rfl rfl rfl (by decide +kernel) ⟨by decide, by decide⟩) z_mv hKK hK hw hA hm_mm hf_mm rfl rfl rfl hl.1 rfl (Nat.le_of_ble_eq_true rfl) dX10_waits_73 ⟨by decide, by decide⟩ (fun r53 u H locs hp hw => ?_)
            obtain ⟨L54, f55⟩ := u
            obtain ⟨hsb, hfm, mn2_56, n2_57, d2_58, y2_59, x2_60, nro_61, nct_62, nse_63, nth_64, ncn_65, ndb_66, nbe_67, ndu_68, ndr_69, ha_0, ha_1, ha_2, ha_3, ha_4, ha_5, ha_6, ha_7, ha_8, ha_9, hq_ro, hq_ct, hq_be, hq_du, hq_dr, hp⟩ := hp
            have hsb : L = L54 := hsb
            subst hsb
            have hsb : ∀ b ∈ L, b ∈ L := fun _ h => h
            have hw : z_H D vwCl (z_A L sz) s.heap L f55 H locs := hw
            have hfr : ∀ b ∈ L, b ≠ mm → b ≠ ro → b ≠ ct → b ≠ se → b ≠ th → b ≠ cn → b ≠ db → b ≠ be → b ≠ du → b ≠ dr → f55 b = f b := fun b hb h0 h1 h2 h3 h4 h5 h6 h7 h8 h9 => (hfm b hb h0 h1 h2 h3 h4 h5 h6 h7 h8 h9).trans (hfr b hb h0 h1 h2 h3 h4 h5 h6 h7 h8 h9)
            have hf_ha : f55 ha = .inl (cy 1, 30, .inl gha) := (hfm ha hm_ha (z_tne hf_ha hf_mm (m := 340) (n := 10) rfl rfl (by decide)) (z_tne hf_ha hf_ro (m := 340) (n := 204) rfl rfl (by decide)) (z_tne hf_ha hf_ct (m := 340) (n := 132) rfl rfl (by decide)) (z_tne hf_ha hf_se (m := 340) (n := 388) rfl rfl (by decide)) (z_tne hf_ha hf_th (m := 340) (n := 388) rfl rfl (by decide)) (z_tne hf_ha hf_cn (m := 340) (n := 388) rfl rfl (by decide)) (z_tne hf_ha hf_db (m := 340) (n := 140) rfl rfl (by decide)) (z_tne hf_ha hf_be (m := 340) (n := 20692) rfl rfl (by decide)) (z_tne hf_ha hf_du (m := 340) (n := 41700) rfl rfl (by decide)) (z_tne hf_ha hf_dr (m := 340) (n := 4260) rfl rfl (by decide))).trans hf_ha
            have hf_lw : f55 lw = .inl (cy 1, 25, .inl glw) := (hfm lw hm_lw (z_tne hf_lw hf_mm (m := 300) (n := 10) rfl rfl (by decide)) (z_tne hf_lw hf_ro (m := 300) (n := 204) rfl rfl (by decide)) (z_tne hf_lw hf_ct (m := 300) (n := 132) rfl rfl (by decide)) (z_tne hf_lw hf_se (m := 300) (n := 388) rfl rfl (by decide)) (z_tne hf_lw hf_th (m := 300) (n := 388) rfl rfl (by decide)) (z_tne hf_lw hf_cn (m := 300) (n := 388) rfl rfl (by decide)) (z_tne hf_lw hf_db (m := 300) (n := 140) rfl rfl (by decide)) (z_tne hf_lw hf_be (m := 300) (n := 20692) rfl rfl (by decide)) (z_tne hf_lw hf_du (m := 300) (n := 41700) rfl rfl (by decide)) (z_tne hf_lw hf_dr (m := 300) (n := 4260) rfl rfl (by decide))).trans hf_lw
            have hf_st : f55 st = .inl (cy 1, 20, .inl gst) := (hfm st hm_st (z_tne hf_st hf_mm (m := 260) (n := 10) rfl rfl (by decide)) (z_tne hf_st hf_ro (m := 260) (n := 204) rfl rfl (by decide)) (z_tne hf_st hf_ct (m := 260) (n := 132) rfl rfl (by decide)) (z_tne hf_st hf_se (m := 260) (n := 388) rfl rfl (by decide)) (z_tne hf_st hf_th (m := 260) (n := 388) rfl rfl (by decide)) (z_tne hf_st hf_cn (m := 260) (n := 388) rfl rfl (by decide)) (z_tne hf_st hf_db (m := 260) (n := 140) rfl rfl (by decide)) (z_tne hf_st hf_be (m := 260) (n := 20692) rfl rfl (by decide)) (z_tne hf_st hf_du (m := 260) (n := 41700) rfl rfl (by decide)) (z_tne hf_st hf_dr (m := 260) (n := 4260) rfl rfl (by decide))).trans hf_st
            have hf_fo : f55 fo = .inl (cy 1, 180, .inl gfo) := (hfm fo hm_fo (z_tne hf_fo hf_mm (m := 1540) (n := 10) rfl rfl (by decide)) (z_tne hf_fo hf_ro (m := 1540) (n := 204) rfl rfl (by decide)) (z_tne hf_fo hf_ct (m := 1540) (n := 132) rfl rfl (by decide)) (z_tne hf_fo hf_se (m := 1540) (n := 388) rfl rfl (by decide)) (z_tne hf_fo hf_th (m := 1540) (n := 388) rfl rfl (by decide)) (z_tne hf_fo hf_cn (m := 1540) (n := 388) rfl rfl (by decide)) (z_tne hf_fo hf_db (m := 1540) (n := 140) rfl rfl (by decide)) (z_tne hf_fo hf_be (m := 1540) (n := 20692) rfl rfl (by decide)) (z_tne hf_fo hf_du (m := 1540) (n := 41700) rfl rfl (by decide)) (z_tne hf_fo hf_dr (m := 1540) (n := 4260) rfl rfl (by decide))).trans hf_fo
            have hf_li : f55 li = .inl (cy 1, 5, .inl gli) := (hfm li hm_li (z_tne hf_li hf_mm (m := 140) (n := 10) rfl rfl (by decide)) (z_tne hf_li hf_ro (m := 140) (n := 204) rfl rfl (by decide)) (z_tne hf_li hf_ct (m := 140) (n := 132) rfl rfl (by decide)) (z_tne hf_li hf_se (m := 140) (n := 388) rfl rfl (by decide)) (z_tne hf_li hf_th (m := 140) (n := 388) rfl rfl (by decide)) (z_tne hf_li hf_cn (m := 140) (n := 388) rfl rfl (by decide)) (Ne.symm ne_db_li) (z_tne hf_li hf_be (m := 140) (n := 20692) rfl rfl (by decide)) (z_tne hf_li hf_du (m := 140) (n := 41700) rfl rfl (by decide)) (z_tne hf_li hf_dr (m := 140) (n := 4260) rfl rfl (by decide))).trans hf_li
            have hf_mm : f55 mm = .inr (10, [.int 0, .ref wd, .ref my, .ref ce, .ref mv, .ref ta, .int m6, .int m7, .int m8, .int m9, .int m10, .long m11, .int m12, .int m13, .int m14, .int m15, .ref li, .ref ha, .ref lw, .ref st, .ref fo, .ref dr, .int m22, .ref ik, .int (-1), .int mn2_56, .long x2_60, .int 0, .int 1000, .ref ro, .int n2_57, .ref ct, .ref se, .ref th, .ref cn, .ref be, .int y2_59, .ref du, .int d2_58, .ref db, .int m40, .int m41, .int m42, .ref pn, .ref wg, .ref wh, .ref tn, .ref he, .int m48, .ref tr, .ref fd, .ref po, .int m52, .int m53]) := ha_0
            have hf_ro : f55 ro = .inl (cy 1, 13, .inl nro_61) := ha_1
            have hf_ct : f55 ct = .inl (cy 1, 4, .inl nct_62) := ha_2
            have hf_se : f55 se = .inl (cy 1, 36, .inl nse_63) := ha_3
            have hf_th : f55 th = .inl (cy 1, 36, .inl nth_64) := ha_4
            have hf_cn : f55 cn = .inl (cy 1, 36, .inl ncn_65) := ha_5
            have hf_db : f55 db = .inl (cy 1, 5, .inl ndb_66) := ha_6
            have hf_be : f55 be = .inl (cy 1, 2574, .inl nbe_67) := ha_7
            have hf_du : f55 du = .inl (cy 1, 5200, .inl ndu_68) := ha_8
            have hf_dr : f55 dr = .inl (cy 1, 520, .inl ndr_69) := ha_9
            have hq70 := hp
            refine lv_istore (lv' := [(8, .int r53), (7, .int K33), (6, .int V50), (5, .int V49), (0, .ref mm), (1, .int oo), (2, .int ga), (3, .int dy), (4, .int wt)]) hx hb dX10_waits_76 hl (by decide) rfl (fun ls hl => ?_)
            refine lv_iload hx hb dX10_waits_78 (lv_at hl 0 rfl) ?_
            refine lv_iload hx hb dX10_waits_80 (lv_at hl 2 rfl) ?_
            refine z_icmp_gt (tgt := 88) hx hb rfl rfl dX10_waits_82 (by decide) (fun c71 => ?_) (fun c71 => ?_)
            · skip
              refine lv_iload hx hb dX10_waits_88 (lv_at hl 1 rfl) ?_
              refine lv_istore (lv' := [(5, .int K33), (8, .int r53), (7, .int K33), (6, .int V50), (0, .ref mm), (1, .int oo), (2, .int ga), (3, .int dy), (4, .int wt)]) hx hb dX10_waits_90 hl (by decide) rfl (fun ls hl => ?_)
              refine lv_iload hx hb dX10_waits_92 (lv_at hl 1 rfl) ?_
              refine lv_istore (lv' := [(6, .int r53), (5, .int K33), (8, .int r53), (7, .int K33), (0, .ref mm), (1, .int oo), (2, .int ga), (3, .int dy), (4, .int wt)]) hx hb dX10_waits_94 hl (by decide) rfl (fun ls hl => ?_)
              obtain ⟨k72, e_k72⟩ : ∃ z : Int32, z = K33 + 1 := ⟨_, rfl⟩
              refine lv_iinc (v := k72) (lv' := [(7, .int k72), (6, .int r53), (5, .int K33), (8, .int r53), (0, .ref mm), (1, .int oo), (2, .int ga), (3, .int dy), (4, .int wt)]) hx hb dX10_waits_96 hl (k := 3) rfl (by rw [e_k72]; rfl) (by decide) rfl (fun ls hl => ?_)
              have i_k72 : k72.toInt = (K33.toInt + 1) := z_add e_k72 rfl (by decide) (by omega)
              refine lv_goto (tgt := 60) hx hb dX10_waits_99 (by decide) ?_
              exact ih_60 _ (by omega) _ _ _ ⟨k72, nro_61, nct_62, nse_63, nth_64, ncn_65, ndb_66, nbe_67, ndu_68, ndr_69, mn2_56, n2_57, d2_58, y2_59, x2_60, K33, r53, f55, rfl, (by first | decide | omega), (by first | decide | omega), (by omega), hw, hf_mm, hf_ha, hf_dr, hf_ro, hf_lw, hf_st, hf_ct, hf_se, hf_th, hf_cn, hf_db, hf_be, hf_du, hf_fo, hf_li, hfr, hq_ro, hq_ct, hq_be, hq_du, hq_dr, (lv_sub hl [0, 1, 2, 4, 5, 6, 7, 8] rfl)⟩
            · skip
              refine lv_goto (tgt := 96) hx hb dX10_waits_85 (by decide) ?_
              obtain ⟨k73, e_k73⟩ : ∃ z : Int32, z = K33 + 1 := ⟨_, rfl⟩
              refine lv_iinc (v := k73) (lv' := [(7, .int k73), (8, .int r53), (6, .int V50), (5, .int V49), (0, .ref mm), (1, .int oo), (2, .int ga), (3, .int dy), (4, .int wt)]) hx hb dX10_waits_96 hl (k := 1) rfl (by rw [e_k73]; rfl) (by decide) rfl (fun ls hl => ?_)
              have i_k73 : k73.toInt = (K33.toInt + 1) := z_add e_k73 rfl (by decide) (by omega)
              refine lv_goto (tgt := 60) hx hb dX10_waits_99 (by decide) ?_
              exact ih_60 _ (by omega) _ _ _ ⟨k73, nro_61, nct_62, nse_63, nth_64, ncn_65, ndb_66, nbe_67, ndu_68, ndr_69, mn2_56, n2_57, d2_58, y2_59, x2_60, V49, V50, f55, rfl, (by first | decide | omega), (by first | decide | omega), (by omega), hw, hf_mm, hf_ha, hf_dr, hf_ro, hf_lw, hf_st, hf_ct, hf_se, hf_th, hf_cn, hf_db, hf_be, hf_du, hf_fo, hf_li, hfr, hq_ro, hq_ct, hq_be, hq_du, hq_dr, (lv_sub hl [0, 2, 3, 4, 5, 6, 7, 8] rfl)⟩
        · skip
          refine z_if_ne (tgt := 44) hx hb (show (0 : Int32).toInt = 0 by decide) dX10_waits_38 (by decide) (fun h => absurd h (by decide)) (fun _ => ?_)
          refine lv_bipush (v := (-2)) hx hb dX10_waits_41 (by decide) ?_
          exact z_iret hx hb hr hlk (by decide) (by decide) hw (⟨hsub, hfr, m24, m25, m27, m28, m30, m38, m36, m26, gro, gct, gse, gth, gcn, gdb, gbe, gdu, gdr, hf_mm, hf_ro, hf_ct, hf_se, hf_th, hf_cn, hf_db, hf_be, hf_du, hf_dr, hq_ro, hq_ct, hq_be, hq_du, hq_dr, by omega⟩) dX10_waits_43
      · skip
        refine z_if_eq (tgt := 41) hx hb (show (0 : Int32).toInt = 0 by decide) dX10_waits_27 (by decide) (fun _ => ?_) (fun h => absurd h (by decide))
        refine lv_bipush (v := (-2)) hx hb dX10_waits_41 (by decide) ?_
        exact z_iret hx hb hr hlk (by decide) (by decide) hw (⟨hsub, hfr, m24, m25, m27, m28, m30, m38, m36, m26, gro, gct, gse, gth, gcn, gdb, gbe, gdu, gdr, hf_mm, hf_ro, hf_ct, hf_se, hf_th, hf_cn, hf_db, hf_be, hf_du, hf_dr, hq_ro, hq_ct, hq_be, hq_du, hq_dr, by omega⟩) dX10_waits_43
    · skip
      refine z_if_eq (tgt := 41) hx hb (show (0 : Int32).toInt = 0 by decide) dX10_waits_19 (by decide) (fun _ => ?_) (fun h => absurd h (by decide))
      refine lv_bipush (v := (-2)) hx hb dX10_waits_41 (by decide) ?_
      exact z_iret hx hb hr hlk (by decide) (by decide) hw (⟨hsub, hfr, m24, m25, m27, m28, m30, m38, m36, m26, gro, gct, gse, gth, gcn, gdb, gbe, gdu, gdr, hf_mm, hf_ro, hf_ct, hf_se, hf_th, hf_cn, hf_db, hf_be, hf_du, hf_dr, hq_ro, hq_ct, hq_be, hq_du, hq_dr, by omega⟩) dX10_waits_43
  · skip
    refine z_if_eq (tgt := 41) hx hb (show (0 : Int32).toInt = 0 by decide) dX10_waits_11 (by decide) (fun _ => ?_) (fun h => absurd h (by decide))
    refine lv_bipush (v := (-2)) hx hb dX10_waits_41 (by decide) ?_
    exact z_iret hx hb hr hlk (by decide) (by decide) hw (⟨hsub, hfr, m24, m25, m27, m28, m30, m38, m36, m26, gro, gct, gse, gth, gcn, gdb, gbe, gdu, gdr, hf_mm, hf_ro, hf_ct, hf_se, hf_th, hf_cn, hf_db, hf_be, hf_du, hf_dr, hq_ro, hq_ct, hq_be, hq_du, hq_dr, by omega⟩) dX10_waits_43
