set_option maxHeartbeats 2000000 in
set_option maxRecDepth 100000 in
theorem c_X10_goes_ (l : Launch) {D : va_G} {cy : Nat → ClassId} {L : List Nat} {f : Nat → va_E} {sz : Nat} {adK adV : Nat → Nat} {mm wd my ce mv ta li ha lw st fo dr ik ro ct se th cn be du db pn wg wh tn he tr fd po : Nat} {m0 m6 m7 m8 m9 m10 m12 m13 m14 m15 m22 m24 m25 m27 m28 m30 m36 m38 m40 m41 m42 m48 m52 m53 : Int32} {m11 m26 : Int64} {gha glw gst gfo gdr gro gct gse gth gcn gbe gdu gdb : Nat → Int32}  (hm_mm : mm ∈ L) (hm_ha : ha ∈ L) (hm_dr : dr ∈ L) (hm_ro : ro ∈ L) (hm_lw : lw ∈ L) (hm_st : st ∈ L) (hm_ct : ct ∈ L) (hm_se : se ∈ L) (hm_th : th ∈ L) (hm_cn : cn ∈ L) (hm_db : db ∈ L) (hm_be : be ∈ L) (hm_du : du ∈ L) (hm_fo : fo ∈ L) (hf_mm : f mm = .inr (10, [.int m0, .ref wd, .ref my, .ref ce, .ref mv, .ref ta, .int m6, .int m7, .int m8, .int m9, .int m10, .long m11, .int m12, .int m13, .int m14, .int m15, .ref li, .ref ha, .ref lw, .ref st, .ref fo, .ref dr, .int m22, .ref ik, .int m24, .int m25, .long m26, .int m27, .int m28, .ref ro, .int m30, .ref ct, .ref se, .ref th, .ref cn, .ref be, .int m36, .ref du, .int m38, .ref db, .int m40, .int m41, .int m42, .ref pn, .ref wg, .ref wh, .ref tn, .ref he, .int m48, .ref tr, .ref fd, .ref po, .int m52, .int m53])) (hf_ha : f ha = .inl (cy 1, 30, .inl gha)) (hf_dr : f dr = .inl (cy 1, 520, .inl gdr)) (hf_ro : f ro = .inl (cy 1, 13, .inl gro)) (hf_lw : f lw = .inl (cy 1, 25, .inl glw)) (hf_st : f st = .inl (cy 1, 20, .inl gst)) (hf_ct : f ct = .inl (cy 1, 4, .inl gct)) (hf_se : f se = .inl (cy 1, 36, .inl gse)) (hf_th : f th = .inl (cy 1, 36, .inl gth)) (hf_cn : f cn = .inl (cy 1, 36, .inl gcn)) (hf_db : f db = .inl (cy 1, 5, .inl gdb)) (hf_be : f be = .inl (cy 1, 2574, .inl gbe)) (hf_du : f du = .inl (cy 1, 5200, .inl gdu)) (hf_fo : f fo = .inl (cy 1, 180, .inl gfo)) (ne_se_th : se ≠ th) (ne_se_cn : se ≠ cn) (ne_th_cn : th ≠ cn) (hq_ha : ∀ j : Nat, q_has j (gha j)) (hq_dr : ∀ j : Nat, q_drv j (gdr j)) (hq_ro : ∀ j : Nat, q_12 j (gro j)) (hq_lw : ∀ j : Nat, q_law j (glw j)) (hq_st : ∀ j : Nat, q_law j (gst j)) (hq_ct : ∀ j : Nat, q_law j (gct j)) (hq_be : ∀ j : Nat, q_be j (gbe j)) (hq_du : ∀ j : Nat, q_du j (gdu j)) (hmn : 0 ≤ m25.toInt ∧ m25.toInt ≤ 13) (hee : 2 ≤ (glw 3).toInt ∨ m25.toInt ≤ 0) (hxx : 0 ≤ m26.toInt ∧ m26.toInt < 2147483648) : Met l yX10_goes_ (z_ws yX10_goes_ cX10_goes_ 7 none) (z_R 5 0 0) (va_Pc [.ref mm] (z_Pre D vwCl (z_KK D cy adK adV) L f sz)) (z_Qv D vwCl (fun u => L = u.1 ∧ (∀ b ∈ L, b ≠ mm → b ≠ ro → b ≠ ct → b ≠ se → b ≠ th → b ≠ cn → b ≠ db → b ≠ be → b ≠ du → u.2 b = f b) ∧ (∃ (n2 d2 y2 : Int32) (x2 : Int64) (nro nct nse nth ncn ndb nbe ndu : Nat → Int32), (u.2 mm = .inr (10, [.int m0, .ref wd, .ref my, .ref ce, .ref mv, .ref ta, .int m6, .int m7, .int m8, .int m9, .int m10, .long m11, .int m12, .int m13, .int m14, .int m15, .ref li, .ref ha, .ref lw, .ref st, .ref fo, .ref dr, .int m22, .ref ik, .int m24, .int m25, .long x2, .int m27, .int m28, .ref ro, .int n2, .ref ct, .ref se, .ref th, .ref cn, .ref be, .int y2, .ref du, .int d2, .ref db, .int m40, .int m41, .int m42, .ref pn, .ref wg, .ref wh, .ref tn, .ref he, .int m48, .ref tr, .ref fd, .ref po, .int m52, .int m53])) ∧ (u.2 ro = .inl (cy 1, 13, .inl nro)) ∧ (u.2 ct = .inl (cy 1, 4, .inl nct)) ∧ (u.2 se = .inl (cy 1, 36, .inl nse)) ∧ (u.2 th = .inl (cy 1, 36, .inl nth)) ∧ (u.2 cn = .inl (cy 1, 36, .inl ncn)) ∧ (u.2 db = .inl (cy 1, 5, .inl ndb)) ∧ (u.2 be = .inl (cy 1, 2574, .inl nbe)) ∧ (u.2 du = .inl (cy 1, 5200, .inl ndu)) ∧ (∀ j : Nat, q_12 j (nro j)) ∧ (∀ j : Nat, q_law j (nct j)) ∧ (∀ j : Nat, q_be j (nbe j)) ∧ (∀ j : Nat, q_du j (ndu j)) ∧ ((0 ≤ n2.toInt ∧ n2.toInt ≤ 13) ∧ (∀ j : Nat, (j : Int) < n2.toInt → z_tr gdr (24 * (gha 1).toInt) (nro j)) ∧ (0 ≤ x2.toInt ∧ x2.toInt < 2147483648) ∧ 0 ≤ d2.toInt ∧ ∃ I : Int, 0 ≤ I ∧ I ≤ n2.toInt ∧ (∀ j : Nat, (j : Int) < I → z_tm gdr (nro j).toNatClampNeg ≤ m28.toInt) ∧ 2 * d2.toInt + z_ph nct ≤ 4 + 198 * I))) L sz) 0 0 (z_A L sz) := by
  refine z_met (cc := cX10_goes_) (maxL := 7) (ret := none) (lv := [(0, .ref mm)]) (by decide) rfl (Nat.le_of_ble_eq_true rfl) rfl ?_
  intro p e s m below meth c ls hx hb hr hlk hml hown hnm hts hKK hA hw hl
  have hK := hKK.1.1
  have hown : s.vm.findClass RX10 = some m.cls := hown
  have hT : ∀ w ∈ lw_all, w.before ([.ref mm] : List Value).toArray s = true := fun w h => hts w (z_cons w h)
  have hsub : L = L := rfl
  have hfr : ∀ b ∈ L, b ≠ mm → b ≠ ro → b ≠ ct → b ≠ se → b ≠ th → b ≠ cn → b ≠ db → b ≠ be → b ≠ du → f b = f b := fun _ _ _ _ _ _ _ _ _ _ _ => rfl
  have hz_0 : (0 : Int32).toInt = 0 := by decide
  refine lv_aload_n hx hb dX10_goes__0 rfl (lv_at hl 0 rfl) ?_
  refine z_callvV (cells := 0) (slots := 0) (b := mm) (As := []) (rest := []) (ci := 10) (q0 := (RX10, TX10, 54)) ⟨hx, hb, hml, hown, hT⟩ (c_X10_sorts l hm_mm hm_ha hm_dr hm_ro hf_mm hf_ha hf_dr hf_ro hq_ha hq_dr hq_ro (by first | omega | decide | assumption)) (cwV 0 hT (z_goodV (fun _ h => h) kw_1547 kw_1549 kw_60 kw_96 kw_1550) rfl rfl rfl (by decide +kernel) ⟨by decide, by decide⟩) z_mv hKK hK hw hA hm_mm hf_mm rfl rfl rfl hl.1 rfl (Nat.le_of_ble_eq_true rfl) dX10_goes__1 ⟨by decide, by decide⟩ (fun u H locs hp hw => ?_)
  obtain ⟨L1, f2⟩ := u
  obtain ⟨hsb, hfm, n2_3, nro_4, ha_0, ha_1, hq_ro, hp⟩ := hp
  have hsb : L = L1 := hsb
  subst hsb
  have hsb : ∀ b ∈ L, b ∈ L := fun _ h => h
  have hw : z_H D vwCl (z_A L sz) s.heap L f2 H locs := hw
  have hfr : ∀ b ∈ L, b ≠ mm → b ≠ ro → b ≠ ct → b ≠ se → b ≠ th → b ≠ cn → b ≠ db → b ≠ be → b ≠ du → f2 b = f b := fun b hb h0 h1 h2 h3 h4 h5 h6 h7 h8 => (hfm b hb h0 h1).trans (hfr b hb h0 h1 h2 h3 h4 h5 h6 h7 h8)
  have hf_ha : f2 ha = .inl (cy 1, 30, .inl gha) := (hfm ha hm_ha (z_tne hf_ha hf_mm (m := 340) (n := 10) rfl rfl (by decide)) (z_tne hf_ha hf_ro (m := 340) (n := 204) rfl rfl (by decide))).trans hf_ha
  have hf_dr : f2 dr = .inl (cy 1, 520, .inl gdr) := (hfm dr hm_dr (z_tne hf_dr hf_mm (m := 4260) (n := 10) rfl rfl (by decide)) (z_tne hf_dr hf_ro (m := 4260) (n := 204) rfl rfl (by decide))).trans hf_dr
  have hf_lw : f2 lw = .inl (cy 1, 25, .inl glw) := (hfm lw hm_lw (z_tne hf_lw hf_mm (m := 300) (n := 10) rfl rfl (by decide)) (z_tne hf_lw hf_ro (m := 300) (n := 204) rfl rfl (by decide))).trans hf_lw
  have hf_st : f2 st = .inl (cy 1, 20, .inl gst) := (hfm st hm_st (z_tne hf_st hf_mm (m := 260) (n := 10) rfl rfl (by decide)) (z_tne hf_st hf_ro (m := 260) (n := 204) rfl rfl (by decide))).trans hf_st
  have hf_ct : f2 ct = .inl (cy 1, 4, .inl gct) := (hfm ct hm_ct (z_tne hf_ct hf_mm (m := 132) (n := 10) rfl rfl (by decide)) (z_tne hf_ct hf_ro (m := 132) (n := 204) rfl rfl (by decide))).trans hf_ct
  have hf_se : f2 se = .inl (cy 1, 36, .inl gse) := (hfm se hm_se (z_tne hf_se hf_mm (m := 388) (n := 10) rfl rfl (by decide)) (z_tne hf_se hf_ro (m := 388) (n := 204) rfl rfl (by decide))).trans hf_se
  have hf_th : f2 th = .inl (cy 1, 36, .inl gth) := (hfm th hm_th (z_tne hf_th hf_mm (m := 388) (n := 10) rfl rfl (by decide)) (z_tne hf_th hf_ro (m := 388) (n := 204) rfl rfl (by decide))).trans hf_th
  have hf_cn : f2 cn = .inl (cy 1, 36, .inl gcn) := (hfm cn hm_cn (z_tne hf_cn hf_mm (m := 388) (n := 10) rfl rfl (by decide)) (z_tne hf_cn hf_ro (m := 388) (n := 204) rfl rfl (by decide))).trans hf_cn
  have hf_db : f2 db = .inl (cy 1, 5, .inl gdb) := (hfm db hm_db (z_tne hf_db hf_mm (m := 140) (n := 10) rfl rfl (by decide)) (z_tne hf_db hf_ro (m := 140) (n := 204) rfl rfl (by decide))).trans hf_db
  have hf_be : f2 be = .inl (cy 1, 2574, .inl gbe) := (hfm be hm_be (z_tne hf_be hf_mm (m := 20692) (n := 10) rfl rfl (by decide)) (z_tne hf_be hf_ro (m := 20692) (n := 204) rfl rfl (by decide))).trans hf_be
  have hf_du : f2 du = .inl (cy 1, 5200, .inl gdu) := (hfm du hm_du (z_tne hf_du hf_mm (m := 41700) (n := 10) rfl rfl (by decide)) (z_tne hf_du hf_ro (m := 41700) (n := 204) rfl rfl (by decide))).trans hf_du
  have hf_fo : f2 fo = .inl (cy 1, 180, .inl gfo) := (hfm fo hm_fo (z_tne hf_fo hf_mm (m := 1540) (n := 10) rfl rfl (by decide)) (z_tne hf_fo hf_ro (m := 1540) (n := 204) rfl rfl (by decide))).trans hf_fo
  have hf_mm : f2 mm = .inr (10, [.int m0, .ref wd, .ref my, .ref ce, .ref mv, .ref ta, .int m6, .int m7, .int m8, .int m9, .int m10, .long m11, .int m12, .int m13, .int m14, .int m15, .ref li, .ref ha, .ref lw, .ref st, .ref fo, .ref dr, .int m22, .ref ik, .int m24, .int m25, .long m26, .int m27, .int m28, .ref ro, .int n2_3, .ref ct, .ref se, .ref th, .ref cn, .ref be, .int m36, .ref du, .int m38, .ref db, .int m40, .int m41, .int m42, .ref pn, .ref wg, .ref wh, .ref tn, .ref he, .int m48, .ref tr, .ref fd, .ref po, .int m52, .int m53]) := ha_0
  have hf_ro : f2 ro = .inl (cy 1, 13, .inl nro_4) := ha_1
  have hso := hp
  refine lv_aload_n hx hb dX10_goes__4 rfl (lv_at hl 0 rfl) ?_
  refine z_callvV (cells := 0) (slots := 0) (b := mm) (As := []) (rest := []) (ci := 10) (q0 := (RX10, TX10, 54)) ⟨hx, hb, hml, hown, hT⟩ (c_X10_begin l hm_mm hm_lw hm_st hm_ct hm_se hm_th hm_cn hm_db hf_mm hf_lw hf_st hf_ct hf_se hf_th hf_cn hf_db ne_se_th ne_se_cn ne_th_cn hq_lw hq_st hq_ct) (cwV 0 hT (z_goodV (fun _ h => h) kw_1555 kw_1557 kw_62 kw_96 kw_1558) rfl rfl rfl (by decide +kernel) ⟨by decide, by decide⟩) z_mv hKK hK hw hA hm_mm hf_mm rfl rfl rfl hl.1 rfl (Nat.le_of_ble_eq_true rfl) dX10_goes__5 ⟨by decide, by decide⟩ (fun u H locs hp hw => ?_)
  obtain ⟨L5, f6⟩ := u
  obtain ⟨hsb, hfm, nct_7, nse_8, nth_9, ncn_10, ndb_11, ha_0, ha_1, ha_2, ha_3, ha_4, ha_5, hq_ct, hp⟩ := hp
  have hsb : L = L5 := hsb
  subst hsb
  have hsb : ∀ b ∈ L, b ∈ L := fun _ h => h
  have hw : z_H D vwCl (z_A L sz) s.heap L f6 H locs := hw
  have hfr : ∀ b ∈ L, b ≠ mm → b ≠ ro → b ≠ ct → b ≠ se → b ≠ th → b ≠ cn → b ≠ db → b ≠ be → b ≠ du → f6 b = f b := fun b hb h0 h1 h2 h3 h4 h5 h6 h7 h8 => (hfm b hb h0 h2 h3 h4 h5 h6).trans (hfr b hb h0 h1 h2 h3 h4 h5 h6 h7 h8)
  have hf_ha : f6 ha = .inl (cy 1, 30, .inl gha) := (hfm ha hm_ha (z_tne hf_ha hf_mm (m := 340) (n := 10) rfl rfl (by decide)) (z_tne hf_ha hf_ct (m := 340) (n := 132) rfl rfl (by decide)) (z_tne hf_ha hf_se (m := 340) (n := 388) rfl rfl (by decide)) (z_tne hf_ha hf_th (m := 340) (n := 388) rfl rfl (by decide)) (z_tne hf_ha hf_cn (m := 340) (n := 388) rfl rfl (by decide)) (z_tne hf_ha hf_db (m := 340) (n := 140) rfl rfl (by decide))).trans hf_ha
  have hf_dr : f6 dr = .inl (cy 1, 520, .inl gdr) := (hfm dr hm_dr (z_tne hf_dr hf_mm (m := 4260) (n := 10) rfl rfl (by decide)) (z_tne hf_dr hf_ct (m := 4260) (n := 132) rfl rfl (by decide)) (z_tne hf_dr hf_se (m := 4260) (n := 388) rfl rfl (by decide)) (z_tne hf_dr hf_th (m := 4260) (n := 388) rfl rfl (by decide)) (z_tne hf_dr hf_cn (m := 4260) (n := 388) rfl rfl (by decide)) (z_tne hf_dr hf_db (m := 4260) (n := 140) rfl rfl (by decide))).trans hf_dr
  have hf_ro : f6 ro = .inl (cy 1, 13, .inl nro_4) := (hfm ro hm_ro (z_tne hf_ro hf_mm (m := 204) (n := 10) rfl rfl (by decide)) (z_tne hf_ro hf_ct (m := 204) (n := 132) rfl rfl (by decide)) (z_tne hf_ro hf_se (m := 204) (n := 388) rfl rfl (by decide)) (z_tne hf_ro hf_th (m := 204) (n := 388) rfl rfl (by decide)) (z_tne hf_ro hf_cn (m := 204) (n := 388) rfl rfl (by decide)) (z_tne hf_ro hf_db (m := 204) (n := 140) rfl rfl (by decide))).trans hf_ro
  have hf_lw : f6 lw = .inl (cy 1, 25, .inl glw) := (hfm lw hm_lw (z_tne hf_lw hf_mm (m := 300) (n := 10) rfl rfl (by decide)) (z_tne hf_lw hf_ct (m := 300) (n := 132) rfl rfl (by decide)) (z_tne hf_lw hf_se (m := 300) (n := 388) rfl rfl (by decide)) (z_tne hf_lw hf_th (m := 300) (n := 388) rfl rfl (by decide)) (z_tne hf_lw hf_cn (m := 300) (n := 388) rfl rfl (by decide)) (z_tne hf_lw hf_db (m := 300) (n := 140) rfl rfl (by decide))).trans hf_lw
  have hf_st : f6 st = .inl (cy 1, 20, .inl gst) := (hfm st hm_st (z_tne hf_st hf_mm (m := 260) (n := 10) rfl rfl (by decide)) (z_tne hf_st hf_ct (m := 260) (n := 132) rfl rfl (by decide)) (z_tne hf_st hf_se (m := 260) (n := 388) rfl rfl (by decide)) (z_tne hf_st hf_th (m := 260) (n := 388) rfl rfl (by decide)) (z_tne hf_st hf_cn (m := 260) (n := 388) rfl rfl (by decide)) (z_tne hf_st hf_db (m := 260) (n := 140) rfl rfl (by decide))).trans hf_st
  have hf_be : f6 be = .inl (cy 1, 2574, .inl gbe) := (hfm be hm_be (z_tne hf_be hf_mm (m := 20692) (n := 10) rfl rfl (by decide)) (z_tne hf_be hf_ct (m := 20692) (n := 132) rfl rfl (by decide)) (z_tne hf_be hf_se (m := 20692) (n := 388) rfl rfl (by decide)) (z_tne hf_be hf_th (m := 20692) (n := 388) rfl rfl (by decide)) (z_tne hf_be hf_cn (m := 20692) (n := 388) rfl rfl (by decide)) (z_tne hf_be hf_db (m := 20692) (n := 140) rfl rfl (by decide))).trans hf_be
  have hf_du : f6 du = .inl (cy 1, 5200, .inl gdu) := (hfm du hm_du (z_tne hf_du hf_mm (m := 41700) (n := 10) rfl rfl (by decide)) (z_tne hf_du hf_ct (m := 41700) (n := 132) rfl rfl (by decide)) (z_tne hf_du hf_se (m := 41700) (n := 388) rfl rfl (by decide)) (z_tne hf_du hf_th (m := 41700) (n := 388) rfl rfl (by decide)) (z_tne hf_du hf_cn (m := 41700) (n := 388) rfl rfl (by decide)) (z_tne hf_du hf_db (m := 41700) (n := 140) rfl rfl (by decide))).trans hf_du
  have hf_fo : f6 fo = .inl (cy 1, 180, .inl gfo) := (hfm fo hm_fo (z_tne hf_fo hf_mm (m := 1540) (n := 10) rfl rfl (by decide)) (z_tne hf_fo hf_ct (m := 1540) (n := 132) rfl rfl (by decide)) (z_tne hf_fo hf_se (m := 1540) (n := 388) rfl rfl (by decide)) (z_tne hf_fo hf_th (m := 1540) (n := 388) rfl rfl (by decide)) (z_tne hf_fo hf_cn (m := 1540) (n := 388) rfl rfl (by decide)) (z_tne hf_fo hf_db (m := 1540) (n := 140) rfl rfl (by decide))).trans hf_fo
  have hf_mm : f6 mm = .inr (10, [.int m0, .ref wd, .ref my, .ref ce, .ref mv, .ref ta, .int m6, .int m7, .int m8, .int m9, .int m10, .long m11, .int m12, .int m13, .int m14, .int m15, .ref li, .ref ha, .ref lw, .ref st, .ref fo, .ref dr, .int m22, .ref ik, .int m24, .int m25, .long m26, .int m27, .int m28, .ref ro, .int n2_3, .ref ct, .ref se, .ref th, .ref cn, .ref be, .int 0, .ref du, .int 0, .ref db, .int m40, .int m41, .int m42, .ref pn, .ref wg, .ref wh, .ref tn, .ref he, .int m48, .ref tr, .ref fd, .ref po, .int m52, .int m53]) := ha_0
  have hf_ct : f6 ct = .inl (cy 1, 4, .inl nct_7) := ha_1
  have hf_se : f6 se = .inl (cy 1, 36, .inl nse_8) := ha_2
  have hf_th : f6 th = .inl (cy 1, 36, .inl nth_9) := ha_3
  have hf_cn : f6 cn = .inl (cy 1, 36, .inl ncn_10) := ha_4
  have hf_db : f6 db = .inl (cy 1, 5, .inl ndb_11) := ha_5
  have hP0 := z_phr nct_7
  refine lv_iconst (v := 0) hx hb dX10_goes__8 (by decide) ?_
  refine lv_istore_n (lv' := [(1, .int 0), (0, .ref mm)]) hx hb dX10_goes__9 rfl hl (by decide) rfl (fun ls hl => ?_)
  have hzk : (0 : Int32).toInt = 0 := by decide
  refine z_loop (fun n H locs ls => ∃ (K12 : Int32) (G17 : Nat → Int32) (G18 : Nat → Int32) (G19 : Nat → Int32) (G20 : Nat → Int32) (G21 : Nat → Int32) (G22 : Nat → Int32) (G23 : Nat → Int32) (DM14 : Int32) (DN15 : Int32) (XX16 : Int64) (f13 : Nat → va_E), (n = (n2_3.toInt - K12.toInt).toNat) ∧ (0 ≤ K12.toInt) ∧ (K12.toInt ≤ n2_3.toInt) ∧ (0 ≤ DM14.toInt) ∧ (2 * DM14.toInt + z_ph G17 ≤ 4 + 198 * K12.toInt) ∧ (∀ j : Nat, (j : Int) < K12.toInt → z_tm gdr (nro_4 j).toNatClampNeg ≤ m28.toInt) ∧ (0 ≤ XX16.toInt ∧ XX16.toInt < 2147483648) ∧ (z_H D vwCl (z_A L sz) s.heap L f13 H locs) ∧ (f13 mm = .inr (10, [.int m0, .ref wd, .ref my, .ref ce, .ref mv, .ref ta, .int m6, .int m7, .int m8, .int m9, .int m10, .long m11, .int m12, .int m13, .int m14, .int m15, .ref li, .ref ha, .ref lw, .ref st, .ref fo, .ref dr, .int m22, .ref ik, .int m24, .int m25, .long XX16, .int m27, .int m28, .ref ro, .int n2_3, .ref ct, .ref se, .ref th, .ref cn, .ref be, .int DN15, .ref du, .int DM14, .ref db, .int m40, .int m41, .int m42, .ref pn, .ref wg, .ref wh, .ref tn, .ref he, .int m48, .ref tr, .ref fd, .ref po, .int m52, .int m53])) ∧ (f13 ha = .inl (cy 1, 30, .inl gha)) ∧ (f13 dr = .inl (cy 1, 520, .inl gdr)) ∧ (f13 ro = .inl (cy 1, 13, .inl nro_4)) ∧ (f13 lw = .inl (cy 1, 25, .inl glw)) ∧ (f13 st = .inl (cy 1, 20, .inl gst)) ∧ (f13 ct = .inl (cy 1, 4, .inl G17)) ∧ (f13 se = .inl (cy 1, 36, .inl G18)) ∧ (f13 th = .inl (cy 1, 36, .inl G19)) ∧ (f13 cn = .inl (cy 1, 36, .inl G20)) ∧ (f13 db = .inl (cy 1, 5, .inl G21)) ∧ (f13 be = .inl (cy 1, 2574, .inl G22)) ∧ (f13 du = .inl (cy 1, 5200, .inl G23)) ∧ (f13 fo = .inl (cy 1, 180, .inl gfo)) ∧ (∀ b ∈ L, b ≠ mm → b ≠ ro → b ≠ ct → b ≠ se → b ≠ th → b ≠ cn → b ≠ db → b ≠ be → b ≠ du → f13 b = f b) ∧ (∀ j : Nat, q_law j (G17 j)) ∧ (∀ j : Nat, q_be j (G22 j)) ∧ (∀ j : Nat, q_du j (G23 j)) ∧ (lv_has ls 7 [(1, .int K12), (0, .ref mm)])) _ ⟨0, nct_7, nse_8, nth_9, ncn_10, ndb_11, gbe, gdu, 0, 0, m26, f6, rfl, (by first | decide | omega), (by first | decide | omega), (by omega), (by omega), (fun j hj => absurd hj (by omega)), (by omega), hw, hf_mm, hf_ha, hf_dr, hf_ro, hf_lw, hf_st, hf_ct, hf_se, hf_th, hf_cn, hf_db, hf_be, hf_du, hf_fo, hfr, hq_ct, hq_be, hq_du, (lv_sub hl [0, 1] rfl)⟩ (fun n H locs ls hI ih_10 => ?_)
  obtain ⟨K12, G17, G18, G19, G20, G21, G22, G23, DM14, DN15, XX16, f13, hn, hk0, hk1, hi0, hi1, hi2, hi3, hw, hf_mm, hf_ha, hf_dr, hf_ro, hf_lw, hf_st, hf_ct, hf_se, hf_th, hf_cn, hf_db, hf_be, hf_du, hf_fo, hfr, hq_ct, hq_be, hq_du, hl⟩ := hI
  refine lv_iload_n hx hb dX10_goes__10 rfl (lv_at hl 0 rfl) ?_
  refine lv_aload_n hx hb dX10_goes__11 rfl (lv_at hl 1 rfl) ?_
  refine z_get (C := RX10) (T := TX10) (N := 54) (ci := 10) (v := .int n2_3) hx hb hT zin_X10 hown hK hw hm_mm hf_mm rfl 30 (by decide) (hT _ kw_1198) rfl dX10_goes__12 ?_
  refine z_icmp_ge (tgt := 235) hx hb rfl rfl dX10_goes__15 (by decide) (fun c24 => ?_) (fun c24 => ?_)
  · skip
    exact z_vret hx hb hr hlk (by decide) (by decide) hw (⟨hsub, hfr, n2_3, DM14, DN15, XX16, nro_4, G17, G18, G19, G20, G21, G22, G23, hf_mm, hf_ro, hf_ct, hf_se, hf_th, hf_cn, hf_db, hf_be, hf_du, hq_ro, hq_ct, hq_be, hq_du, by omega, hso.2, by omega, by omega, ⟨K12.toInt, by omega, by omega, hi2, hi1⟩⟩) dX10_goes__235
  · skip
    have hupO := hi2
    have hP0 := z_phr G17
    refine lv_aload_n hx hb dX10_goes__18 rfl (lv_at hl 1 rfl) ?_
    refine lv_aload_n hx hb dX10_goes__19 rfl (lv_at hl 1 rfl) ?_
    refine z_get (C := RX10) (T := TX10) (N := 54) (ci := 10) (v := .ref ro) hx hb hT zin_X10 hown hK hw hm_mm hf_mm rfl 29 (by decide) (hT _ kw_1197) rfl dX10_goes__20 ?_
    refine lv_iload_n hx hb dX10_goes__23 rfl (lv_at hl 0 rfl) ?_
    refine z_iald hx hb hK hw 1 hm_ro hf_ro rfl (z_ix rfl (by omega)) dX10_goes__24 ?_
    refine lv_topi (fun w25 e_w25 => ?_)
    have hv_w25 : 0 ≤ w25.toInt ∧ w25.toInt ≤ 12 := by rw [e_w25]; exact hq_ro _
    refine z_calliV (cells := 0) (slots := 0) (b := mm) (As := [.int w25]) (rest := []) (ci := 10) (q0 := (RX10, TX10, 54)) ⟨hx, hb, hml, hown, hT⟩ (c_X10_timeOf l hm_mm hm_dr hf_mm hf_dr hq_dr (by first | omega | decide | assumption)) (cwV 1 hT (z_goodV (fun _ h => h) kw_1495 kw_1497 kw_52 kw_96 kw_1498) rfl rfl rfl (by decide +kernel) ⟨by decide, by decide⟩) z_mv hKK hK hw hA hm_mm hf_mm rfl rfl rfl hl.1 rfl (Nat.le_of_ble_eq_true rfl) dX10_goes__25 ⟨by decide, by decide⟩ (fun r26 u H locs hp hw => ?_)
    obtain ⟨rfl, hp⟩ := hp
    have hw : z_H D vwCl (z_A L sz) s.heap L f13 H locs := hw
    have ht_r26 := hp
    refine lv_aload_n hx hb dX10_goes__28 rfl (lv_at hl 1 rfl) ?_
    refine z_get (C := RX10) (T := TX10) (N := 54) (ci := 10) (v := .int m28) hx hb hT zin_X10 hown hK hw hm_mm hf_mm rfl 28 (by decide) (hT _ kw_1196) rfl dX10_goes__29 ?_
    refine z_icmp_gt (tgt := 235) hx hb rfl rfl dX10_goes__32 (by decide) (fun c27 => ?_) (fun c27 => ?_)
    · skip
      exact z_vret hx hb hr hlk (by decide) (by decide) hw (⟨hsub, hfr, n2_3, DM14, DN15, XX16, nro_4, G17, G18, G19, G20, G21, G22, G23, hf_mm, hf_ro, hf_ct, hf_se, hf_th, hf_cn, hf_db, hf_be, hf_du, hq_ro, hq_ct, hq_be, hq_du, by omega, hso.2, by omega, by omega, ⟨K12.toInt, by omega, by omega, hi2, hi1⟩⟩) dX10_goes__235
    · skip
      refine lv_aload_n hx hb dX10_goes__35 rfl (lv_at hl 1 rfl) ?_
      refine lv_aload_n hx hb dX10_goes__36 rfl (lv_at hl 1 rfl) ?_
      refine z_get (C := RX10) (T := TX10) (N := 54) (ci := 10) (v := .ref ro) hx hb hT zin_X10 hown hK hw hm_mm hf_mm rfl 29 (by decide) (hT _ kw_1197) rfl dX10_goes__37 ?_
      refine lv_iload_n hx hb dX10_goes__40 rfl (lv_at hl 0 rfl) ?_
      refine z_iald hx hb hK hw 1 hm_ro hf_ro rfl (z_ix rfl (by omega)) dX10_goes__41 ?_
      refine lv_topi (fun w28 e_w28 => ?_)
      have hv_w28 : 0 ≤ w28.toInt ∧ w28.toInt ≤ 12 := by rw [e_w28]; exact hq_ro _
      refine z_calliV (cells := 0) (slots := 0) (b := mm) (As := [.int w28]) (rest := []) (ci := 10) (q0 := (RX10, TX10, 54)) ⟨hx, hb, hml, hown, hT⟩ (c_X10_timeOf l hm_mm hm_dr hf_mm hf_dr hq_dr (by first | omega | decide | assumption)) (cwV 1 hT (z_goodV (fun _ h => h) kw_1495 kw_1497 kw_52 kw_96 kw_1498) rfl rfl rfl (by decide +kernel) ⟨by decide, by decide⟩) z_mv hKK hK hw hA hm_mm hf_mm rfl rfl rfl hl.1 rfl (Nat.le_of_ble_eq_true rfl) dX10_goes__42 ⟨by decide, by decide⟩ (fun r29 u H locs hp hw => ?_)
      obtain ⟨rfl, hp⟩ := hp
      have hw : z_H D vwCl (z_A L sz) s.heap L f13 H locs := hw
      have ht_r29 := hp
      refine lv_istore_n (lv' := [(2, .int r29), (1, .int K12), (0, .ref mm)]) hx hb dX10_goes__45 rfl hl (by decide) rfl (fun ls hl => ?_)
      refine lv_aload_n hx hb dX10_goes__46 rfl (lv_at hl 2 rfl) ?_
      refine lv_aload_n hx hb dX10_goes__47 rfl (lv_at hl 2 rfl) ?_
      refine z_get (C := RX10) (T := TX10) (N := 54) (ci := 10) (v := .ref ro) hx hb hT zin_X10 hown hK hw hm_mm hf_mm rfl 29 (by decide) (hT _ kw_1197) rfl dX10_goes__48 ?_
      refine lv_iload_n hx hb dX10_goes__51 rfl (lv_at hl 1 rfl) ?_
      refine z_iald hx hb hK hw 1 hm_ro hf_ro rfl (z_ix rfl (by omega)) dX10_goes__52 ?_
      refine lv_topi (fun w30 e_w30 => ?_)
      have hv_w30 : 0 ≤ w30.toInt ∧ w30.toInt ≤ 12 := by rw [e_w30]; exact hq_ro _
      refine lv_iconst (v := 1) hx hb dX10_goes__53 (by decide) ?_
      have hz31 := (show (1 : Int32).toInt = 1 by decide)
      refine z_calliV (cells := 0) (slots := 0) (b := mm) (As := [.int w30, .int 1]) (rest := []) (ci := 10) (q0 := (RX10, TX10, 54)) ⟨hx, hb, hml, hown, hT⟩ (c_X10_of l hm_mm hm_dr hf_mm hf_dr hq_dr (by first | omega | decide | assumption) (by decide)) (cwV 2 hT (z_goodV (fun _ h => h) kw_1487 kw_1489 kw_51 kw_96 kw_1490) rfl rfl rfl (by decide +kernel) ⟨by decide, by decide⟩) z_mv hKK hK hw hA hm_mm hf_mm rfl rfl rfl hl.1 rfl (Nat.le_of_ble_eq_true rfl) dX10_goes__54 ⟨by decide, by decide⟩ (fun r32 u H locs hp hw => ?_)
      obtain ⟨rfl, hp⟩ := hp
      have hw : z_H D vwCl (z_A L sz) s.heap L f13 H locs := hw
      have hof_r32 : r32 = gdr (8 * w30.toNatClampNeg + 1) := hp
      have hh_r32 : 0 ≤ r32.toInt ∧ r32.toInt ≤ 3 := by rw [hof_r32]; exact (hq_dr _).2.1 (by omega)
      refine lv_istore_n (lv' := [(3, .int r32), (2, .int r29), (1, .int K12), (0, .ref mm)]) hx hb dX10_goes__57 rfl hl (by decide) rfl (fun ls hl => ?_)
      refine lv_iconst (v := 0) hx hb dX10_goes__58 (by decide) ?_
      refine lv_istore (lv' := [(4, .int 0), (3, .int r32), (2, .int r29), (1, .int K12), (0, .ref mm)]) hx hb dX10_goes__59 hl (by decide) rfl (fun ls hl => ?_)
      have hT0 : r29.toInt = z_tm gdr (nro_4 K12.toNatClampNeg).toNatClampNeg := by rw [ht_r29.1, e_w28]
      have hT25 : r26.toInt = z_tm gdr (nro_4 K12.toNatClampNeg).toNatClampNeg := by rw [ht_r26.1, e_w25]
      have hG0 : r32 = gdr (8 * (nro_4 K12.toNatClampNeg).toNatClampNeg + 1) := by rw [hof_r32, e_w30]
      have htl : 0 ≤ r29.toInt ∧ r29.toInt ≤ 215 := by have h_ := hso.2 K12.toNatClampNeg (by rw [z_clN (by omega)]; omega); have h9 := (hq_ha 1).2.1 rfl; unfold z_tr at h_; omega
      refine z_loop (fun n H locs ls => ∃ (K33 : Int32) (G35 : Nat → Int32) (V36 : Int32) (f34 : Nat → va_E), (n = (n2_3.toInt - K33.toInt).toNat) ∧ (0 ≤ K33.toInt) ∧ (K33.toInt ≤ n2_3.toInt) ∧ (K12.toInt ≤ K33.toInt) ∧ (0 ≤ V36.toInt ∧ V36.toInt ≤ 198 * (K33.toInt - K12.toInt)) ∧ (∀ j : Nat, K12.toInt ≤ j → (j : Int) < K33.toInt → z_tm gdr (nro_4 j).toNatClampNeg ≤ m28.toInt) ∧ (z_H D vwCl (z_A L sz) s.heap L f34 H locs) ∧ (f34 mm = .inr (10, [.int m0, .ref wd, .ref my, .ref ce, .ref mv, .ref ta, .int m6, .int m7, .int m8, .int m9, .int m10, .long m11, .int m12, .int m13, .int m14, .int m15, .ref li, .ref ha, .ref lw, .ref st, .ref fo, .ref dr, .int m22, .ref ik, .int m24, .int m25, .long XX16, .int m27, .int m28, .ref ro, .int n2_3, .ref ct, .ref se, .ref th, .ref cn, .ref be, .int DN15, .ref du, .int DM14, .ref db, .int m40, .int m41, .int m42, .ref pn, .ref wg, .ref wh, .ref tn, .ref he, .int m48, .ref tr, .ref fd, .ref po, .int m52, .int m53])) ∧ (f34 ha = .inl (cy 1, 30, .inl gha)) ∧ (f34 dr = .inl (cy 1, 520, .inl gdr)) ∧ (f34 ro = .inl (cy 1, 13, .inl nro_4)) ∧ (f34 lw = .inl (cy 1, 25, .inl glw)) ∧ (f34 st = .inl (cy 1, 20, .inl gst)) ∧ (f34 ct = .inl (cy 1, 4, .inl G17)) ∧ (f34 se = .inl (cy 1, 36, .inl G18)) ∧ (f34 th = .inl (cy 1, 36, .inl G19)) ∧ (f34 cn = .inl (cy 1, 36, .inl G20)) ∧ (f34 db = .inl (cy 1, 5, .inl G21)) ∧ (f34 be = .inl (cy 1, 2574, .inl G35)) ∧ (f34 du = .inl (cy 1, 5200, .inl G23)) ∧ (f34 fo = .inl (cy 1, 180, .inl gfo)) ∧ (∀ b ∈ L, b ≠ mm → b ≠ ro → b ≠ ct → b ≠ se → b ≠ th → b ≠ cn → b ≠ db → b ≠ be → b ≠ du → f34 b = f b) ∧ (∀ j : Nat, q_be j (G35 j)) ∧ (lv_has ls 7 [(4, .int V36), (3, .int r32), (2, .int r29), (1, .int K33), (0, .ref mm)])) _ ⟨K12, G22, 0, f13, rfl, (by first | decide | omega), (by first | decide | omega), (by omega), (by omega), (fun j h1 h2 => absurd h2 (by omega)), hw, hf_mm, hf_ha, hf_dr, hf_ro, hf_lw, hf_st, hf_ct, hf_se, hf_th, hf_cn, hf_db, hf_be, hf_du, hf_fo, hfr, hq_be, (lv_sub hl [0, 1, 2, 3, 4] rfl)⟩ (fun n H locs ls hI ih_61 => ?_)
      obtain ⟨K33, G35, V36, f34, hn, hk0, hk1, hi0, hi1, hi2, hw, hf_mm, hf_ha, hf_dr, hf_ro, hf_lw, hf_st, hf_ct, hf_se, hf_th, hf_cn, hf_db, hf_be, hf_du, hf_fo, hfr, hq_be, hl⟩ := hI
      refine lv_iload_n hx hb dX10_goes__61 rfl (lv_at hl 3 rfl) ?_
      have hupI := hi2
      refine lv_aload_n hx hb dX10_goes__62 rfl (lv_at hl 4 rfl) ?_
      refine z_get (C := RX10) (T := TX10) (N := 54) (ci := 10) (v := .int n2_3) hx hb hT zin_X10 hown hK hw hm_mm hf_mm rfl 30 (by decide) (hT _ kw_1198) rfl dX10_goes__63 ?_
      refine z_icmp_ge (tgt := 168) hx hb rfl rfl dX10_goes__66 (by decide) (fun c37 => ?_) (fun c37 => ?_)
      · skip
        have hpr : K12.toInt < K33.toInt := by omega
        have hup : ∀ j : Nat, (j : Int) < K33.toInt → z_tm gdr (nro_4 j).toNatClampNeg ≤ m28.toInt := fun j hj => if h : K12.toInt ≤ j then hupI j h hj else hupO j (by omega)
        refine lv_aload_n hx hb dX10_goes__168 rfl (lv_at hl 4 rfl) ?_
        refine z_get (C := RX10) (T := TX10) (N := 54) (ci := 10) (v := .int m27) hx hb hT zin_X10 hown hK hw hm_mm hf_mm rfl 27 (by decide) (hT _ kw_1195) rfl dX10_goes__169 ?_
        refine z_if_eq (tgt := 181) hx hb rfl dX10_goes__172 (by decide) (fun c38 => ?_) (fun c38 => ?_)
        · skip
          refine lv_aload_n hx hb dX10_goes__181 rfl (lv_at hl 4 rfl) ?_
          refine lv_iload_n hx hb dX10_goes__182 rfl (lv_at hl 2 rfl) ?_
          refine lv_bipush (v := 24) hx hb dX10_goes__183 (by decide) ?_
          refine lv_idiv hx hb dX10_goes__185 (by decide) ?_
          refine lv_topi (fun w39 e_w39 => ?_)
          have i_w39 : w39.toInt = r29.toInt / 24 := z_div e_w39 rfl (show (24 : Int32).toInt = 24 by decide) (by omega)
          refine z_callvV (cells := 0) (slots := 0) (b := mm) (As := [.int w39]) (rest := []) (ci := 10) (q0 := (RX10, TX10, 54)) ⟨hx, hb, hml, hown, hT⟩ (c_X10_dawns l hm_mm hm_lw hm_ct hf_mm hf_lw hf_ct hq_lw hq_ct) (cwV 1 hT (z_goodV (fun _ h => h) kw_1571 kw_1573 kw_65 kw_96 kw_1574) rfl rfl rfl (by decide +kernel) ⟨by decide, by decide⟩) z_mv hKK hK hw hA hm_mm hf_mm rfl rfl rfl hl.1 rfl (Nat.le_of_ble_eq_true rfl) dX10_goes__186 ⟨by decide, by decide⟩ (fun u H locs hp hw => ?_)
          obtain ⟨L40, f41⟩ := u
          obtain ⟨hsb, hfm, nct_42, ha_0, ha_1, hq_ct, hp⟩ := hp
          have hsb : L = L40 := hsb
          subst hsb
          have hsb : ∀ b ∈ L, b ∈ L := fun _ h => h
          have hw : z_H D vwCl (z_A L sz) s.heap L f41 H locs := hw
          have hfr : ∀ b ∈ L, b ≠ mm → b ≠ ro → b ≠ ct → b ≠ se → b ≠ th → b ≠ cn → b ≠ db → b ≠ be → b ≠ du → f41 b = f b := fun b hb h0 h1 h2 h3 h4 h5 h6 h7 h8 => (hfm b hb h0 h2).trans (hfr b hb h0 h1 h2 h3 h4 h5 h6 h7 h8)
          have hf_ha : f41 ha = .inl (cy 1, 30, .inl gha) := (hfm ha hm_ha (z_tne hf_ha hf_mm (m := 340) (n := 10) rfl rfl (by decide)) (z_tne hf_ha hf_ct (m := 340) (n := 132) rfl rfl (by decide))).trans hf_ha
          have hf_dr : f41 dr = .inl (cy 1, 520, .inl gdr) := (hfm dr hm_dr (z_tne hf_dr hf_mm (m := 4260) (n := 10) rfl rfl (by decide)) (z_tne hf_dr hf_ct (m := 4260) (n := 132) rfl rfl (by decide))).trans hf_dr
          have hf_ro : f41 ro = .inl (cy 1, 13, .inl nro_4) := (hfm ro hm_ro (z_tne hf_ro hf_mm (m := 204) (n := 10) rfl rfl (by decide)) (z_tne hf_ro hf_ct (m := 204) (n := 132) rfl rfl (by decide))).trans hf_ro
          have hf_lw : f41 lw = .inl (cy 1, 25, .inl glw) := (hfm lw hm_lw (z_tne hf_lw hf_mm (m := 300) (n := 10) rfl rfl (by decide)) (z_tne hf_lw hf_ct (m := 300) (n := 132) rfl rfl (by decide))).trans hf_lw
          have hf_st : f41 st = .inl (cy 1, 20, .inl gst) := (hfm st hm_st (z_tne hf_st hf_mm (m := 260) (n := 10) rfl rfl (by decide)) (z_tne hf_st hf_ct (m := 260) (n := 132) rfl rfl (by decide))).trans hf_st
          have hf_se : f41 se = .inl (cy 1, 36, .inl G18) := (hfm se hm_se (z_tne hf_se hf_mm (m := 388) (n := 10) rfl rfl (by decide)) (z_tne hf_se hf_ct (m := 388) (n := 132) rfl rfl (by decide))).trans hf_se
          have hf_th : f41 th = .inl (cy 1, 36, .inl G19) := (hfm th hm_th (z_tne hf_th hf_mm (m := 388) (n := 10) rfl rfl (by decide)) (z_tne hf_th hf_ct (m := 388) (n := 132) rfl rfl (by decide))).trans hf_th
          have hf_cn : f41 cn = .inl (cy 1, 36, .inl G20) := (hfm cn hm_cn (z_tne hf_cn hf_mm (m := 388) (n := 10) rfl rfl (by decide)) (z_tne hf_cn hf_ct (m := 388) (n := 132) rfl rfl (by decide))).trans hf_cn
          have hf_db : f41 db = .inl (cy 1, 5, .inl G21) := (hfm db hm_db (z_tne hf_db hf_mm (m := 140) (n := 10) rfl rfl (by decide)) (z_tne hf_db hf_ct (m := 140) (n := 132) rfl rfl (by decide))).trans hf_db
          have hf_be : f41 be = .inl (cy 1, 2574, .inl G35) := (hfm be hm_be (z_tne hf_be hf_mm (m := 20692) (n := 10) rfl rfl (by decide)) (z_tne hf_be hf_ct (m := 20692) (n := 132) rfl rfl (by decide))).trans hf_be
          have hf_du : f41 du = .inl (cy 1, 5200, .inl G23) := (hfm du hm_du (z_tne hf_du hf_mm (m := 41700) (n := 10) rfl rfl (by decide)) (z_tne hf_du hf_ct (m := 41700) (n := 132) rfl rfl (by decide))).trans hf_du
          have hf_fo : f41 fo = .inl (cy 1, 180, .inl gfo) := (hfm fo hm_fo (z_tne hf_fo hf_mm (m := 1540) (n := 10) rfl rfl (by decide)) (z_tne hf_fo hf_ct (m := 1540) (n := 132) rfl rfl (by decide))).trans hf_fo
          have hf_mm : f41 mm = .inr (10, [.int m0, .ref wd, .ref my, .ref ce, .ref mv, .ref ta, .int m6, .int m7, .int m8, .int m9, .int m10, .long m11, .int m12, .int m13, .int m14, .int m15, .ref li, .ref ha, .ref lw, .ref st, .ref fo, .ref dr, .int m22, .ref ik, .int m24, .int m25, .long XX16, .int m27, .int m28, .ref ro, .int n2_3, .ref ct, .ref se, .ref th, .ref cn, .ref be, .int w39, .ref du, .int DM14, .ref db, .int m40, .int m41, .int m42, .ref pn, .ref wg, .ref wh, .ref tn, .ref he, .int m48, .ref tr, .ref fd, .ref po, .int m52, .int m53]) := ha_0
          have hf_ct : f41 ct = .inl (cy 1, 4, .inl nct_42) := ha_1
          have hdw := hp
          refine lv_iconst (v := 0) hx hb dX10_goes__189 (by decide) ?_
          refine lv_istore (lv' := [(5, .int 0), (4, .int V36), (3, .int r32), (2, .int r29), (1, .int K33), (0, .ref mm)]) hx hb dX10_goes__190 hl (by decide) rfl (fun ls hl => ?_)
          have hzk : (0 : Int32).toInt = 0 := by decide
          refine z_loop (fun n H locs ls => ∃ (K43 : Int32) (G46 : Nat → Int32) (G47 : Nat → Int32) (G48 : Nat → Int32) (G49 : Nat → Int32) (G50 : Nat → Int32) (G51 : Nat → Int32) (DM45 : Int32) (f44 : Nat → va_E), (n = (V36.toInt - K43.toInt).toNat) ∧ (0 ≤ K43.toInt) ∧ (K43.toInt ≤ V36.toInt) ∧ (0 ≤ DM45.toInt) ∧ (2 * DM45.toInt + z_ph G46 ≤ 4 + 198 * K12.toInt + K43.toInt) ∧ (z_H D vwCl (z_A L sz) s.heap L f44 H locs) ∧ (f44 mm = .inr (10, [.int m0, .ref wd, .ref my, .ref ce, .ref mv, .ref ta, .int m6, .int m7, .int m8, .int m9, .int m10, .long m11, .int m12, .int m13, .int m14, .int m15, .ref li, .ref ha, .ref lw, .ref st, .ref fo, .ref dr, .int m22, .ref ik, .int m24, .int m25, .long XX16, .int m27, .int m28, .ref ro, .int n2_3, .ref ct, .ref se, .ref th, .ref cn, .ref be, .int w39, .ref du, .int DM45, .ref db, .int m40, .int m41, .int m42, .ref pn, .ref wg, .ref wh, .ref tn, .ref he, .int m48, .ref tr, .ref fd, .ref po, .int m52, .int m53])) ∧ (f44 ha = .inl (cy 1, 30, .inl gha)) ∧ (f44 dr = .inl (cy 1, 520, .inl gdr)) ∧ (f44 ro = .inl (cy 1, 13, .inl nro_4)) ∧ (f44 lw = .inl (cy 1, 25, .inl glw)) ∧ (f44 st = .inl (cy 1, 20, .inl gst)) ∧ (f44 ct = .inl (cy 1, 4, .inl G46)) ∧ (f44 se = .inl (cy 1, 36, .inl G47)) ∧ (f44 th = .inl (cy 1, 36, .inl G48)) ∧ (f44 cn = .inl (cy 1, 36, .inl G49)) ∧ (f44 db = .inl (cy 1, 5, .inl G50)) ∧ (f44 be = .inl (cy 1, 2574, .inl G35)) ∧ (f44 du = .inl (cy 1, 5200, .inl G51)) ∧ (f44 fo = .inl (cy 1, 180, .inl gfo)) ∧ (∀ b ∈ L, b ≠ mm → b ≠ ro → b ≠ ct → b ≠ se → b ≠ th → b ≠ cn → b ≠ db → b ≠ be → b ≠ du → f44 b = f b) ∧ (∀ j : Nat, q_law j (G46 j)) ∧ (∀ j : Nat, q_du j (G51 j)) ∧ (lv_has ls 7 [(5, .int K43), (4, .int V36), (3, .int r32), (2, .int r29), (1, .int K33), (0, .ref mm)])) _ ⟨0, nct_42, G18, G19, G20, G21, G23, DM14, f41, rfl, (by first | decide | omega), (by first | decide | omega), (by omega), (by omega), hw, hf_mm, hf_ha, hf_dr, hf_ro, hf_lw, hf_st, hf_ct, hf_se, hf_th, hf_cn, hf_db, hf_be, hf_du, hf_fo, hfr, hq_ct, hq_du, (lv_sub hl [0, 1, 2, 3, 4, 5] rfl)⟩ (fun n H locs ls hI ih_192 => ?_)
          obtain ⟨K43, G46, G47, G48, G49, G50, G51, DM45, f44, hn, hk0, hk1, hi0, hi1, hw, hf_mm, hf_ha, hf_dr, hf_ro, hf_lw, hf_st, hf_ct, hf_se, hf_th, hf_cn, hf_db, hf_be, hf_du, hf_fo, hfr, hq_ct, hq_du, hl⟩ := hI
          refine lv_iload hx hb dX10_goes__192 (lv_at hl 0 rfl) ?_
          refine lv_iload hx hb dX10_goes__194 (lv_at hl 1 rfl) ?_
          refine z_icmp_ge (tgt := 232) hx hb rfl rfl dX10_goes__196 (by decide) (fun c52 => ?_) (fun c52 => ?_)
          · skip
            refine lv_goto (tgt := 10) hx hb dX10_goes__232 (by decide) ?_
            exact ih_10 _ (by omega) _ _ _ ⟨K33, G46, G47, G48, G49, G50, G35, G51, DM45, w39, XX16, f44, rfl, (by first | decide | omega), (by first | decide | omega), (by omega), (by omega), hup, (by omega), hw, hf_mm, hf_ha, hf_dr, hf_ro, hf_lw, hf_st, hf_ct, hf_se, hf_th, hf_cn, hf_db, hf_be, hf_du, hf_fo, hfr, hq_ct, hq_be, hq_du, (lv_sub hl [4, 5] rfl)⟩
          · skip
            refine lv_aload_n hx hb dX10_goes__199 rfl (lv_at hl 5 rfl) ?_
            refine lv_aload_n hx hb dX10_goes__200 rfl (lv_at hl 5 rfl) ?_
            refine z_get (C := RX10) (T := TX10) (N := 54) (ci := 10) (v := .ref be) hx hb hT zin_X10 hown hK hw hm_mm hf_mm rfl 35 (by decide) (hT _ kw_1203) rfl dX10_goes__201 ?_
            refine lv_iload hx hb dX10_goes__204 (lv_at hl 0 rfl) ?_
            refine z_iald hx hb hK hw 1 hm_be hf_be rfl (z_ix rfl (by omega)) dX10_goes__206 ?_
            refine lv_topi (fun w53 e_w53 => ?_)
            have hv_w53 : 0 ≤ w53.toInt ∧ w53.toInt ≤ 2599 := by rw [e_w53]; exact hq_be _
            refine lv_sipush (v := 200) hx hb dX10_goes__207 (by decide) ?_
            refine lv_idiv hx hb dX10_goes__210 (by decide) ?_
            refine lv_topi (fun w54 e_w54 => ?_)
            have i_w54 : w54.toInt = w53.toInt / 200 := z_div e_w54 rfl (show (200 : Int32).toInt = 200 by decide) (by omega)
            refine lv_aload_n hx hb dX10_goes__211 rfl (lv_at hl 5 rfl) ?_
            refine z_get (C := RX10) (T := TX10) (N := 54) (ci := 10) (v := .ref be) hx hb hT zin_X10 hown hK hw hm_mm hf_mm rfl 35 (by decide) (hT _ kw_1203) rfl dX10_goes__212 ?_
            refine lv_iload hx hb dX10_goes__215 (lv_at hl 0 rfl) ?_
            refine z_iald hx hb hK hw 1 hm_be hf_be rfl (z_ix rfl (by omega)) dX10_goes__217 ?_
            refine lv_topi (fun w55 e_w55 => ?_)
            have hv_w55 : 0 ≤ w55.toInt ∧ w55.toInt ≤ 2599 := by rw [e_w55]; exact hq_be _
            refine lv_sipush (v := 200) hx hb dX10_goes__218 (by decide) ?_
            refine lv_irem hx hb dX10_goes__221 (by decide) ?_
            refine lv_topi (fun w56 e_w56 => ?_)
            have i_w56 : w56.toInt = (w55.toInt % 200) := z_remI e_w56 rfl (show (200 : Int32).toInt = 200 by decide) (by omega)
            refine lv_iload_n hx hb dX10_goes__222 rfl (lv_at hl 3 rfl) ?_
            refine z_callvV (cells := 0) (slots := 0) (b := mm) (As := [.int w54, .int w56, .int r29]) (rest := []) (ci := 10) (q0 := (RX10, TX10, 54)) ⟨hx, hb, hml, hown, hT⟩ (c_X10_passes l hm_mm hm_dr hm_lw hm_ha hm_th hm_se hm_fo hm_cn hm_ct hm_du hm_db hf_mm hf_dr hf_lw hf_ha hf_th hf_se hf_fo hf_cn hf_ct hf_du hf_db (Ne.symm ne_se_th) ne_th_cn ne_se_cn hq_dr hq_lw hq_ha hq_ct hq_du (by first | omega | decide | assumption) (by omega) (by omega) ⟨hi1, by omega, hi0⟩) (cwV 3 hT (z_goodV (fun _ h => h) kw_1575 kw_1577 kw_66 kw_96 kw_1578) rfl rfl rfl (by decide +kernel) ⟨by decide, by decide⟩) z_mv hKK hK hw hA hm_mm hf_mm rfl rfl rfl hl.1 rfl (Nat.le_of_ble_eq_true rfl) dX10_goes__223 ⟨by decide, by decide⟩ (fun u H locs hp hw => ?_)
            obtain ⟨L57, f58⟩ := u
            obtain ⟨hsb, hfm, d2_59, nth_60, nse_61, ncn_62, nct_63, ndu_64, ndb_65, ha_0, ha_1, ha_2, ha_3, ha_4, ha_5, ha_6, hq_ct, hq_du, hp⟩ := hp
            have hsb : L = L57 := hsb
            subst hsb
            have hsb : ∀ b ∈ L, b ∈ L := fun _ h => h
            have hw : z_H D vwCl (z_A L sz) s.heap L f58 H locs := hw
            have hfr : ∀ b ∈ L, b ≠ mm → b ≠ ro → b ≠ ct → b ≠ se → b ≠ th → b ≠ cn → b ≠ db → b ≠ be → b ≠ du → f58 b = f b := fun b hb h0 h1 h2 h3 h4 h5 h6 h7 h8 => (hfm b hb h0 h4 h3 h5 h2 h8 h6).trans (hfr b hb h0 h1 h2 h3 h4 h5 h6 h7 h8)
            have hf_ha : f58 ha = .inl (cy 1, 30, .inl gha) := (hfm ha hm_ha (z_tne hf_ha hf_mm (m := 340) (n := 10) rfl rfl (by decide)) (z_tne hf_ha hf_th (m := 340) (n := 388) rfl rfl (by decide)) (z_tne hf_ha hf_se (m := 340) (n := 388) rfl rfl (by decide)) (z_tne hf_ha hf_cn (m := 340) (n := 388) rfl rfl (by decide)) (z_tne hf_ha hf_ct (m := 340) (n := 132) rfl rfl (by decide)) (z_tne hf_ha hf_du (m := 340) (n := 41700) rfl rfl (by decide)) (z_tne hf_ha hf_db (m := 340) (n := 140) rfl rfl (by decide))).trans hf_ha
            have hf_dr : f58 dr = .inl (cy 1, 520, .inl gdr) := (hfm dr hm_dr (z_tne hf_dr hf_mm (m := 4260) (n := 10) rfl rfl (by decide)) (z_tne hf_dr hf_th (m := 4260) (n := 388) rfl rfl (by decide)) (z_tne hf_dr hf_se (m := 4260) (n := 388) rfl rfl (by decide)) (z_tne hf_dr hf_cn (m := 4260) (n := 388) rfl rfl (by decide)) (z_tne hf_dr hf_ct (m := 4260) (n := 132) rfl rfl (by decide)) (z_tne hf_dr hf_du (m := 4260) (n := 41700) rfl rfl (by decide)) (z_tne hf_dr hf_db (m := 4260) (n := 140) rfl rfl (by decide))).trans hf_dr
            have hf_ro : f58 ro = .inl (cy 1, 13, .inl nro_4) := (hfm ro hm_ro (z_tne hf_ro hf_mm (m := 204) (n := 10) rfl rfl (by decide)) (z_tne hf_ro hf_th (m := 204) (n := 388) rfl rfl (by decide)) (z_tne hf_ro hf_se (m := 204) (n := 388) rfl rfl (by decide)) (z_tne hf_ro hf_cn (m := 204) (n := 388) rfl rfl (by decide)) (z_tne hf_ro hf_ct (m := 204) (n := 132) rfl rfl (by decide)) (z_tne hf_ro hf_du (m := 204) (n := 41700) rfl rfl (by decide)) (z_tne hf_ro hf_db (m := 204) (n := 140) rfl rfl (by decide))).trans hf_ro
            have hf_lw : f58 lw = .inl (cy 1, 25, .inl glw) := (hfm lw hm_lw (z_tne hf_lw hf_mm (m := 300) (n := 10) rfl rfl (by decide)) (z_tne hf_lw hf_th (m := 300) (n := 388) rfl rfl (by decide)) (z_tne hf_lw hf_se (m := 300) (n := 388) rfl rfl (by decide)) (z_tne hf_lw hf_cn (m := 300) (n := 388) rfl rfl (by decide)) (z_tne hf_lw hf_ct (m := 300) (n := 132) rfl rfl (by decide)) (z_tne hf_lw hf_du (m := 300) (n := 41700) rfl rfl (by decide)) (z_tne hf_lw hf_db (m := 300) (n := 140) rfl rfl (by decide))).trans hf_lw
            have hf_st : f58 st = .inl (cy 1, 20, .inl gst) := (hfm st hm_st (z_tne hf_st hf_mm (m := 260) (n := 10) rfl rfl (by decide)) (z_tne hf_st hf_th (m := 260) (n := 388) rfl rfl (by decide)) (z_tne hf_st hf_se (m := 260) (n := 388) rfl rfl (by decide)) (z_tne hf_st hf_cn (m := 260) (n := 388) rfl rfl (by decide)) (z_tne hf_st hf_ct (m := 260) (n := 132) rfl rfl (by decide)) (z_tne hf_st hf_du (m := 260) (n := 41700) rfl rfl (by decide)) (z_tne hf_st hf_db (m := 260) (n := 140) rfl rfl (by decide))).trans hf_st
            have hf_be : f58 be = .inl (cy 1, 2574, .inl G35) := (hfm be hm_be (z_tne hf_be hf_mm (m := 20692) (n := 10) rfl rfl (by decide)) (z_tne hf_be hf_th (m := 20692) (n := 388) rfl rfl (by decide)) (z_tne hf_be hf_se (m := 20692) (n := 388) rfl rfl (by decide)) (z_tne hf_be hf_cn (m := 20692) (n := 388) rfl rfl (by decide)) (z_tne hf_be hf_ct (m := 20692) (n := 132) rfl rfl (by decide)) (z_tne hf_be hf_du (m := 20692) (n := 41700) rfl rfl (by decide)) (z_tne hf_be hf_db (m := 20692) (n := 140) rfl rfl (by decide))).trans hf_be
            have hf_fo : f58 fo = .inl (cy 1, 180, .inl gfo) := (hfm fo hm_fo (z_tne hf_fo hf_mm (m := 1540) (n := 10) rfl rfl (by decide)) (z_tne hf_fo hf_th (m := 1540) (n := 388) rfl rfl (by decide)) (z_tne hf_fo hf_se (m := 1540) (n := 388) rfl rfl (by decide)) (z_tne hf_fo hf_cn (m := 1540) (n := 388) rfl rfl (by decide)) (z_tne hf_fo hf_ct (m := 1540) (n := 132) rfl rfl (by decide)) (z_tne hf_fo hf_du (m := 1540) (n := 41700) rfl rfl (by decide)) (z_tne hf_fo hf_db (m := 1540) (n := 140) rfl rfl (by decide))).trans hf_fo
            have hf_mm : f58 mm = .inr (10, [.int m0, .ref wd, .ref my, .ref ce, .ref mv, .ref ta, .int m6, .int m7, .int m8, .int m9, .int m10, .long m11, .int m12, .int m13, .int m14, .int m15, .ref li, .ref ha, .ref lw, .ref st, .ref fo, .ref dr, .int m22, .ref ik, .int m24, .int m25, .long XX16, .int m27, .int m28, .ref ro, .int n2_3, .ref ct, .ref se, .ref th, .ref cn, .ref be, .int w39, .ref du, .int d2_59, .ref db, .int m40, .int m41, .int m42, .ref pn, .ref wg, .ref wh, .ref tn, .ref he, .int m48, .ref tr, .ref fd, .ref po, .int m52, .int m53]) := ha_0
            have hf_th : f58 th = .inl (cy 1, 36, .inl nth_60) := ha_1
            have hf_se : f58 se = .inl (cy 1, 36, .inl nse_61) := ha_2
            have hf_cn : f58 cn = .inl (cy 1, 36, .inl ncn_62) := ha_3
            have hf_ct : f58 ct = .inl (cy 1, 4, .inl nct_63) := ha_4
            have hf_du : f58 du = .inl (cy 1, 5200, .inl ndu_64) := ha_5
            have hf_db : f58 db = .inl (cy 1, 5, .inl ndb_65) := ha_6
            have hq66 := hp
            obtain ⟨k67, e_k67⟩ : ∃ z : Int32, z = K43 + 1 := ⟨_, rfl⟩
            refine lv_iinc (v := k67) (lv' := [(5, .int k67), (4, .int V36), (3, .int r32), (2, .int r29), (1, .int K33), (0, .ref mm)]) hx hb dX10_goes__226 hl (k := 0) rfl (by rw [e_k67]; rfl) (by decide) rfl (fun ls hl => ?_)
            have i_k67 : k67.toInt = (K43.toInt + 1) := z_add e_k67 rfl (by decide) (by omega)
            refine lv_goto (tgt := 192) hx hb dX10_goes__229 (by decide) ?_
            exact ih_192 _ (by omega) _ _ _ ⟨k67, nct_63, nse_61, nth_60, ncn_62, ndb_65, ndu_64, d2_59, f58, rfl, (by first | decide | omega), (by first | decide | omega), (by omega), (by omega), hw, hf_mm, hf_ha, hf_dr, hf_ro, hf_lw, hf_st, hf_ct, hf_se, hf_th, hf_cn, hf_db, hf_be, hf_du, hf_fo, hfr, hq_ct, hq_du, (lv_sub hl [0, 1, 2, 3, 4, 5] rfl)⟩
        · skip
          refine lv_aload_n hx hb dX10_goes__175 rfl (lv_at hl 4 rfl) ?_
          refine lv_iload hx hb dX10_goes__176 (lv_at hl 0 rfl) ?_
          refine z_callvV (cells := 0) (slots := 0) (b := mm) (As := [.int V36]) (rest := []) (ci := 10) (q0 := (RX10, TX10, 54)) ⟨hx, hb, hml, hown, hT⟩ (c_X10_mixes l hm_mm hm_be hf_mm hf_be hq_be (by first | omega | decide | assumption) (by first | omega | decide | assumption)) (cwV 1 hT (z_goodV (fun _ h => h) kw_1559 kw_1561 kw_63 kw_96 kw_1562) rfl rfl rfl (by decide +kernel) ⟨by decide, by decide⟩) z_mv hKK hK hw hA hm_mm hf_mm rfl rfl rfl hl.1 rfl (Nat.le_of_ble_eq_true rfl) dX10_goes__178 ⟨by decide, by decide⟩ (fun u H locs hp hw => ?_)
          obtain ⟨L68, f69⟩ := u
          obtain ⟨hsb, hfm, x2_70, nbe_71, ha_0, ha_1, hq_be, hp⟩ := hp
          have hsb : L = L68 := hsb
          subst hsb
          have hsb : ∀ b ∈ L, b ∈ L := fun _ h => h
          have hw : z_H D vwCl (z_A L sz) s.heap L f69 H locs := hw
          have hfr : ∀ b ∈ L, b ≠ mm → b ≠ ro → b ≠ ct → b ≠ se → b ≠ th → b ≠ cn → b ≠ db → b ≠ be → b ≠ du → f69 b = f b := fun b hb h0 h1 h2 h3 h4 h5 h6 h7 h8 => (hfm b hb h0 h7).trans (hfr b hb h0 h1 h2 h3 h4 h5 h6 h7 h8)
          have hf_ha : f69 ha = .inl (cy 1, 30, .inl gha) := (hfm ha hm_ha (z_tne hf_ha hf_mm (m := 340) (n := 10) rfl rfl (by decide)) (z_tne hf_ha hf_be (m := 340) (n := 20692) rfl rfl (by decide))).trans hf_ha
          have hf_dr : f69 dr = .inl (cy 1, 520, .inl gdr) := (hfm dr hm_dr (z_tne hf_dr hf_mm (m := 4260) (n := 10) rfl rfl (by decide)) (z_tne hf_dr hf_be (m := 4260) (n := 20692) rfl rfl (by decide))).trans hf_dr
          have hf_ro : f69 ro = .inl (cy 1, 13, .inl nro_4) := (hfm ro hm_ro (z_tne hf_ro hf_mm (m := 204) (n := 10) rfl rfl (by decide)) (z_tne hf_ro hf_be (m := 204) (n := 20692) rfl rfl (by decide))).trans hf_ro
          have hf_lw : f69 lw = .inl (cy 1, 25, .inl glw) := (hfm lw hm_lw (z_tne hf_lw hf_mm (m := 300) (n := 10) rfl rfl (by decide)) (z_tne hf_lw hf_be (m := 300) (n := 20692) rfl rfl (by decide))).trans hf_lw
          have hf_st : f69 st = .inl (cy 1, 20, .inl gst) := (hfm st hm_st (z_tne hf_st hf_mm (m := 260) (n := 10) rfl rfl (by decide)) (z_tne hf_st hf_be (m := 260) (n := 20692) rfl rfl (by decide))).trans hf_st
          have hf_ct : f69 ct = .inl (cy 1, 4, .inl G17) := (hfm ct hm_ct (z_tne hf_ct hf_mm (m := 132) (n := 10) rfl rfl (by decide)) (z_tne hf_ct hf_be (m := 132) (n := 20692) rfl rfl (by decide))).trans hf_ct
          have hf_se : f69 se = .inl (cy 1, 36, .inl G18) := (hfm se hm_se (z_tne hf_se hf_mm (m := 388) (n := 10) rfl rfl (by decide)) (z_tne hf_se hf_be (m := 388) (n := 20692) rfl rfl (by decide))).trans hf_se
          have hf_th : f69 th = .inl (cy 1, 36, .inl G19) := (hfm th hm_th (z_tne hf_th hf_mm (m := 388) (n := 10) rfl rfl (by decide)) (z_tne hf_th hf_be (m := 388) (n := 20692) rfl rfl (by decide))).trans hf_th
          have hf_cn : f69 cn = .inl (cy 1, 36, .inl G20) := (hfm cn hm_cn (z_tne hf_cn hf_mm (m := 388) (n := 10) rfl rfl (by decide)) (z_tne hf_cn hf_be (m := 388) (n := 20692) rfl rfl (by decide))).trans hf_cn
          have hf_db : f69 db = .inl (cy 1, 5, .inl G21) := (hfm db hm_db (z_tne hf_db hf_mm (m := 140) (n := 10) rfl rfl (by decide)) (z_tne hf_db hf_be (m := 140) (n := 20692) rfl rfl (by decide))).trans hf_db
          have hf_du : f69 du = .inl (cy 1, 5200, .inl G23) := (hfm du hm_du (z_tne hf_du hf_mm (m := 41700) (n := 10) rfl rfl (by decide)) (z_tne hf_du hf_be (m := 41700) (n := 20692) rfl rfl (by decide))).trans hf_du
          have hf_fo : f69 fo = .inl (cy 1, 180, .inl gfo) := (hfm fo hm_fo (z_tne hf_fo hf_mm (m := 1540) (n := 10) rfl rfl (by decide)) (z_tne hf_fo hf_be (m := 1540) (n := 20692) rfl rfl (by decide))).trans hf_fo
          have hf_mm : f69 mm = .inr (10, [.int m0, .ref wd, .ref my, .ref ce, .ref mv, .ref ta, .int m6, .int m7, .int m8, .int m9, .int m10, .long m11, .int m12, .int m13, .int m14, .int m15, .ref li, .ref ha, .ref lw, .ref st, .ref fo, .ref dr, .int m22, .ref ik, .int m24, .int m25, .long x2_70, .int m27, .int m28, .ref ro, .int n2_3, .ref ct, .ref se, .ref th, .ref cn, .ref be, .int DN15, .ref du, .int DM14, .ref db, .int m40, .int m41, .int m42, .ref pn, .ref wg, .ref wh, .ref tn, .ref he, .int m48, .ref tr, .ref fd, .ref po, .int m52, .int m53]) := ha_0
          have hf_be : f69 be = .inl (cy 1, 2574, .inl nbe_71) := ha_1
          have hq72 := hp
          refine lv_aload_n hx hb dX10_goes__181 rfl (lv_at hl 4 rfl) ?_
          refine lv_iload_n hx hb dX10_goes__182 rfl (lv_at hl 2 rfl) ?_
          refine lv_bipush (v := 24) hx hb dX10_goes__183 (by decide) ?_
          refine lv_idiv hx hb dX10_goes__185 (by decide) ?_
          refine lv_topi (fun w73 e_w73 => ?_)
          have i_w73 : w73.toInt = r29.toInt / 24 := z_div e_w73 rfl (show (24 : Int32).toInt = 24 by decide) (by omega)
          refine z_callvV (cells := 0) (slots := 0) (b := mm) (As := [.int w73]) (rest := []) (ci := 10) (q0 := (RX10, TX10, 54)) ⟨hx, hb, hml, hown, hT⟩ (c_X10_dawns l hm_mm hm_lw hm_ct hf_mm hf_lw hf_ct hq_lw hq_ct) (cwV 1 hT (z_goodV (fun _ h => h) kw_1571 kw_1573 kw_65 kw_96 kw_1574) rfl rfl rfl (by decide +kernel) ⟨by decide, by decide⟩) z_mv hKK hK hw hA hm_mm hf_mm rfl rfl rfl hl.1 rfl (Nat.le_of_ble_eq_true rfl) dX10_goes__186 ⟨by decide, by decide⟩ (fun u H locs hp hw => ?_)
          obtain ⟨L74, f75⟩ := u
          obtain ⟨hsb, hfm, nct_76, ha_0, ha_1, hq_ct, hp⟩ := hp
          have hsb : L = L74 := hsb
          subst hsb
          have hsb : ∀ b ∈ L, b ∈ L := fun _ h => h
          have hw : z_H D vwCl (z_A L sz) s.heap L f75 H locs := hw
          have hfr : ∀ b ∈ L, b ≠ mm → b ≠ ro → b ≠ ct → b ≠ se → b ≠ th → b ≠ cn → b ≠ db → b ≠ be → b ≠ du → f75 b = f b := fun b hb h0 h1 h2 h3 h4 h5 h6 h7 h8 => (hfm b hb h0 h2).trans (hfr b hb h0 h1 h2 h3 h4 h5 h6 h7 h8)
          have hf_ha : f75 ha = .inl (cy 1, 30, .inl gha) := (hfm ha hm_ha (z_tne hf_ha hf_mm (m := 340) (n := 10) rfl rfl (by decide)) (z_tne hf_ha hf_ct (m := 340) (n := 132) rfl rfl (by decide))).trans hf_ha
          have hf_dr : f75 dr = .inl (cy 1, 520, .inl gdr) := (hfm dr hm_dr (z_tne hf_dr hf_mm (m := 4260) (n := 10) rfl rfl (by decide)) (z_tne hf_dr hf_ct (m := 4260) (n := 132) rfl rfl (by decide))).trans hf_dr
          have hf_ro : f75 ro = .inl (cy 1, 13, .inl nro_4) := (hfm ro hm_ro (z_tne hf_ro hf_mm (m := 204) (n := 10) rfl rfl (by decide)) (z_tne hf_ro hf_ct (m := 204) (n := 132) rfl rfl (by decide))).trans hf_ro
          have hf_lw : f75 lw = .inl (cy 1, 25, .inl glw) := (hfm lw hm_lw (z_tne hf_lw hf_mm (m := 300) (n := 10) rfl rfl (by decide)) (z_tne hf_lw hf_ct (m := 300) (n := 132) rfl rfl (by decide))).trans hf_lw
          have hf_st : f75 st = .inl (cy 1, 20, .inl gst) := (hfm st hm_st (z_tne hf_st hf_mm (m := 260) (n := 10) rfl rfl (by decide)) (z_tne hf_st hf_ct (m := 260) (n := 132) rfl rfl (by decide))).trans hf_st
          have hf_se : f75 se = .inl (cy 1, 36, .inl G18) := (hfm se hm_se (z_tne hf_se hf_mm (m := 388) (n := 10) rfl rfl (by decide)) (z_tne hf_se hf_ct (m := 388) (n := 132) rfl rfl (by decide))).trans hf_se
          have hf_th : f75 th = .inl (cy 1, 36, .inl G19) := (hfm th hm_th (z_tne hf_th hf_mm (m := 388) (n := 10) rfl rfl (by decide)) (z_tne hf_th hf_ct (m := 388) (n := 132) rfl rfl (by decide))).trans hf_th
          have hf_cn : f75 cn = .inl (cy 1, 36, .inl G20) := (hfm cn hm_cn (z_tne hf_cn hf_mm (m := 388) (n := 10) rfl rfl (by decide)) (z_tne hf_cn hf_ct (m := 388) (n := 132) rfl rfl (by decide))).trans hf_cn
          have hf_db : f75 db = .inl (cy 1, 5, .inl G21) := (hfm db hm_db (z_tne hf_db hf_mm (m := 140) (n := 10) rfl rfl (by decide)) (z_tne hf_db hf_ct (m := 140) (n := 132) rfl rfl (by decide))).trans hf_db
          have hf_be : f75 be = .inl (cy 1, 2574, .inl nbe_71) := (hfm be hm_be (z_tne hf_be hf_mm (m := 20692) (n := 10) rfl rfl (by decide)) (z_tne hf_be hf_ct (m := 20692) (n := 132) rfl rfl (by decide))).trans hf_be
          have hf_du : f75 du = .inl (cy 1, 5200, .inl G23) := (hfm du hm_du (z_tne hf_du hf_mm (m := 41700) (n := 10) rfl rfl (by decide)) (z_tne hf_du hf_ct (m := 41700) (n := 132) rfl rfl (by decide))).trans hf_du
          have hf_fo : f75 fo = .inl (cy 1, 180, .inl gfo) := (hfm fo hm_fo (z_tne hf_fo hf_mm (m := 1540) (n := 10) rfl rfl (by decide)) (z_tne hf_fo hf_ct (m := 1540) (n := 132) rfl rfl (by decide))).trans hf_fo
          have hf_mm : f75 mm = .inr (10, [.int m0, .ref wd, .ref my, .ref ce, .ref mv, .ref ta, .int m6, .int m7, .int m8, .int m9, .int m10, .long m11, .int m12, .int m13, .int m14, .int m15, .ref li, .ref ha, .ref lw, .ref st, .ref fo, .ref dr, .int m22, .ref ik, .int m24, .int m25, .long x2_70, .int m27, .int m28, .ref ro, .int n2_3, .ref ct, .ref se, .ref th, .ref cn, .ref be, .int w73, .ref du, .int DM14, .ref db, .int m40, .int m41, .int m42, .ref pn, .ref wg, .ref wh, .ref tn, .ref he, .int m48, .ref tr, .ref fd, .ref po, .int m52, .int m53]) := ha_0
          have hf_ct : f75 ct = .inl (cy 1, 4, .inl nct_76) := ha_1
          have hdw := hp
          refine lv_iconst (v := 0) hx hb dX10_goes__189 (by decide) ?_
          refine lv_istore (lv' := [(5, .int 0), (4, .int V36), (3, .int r32), (2, .int r29), (1, .int K33), (0, .ref mm)]) hx hb dX10_goes__190 hl (by decide) rfl (fun ls hl => ?_)
          have hzk : (0 : Int32).toInt = 0 := by decide
          refine z_loop (fun n H locs ls => ∃ (K77 : Int32) (G80 : Nat → Int32) (G81 : Nat → Int32) (G82 : Nat → Int32) (G83 : Nat → Int32) (G84 : Nat → Int32) (G85 : Nat → Int32) (DM79 : Int32) (f78 : Nat → va_E), (n = (V36.toInt - K77.toInt).toNat) ∧ (0 ≤ K77.toInt) ∧ (K77.toInt ≤ V36.toInt) ∧ (0 ≤ DM79.toInt) ∧ (2 * DM79.toInt + z_ph G80 ≤ 4 + 198 * K12.toInt + K77.toInt) ∧ (z_H D vwCl (z_A L sz) s.heap L f78 H locs) ∧ (f78 mm = .inr (10, [.int m0, .ref wd, .ref my, .ref ce, .ref mv, .ref ta, .int m6, .int m7, .int m8, .int m9, .int m10, .long m11, .int m12, .int m13, .int m14, .int m15, .ref li, .ref ha, .ref lw, .ref st, .ref fo, .ref dr, .int m22, .ref ik, .int m24, .int m25, .long x2_70, .int m27, .int m28, .ref ro, .int n2_3, .ref ct, .ref se, .ref th, .ref cn, .ref be, .int w73, .ref du, .int DM79, .ref db, .int m40, .int m41, .int m42, .ref pn, .ref wg, .ref wh, .ref tn, .ref he, .int m48, .ref tr, .ref fd, .ref po, .int m52, .int m53])) ∧ (f78 ha = .inl (cy 1, 30, .inl gha)) ∧ (f78 dr = .inl (cy 1, 520, .inl gdr)) ∧ (f78 ro = .inl (cy 1, 13, .inl nro_4)) ∧ (f78 lw = .inl (cy 1, 25, .inl glw)) ∧ (f78 st = .inl (cy 1, 20, .inl gst)) ∧ (f78 ct = .inl (cy 1, 4, .inl G80)) ∧ (f78 se = .inl (cy 1, 36, .inl G81)) ∧ (f78 th = .inl (cy 1, 36, .inl G82)) ∧ (f78 cn = .inl (cy 1, 36, .inl G83)) ∧ (f78 db = .inl (cy 1, 5, .inl G84)) ∧ (f78 be = .inl (cy 1, 2574, .inl nbe_71)) ∧ (f78 du = .inl (cy 1, 5200, .inl G85)) ∧ (f78 fo = .inl (cy 1, 180, .inl gfo)) ∧ (∀ b ∈ L, b ≠ mm → b ≠ ro → b ≠ ct → b ≠ se → b ≠ th → b ≠ cn → b ≠ db → b ≠ be → b ≠ du → f78 b = f b) ∧ (∀ j : Nat, q_law j (G80 j)) ∧ (∀ j : Nat, q_du j (G85 j)) ∧ (lv_has ls 7 [(5, .int K77), (4, .int V36), (3, .int r32), (2, .int r29), (1, .int K33), (0, .ref mm)])) _ ⟨0, nct_76, G18, G19, G20, G21, G23, DM14, f75, rfl, (by first | decide | omega), (by first | decide | omega), (by omega), (by omega), hw, hf_mm, hf_ha, hf_dr, hf_ro, hf_lw, hf_st, hf_ct, hf_se, hf_th, hf_cn, hf_db, hf_be, hf_du, hf_fo, hfr, hq_ct, hq_du, (lv_sub hl [0, 1, 2, 3, 4, 5] rfl)⟩ (fun n H locs ls hI ih_192 => ?_)
          obtain ⟨K77, G80, G81, G82, G83, G84, G85, DM79, f78, hn, hk0, hk1, hi0, hi1, hw, hf_mm, hf_ha, hf_dr, hf_ro, hf_lw, hf_st, hf_ct, hf_se, hf_th, hf_cn, hf_db, hf_be, hf_du, hf_fo, hfr, hq_ct, hq_du, hl⟩ := hI
          refine lv_iload hx hb dX10_goes__192 (lv_at hl 0 rfl) ?_
          refine lv_iload hx hb dX10_goes__194 (lv_at hl 1 rfl) ?_
          refine z_icmp_ge (tgt := 232) hx hb rfl rfl dX10_goes__196 (by decide) (fun c86 => ?_) (fun c86 => ?_)
          · skip
            refine lv_goto (tgt := 10) hx hb dX10_goes__232 (by decide) ?_
            exact ih_10 _ (by omega) _ _ _ ⟨K33, G80, G81, G82, G83, G84, nbe_71, G85, DM79, w73, x2_70, f78, rfl, (by first | decide | omega), (by first | decide | omega), (by omega), (by omega), hup, (by omega), hw, hf_mm, hf_ha, hf_dr, hf_ro, hf_lw, hf_st, hf_ct, hf_se, hf_th, hf_cn, hf_db, hf_be, hf_du, hf_fo, hfr, hq_ct, hq_be, hq_du, (lv_sub hl [4, 5] rfl)⟩
          · skip
            refine lv_aload_n hx hb dX10_goes__199 rfl (lv_at hl 5 rfl) ?_
            refine lv_aload_n hx hb dX10_goes__200 rfl (lv_at hl 5 rfl) ?_
            refine z_get (C := RX10) (T := TX10) (N := 54) (ci := 10) (v := .ref be) hx hb hT zin_X10 hown hK hw hm_mm hf_mm rfl 35 (by decide) (hT _ kw_1203) rfl dX10_goes__201 ?_
            refine lv_iload hx hb dX10_goes__204 (lv_at hl 0 rfl) ?_
            refine z_iald hx hb hK hw 1 hm_be hf_be rfl (z_ix rfl (by omega)) dX10_goes__206 ?_
            refine lv_topi (fun w87 e_w87 => ?_)
            have hv_w87 : 0 ≤ w87.toInt ∧ w87.toInt ≤ 2599 := by rw [e_w87]; exact hq_be _
            refine lv_sipush (v := 200) hx hb dX10_goes__207 (by decide) ?_
            refine lv_idiv hx hb dX10_goes__210 (by decide) ?_
            refine lv_topi (fun w88 e_w88 => ?_)
            have i_w88 : w88.toInt = w87.toInt / 200 := z_div e_w88 rfl (show (200 : Int32).toInt = 200 by decide) (by omega)
            refine lv_aload_n hx hb dX10_goes__211 rfl (lv_at hl 5 rfl) ?_
            refine z_get (C := RX10) (T := TX10) (N := 54) (ci := 10) (v := .ref be) hx hb hT zin_X10 hown hK hw hm_mm hf_mm rfl 35 (by decide) (hT _ kw_1203) rfl dX10_goes__212 ?_
            refine lv_iload hx hb dX10_goes__215 (lv_at hl 0 rfl) ?_
            refine z_iald hx hb hK hw 1 hm_be hf_be rfl (z_ix rfl (by omega)) dX10_goes__217 ?_
            refine lv_topi (fun w89 e_w89 => ?_)
            have hv_w89 : 0 ≤ w89.toInt ∧ w89.toInt ≤ 2599 := by rw [e_w89]; exact hq_be _
            refine lv_sipush (v := 200) hx hb dX10_goes__218 (by decide) ?_
            refine lv_irem hx hb dX10_goes__221 (by decide) ?_
            refine lv_topi (fun w90 e_w90 => ?_)
            have i_w90 : w90.toInt = (w89.toInt % 200) := z_remI e_w90 rfl (show (200 : Int32).toInt = 200 by decide) (by omega)
            refine lv_iload_n hx hb dX10_goes__222 rfl (lv_at hl 3 rfl) ?_
            refine z_callvV (cells := 0) (slots := 0) (b := mm) (As := [.int w88, .int w90, .int r29]) (rest := []) (ci := 10) (q0 := (RX10, TX10, 54)) ⟨hx, hb, hml, hown, hT⟩ (c_X10_passes l hm_mm hm_dr hm_lw hm_ha hm_th hm_se hm_fo hm_cn hm_ct hm_du hm_db hf_mm hf_dr hf_lw hf_ha hf_th hf_se hf_fo hf_cn hf_ct hf_du hf_db (Ne.symm ne_se_th) ne_th_cn ne_se_cn hq_dr hq_lw hq_ha hq_ct hq_du (by first | omega | decide | assumption) (by omega) (by omega) ⟨hi1, by omega, hi0⟩) (cwV 3 hT (z_goodV (fun _ h => h) kw_1575 kw_1577 kw_66 kw_96 kw_1578) rfl rfl rfl (by decide +kernel) ⟨by decide, by decide⟩) z_mv hKK hK hw hA hm_mm hf_mm rfl rfl rfl hl.1 rfl (Nat.le_of_ble_eq_true rfl) dX10_goes__223 ⟨by decide, by decide⟩ (fun u H locs hp hw => ?_)
            obtain ⟨L91, f92⟩ := u
            obtain ⟨hsb, hfm, d2_93, nth_94, nse_95, ncn_96, nct_97, ndu_98, ndb_99, ha_0, ha_1, ha_2, ha_3, ha_4, ha_5, ha_6, hq_ct, hq_du, hp⟩ := hp
            have hsb : L = L91 := hsb
            subst hsb
            have hsb : ∀ b ∈ L, b ∈ L := fun _ h => h
            have hw : z_H D vwCl (z_A L sz) s.heap L f92 H locs := hw
            have hfr : ∀ b ∈ L, b ≠ mm → b ≠ ro → b ≠ ct → b ≠ se → b ≠ th → b ≠ cn → b ≠ db → b ≠ be → b ≠ du → f92 b = f b := fun b hb h0 h1 h2 h3 h4 h5 h6 h7 h8 => (hfm b hb h0 h4 h3 h5 h2 h8 h6).trans (hfr b hb h0 h1 h2 h3 h4 h5 h6 h7 h8)
            have hf_ha : f92 ha = .inl (cy 1, 30, .inl gha) := (hfm ha hm_ha (z_tne hf_ha hf_mm (m := 340) (n := 10) rfl rfl (by decide)) (z_tne hf_ha hf_th (m := 340) (n := 388) rfl rfl (by decide)) (z_tne hf_ha hf_se (m := 340) (n := 388) rfl rfl (by decide)) (z_tne hf_ha hf_cn (m := 340) (n := 388) rfl rfl (by decide)) (z_tne hf_ha hf_ct (m := 340) (n := 132) rfl rfl (by decide)) (z_tne hf_ha hf_du (m := 340) (n := 41700) rfl rfl (by decide)) (z_tne hf_ha hf_db (m := 340) (n := 140) rfl rfl (by decide))).trans hf_ha
            have hf_dr : f92 dr = .inl (cy 1, 520, .inl gdr) := (hfm dr hm_dr (z_tne hf_dr hf_mm (m := 4260) (n := 10) rfl rfl (by decide)) (z_tne hf_dr hf_th (m := 4260) (n := 388) rfl rfl (by decide)) (z_tne hf_dr hf_se (m := 4260) (n := 388) rfl rfl (by decide)) (z_tne hf_dr hf_cn (m := 4260) (n := 388) rfl rfl (by decide)) (z_tne hf_dr hf_ct (m := 4260) (n := 132) rfl rfl (by decide)) (z_tne hf_dr hf_du (m := 4260) (n := 41700) rfl rfl (by decide)) (z_tne hf_dr hf_db (m := 4260) (n := 140) rfl rfl (by decide))).trans hf_dr
            have hf_ro : f92 ro = .inl (cy 1, 13, .inl nro_4) := (hfm ro hm_ro (z_tne hf_ro hf_mm (m := 204) (n := 10) rfl rfl (by decide)) (z_tne hf_ro hf_th (m := 204) (n := 388) rfl rfl (by decide)) (z_tne hf_ro hf_se (m := 204) (n := 388) rfl rfl (by decide)) (z_tne hf_ro hf_cn (m := 204) (n := 388) rfl rfl (by decide)) (z_tne hf_ro hf_ct (m := 204) (n := 132) rfl rfl (by decide)) (z_tne hf_ro hf_du (m := 204) (n := 41700) rfl rfl (by decide)) (z_tne hf_ro hf_db (m := 204) (n := 140) rfl rfl (by decide))).trans hf_ro
            have hf_lw : f92 lw = .inl (cy 1, 25, .inl glw) := (hfm lw hm_lw (z_tne hf_lw hf_mm (m := 300) (n := 10) rfl rfl (by decide)) (z_tne hf_lw hf_th (m := 300) (n := 388) rfl rfl (by decide)) (z_tne hf_lw hf_se (m := 300) (n := 388) rfl rfl (by decide)) (z_tne hf_lw hf_cn (m := 300) (n := 388) rfl rfl (by decide)) (z_tne hf_lw hf_ct (m := 300) (n := 132) rfl rfl (by decide)) (z_tne hf_lw hf_du (m := 300) (n := 41700) rfl rfl (by decide)) (z_tne hf_lw hf_db (m := 300) (n := 140) rfl rfl (by decide))).trans hf_lw
            have hf_st : f92 st = .inl (cy 1, 20, .inl gst) := (hfm st hm_st (z_tne hf_st hf_mm (m := 260) (n := 10) rfl rfl (by decide)) (z_tne hf_st hf_th (m := 260) (n := 388) rfl rfl (by decide)) (z_tne hf_st hf_se (m := 260) (n := 388) rfl rfl (by decide)) (z_tne hf_st hf_cn (m := 260) (n := 388) rfl rfl (by decide)) (z_tne hf_st hf_ct (m := 260) (n := 132) rfl rfl (by decide)) (z_tne hf_st hf_du (m := 260) (n := 41700) rfl rfl (by decide)) (z_tne hf_st hf_db (m := 260) (n := 140) rfl rfl (by decide))).trans hf_st
            have hf_be : f92 be = .inl (cy 1, 2574, .inl nbe_71) := (hfm be hm_be (z_tne hf_be hf_mm (m := 20692) (n := 10) rfl rfl (by decide)) (z_tne hf_be hf_th (m := 20692) (n := 388) rfl rfl (by decide)) (z_tne hf_be hf_se (m := 20692) (n := 388) rfl rfl (by decide)) (z_tne hf_be hf_cn (m := 20692) (n := 388) rfl rfl (by decide)) (z_tne hf_be hf_ct (m := 20692) (n := 132) rfl rfl (by decide)) (z_tne hf_be hf_du (m := 20692) (n := 41700) rfl rfl (by decide)) (z_tne hf_be hf_db (m := 20692) (n := 140) rfl rfl (by decide))).trans hf_be
            have hf_fo : f92 fo = .inl (cy 1, 180, .inl gfo) := (hfm fo hm_fo (z_tne hf_fo hf_mm (m := 1540) (n := 10) rfl rfl (by decide)) (z_tne hf_fo hf_th (m := 1540) (n := 388) rfl rfl (by decide)) (z_tne hf_fo hf_se (m := 1540) (n := 388) rfl rfl (by decide)) (z_tne hf_fo hf_cn (m := 1540) (n := 388) rfl rfl (by decide)) (z_tne hf_fo hf_ct (m := 1540) (n := 132) rfl rfl (by decide)) (z_tne hf_fo hf_du (m := 1540) (n := 41700) rfl rfl (by decide)) (z_tne hf_fo hf_db (m := 1540) (n := 140) rfl rfl (by decide))).trans hf_fo
            have hf_mm : f92 mm = .inr (10, [.int m0, .ref wd, .ref my, .ref ce, .ref mv, .ref ta, .int m6, .int m7, .int m8, .int m9, .int m10, .long m11, .int m12, .int m13, .int m14, .int m15, .ref li, .ref ha, .ref lw, .ref st, .ref fo, .ref dr, .int m22, .ref ik, .int m24, .int m25, .long x2_70, .int m27, .int m28, .ref ro, .int n2_3, .ref ct, .ref se, .ref th, .ref cn, .ref be, .int w73, .ref du, .int d2_93, .ref db, .int m40, .int m41, .int m42, .ref pn, .ref wg, .ref wh, .ref tn, .ref he, .int m48, .ref tr, .ref fd, .ref po, .int m52, .int m53]) := ha_0
            have hf_th : f92 th = .inl (cy 1, 36, .inl nth_94) := ha_1
            have hf_se : f92 se = .inl (cy 1, 36, .inl nse_95) := ha_2
            have hf_cn : f92 cn = .inl (cy 1, 36, .inl ncn_96) := ha_3
            have hf_ct : f92 ct = .inl (cy 1, 4, .inl nct_97) := ha_4
            have hf_du : f92 du = .inl (cy 1, 5200, .inl ndu_98) := ha_5
            have hf_db : f92 db = .inl (cy 1, 5, .inl ndb_99) := ha_6
            have hq100 := hp
            obtain ⟨k101, e_k101⟩ : ∃ z : Int32, z = K77 + 1 := ⟨_, rfl⟩
            refine lv_iinc (v := k101) (lv' := [(5, .int k101), (4, .int V36), (3, .int r32), (2, .int r29), (1, .int K33), (0, .ref mm)]) hx hb dX10_goes__226 hl (k := 0) rfl (by rw [e_k101]; rfl) (by decide) rfl (fun ls hl => ?_)
            have i_k101 : k101.toInt = (K77.toInt + 1) := z_add e_k101 rfl (by decide) (by omega)
            refine lv_goto (tgt := 192) hx hb dX10_goes__229 (by decide) ?_
            exact ih_192 _ (by omega) _ _ _ ⟨k101, nct_97, nse_95, nth_94, ncn_96, ndb_99, ndu_98, d2_93, f92, rfl, (by first | decide | omega), (by first | decide | omega), (by omega), (by omega), hw, hf_mm, hf_ha, hf_dr, hf_ro, hf_lw, hf_st, hf_ct, hf_se, hf_th, hf_cn, hf_db, hf_be, hf_du, hf_fo, hfr, hq_ct, hq_du, (lv_sub hl [0, 1, 2, 3, 4, 5] rfl)⟩
      · skip
        refine lv_aload_n hx hb dX10_goes__69 rfl (lv_at hl 4 rfl) ?_
        refine lv_aload_n hx hb dX10_goes__70 rfl (lv_at hl 4 rfl) ?_
        refine z_get (C := RX10) (T := TX10) (N := 54) (ci := 10) (v := .ref ro) hx hb hT zin_X10 hown hK hw hm_mm hf_mm rfl 29 (by decide) (hT _ kw_1197) rfl dX10_goes__71 ?_
        refine lv_iload_n hx hb dX10_goes__74 rfl (lv_at hl 3 rfl) ?_
        refine z_iald hx hb hK hw 1 hm_ro hf_ro rfl (z_ix rfl (by omega)) dX10_goes__75 ?_
        refine lv_topi (fun w102 e_w102 => ?_)
        have hv_w102 : 0 ≤ w102.toInt ∧ w102.toInt ≤ 12 := by rw [e_w102]; exact hq_ro _
        refine z_calliV (cells := 0) (slots := 0) (b := mm) (As := [.int w102]) (rest := []) (ci := 10) (q0 := (RX10, TX10, 54)) ⟨hx, hb, hml, hown, hT⟩ (c_X10_timeOf l hm_mm hm_dr hf_mm hf_dr hq_dr (by first | omega | decide | assumption)) (cwV 1 hT (z_goodV (fun _ h => h) kw_1495 kw_1497 kw_52 kw_96 kw_1498) rfl rfl rfl (by decide +kernel) ⟨by decide, by decide⟩) z_mv hKK hK hw hA hm_mm hf_mm rfl rfl rfl hl.1 rfl (Nat.le_of_ble_eq_true rfl) dX10_goes__76 ⟨by decide, by decide⟩ (fun r103 u H locs hp hw => ?_)
        obtain ⟨rfl, hp⟩ := hp
        have hw : z_H D vwCl (z_A L sz) s.heap L f34 H locs := hw
        have ht_r103 := hp
        refine lv_iload_n hx hb dX10_goes__79 rfl (lv_at hl 2 rfl) ?_
        have hT1 : r103.toInt = z_tm gdr (nro_4 K33.toNatClampNeg).toNatClampNeg := by rw [ht_r103.1, e_w102]
        refine z_icmp_ne (tgt := 168) hx hb rfl rfl dX10_goes__80 (by decide) (fun c104 => ?_) (fun c104 => ?_)
        · skip
          have hpr : K12.toInt < K33.toInt := z_prT hT0 hT1 (by omega) (by omega)
          have hup : ∀ j : Nat, (j : Int) < K33.toInt → z_tm gdr (nro_4 j).toNatClampNeg ≤ m28.toInt := fun j hj => if h : K12.toInt ≤ j then hupI j h hj else hupO j (by omega)
          refine lv_aload_n hx hb dX10_goes__168 rfl (lv_at hl 4 rfl) ?_
          refine z_get (C := RX10) (T := TX10) (N := 54) (ci := 10) (v := .int m27) hx hb hT zin_X10 hown hK hw hm_mm hf_mm rfl 27 (by decide) (hT _ kw_1195) rfl dX10_goes__169 ?_
          refine z_if_eq (tgt := 181) hx hb rfl dX10_goes__172 (by decide) (fun c105 => ?_) (fun c105 => ?_)
          · skip
            refine lv_aload_n hx hb dX10_goes__181 rfl (lv_at hl 4 rfl) ?_
            refine lv_iload_n hx hb dX10_goes__182 rfl (lv_at hl 2 rfl) ?_
            refine lv_bipush (v := 24) hx hb dX10_goes__183 (by decide) ?_
            refine lv_idiv hx hb dX10_goes__185 (by decide) ?_
            refine lv_topi (fun w106 e_w106 => ?_)
            have i_w106 : w106.toInt = r29.toInt / 24 := z_div e_w106 rfl (show (24 : Int32).toInt = 24 by decide) (by omega)
            refine z_callvV (cells := 0) (slots := 0) (b := mm) (As := [.int w106]) (rest := []) (ci := 10) (q0 := (RX10, TX10, 54)) ⟨hx, hb, hml, hown, hT⟩ (c_X10_dawns l hm_mm hm_lw hm_ct hf_mm hf_lw hf_ct hq_lw hq_ct) (cwV 1 hT (z_goodV (fun _ h => h) kw_1571 kw_1573 kw_65 kw_96 kw_1574) rfl rfl rfl (by decide +kernel) ⟨by decide, by decide⟩) z_mv hKK hK hw hA hm_mm hf_mm rfl rfl rfl hl.1 rfl (Nat.le_of_ble_eq_true rfl) dX10_goes__186 ⟨by decide, by decide⟩ (fun u H locs hp hw => ?_)
            obtain ⟨L107, f108⟩ := u
            obtain ⟨hsb, hfm, nct_109, ha_0, ha_1, hq_ct, hp⟩ := hp
            have hsb : L = L107 := hsb
            subst hsb
            have hsb : ∀ b ∈ L, b ∈ L := fun _ h => h
            have hw : z_H D vwCl (z_A L sz) s.heap L f108 H locs := hw
            have hfr : ∀ b ∈ L, b ≠ mm → b ≠ ro → b ≠ ct → b ≠ se → b ≠ th → b ≠ cn → b ≠ db → b ≠ be → b ≠ du → f108 b = f b := fun b hb h0 h1 h2 h3 h4 h5 h6 h7 h8 => (hfm b hb h0 h2).trans (hfr b hb h0 h1 h2 h3 h4 h5 h6 h7 h8)
            have hf_ha : f108 ha = .inl (cy 1, 30, .inl gha) := (hfm ha hm_ha (z_tne hf_ha hf_mm (m := 340) (n := 10) rfl rfl (by decide)) (z_tne hf_ha hf_ct (m := 340) (n := 132) rfl rfl (by decide))).trans hf_ha
            have hf_dr : f108 dr = .inl (cy 1, 520, .inl gdr) := (hfm dr hm_dr (z_tne hf_dr hf_mm (m := 4260) (n := 10) rfl rfl (by decide)) (z_tne hf_dr hf_ct (m := 4260) (n := 132) rfl rfl (by decide))).trans hf_dr
            have hf_ro : f108 ro = .inl (cy 1, 13, .inl nro_4) := (hfm ro hm_ro (z_tne hf_ro hf_mm (m := 204) (n := 10) rfl rfl (by decide)) (z_tne hf_ro hf_ct (m := 204) (n := 132) rfl rfl (by decide))).trans hf_ro
            have hf_lw : f108 lw = .inl (cy 1, 25, .inl glw) := (hfm lw hm_lw (z_tne hf_lw hf_mm (m := 300) (n := 10) rfl rfl (by decide)) (z_tne hf_lw hf_ct (m := 300) (n := 132) rfl rfl (by decide))).trans hf_lw
            have hf_st : f108 st = .inl (cy 1, 20, .inl gst) := (hfm st hm_st (z_tne hf_st hf_mm (m := 260) (n := 10) rfl rfl (by decide)) (z_tne hf_st hf_ct (m := 260) (n := 132) rfl rfl (by decide))).trans hf_st
            have hf_se : f108 se = .inl (cy 1, 36, .inl G18) := (hfm se hm_se (z_tne hf_se hf_mm (m := 388) (n := 10) rfl rfl (by decide)) (z_tne hf_se hf_ct (m := 388) (n := 132) rfl rfl (by decide))).trans hf_se
            have hf_th : f108 th = .inl (cy 1, 36, .inl G19) := (hfm th hm_th (z_tne hf_th hf_mm (m := 388) (n := 10) rfl rfl (by decide)) (z_tne hf_th hf_ct (m := 388) (n := 132) rfl rfl (by decide))).trans hf_th
            have hf_cn : f108 cn = .inl (cy 1, 36, .inl G20) := (hfm cn hm_cn (z_tne hf_cn hf_mm (m := 388) (n := 10) rfl rfl (by decide)) (z_tne hf_cn hf_ct (m := 388) (n := 132) rfl rfl (by decide))).trans hf_cn
            have hf_db : f108 db = .inl (cy 1, 5, .inl G21) := (hfm db hm_db (z_tne hf_db hf_mm (m := 140) (n := 10) rfl rfl (by decide)) (z_tne hf_db hf_ct (m := 140) (n := 132) rfl rfl (by decide))).trans hf_db
            have hf_be : f108 be = .inl (cy 1, 2574, .inl G35) := (hfm be hm_be (z_tne hf_be hf_mm (m := 20692) (n := 10) rfl rfl (by decide)) (z_tne hf_be hf_ct (m := 20692) (n := 132) rfl rfl (by decide))).trans hf_be
            have hf_du : f108 du = .inl (cy 1, 5200, .inl G23) := (hfm du hm_du (z_tne hf_du hf_mm (m := 41700) (n := 10) rfl rfl (by decide)) (z_tne hf_du hf_ct (m := 41700) (n := 132) rfl rfl (by decide))).trans hf_du
            have hf_fo : f108 fo = .inl (cy 1, 180, .inl gfo) := (hfm fo hm_fo (z_tne hf_fo hf_mm (m := 1540) (n := 10) rfl rfl (by decide)) (z_tne hf_fo hf_ct (m := 1540) (n := 132) rfl rfl (by decide))).trans hf_fo
            have hf_mm : f108 mm = .inr (10, [.int m0, .ref wd, .ref my, .ref ce, .ref mv, .ref ta, .int m6, .int m7, .int m8, .int m9, .int m10, .long m11, .int m12, .int m13, .int m14, .int m15, .ref li, .ref ha, .ref lw, .ref st, .ref fo, .ref dr, .int m22, .ref ik, .int m24, .int m25, .long XX16, .int m27, .int m28, .ref ro, .int n2_3, .ref ct, .ref se, .ref th, .ref cn, .ref be, .int w106, .ref du, .int DM14, .ref db, .int m40, .int m41, .int m42, .ref pn, .ref wg, .ref wh, .ref tn, .ref he, .int m48, .ref tr, .ref fd, .ref po, .int m52, .int m53]) := ha_0
            have hf_ct : f108 ct = .inl (cy 1, 4, .inl nct_109) := ha_1
            have hdw := hp
            refine lv_iconst (v := 0) hx hb dX10_goes__189 (by decide) ?_
            refine lv_istore (lv' := [(5, .int 0), (4, .int V36), (3, .int r32), (2, .int r29), (1, .int K33), (0, .ref mm)]) hx hb dX10_goes__190 hl (by decide) rfl (fun ls hl => ?_)
            have hzk : (0 : Int32).toInt = 0 := by decide
            refine z_loop (fun n H locs ls => ∃ (K110 : Int32) (G113 : Nat → Int32) (G114 : Nat → Int32) (G115 : Nat → Int32) (G116 : Nat → Int32) (G117 : Nat → Int32) (G118 : Nat → Int32) (DM112 : Int32) (f111 : Nat → va_E), (n = (V36.toInt - K110.toInt).toNat) ∧ (0 ≤ K110.toInt) ∧ (K110.toInt ≤ V36.toInt) ∧ (0 ≤ DM112.toInt) ∧ (2 * DM112.toInt + z_ph G113 ≤ 4 + 198 * K12.toInt + K110.toInt) ∧ (z_H D vwCl (z_A L sz) s.heap L f111 H locs) ∧ (f111 mm = .inr (10, [.int m0, .ref wd, .ref my, .ref ce, .ref mv, .ref ta, .int m6, .int m7, .int m8, .int m9, .int m10, .long m11, .int m12, .int m13, .int m14, .int m15, .ref li, .ref ha, .ref lw, .ref st, .ref fo, .ref dr, .int m22, .ref ik, .int m24, .int m25, .long XX16, .int m27, .int m28, .ref ro, .int n2_3, .ref ct, .ref se, .ref th, .ref cn, .ref be, .int w106, .ref du, .int DM112, .ref db, .int m40, .int m41, .int m42, .ref pn, .ref wg, .ref wh, .ref tn, .ref he, .int m48, .ref tr, .ref fd, .ref po, .int m52, .int m53])) ∧ (f111 ha = .inl (cy 1, 30, .inl gha)) ∧ (f111 dr = .inl (cy 1, 520, .inl gdr)) ∧ (f111 ro = .inl (cy 1, 13, .inl nro_4)) ∧ (f111 lw = .inl (cy 1, 25, .inl glw)) ∧ (f111 st = .inl (cy 1, 20, .inl gst)) ∧ (f111 ct = .inl (cy 1, 4, .inl G113)) ∧ (f111 se = .inl (cy 1, 36, .inl G114)) ∧ (f111 th = .inl (cy 1, 36, .inl G115)) ∧ (f111 cn = .inl (cy 1, 36, .inl G116)) ∧ (f111 db = .inl (cy 1, 5, .inl G117)) ∧ (f111 be = .inl (cy 1, 2574, .inl G35)) ∧ (f111 du = .inl (cy 1, 5200, .inl G118)) ∧ (f111 fo = .inl (cy 1, 180, .inl gfo)) ∧ (∀ b ∈ L, b ≠ mm → b ≠ ro → b ≠ ct → b ≠ se → b ≠ th → b ≠ cn → b ≠ db → b ≠ be → b ≠ du → f111 b = f b) ∧ (∀ j : Nat, q_law j (G113 j)) ∧ (∀ j : Nat, q_du j (G118 j)) ∧ (lv_has ls 7 [(5, .int K110), (4, .int V36), (3, .int r32), (2, .int r29), (1, .int K33), (0, .ref mm)])) _ ⟨0, nct_109, G18, G19, G20, G21, G23, DM14, f108, rfl, (by first | decide | omega), (by first | decide | omega), (by omega), (by omega), hw, hf_mm, hf_ha, hf_dr, hf_ro, hf_lw, hf_st, hf_ct, hf_se, hf_th, hf_cn, hf_db, hf_be, hf_du, hf_fo, hfr, hq_ct, hq_du, (lv_sub hl [0, 1, 2, 3, 4, 5] rfl)⟩ (fun n H locs ls hI ih_192 => ?_)
            obtain ⟨K110, G113, G114, G115, G116, G117, G118, DM112, f111, hn, hk0, hk1, hi0, hi1, hw, hf_mm, hf_ha, hf_dr, hf_ro, hf_lw, hf_st, hf_ct, hf_se, hf_th, hf_cn, hf_db, hf_be, hf_du, hf_fo, hfr, hq_ct, hq_du, hl⟩ := hI
            refine lv_iload hx hb dX10_goes__192 (lv_at hl 0 rfl) ?_
            refine lv_iload hx hb dX10_goes__194 (lv_at hl 1 rfl) ?_
            refine z_icmp_ge (tgt := 232) hx hb rfl rfl dX10_goes__196 (by decide) (fun c119 => ?_) (fun c119 => ?_)
            · skip
              refine lv_goto (tgt := 10) hx hb dX10_goes__232 (by decide) ?_
              exact ih_10 _ (by omega) _ _ _ ⟨K33, G113, G114, G115, G116, G117, G35, G118, DM112, w106, XX16, f111, rfl, (by first | decide | omega), (by first | decide | omega), (by omega), (by omega), hup, (by omega), hw, hf_mm, hf_ha, hf_dr, hf_ro, hf_lw, hf_st, hf_ct, hf_se, hf_th, hf_cn, hf_db, hf_be, hf_du, hf_fo, hfr, hq_ct, hq_be, hq_du, (lv_sub hl [4, 5] rfl)⟩
            · skip
              refine lv_aload_n hx hb dX10_goes__199 rfl (lv_at hl 5 rfl) ?_
              refine lv_aload_n hx hb dX10_goes__200 rfl (lv_at hl 5 rfl) ?_
              refine z_get (C := RX10) (T := TX10) (N := 54) (ci := 10) (v := .ref be) hx hb hT zin_X10 hown hK hw hm_mm hf_mm rfl 35 (by decide) (hT _ kw_1203) rfl dX10_goes__201 ?_
              refine lv_iload hx hb dX10_goes__204 (lv_at hl 0 rfl) ?_
              refine z_iald hx hb hK hw 1 hm_be hf_be rfl (z_ix rfl (by omega)) dX10_goes__206 ?_
              refine lv_topi (fun w120 e_w120 => ?_)
              have hv_w120 : 0 ≤ w120.toInt ∧ w120.toInt ≤ 2599 := by rw [e_w120]; exact hq_be _
              refine lv_sipush (v := 200) hx hb dX10_goes__207 (by decide) ?_
              refine lv_idiv hx hb dX10_goes__210 (by decide) ?_
              refine lv_topi (fun w121 e_w121 => ?_)
              have i_w121 : w121.toInt = w120.toInt / 200 := z_div e_w121 rfl (show (200 : Int32).toInt = 200 by decide) (by omega)
              refine lv_aload_n hx hb dX10_goes__211 rfl (lv_at hl 5 rfl) ?_
              refine z_get (C := RX10) (T := TX10) (N := 54) (ci := 10) (v := .ref be) hx hb hT zin_X10 hown hK hw hm_mm hf_mm rfl 35 (by decide) (hT _ kw_1203) rfl dX10_goes__212 ?_
              refine lv_iload hx hb dX10_goes__215 (lv_at hl 0 rfl) ?_
              refine z_iald hx hb hK hw 1 hm_be hf_be rfl (z_ix rfl (by omega)) dX10_goes__217 ?_
              refine lv_topi (fun w122 e_w122 => ?_)
              have hv_w122 : 0 ≤ w122.toInt ∧ w122.toInt ≤ 2599 := by rw [e_w122]; exact hq_be _
              refine lv_sipush (v := 200) hx hb dX10_goes__218 (by decide) ?_
              refine lv_irem hx hb dX10_goes__221 (by decide) ?_
              refine lv_topi (fun w123 e_w123 => ?_)
              have i_w123 : w123.toInt = (w122.toInt % 200) := z_remI e_w123 rfl (show (200 : Int32).toInt = 200 by decide) (by omega)
              refine lv_iload_n hx hb dX10_goes__222 rfl (lv_at hl 3 rfl) ?_
              refine z_callvV (cells := 0) (slots := 0) (b := mm) (As := [.int w121, .int w123, .int r29]) (rest := []) (ci := 10) (q0 := (RX10, TX10, 54)) ⟨hx, hb, hml, hown, hT⟩ (c_X10_passes l hm_mm hm_dr hm_lw hm_ha hm_th hm_se hm_fo hm_cn hm_ct hm_du hm_db hf_mm hf_dr hf_lw hf_ha hf_th hf_se hf_fo hf_cn hf_ct hf_du hf_db (Ne.symm ne_se_th) ne_th_cn ne_se_cn hq_dr hq_lw hq_ha hq_ct hq_du (by first | omega | decide | assumption) (by omega) (by omega) ⟨hi1, by omega, hi0⟩) (cwV 3 hT (z_goodV (fun _ h => h) kw_1575 kw_1577 kw_66 kw_96 kw_1578) rfl rfl rfl (by decide +kernel) ⟨by decide, by decide⟩) z_mv hKK hK hw hA hm_mm hf_mm rfl rfl rfl hl.1 rfl (Nat.le_of_ble_eq_true rfl) dX10_goes__223 ⟨by decide, by decide⟩ (fun u H locs hp hw => ?_)
              obtain ⟨L124, f125⟩ := u
              obtain ⟨hsb, hfm, d2_126, nth_127, nse_128, ncn_129, nct_130, ndu_131, ndb_132, ha_0, ha_1, ha_2, ha_3, ha_4, ha_5, ha_6, hq_ct, hq_du, hp⟩ := hp
              have hsb : L = L124 := hsb
              subst hsb
              have hsb : ∀ b ∈ L, b ∈ L := fun _ h => h
              have hw : z_H D vwCl (z_A L sz) s.heap L f125 H locs := hw
              have hfr : ∀ b ∈ L, b ≠ mm → b ≠ ro → b ≠ ct → b ≠ se → b ≠ th → b ≠ cn → b ≠ db → b ≠ be → b ≠ du → f125 b = f b := fun b hb h0 h1 h2 h3 h4 h5 h6 h7 h8 => (hfm b hb h0 h4 h3 h5 h2 h8 h6).trans (hfr b hb h0 h1 h2 h3 h4 h5 h6 h7 h8)
              have hf_ha : f125 ha = .inl (cy 1, 30, .inl gha) := (hfm ha hm_ha (z_tne hf_ha hf_mm (m := 340) (n := 10) rfl rfl (by decide)) (z_tne hf_ha hf_th (m := 340) (n := 388) rfl rfl (by decide)) (z_tne hf_ha hf_se (m := 340) (n := 388) rfl rfl (by decide)) (z_tne hf_ha hf_cn (m := 340) (n := 388) rfl rfl (by decide)) (z_tne hf_ha hf_ct (m := 340) (n := 132) rfl rfl (by decide)) (z_tne hf_ha hf_du (m := 340) (n := 41700) rfl rfl (by decide)) (z_tne hf_ha hf_db (m := 340) (n := 140) rfl rfl (by decide))).trans hf_ha
              have hf_dr : f125 dr = .inl (cy 1, 520, .inl gdr) := (hfm dr hm_dr (z_tne hf_dr hf_mm (m := 4260) (n := 10) rfl rfl (by decide)) (z_tne hf_dr hf_th (m := 4260) (n := 388) rfl rfl (by decide)) (z_tne hf_dr hf_se (m := 4260) (n := 388) rfl rfl (by decide)) (z_tne hf_dr hf_cn (m := 4260) (n := 388) rfl rfl (by decide)) (z_tne hf_dr hf_ct (m := 4260) (n := 132) rfl rfl (by decide)) (z_tne hf_dr hf_du (m := 4260) (n := 41700) rfl rfl (by decide)) (z_tne hf_dr hf_db (m := 4260) (n := 140) rfl rfl (by decide))).trans hf_dr
              have hf_ro : f125 ro = .inl (cy 1, 13, .inl nro_4) := (hfm ro hm_ro (z_tne hf_ro hf_mm (m := 204) (n := 10) rfl rfl (by decide)) (z_tne hf_ro hf_th (m := 204) (n := 388) rfl rfl (by decide)) (z_tne hf_ro hf_se (m := 204) (n := 388) rfl rfl (by decide)) (z_tne hf_ro hf_cn (m := 204) (n := 388) rfl rfl (by decide)) (z_tne hf_ro hf_ct (m := 204) (n := 132) rfl rfl (by decide)) (z_tne hf_ro hf_du (m := 204) (n := 41700) rfl rfl (by decide)) (z_tne hf_ro hf_db (m := 204) (n := 140) rfl rfl (by decide))).trans hf_ro
              have hf_lw : f125 lw = .inl (cy 1, 25, .inl glw) := (hfm lw hm_lw (z_tne hf_lw hf_mm (m := 300) (n := 10) rfl rfl (by decide)) (z_tne hf_lw hf_th (m := 300) (n := 388) rfl rfl (by decide)) (z_tne hf_lw hf_se (m := 300) (n := 388) rfl rfl (by decide)) (z_tne hf_lw hf_cn (m := 300) (n := 388) rfl rfl (by decide)) (z_tne hf_lw hf_ct (m := 300) (n := 132) rfl rfl (by decide)) (z_tne hf_lw hf_du (m := 300) (n := 41700) rfl rfl (by decide)) (z_tne hf_lw hf_db (m := 300) (n := 140) rfl rfl (by decide))).trans hf_lw
              have hf_st : f125 st = .inl (cy 1, 20, .inl gst) := (hfm st hm_st (z_tne hf_st hf_mm (m := 260) (n := 10) rfl rfl (by decide)) (z_tne hf_st hf_th (m := 260) (n := 388) rfl rfl (by decide)) (z_tne hf_st hf_se (m := 260) (n := 388) rfl rfl (by decide)) (z_tne hf_st hf_cn (m := 260) (n := 388) rfl rfl (by decide)) (z_tne hf_st hf_ct (m := 260) (n := 132) rfl rfl (by decide)) (z_tne hf_st hf_du (m := 260) (n := 41700) rfl rfl (by decide)) (z_tne hf_st hf_db (m := 260) (n := 140) rfl rfl (by decide))).trans hf_st
              have hf_be : f125 be = .inl (cy 1, 2574, .inl G35) := (hfm be hm_be (z_tne hf_be hf_mm (m := 20692) (n := 10) rfl rfl (by decide)) (z_tne hf_be hf_th (m := 20692) (n := 388) rfl rfl (by decide)) (z_tne hf_be hf_se (m := 20692) (n := 388) rfl rfl (by decide)) (z_tne hf_be hf_cn (m := 20692) (n := 388) rfl rfl (by decide)) (z_tne hf_be hf_ct (m := 20692) (n := 132) rfl rfl (by decide)) (z_tne hf_be hf_du (m := 20692) (n := 41700) rfl rfl (by decide)) (z_tne hf_be hf_db (m := 20692) (n := 140) rfl rfl (by decide))).trans hf_be
              have hf_fo : f125 fo = .inl (cy 1, 180, .inl gfo) := (hfm fo hm_fo (z_tne hf_fo hf_mm (m := 1540) (n := 10) rfl rfl (by decide)) (z_tne hf_fo hf_th (m := 1540) (n := 388) rfl rfl (by decide)) (z_tne hf_fo hf_se (m := 1540) (n := 388) rfl rfl (by decide)) (z_tne hf_fo hf_cn (m := 1540) (n := 388) rfl rfl (by decide)) (z_tne hf_fo hf_ct (m := 1540) (n := 132) rfl rfl (by decide)) (z_tne hf_fo hf_du (m := 1540) (n := 41700) rfl rfl (by decide)) (z_tne hf_fo hf_db (m := 1540) (n := 140) rfl rfl (by decide))).trans hf_fo
              have hf_mm : f125 mm = .inr (10, [.int m0, .ref wd, .ref my, .ref ce, .ref mv, .ref ta, .int m6, .int m7, .int m8, .int m9, .int m10, .long m11, .int m12, .int m13, .int m14, .int m15, .ref li, .ref ha, .ref lw, .ref st, .ref fo, .ref dr, .int m22, .ref ik, .int m24, .int m25, .long XX16, .int m27, .int m28, .ref ro, .int n2_3, .ref ct, .ref se, .ref th, .ref cn, .ref be, .int w106, .ref du, .int d2_126, .ref db, .int m40, .int m41, .int m42, .ref pn, .ref wg, .ref wh, .ref tn, .ref he, .int m48, .ref tr, .ref fd, .ref po, .int m52, .int m53]) := ha_0
              have hf_th : f125 th = .inl (cy 1, 36, .inl nth_127) := ha_1
              have hf_se : f125 se = .inl (cy 1, 36, .inl nse_128) := ha_2
              have hf_cn : f125 cn = .inl (cy 1, 36, .inl ncn_129) := ha_3
              have hf_ct : f125 ct = .inl (cy 1, 4, .inl nct_130) := ha_4
              have hf_du : f125 du = .inl (cy 1, 5200, .inl ndu_131) := ha_5
              have hf_db : f125 db = .inl (cy 1, 5, .inl ndb_132) := ha_6
              have hq133 := hp
              obtain ⟨k134, e_k134⟩ : ∃ z : Int32, z = K110 + 1 := ⟨_, rfl⟩
              refine lv_iinc (v := k134) (lv' := [(5, .int k134), (4, .int V36), (3, .int r32), (2, .int r29), (1, .int K33), (0, .ref mm)]) hx hb dX10_goes__226 hl (k := 0) rfl (by rw [e_k134]; rfl) (by decide) rfl (fun ls hl => ?_)
              have i_k134 : k134.toInt = (K110.toInt + 1) := z_add e_k134 rfl (by decide) (by omega)
              refine lv_goto (tgt := 192) hx hb dX10_goes__229 (by decide) ?_
              exact ih_192 _ (by omega) _ _ _ ⟨k134, nct_130, nse_128, nth_127, ncn_129, ndb_132, ndu_131, d2_126, f125, rfl, (by first | decide | omega), (by first | decide | omega), (by omega), (by omega), hw, hf_mm, hf_ha, hf_dr, hf_ro, hf_lw, hf_st, hf_ct, hf_se, hf_th, hf_cn, hf_db, hf_be, hf_du, hf_fo, hfr, hq_ct, hq_du, (lv_sub hl [0, 1, 2, 3, 4, 5] rfl)⟩
          · skip
            refine lv_aload_n hx hb dX10_goes__175 rfl (lv_at hl 4 rfl) ?_
            refine lv_iload hx hb dX10_goes__176 (lv_at hl 0 rfl) ?_
            refine z_callvV (cells := 0) (slots := 0) (b := mm) (As := [.int V36]) (rest := []) (ci := 10) (q0 := (RX10, TX10, 54)) ⟨hx, hb, hml, hown, hT⟩ (c_X10_mixes l hm_mm hm_be hf_mm hf_be hq_be (by first | omega | decide | assumption) (by first | omega | decide | assumption)) (cwV 1 hT (z_goodV (fun _ h => h) kw_1559 kw_1561 kw_63 kw_96 kw_1562) rfl rfl rfl (by decide +kernel) ⟨by decide, by decide⟩) z_mv hKK hK hw hA hm_mm hf_mm rfl rfl rfl hl.1 rfl (Nat.le_of_ble_eq_true rfl) dX10_goes__178 ⟨by decide, by decide⟩ (fun u H locs hp hw => ?_)
            obtain ⟨L135, f136⟩ := u
            obtain ⟨hsb, hfm, x2_137, nbe_138, ha_0, ha_1, hq_be, hp⟩ := hp
            have hsb : L = L135 := hsb
            subst hsb
            have hsb : ∀ b ∈ L, b ∈ L := fun _ h => h
            have hw : z_H D vwCl (z_A L sz) s.heap L f136 H locs := hw
            have hfr : ∀ b ∈ L, b ≠ mm → b ≠ ro → b ≠ ct → b ≠ se → b ≠ th → b ≠ cn → b ≠ db → b ≠ be → b ≠ du → f136 b = f b := fun b hb h0 h1 h2 h3 h4 h5 h6 h7 h8 => (hfm b hb h0 h7).trans (hfr b hb h0 h1 h2 h3 h4 h5 h6 h7 h8)
            have hf_ha : f136 ha = .inl (cy 1, 30, .inl gha) := (hfm ha hm_ha (z_tne hf_ha hf_mm (m := 340) (n := 10) rfl rfl (by decide)) (z_tne hf_ha hf_be (m := 340) (n := 20692) rfl rfl (by decide))).trans hf_ha
            have hf_dr : f136 dr = .inl (cy 1, 520, .inl gdr) := (hfm dr hm_dr (z_tne hf_dr hf_mm (m := 4260) (n := 10) rfl rfl (by decide)) (z_tne hf_dr hf_be (m := 4260) (n := 20692) rfl rfl (by decide))).trans hf_dr
            have hf_ro : f136 ro = .inl (cy 1, 13, .inl nro_4) := (hfm ro hm_ro (z_tne hf_ro hf_mm (m := 204) (n := 10) rfl rfl (by decide)) (z_tne hf_ro hf_be (m := 204) (n := 20692) rfl rfl (by decide))).trans hf_ro
            have hf_lw : f136 lw = .inl (cy 1, 25, .inl glw) := (hfm lw hm_lw (z_tne hf_lw hf_mm (m := 300) (n := 10) rfl rfl (by decide)) (z_tne hf_lw hf_be (m := 300) (n := 20692) rfl rfl (by decide))).trans hf_lw
            have hf_st : f136 st = .inl (cy 1, 20, .inl gst) := (hfm st hm_st (z_tne hf_st hf_mm (m := 260) (n := 10) rfl rfl (by decide)) (z_tne hf_st hf_be (m := 260) (n := 20692) rfl rfl (by decide))).trans hf_st
            have hf_ct : f136 ct = .inl (cy 1, 4, .inl G17) := (hfm ct hm_ct (z_tne hf_ct hf_mm (m := 132) (n := 10) rfl rfl (by decide)) (z_tne hf_ct hf_be (m := 132) (n := 20692) rfl rfl (by decide))).trans hf_ct
            have hf_se : f136 se = .inl (cy 1, 36, .inl G18) := (hfm se hm_se (z_tne hf_se hf_mm (m := 388) (n := 10) rfl rfl (by decide)) (z_tne hf_se hf_be (m := 388) (n := 20692) rfl rfl (by decide))).trans hf_se
            have hf_th : f136 th = .inl (cy 1, 36, .inl G19) := (hfm th hm_th (z_tne hf_th hf_mm (m := 388) (n := 10) rfl rfl (by decide)) (z_tne hf_th hf_be (m := 388) (n := 20692) rfl rfl (by decide))).trans hf_th
            have hf_cn : f136 cn = .inl (cy 1, 36, .inl G20) := (hfm cn hm_cn (z_tne hf_cn hf_mm (m := 388) (n := 10) rfl rfl (by decide)) (z_tne hf_cn hf_be (m := 388) (n := 20692) rfl rfl (by decide))).trans hf_cn
            have hf_db : f136 db = .inl (cy 1, 5, .inl G21) := (hfm db hm_db (z_tne hf_db hf_mm (m := 140) (n := 10) rfl rfl (by decide)) (z_tne hf_db hf_be (m := 140) (n := 20692) rfl rfl (by decide))).trans hf_db
            have hf_du : f136 du = .inl (cy 1, 5200, .inl G23) := (hfm du hm_du (z_tne hf_du hf_mm (m := 41700) (n := 10) rfl rfl (by decide)) (z_tne hf_du hf_be (m := 41700) (n := 20692) rfl rfl (by decide))).trans hf_du
            have hf_fo : f136 fo = .inl (cy 1, 180, .inl gfo) := (hfm fo hm_fo (z_tne hf_fo hf_mm (m := 1540) (n := 10) rfl rfl (by decide)) (z_tne hf_fo hf_be (m := 1540) (n := 20692) rfl rfl (by decide))).trans hf_fo
            have hf_mm : f136 mm = .inr (10, [.int m0, .ref wd, .ref my, .ref ce, .ref mv, .ref ta, .int m6, .int m7, .int m8, .int m9, .int m10, .long m11, .int m12, .int m13, .int m14, .int m15, .ref li, .ref ha, .ref lw, .ref st, .ref fo, .ref dr, .int m22, .ref ik, .int m24, .int m25, .long x2_137, .int m27, .int m28, .ref ro, .int n2_3, .ref ct, .ref se, .ref th, .ref cn, .ref be, .int DN15, .ref du, .int DM14, .ref db, .int m40, .int m41, .int m42, .ref pn, .ref wg, .ref wh, .ref tn, .ref he, .int m48, .ref tr, .ref fd, .ref po, .int m52, .int m53]) := ha_0
            have hf_be : f136 be = .inl (cy 1, 2574, .inl nbe_138) := ha_1
            have hq139 := hp
            refine lv_aload_n hx hb dX10_goes__181 rfl (lv_at hl 4 rfl) ?_
            refine lv_iload_n hx hb dX10_goes__182 rfl (lv_at hl 2 rfl) ?_
            refine lv_bipush (v := 24) hx hb dX10_goes__183 (by decide) ?_
            refine lv_idiv hx hb dX10_goes__185 (by decide) ?_
            refine lv_topi (fun w140 e_w140 => ?_)
            have i_w140 : w140.toInt = r29.toInt / 24 := z_div e_w140 rfl (show (24 : Int32).toInt = 24 by decide) (by omega)
            refine z_callvV (cells := 0) (slots := 0) (b := mm) (As := [.int w140]) (rest := []) (ci := 10) (q0 := (RX10, TX10, 54)) ⟨hx, hb, hml, hown, hT⟩ (c_X10_dawns l hm_mm hm_lw hm_ct hf_mm hf_lw hf_ct hq_lw hq_ct) (cwV 1 hT (z_goodV (fun _ h => h) kw_1571 kw_1573 kw_65 kw_96 kw_1574) rfl rfl rfl (by decide +kernel) ⟨by decide, by decide⟩) z_mv hKK hK hw hA hm_mm hf_mm rfl rfl rfl hl.1 rfl (Nat.le_of_ble_eq_true rfl) dX10_goes__186 ⟨by decide, by decide⟩ (fun u H locs hp hw => ?_)
            obtain ⟨L141, f142⟩ := u
            obtain ⟨hsb, hfm, nct_143, ha_0, ha_1, hq_ct, hp⟩ := hp
            have hsb : L = L141 := hsb
            subst hsb
            have hsb : ∀ b ∈ L, b ∈ L := fun _ h => h
            have hw : z_H D vwCl (z_A L sz) s.heap L f142 H locs := hw
            have hfr : ∀ b ∈ L, b ≠ mm → b ≠ ro → b ≠ ct → b ≠ se → b ≠ th → b ≠ cn → b ≠ db → b ≠ be → b ≠ du → f142 b = f b := fun b hb h0 h1 h2 h3 h4 h5 h6 h7 h8 => (hfm b hb h0 h2).trans (hfr b hb h0 h1 h2 h3 h4 h5 h6 h7 h8)
            have hf_ha : f142 ha = .inl (cy 1, 30, .inl gha) := (hfm ha hm_ha (z_tne hf_ha hf_mm (m := 340) (n := 10) rfl rfl (by decide)) (z_tne hf_ha hf_ct (m := 340) (n := 132) rfl rfl (by decide))).trans hf_ha
            have hf_dr : f142 dr = .inl (cy 1, 520, .inl gdr) := (hfm dr hm_dr (z_tne hf_dr hf_mm (m := 4260) (n := 10) rfl rfl (by decide)) (z_tne hf_dr hf_ct (m := 4260) (n := 132) rfl rfl (by decide))).trans hf_dr
            have hf_ro : f142 ro = .inl (cy 1, 13, .inl nro_4) := (hfm ro hm_ro (z_tne hf_ro hf_mm (m := 204) (n := 10) rfl rfl (by decide)) (z_tne hf_ro hf_ct (m := 204) (n := 132) rfl rfl (by decide))).trans hf_ro
            have hf_lw : f142 lw = .inl (cy 1, 25, .inl glw) := (hfm lw hm_lw (z_tne hf_lw hf_mm (m := 300) (n := 10) rfl rfl (by decide)) (z_tne hf_lw hf_ct (m := 300) (n := 132) rfl rfl (by decide))).trans hf_lw
            have hf_st : f142 st = .inl (cy 1, 20, .inl gst) := (hfm st hm_st (z_tne hf_st hf_mm (m := 260) (n := 10) rfl rfl (by decide)) (z_tne hf_st hf_ct (m := 260) (n := 132) rfl rfl (by decide))).trans hf_st
            have hf_se : f142 se = .inl (cy 1, 36, .inl G18) := (hfm se hm_se (z_tne hf_se hf_mm (m := 388) (n := 10) rfl rfl (by decide)) (z_tne hf_se hf_ct (m := 388) (n := 132) rfl rfl (by decide))).trans hf_se
            have hf_th : f142 th = .inl (cy 1, 36, .inl G19) := (hfm th hm_th (z_tne hf_th hf_mm (m := 388) (n := 10) rfl rfl (by decide)) (z_tne hf_th hf_ct (m := 388) (n := 132) rfl rfl (by decide))).trans hf_th
            have hf_cn : f142 cn = .inl (cy 1, 36, .inl G20) := (hfm cn hm_cn (z_tne hf_cn hf_mm (m := 388) (n := 10) rfl rfl (by decide)) (z_tne hf_cn hf_ct (m := 388) (n := 132) rfl rfl (by decide))).trans hf_cn
            have hf_db : f142 db = .inl (cy 1, 5, .inl G21) := (hfm db hm_db (z_tne hf_db hf_mm (m := 140) (n := 10) rfl rfl (by decide)) (z_tne hf_db hf_ct (m := 140) (n := 132) rfl rfl (by decide))).trans hf_db
            have hf_be : f142 be = .inl (cy 1, 2574, .inl nbe_138) := (hfm be hm_be (z_tne hf_be hf_mm (m := 20692) (n := 10) rfl rfl (by decide)) (z_tne hf_be hf_ct (m := 20692) (n := 132) rfl rfl (by decide))).trans hf_be
            have hf_du : f142 du = .inl (cy 1, 5200, .inl G23) := (hfm du hm_du (z_tne hf_du hf_mm (m := 41700) (n := 10) rfl rfl (by decide)) (z_tne hf_du hf_ct (m := 41700) (n := 132) rfl rfl (by decide))).trans hf_du
            have hf_fo : f142 fo = .inl (cy 1, 180, .inl gfo) := (hfm fo hm_fo (z_tne hf_fo hf_mm (m := 1540) (n := 10) rfl rfl (by decide)) (z_tne hf_fo hf_ct (m := 1540) (n := 132) rfl rfl (by decide))).trans hf_fo
            have hf_mm : f142 mm = .inr (10, [.int m0, .ref wd, .ref my, .ref ce, .ref mv, .ref ta, .int m6, .int m7, .int m8, .int m9, .int m10, .long m11, .int m12, .int m13, .int m14, .int m15, .ref li, .ref ha, .ref lw, .ref st, .ref fo, .ref dr, .int m22, .ref ik, .int m24, .int m25, .long x2_137, .int m27, .int m28, .ref ro, .int n2_3, .ref ct, .ref se, .ref th, .ref cn, .ref be, .int w140, .ref du, .int DM14, .ref db, .int m40, .int m41, .int m42, .ref pn, .ref wg, .ref wh, .ref tn, .ref he, .int m48, .ref tr, .ref fd, .ref po, .int m52, .int m53]) := ha_0
            have hf_ct : f142 ct = .inl (cy 1, 4, .inl nct_143) := ha_1
            have hdw := hp
            refine lv_iconst (v := 0) hx hb dX10_goes__189 (by decide) ?_
            refine lv_istore (lv' := [(5, .int 0), (4, .int V36), (3, .int r32), (2, .int r29), (1, .int K33), (0, .ref mm)]) hx hb dX10_goes__190 hl (by decide) rfl (fun ls hl => ?_)
            have hzk : (0 : Int32).toInt = 0 := by decide
            refine z_loop (fun n H locs ls => ∃ (K144 : Int32) (G147 : Nat → Int32) (G148 : Nat → Int32) (G149 : Nat → Int32) (G150 : Nat → Int32) (G151 : Nat → Int32) (G152 : Nat → Int32) (DM146 : Int32) (f145 : Nat → va_E), (n = (V36.toInt - K144.toInt).toNat) ∧ (0 ≤ K144.toInt) ∧ (K144.toInt ≤ V36.toInt) ∧ (0 ≤ DM146.toInt) ∧ (2 * DM146.toInt + z_ph G147 ≤ 4 + 198 * K12.toInt + K144.toInt) ∧ (z_H D vwCl (z_A L sz) s.heap L f145 H locs) ∧ (f145 mm = .inr (10, [.int m0, .ref wd, .ref my, .ref ce, .ref mv, .ref ta, .int m6, .int m7, .int m8, .int m9, .int m10, .long m11, .int m12, .int m13, .int m14, .int m15, .ref li, .ref ha, .ref lw, .ref st, .ref fo, .ref dr, .int m22, .ref ik, .int m24, .int m25, .long x2_137, .int m27, .int m28, .ref ro, .int n2_3, .ref ct, .ref se, .ref th, .ref cn, .ref be, .int w140, .ref du, .int DM146, .ref db, .int m40, .int m41, .int m42, .ref pn, .ref wg, .ref wh, .ref tn, .ref he, .int m48, .ref tr, .ref fd, .ref po, .int m52, .int m53])) ∧ (f145 ha = .inl (cy 1, 30, .inl gha)) ∧ (f145 dr = .inl (cy 1, 520, .inl gdr)) ∧ (f145 ro = .inl (cy 1, 13, .inl nro_4)) ∧ (f145 lw = .inl (cy 1, 25, .inl glw)) ∧ (f145 st = .inl (cy 1, 20, .inl gst)) ∧ (f145 ct = .inl (cy 1, 4, .inl G147)) ∧ (f145 se = .inl (cy 1, 36, .inl G148)) ∧ (f145 th = .inl (cy 1, 36, .inl G149)) ∧ (f145 cn = .inl (cy 1, 36, .inl G150)) ∧ (f145 db = .inl (cy 1, 5, .inl G151)) ∧ (f145 be = .inl (cy 1, 2574, .inl nbe_138)) ∧ (f145 du = .inl (cy 1, 5200, .inl G152)) ∧ (f145 fo = .inl (cy 1, 180, .inl gfo)) ∧ (∀ b ∈ L, b ≠ mm → b ≠ ro → b ≠ ct → b ≠ se → b ≠ th → b ≠ cn → b ≠ db → b ≠ be → b ≠ du → f145 b = f b) ∧ (∀ j : Nat, q_law j (G147 j)) ∧ (∀ j : Nat, q_du j (G152 j)) ∧ (lv_has ls 7 [(5, .int K144), (4, .int V36), (3, .int r32), (2, .int r29), (1, .int K33), (0, .ref mm)])) _ ⟨0, nct_143, G18, G19, G20, G21, G23, DM14, f142, rfl, (by first | decide | omega), (by first | decide | omega), (by omega), (by omega), hw, hf_mm, hf_ha, hf_dr, hf_ro, hf_lw, hf_st, hf_ct, hf_se, hf_th, hf_cn, hf_db, hf_be, hf_du, hf_fo, hfr, hq_ct, hq_du, (lv_sub hl [0, 1, 2, 3, 4, 5] rfl)⟩ (fun n H locs ls hI ih_192 => ?_)
            obtain ⟨K144, G147, G148, G149, G150, G151, G152, DM146, f145, hn, hk0, hk1, hi0, hi1, hw, hf_mm, hf_ha, hf_dr, hf_ro, hf_lw, hf_st, hf_ct, hf_se, hf_th, hf_cn, hf_db, hf_be, hf_du, hf_fo, hfr, hq_ct, hq_du, hl⟩ := hI
            refine lv_iload hx hb dX10_goes__192 (lv_at hl 0 rfl) ?_
            refine lv_iload hx hb dX10_goes__194 (lv_at hl 1 rfl) ?_
            refine z_icmp_ge (tgt := 232) hx hb rfl rfl dX10_goes__196 (by decide) (fun c153 => ?_) (fun c153 => ?_)
            · skip
              refine lv_goto (tgt := 10) hx hb dX10_goes__232 (by decide) ?_
              exact ih_10 _ (by omega) _ _ _ ⟨K33, G147, G148, G149, G150, G151, nbe_138, G152, DM146, w140, x2_137, f145, rfl, (by first | decide | omega), (by first | decide | omega), (by omega), (by omega), hup, (by omega), hw, hf_mm, hf_ha, hf_dr, hf_ro, hf_lw, hf_st, hf_ct, hf_se, hf_th, hf_cn, hf_db, hf_be, hf_du, hf_fo, hfr, hq_ct, hq_be, hq_du, (lv_sub hl [4, 5] rfl)⟩
            · skip
              refine lv_aload_n hx hb dX10_goes__199 rfl (lv_at hl 5 rfl) ?_
              refine lv_aload_n hx hb dX10_goes__200 rfl (lv_at hl 5 rfl) ?_
              refine z_get (C := RX10) (T := TX10) (N := 54) (ci := 10) (v := .ref be) hx hb hT zin_X10 hown hK hw hm_mm hf_mm rfl 35 (by decide) (hT _ kw_1203) rfl dX10_goes__201 ?_
              refine lv_iload hx hb dX10_goes__204 (lv_at hl 0 rfl) ?_
              refine z_iald hx hb hK hw 1 hm_be hf_be rfl (z_ix rfl (by omega)) dX10_goes__206 ?_
              refine lv_topi (fun w154 e_w154 => ?_)
              have hv_w154 : 0 ≤ w154.toInt ∧ w154.toInt ≤ 2599 := by rw [e_w154]; exact hq_be _
              refine lv_sipush (v := 200) hx hb dX10_goes__207 (by decide) ?_
              refine lv_idiv hx hb dX10_goes__210 (by decide) ?_
              refine lv_topi (fun w155 e_w155 => ?_)
              have i_w155 : w155.toInt = w154.toInt / 200 := z_div e_w155 rfl (show (200 : Int32).toInt = 200 by decide) (by omega)
              refine lv_aload_n hx hb dX10_goes__211 rfl (lv_at hl 5 rfl) ?_
              refine z_get (C := RX10) (T := TX10) (N := 54) (ci := 10) (v := .ref be) hx hb hT zin_X10 hown hK hw hm_mm hf_mm rfl 35 (by decide) (hT _ kw_1203) rfl dX10_goes__212 ?_
              refine lv_iload hx hb dX10_goes__215 (lv_at hl 0 rfl) ?_
              refine z_iald hx hb hK hw 1 hm_be hf_be rfl (z_ix rfl (by omega)) dX10_goes__217 ?_
              refine lv_topi (fun w156 e_w156 => ?_)
              have hv_w156 : 0 ≤ w156.toInt ∧ w156.toInt ≤ 2599 := by rw [e_w156]; exact hq_be _
              refine lv_sipush (v := 200) hx hb dX10_goes__218 (by decide) ?_
              refine lv_irem hx hb dX10_goes__221 (by decide) ?_
              refine lv_topi (fun w157 e_w157 => ?_)
              have i_w157 : w157.toInt = (w156.toInt % 200) := z_remI e_w157 rfl (show (200 : Int32).toInt = 200 by decide) (by omega)
              refine lv_iload_n hx hb dX10_goes__222 rfl (lv_at hl 3 rfl) ?_
              refine z_callvV (cells := 0) (slots := 0) (b := mm) (As := [.int w155, .int w157, .int r29]) (rest := []) (ci := 10) (q0 := (RX10, TX10, 54)) ⟨hx, hb, hml, hown, hT⟩ (c_X10_passes l hm_mm hm_dr hm_lw hm_ha hm_th hm_se hm_fo hm_cn hm_ct hm_du hm_db hf_mm hf_dr hf_lw hf_ha hf_th hf_se hf_fo hf_cn hf_ct hf_du hf_db (Ne.symm ne_se_th) ne_th_cn ne_se_cn hq_dr hq_lw hq_ha hq_ct hq_du (by first | omega | decide | assumption) (by omega) (by omega) ⟨hi1, by omega, hi0⟩) (cwV 3 hT (z_goodV (fun _ h => h) kw_1575 kw_1577 kw_66 kw_96 kw_1578) rfl rfl rfl (by decide +kernel) ⟨by decide, by decide⟩) z_mv hKK hK hw hA hm_mm hf_mm rfl rfl rfl hl.1 rfl (Nat.le_of_ble_eq_true rfl) dX10_goes__223 ⟨by decide, by decide⟩ (fun u H locs hp hw => ?_)
              obtain ⟨L158, f159⟩ := u
              obtain ⟨hsb, hfm, d2_160, nth_161, nse_162, ncn_163, nct_164, ndu_165, ndb_166, ha_0, ha_1, ha_2, ha_3, ha_4, ha_5, ha_6, hq_ct, hq_du, hp⟩ := hp
              have hsb : L = L158 := hsb
              subst hsb
              have hsb : ∀ b ∈ L, b ∈ L := fun _ h => h
              have hw : z_H D vwCl (z_A L sz) s.heap L f159 H locs := hw
              have hfr : ∀ b ∈ L, b ≠ mm → b ≠ ro → b ≠ ct → b ≠ se → b ≠ th → b ≠ cn → b ≠ db → b ≠ be → b ≠ du → f159 b = f b := fun b hb h0 h1 h2 h3 h4 h5 h6 h7 h8 => (hfm b hb h0 h4 h3 h5 h2 h8 h6).trans (hfr b hb h0 h1 h2 h3 h4 h5 h6 h7 h8)
              have hf_ha : f159 ha = .inl (cy 1, 30, .inl gha) := (hfm ha hm_ha (z_tne hf_ha hf_mm (m := 340) (n := 10) rfl rfl (by decide)) (z_tne hf_ha hf_th (m := 340) (n := 388) rfl rfl (by decide)) (z_tne hf_ha hf_se (m := 340) (n := 388) rfl rfl (by decide)) (z_tne hf_ha hf_cn (m := 340) (n := 388) rfl rfl (by decide)) (z_tne hf_ha hf_ct (m := 340) (n := 132) rfl rfl (by decide)) (z_tne hf_ha hf_du (m := 340) (n := 41700) rfl rfl (by decide)) (z_tne hf_ha hf_db (m := 340) (n := 140) rfl rfl (by decide))).trans hf_ha
              have hf_dr : f159 dr = .inl (cy 1, 520, .inl gdr) := (hfm dr hm_dr (z_tne hf_dr hf_mm (m := 4260) (n := 10) rfl rfl (by decide)) (z_tne hf_dr hf_th (m := 4260) (n := 388) rfl rfl (by decide)) (z_tne hf_dr hf_se (m := 4260) (n := 388) rfl rfl (by decide)) (z_tne hf_dr hf_cn (m := 4260) (n := 388) rfl rfl (by decide)) (z_tne hf_dr hf_ct (m := 4260) (n := 132) rfl rfl (by decide)) (z_tne hf_dr hf_du (m := 4260) (n := 41700) rfl rfl (by decide)) (z_tne hf_dr hf_db (m := 4260) (n := 140) rfl rfl (by decide))).trans hf_dr
              have hf_ro : f159 ro = .inl (cy 1, 13, .inl nro_4) := (hfm ro hm_ro (z_tne hf_ro hf_mm (m := 204) (n := 10) rfl rfl (by decide)) (z_tne hf_ro hf_th (m := 204) (n := 388) rfl rfl (by decide)) (z_tne hf_ro hf_se (m := 204) (n := 388) rfl rfl (by decide)) (z_tne hf_ro hf_cn (m := 204) (n := 388) rfl rfl (by decide)) (z_tne hf_ro hf_ct (m := 204) (n := 132) rfl rfl (by decide)) (z_tne hf_ro hf_du (m := 204) (n := 41700) rfl rfl (by decide)) (z_tne hf_ro hf_db (m := 204) (n := 140) rfl rfl (by decide))).trans hf_ro
              have hf_lw : f159 lw = .inl (cy 1, 25, .inl glw) := (hfm lw hm_lw (z_tne hf_lw hf_mm (m := 300) (n := 10) rfl rfl (by decide)) (z_tne hf_lw hf_th (m := 300) (n := 388) rfl rfl (by decide)) (z_tne hf_lw hf_se (m := 300) (n := 388) rfl rfl (by decide)) (z_tne hf_lw hf_cn (m := 300) (n := 388) rfl rfl (by decide)) (z_tne hf_lw hf_ct (m := 300) (n := 132) rfl rfl (by decide)) (z_tne hf_lw hf_du (m := 300) (n := 41700) rfl rfl (by decide)) (z_tne hf_lw hf_db (m := 300) (n := 140) rfl rfl (by decide))).trans hf_lw
              have hf_st : f159 st = .inl (cy 1, 20, .inl gst) := (hfm st hm_st (z_tne hf_st hf_mm (m := 260) (n := 10) rfl rfl (by decide)) (z_tne hf_st hf_th (m := 260) (n := 388) rfl rfl (by decide)) (z_tne hf_st hf_se (m := 260) (n := 388) rfl rfl (by decide)) (z_tne hf_st hf_cn (m := 260) (n := 388) rfl rfl (by decide)) (z_tne hf_st hf_ct (m := 260) (n := 132) rfl rfl (by decide)) (z_tne hf_st hf_du (m := 260) (n := 41700) rfl rfl (by decide)) (z_tne hf_st hf_db (m := 260) (n := 140) rfl rfl (by decide))).trans hf_st
              have hf_be : f159 be = .inl (cy 1, 2574, .inl nbe_138) := (hfm be hm_be (z_tne hf_be hf_mm (m := 20692) (n := 10) rfl rfl (by decide)) (z_tne hf_be hf_th (m := 20692) (n := 388) rfl rfl (by decide)) (z_tne hf_be hf_se (m := 20692) (n := 388) rfl rfl (by decide)) (z_tne hf_be hf_cn (m := 20692) (n := 388) rfl rfl (by decide)) (z_tne hf_be hf_ct (m := 20692) (n := 132) rfl rfl (by decide)) (z_tne hf_be hf_du (m := 20692) (n := 41700) rfl rfl (by decide)) (z_tne hf_be hf_db (m := 20692) (n := 140) rfl rfl (by decide))).trans hf_be
              have hf_fo : f159 fo = .inl (cy 1, 180, .inl gfo) := (hfm fo hm_fo (z_tne hf_fo hf_mm (m := 1540) (n := 10) rfl rfl (by decide)) (z_tne hf_fo hf_th (m := 1540) (n := 388) rfl rfl (by decide)) (z_tne hf_fo hf_se (m := 1540) (n := 388) rfl rfl (by decide)) (z_tne hf_fo hf_cn (m := 1540) (n := 388) rfl rfl (by decide)) (z_tne hf_fo hf_ct (m := 1540) (n := 132) rfl rfl (by decide)) (z_tne hf_fo hf_du (m := 1540) (n := 41700) rfl rfl (by decide)) (z_tne hf_fo hf_db (m := 1540) (n := 140) rfl rfl (by decide))).trans hf_fo
              have hf_mm : f159 mm = .inr (10, [.int m0, .ref wd, .ref my, .ref ce, .ref mv, .ref ta, .int m6, .int m7, .int m8, .int m9, .int m10, .long m11, .int m12, .int m13, .int m14, .int m15, .ref li, .ref ha, .ref lw, .ref st, .ref fo, .ref dr, .int m22, .ref ik, .int m24, .int m25, .long x2_137, .int m27, .int m28, .ref ro, .int n2_3, .ref ct, .ref se, .ref th, .ref cn, .ref be, .int w140, .ref du, .int d2_160, .ref db, .int m40, .int m41, .int m42, .ref pn, .ref wg, .ref wh, .ref tn, .ref he, .int m48, .ref tr, .ref fd, .ref po, .int m52, .int m53]) := ha_0
              have hf_th : f159 th = .inl (cy 1, 36, .inl nth_161) := ha_1
              have hf_se : f159 se = .inl (cy 1, 36, .inl nse_162) := ha_2
              have hf_cn : f159 cn = .inl (cy 1, 36, .inl ncn_163) := ha_3
              have hf_ct : f159 ct = .inl (cy 1, 4, .inl nct_164) := ha_4
              have hf_du : f159 du = .inl (cy 1, 5200, .inl ndu_165) := ha_5
              have hf_db : f159 db = .inl (cy 1, 5, .inl ndb_166) := ha_6
              have hq167 := hp
              obtain ⟨k168, e_k168⟩ : ∃ z : Int32, z = K144 + 1 := ⟨_, rfl⟩
              refine lv_iinc (v := k168) (lv' := [(5, .int k168), (4, .int V36), (3, .int r32), (2, .int r29), (1, .int K33), (0, .ref mm)]) hx hb dX10_goes__226 hl (k := 0) rfl (by rw [e_k168]; rfl) (by decide) rfl (fun ls hl => ?_)
              have i_k168 : k168.toInt = (K144.toInt + 1) := z_add e_k168 rfl (by decide) (by omega)
              refine lv_goto (tgt := 192) hx hb dX10_goes__229 (by decide) ?_
              exact ih_192 _ (by omega) _ _ _ ⟨k168, nct_164, nse_162, nth_161, ncn_163, ndb_166, ndu_165, d2_160, f159, rfl, (by first | decide | omega), (by first | decide | omega), (by omega), (by omega), hw, hf_mm, hf_ha, hf_dr, hf_ro, hf_lw, hf_st, hf_ct, hf_se, hf_th, hf_cn, hf_db, hf_be, hf_du, hf_fo, hfr, hq_ct, hq_du, (lv_sub hl [0, 1, 2, 3, 4, 5] rfl)⟩
        · skip
          refine lv_aload_n hx hb dX10_goes__83 rfl (lv_at hl 4 rfl) ?_
          refine lv_aload_n hx hb dX10_goes__84 rfl (lv_at hl 4 rfl) ?_
          refine z_get (C := RX10) (T := TX10) (N := 54) (ci := 10) (v := .ref ro) hx hb hT zin_X10 hown hK hw hm_mm hf_mm rfl 29 (by decide) (hT _ kw_1197) rfl dX10_goes__85 ?_
          refine lv_iload_n hx hb dX10_goes__88 rfl (lv_at hl 3 rfl) ?_
          refine z_iald hx hb hK hw 1 hm_ro hf_ro rfl (z_ix rfl (by omega)) dX10_goes__89 ?_
          refine lv_topi (fun w169 e_w169 => ?_)
          have hv_w169 : 0 ≤ w169.toInt ∧ w169.toInt ≤ 12 := by rw [e_w169]; exact hq_ro _
          refine lv_iconst (v := 1) hx hb dX10_goes__90 (by decide) ?_
          have hz170 := (show (1 : Int32).toInt = 1 by decide)
          refine z_calliV (cells := 0) (slots := 0) (b := mm) (As := [.int w169, .int 1]) (rest := []) (ci := 10) (q0 := (RX10, TX10, 54)) ⟨hx, hb, hml, hown, hT⟩ (c_X10_of l hm_mm hm_dr hf_mm hf_dr hq_dr (by first | omega | decide | assumption) (by decide)) (cwV 2 hT (z_goodV (fun _ h => h) kw_1487 kw_1489 kw_51 kw_96 kw_1490) rfl rfl rfl (by decide +kernel) ⟨by decide, by decide⟩) z_mv hKK hK hw hA hm_mm hf_mm rfl rfl rfl hl.1 rfl (Nat.le_of_ble_eq_true rfl) dX10_goes__91 ⟨by decide, by decide⟩ (fun r171 u H locs hp hw => ?_)
          obtain ⟨rfl, hp⟩ := hp
          have hw : z_H D vwCl (z_A L sz) s.heap L f34 H locs := hw
          have hof_r171 : r171 = gdr (8 * w169.toNatClampNeg + 1) := hp
          have hh_r171 : 0 ≤ r171.toInt ∧ r171.toInt ≤ 3 := by rw [hof_r171]; exact (hq_dr _).2.1 (by omega)
          refine lv_iload_n hx hb dX10_goes__94 rfl (lv_at hl 1 rfl) ?_
          have hG1 : r171 = gdr (8 * (nro_4 K33.toNatClampNeg).toNatClampNeg + 1) := by rw [hof_r171, e_w169]
          refine z_icmp_ne (tgt := 168) hx hb rfl rfl dX10_goes__95 (by decide) (fun c172 => ?_) (fun c172 => ?_)
          · skip
            have hpr : K12.toInt < K33.toInt := z_prG hG0 hG1 (by omega) (by omega)
            have hup : ∀ j : Nat, (j : Int) < K33.toInt → z_tm gdr (nro_4 j).toNatClampNeg ≤ m28.toInt := fun j hj => if h : K12.toInt ≤ j then hupI j h hj else hupO j (by omega)
            refine lv_aload_n hx hb dX10_goes__168 rfl (lv_at hl 4 rfl) ?_
            refine z_get (C := RX10) (T := TX10) (N := 54) (ci := 10) (v := .int m27) hx hb hT zin_X10 hown hK hw hm_mm hf_mm rfl 27 (by decide) (hT _ kw_1195) rfl dX10_goes__169 ?_
            refine z_if_eq (tgt := 181) hx hb rfl dX10_goes__172 (by decide) (fun c173 => ?_) (fun c173 => ?_)
            · skip
              refine lv_aload_n hx hb dX10_goes__181 rfl (lv_at hl 4 rfl) ?_
              refine lv_iload_n hx hb dX10_goes__182 rfl (lv_at hl 2 rfl) ?_
              refine lv_bipush (v := 24) hx hb dX10_goes__183 (by decide) ?_
              refine lv_idiv hx hb dX10_goes__185 (by decide) ?_
              refine lv_topi (fun w174 e_w174 => ?_)
              have i_w174 : w174.toInt = r29.toInt / 24 := z_div e_w174 rfl (show (24 : Int32).toInt = 24 by decide) (by omega)
              refine z_callvV (cells := 0) (slots := 0) (b := mm) (As := [.int w174]) (rest := []) (ci := 10) (q0 := (RX10, TX10, 54)) ⟨hx, hb, hml, hown, hT⟩ (c_X10_dawns l hm_mm hm_lw hm_ct hf_mm hf_lw hf_ct hq_lw hq_ct) (cwV 1 hT (z_goodV (fun _ h => h) kw_1571 kw_1573 kw_65 kw_96 kw_1574) rfl rfl rfl (by decide +kernel) ⟨by decide, by decide⟩) z_mv hKK hK hw hA hm_mm hf_mm rfl rfl rfl hl.1 rfl (Nat.le_of_ble_eq_true rfl) dX10_goes__186 ⟨by decide, by decide⟩ (fun u H locs hp hw => ?_)
              obtain ⟨L175, f176⟩ := u
              obtain ⟨hsb, hfm, nct_177, ha_0, ha_1, hq_ct, hp⟩ := hp
              have hsb : L = L175 := hsb
              subst hsb
              have hsb : ∀ b ∈ L, b ∈ L := fun _ h => h
              have hw : z_H D vwCl (z_A L sz) s.heap L f176 H locs := hw
              have hfr : ∀ b ∈ L, b ≠ mm → b ≠ ro → b ≠ ct → b ≠ se → b ≠ th → b ≠ cn → b ≠ db → b ≠ be → b ≠ du → f176 b = f b := fun b hb h0 h1 h2 h3 h4 h5 h6 h7 h8 => (hfm b hb h0 h2).trans (hfr b hb h0 h1 h2 h3 h4 h5 h6 h7 h8)
              have hf_ha : f176 ha = .inl (cy 1, 30, .inl gha) := (hfm ha hm_ha (z_tne hf_ha hf_mm (m := 340) (n := 10) rfl rfl (by decide)) (z_tne hf_ha hf_ct (m := 340) (n := 132) rfl rfl (by decide))).trans hf_ha
              have hf_dr : f176 dr = .inl (cy 1, 520, .inl gdr) := (hfm dr hm_dr (z_tne hf_dr hf_mm (m := 4260) (n := 10) rfl rfl (by decide)) (z_tne hf_dr hf_ct (m := 4260) (n := 132) rfl rfl (by decide))).trans hf_dr
              have hf_ro : f176 ro = .inl (cy 1, 13, .inl nro_4) := (hfm ro hm_ro (z_tne hf_ro hf_mm (m := 204) (n := 10) rfl rfl (by decide)) (z_tne hf_ro hf_ct (m := 204) (n := 132) rfl rfl (by decide))).trans hf_ro
              have hf_lw : f176 lw = .inl (cy 1, 25, .inl glw) := (hfm lw hm_lw (z_tne hf_lw hf_mm (m := 300) (n := 10) rfl rfl (by decide)) (z_tne hf_lw hf_ct (m := 300) (n := 132) rfl rfl (by decide))).trans hf_lw
              have hf_st : f176 st = .inl (cy 1, 20, .inl gst) := (hfm st hm_st (z_tne hf_st hf_mm (m := 260) (n := 10) rfl rfl (by decide)) (z_tne hf_st hf_ct (m := 260) (n := 132) rfl rfl (by decide))).trans hf_st
              have hf_se : f176 se = .inl (cy 1, 36, .inl G18) := (hfm se hm_se (z_tne hf_se hf_mm (m := 388) (n := 10) rfl rfl (by decide)) (z_tne hf_se hf_ct (m := 388) (n := 132) rfl rfl (by decide))).trans hf_se
              have hf_th : f176 th = .inl (cy 1, 36, .inl G19) := (hfm th hm_th (z_tne hf_th hf_mm (m := 388) (n := 10) rfl rfl (by decide)) (z_tne hf_th hf_ct (m := 388) (n := 132) rfl rfl (by decide))).trans hf_th
              have hf_cn : f176 cn = .inl (cy 1, 36, .inl G20) := (hfm cn hm_cn (z_tne hf_cn hf_mm (m := 388) (n := 10) rfl rfl (by decide)) (z_tne hf_cn hf_ct (m := 388) (n := 132) rfl rfl (by decide))).trans hf_cn
              have hf_db : f176 db = .inl (cy 1, 5, .inl G21) := (hfm db hm_db (z_tne hf_db hf_mm (m := 140) (n := 10) rfl rfl (by decide)) (z_tne hf_db hf_ct (m := 140) (n := 132) rfl rfl (by decide))).trans hf_db
              have hf_be : f176 be = .inl (cy 1, 2574, .inl G35) := (hfm be hm_be (z_tne hf_be hf_mm (m := 20692) (n := 10) rfl rfl (by decide)) (z_tne hf_be hf_ct (m := 20692) (n := 132) rfl rfl (by decide))).trans hf_be
              have hf_du : f176 du = .inl (cy 1, 5200, .inl G23) := (hfm du hm_du (z_tne hf_du hf_mm (m := 41700) (n := 10) rfl rfl (by decide)) (z_tne hf_du hf_ct (m := 41700) (n := 132) rfl rfl (by decide))).trans hf_du
              have hf_fo : f176 fo = .inl (cy 1, 180, .inl gfo) := (hfm fo hm_fo (z_tne hf_fo hf_mm (m := 1540) (n := 10) rfl rfl (by decide)) (z_tne hf_fo hf_ct (m := 1540) (n := 132) rfl rfl (by decide))).trans hf_fo
              have hf_mm : f176 mm = .inr (10, [.int m0, .ref wd, .ref my, .ref ce, .ref mv, .ref ta, .int m6, .int m7, .int m8, .int m9, .int m10, .long m11, .int m12, .int m13, .int m14, .int m15, .ref li, .ref ha, .ref lw, .ref st, .ref fo, .ref dr, .int m22, .ref ik, .int m24, .int m25, .long XX16, .int m27, .int m28, .ref ro, .int n2_3, .ref ct, .ref se, .ref th, .ref cn, .ref be, .int w174, .ref du, .int DM14, .ref db, .int m40, .int m41, .int m42, .ref pn, .ref wg, .ref wh, .ref tn, .ref he, .int m48, .ref tr, .ref fd, .ref po, .int m52, .int m53]) := ha_0
              have hf_ct : f176 ct = .inl (cy 1, 4, .inl nct_177) := ha_1
              have hdw := hp
              refine lv_iconst (v := 0) hx hb dX10_goes__189 (by decide) ?_
              refine lv_istore (lv' := [(5, .int 0), (4, .int V36), (3, .int r32), (2, .int r29), (1, .int K33), (0, .ref mm)]) hx hb dX10_goes__190 hl (by decide) rfl (fun ls hl => ?_)
              have hzk : (0 : Int32).toInt = 0 := by decide
              refine z_loop (fun n H locs ls => ∃ (K178 : Int32) (G181 : Nat → Int32) (G182 : Nat → Int32) (G183 : Nat → Int32) (G184 : Nat → Int32) (G185 : Nat → Int32) (G186 : Nat → Int32) (DM180 : Int32) (f179 : Nat → va_E), (n = (V36.toInt - K178.toInt).toNat) ∧ (0 ≤ K178.toInt) ∧ (K178.toInt ≤ V36.toInt) ∧ (0 ≤ DM180.toInt) ∧ (2 * DM180.toInt + z_ph G181 ≤ 4 + 198 * K12.toInt + K178.toInt) ∧ (z_H D vwCl (z_A L sz) s.heap L f179 H locs) ∧ (f179 mm = .inr (10, [.int m0, .ref wd, .ref my, .ref ce, .ref mv, .ref ta, .int m6, .int m7, .int m8, .int m9, .int m10, .long m11, .int m12, .int m13, .int m14, .int m15, .ref li, .ref ha, .ref lw, .ref st, .ref fo, .ref dr, .int m22, .ref ik, .int m24, .int m25, .long XX16, .int m27, .int m28, .ref ro, .int n2_3, .ref ct, .ref se, .ref th, .ref cn, .ref be, .int w174, .ref du, .int DM180, .ref db, .int m40, .int m41, .int m42, .ref pn, .ref wg, .ref wh, .ref tn, .ref he, .int m48, .ref tr, .ref fd, .ref po, .int m52, .int m53])) ∧ (f179 ha = .inl (cy 1, 30, .inl gha)) ∧ (f179 dr = .inl (cy 1, 520, .inl gdr)) ∧ (f179 ro = .inl (cy 1, 13, .inl nro_4)) ∧ (f179 lw = .inl (cy 1, 25, .inl glw)) ∧ (f179 st = .inl (cy 1, 20, .inl gst)) ∧ (f179 ct = .inl (cy 1, 4, .inl G181)) ∧ (f179 se = .inl (cy 1, 36, .inl G182)) ∧ (f179 th = .inl (cy 1, 36, .inl G183)) ∧ (f179 cn = .inl (cy 1, 36, .inl G184)) ∧ (f179 db = .inl (cy 1, 5, .inl G185)) ∧ (f179 be = .inl (cy 1, 2574, .inl G35)) ∧ (f179 du = .inl (cy 1, 5200, .inl G186)) ∧ (f179 fo = .inl (cy 1, 180, .inl gfo)) ∧ (∀ b ∈ L, b ≠ mm → b ≠ ro → b ≠ ct → b ≠ se → b ≠ th → b ≠ cn → b ≠ db → b ≠ be → b ≠ du → f179 b = f b) ∧ (∀ j : Nat, q_law j (G181 j)) ∧ (∀ j : Nat, q_du j (G186 j)) ∧ (lv_has ls 7 [(5, .int K178), (4, .int V36), (3, .int r32), (2, .int r29), (1, .int K33), (0, .ref mm)])) _ ⟨0, nct_177, G18, G19, G20, G21, G23, DM14, f176, rfl, (by first | decide | omega), (by first | decide | omega), (by omega), (by omega), hw, hf_mm, hf_ha, hf_dr, hf_ro, hf_lw, hf_st, hf_ct, hf_se, hf_th, hf_cn, hf_db, hf_be, hf_du, hf_fo, hfr, hq_ct, hq_du, (lv_sub hl [0, 1, 2, 3, 4, 5] rfl)⟩ (fun n H locs ls hI ih_192 => ?_)
              obtain ⟨K178, G181, G182, G183, G184, G185, G186, DM180, f179, hn, hk0, hk1, hi0, hi1, hw, hf_mm, hf_ha, hf_dr, hf_ro, hf_lw, hf_st, hf_ct, hf_se, hf_th, hf_cn, hf_db, hf_be, hf_du, hf_fo, hfr, hq_ct, hq_du, hl⟩ := hI
              refine lv_iload hx hb dX10_goes__192 (lv_at hl 0 rfl) ?_
              refine lv_iload hx hb dX10_goes__194 (lv_at hl 1 rfl) ?_
              refine z_icmp_ge (tgt := 232) hx hb rfl rfl dX10_goes__196 (by decide) (fun c187 => ?_) (fun c187 => ?_)
              · skip
                refine lv_goto (tgt := 10) hx hb dX10_goes__232 (by decide) ?_
                exact ih_10 _ (by omega) _ _ _ ⟨K33, G181, G182, G183, G184, G185, G35, G186, DM180, w174, XX16, f179, rfl, (by first | decide | omega), (by first | decide | omega), (by omega), (by omega), hup, (by omega), hw, hf_mm, hf_ha, hf_dr, hf_ro, hf_lw, hf_st, hf_ct, hf_se, hf_th, hf_cn, hf_db, hf_be, hf_du, hf_fo, hfr, hq_ct, hq_be, hq_du, (lv_sub hl [4, 5] rfl)⟩
              · skip
                refine lv_aload_n hx hb dX10_goes__199 rfl (lv_at hl 5 rfl) ?_
                refine lv_aload_n hx hb dX10_goes__200 rfl (lv_at hl 5 rfl) ?_
                refine z_get (C := RX10) (T := TX10) (N := 54) (ci := 10) (v := .ref be) hx hb hT zin_X10 hown hK hw hm_mm hf_mm rfl 35 (by decide) (hT _ kw_1203) rfl dX10_goes__201 ?_
                refine lv_iload hx hb dX10_goes__204 (lv_at hl 0 rfl) ?_
                refine z_iald hx hb hK hw 1 hm_be hf_be rfl (z_ix rfl (by omega)) dX10_goes__206 ?_
                refine lv_topi (fun w188 e_w188 => ?_)
                have hv_w188 : 0 ≤ w188.toInt ∧ w188.toInt ≤ 2599 := by rw [e_w188]; exact hq_be _
                refine lv_sipush (v := 200) hx hb dX10_goes__207 (by decide) ?_
                refine lv_idiv hx hb dX10_goes__210 (by decide) ?_
                refine lv_topi (fun w189 e_w189 => ?_)
                have i_w189 : w189.toInt = w188.toInt / 200 := z_div e_w189 rfl (show (200 : Int32).toInt = 200 by decide) (by omega)
                refine lv_aload_n hx hb dX10_goes__211 rfl (lv_at hl 5 rfl) ?_
                refine z_get (C := RX10) (T := TX10) (N := 54) (ci := 10) (v := .ref be) hx hb hT zin_X10 hown hK hw hm_mm hf_mm rfl 35 (by decide) (hT _ kw_1203) rfl dX10_goes__212 ?_
                refine lv_iload hx hb dX10_goes__215 (lv_at hl 0 rfl) ?_
                refine z_iald hx hb hK hw 1 hm_be hf_be rfl (z_ix rfl (by omega)) dX10_goes__217 ?_
                refine lv_topi (fun w190 e_w190 => ?_)
                have hv_w190 : 0 ≤ w190.toInt ∧ w190.toInt ≤ 2599 := by rw [e_w190]; exact hq_be _
                refine lv_sipush (v := 200) hx hb dX10_goes__218 (by decide) ?_
                refine lv_irem hx hb dX10_goes__221 (by decide) ?_
                refine lv_topi (fun w191 e_w191 => ?_)
                have i_w191 : w191.toInt = (w190.toInt % 200) := z_remI e_w191 rfl (show (200 : Int32).toInt = 200 by decide) (by omega)
                refine lv_iload_n hx hb dX10_goes__222 rfl (lv_at hl 3 rfl) ?_
                refine z_callvV (cells := 0) (slots := 0) (b := mm) (As := [.int w189, .int w191, .int r29]) (rest := []) (ci := 10) (q0 := (RX10, TX10, 54)) ⟨hx, hb, hml, hown, hT⟩ (c_X10_passes l hm_mm hm_dr hm_lw hm_ha hm_th hm_se hm_fo hm_cn hm_ct hm_du hm_db hf_mm hf_dr hf_lw hf_ha hf_th hf_se hf_fo hf_cn hf_ct hf_du hf_db (Ne.symm ne_se_th) ne_th_cn ne_se_cn hq_dr hq_lw hq_ha hq_ct hq_du (by first | omega | decide | assumption) (by omega) (by omega) ⟨hi1, by omega, hi0⟩) (cwV 3 hT (z_goodV (fun _ h => h) kw_1575 kw_1577 kw_66 kw_96 kw_1578) rfl rfl rfl (by decide +kernel) ⟨by decide, by decide⟩) z_mv hKK hK hw hA hm_mm hf_mm rfl rfl rfl hl.1 rfl (Nat.le_of_ble_eq_true rfl) dX10_goes__223 ⟨by decide, by decide⟩ (fun u H locs hp hw => ?_)
                obtain ⟨L192, f193⟩ := u
                obtain ⟨hsb, hfm, d2_194, nth_195, nse_196, ncn_197, nct_198, ndu_199, ndb_200, ha_0, ha_1, ha_2, ha_3, ha_4, ha_5, ha_6, hq_ct, hq_du, hp⟩ := hp
                have hsb : L = L192 := hsb
                subst hsb
                have hsb : ∀ b ∈ L, b ∈ L := fun _ h => h
                have hw : z_H D vwCl (z_A L sz) s.heap L f193 H locs := hw
                have hfr : ∀ b ∈ L, b ≠ mm → b ≠ ro → b ≠ ct → b ≠ se → b ≠ th → b ≠ cn → b ≠ db → b ≠ be → b ≠ du → f193 b = f b := fun b hb h0 h1 h2 h3 h4 h5 h6 h7 h8 => (hfm b hb h0 h4 h3 h5 h2 h8 h6).trans (hfr b hb h0 h1 h2 h3 h4 h5 h6 h7 h8)
                have hf_ha : f193 ha = .inl (cy 1, 30, .inl gha) := (hfm ha hm_ha (z_tne hf_ha hf_mm (m := 340) (n := 10) rfl rfl (by decide)) (z_tne hf_ha hf_th (m := 340) (n := 388) rfl rfl (by decide)) (z_tne hf_ha hf_se (m := 340) (n := 388) rfl rfl (by decide)) (z_tne hf_ha hf_cn (m := 340) (n := 388) rfl rfl (by decide)) (z_tne hf_ha hf_ct (m := 340) (n := 132) rfl rfl (by decide)) (z_tne hf_ha hf_du (m := 340) (n := 41700) rfl rfl (by decide)) (z_tne hf_ha hf_db (m := 340) (n := 140) rfl rfl (by decide))).trans hf_ha
                have hf_dr : f193 dr = .inl (cy 1, 520, .inl gdr) := (hfm dr hm_dr (z_tne hf_dr hf_mm (m := 4260) (n := 10) rfl rfl (by decide)) (z_tne hf_dr hf_th (m := 4260) (n := 388) rfl rfl (by decide)) (z_tne hf_dr hf_se (m := 4260) (n := 388) rfl rfl (by decide)) (z_tne hf_dr hf_cn (m := 4260) (n := 388) rfl rfl (by decide)) (z_tne hf_dr hf_ct (m := 4260) (n := 132) rfl rfl (by decide)) (z_tne hf_dr hf_du (m := 4260) (n := 41700) rfl rfl (by decide)) (z_tne hf_dr hf_db (m := 4260) (n := 140) rfl rfl (by decide))).trans hf_dr
                have hf_ro : f193 ro = .inl (cy 1, 13, .inl nro_4) := (hfm ro hm_ro (z_tne hf_ro hf_mm (m := 204) (n := 10) rfl rfl (by decide)) (z_tne hf_ro hf_th (m := 204) (n := 388) rfl rfl (by decide)) (z_tne hf_ro hf_se (m := 204) (n := 388) rfl rfl (by decide)) (z_tne hf_ro hf_cn (m := 204) (n := 388) rfl rfl (by decide)) (z_tne hf_ro hf_ct (m := 204) (n := 132) rfl rfl (by decide)) (z_tne hf_ro hf_du (m := 204) (n := 41700) rfl rfl (by decide)) (z_tne hf_ro hf_db (m := 204) (n := 140) rfl rfl (by decide))).trans hf_ro
                have hf_lw : f193 lw = .inl (cy 1, 25, .inl glw) := (hfm lw hm_lw (z_tne hf_lw hf_mm (m := 300) (n := 10) rfl rfl (by decide)) (z_tne hf_lw hf_th (m := 300) (n := 388) rfl rfl (by decide)) (z_tne hf_lw hf_se (m := 300) (n := 388) rfl rfl (by decide)) (z_tne hf_lw hf_cn (m := 300) (n := 388) rfl rfl (by decide)) (z_tne hf_lw hf_ct (m := 300) (n := 132) rfl rfl (by decide)) (z_tne hf_lw hf_du (m := 300) (n := 41700) rfl rfl (by decide)) (z_tne hf_lw hf_db (m := 300) (n := 140) rfl rfl (by decide))).trans hf_lw
                have hf_st : f193 st = .inl (cy 1, 20, .inl gst) := (hfm st hm_st (z_tne hf_st hf_mm (m := 260) (n := 10) rfl rfl (by decide)) (z_tne hf_st hf_th (m := 260) (n := 388) rfl rfl (by decide)) (z_tne hf_st hf_se (m := 260) (n := 388) rfl rfl (by decide)) (z_tne hf_st hf_cn (m := 260) (n := 388) rfl rfl (by decide)) (z_tne hf_st hf_ct (m := 260) (n := 132) rfl rfl (by decide)) (z_tne hf_st hf_du (m := 260) (n := 41700) rfl rfl (by decide)) (z_tne hf_st hf_db (m := 260) (n := 140) rfl rfl (by decide))).trans hf_st
                have hf_be : f193 be = .inl (cy 1, 2574, .inl G35) := (hfm be hm_be (z_tne hf_be hf_mm (m := 20692) (n := 10) rfl rfl (by decide)) (z_tne hf_be hf_th (m := 20692) (n := 388) rfl rfl (by decide)) (z_tne hf_be hf_se (m := 20692) (n := 388) rfl rfl (by decide)) (z_tne hf_be hf_cn (m := 20692) (n := 388) rfl rfl (by decide)) (z_tne hf_be hf_ct (m := 20692) (n := 132) rfl rfl (by decide)) (z_tne hf_be hf_du (m := 20692) (n := 41700) rfl rfl (by decide)) (z_tne hf_be hf_db (m := 20692) (n := 140) rfl rfl (by decide))).trans hf_be
                have hf_fo : f193 fo = .inl (cy 1, 180, .inl gfo) := (hfm fo hm_fo (z_tne hf_fo hf_mm (m := 1540) (n := 10) rfl rfl (by decide)) (z_tne hf_fo hf_th (m := 1540) (n := 388) rfl rfl (by decide)) (z_tne hf_fo hf_se (m := 1540) (n := 388) rfl rfl (by decide)) (z_tne hf_fo hf_cn (m := 1540) (n := 388) rfl rfl (by decide)) (z_tne hf_fo hf_ct (m := 1540) (n := 132) rfl rfl (by decide)) (z_tne hf_fo hf_du (m := 1540) (n := 41700) rfl rfl (by decide)) (z_tne hf_fo hf_db (m := 1540) (n := 140) rfl rfl (by decide))).trans hf_fo
                have hf_mm : f193 mm = .inr (10, [.int m0, .ref wd, .ref my, .ref ce, .ref mv, .ref ta, .int m6, .int m7, .int m8, .int m9, .int m10, .long m11, .int m12, .int m13, .int m14, .int m15, .ref li, .ref ha, .ref lw, .ref st, .ref fo, .ref dr, .int m22, .ref ik, .int m24, .int m25, .long XX16, .int m27, .int m28, .ref ro, .int n2_3, .ref ct, .ref se, .ref th, .ref cn, .ref be, .int w174, .ref du, .int d2_194, .ref db, .int m40, .int m41, .int m42, .ref pn, .ref wg, .ref wh, .ref tn, .ref he, .int m48, .ref tr, .ref fd, .ref po, .int m52, .int m53]) := ha_0
                have hf_th : f193 th = .inl (cy 1, 36, .inl nth_195) := ha_1
                have hf_se : f193 se = .inl (cy 1, 36, .inl nse_196) := ha_2
                have hf_cn : f193 cn = .inl (cy 1, 36, .inl ncn_197) := ha_3
                have hf_ct : f193 ct = .inl (cy 1, 4, .inl nct_198) := ha_4
                have hf_du : f193 du = .inl (cy 1, 5200, .inl ndu_199) := ha_5
                have hf_db : f193 db = .inl (cy 1, 5, .inl ndb_200) := ha_6
                have hq201 := hp
                obtain ⟨k202, e_k202⟩ : ∃ z : Int32, z = K178 + 1 := ⟨_, rfl⟩
                refine lv_iinc (v := k202) (lv' := [(5, .int k202), (4, .int V36), (3, .int r32), (2, .int r29), (1, .int K33), (0, .ref mm)]) hx hb dX10_goes__226 hl (k := 0) rfl (by rw [e_k202]; rfl) (by decide) rfl (fun ls hl => ?_)
                have i_k202 : k202.toInt = (K178.toInt + 1) := z_add e_k202 rfl (by decide) (by omega)
                refine lv_goto (tgt := 192) hx hb dX10_goes__229 (by decide) ?_
                exact ih_192 _ (by omega) _ _ _ ⟨k202, nct_198, nse_196, nth_195, ncn_197, ndb_200, ndu_199, d2_194, f193, rfl, (by first | decide | omega), (by first | decide | omega), (by omega), (by omega), hw, hf_mm, hf_ha, hf_dr, hf_ro, hf_lw, hf_st, hf_ct, hf_se, hf_th, hf_cn, hf_db, hf_be, hf_du, hf_fo, hfr, hq_ct, hq_du, (lv_sub hl [0, 1, 2, 3, 4, 5] rfl)⟩
            · skip
              refine lv_aload_n hx hb dX10_goes__175 rfl (lv_at hl 4 rfl) ?_
              refine lv_iload hx hb dX10_goes__176 (lv_at hl 0 rfl) ?_
              refine z_callvV (cells := 0) (slots := 0) (b := mm) (As := [.int V36]) (rest := []) (ci := 10) (q0 := (RX10, TX10, 54)) ⟨hx, hb, hml, hown, hT⟩ (c_X10_mixes l hm_mm hm_be hf_mm hf_be hq_be (by first | omega | decide | assumption) (by first | omega | decide | assumption)) (cwV 1 hT (z_goodV (fun _ h => h) kw_1559 kw_1561 kw_63 kw_96 kw_1562) rfl rfl rfl (by decide +kernel) ⟨by decide, by decide⟩) z_mv hKK hK hw hA hm_mm hf_mm rfl rfl rfl hl.1 rfl (Nat.le_of_ble_eq_true rfl) dX10_goes__178 ⟨by decide, by decide⟩ (fun u H locs hp hw => ?_)
              obtain ⟨L203, f204⟩ := u
              obtain ⟨hsb, hfm, x2_205, nbe_206, ha_0, ha_1, hq_be, hp⟩ := hp
              have hsb : L = L203 := hsb
              subst hsb
              have hsb : ∀ b ∈ L, b ∈ L := fun _ h => h
              have hw : z_H D vwCl (z_A L sz) s.heap L f204 H locs := hw
              have hfr : ∀ b ∈ L, b ≠ mm → b ≠ ro → b ≠ ct → b ≠ se → b ≠ th → b ≠ cn → b ≠ db → b ≠ be → b ≠ du → f204 b = f b := fun b hb h0 h1 h2 h3 h4 h5 h6 h7 h8 => (hfm b hb h0 h7).trans (hfr b hb h0 h1 h2 h3 h4 h5 h6 h7 h8)
              have hf_ha : f204 ha = .inl (cy 1, 30, .inl gha) := (hfm ha hm_ha (z_tne hf_ha hf_mm (m := 340) (n := 10) rfl rfl (by decide)) (z_tne hf_ha hf_be (m := 340) (n := 20692) rfl rfl (by decide))).trans hf_ha
              have hf_dr : f204 dr = .inl (cy 1, 520, .inl gdr) := (hfm dr hm_dr (z_tne hf_dr hf_mm (m := 4260) (n := 10) rfl rfl (by decide)) (z_tne hf_dr hf_be (m := 4260) (n := 20692) rfl rfl (by decide))).trans hf_dr
              have hf_ro : f204 ro = .inl (cy 1, 13, .inl nro_4) := (hfm ro hm_ro (z_tne hf_ro hf_mm (m := 204) (n := 10) rfl rfl (by decide)) (z_tne hf_ro hf_be (m := 204) (n := 20692) rfl rfl (by decide))).trans hf_ro
              have hf_lw : f204 lw = .inl (cy 1, 25, .inl glw) := (hfm lw hm_lw (z_tne hf_lw hf_mm (m := 300) (n := 10) rfl rfl (by decide)) (z_tne hf_lw hf_be (m := 300) (n := 20692) rfl rfl (by decide))).trans hf_lw
              have hf_st : f204 st = .inl (cy 1, 20, .inl gst) := (hfm st hm_st (z_tne hf_st hf_mm (m := 260) (n := 10) rfl rfl (by decide)) (z_tne hf_st hf_be (m := 260) (n := 20692) rfl rfl (by decide))).trans hf_st
              have hf_ct : f204 ct = .inl (cy 1, 4, .inl G17) := (hfm ct hm_ct (z_tne hf_ct hf_mm (m := 132) (n := 10) rfl rfl (by decide)) (z_tne hf_ct hf_be (m := 132) (n := 20692) rfl rfl (by decide))).trans hf_ct
              have hf_se : f204 se = .inl (cy 1, 36, .inl G18) := (hfm se hm_se (z_tne hf_se hf_mm (m := 388) (n := 10) rfl rfl (by decide)) (z_tne hf_se hf_be (m := 388) (n := 20692) rfl rfl (by decide))).trans hf_se
              have hf_th : f204 th = .inl (cy 1, 36, .inl G19) := (hfm th hm_th (z_tne hf_th hf_mm (m := 388) (n := 10) rfl rfl (by decide)) (z_tne hf_th hf_be (m := 388) (n := 20692) rfl rfl (by decide))).trans hf_th
              have hf_cn : f204 cn = .inl (cy 1, 36, .inl G20) := (hfm cn hm_cn (z_tne hf_cn hf_mm (m := 388) (n := 10) rfl rfl (by decide)) (z_tne hf_cn hf_be (m := 388) (n := 20692) rfl rfl (by decide))).trans hf_cn
              have hf_db : f204 db = .inl (cy 1, 5, .inl G21) := (hfm db hm_db (z_tne hf_db hf_mm (m := 140) (n := 10) rfl rfl (by decide)) (z_tne hf_db hf_be (m := 140) (n := 20692) rfl rfl (by decide))).trans hf_db
              have hf_du : f204 du = .inl (cy 1, 5200, .inl G23) := (hfm du hm_du (z_tne hf_du hf_mm (m := 41700) (n := 10) rfl rfl (by decide)) (z_tne hf_du hf_be (m := 41700) (n := 20692) rfl rfl (by decide))).trans hf_du
              have hf_fo : f204 fo = .inl (cy 1, 180, .inl gfo) := (hfm fo hm_fo (z_tne hf_fo hf_mm (m := 1540) (n := 10) rfl rfl (by decide)) (z_tne hf_fo hf_be (m := 1540) (n := 20692) rfl rfl (by decide))).trans hf_fo
              have hf_mm : f204 mm = .inr (10, [.int m0, .ref wd, .ref my, .ref ce, .ref mv, .ref ta, .int m6, .int m7, .int m8, .int m9, .int m10, .long m11, .int m12, .int m13, .int m14, .int m15, .ref li, .ref ha, .ref lw, .ref st, .ref fo, .ref dr, .int m22, .ref ik, .int m24, .int m25, .long x2_205, .int m27, .int m28, .ref ro, .int n2_3, .ref ct, .ref se, .ref th, .ref cn, .ref be, .int DN15, .ref du, .int DM14, .ref db, .int m40, .int m41, .int m42, .ref pn, .ref wg, .ref wh, .ref tn, .ref he, .int m48, .ref tr, .ref fd, .ref po, .int m52, .int m53]) := ha_0
              have hf_be : f204 be = .inl (cy 1, 2574, .inl nbe_206) := ha_1
              have hq207 := hp
              refine lv_aload_n hx hb dX10_goes__181 rfl (lv_at hl 4 rfl) ?_
              refine lv_iload_n hx hb dX10_goes__182 rfl (lv_at hl 2 rfl) ?_
              refine lv_bipush (v := 24) hx hb dX10_goes__183 (by decide) ?_
              refine lv_idiv hx hb dX10_goes__185 (by decide) ?_
              refine lv_topi (fun w208 e_w208 => ?_)
              have i_w208 : w208.toInt = r29.toInt / 24 := z_div e_w208 rfl (show (24 : Int32).toInt = 24 by decide) (by omega)
              refine z_callvV (cells := 0) (slots := 0) (b := mm) (As := [.int w208]) (rest := []) (ci := 10) (q0 := (RX10, TX10, 54)) ⟨hx, hb, hml, hown, hT⟩ (c_X10_dawns l hm_mm hm_lw hm_ct hf_mm hf_lw hf_ct hq_lw hq_ct) (cwV 1 hT (z_goodV (fun _ h => h) kw_1571 kw_1573 kw_65 kw_96 kw_1574) rfl rfl rfl (by decide +kernel) ⟨by decide, by decide⟩) z_mv hKK hK hw hA hm_mm hf_mm rfl rfl rfl hl.1 rfl (Nat.le_of_ble_eq_true rfl) dX10_goes__186 ⟨by decide, by decide⟩ (fun u H locs hp hw => ?_)
              obtain ⟨L209, f210⟩ := u
              obtain ⟨hsb, hfm, nct_211, ha_0, ha_1, hq_ct, hp⟩ := hp
              have hsb : L = L209 := hsb
              subst hsb
              have hsb : ∀ b ∈ L, b ∈ L := fun _ h => h
              have hw : z_H D vwCl (z_A L sz) s.heap L f210 H locs := hw
              have hfr : ∀ b ∈ L, b ≠ mm → b ≠ ro → b ≠ ct → b ≠ se → b ≠ th → b ≠ cn → b ≠ db → b ≠ be → b ≠ du → f210 b = f b := fun b hb h0 h1 h2 h3 h4 h5 h6 h7 h8 => (hfm b hb h0 h2).trans (hfr b hb h0 h1 h2 h3 h4 h5 h6 h7 h8)
              have hf_ha : f210 ha = .inl (cy 1, 30, .inl gha) := (hfm ha hm_ha (z_tne hf_ha hf_mm (m := 340) (n := 10) rfl rfl (by decide)) (z_tne hf_ha hf_ct (m := 340) (n := 132) rfl rfl (by decide))).trans hf_ha
              have hf_dr : f210 dr = .inl (cy 1, 520, .inl gdr) := (hfm dr hm_dr (z_tne hf_dr hf_mm (m := 4260) (n := 10) rfl rfl (by decide)) (z_tne hf_dr hf_ct (m := 4260) (n := 132) rfl rfl (by decide))).trans hf_dr
              have hf_ro : f210 ro = .inl (cy 1, 13, .inl nro_4) := (hfm ro hm_ro (z_tne hf_ro hf_mm (m := 204) (n := 10) rfl rfl (by decide)) (z_tne hf_ro hf_ct (m := 204) (n := 132) rfl rfl (by decide))).trans hf_ro
              have hf_lw : f210 lw = .inl (cy 1, 25, .inl glw) := (hfm lw hm_lw (z_tne hf_lw hf_mm (m := 300) (n := 10) rfl rfl (by decide)) (z_tne hf_lw hf_ct (m := 300) (n := 132) rfl rfl (by decide))).trans hf_lw
              have hf_st : f210 st = .inl (cy 1, 20, .inl gst) := (hfm st hm_st (z_tne hf_st hf_mm (m := 260) (n := 10) rfl rfl (by decide)) (z_tne hf_st hf_ct (m := 260) (n := 132) rfl rfl (by decide))).trans hf_st
              have hf_se : f210 se = .inl (cy 1, 36, .inl G18) := (hfm se hm_se (z_tne hf_se hf_mm (m := 388) (n := 10) rfl rfl (by decide)) (z_tne hf_se hf_ct (m := 388) (n := 132) rfl rfl (by decide))).trans hf_se
              have hf_th : f210 th = .inl (cy 1, 36, .inl G19) := (hfm th hm_th (z_tne hf_th hf_mm (m := 388) (n := 10) rfl rfl (by decide)) (z_tne hf_th hf_ct (m := 388) (n := 132) rfl rfl (by decide))).trans hf_th
              have hf_cn : f210 cn = .inl (cy 1, 36, .inl G20) := (hfm cn hm_cn (z_tne hf_cn hf_mm (m := 388) (n := 10) rfl rfl (by decide)) (z_tne hf_cn hf_ct (m := 388) (n := 132) rfl rfl (by decide))).trans hf_cn
              have hf_db : f210 db = .inl (cy 1, 5, .inl G21) := (hfm db hm_db (z_tne hf_db hf_mm (m := 140) (n := 10) rfl rfl (by decide)) (z_tne hf_db hf_ct (m := 140) (n := 132) rfl rfl (by decide))).trans hf_db
              have hf_be : f210 be = .inl (cy 1, 2574, .inl nbe_206) := (hfm be hm_be (z_tne hf_be hf_mm (m := 20692) (n := 10) rfl rfl (by decide)) (z_tne hf_be hf_ct (m := 20692) (n := 132) rfl rfl (by decide))).trans hf_be
              have hf_du : f210 du = .inl (cy 1, 5200, .inl G23) := (hfm du hm_du (z_tne hf_du hf_mm (m := 41700) (n := 10) rfl rfl (by decide)) (z_tne hf_du hf_ct (m := 41700) (n := 132) rfl rfl (by decide))).trans hf_du
              have hf_fo : f210 fo = .inl (cy 1, 180, .inl gfo) := (hfm fo hm_fo (z_tne hf_fo hf_mm (m := 1540) (n := 10) rfl rfl (by decide)) (z_tne hf_fo hf_ct (m := 1540) (n := 132) rfl rfl (by decide))).trans hf_fo
              have hf_mm : f210 mm = .inr (10, [.int m0, .ref wd, .ref my, .ref ce, .ref mv, .ref ta, .int m6, .int m7, .int m8, .int m9, .int m10, .long m11, .int m12, .int m13, .int m14, .int m15, .ref li, .ref ha, .ref lw, .ref st, .ref fo, .ref dr, .int m22, .ref ik, .int m24, .int m25, .long x2_205, .int m27, .int m28, .ref ro, .int n2_3, .ref ct, .ref se, .ref th, .ref cn, .ref be, .int w208, .ref du, .int DM14, .ref db, .int m40, .int m41, .int m42, .ref pn, .ref wg, .ref wh, .ref tn, .ref he, .int m48, .ref tr, .ref fd, .ref po, .int m52, .int m53]) := ha_0
              have hf_ct : f210 ct = .inl (cy 1, 4, .inl nct_211) := ha_1
              have hdw := hp
              refine lv_iconst (v := 0) hx hb dX10_goes__189 (by decide) ?_
              refine lv_istore (lv' := [(5, .int 0), (4, .int V36), (3, .int r32), (2, .int r29), (1, .int K33), (0, .ref mm)]) hx hb dX10_goes__190 hl (by decide) rfl (fun ls hl => ?_)
              have hzk : (0 : Int32).toInt = 0 := by decide
              refine z_loop (fun n H locs ls => ∃ (K212 : Int32) (G215 : Nat → Int32) (G216 : Nat → Int32) (G217 : Nat → Int32) (G218 : Nat → Int32) (G219 : Nat → Int32) (G220 : Nat → Int32) (DM214 : Int32) (f213 : Nat → va_E), (n = (V36.toInt - K212.toInt).toNat) ∧ (0 ≤ K212.toInt) ∧ (K212.toInt ≤ V36.toInt) ∧ (0 ≤ DM214.toInt) ∧ (2 * DM214.toInt + z_ph G215 ≤ 4 + 198 * K12.toInt + K212.toInt) ∧ (z_H D vwCl (z_A L sz) s.heap L f213 H locs) ∧ (f213 mm = .inr (10, [.int m0, .ref wd, .ref my, .ref ce, .ref mv, .ref ta, .int m6, .int m7, .int m8, .int m9, .int m10, .long m11, .int m12, .int m13, .int m14, .int m15, .ref li, .ref ha, .ref lw, .ref st, .ref fo, .ref dr, .int m22, .ref ik, .int m24, .int m25, .long x2_205, .int m27, .int m28, .ref ro, .int n2_3, .ref ct, .ref se, .ref th, .ref cn, .ref be, .int w208, .ref du, .int DM214, .ref db, .int m40, .int m41, .int m42, .ref pn, .ref wg, .ref wh, .ref tn, .ref he, .int m48, .ref tr, .ref fd, .ref po, .int m52, .int m53])) ∧ (f213 ha = .inl (cy 1, 30, .inl gha)) ∧ (f213 dr = .inl (cy 1, 520, .inl gdr)) ∧ (f213 ro = .inl (cy 1, 13, .inl nro_4)) ∧ (f213 lw = .inl (cy 1, 25, .inl glw)) ∧ (f213 st = .inl (cy 1, 20, .inl gst)) ∧ (f213 ct = .inl (cy 1, 4, .inl G215)) ∧ (f213 se = .inl (cy 1, 36, .inl G216)) ∧ (f213 th = .inl (cy 1, 36, .inl G217)) ∧ (f213 cn = .inl (cy 1, 36, .inl G218)) ∧ (f213 db = .inl (cy 1, 5, .inl G219)) ∧ (f213 be = .inl (cy 1, 2574, .inl nbe_206)) ∧ (f213 du = .inl (cy 1, 5200, .inl G220)) ∧ (f213 fo = .inl (cy 1, 180, .inl gfo)) ∧ (∀ b ∈ L, b ≠ mm → b ≠ ro → b ≠ ct → b ≠ se → b ≠ th → b ≠ cn → b ≠ db → b ≠ be → b ≠ du → f213 b = f b) ∧ (∀ j : Nat, q_law j (G215 j)) ∧ (∀ j : Nat, q_du j (G220 j)) ∧ (lv_has ls 7 [(5, .int K212), (4, .int V36), (3, .int r32), (2, .int r29), (1, .int K33), (0, .ref mm)])) _ ⟨0, nct_211, G18, G19, G20, G21, G23, DM14, f210, rfl, (by first | decide | omega), (by first | decide | omega), (by omega), (by omega), hw, hf_mm, hf_ha, hf_dr, hf_ro, hf_lw, hf_st, hf_ct, hf_se, hf_th, hf_cn, hf_db, hf_be, hf_du, hf_fo, hfr, hq_ct, hq_du, (lv_sub hl [0, 1, 2, 3, 4, 5] rfl)⟩ (fun n H locs ls hI ih_192 => ?_)
              obtain ⟨K212, G215, G216, G217, G218, G219, G220, DM214, f213, hn, hk0, hk1, hi0, hi1, hw, hf_mm, hf_ha, hf_dr, hf_ro, hf_lw, hf_st, hf_ct, hf_se, hf_th, hf_cn, hf_db, hf_be, hf_du, hf_fo, hfr, hq_ct, hq_du, hl⟩ := hI
              refine lv_iload hx hb dX10_goes__192 (lv_at hl 0 rfl) ?_
              refine lv_iload hx hb dX10_goes__194 (lv_at hl 1 rfl) ?_
              refine z_icmp_ge (tgt := 232) hx hb rfl rfl dX10_goes__196 (by decide) (fun c221 => ?_) (fun c221 => ?_)
              · skip
                refine lv_goto (tgt := 10) hx hb dX10_goes__232 (by decide) ?_
                exact ih_10 _ (by omega) _ _ _ ⟨K33, G215, G216, G217, G218, G219, nbe_206, G220, DM214, w208, x2_205, f213, rfl, (by first | decide | omega), (by first | decide | omega), (by omega), (by omega), hup, (by omega), hw, hf_mm, hf_ha, hf_dr, hf_ro, hf_lw, hf_st, hf_ct, hf_se, hf_th, hf_cn, hf_db, hf_be, hf_du, hf_fo, hfr, hq_ct, hq_be, hq_du, (lv_sub hl [4, 5] rfl)⟩
              · skip
                refine lv_aload_n hx hb dX10_goes__199 rfl (lv_at hl 5 rfl) ?_
                refine lv_aload_n hx hb dX10_goes__200 rfl (lv_at hl 5 rfl) ?_
                refine z_get (C := RX10) (T := TX10) (N := 54) (ci := 10) (v := .ref be) hx hb hT zin_X10 hown hK hw hm_mm hf_mm rfl 35 (by decide) (hT _ kw_1203) rfl dX10_goes__201 ?_
                refine lv_iload hx hb dX10_goes__204 (lv_at hl 0 rfl) ?_
                refine z_iald hx hb hK hw 1 hm_be hf_be rfl (z_ix rfl (by omega)) dX10_goes__206 ?_
                refine lv_topi (fun w222 e_w222 => ?_)
                have hv_w222 : 0 ≤ w222.toInt ∧ w222.toInt ≤ 2599 := by rw [e_w222]; exact hq_be _
                refine lv_sipush (v := 200) hx hb dX10_goes__207 (by decide) ?_
                refine lv_idiv hx hb dX10_goes__210 (by decide) ?_
                refine lv_topi (fun w223 e_w223 => ?_)
                have i_w223 : w223.toInt = w222.toInt / 200 := z_div e_w223 rfl (show (200 : Int32).toInt = 200 by decide) (by omega)
                refine lv_aload_n hx hb dX10_goes__211 rfl (lv_at hl 5 rfl) ?_
                refine z_get (C := RX10) (T := TX10) (N := 54) (ci := 10) (v := .ref be) hx hb hT zin_X10 hown hK hw hm_mm hf_mm rfl 35 (by decide) (hT _ kw_1203) rfl dX10_goes__212 ?_
                refine lv_iload hx hb dX10_goes__215 (lv_at hl 0 rfl) ?_
                refine z_iald hx hb hK hw 1 hm_be hf_be rfl (z_ix rfl (by omega)) dX10_goes__217 ?_
                refine lv_topi (fun w224 e_w224 => ?_)
                have hv_w224 : 0 ≤ w224.toInt ∧ w224.toInt ≤ 2599 := by rw [e_w224]; exact hq_be _
                refine lv_sipush (v := 200) hx hb dX10_goes__218 (by decide) ?_
                refine lv_irem hx hb dX10_goes__221 (by decide) ?_
                refine lv_topi (fun w225 e_w225 => ?_)
                have i_w225 : w225.toInt = (w224.toInt % 200) := z_remI e_w225 rfl (show (200 : Int32).toInt = 200 by decide) (by omega)
                refine lv_iload_n hx hb dX10_goes__222 rfl (lv_at hl 3 rfl) ?_
                refine z_callvV (cells := 0) (slots := 0) (b := mm) (As := [.int w223, .int w225, .int r29]) (rest := []) (ci := 10) (q0 := (RX10, TX10, 54)) ⟨hx, hb, hml, hown, hT⟩ (c_X10_passes l hm_mm hm_dr hm_lw hm_ha hm_th hm_se hm_fo hm_cn hm_ct hm_du hm_db hf_mm hf_dr hf_lw hf_ha hf_th hf_se hf_fo hf_cn hf_ct hf_du hf_db (Ne.symm ne_se_th) ne_th_cn ne_se_cn hq_dr hq_lw hq_ha hq_ct hq_du (by first | omega | decide | assumption) (by omega) (by omega) ⟨hi1, by omega, hi0⟩) (cwV 3 hT (z_goodV (fun _ h => h) kw_1575 kw_1577 kw_66 kw_96 kw_1578) rfl rfl rfl (by decide +kernel) ⟨by decide, by decide⟩) z_mv hKK hK hw hA hm_mm hf_mm rfl rfl rfl hl.1 rfl (Nat.le_of_ble_eq_true rfl) dX10_goes__223 ⟨by decide, by decide⟩ (fun u H locs hp hw => ?_)
                obtain ⟨L226, f227⟩ := u
                obtain ⟨hsb, hfm, d2_228, nth_229, nse_230, ncn_231, nct_232, ndu_233, ndb_234, ha_0, ha_1, ha_2, ha_3, ha_4, ha_5, ha_6, hq_ct, hq_du, hp⟩ := hp
                have hsb : L = L226 := hsb
                subst hsb
                have hsb : ∀ b ∈ L, b ∈ L := fun _ h => h
                have hw : z_H D vwCl (z_A L sz) s.heap L f227 H locs := hw
                have hfr : ∀ b ∈ L, b ≠ mm → b ≠ ro → b ≠ ct → b ≠ se → b ≠ th → b ≠ cn → b ≠ db → b ≠ be → b ≠ du → f227 b = f b := fun b hb h0 h1 h2 h3 h4 h5 h6 h7 h8 => (hfm b hb h0 h4 h3 h5 h2 h8 h6).trans (hfr b hb h0 h1 h2 h3 h4 h5 h6 h7 h8)
                have hf_ha : f227 ha = .inl (cy 1, 30, .inl gha) := (hfm ha hm_ha (z_tne hf_ha hf_mm (m := 340) (n := 10) rfl rfl (by decide)) (z_tne hf_ha hf_th (m := 340) (n := 388) rfl rfl (by decide)) (z_tne hf_ha hf_se (m := 340) (n := 388) rfl rfl (by decide)) (z_tne hf_ha hf_cn (m := 340) (n := 388) rfl rfl (by decide)) (z_tne hf_ha hf_ct (m := 340) (n := 132) rfl rfl (by decide)) (z_tne hf_ha hf_du (m := 340) (n := 41700) rfl rfl (by decide)) (z_tne hf_ha hf_db (m := 340) (n := 140) rfl rfl (by decide))).trans hf_ha
                have hf_dr : f227 dr = .inl (cy 1, 520, .inl gdr) := (hfm dr hm_dr (z_tne hf_dr hf_mm (m := 4260) (n := 10) rfl rfl (by decide)) (z_tne hf_dr hf_th (m := 4260) (n := 388) rfl rfl (by decide)) (z_tne hf_dr hf_se (m := 4260) (n := 388) rfl rfl (by decide)) (z_tne hf_dr hf_cn (m := 4260) (n := 388) rfl rfl (by decide)) (z_tne hf_dr hf_ct (m := 4260) (n := 132) rfl rfl (by decide)) (z_tne hf_dr hf_du (m := 4260) (n := 41700) rfl rfl (by decide)) (z_tne hf_dr hf_db (m := 4260) (n := 140) rfl rfl (by decide))).trans hf_dr
                have hf_ro : f227 ro = .inl (cy 1, 13, .inl nro_4) := (hfm ro hm_ro (z_tne hf_ro hf_mm (m := 204) (n := 10) rfl rfl (by decide)) (z_tne hf_ro hf_th (m := 204) (n := 388) rfl rfl (by decide)) (z_tne hf_ro hf_se (m := 204) (n := 388) rfl rfl (by decide)) (z_tne hf_ro hf_cn (m := 204) (n := 388) rfl rfl (by decide)) (z_tne hf_ro hf_ct (m := 204) (n := 132) rfl rfl (by decide)) (z_tne hf_ro hf_du (m := 204) (n := 41700) rfl rfl (by decide)) (z_tne hf_ro hf_db (m := 204) (n := 140) rfl rfl (by decide))).trans hf_ro
                have hf_lw : f227 lw = .inl (cy 1, 25, .inl glw) := (hfm lw hm_lw (z_tne hf_lw hf_mm (m := 300) (n := 10) rfl rfl (by decide)) (z_tne hf_lw hf_th (m := 300) (n := 388) rfl rfl (by decide)) (z_tne hf_lw hf_se (m := 300) (n := 388) rfl rfl (by decide)) (z_tne hf_lw hf_cn (m := 300) (n := 388) rfl rfl (by decide)) (z_tne hf_lw hf_ct (m := 300) (n := 132) rfl rfl (by decide)) (z_tne hf_lw hf_du (m := 300) (n := 41700) rfl rfl (by decide)) (z_tne hf_lw hf_db (m := 300) (n := 140) rfl rfl (by decide))).trans hf_lw
                have hf_st : f227 st = .inl (cy 1, 20, .inl gst) := (hfm st hm_st (z_tne hf_st hf_mm (m := 260) (n := 10) rfl rfl (by decide)) (z_tne hf_st hf_th (m := 260) (n := 388) rfl rfl (by decide)) (z_tne hf_st hf_se (m := 260) (n := 388) rfl rfl (by decide)) (z_tne hf_st hf_cn (m := 260) (n := 388) rfl rfl (by decide)) (z_tne hf_st hf_ct (m := 260) (n := 132) rfl rfl (by decide)) (z_tne hf_st hf_du (m := 260) (n := 41700) rfl rfl (by decide)) (z_tne hf_st hf_db (m := 260) (n := 140) rfl rfl (by decide))).trans hf_st
                have hf_be : f227 be = .inl (cy 1, 2574, .inl nbe_206) := (hfm be hm_be (z_tne hf_be hf_mm (m := 20692) (n := 10) rfl rfl (by decide)) (z_tne hf_be hf_th (m := 20692) (n := 388) rfl rfl (by decide)) (z_tne hf_be hf_se (m := 20692) (n := 388) rfl rfl (by decide)) (z_tne hf_be hf_cn (m := 20692) (n := 388) rfl rfl (by decide)) (z_tne hf_be hf_ct (m := 20692) (n := 132) rfl rfl (by decide)) (z_tne hf_be hf_du (m := 20692) (n := 41700) rfl rfl (by decide)) (z_tne hf_be hf_db (m := 20692) (n := 140) rfl rfl (by decide))).trans hf_be
                have hf_fo : f227 fo = .inl (cy 1, 180, .inl gfo) := (hfm fo hm_fo (z_tne hf_fo hf_mm (m := 1540) (n := 10) rfl rfl (by decide)) (z_tne hf_fo hf_th (m := 1540) (n := 388) rfl rfl (by decide)) (z_tne hf_fo hf_se (m := 1540) (n := 388) rfl rfl (by decide)) (z_tne hf_fo hf_cn (m := 1540) (n := 388) rfl rfl (by decide)) (z_tne hf_fo hf_ct (m := 1540) (n := 132) rfl rfl (by decide)) (z_tne hf_fo hf_du (m := 1540) (n := 41700) rfl rfl (by decide)) (z_tne hf_fo hf_db (m := 1540) (n := 140) rfl rfl (by decide))).trans hf_fo
                have hf_mm : f227 mm = .inr (10, [.int m0, .ref wd, .ref my, .ref ce, .ref mv, .ref ta, .int m6, .int m7, .int m8, .int m9, .int m10, .long m11, .int m12, .int m13, .int m14, .int m15, .ref li, .ref ha, .ref lw, .ref st, .ref fo, .ref dr, .int m22, .ref ik, .int m24, .int m25, .long x2_205, .int m27, .int m28, .ref ro, .int n2_3, .ref ct, .ref se, .ref th, .ref cn, .ref be, .int w208, .ref du, .int d2_228, .ref db, .int m40, .int m41, .int m42, .ref pn, .ref wg, .ref wh, .ref tn, .ref he, .int m48, .ref tr, .ref fd, .ref po, .int m52, .int m53]) := ha_0
                have hf_th : f227 th = .inl (cy 1, 36, .inl nth_229) := ha_1
                have hf_se : f227 se = .inl (cy 1, 36, .inl nse_230) := ha_2
                have hf_cn : f227 cn = .inl (cy 1, 36, .inl ncn_231) := ha_3
                have hf_ct : f227 ct = .inl (cy 1, 4, .inl nct_232) := ha_4
                have hf_du : f227 du = .inl (cy 1, 5200, .inl ndu_233) := ha_5
                have hf_db : f227 db = .inl (cy 1, 5, .inl ndb_234) := ha_6
                have hq235 := hp
                obtain ⟨k236, e_k236⟩ : ∃ z : Int32, z = K212 + 1 := ⟨_, rfl⟩
                refine lv_iinc (v := k236) (lv' := [(5, .int k236), (4, .int V36), (3, .int r32), (2, .int r29), (1, .int K33), (0, .ref mm)]) hx hb dX10_goes__226 hl (k := 0) rfl (by rw [e_k236]; rfl) (by decide) rfl (fun ls hl => ?_)
                have i_k236 : k236.toInt = (K212.toInt + 1) := z_add e_k236 rfl (by decide) (by omega)
                refine lv_goto (tgt := 192) hx hb dX10_goes__229 (by decide) ?_
                exact ih_192 _ (by omega) _ _ _ ⟨k236, nct_232, nse_230, nth_229, ncn_231, ndb_234, ndu_233, d2_228, f227, rfl, (by first | decide | omega), (by first | decide | omega), (by omega), (by omega), hw, hf_mm, hf_ha, hf_dr, hf_ro, hf_lw, hf_st, hf_ct, hf_se, hf_th, hf_cn, hf_db, hf_be, hf_du, hf_fo, hfr, hq_ct, hq_du, (lv_sub hl [0, 1, 2, 3, 4, 5] rfl)⟩
          · skip
            refine lv_aload_n hx hb dX10_goes__98 rfl (lv_at hl 4 rfl) ?_
            refine lv_aload_n hx hb dX10_goes__99 rfl (lv_at hl 4 rfl) ?_
            refine z_get (C := RX10) (T := TX10) (N := 54) (ci := 10) (v := .ref ro) hx hb hT zin_X10 hown hK hw hm_mm hf_mm rfl 29 (by decide) (hT _ kw_1197) rfl dX10_goes__100 ?_
            refine lv_iload_n hx hb dX10_goes__103 rfl (lv_at hl 3 rfl) ?_
            refine z_iald hx hb hK hw 1 hm_ro hf_ro rfl (z_ix rfl (by omega)) dX10_goes__104 ?_
            refine lv_topi (fun w237 e_w237 => ?_)
            have hv_w237 : 0 ≤ w237.toInt ∧ w237.toInt ≤ 12 := by rw [e_w237]; exact hq_ro _
            refine lv_iconst (v := 4) hx hb dX10_goes__105 (by decide) ?_
            have hz238 := (show (4 : Int32).toInt = 4 by decide)
            refine z_calliV (cells := 0) (slots := 0) (b := mm) (As := [.int w237, .int 4]) (rest := []) (ci := 10) (q0 := (RX10, TX10, 54)) ⟨hx, hb, hml, hown, hT⟩ (c_X10_of l hm_mm hm_dr hf_mm hf_dr hq_dr (by first | omega | decide | assumption) (by decide)) (cwV 2 hT (z_goodV (fun _ h => h) kw_1487 kw_1489 kw_51 kw_96 kw_1490) rfl rfl rfl (by decide +kernel) ⟨by decide, by decide⟩) z_mv hKK hK hw hA hm_mm hf_mm rfl rfl rfl hl.1 rfl (Nat.le_of_ble_eq_true rfl) dX10_goes__106 ⟨by decide, by decide⟩ (fun r239 u H locs hp hw => ?_)
            obtain ⟨rfl, hp⟩ := hp
            have hw : z_H D vwCl (z_A L sz) s.heap L f34 H locs := hw
            have hof_r239 : r239 = gdr (8 * w237.toNatClampNeg + 4) := hp
            have hh_r239 : 0 ≤ r239.toInt ∧ r239.toInt ≤ 99 := by rw [hof_r239]; exact (hq_dr _).2.2.2.2.1 (by omega)
            refine lv_aload_n hx hb dX10_goes__109 rfl (lv_at hl 4 rfl) ?_
            refine lv_aload_n hx hb dX10_goes__110 rfl (lv_at hl 4 rfl) ?_
            refine z_get (C := RX10) (T := TX10) (N := 54) (ci := 10) (v := .ref ro) hx hb hT zin_X10 hown hK hw hm_mm hf_mm rfl 29 (by decide) (hT _ kw_1197) rfl dX10_goes__111 ?_
            refine lv_iload_n hx hb dX10_goes__114 rfl (lv_at hl 3 rfl) ?_
            refine z_iald hx hb hK hw 1 hm_ro hf_ro rfl (z_ix rfl (by omega)) dX10_goes__115 ?_
            refine lv_topi (fun w240 e_w240 => ?_)
            have hv_w240 : 0 ≤ w240.toInt ∧ w240.toInt ≤ 12 := by rw [e_w240]; exact hq_ro _
            refine lv_iconst (v := 5) hx hb dX10_goes__116 (by decide) ?_
            have hz241 := (show (5 : Int32).toInt = 5 by decide)
            refine z_calliV (cells := 0) (slots := 0) (b := mm) (As := [.int w240, .int 5]) (rest := [.int r239]) (ci := 10) (q0 := (RX10, TX10, 54)) ⟨hx, hb, hml, hown, hT⟩ (c_X10_of l hm_mm hm_dr hf_mm hf_dr hq_dr (by first | omega | decide | assumption) (by decide)) (cwV 2 hT (z_goodV (fun _ h => h) kw_1487 kw_1489 kw_51 kw_96 kw_1490) rfl rfl rfl (by decide +kernel) ⟨by decide, by decide⟩) z_mv hKK hK hw hA hm_mm hf_mm rfl rfl rfl hl.1 rfl (Nat.le_of_ble_eq_true rfl) dX10_goes__117 ⟨by decide, by decide⟩ (fun r242 u H locs hp hw => ?_)
            obtain ⟨rfl, hp⟩ := hp
            have hw : z_H D vwCl (z_A L sz) s.heap L f34 H locs := hw
            have hof_r242 : r242 = gdr (8 * w240.toNatClampNeg + 5) := hp
            have hh_r242 : 0 ≤ r242.toInt ∧ r242.toInt ≤ 99 := by rw [hof_r242]; exact (hq_dr _).2.2.2.2.2.1 (by omega)
            refine lv_iadd hx hb dX10_goes__120 ?_
            refine lv_topi (fun w243 e_w243 => ?_)
            have i_w243 : w243.toInt = (r239.toInt + r242.toInt) := z_add e_w243 rfl rfl (by omega)
            refine lv_istore (lv' := [(5, .int w243), (4, .int V36), (3, .int r32), (2, .int r29), (1, .int K33), (0, .ref mm)]) hx hb dX10_goes__121 hl (by decide) rfl (fun ls hl => ?_)
            refine lv_iconst (v := 0) hx hb dX10_goes__123 (by decide) ?_
            refine lv_istore (lv' := [(6, .int 0), (5, .int w243), (4, .int V36), (3, .int r32), (2, .int r29), (1, .int K33), (0, .ref mm)]) hx hb dX10_goes__124 hl (by decide) rfl (fun ls hl => ?_)
            have hzk : (0 : Int32).toInt = 0 := by decide
            refine z_loop (fun n H locs ls => ∃ (K244 : Int32) (G246 : Nat → Int32) (V247 : Int32) (f245 : Nat → va_E), (n = (w243.toInt - K244.toInt).toNat) ∧ (0 ≤ K244.toInt) ∧ (K244.toInt ≤ w243.toInt) ∧ (V247.toInt = V36.toInt + K244.toInt) ∧ (z_H D vwCl (z_A L sz) s.heap L f245 H locs) ∧ (f245 mm = .inr (10, [.int m0, .ref wd, .ref my, .ref ce, .ref mv, .ref ta, .int m6, .int m7, .int m8, .int m9, .int m10, .long m11, .int m12, .int m13, .int m14, .int m15, .ref li, .ref ha, .ref lw, .ref st, .ref fo, .ref dr, .int m22, .ref ik, .int m24, .int m25, .long XX16, .int m27, .int m28, .ref ro, .int n2_3, .ref ct, .ref se, .ref th, .ref cn, .ref be, .int DN15, .ref du, .int DM14, .ref db, .int m40, .int m41, .int m42, .ref pn, .ref wg, .ref wh, .ref tn, .ref he, .int m48, .ref tr, .ref fd, .ref po, .int m52, .int m53])) ∧ (f245 ha = .inl (cy 1, 30, .inl gha)) ∧ (f245 dr = .inl (cy 1, 520, .inl gdr)) ∧ (f245 ro = .inl (cy 1, 13, .inl nro_4)) ∧ (f245 lw = .inl (cy 1, 25, .inl glw)) ∧ (f245 st = .inl (cy 1, 20, .inl gst)) ∧ (f245 ct = .inl (cy 1, 4, .inl G17)) ∧ (f245 se = .inl (cy 1, 36, .inl G18)) ∧ (f245 th = .inl (cy 1, 36, .inl G19)) ∧ (f245 cn = .inl (cy 1, 36, .inl G20)) ∧ (f245 db = .inl (cy 1, 5, .inl G21)) ∧ (f245 be = .inl (cy 1, 2574, .inl G246)) ∧ (f245 du = .inl (cy 1, 5200, .inl G23)) ∧ (f245 fo = .inl (cy 1, 180, .inl gfo)) ∧ (∀ b ∈ L, b ≠ mm → b ≠ ro → b ≠ ct → b ≠ se → b ≠ th → b ≠ cn → b ≠ db → b ≠ be → b ≠ du → f245 b = f b) ∧ (∀ j : Nat, q_be j (G246 j)) ∧ (lv_has ls 7 [(6, .int K244), (5, .int w243), (4, .int V247), (3, .int r32), (2, .int r29), (1, .int K33), (0, .ref mm)])) _ ⟨0, G35, V36, f34, rfl, (by first | decide | omega), (by first | decide | omega), (by omega), hw, hf_mm, hf_ha, hf_dr, hf_ro, hf_lw, hf_st, hf_ct, hf_se, hf_th, hf_cn, hf_db, hf_be, hf_du, hf_fo, hfr, hq_be, (lv_sub hl [0, 1, 2, 3, 4, 5, 6] rfl)⟩ (fun n H locs ls hI ih_126 => ?_)
            obtain ⟨K244, G246, V247, f245, hn, hk0, hk1, hi0, hw, hf_mm, hf_ha, hf_dr, hf_ro, hf_lw, hf_st, hf_ct, hf_se, hf_th, hf_cn, hf_db, hf_be, hf_du, hf_fo, hfr, hq_be, hl⟩ := hI
            refine lv_iload hx hb dX10_goes__126 (lv_at hl 0 rfl) ?_
            refine lv_iload hx hb dX10_goes__128 (lv_at hl 1 rfl) ?_
            refine z_icmp_ge (tgt := 162) hx hb rfl i_w243 dX10_goes__130 (by decide) (fun c248 => ?_) (fun c248 => ?_)
            · skip
              have hup2 : ∀ j : Nat, K12.toInt ≤ j → (j : Int) < K33.toInt + 1 → z_tm gdr (nro_4 j).toNatClampNeg ≤ m28.toInt := fun j h1 h2 => z_upR hi2 hT1 (by omega) (by omega) j h1 h2
              obtain ⟨k249, e_k249⟩ : ∃ z : Int32, z = K33 + 1 := ⟨_, rfl⟩
              refine lv_iinc (v := k249) (lv' := [(1, .int k249), (6, .int K244), (5, .int w243), (4, .int V247), (3, .int r32), (2, .int r29), (0, .ref mm)]) hx hb dX10_goes__162 hl (k := 5) rfl (by rw [e_k249]; rfl) (by decide) rfl (fun ls hl => ?_)
              have i_k249 : k249.toInt = (K33.toInt + 1) := z_add e_k249 rfl (by decide) (by omega)
              refine lv_goto (tgt := 61) hx hb dX10_goes__165 (by decide) ?_
              exact ih_61 _ (by omega) _ _ _ ⟨k249, G246, V247, f245, rfl, (by first | decide | omega), (by first | decide | omega), (by omega), (by omega), (fun j h1 h2 => hup2 j h1 (by omega)), hw, hf_mm, hf_ha, hf_dr, hf_ro, hf_lw, hf_st, hf_ct, hf_se, hf_th, hf_cn, hf_db, hf_be, hf_du, hf_fo, hfr, hq_be, (lv_sub hl [3, 4, 5, 0, 6] rfl)⟩
            · skip
              refine lv_aload_n hx hb dX10_goes__133 rfl (lv_at hl 6 rfl) ?_
              refine z_get (C := RX10) (T := TX10) (N := 54) (ci := 10) (v := .ref be) hx hb hT zin_X10 hown hK hw hm_mm hf_mm rfl 35 (by decide) (hT _ kw_1203) rfl dX10_goes__134 ?_
              refine lv_iload hx hb dX10_goes__137 (lv_at hl 2 rfl) ?_
              refine lv_sipush (v := 200) hx hb dX10_goes__139 (by decide) ?_
              refine lv_aload_n hx hb dX10_goes__142 rfl (lv_at hl 6 rfl) ?_
              refine z_get (C := RX10) (T := TX10) (N := 54) (ci := 10) (v := .ref ro) hx hb hT zin_X10 hown hK hw hm_mm hf_mm rfl 29 (by decide) (hT _ kw_1197) rfl dX10_goes__143 ?_
              refine lv_iload_n hx hb dX10_goes__146 rfl (lv_at hl 5 rfl) ?_
              refine z_iald hx hb hK hw 1 hm_ro hf_ro rfl (z_ix rfl (by omega)) dX10_goes__147 ?_
              refine lv_topi (fun w250 e_w250 => ?_)
              have hv_w250 : 0 ≤ w250.toInt ∧ w250.toInt ≤ 12 := by rw [e_w250]; exact hq_ro _
              refine lv_imul hx hb dX10_goes__148 ?_
              refine lv_topi (fun w251 e_w251 => ?_)
              have i_w251 : w251.toInt = (200 * w250.toInt) := z_mul e_w251 (show (200 : Int32).toInt = 200 by decide) rfl (by omega)
              refine lv_iload hx hb dX10_goes__149 (lv_at hl 0 rfl) ?_
              refine lv_iadd hx hb dX10_goes__151 ?_
              refine lv_topi (fun w252 e_w252 => ?_)
              have i_w252 : w252.toInt = ((200 * w250.toInt) + K244.toInt) := z_add e_w252 i_w251 rfl (by omega)
              refine z_iast hx hb hK hw 1 hm_be hf_be rfl (z_ix rfl (by omega)) dX10_goes__152 (fun H locs hw => ?_)
              obtain ⟨f254, e_f254⟩ : ∃ z, z = va_up f245 be (.inl (cy 1, 2574, .inl (upd G246 V247.toNatClampNeg w252))) := ⟨_, rfl⟩
              rw [← e_f254] at hw
              have hf_mm : f254 mm = .inr (10, [.int m0, .ref wd, .ref my, .ref ce, .ref mv, .ref ta, .int m6, .int m7, .int m8, .int m9, .int m10, .long m11, .int m12, .int m13, .int m14, .int m15, .ref li, .ref ha, .ref lw, .ref st, .ref fo, .ref dr, .int m22, .ref ik, .int m24, .int m25, .long XX16, .int m27, .int m28, .ref ro, .int n2_3, .ref ct, .ref se, .ref th, .ref cn, .ref be, .int DN15, .ref du, .int DM14, .ref db, .int m40, .int m41, .int m42, .ref pn, .ref wg, .ref wh, .ref tn, .ref he, .int m48, .ref tr, .ref fd, .ref po, .int m52, .int m53]) := (congrFun e_f254 mm).trans (z_up_ne (z_tne hf_mm hf_be (m := 10) (n := 20692) rfl rfl (by decide)) hf_mm)
              have hf_ha : f254 ha = .inl (cy 1, 30, .inl gha) := (congrFun e_f254 ha).trans (z_up_ne (z_tne hf_ha hf_be (m := 340) (n := 20692) rfl rfl (by decide)) hf_ha)
              have hf_dr : f254 dr = .inl (cy 1, 520, .inl gdr) := (congrFun e_f254 dr).trans (z_up_ne (z_tne hf_dr hf_be (m := 4260) (n := 20692) rfl rfl (by decide)) hf_dr)
              have hf_ro : f254 ro = .inl (cy 1, 13, .inl nro_4) := (congrFun e_f254 ro).trans (z_up_ne (z_tne hf_ro hf_be (m := 204) (n := 20692) rfl rfl (by decide)) hf_ro)
              have hf_lw : f254 lw = .inl (cy 1, 25, .inl glw) := (congrFun e_f254 lw).trans (z_up_ne (z_tne hf_lw hf_be (m := 300) (n := 20692) rfl rfl (by decide)) hf_lw)
              have hf_st : f254 st = .inl (cy 1, 20, .inl gst) := (congrFun e_f254 st).trans (z_up_ne (z_tne hf_st hf_be (m := 260) (n := 20692) rfl rfl (by decide)) hf_st)
              have hf_ct : f254 ct = .inl (cy 1, 4, .inl G17) := (congrFun e_f254 ct).trans (z_up_ne (z_tne hf_ct hf_be (m := 132) (n := 20692) rfl rfl (by decide)) hf_ct)
              have hf_se : f254 se = .inl (cy 1, 36, .inl G18) := (congrFun e_f254 se).trans (z_up_ne (z_tne hf_se hf_be (m := 388) (n := 20692) rfl rfl (by decide)) hf_se)
              have hf_th : f254 th = .inl (cy 1, 36, .inl G19) := (congrFun e_f254 th).trans (z_up_ne (z_tne hf_th hf_be (m := 388) (n := 20692) rfl rfl (by decide)) hf_th)
              have hf_cn : f254 cn = .inl (cy 1, 36, .inl G20) := (congrFun e_f254 cn).trans (z_up_ne (z_tne hf_cn hf_be (m := 388) (n := 20692) rfl rfl (by decide)) hf_cn)
              have hf_db : f254 db = .inl (cy 1, 5, .inl G21) := (congrFun e_f254 db).trans (z_up_ne (z_tne hf_db hf_be (m := 140) (n := 20692) rfl rfl (by decide)) hf_db)
              have hf_du : f254 du = .inl (cy 1, 5200, .inl G23) := (congrFun e_f254 du).trans (z_up_ne (z_tne hf_du hf_be (m := 41700) (n := 20692) rfl rfl (by decide)) hf_du)
              have hf_fo : f254 fo = .inl (cy 1, 180, .inl gfo) := (congrFun e_f254 fo).trans (z_up_ne (z_tne hf_fo hf_be (m := 1540) (n := 20692) rfl rfl (by decide)) hf_fo)
              have hf_be : f254 be = .inl (cy 1, 2574, .inl (upd G246 V247.toNatClampNeg w252)) := (congrFun e_f254 be).trans z_up_self
              have hfr : ∀ b ∈ L, b ≠ mm → b ≠ ro → b ≠ ct → b ≠ se → b ≠ th → b ≠ cn → b ≠ db → b ≠ be → b ≠ du → f254 b = f b := fun b hb h0 h1 h2 h3 h4 h5 h6 h7 h8 => (congrFun e_f254 b).trans (z_up_ne h7 (hfr b hb h0 h1 h2 h3 h4 h5 h6 h7 h8))
              obtain ⟨g253, e_g253⟩ : ∃ z, z = (upd G246 V247.toNatClampNeg w252) := ⟨_, rfl⟩
              rw [← e_g253] at hf_be
              have hq_be : ∀ j : Nat, q_be j (g253 j) := z_updQ hq_be e_g253 (show 0 ≤ (w252 : Int32).toInt ∧ (w252 : Int32).toInt ≤ 2599 by first | decide | omega)
              obtain ⟨k255, e_k255⟩ : ∃ z : Int32, z = V247 + 1 := ⟨_, rfl⟩
              refine lv_iinc (v := k255) (lv' := [(4, .int k255), (6, .int K244), (5, .int w243), (3, .int r32), (2, .int r29), (1, .int K33), (0, .ref mm)]) hx hb dX10_goes__153 hl (k := 2) rfl (by rw [e_k255]; rfl) (by decide) rfl (fun ls hl => ?_)
              have i_k255 : k255.toInt = (V247.toInt + 1) := z_add e_k255 rfl (by decide) (by omega)
              obtain ⟨k256, e_k256⟩ : ∃ z : Int32, z = K244 + 1 := ⟨_, rfl⟩
              refine lv_iinc (v := k256) (lv' := [(6, .int k256), (4, .int k255), (5, .int w243), (3, .int r32), (2, .int r29), (1, .int K33), (0, .ref mm)]) hx hb dX10_goes__156 hl (k := 1) rfl (by rw [e_k256]; rfl) (by decide) rfl (fun ls hl => ?_)
              have i_k256 : k256.toInt = (K244.toInt + 1) := z_add e_k256 rfl (by decide) (by omega)
              refine lv_goto (tgt := 126) hx hb dX10_goes__159 (by decide) ?_
              exact ih_126 _ (by omega) _ _ _ ⟨k256, g253, k255, f254, rfl, (by first | decide | omega), (by first | decide | omega), (by omega), hw, hf_mm, hf_ha, hf_dr, hf_ro, hf_lw, hf_st, hf_ct, hf_se, hf_th, hf_cn, hf_db, hf_be, hf_du, hf_fo, hfr, hq_be, (lv_sub hl [0, 2, 1, 3, 4, 5, 6] rfl)⟩
