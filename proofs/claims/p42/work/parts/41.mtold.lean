set_option maxHeartbeats 2000000 in
set_option maxRecDepth 100000 in
theorem c_X10_asTold (l : Launch) {D : va_G} {cy : Nat → ClassId} {L : List Nat} {f : Nat → va_E} {sz : Nat} {adK adV : Nat → Nat} {mm wd my ce mv ta li ha lw st fo dr ik ro ct se th cn be du db pn wg wh tn he tr fd po : Nat} {m0 m6 m7 m8 m9 m10 m12 m13 m14 m15 m22 m24 m25 m27 m28 m30 m36 m38 m40 m41 m42 m48 m52 m53 : Int32} {m11 m26 : Int64} {gha glw gst gfo gdr gro gct gse gth gcn gbe gdu gdb : Nat → Int32}  (hm_mm : mm ∈ L) (hm_ha : ha ∈ L) (hm_dr : dr ∈ L) (hm_ro : ro ∈ L) (hm_lw : lw ∈ L) (hm_st : st ∈ L) (hm_ct : ct ∈ L) (hm_se : se ∈ L) (hm_th : th ∈ L) (hm_cn : cn ∈ L) (hm_db : db ∈ L) (hm_be : be ∈ L) (hm_du : du ∈ L) (hm_fo : fo ∈ L) (hf_mm : f mm = .inr (10, [.int m0, .ref wd, .ref my, .ref ce, .ref mv, .ref ta, .int m6, .int m7, .int m8, .int m9, .int m10, .long m11, .int m12, .int m13, .int m14, .int m15, .ref li, .ref ha, .ref lw, .ref st, .ref fo, .ref dr, .int m22, .ref ik, .int m24, .int m25, .long m26, .int m27, .int m28, .ref ro, .int m30, .ref ct, .ref se, .ref th, .ref cn, .ref be, .int m36, .ref du, .int m38, .ref db, .int m40, .int m41, .int m42, .ref pn, .ref wg, .ref wh, .ref tn, .ref he, .int m48, .ref tr, .ref fd, .ref po, .int m52, .int m53])) (hf_ha : f ha = .inl (cy 1, 30, .inl gha)) (hf_dr : f dr = .inl (cy 1, 520, .inl gdr)) (hf_ro : f ro = .inl (cy 1, 13, .inl gro)) (hf_lw : f lw = .inl (cy 1, 25, .inl glw)) (hf_st : f st = .inl (cy 1, 20, .inl gst)) (hf_ct : f ct = .inl (cy 1, 4, .inl gct)) (hf_se : f se = .inl (cy 1, 36, .inl gse)) (hf_th : f th = .inl (cy 1, 36, .inl gth)) (hf_cn : f cn = .inl (cy 1, 36, .inl gcn)) (hf_db : f db = .inl (cy 1, 5, .inl gdb)) (hf_be : f be = .inl (cy 1, 2574, .inl gbe)) (hf_du : f du = .inl (cy 1, 5200, .inl gdu)) (hf_fo : f fo = .inl (cy 1, 180, .inl gfo)) (ne_se_th : se ≠ th) (ne_se_cn : se ≠ cn) (ne_th_cn : th ≠ cn) (hq_ha : ∀ j : Nat, q_has j (gha j)) (hq_dr : ∀ j : Nat, q_drv j (gdr j)) (hq_ro : ∀ j : Nat, q_12 j (gro j)) (hq_lw : ∀ j : Nat, q_law j (glw j)) (hq_st : ∀ j : Nat, q_law j (gst j)) (hq_ct : ∀ j : Nat, q_law j (gct j)) (hq_be : ∀ j : Nat, q_be j (gbe j)) (hq_du : ∀ j : Nat, q_du j (gdu j)) (hxx : 0 ≤ m26.toInt ∧ m26.toInt < 2147483648) (hea : ∀ m : Nat, m < 5 → z_ea gha glw m) : Met l yX10_asTold (z_ws yX10_asTold cX10_asTold 1 none) (z_R 6 0 0) (va_Pc [.ref mm] (z_Pre D vwCl (z_KK D cy adK adV) L f sz)) (z_Qv D vwCl (fun u => L = u.1 ∧ (∀ b ∈ L, b ≠ mm → b ≠ ro → b ≠ ct → b ≠ se → b ≠ th → b ≠ cn → b ≠ db → b ≠ be → b ≠ du → u.2 b = f b) ∧ (∃ (mn2 n2 d2 y2 : Int32) (x2 : Int64) (nro nct nse nth ncn ndb nbe ndu : Nat → Int32), (u.2 mm = .inr (10, [.int m0, .ref wd, .ref my, .ref ce, .ref mv, .ref ta, .int m6, .int m7, .int m8, .int m9, .int m10, .long m11, .int m12, .int m13, .int m14, .int m15, .ref li, .ref ha, .ref lw, .ref st, .ref fo, .ref dr, .int m22, .ref ik, .int (-1), .int mn2, .long x2, .int 0, .int 1000, .ref ro, .int n2, .ref ct, .ref se, .ref th, .ref cn, .ref be, .int y2, .ref du, .int d2, .ref db, .int m40, .int m41, .int m42, .ref pn, .ref wg, .ref wh, .ref tn, .ref he, .int m48, .ref tr, .ref fd, .ref po, .int m52, .int m53])) ∧ (u.2 ro = .inl (cy 1, 13, .inl nro)) ∧ (u.2 ct = .inl (cy 1, 4, .inl nct)) ∧ (u.2 se = .inl (cy 1, 36, .inl nse)) ∧ (u.2 th = .inl (cy 1, 36, .inl nth)) ∧ (u.2 cn = .inl (cy 1, 36, .inl ncn)) ∧ (u.2 db = .inl (cy 1, 5, .inl ndb)) ∧ (u.2 be = .inl (cy 1, 2574, .inl nbe)) ∧ (u.2 du = .inl (cy 1, 5200, .inl ndu)) ∧ (∀ j : Nat, q_12 j (nro j)) ∧ (∀ j : Nat, q_law j (nct j)) ∧ (∀ j : Nat, q_be j (nbe j)) ∧ (∀ j : Nat, q_du j (ndu j)) ∧ ((0 ≤ d2.toInt ∧ d2.toInt ≤ 1289) ∧ (0 ≤ x2.toInt ∧ x2.toInt < 2147483648)))) L sz) 0 0 (z_A L sz) := by
  refine z_met (cc := cX10_asTold) (maxL := 1) (ret := none) (lv := [(0, .ref mm)]) (by decide) rfl (Nat.le_of_ble_eq_true rfl) rfl ?_
  intro p e s m below meth c ls hx hb hr hlk hml hown hnm hts hKK hA hw hl
  have hK := hKK.1.1
  have hown : s.vm.findClass RX10 = some m.cls := hown
  have hT : ∀ w ∈ lw_all, w.before ([.ref mm] : List Value).toArray s = true := fun w h => hts w (z_cons w h)
  have hsub : L = L := rfl
  have hfr : ∀ b ∈ L, b ≠ mm → b ≠ ro → b ≠ ct → b ≠ se → b ≠ th → b ≠ cn → b ≠ db → b ≠ be → b ≠ du → f b = f b := fun _ _ _ _ _ _ _ _ _ _ _ => rfl
  have hh0 := (hq_ha 0).1 rfl
  have hh1 := (hq_ha 1).2.1 rfl
  have hh2 := (hq_ha 2).2.2.1 rfl
  have hh3 := (hq_ha 3).2.2.2 rfl
  have hea0 : 2 ≤ (glw 3).toInt ∨ ((gha 3).toInt = 0 ∧ (gha 0).toInt = 0) := hea 0 (by decide)
  refine lv_aload_n hx hb dX10_asTold_0 rfl (lv_at hl 0 rfl) ?_
  refine z_callvV (cells := 0) (slots := 0) (b := mm) (As := []) (rest := []) (ci := 10) (q0 := (RX10, TX10, 54)) ⟨hx, hb, hml, hown, hT⟩ (c_X10_plainly l hm_mm hm_ha hf_mm hf_ha hq_ha) (cwV 0 hT (z_goodV (fun _ h => h) kw_1539 kw_1541 kw_58 kw_96 kw_1542) rfl rfl rfl (by decide +kernel) ⟨by decide, by decide⟩) z_mv hKK hK hw hA hm_mm hf_mm rfl rfl rfl hl.1 rfl (Nat.le_of_ble_eq_true rfl) dX10_asTold_1 ⟨by decide, by decide⟩ (fun u H locs hp hw => ?_)
  obtain ⟨L1, f2⟩ := u
  obtain ⟨hsb, hfm, mn2_3, ha_0, hp⟩ := hp
  have hsb : L = L1 := hsb
  subst hsb
  have hsb : ∀ b ∈ L, b ∈ L := fun _ h => h
  have hw : z_H D vwCl (z_A L sz) s.heap L f2 H locs := hw
  have hfr : ∀ b ∈ L, b ≠ mm → b ≠ ro → b ≠ ct → b ≠ se → b ≠ th → b ≠ cn → b ≠ db → b ≠ be → b ≠ du → f2 b = f b := fun b hb h0 h1 h2 h3 h4 h5 h6 h7 h8 => (hfm b hb h0).trans (hfr b hb h0 h1 h2 h3 h4 h5 h6 h7 h8)
  have hf_ha : f2 ha = .inl (cy 1, 30, .inl gha) := (hfm ha hm_ha (z_tne hf_ha hf_mm (m := 340) (n := 10) rfl rfl (by decide))).trans hf_ha
  have hf_dr : f2 dr = .inl (cy 1, 520, .inl gdr) := (hfm dr hm_dr (z_tne hf_dr hf_mm (m := 4260) (n := 10) rfl rfl (by decide))).trans hf_dr
  have hf_ro : f2 ro = .inl (cy 1, 13, .inl gro) := (hfm ro hm_ro (z_tne hf_ro hf_mm (m := 204) (n := 10) rfl rfl (by decide))).trans hf_ro
  have hf_lw : f2 lw = .inl (cy 1, 25, .inl glw) := (hfm lw hm_lw (z_tne hf_lw hf_mm (m := 300) (n := 10) rfl rfl (by decide))).trans hf_lw
  have hf_st : f2 st = .inl (cy 1, 20, .inl gst) := (hfm st hm_st (z_tne hf_st hf_mm (m := 260) (n := 10) rfl rfl (by decide))).trans hf_st
  have hf_ct : f2 ct = .inl (cy 1, 4, .inl gct) := (hfm ct hm_ct (z_tne hf_ct hf_mm (m := 132) (n := 10) rfl rfl (by decide))).trans hf_ct
  have hf_se : f2 se = .inl (cy 1, 36, .inl gse) := (hfm se hm_se (z_tne hf_se hf_mm (m := 388) (n := 10) rfl rfl (by decide))).trans hf_se
  have hf_th : f2 th = .inl (cy 1, 36, .inl gth) := (hfm th hm_th (z_tne hf_th hf_mm (m := 388) (n := 10) rfl rfl (by decide))).trans hf_th
  have hf_cn : f2 cn = .inl (cy 1, 36, .inl gcn) := (hfm cn hm_cn (z_tne hf_cn hf_mm (m := 388) (n := 10) rfl rfl (by decide))).trans hf_cn
  have hf_db : f2 db = .inl (cy 1, 5, .inl gdb) := (hfm db hm_db (z_tne hf_db hf_mm (m := 140) (n := 10) rfl rfl (by decide))).trans hf_db
  have hf_be : f2 be = .inl (cy 1, 2574, .inl gbe) := (hfm be hm_be (z_tne hf_be hf_mm (m := 20692) (n := 10) rfl rfl (by decide))).trans hf_be
  have hf_du : f2 du = .inl (cy 1, 5200, .inl gdu) := (hfm du hm_du (z_tne hf_du hf_mm (m := 41700) (n := 10) rfl rfl (by decide))).trans hf_du
  have hf_fo : f2 fo = .inl (cy 1, 180, .inl gfo) := (hfm fo hm_fo (z_tne hf_fo hf_mm (m := 1540) (n := 10) rfl rfl (by decide))).trans hf_fo
  have hf_mm : f2 mm = .inr (10, [.int m0, .ref wd, .ref my, .ref ce, .ref mv, .ref ta, .int m6, .int m7, .int m8, .int m9, .int m10, .long m11, .int m12, .int m13, .int m14, .int m15, .ref li, .ref ha, .ref lw, .ref st, .ref fo, .ref dr, .int m22, .ref ik, .int (-1), .int mn2_3, .long m26, .int 0, .int 1000, .ref ro, .int m30, .ref ct, .ref se, .ref th, .ref cn, .ref be, .int m36, .ref du, .int m38, .ref db, .int m40, .int m41, .int m42, .ref pn, .ref wg, .ref wh, .ref tn, .ref he, .int m48, .ref tr, .ref fd, .ref po, .int m52, .int m53]) := ha_0
  have hq4 := hp
  refine lv_aload_n hx hb dX10_asTold_4 rfl (lv_at hl 0 rfl) ?_
  refine z_callvV (cells := 0) (slots := 0) (b := mm) (As := []) (rest := []) (ci := 10) (q0 := (RX10, TX10, 54)) ⟨hx, hb, hml, hown, hT⟩ (c_X10_goes_ l hm_mm hm_ha hm_dr hm_ro hm_lw hm_st hm_ct hm_se hm_th hm_cn hm_db hm_be hm_du hm_fo hf_mm hf_ha hf_dr hf_ro hf_lw hf_st hf_ct hf_se hf_th hf_cn hf_db hf_be hf_du hf_fo ne_se_th ne_se_cn ne_th_cn hq_ha hq_dr hq_ro hq_lw hq_st hq_ct hq_be hq_du (by first | omega | decide | assumption) (by omega) (by first | omega | decide | assumption)) (cwV 0 hT (z_goodV (fun _ h => h) kw_1543 kw_1545 kw_59 kw_96 kw_1546) rfl rfl rfl (by decide +kernel) ⟨by decide, by decide⟩) z_mv hKK hK hw hA hm_mm hf_mm rfl rfl rfl hl.1 rfl (Nat.le_of_ble_eq_true rfl) dX10_asTold_5 ⟨by decide, by decide⟩ (fun u H locs hp hw => ?_)
  obtain ⟨L5, f6⟩ := u
  obtain ⟨hsb, hfm, n2_7, d2_8, y2_9, x2_10, nro_11, nct_12, nse_13, nth_14, ncn_15, ndb_16, nbe_17, ndu_18, ha_0, ha_1, ha_2, ha_3, ha_4, ha_5, ha_6, ha_7, ha_8, hq_ro, hq_ct, hq_be, hq_du, hp⟩ := hp
  have hsb : L = L5 := hsb
  subst hsb
  have hsb : ∀ b ∈ L, b ∈ L := fun _ h => h
  have hw : z_H D vwCl (z_A L sz) s.heap L f6 H locs := hw
  have hfr : ∀ b ∈ L, b ≠ mm → b ≠ ro → b ≠ ct → b ≠ se → b ≠ th → b ≠ cn → b ≠ db → b ≠ be → b ≠ du → f6 b = f b := fun b hb h0 h1 h2 h3 h4 h5 h6 h7 h8 => (hfm b hb h0 h1 h2 h3 h4 h5 h6 h7 h8).trans (hfr b hb h0 h1 h2 h3 h4 h5 h6 h7 h8)
  have hf_ha : f6 ha = .inl (cy 1, 30, .inl gha) := (hfm ha hm_ha (z_tne hf_ha hf_mm (m := 340) (n := 10) rfl rfl (by decide)) (z_tne hf_ha hf_ro (m := 340) (n := 204) rfl rfl (by decide)) (z_tne hf_ha hf_ct (m := 340) (n := 132) rfl rfl (by decide)) (z_tne hf_ha hf_se (m := 340) (n := 388) rfl rfl (by decide)) (z_tne hf_ha hf_th (m := 340) (n := 388) rfl rfl (by decide)) (z_tne hf_ha hf_cn (m := 340) (n := 388) rfl rfl (by decide)) (z_tne hf_ha hf_db (m := 340) (n := 140) rfl rfl (by decide)) (z_tne hf_ha hf_be (m := 340) (n := 20692) rfl rfl (by decide)) (z_tne hf_ha hf_du (m := 340) (n := 41700) rfl rfl (by decide))).trans hf_ha
  have hf_dr : f6 dr = .inl (cy 1, 520, .inl gdr) := (hfm dr hm_dr (z_tne hf_dr hf_mm (m := 4260) (n := 10) rfl rfl (by decide)) (z_tne hf_dr hf_ro (m := 4260) (n := 204) rfl rfl (by decide)) (z_tne hf_dr hf_ct (m := 4260) (n := 132) rfl rfl (by decide)) (z_tne hf_dr hf_se (m := 4260) (n := 388) rfl rfl (by decide)) (z_tne hf_dr hf_th (m := 4260) (n := 388) rfl rfl (by decide)) (z_tne hf_dr hf_cn (m := 4260) (n := 388) rfl rfl (by decide)) (z_tne hf_dr hf_db (m := 4260) (n := 140) rfl rfl (by decide)) (z_tne hf_dr hf_be (m := 4260) (n := 20692) rfl rfl (by decide)) (z_tne hf_dr hf_du (m := 4260) (n := 41700) rfl rfl (by decide))).trans hf_dr
  have hf_lw : f6 lw = .inl (cy 1, 25, .inl glw) := (hfm lw hm_lw (z_tne hf_lw hf_mm (m := 300) (n := 10) rfl rfl (by decide)) (z_tne hf_lw hf_ro (m := 300) (n := 204) rfl rfl (by decide)) (z_tne hf_lw hf_ct (m := 300) (n := 132) rfl rfl (by decide)) (z_tne hf_lw hf_se (m := 300) (n := 388) rfl rfl (by decide)) (z_tne hf_lw hf_th (m := 300) (n := 388) rfl rfl (by decide)) (z_tne hf_lw hf_cn (m := 300) (n := 388) rfl rfl (by decide)) (z_tne hf_lw hf_db (m := 300) (n := 140) rfl rfl (by decide)) (z_tne hf_lw hf_be (m := 300) (n := 20692) rfl rfl (by decide)) (z_tne hf_lw hf_du (m := 300) (n := 41700) rfl rfl (by decide))).trans hf_lw
  have hf_st : f6 st = .inl (cy 1, 20, .inl gst) := (hfm st hm_st (z_tne hf_st hf_mm (m := 260) (n := 10) rfl rfl (by decide)) (z_tne hf_st hf_ro (m := 260) (n := 204) rfl rfl (by decide)) (z_tne hf_st hf_ct (m := 260) (n := 132) rfl rfl (by decide)) (z_tne hf_st hf_se (m := 260) (n := 388) rfl rfl (by decide)) (z_tne hf_st hf_th (m := 260) (n := 388) rfl rfl (by decide)) (z_tne hf_st hf_cn (m := 260) (n := 388) rfl rfl (by decide)) (z_tne hf_st hf_db (m := 260) (n := 140) rfl rfl (by decide)) (z_tne hf_st hf_be (m := 260) (n := 20692) rfl rfl (by decide)) (z_tne hf_st hf_du (m := 260) (n := 41700) rfl rfl (by decide))).trans hf_st
  have hf_fo : f6 fo = .inl (cy 1, 180, .inl gfo) := (hfm fo hm_fo (z_tne hf_fo hf_mm (m := 1540) (n := 10) rfl rfl (by decide)) (z_tne hf_fo hf_ro (m := 1540) (n := 204) rfl rfl (by decide)) (z_tne hf_fo hf_ct (m := 1540) (n := 132) rfl rfl (by decide)) (z_tne hf_fo hf_se (m := 1540) (n := 388) rfl rfl (by decide)) (z_tne hf_fo hf_th (m := 1540) (n := 388) rfl rfl (by decide)) (z_tne hf_fo hf_cn (m := 1540) (n := 388) rfl rfl (by decide)) (z_tne hf_fo hf_db (m := 1540) (n := 140) rfl rfl (by decide)) (z_tne hf_fo hf_be (m := 1540) (n := 20692) rfl rfl (by decide)) (z_tne hf_fo hf_du (m := 1540) (n := 41700) rfl rfl (by decide))).trans hf_fo
  have hf_mm : f6 mm = .inr (10, [.int m0, .ref wd, .ref my, .ref ce, .ref mv, .ref ta, .int m6, .int m7, .int m8, .int m9, .int m10, .long m11, .int m12, .int m13, .int m14, .int m15, .ref li, .ref ha, .ref lw, .ref st, .ref fo, .ref dr, .int m22, .ref ik, .int (-1), .int mn2_3, .long x2_10, .int 0, .int 1000, .ref ro, .int n2_7, .ref ct, .ref se, .ref th, .ref cn, .ref be, .int y2_9, .ref du, .int d2_8, .ref db, .int m40, .int m41, .int m42, .ref pn, .ref wg, .ref wh, .ref tn, .ref he, .int m48, .ref tr, .ref fd, .ref po, .int m52, .int m53]) := ha_0
  have hf_ro : f6 ro = .inl (cy 1, 13, .inl nro_11) := ha_1
  have hf_ct : f6 ct = .inl (cy 1, 4, .inl nct_12) := ha_2
  have hf_se : f6 se = .inl (cy 1, 36, .inl nse_13) := ha_3
  have hf_th : f6 th = .inl (cy 1, 36, .inl nth_14) := ha_4
  have hf_cn : f6 cn = .inl (cy 1, 36, .inl ncn_15) := ha_5
  have hf_db : f6 db = .inl (cy 1, 5, .inl ndb_16) := ha_6
  have hf_be : f6 be = .inl (cy 1, 2574, .inl nbe_17) := ha_7
  have hf_du : f6 du = .inl (cy 1, 5200, .inl ndu_18) := ha_8
  obtain ⟨hg1, hg2, hg3, hg4, I_, hg5, hg6, hg7, hg8⟩ := hp
  have hP0 := z_phr nct_12
  refine lv_aload_n hx hb dX10_asTold_8 rfl (lv_at hl 0 rfl) ?_
  refine lv_aload_n hx hb dX10_asTold_9 rfl (lv_at hl 0 rfl) ?_
  refine z_get (C := RX10) (T := TX10) (N := 54) (ci := 10) (v := .ref ha) hx hb hT zin_X10 hown hK hw hm_mm hf_mm rfl 17 (by decide) (hT _ kw_1185) rfl dX10_asTold_10 ?_
  refine lv_iconst (v := 1) hx hb dX10_asTold_13 (by decide) ?_
  refine z_iald hx hb hK hw 1 hm_ha hf_ha rfl (z_ix (show (1 : Int32).toInt = 1 by decide) (by decide)) dX10_asTold_14 ?_
  refine lv_topi (fun w19 e_w19 => ?_)
  have hv_w19 : 0 ≤ w19.toInt ∧ w19.toInt ≤ 9 := by rw [e_w19]; exact (hq_ha _).2.1 rfl
  refine lv_iconst (v := 1) hx hb dX10_asTold_15 (by decide) ?_
  refine lv_isub hx hb dX10_asTold_16 ?_
  refine lv_topi (fun w20 e_w20 => ?_)
  have i_w20 : w20.toInt = (w19.toInt - 1) := z_subI e_w20 rfl (show (1 : Int32).toInt = 1 by decide) (by omega)
  refine z_callvV (cells := 0) (slots := 0) (b := mm) (As := [.int w20]) (rest := []) (ci := 10) (q0 := (RX10, TX10, 54)) ⟨hx, hb, hml, hown, hT⟩ (c_X10_dawns l hm_mm hm_lw hm_ct hf_mm hf_lw hf_ct hq_lw hq_ct) (cwV 1 hT (z_goodV (fun _ h => h) kw_1571 kw_1573 kw_65 kw_96 kw_1574) rfl rfl rfl (by decide +kernel) ⟨by decide, by decide⟩) z_mv hKK hK hw hA hm_mm hf_mm rfl rfl rfl hl.1 rfl (Nat.le_of_ble_eq_true rfl) dX10_asTold_17 ⟨by decide, by decide⟩ (fun u H locs hp hw => ?_)
  obtain ⟨L21, f22⟩ := u
  obtain ⟨hsb, hfm, nct_23, ha_0, ha_1, hq_ct, hp⟩ := hp
  have hsb : L = L21 := hsb
  subst hsb
  have hsb : ∀ b ∈ L, b ∈ L := fun _ h => h
  have hw : z_H D vwCl (z_A L sz) s.heap L f22 H locs := hw
  have hfr : ∀ b ∈ L, b ≠ mm → b ≠ ro → b ≠ ct → b ≠ se → b ≠ th → b ≠ cn → b ≠ db → b ≠ be → b ≠ du → f22 b = f b := fun b hb h0 h1 h2 h3 h4 h5 h6 h7 h8 => (hfm b hb h0 h2).trans (hfr b hb h0 h1 h2 h3 h4 h5 h6 h7 h8)
  have hf_ha : f22 ha = .inl (cy 1, 30, .inl gha) := (hfm ha hm_ha (z_tne hf_ha hf_mm (m := 340) (n := 10) rfl rfl (by decide)) (z_tne hf_ha hf_ct (m := 340) (n := 132) rfl rfl (by decide))).trans hf_ha
  have hf_dr : f22 dr = .inl (cy 1, 520, .inl gdr) := (hfm dr hm_dr (z_tne hf_dr hf_mm (m := 4260) (n := 10) rfl rfl (by decide)) (z_tne hf_dr hf_ct (m := 4260) (n := 132) rfl rfl (by decide))).trans hf_dr
  have hf_ro : f22 ro = .inl (cy 1, 13, .inl nro_11) := (hfm ro hm_ro (z_tne hf_ro hf_mm (m := 204) (n := 10) rfl rfl (by decide)) (z_tne hf_ro hf_ct (m := 204) (n := 132) rfl rfl (by decide))).trans hf_ro
  have hf_lw : f22 lw = .inl (cy 1, 25, .inl glw) := (hfm lw hm_lw (z_tne hf_lw hf_mm (m := 300) (n := 10) rfl rfl (by decide)) (z_tne hf_lw hf_ct (m := 300) (n := 132) rfl rfl (by decide))).trans hf_lw
  have hf_st : f22 st = .inl (cy 1, 20, .inl gst) := (hfm st hm_st (z_tne hf_st hf_mm (m := 260) (n := 10) rfl rfl (by decide)) (z_tne hf_st hf_ct (m := 260) (n := 132) rfl rfl (by decide))).trans hf_st
  have hf_se : f22 se = .inl (cy 1, 36, .inl nse_13) := (hfm se hm_se (z_tne hf_se hf_mm (m := 388) (n := 10) rfl rfl (by decide)) (z_tne hf_se hf_ct (m := 388) (n := 132) rfl rfl (by decide))).trans hf_se
  have hf_th : f22 th = .inl (cy 1, 36, .inl nth_14) := (hfm th hm_th (z_tne hf_th hf_mm (m := 388) (n := 10) rfl rfl (by decide)) (z_tne hf_th hf_ct (m := 388) (n := 132) rfl rfl (by decide))).trans hf_th
  have hf_cn : f22 cn = .inl (cy 1, 36, .inl ncn_15) := (hfm cn hm_cn (z_tne hf_cn hf_mm (m := 388) (n := 10) rfl rfl (by decide)) (z_tne hf_cn hf_ct (m := 388) (n := 132) rfl rfl (by decide))).trans hf_cn
  have hf_db : f22 db = .inl (cy 1, 5, .inl ndb_16) := (hfm db hm_db (z_tne hf_db hf_mm (m := 140) (n := 10) rfl rfl (by decide)) (z_tne hf_db hf_ct (m := 140) (n := 132) rfl rfl (by decide))).trans hf_db
  have hf_be : f22 be = .inl (cy 1, 2574, .inl nbe_17) := (hfm be hm_be (z_tne hf_be hf_mm (m := 20692) (n := 10) rfl rfl (by decide)) (z_tne hf_be hf_ct (m := 20692) (n := 132) rfl rfl (by decide))).trans hf_be
  have hf_du : f22 du = .inl (cy 1, 5200, .inl ndu_18) := (hfm du hm_du (z_tne hf_du hf_mm (m := 41700) (n := 10) rfl rfl (by decide)) (z_tne hf_du hf_ct (m := 41700) (n := 132) rfl rfl (by decide))).trans hf_du
  have hf_fo : f22 fo = .inl (cy 1, 180, .inl gfo) := (hfm fo hm_fo (z_tne hf_fo hf_mm (m := 1540) (n := 10) rfl rfl (by decide)) (z_tne hf_fo hf_ct (m := 1540) (n := 132) rfl rfl (by decide))).trans hf_fo
  have hf_mm : f22 mm = .inr (10, [.int m0, .ref wd, .ref my, .ref ce, .ref mv, .ref ta, .int m6, .int m7, .int m8, .int m9, .int m10, .long m11, .int m12, .int m13, .int m14, .int m15, .ref li, .ref ha, .ref lw, .ref st, .ref fo, .ref dr, .int m22, .ref ik, .int (-1), .int mn2_3, .long x2_10, .int 0, .int 1000, .ref ro, .int n2_7, .ref ct, .ref se, .ref th, .ref cn, .ref be, .int w20, .ref du, .int d2_8, .ref db, .int m40, .int m41, .int m42, .ref pn, .ref wg, .ref wh, .ref tn, .ref he, .int m48, .ref tr, .ref fd, .ref po, .int m52, .int m53]) := ha_0
  have hf_ct : f22 ct = .inl (cy 1, 4, .inl nct_23) := ha_1
  have hq24 := hp
  exact z_vret hx hb hr hlk (by decide) (by decide) hw (⟨hsub, hfr, mn2_3, n2_7, d2_8, w20, x2_10, nro_11, nct_23, nse_13, nth_14, ncn_15, ndb_16, nbe_17, ndu_18, hf_mm, hf_ro, hf_ct, hf_se, hf_th, hf_cn, hf_db, hf_be, hf_du, hq_ro, hq_ct, hq_be, hq_du, by omega, by omega⟩) dX10_asTold_20

set_option maxHeartbeats 2000000 in
set_option maxRecDepth 100000 in
theorem c_X10_counter (l : Launch) {D : va_G} {cy : Nat → ClassId} {L : List Nat} {f : Nat → va_E} {sz : Nat} {adK adV : Nat → Nat} {mm wd my ce mv ta li ha lw st fo dr ik ro ct se th cn be du db pn wg wh tn he tr fd po : Nat} {m0 m6 m7 m8 m9 m10 m12 m13 m14 m15 m22 m24 m25 m27 m28 m30 m36 m38 m40 m41 m42 m48 m52 m53 : Int32} {m11 m26 : Int64} {gha glw gst gfo gdr gro gct gse gth gcn gbe gdu gdb : Nat → Int32}  {ga dy ho : Int32} (hm_mm : mm ∈ L) (hm_ha : ha ∈ L) (hm_dr : dr ∈ L) (hm_ro : ro ∈ L) (hm_lw : lw ∈ L) (hm_st : st ∈ L) (hm_ct : ct ∈ L) (hm_se : se ∈ L) (hm_th : th ∈ L) (hm_cn : cn ∈ L) (hm_db : db ∈ L) (hm_be : be ∈ L) (hm_du : du ∈ L) (hm_fo : fo ∈ L) (hf_mm : f mm = .inr (10, [.int m0, .ref wd, .ref my, .ref ce, .ref mv, .ref ta, .int m6, .int m7, .int m8, .int m9, .int m10, .long m11, .int m12, .int m13, .int m14, .int m15, .ref li, .ref ha, .ref lw, .ref st, .ref fo, .ref dr, .int m22, .ref ik, .int m24, .int m25, .long m26, .int m27, .int m28, .ref ro, .int m30, .ref ct, .ref se, .ref th, .ref cn, .ref be, .int m36, .ref du, .int m38, .ref db, .int m40, .int m41, .int m42, .ref pn, .ref wg, .ref wh, .ref tn, .ref he, .int m48, .ref tr, .ref fd, .ref po, .int m52, .int m53])) (hf_ha : f ha = .inl (cy 1, 30, .inl gha)) (hf_dr : f dr = .inl (cy 1, 520, .inl gdr)) (hf_ro : f ro = .inl (cy 1, 13, .inl gro)) (hf_lw : f lw = .inl (cy 1, 25, .inl glw)) (hf_st : f st = .inl (cy 1, 20, .inl gst)) (hf_ct : f ct = .inl (cy 1, 4, .inl gct)) (hf_se : f se = .inl (cy 1, 36, .inl gse)) (hf_th : f th = .inl (cy 1, 36, .inl gth)) (hf_cn : f cn = .inl (cy 1, 36, .inl gcn)) (hf_db : f db = .inl (cy 1, 5, .inl gdb)) (hf_be : f be = .inl (cy 1, 2574, .inl gbe)) (hf_du : f du = .inl (cy 1, 5200, .inl gdu)) (hf_fo : f fo = .inl (cy 1, 180, .inl gfo)) (ne_se_th : se ≠ th) (ne_se_cn : se ≠ cn) (ne_th_cn : th ≠ cn) (hq_ha : ∀ j : Nat, q_has j (gha j)) (hq_dr : ∀ j : Nat, q_drv j (gdr j)) (hq_ro : ∀ j : Nat, q_12 j (gro j)) (hq_lw : ∀ j : Nat, q_law j (glw j)) (hq_st : ∀ j : Nat, q_law j (gst j)) (hq_ct : ∀ j : Nat, q_law j (gct j)) (hq_be : ∀ j : Nat, q_be j (gbe j)) (hq_du : ∀ j : Nat, q_du j (gdu j)) (hxx : 0 ≤ m26.toInt ∧ m26.toInt < 2147483648) (hea : ∀ m : Nat, m < 5 → z_ea gha glw m) : Met l yX10_counter (z_ws yX10_counter cX10_counter 4 (some .int)) (z_R 6 0 0) (va_Pc [.ref mm, .int ga, .int dy, .int ho] (z_Pre D vwCl (z_KK D cy adK adV) L f sz)) (z_Qi D vwCl (fun r u => L = u.1 ∧ (∀ b ∈ L, b ≠ mm → b ≠ ro → b ≠ ct → b ≠ se → b ≠ th → b ≠ cn → b ≠ db → b ≠ be → b ≠ du → u.2 b = f b) ∧ (∃ (o2 mn2 i2 u2 n2 d2 y2 : Int32) (x2 : Int64) (nro nct nse nth ncn ndb nbe ndu : Nat → Int32), (u.2 mm = .inr (10, [.int 0, .ref wd, .ref my, .ref ce, .ref mv, .ref ta, .int m6, .int m7, .int m8, .int m9, .int m10, .long m11, .int m12, .int m13, .int m14, .int m15, .ref li, .ref ha, .ref lw, .ref st, .ref fo, .ref dr, .int m22, .ref ik, .int o2, .int mn2, .long x2, .int i2, .int u2, .ref ro, .int n2, .ref ct, .ref se, .ref th, .ref cn, .ref be, .int y2, .ref du, .int d2, .ref db, .int m40, .int m41, .int m42, .ref pn, .ref wg, .ref wh, .ref tn, .ref he, .int m48, .ref tr, .ref fd, .ref po, .int m52, .int m53])) ∧ (u.2 ro = .inl (cy 1, 13, .inl nro)) ∧ (u.2 ct = .inl (cy 1, 4, .inl nct)) ∧ (u.2 se = .inl (cy 1, 36, .inl nse)) ∧ (u.2 th = .inl (cy 1, 36, .inl nth)) ∧ (u.2 cn = .inl (cy 1, 36, .inl ncn)) ∧ (u.2 db = .inl (cy 1, 5, .inl ndb)) ∧ (u.2 be = .inl (cy 1, 2574, .inl nbe)) ∧ (u.2 du = .inl (cy 1, 5200, .inl ndu)) ∧ (∀ j : Nat, q_12 j (nro j)) ∧ (∀ j : Nat, q_law j (nct j)) ∧ (∀ j : Nat, q_be j (nbe j)) ∧ (∀ j : Nat, q_du j (ndu j)) ∧ (0 ≤ x2.toInt ∧ x2.toInt < 2147483648))) L sz) 0 0 (z_A L sz) := by
  refine z_met (cc := cX10_counter) (maxL := 4) (ret := (some .int)) (lv := [(0, .ref mm), (1, .int ga), (2, .int dy), (3, .int ho)]) (by decide) rfl (Nat.le_of_ble_eq_true rfl) rfl ?_
  intro p e s m below meth c ls hx hb hr hlk hml hown hnm hts hKK hA hw hl
  have hK := hKK.1.1
  have hown : s.vm.findClass RX10 = some m.cls := hown
  have hT : ∀ w ∈ lw_all, w.before ([.ref mm, .int ga, .int dy, .int ho] : List Value).toArray s = true := fun w h => hts w (z_cons w h)
  have hsub : L = L := rfl
  have hfr : ∀ b ∈ L, b ≠ mm → b ≠ ro → b ≠ ct → b ≠ se → b ≠ th → b ≠ cn → b ≠ db → b ≠ be → b ≠ du → f b = f b := fun _ _ _ _ _ _ _ _ _ _ _ => rfl
  have hh0 := (hq_ha 0).1 rfl
  have hh1 := (hq_ha 1).2.1 rfl
  have hh2 := (hq_ha 2).2.2.1 rfl
  have hh3 := (hq_ha 3).2.2.2 rfl
  have hea0 : 2 ≤ (glw 3).toInt ∨ ((gha 3).toInt = 0 ∧ (gha 0).toInt = 0) := hea 0 (by decide)
  have hz_m2 : (-2 : Int32).toInt = -2 := by decide
  have hz_m1 : (-1 : Int32).toInt = -1 := by decide
  have hz_0 : (0 : Int32).toInt = 0 := by decide
  refine lv_aload_n hx hb dX10_counter_0 rfl (lv_at hl 0 rfl) ?_
  refine lv_iconst (v := 0) hx hb dX10_counter_1 (by decide) ?_
  refine z_put (C := RX10) (T := TX10) (N := 54) (ci := 10) (v := .int 0) (fs' := [.int 0, .ref wd, .ref my, .ref ce, .ref mv, .ref ta, .int m6, .int m7, .int m8, .int m9, .int m10, .long m11, .int m12, .int m13, .int m14, .int m15, .ref li, .ref ha, .ref lw, .ref st, .ref fo, .ref dr, .int m22, .ref ik, .int m24, .int m25, .long m26, .int m27, .int m28, .ref ro, .int m30, .ref ct, .ref se, .ref th, .ref cn, .ref be, .int m36, .ref du, .int m38, .ref db, .int m40, .int m41, .int m42, .ref pn, .ref wg, .ref wh, .ref tn, .ref he, .int m48, .ref tr, .ref fd, .ref po, .int m52, .int m53]) hx hb hT zin_X10 tyX10_ok nmX10 hown hK hw hm_mm hf_mm rfl 0 (by decide) (hT _ kw_1168) rfl rfl rfl (Nat.le_of_ble_eq_true rfl) rfl dX10_counter_2 (fun H locs hw => ?_)
  obtain ⟨f1, e_f1⟩ : ∃ z, z = va_up f mm (.inr (10, [.int 0, .ref wd, .ref my, .ref ce, .ref mv, .ref ta, .int m6, .int m7, .int m8, .int m9, .int m10, .long m11, .int m12, .int m13, .int m14, .int m15, .ref li, .ref ha, .ref lw, .ref st, .ref fo, .ref dr, .int m22, .ref ik, .int m24, .int m25, .long m26, .int m27, .int m28, .ref ro, .int m30, .ref ct, .ref se, .ref th, .ref cn, .ref be, .int m36, .ref du, .int m38, .ref db, .int m40, .int m41, .int m42, .ref pn, .ref wg, .ref wh, .ref tn, .ref he, .int m48, .ref tr, .ref fd, .ref po, .int m52, .int m53])) := ⟨_, rfl⟩
  rw [← e_f1] at hw
  have hf_ha : f1 ha = .inl (cy 1, 30, .inl gha) := (congrFun e_f1 ha).trans (z_up_ne (z_tne hf_ha hf_mm (m := 340) (n := 10) rfl rfl (by decide)) hf_ha)
  have hf_dr : f1 dr = .inl (cy 1, 520, .inl gdr) := (congrFun e_f1 dr).trans (z_up_ne (z_tne hf_dr hf_mm (m := 4260) (n := 10) rfl rfl (by decide)) hf_dr)
  have hf_ro : f1 ro = .inl (cy 1, 13, .inl gro) := (congrFun e_f1 ro).trans (z_up_ne (z_tne hf_ro hf_mm (m := 204) (n := 10) rfl rfl (by decide)) hf_ro)
  have hf_lw : f1 lw = .inl (cy 1, 25, .inl glw) := (congrFun e_f1 lw).trans (z_up_ne (z_tne hf_lw hf_mm (m := 300) (n := 10) rfl rfl (by decide)) hf_lw)
  have hf_st : f1 st = .inl (cy 1, 20, .inl gst) := (congrFun e_f1 st).trans (z_up_ne (z_tne hf_st hf_mm (m := 260) (n := 10) rfl rfl (by decide)) hf_st)
  have hf_ct : f1 ct = .inl (cy 1, 4, .inl gct) := (congrFun e_f1 ct).trans (z_up_ne (z_tne hf_ct hf_mm (m := 132) (n := 10) rfl rfl (by decide)) hf_ct)
  have hf_se : f1 se = .inl (cy 1, 36, .inl gse) := (congrFun e_f1 se).trans (z_up_ne (z_tne hf_se hf_mm (m := 388) (n := 10) rfl rfl (by decide)) hf_se)
  have hf_th : f1 th = .inl (cy 1, 36, .inl gth) := (congrFun e_f1 th).trans (z_up_ne (z_tne hf_th hf_mm (m := 388) (n := 10) rfl rfl (by decide)) hf_th)
  have hf_cn : f1 cn = .inl (cy 1, 36, .inl gcn) := (congrFun e_f1 cn).trans (z_up_ne (z_tne hf_cn hf_mm (m := 388) (n := 10) rfl rfl (by decide)) hf_cn)
  have hf_db : f1 db = .inl (cy 1, 5, .inl gdb) := (congrFun e_f1 db).trans (z_up_ne (z_tne hf_db hf_mm (m := 140) (n := 10) rfl rfl (by decide)) hf_db)
  have hf_be : f1 be = .inl (cy 1, 2574, .inl gbe) := (congrFun e_f1 be).trans (z_up_ne (z_tne hf_be hf_mm (m := 20692) (n := 10) rfl rfl (by decide)) hf_be)
  have hf_du : f1 du = .inl (cy 1, 5200, .inl gdu) := (congrFun e_f1 du).trans (z_up_ne (z_tne hf_du hf_mm (m := 41700) (n := 10) rfl rfl (by decide)) hf_du)
  have hf_fo : f1 fo = .inl (cy 1, 180, .inl gfo) := (congrFun e_f1 fo).trans (z_up_ne (z_tne hf_fo hf_mm (m := 1540) (n := 10) rfl rfl (by decide)) hf_fo)
  have hf_mm : f1 mm = .inr (10, [.int 0, .ref wd, .ref my, .ref ce, .ref mv, .ref ta, .int m6, .int m7, .int m8, .int m9, .int m10, .long m11, .int m12, .int m13, .int m14, .int m15, .ref li, .ref ha, .ref lw, .ref st, .ref fo, .ref dr, .int m22, .ref ik, .int m24, .int m25, .long m26, .int m27, .int m28, .ref ro, .int m30, .ref ct, .ref se, .ref th, .ref cn, .ref be, .int m36, .ref du, .int m38, .ref db, .int m40, .int m41, .int m42, .ref pn, .ref wg, .ref wh, .ref tn, .ref he, .int m48, .ref tr, .ref fd, .ref po, .int m52, .int m53]) := (congrFun e_f1 mm).trans z_up_self
  have hfr : ∀ b ∈ L, b ≠ mm → b ≠ ro → b ≠ ct → b ≠ se → b ≠ th → b ≠ cn → b ≠ db → b ≠ be → b ≠ du → f1 b = f b := fun b hb h0 h1 h2 h3 h4 h5 h6 h7 h8 => (congrFun e_f1 b).trans (z_up_ne h0 (hfr b hb h0 h1 h2 h3 h4 h5 h6 h7 h8))
  refine lv_aload_n hx hb dX10_counter_5 rfl (lv_at hl 0 rfl) ?_
  refine lv_iload_n hx hb dX10_counter_6 rfl (lv_at hl 1 rfl) ?_
  refine z_calliV (cells := 0) (slots := 0) (b := mm) (As := [.int ga]) (rest := []) (ci := 10) (q0 := (RX10, TX10, 54)) ⟨hx, hb, hml, hown, hT⟩ (c_X10_isGap l hm_mm hm_ha hf_mm hf_ha hq_ha) (cwV 1 hT (z_goodV (fun _ h => h) kw_1519 kw_1521 kw_55 kw_96 kw_1522) rfl rfl rfl (by decide +kernel) ⟨by decide, by decide⟩) z_mv hKK hK hw hA hm_mm hf_mm rfl rfl rfl hl.1 rfl (Nat.le_of_ble_eq_true rfl) dX10_counter_7 ⟨by decide, by decide⟩ (fun r2 u H locs hp hw => ?_)
  obtain ⟨rfl, hp⟩ := hp
  have hw : z_H D vwCl (z_A L sz) s.heap L f1 H locs := hw
  rcases hp with ⟨rfl, h3⟩ | ⟨rfl, h3⟩
  · skip
    refine z_if_eq (tgt := 28) hx hb (show (1 : Int32).toInt = 1 by decide) dX10_counter_10 (by decide) (fun h => absurd h (by decide)) (fun _ => ?_)
    refine lv_aload_n hx hb dX10_counter_13 rfl (lv_at hl 0 rfl) ?_
    refine lv_iload_n hx hb dX10_counter_14 rfl (lv_at hl 2 rfl) ?_
    refine z_calliV (cells := 0) (slots := 0) (b := mm) (As := [.int dy]) (rest := []) (ci := 10) (q0 := (RX10, TX10, 54)) ⟨hx, hb, hml, hown, hT⟩ (c_X10_isDay l hm_mm hm_ha hf_mm hf_ha hq_ha) (cwV 1 hT (z_goodV (fun _ h => h) kw_1535 kw_1537 kw_57 kw_96 kw_1538) rfl rfl rfl (by decide +kernel) ⟨by decide, by decide⟩) z_mv hKK hK hw hA hm_mm hf_mm rfl rfl rfl hl.1 rfl (Nat.le_of_ble_eq_true rfl) dX10_counter_15 ⟨by decide, by decide⟩ (fun r4 u H locs hp hw => ?_)
    obtain ⟨rfl, hp⟩ := hp
    have hw : z_H D vwCl (z_A L sz) s.heap L f1 H locs := hw
    rcases hp with ⟨rfl, h5⟩ | ⟨rfl, h5⟩
    · skip
      refine z_if_eq (tgt := 28) hx hb (show (1 : Int32).toInt = 1 by decide) dX10_counter_18 (by decide) (fun h => absurd h (by decide)) (fun _ => ?_)
      refine lv_iload_n hx hb dX10_counter_21 rfl (lv_at hl 3 rfl) ?_
      refine z_calliS (cells := 0) (slots := 0) (As := [.int ho]) (rest := []) ⟨hx, hb, hml, hown, hT⟩ (c_X10_isHour l ) (va_cwS 1 hT (z_goodS (fun _ h => h) kw_1523 kw_1524 kw_96 kw_1525) rfl rfl rfl (by decide +kernel) ⟨by decide, by decide⟩) z_mv hKK hw hA rfl hl.1 rfl (Nat.le_of_ble_eq_true rfl) dX10_counter_22 ⟨by decide, by decide⟩ (fun r6 u H locs hp hw => ?_)
      obtain ⟨rfl, hp⟩ := hp
      have hw : z_H D vwCl (z_A L sz) s.heap L f1 H locs := hw
      rcases hp with ⟨rfl, h7⟩ | ⟨rfl, h7⟩
      · skip
        refine z_if_ne (tgt := 31) hx hb (show (1 : Int32).toInt = 1 by decide) dX10_counter_25 (by decide) (fun _ => ?_) (fun h => absurd h (by decide))
        refine lv_aload_n hx hb dX10_counter_31 rfl (lv_at hl 0 rfl) ?_
        refine z_callvV (cells := 0) (slots := 0) (b := mm) (As := []) (rest := []) (ci := 10) (q0 := (RX10, TX10, 54)) ⟨hx, hb, hml, hown, hT⟩ (c_X10_plainly l hm_mm hm_ha hf_mm hf_ha hq_ha) (cwV 0 hT (z_goodV (fun _ h => h) kw_1539 kw_1541 kw_58 kw_96 kw_1542) rfl rfl rfl (by decide +kernel) ⟨by decide, by decide⟩) z_mv hKK hK hw hA hm_mm hf_mm rfl rfl rfl hl.1 rfl (Nat.le_of_ble_eq_true rfl) dX10_counter_32 ⟨by decide, by decide⟩ (fun u H locs hp hw => ?_)
        obtain ⟨L8, f9⟩ := u
        obtain ⟨hsb, hfm, mn2_10, ha_0, hp⟩ := hp
        have hsb : L = L8 := hsb
        subst hsb
        have hsb : ∀ b ∈ L, b ∈ L := fun _ h => h
        have hw : z_H D vwCl (z_A L sz) s.heap L f9 H locs := hw
        have hfr : ∀ b ∈ L, b ≠ mm → b ≠ ro → b ≠ ct → b ≠ se → b ≠ th → b ≠ cn → b ≠ db → b ≠ be → b ≠ du → f9 b = f b := fun b hb h0 h1 h2 h3 h4 h5 h6 h7 h8 => (hfm b hb h0).trans (hfr b hb h0 h1 h2 h3 h4 h5 h6 h7 h8)
        have hf_ha : f9 ha = .inl (cy 1, 30, .inl gha) := (hfm ha hm_ha (z_tne hf_ha hf_mm (m := 340) (n := 10) rfl rfl (by decide))).trans hf_ha
        have hf_dr : f9 dr = .inl (cy 1, 520, .inl gdr) := (hfm dr hm_dr (z_tne hf_dr hf_mm (m := 4260) (n := 10) rfl rfl (by decide))).trans hf_dr
        have hf_ro : f9 ro = .inl (cy 1, 13, .inl gro) := (hfm ro hm_ro (z_tne hf_ro hf_mm (m := 204) (n := 10) rfl rfl (by decide))).trans hf_ro
        have hf_lw : f9 lw = .inl (cy 1, 25, .inl glw) := (hfm lw hm_lw (z_tne hf_lw hf_mm (m := 300) (n := 10) rfl rfl (by decide))).trans hf_lw
        have hf_st : f9 st = .inl (cy 1, 20, .inl gst) := (hfm st hm_st (z_tne hf_st hf_mm (m := 260) (n := 10) rfl rfl (by decide))).trans hf_st
        have hf_ct : f9 ct = .inl (cy 1, 4, .inl gct) := (hfm ct hm_ct (z_tne hf_ct hf_mm (m := 132) (n := 10) rfl rfl (by decide))).trans hf_ct
        have hf_se : f9 se = .inl (cy 1, 36, .inl gse) := (hfm se hm_se (z_tne hf_se hf_mm (m := 388) (n := 10) rfl rfl (by decide))).trans hf_se
        have hf_th : f9 th = .inl (cy 1, 36, .inl gth) := (hfm th hm_th (z_tne hf_th hf_mm (m := 388) (n := 10) rfl rfl (by decide))).trans hf_th
        have hf_cn : f9 cn = .inl (cy 1, 36, .inl gcn) := (hfm cn hm_cn (z_tne hf_cn hf_mm (m := 388) (n := 10) rfl rfl (by decide))).trans hf_cn
        have hf_db : f9 db = .inl (cy 1, 5, .inl gdb) := (hfm db hm_db (z_tne hf_db hf_mm (m := 140) (n := 10) rfl rfl (by decide))).trans hf_db
        have hf_be : f9 be = .inl (cy 1, 2574, .inl gbe) := (hfm be hm_be (z_tne hf_be hf_mm (m := 20692) (n := 10) rfl rfl (by decide))).trans hf_be
        have hf_du : f9 du = .inl (cy 1, 5200, .inl gdu) := (hfm du hm_du (z_tne hf_du hf_mm (m := 41700) (n := 10) rfl rfl (by decide))).trans hf_du
        have hf_fo : f9 fo = .inl (cy 1, 180, .inl gfo) := (hfm fo hm_fo (z_tne hf_fo hf_mm (m := 1540) (n := 10) rfl rfl (by decide))).trans hf_fo
        have hf_mm : f9 mm = .inr (10, [.int 0, .ref wd, .ref my, .ref ce, .ref mv, .ref ta, .int m6, .int m7, .int m8, .int m9, .int m10, .long m11, .int m12, .int m13, .int m14, .int m15, .ref li, .ref ha, .ref lw, .ref st, .ref fo, .ref dr, .int m22, .ref ik, .int (-1), .int mn2_10, .long m26, .int 0, .int 1000, .ref ro, .int m30, .ref ct, .ref se, .ref th, .ref cn, .ref be, .int m36, .ref du, .int m38, .ref db, .int m40, .int m41, .int m42, .ref pn, .ref wg, .ref wh, .ref tn, .ref he, .int m48, .ref tr, .ref fd, .ref po, .int m52, .int m53]) := ha_0
        have hq11 := hp
        refine lv_aload_n hx hb dX10_counter_35 rfl (lv_at hl 0 rfl) ?_
        refine lv_bipush (v := 24) hx hb dX10_counter_36 (by decide) ?_
        refine lv_iload_n hx hb dX10_counter_38 rfl (lv_at hl 2 rfl) ?_
        refine lv_imul hx hb dX10_counter_39 ?_
        refine lv_topi (fun w12 e_w12 => ?_)
        have i_w12 : w12.toInt = (24 * dy.toInt) := z_mul e_w12 (show (24 : Int32).toInt = 24 by decide) rfl (by omega)
        refine lv_iload_n hx hb dX10_counter_40 rfl (lv_at hl 3 rfl) ?_
        refine lv_iadd hx hb dX10_counter_41 ?_
        refine lv_topi (fun w13 e_w13 => ?_)
        have i_w13 : w13.toInt = ((24 * dy.toInt) + ho.toInt) := z_add e_w13 i_w12 rfl (by omega)
        refine z_put (C := RX10) (T := TX10) (N := 54) (ci := 10) (v := .int w13) (fs' := [.int 0, .ref wd, .ref my, .ref ce, .ref mv, .ref ta, .int m6, .int m7, .int m8, .int m9, .int m10, .long m11, .int m12, .int m13, .int m14, .int m15, .ref li, .ref ha, .ref lw, .ref st, .ref fo, .ref dr, .int m22, .ref ik, .int (-1), .int mn2_10, .long m26, .int 0, .int w13, .ref ro, .int m30, .ref ct, .ref se, .ref th, .ref cn, .ref be, .int m36, .ref du, .int m38, .ref db, .int m40, .int m41, .int m42, .ref pn, .ref wg, .ref wh, .ref tn, .ref he, .int m48, .ref tr, .ref fd, .ref po, .int m52, .int m53]) hx hb hT zin_X10 tyX10_ok nmX10 hown hK hw hm_mm hf_mm rfl 28 (by decide) (hT _ kw_1196) rfl rfl rfl (Nat.le_of_ble_eq_true rfl) rfl dX10_counter_42 (fun H locs hw => ?_)
        obtain ⟨f14, e_f14⟩ : ∃ z, z = va_up f9 mm (.inr (10, [.int 0, .ref wd, .ref my, .ref ce, .ref mv, .ref ta, .int m6, .int m7, .int m8, .int m9, .int m10, .long m11, .int m12, .int m13, .int m14, .int m15, .ref li, .ref ha, .ref lw, .ref st, .ref fo, .ref dr, .int m22, .ref ik, .int (-1), .int mn2_10, .long m26, .int 0, .int w13, .ref ro, .int m30, .ref ct, .ref se, .ref th, .ref cn, .ref be, .int m36, .ref du, .int m38, .ref db, .int m40, .int m41, .int m42, .ref pn, .ref wg, .ref wh, .ref tn, .ref he, .int m48, .ref tr, .ref fd, .ref po, .int m52, .int m53])) := ⟨_, rfl⟩
        rw [← e_f14] at hw
        have hf_ha : f14 ha = .inl (cy 1, 30, .inl gha) := (congrFun e_f14 ha).trans (z_up_ne (z_tne hf_ha hf_mm (m := 340) (n := 10) rfl rfl (by decide)) hf_ha)
        have hf_dr : f14 dr = .inl (cy 1, 520, .inl gdr) := (congrFun e_f14 dr).trans (z_up_ne (z_tne hf_dr hf_mm (m := 4260) (n := 10) rfl rfl (by decide)) hf_dr)
        have hf_ro : f14 ro = .inl (cy 1, 13, .inl gro) := (congrFun e_f14 ro).trans (z_up_ne (z_tne hf_ro hf_mm (m := 204) (n := 10) rfl rfl (by decide)) hf_ro)
        have hf_lw : f14 lw = .inl (cy 1, 25, .inl glw) := (congrFun e_f14 lw).trans (z_up_ne (z_tne hf_lw hf_mm (m := 300) (n := 10) rfl rfl (by decide)) hf_lw)
        have hf_st : f14 st = .inl (cy 1, 20, .inl gst) := (congrFun e_f14 st).trans (z_up_ne (z_tne hf_st hf_mm (m := 260) (n := 10) rfl rfl (by decide)) hf_st)
        have hf_ct : f14 ct = .inl (cy 1, 4, .inl gct) := (congrFun e_f14 ct).trans (z_up_ne (z_tne hf_ct hf_mm (m := 132) (n := 10) rfl rfl (by decide)) hf_ct)
        have hf_se : f14 se = .inl (cy 1, 36, .inl gse) := (congrFun e_f14 se).trans (z_up_ne (z_tne hf_se hf_mm (m := 388) (n := 10) rfl rfl (by decide)) hf_se)
        have hf_th : f14 th = .inl (cy 1, 36, .inl gth) := (congrFun e_f14 th).trans (z_up_ne (z_tne hf_th hf_mm (m := 388) (n := 10) rfl rfl (by decide)) hf_th)
        have hf_cn : f14 cn = .inl (cy 1, 36, .inl gcn) := (congrFun e_f14 cn).trans (z_up_ne (z_tne hf_cn hf_mm (m := 388) (n := 10) rfl rfl (by decide)) hf_cn)
        have hf_db : f14 db = .inl (cy 1, 5, .inl gdb) := (congrFun e_f14 db).trans (z_up_ne (z_tne hf_db hf_mm (m := 140) (n := 10) rfl rfl (by decide)) hf_db)
        have hf_be : f14 be = .inl (cy 1, 2574, .inl gbe) := (congrFun e_f14 be).trans (z_up_ne (z_tne hf_be hf_mm (m := 20692) (n := 10) rfl rfl (by decide)) hf_be)
        have hf_du : f14 du = .inl (cy 1, 5200, .inl gdu) := (congrFun e_f14 du).trans (z_up_ne (z_tne hf_du hf_mm (m := 41700) (n := 10) rfl rfl (by decide)) hf_du)
        have hf_fo : f14 fo = .inl (cy 1, 180, .inl gfo) := (congrFun e_f14 fo).trans (z_up_ne (z_tne hf_fo hf_mm (m := 1540) (n := 10) rfl rfl (by decide)) hf_fo)
        have hf_mm : f14 mm = .inr (10, [.int 0, .ref wd, .ref my, .ref ce, .ref mv, .ref ta, .int m6, .int m7, .int m8, .int m9, .int m10, .long m11, .int m12, .int m13, .int m14, .int m15, .ref li, .ref ha, .ref lw, .ref st, .ref fo, .ref dr, .int m22, .ref ik, .int (-1), .int mn2_10, .long m26, .int 0, .int w13, .ref ro, .int m30, .ref ct, .ref se, .ref th, .ref cn, .ref be, .int m36, .ref du, .int m38, .ref db, .int m40, .int m41, .int m42, .ref pn, .ref wg, .ref wh, .ref tn, .ref he, .int m48, .ref tr, .ref fd, .ref po, .int m52, .int m53]) := (congrFun e_f14 mm).trans z_up_self
        have hfr : ∀ b ∈ L, b ≠ mm → b ≠ ro → b ≠ ct → b ≠ se → b ≠ th → b ≠ cn → b ≠ db → b ≠ be → b ≠ du → f14 b = f b := fun b hb h0 h1 h2 h3 h4 h5 h6 h7 h8 => (congrFun e_f14 b).trans (z_up_ne h0 (hfr b hb h0 h1 h2 h3 h4 h5 h6 h7 h8))
        refine lv_aload_n hx hb dX10_counter_45 rfl (lv_at hl 0 rfl) ?_
        refine z_callvV (cells := 0) (slots := 0) (b := mm) (As := []) (rest := []) (ci := 10) (q0 := (RX10, TX10, 54)) ⟨hx, hb, hml, hown, hT⟩ (c_X10_goes_ l hm_mm hm_ha hm_dr hm_ro hm_lw hm_st hm_ct hm_se hm_th hm_cn hm_db hm_be hm_du hm_fo hf_mm hf_ha hf_dr hf_ro hf_lw hf_st hf_ct hf_se hf_th hf_cn hf_db hf_be hf_du hf_fo ne_se_th ne_se_cn ne_th_cn hq_ha hq_dr hq_ro hq_lw hq_st hq_ct hq_be hq_du (by first | omega | decide | assumption) (by omega) (by first | omega | decide | assumption)) (cwV 0 hT (z_goodV (fun _ h => h) kw_1543 kw_1545 kw_59 kw_96 kw_1546) rfl rfl rfl (by decide +kernel) ⟨by decide, by decide⟩) z_mv hKK hK hw hA hm_mm hf_mm rfl rfl rfl hl.1 rfl (Nat.le_of_ble_eq_true rfl) dX10_counter_46 ⟨by decide, by decide⟩ (fun u H locs hp hw => ?_)
        obtain ⟨L15, f16⟩ := u
        obtain ⟨hsb, hfm, n2_17, d2_18, y2_19, x2_20, nro_21, nct_22, nse_23, nth_24, ncn_25, ndb_26, nbe_27, ndu_28, ha_0, ha_1, ha_2, ha_3, ha_4, ha_5, ha_6, ha_7, ha_8, hq_ro, hq_ct, hq_be, hq_du, hp⟩ := hp
        have hsb : L = L15 := hsb
        subst hsb
        have hsb : ∀ b ∈ L, b ∈ L := fun _ h => h
        have hw : z_H D vwCl (z_A L sz) s.heap L f16 H locs := hw
        have hfr : ∀ b ∈ L, b ≠ mm → b ≠ ro → b ≠ ct → b ≠ se → b ≠ th → b ≠ cn → b ≠ db → b ≠ be → b ≠ du → f16 b = f b := fun b hb h0 h1 h2 h3 h4 h5 h6 h7 h8 => (hfm b hb h0 h1 h2 h3 h4 h5 h6 h7 h8).trans (hfr b hb h0 h1 h2 h3 h4 h5 h6 h7 h8)
        have hf_ha : f16 ha = .inl (cy 1, 30, .inl gha) := (hfm ha hm_ha (z_tne hf_ha hf_mm (m := 340) (n := 10) rfl rfl (by decide)) (z_tne hf_ha hf_ro (m := 340) (n := 204) rfl rfl (by decide)) (z_tne hf_ha hf_ct (m := 340) (n := 132) rfl rfl (by decide)) (z_tne hf_ha hf_se (m := 340) (n := 388) rfl rfl (by decide)) (z_tne hf_ha hf_th (m := 340) (n := 388) rfl rfl (by decide)) (z_tne hf_ha hf_cn (m := 340) (n := 388) rfl rfl (by decide)) (z_tne hf_ha hf_db (m := 340) (n := 140) rfl rfl (by decide)) (z_tne hf_ha hf_be (m := 340) (n := 20692) rfl rfl (by decide)) (z_tne hf_ha hf_du (m := 340) (n := 41700) rfl rfl (by decide))).trans hf_ha
        have hf_dr : f16 dr = .inl (cy 1, 520, .inl gdr) := (hfm dr hm_dr (z_tne hf_dr hf_mm (m := 4260) (n := 10) rfl rfl (by decide)) (z_tne hf_dr hf_ro (m := 4260) (n := 204) rfl rfl (by decide)) (z_tne hf_dr hf_ct (m := 4260) (n := 132) rfl rfl (by decide)) (z_tne hf_dr hf_se (m := 4260) (n := 388) rfl rfl (by decide)) (z_tne hf_dr hf_th (m := 4260) (n := 388) rfl rfl (by decide)) (z_tne hf_dr hf_cn (m := 4260) (n := 388) rfl rfl (by decide)) (z_tne hf_dr hf_db (m := 4260) (n := 140) rfl rfl (by decide)) (z_tne hf_dr hf_be (m := 4260) (n := 20692) rfl rfl (by decide)) (z_tne hf_dr hf_du (m := 4260) (n := 41700) rfl rfl (by decide))).trans hf_dr
        have hf_lw : f16 lw = .inl (cy 1, 25, .inl glw) := (hfm lw hm_lw (z_tne hf_lw hf_mm (m := 300) (n := 10) rfl rfl (by decide)) (z_tne hf_lw hf_ro (m := 300) (n := 204) rfl rfl (by decide)) (z_tne hf_lw hf_ct (m := 300) (n := 132) rfl rfl (by decide)) (z_tne hf_lw hf_se (m := 300) (n := 388) rfl rfl (by decide)) (z_tne hf_lw hf_th (m := 300) (n := 388) rfl rfl (by decide)) (z_tne hf_lw hf_cn (m := 300) (n := 388) rfl rfl (by decide)) (z_tne hf_lw hf_db (m := 300) (n := 140) rfl rfl (by decide)) (z_tne hf_lw hf_be (m := 300) (n := 20692) rfl rfl (by decide)) (z_tne hf_lw hf_du (m := 300) (n := 41700) rfl rfl (by decide))).trans hf_lw
        have hf_st : f16 st = .inl (cy 1, 20, .inl gst) := (hfm st hm_st (z_tne hf_st hf_mm (m := 260) (n := 10) rfl rfl (by decide)) (z_tne hf_st hf_ro (m := 260) (n := 204) rfl rfl (by decide)) (z_tne hf_st hf_ct (m := 260) (n := 132) rfl rfl (by decide)) (z_tne hf_st hf_se (m := 260) (n := 388) rfl rfl (by decide)) (z_tne hf_st hf_th (m := 260) (n := 388) rfl rfl (by decide)) (z_tne hf_st hf_cn (m := 260) (n := 388) rfl rfl (by decide)) (z_tne hf_st hf_db (m := 260) (n := 140) rfl rfl (by decide)) (z_tne hf_st hf_be (m := 260) (n := 20692) rfl rfl (by decide)) (z_tne hf_st hf_du (m := 260) (n := 41700) rfl rfl (by decide))).trans hf_st
        have hf_fo : f16 fo = .inl (cy 1, 180, .inl gfo) := (hfm fo hm_fo (z_tne hf_fo hf_mm (m := 1540) (n := 10) rfl rfl (by decide)) (z_tne hf_fo hf_ro (m := 1540) (n := 204) rfl rfl (by decide)) (z_tne hf_fo hf_ct (m := 1540) (n := 132) rfl rfl (by decide)) (z_tne hf_fo hf_se (m := 1540) (n := 388) rfl rfl (by decide)) (z_tne hf_fo hf_th (m := 1540) (n := 388) rfl rfl (by decide)) (z_tne hf_fo hf_cn (m := 1540) (n := 388) rfl rfl (by decide)) (z_tne hf_fo hf_db (m := 1540) (n := 140) rfl rfl (by decide)) (z_tne hf_fo hf_be (m := 1540) (n := 20692) rfl rfl (by decide)) (z_tne hf_fo hf_du (m := 1540) (n := 41700) rfl rfl (by decide))).trans hf_fo
        have hf_mm : f16 mm = .inr (10, [.int 0, .ref wd, .ref my, .ref ce, .ref mv, .ref ta, .int m6, .int m7, .int m8, .int m9, .int m10, .long m11, .int m12, .int m13, .int m14, .int m15, .ref li, .ref ha, .ref lw, .ref st, .ref fo, .ref dr, .int m22, .ref ik, .int (-1), .int mn2_10, .long x2_20, .int 0, .int w13, .ref ro, .int n2_17, .ref ct, .ref se, .ref th, .ref cn, .ref be, .int y2_19, .ref du, .int d2_18, .ref db, .int m40, .int m41, .int m42, .ref pn, .ref wg, .ref wh, .ref tn, .ref he, .int m48, .ref tr, .ref fd, .ref po, .int m52, .int m53]) := ha_0
        have hf_ro : f16 ro = .inl (cy 1, 13, .inl nro_21) := ha_1
        have hf_ct : f16 ct = .inl (cy 1, 4, .inl nct_22) := ha_2
        have hf_se : f16 se = .inl (cy 1, 36, .inl nse_23) := ha_3
        have hf_th : f16 th = .inl (cy 1, 36, .inl nth_24) := ha_4
        have hf_cn : f16 cn = .inl (cy 1, 36, .inl ncn_25) := ha_5
        have hf_db : f16 db = .inl (cy 1, 5, .inl ndb_26) := ha_6
        have hf_be : f16 be = .inl (cy 1, 2574, .inl nbe_27) := ha_7
        have hf_du : f16 du = .inl (cy 1, 5200, .inl ndu_28) := ha_8
        obtain ⟨hg1, hg2, hg3, hg4, I_, hg5, hg6, hg7, hg8⟩ := hp
        have hP0 := z_phr nct_22
        refine lv_aload_n hx hb dX10_counter_49 rfl (lv_at hl 0 rfl) ?_
        refine lv_iload_n hx hb dX10_counter_50 rfl (lv_at hl 2 rfl) ?_
        refine z_callvV (cells := 0) (slots := 0) (b := mm) (As := [.int dy]) (rest := []) (ci := 10) (q0 := (RX10, TX10, 54)) ⟨hx, hb, hml, hown, hT⟩ (c_X10_dawns l hm_mm hm_lw hm_ct hf_mm hf_lw hf_ct hq_lw hq_ct) (cwV 1 hT (z_goodV (fun _ h => h) kw_1571 kw_1573 kw_65 kw_96 kw_1574) rfl rfl rfl (by decide +kernel) ⟨by decide, by decide⟩) z_mv hKK hK hw hA hm_mm hf_mm rfl rfl rfl hl.1 rfl (Nat.le_of_ble_eq_true rfl) dX10_counter_51 ⟨by decide, by decide⟩ (fun u H locs hp hw => ?_)
        obtain ⟨L29, f30⟩ := u
        obtain ⟨hsb, hfm, nct_31, ha_0, ha_1, hq_ct, hp⟩ := hp
        have hsb : L = L29 := hsb
        subst hsb
        have hsb : ∀ b ∈ L, b ∈ L := fun _ h => h
        have hw : z_H D vwCl (z_A L sz) s.heap L f30 H locs := hw
        have hfr : ∀ b ∈ L, b ≠ mm → b ≠ ro → b ≠ ct → b ≠ se → b ≠ th → b ≠ cn → b ≠ db → b ≠ be → b ≠ du → f30 b = f b := fun b hb h0 h1 h2 h3 h4 h5 h6 h7 h8 => (hfm b hb h0 h2).trans (hfr b hb h0 h1 h2 h3 h4 h5 h6 h7 h8)
        have hf_ha : f30 ha = .inl (cy 1, 30, .inl gha) := (hfm ha hm_ha (z_tne hf_ha hf_mm (m := 340) (n := 10) rfl rfl (by decide)) (z_tne hf_ha hf_ct (m := 340) (n := 132) rfl rfl (by decide))).trans hf_ha
        have hf_dr : f30 dr = .inl (cy 1, 520, .inl gdr) := (hfm dr hm_dr (z_tne hf_dr hf_mm (m := 4260) (n := 10) rfl rfl (by decide)) (z_tne hf_dr hf_ct (m := 4260) (n := 132) rfl rfl (by decide))).trans hf_dr
        have hf_ro : f30 ro = .inl (cy 1, 13, .inl nro_21) := (hfm ro hm_ro (z_tne hf_ro hf_mm (m := 204) (n := 10) rfl rfl (by decide)) (z_tne hf_ro hf_ct (m := 204) (n := 132) rfl rfl (by decide))).trans hf_ro
        have hf_lw : f30 lw = .inl (cy 1, 25, .inl glw) := (hfm lw hm_lw (z_tne hf_lw hf_mm (m := 300) (n := 10) rfl rfl (by decide)) (z_tne hf_lw hf_ct (m := 300) (n := 132) rfl rfl (by decide))).trans hf_lw
        have hf_st : f30 st = .inl (cy 1, 20, .inl gst) := (hfm st hm_st (z_tne hf_st hf_mm (m := 260) (n := 10) rfl rfl (by decide)) (z_tne hf_st hf_ct (m := 260) (n := 132) rfl rfl (by decide))).trans hf_st
        have hf_se : f30 se = .inl (cy 1, 36, .inl nse_23) := (hfm se hm_se (z_tne hf_se hf_mm (m := 388) (n := 10) rfl rfl (by decide)) (z_tne hf_se hf_ct (m := 388) (n := 132) rfl rfl (by decide))).trans hf_se
        have hf_th : f30 th = .inl (cy 1, 36, .inl nth_24) := (hfm th hm_th (z_tne hf_th hf_mm (m := 388) (n := 10) rfl rfl (by decide)) (z_tne hf_th hf_ct (m := 388) (n := 132) rfl rfl (by decide))).trans hf_th
        have hf_cn : f30 cn = .inl (cy 1, 36, .inl ncn_25) := (hfm cn hm_cn (z_tne hf_cn hf_mm (m := 388) (n := 10) rfl rfl (by decide)) (z_tne hf_cn hf_ct (m := 388) (n := 132) rfl rfl (by decide))).trans hf_cn
        have hf_db : f30 db = .inl (cy 1, 5, .inl ndb_26) := (hfm db hm_db (z_tne hf_db hf_mm (m := 140) (n := 10) rfl rfl (by decide)) (z_tne hf_db hf_ct (m := 140) (n := 132) rfl rfl (by decide))).trans hf_db
        have hf_be : f30 be = .inl (cy 1, 2574, .inl nbe_27) := (hfm be hm_be (z_tne hf_be hf_mm (m := 20692) (n := 10) rfl rfl (by decide)) (z_tne hf_be hf_ct (m := 20692) (n := 132) rfl rfl (by decide))).trans hf_be
        have hf_du : f30 du = .inl (cy 1, 5200, .inl ndu_28) := (hfm du hm_du (z_tne hf_du hf_mm (m := 41700) (n := 10) rfl rfl (by decide)) (z_tne hf_du hf_ct (m := 41700) (n := 132) rfl rfl (by decide))).trans hf_du
        have hf_fo : f30 fo = .inl (cy 1, 180, .inl gfo) := (hfm fo hm_fo (z_tne hf_fo hf_mm (m := 1540) (n := 10) rfl rfl (by decide)) (z_tne hf_fo hf_ct (m := 1540) (n := 132) rfl rfl (by decide))).trans hf_fo
        have hf_mm : f30 mm = .inr (10, [.int 0, .ref wd, .ref my, .ref ce, .ref mv, .ref ta, .int m6, .int m7, .int m8, .int m9, .int m10, .long m11, .int m12, .int m13, .int m14, .int m15, .ref li, .ref ha, .ref lw, .ref st, .ref fo, .ref dr, .int m22, .ref ik, .int (-1), .int mn2_10, .long x2_20, .int 0, .int w13, .ref ro, .int n2_17, .ref ct, .ref se, .ref th, .ref cn, .ref be, .int dy, .ref du, .int d2_18, .ref db, .int m40, .int m41, .int m42, .ref pn, .ref wg, .ref wh, .ref tn, .ref he, .int m48, .ref tr, .ref fd, .ref po, .int m52, .int m53]) := ha_0
        have hf_ct : f30 ct = .inl (cy 1, 4, .inl nct_31) := ha_1
        have hq32 := hp
        refine lv_aload_n hx hb dX10_counter_54 rfl (lv_at hl 0 rfl) ?_
        refine z_get (C := RX10) (T := TX10) (N := 54) (ci := 10) (v := .ref ct) hx hb hT zin_X10 hown hK hw hm_mm hf_mm rfl 31 (by decide) (hT _ kw_1199) rfl dX10_counter_55 ?_
        refine lv_aload_n hx hb dX10_counter_58 rfl (lv_at hl 0 rfl) ?_
        refine lv_iload_n hx hb dX10_counter_59 rfl (lv_at hl 1 rfl) ?_
        refine z_calliV (cells := 0) (slots := 0) (b := mm) (As := [.int ga]) (rest := [.ref ct]) (ci := 10) (q0 := (RX10, TX10, 54)) ⟨hx, hb, hml, hown, hT⟩ (c_X10_counterOf l hm_mm hm_lw hf_mm hf_lw hq_lw (by first | omega | decide | assumption)) (cwV 1 hT (z_goodV (fun _ h => h) kw_1579 kw_1581 kw_67 kw_96 kw_1582) rfl rfl rfl (by decide +kernel) ⟨by decide, by decide⟩) z_mv hKK hK hw hA hm_mm hf_mm rfl rfl rfl hl.1 rfl (Nat.le_of_ble_eq_true rfl) dX10_counter_60 ⟨by decide, by decide⟩ (fun r33 u H locs hp hw => ?_)
        obtain ⟨rfl, hp⟩ := hp
        have hw : z_H D vwCl (z_A L sz) s.heap L f30 H locs := hw
        have hq34 := hp
        refine z_iald hx hb hK hw 1 hm_ct hf_ct rfl (z_ix rfl (by omega)) dX10_counter_63 ?_
        refine lv_topi (fun w35 e_w35 => ?_)
        have hv_w35 : 0 ≤ w35.toInt ∧ w35.toInt ≤ 999 := by rw [e_w35]; exact hq_ct _
        exact z_iret hx hb hr hlk (by decide) (by decide) hw (⟨hsub, hfr, (-1), mn2_10, 0, w13, n2_17, d2_18, dy, x2_20, nro_21, nct_31, nse_23, nth_24, ncn_25, ndb_26, nbe_27, ndu_28, hf_mm, hf_ro, hf_ct, hf_se, hf_th, hf_cn, hf_db, hf_be, hf_du, hq_ro, hq_ct, hq_be, hq_du, by omega⟩) dX10_counter_64
      · skip
        refine z_if_ne (tgt := 31) hx hb (show (0 : Int32).toInt = 0 by decide) dX10_counter_25 (by decide) (fun h => absurd h (by decide)) (fun _ => ?_)
        refine lv_bipush (v := (-2)) hx hb dX10_counter_28 (by decide) ?_
        exact z_iret hx hb hr hlk (by decide) (by decide) hw (⟨hsub, hfr, m24, m25, m27, m28, m30, m38, m36, m26, gro, gct, gse, gth, gcn, gdb, gbe, gdu, hf_mm, hf_ro, hf_ct, hf_se, hf_th, hf_cn, hf_db, hf_be, hf_du, hq_ro, hq_ct, hq_be, hq_du, by omega⟩) dX10_counter_30
    · skip
      refine z_if_eq (tgt := 28) hx hb (show (0 : Int32).toInt = 0 by decide) dX10_counter_18 (by decide) (fun _ => ?_) (fun h => absurd h (by decide))
      refine lv_bipush (v := (-2)) hx hb dX10_counter_28 (by decide) ?_
      exact z_iret hx hb hr hlk (by decide) (by decide) hw (⟨hsub, hfr, m24, m25, m27, m28, m30, m38, m36, m26, gro, gct, gse, gth, gcn, gdb, gbe, gdu, hf_mm, hf_ro, hf_ct, hf_se, hf_th, hf_cn, hf_db, hf_be, hf_du, hq_ro, hq_ct, hq_be, hq_du, by omega⟩) dX10_counter_30
  · skip
    refine z_if_eq (tgt := 28) hx hb (show (0 : Int32).toInt = 0 by decide) dX10_counter_10 (by decide) (fun _ => ?_) (fun h => absurd h (by decide))
    refine lv_bipush (v := (-2)) hx hb dX10_counter_28 (by decide) ?_
    exact z_iret hx hb hr hlk (by decide) (by decide) hw (⟨hsub, hfr, m24, m25, m27, m28, m30, m38, m36, m26, gro, gct, gse, gth, gcn, gdb, gbe, gdu, hf_mm, hf_ro, hf_ct, hf_se, hf_th, hf_cn, hf_db, hf_be, hf_du, hq_ro, hq_ct, hq_be, hq_du, by omega⟩) dX10_counter_30

set_option maxHeartbeats 2000000 in
set_option maxRecDepth 100000 in
theorem c_X10_through (l : Launch) {D : va_G} {cy : Nat → ClassId} {L : List Nat} {f : Nat → va_E} {sz : Nat} {adK adV : Nat → Nat} {mm wd my ce mv ta li ha lw st fo dr ik ro ct se th cn be du db pn wg wh tn he tr fd po : Nat} {m0 m6 m7 m8 m9 m10 m12 m13 m14 m15 m22 m24 m25 m27 m28 m30 m36 m38 m40 m41 m42 m48 m52 m53 : Int32} {m11 m26 : Int64} {gha glw gst gfo gdr gro gct gse gth gcn gbe gdu gdb : Nat → Int32}  {ga dy wt : Int32} (hm_mm : mm ∈ L) (hm_ha : ha ∈ L) (hm_dr : dr ∈ L) (hm_ro : ro ∈ L) (hm_lw : lw ∈ L) (hm_st : st ∈ L) (hm_ct : ct ∈ L) (hm_se : se ∈ L) (hm_th : th ∈ L) (hm_cn : cn ∈ L) (hm_db : db ∈ L) (hm_be : be ∈ L) (hm_du : du ∈ L) (hm_fo : fo ∈ L) (hf_mm : f mm = .inr (10, [.int m0, .ref wd, .ref my, .ref ce, .ref mv, .ref ta, .int m6, .int m7, .int m8, .int m9, .int m10, .long m11, .int m12, .int m13, .int m14, .int m15, .ref li, .ref ha, .ref lw, .ref st, .ref fo, .ref dr, .int m22, .ref ik, .int m24, .int m25, .long m26, .int m27, .int m28, .ref ro, .int m30, .ref ct, .ref se, .ref th, .ref cn, .ref be, .int m36, .ref du, .int m38, .ref db, .int m40, .int m41, .int m42, .ref pn, .ref wg, .ref wh, .ref tn, .ref he, .int m48, .ref tr, .ref fd, .ref po, .int m52, .int m53])) (hf_ha : f ha = .inl (cy 1, 30, .inl gha)) (hf_dr : f dr = .inl (cy 1, 520, .inl gdr)) (hf_ro : f ro = .inl (cy 1, 13, .inl gro)) (hf_lw : f lw = .inl (cy 1, 25, .inl glw)) (hf_st : f st = .inl (cy 1, 20, .inl gst)) (hf_ct : f ct = .inl (cy 1, 4, .inl gct)) (hf_se : f se = .inl (cy 1, 36, .inl gse)) (hf_th : f th = .inl (cy 1, 36, .inl gth)) (hf_cn : f cn = .inl (cy 1, 36, .inl gcn)) (hf_db : f db = .inl (cy 1, 5, .inl gdb)) (hf_be : f be = .inl (cy 1, 2574, .inl gbe)) (hf_du : f du = .inl (cy 1, 5200, .inl gdu)) (hf_fo : f fo = .inl (cy 1, 180, .inl gfo)) (ne_se_th : se ≠ th) (ne_se_cn : se ≠ cn) (ne_th_cn : th ≠ cn) (hq_ha : ∀ j : Nat, q_has j (gha j)) (hq_dr : ∀ j : Nat, q_drv j (gdr j)) (hq_ro : ∀ j : Nat, q_12 j (gro j)) (hq_lw : ∀ j : Nat, q_law j (glw j)) (hq_st : ∀ j : Nat, q_law j (gst j)) (hq_ct : ∀ j : Nat, q_law j (gct j)) (hq_be : ∀ j : Nat, q_be j (gbe j)) (hq_du : ∀ j : Nat, q_du j (gdu j)) (hxx : 0 ≤ m26.toInt ∧ m26.toInt < 2147483648) (hea : ∀ m : Nat, m < 5 → z_ea gha glw m) : Met l yX10_through (z_ws yX10_through cX10_through 4 (some .int)) (z_R 7 0 0) (va_Pc [.ref mm, .int ga, .int dy, .int wt] (z_Pre D vwCl (z_KK D cy adK adV) L f sz)) (z_Qi D vwCl (fun r u => L = u.1 ∧ (∀ b ∈ L, b ≠ mm → b ≠ ro → b ≠ ct → b ≠ se → b ≠ th → b ≠ cn → b ≠ db → b ≠ be → b ≠ du → u.2 b = f b) ∧ (∃ (o2 mn2 i2 u2 n2 d2 y2 : Int32) (x2 : Int64) (nro nct nse nth ncn ndb nbe ndu : Nat → Int32), (u.2 mm = .inr (10, [.int 0, .ref wd, .ref my, .ref ce, .ref mv, .ref ta, .int m6, .int m7, .int m8, .int m9, .int m10, .long m11, .int m12, .int m13, .int m14, .int m15, .ref li, .ref ha, .ref lw, .ref st, .ref fo, .ref dr, .int m22, .ref ik, .int o2, .int mn2, .long x2, .int i2, .int u2, .ref ro, .int n2, .ref ct, .ref se, .ref th, .ref cn, .ref be, .int y2, .ref du, .int d2, .ref db, .int m40, .int m41, .int m42, .ref pn, .ref wg, .ref wh, .ref tn, .ref he, .int m48, .ref tr, .ref fd, .ref po, .int m52, .int m53])) ∧ (u.2 ro = .inl (cy 1, 13, .inl nro)) ∧ (u.2 ct = .inl (cy 1, 4, .inl nct)) ∧ (u.2 se = .inl (cy 1, 36, .inl nse)) ∧ (u.2 th = .inl (cy 1, 36, .inl nth)) ∧ (u.2 cn = .inl (cy 1, 36, .inl ncn)) ∧ (u.2 db = .inl (cy 1, 5, .inl ndb)) ∧ (u.2 be = .inl (cy 1, 2574, .inl nbe)) ∧ (u.2 du = .inl (cy 1, 5200, .inl ndu)) ∧ (∀ j : Nat, q_12 j (nro j)) ∧ (∀ j : Nat, q_law j (nct j)) ∧ (∀ j : Nat, q_be j (nbe j)) ∧ (∀ j : Nat, q_du j (ndu j)) ∧ (0 ≤ x2.toInt ∧ x2.toInt < 2147483648))) L sz) 0 0 (z_A L sz) := by
  refine z_met (cc := cX10_through) (maxL := 4) (ret := (some .int)) (lv := [(0, .ref mm), (1, .int ga), (2, .int dy), (3, .int wt)]) (by decide) rfl (Nat.le_of_ble_eq_true rfl) rfl ?_
  intro p e s m below meth c ls hx hb hr hlk hml hown hnm hts hKK hA hw hl
  have hK := hKK.1.1
  have hown : s.vm.findClass RX10 = some m.cls := hown
  have hT : ∀ w ∈ lw_all, w.before ([.ref mm, .int ga, .int dy, .int wt] : List Value).toArray s = true := fun w h => hts w (z_cons w h)
  have hsub : L = L := rfl
  have hfr : ∀ b ∈ L, b ≠ mm → b ≠ ro → b ≠ ct → b ≠ se → b ≠ th → b ≠ cn → b ≠ db → b ≠ be → b ≠ du → f b = f b := fun _ _ _ _ _ _ _ _ _ _ _ => rfl
  have hh0 := (hq_ha 0).1 rfl
  have hh1 := (hq_ha 1).2.1 rfl
  have hh2 := (hq_ha 2).2.2.1 rfl
  have hh3 := (hq_ha 3).2.2.2 rfl
  have hea0 : 2 ≤ (glw 3).toInt ∨ ((gha 3).toInt = 0 ∧ (gha 0).toInt = 0) := hea 0 (by decide)
  have hz_m2 : (-2 : Int32).toInt = -2 := by decide
  have hz_m1 : (-1 : Int32).toInt = -1 := by decide
  have hz_0 : (0 : Int32).toInt = 0 := by decide
  refine lv_aload_n hx hb dX10_through_0 rfl (lv_at hl 0 rfl) ?_
  refine lv_iconst (v := 0) hx hb dX10_through_1 (by decide) ?_
  refine z_put (C := RX10) (T := TX10) (N := 54) (ci := 10) (v := .int 0) (fs' := [.int 0, .ref wd, .ref my, .ref ce, .ref mv, .ref ta, .int m6, .int m7, .int m8, .int m9, .int m10, .long m11, .int m12, .int m13, .int m14, .int m15, .ref li, .ref ha, .ref lw, .ref st, .ref fo, .ref dr, .int m22, .ref ik, .int m24, .int m25, .long m26, .int m27, .int m28, .ref ro, .int m30, .ref ct, .ref se, .ref th, .ref cn, .ref be, .int m36, .ref du, .int m38, .ref db, .int m40, .int m41, .int m42, .ref pn, .ref wg, .ref wh, .ref tn, .ref he, .int m48, .ref tr, .ref fd, .ref po, .int m52, .int m53]) hx hb hT zin_X10 tyX10_ok nmX10 hown hK hw hm_mm hf_mm rfl 0 (by decide) (hT _ kw_1168) rfl rfl rfl (Nat.le_of_ble_eq_true rfl) rfl dX10_through_2 (fun H locs hw => ?_)
  obtain ⟨f1, e_f1⟩ : ∃ z, z = va_up f mm (.inr (10, [.int 0, .ref wd, .ref my, .ref ce, .ref mv, .ref ta, .int m6, .int m7, .int m8, .int m9, .int m10, .long m11, .int m12, .int m13, .int m14, .int m15, .ref li, .ref ha, .ref lw, .ref st, .ref fo, .ref dr, .int m22, .ref ik, .int m24, .int m25, .long m26, .int m27, .int m28, .ref ro, .int m30, .ref ct, .ref se, .ref th, .ref cn, .ref be, .int m36, .ref du, .int m38, .ref db, .int m40, .int m41, .int m42, .ref pn, .ref wg, .ref wh, .ref tn, .ref he, .int m48, .ref tr, .ref fd, .ref po, .int m52, .int m53])) := ⟨_, rfl⟩
  rw [← e_f1] at hw
  have hf_ha : f1 ha = .inl (cy 1, 30, .inl gha) := (congrFun e_f1 ha).trans (z_up_ne (z_tne hf_ha hf_mm (m := 340) (n := 10) rfl rfl (by decide)) hf_ha)
  have hf_dr : f1 dr = .inl (cy 1, 520, .inl gdr) := (congrFun e_f1 dr).trans (z_up_ne (z_tne hf_dr hf_mm (m := 4260) (n := 10) rfl rfl (by decide)) hf_dr)
  have hf_ro : f1 ro = .inl (cy 1, 13, .inl gro) := (congrFun e_f1 ro).trans (z_up_ne (z_tne hf_ro hf_mm (m := 204) (n := 10) rfl rfl (by decide)) hf_ro)
  have hf_lw : f1 lw = .inl (cy 1, 25, .inl glw) := (congrFun e_f1 lw).trans (z_up_ne (z_tne hf_lw hf_mm (m := 300) (n := 10) rfl rfl (by decide)) hf_lw)
  have hf_st : f1 st = .inl (cy 1, 20, .inl gst) := (congrFun e_f1 st).trans (z_up_ne (z_tne hf_st hf_mm (m := 260) (n := 10) rfl rfl (by decide)) hf_st)
  have hf_ct : f1 ct = .inl (cy 1, 4, .inl gct) := (congrFun e_f1 ct).trans (z_up_ne (z_tne hf_ct hf_mm (m := 132) (n := 10) rfl rfl (by decide)) hf_ct)
  have hf_se : f1 se = .inl (cy 1, 36, .inl gse) := (congrFun e_f1 se).trans (z_up_ne (z_tne hf_se hf_mm (m := 388) (n := 10) rfl rfl (by decide)) hf_se)
  have hf_th : f1 th = .inl (cy 1, 36, .inl gth) := (congrFun e_f1 th).trans (z_up_ne (z_tne hf_th hf_mm (m := 388) (n := 10) rfl rfl (by decide)) hf_th)
  have hf_cn : f1 cn = .inl (cy 1, 36, .inl gcn) := (congrFun e_f1 cn).trans (z_up_ne (z_tne hf_cn hf_mm (m := 388) (n := 10) rfl rfl (by decide)) hf_cn)
  have hf_db : f1 db = .inl (cy 1, 5, .inl gdb) := (congrFun e_f1 db).trans (z_up_ne (z_tne hf_db hf_mm (m := 140) (n := 10) rfl rfl (by decide)) hf_db)
  have hf_be : f1 be = .inl (cy 1, 2574, .inl gbe) := (congrFun e_f1 be).trans (z_up_ne (z_tne hf_be hf_mm (m := 20692) (n := 10) rfl rfl (by decide)) hf_be)
  have hf_du : f1 du = .inl (cy 1, 5200, .inl gdu) := (congrFun e_f1 du).trans (z_up_ne (z_tne hf_du hf_mm (m := 41700) (n := 10) rfl rfl (by decide)) hf_du)
  have hf_fo : f1 fo = .inl (cy 1, 180, .inl gfo) := (congrFun e_f1 fo).trans (z_up_ne (z_tne hf_fo hf_mm (m := 1540) (n := 10) rfl rfl (by decide)) hf_fo)
  have hf_mm : f1 mm = .inr (10, [.int 0, .ref wd, .ref my, .ref ce, .ref mv, .ref ta, .int m6, .int m7, .int m8, .int m9, .int m10, .long m11, .int m12, .int m13, .int m14, .int m15, .ref li, .ref ha, .ref lw, .ref st, .ref fo, .ref dr, .int m22, .ref ik, .int m24, .int m25, .long m26, .int m27, .int m28, .ref ro, .int m30, .ref ct, .ref se, .ref th, .ref cn, .ref be, .int m36, .ref du, .int m38, .ref db, .int m40, .int m41, .int m42, .ref pn, .ref wg, .ref wh, .ref tn, .ref he, .int m48, .ref tr, .ref fd, .ref po, .int m52, .int m53]) := (congrFun e_f1 mm).trans z_up_self
  have hfr : ∀ b ∈ L, b ≠ mm → b ≠ ro → b ≠ ct → b ≠ se → b ≠ th → b ≠ cn → b ≠ db → b ≠ be → b ≠ du → f1 b = f b := fun b hb h0 h1 h2 h3 h4 h5 h6 h7 h8 => (congrFun e_f1 b).trans (z_up_ne h0 (hfr b hb h0 h1 h2 h3 h4 h5 h6 h7 h8))
  refine lv_aload_n hx hb dX10_through_5 rfl (lv_at hl 0 rfl) ?_
  refine lv_iload_n hx hb dX10_through_6 rfl (lv_at hl 1 rfl) ?_
  refine z_calliV (cells := 0) (slots := 0) (b := mm) (As := [.int ga]) (rest := []) (ci := 10) (q0 := (RX10, TX10, 54)) ⟨hx, hb, hml, hown, hT⟩ (c_X10_isGap l hm_mm hm_ha hf_mm hf_ha hq_ha) (cwV 1 hT (z_goodV (fun _ h => h) kw_1519 kw_1521 kw_55 kw_96 kw_1522) rfl rfl rfl (by decide +kernel) ⟨by decide, by decide⟩) z_mv hKK hK hw hA hm_mm hf_mm rfl rfl rfl hl.1 rfl (Nat.le_of_ble_eq_true rfl) dX10_through_7 ⟨by decide, by decide⟩ (fun r2 u H locs hp hw => ?_)
  obtain ⟨rfl, hp⟩ := hp
  have hw : z_H D vwCl (z_A L sz) s.heap L f1 H locs := hw
  rcases hp with ⟨rfl, h3⟩ | ⟨rfl, h3⟩
  · skip
    refine z_if_eq (tgt := 31) hx hb (show (1 : Int32).toInt = 1 by decide) dX10_through_10 (by decide) (fun h => absurd h (by decide)) (fun _ => ?_)
    refine lv_aload_n hx hb dX10_through_13 rfl (lv_at hl 0 rfl) ?_
    refine lv_iload_n hx hb dX10_through_14 rfl (lv_at hl 2 rfl) ?_
    refine z_calliV (cells := 0) (slots := 0) (b := mm) (As := [.int dy]) (rest := []) (ci := 10) (q0 := (RX10, TX10, 54)) ⟨hx, hb, hml, hown, hT⟩ (c_X10_isDay l hm_mm hm_ha hf_mm hf_ha hq_ha) (cwV 1 hT (z_goodV (fun _ h => h) kw_1535 kw_1537 kw_57 kw_96 kw_1538) rfl rfl rfl (by decide +kernel) ⟨by decide, by decide⟩) z_mv hKK hK hw hA hm_mm hf_mm rfl rfl rfl hl.1 rfl (Nat.le_of_ble_eq_true rfl) dX10_through_15 ⟨by decide, by decide⟩ (fun r4 u H locs hp hw => ?_)
    obtain ⟨rfl, hp⟩ := hp
    have hw : z_H D vwCl (z_A L sz) s.heap L f1 H locs := hw
    rcases hp with ⟨rfl, h5⟩ | ⟨rfl, h5⟩
    · skip
      refine z_if_eq (tgt := 31) hx hb (show (1 : Int32).toInt = 1 by decide) dX10_through_18 (by decide) (fun h => absurd h (by decide)) (fun _ => ?_)
      refine lv_iload_n hx hb dX10_through_21 rfl (lv_at hl 3 rfl) ?_
      refine lv_i2l hx hb dX10_through_22 rfl ?_
      refine lv_topl (fun w6 e_w6 => ?_)
      have i_w6 : w6.toInt = wt.toInt := z_i2l e_w6 rfl
      refine lv_lconst (v := 0) hx hb dX10_through_23 (by decide) ?_
      refine lv_lconst (v := 1) hx hb dX10_through_24 (by decide) ?_
      have hz7 := (show (0 : Int64).toInt = 0 by decide)
      have hz8 := (show (1 : Int64).toInt = 1 by decide)
      refine z_calliS (cells := 0) (slots := 0) (As := [.long w6, .long 0, .long 1]) (rest := []) ⟨hx, hb, hml, hown, hT⟩ (c_X10_in l ) (va_cwS 3 hT (z_goodS (fun _ h => h) kw_1339 kw_1340 kw_96 kw_1341) rfl rfl rfl (by decide +kernel) ⟨by decide, by decide⟩) z_mv hKK hw hA rfl hl.1 rfl (Nat.le_of_ble_eq_true rfl) dX10_through_25 ⟨by decide, by decide⟩ (fun r9 u H locs hp hw => ?_)
      obtain ⟨rfl, hp⟩ := hp
      have hw : z_H D vwCl (z_A L sz) s.heap L f1 H locs := hw
      rcases hp with ⟨rfl, h10⟩ | ⟨rfl, h10⟩
      · skip
        refine z_if_ne (tgt := 34) hx hb (show (1 : Int32).toInt = 1 by decide) dX10_through_28 (by decide) (fun _ => ?_) (fun h => absurd h (by decide))
        refine lv_aload_n hx hb dX10_through_34 rfl (lv_at hl 0 rfl) ?_
        refine z_callvV (cells := 0) (slots := 0) (b := mm) (As := []) (rest := []) (ci := 10) (q0 := (RX10, TX10, 54)) ⟨hx, hb, hml, hown, hT⟩ (c_X10_asTold l hm_mm hm_ha hm_dr hm_ro hm_lw hm_st hm_ct hm_se hm_th hm_cn hm_db hm_be hm_du hm_fo hf_mm hf_ha hf_dr hf_ro hf_lw hf_st hf_ct hf_se hf_th hf_cn hf_db hf_be hf_du hf_fo ne_se_th ne_se_cn ne_th_cn hq_ha hq_dr hq_ro hq_lw hq_st hq_ct hq_be hq_du (by first | omega | decide | assumption) hea) (cwV 0 hT (z_goodV (fun _ h => h) kw_1587 kw_1589 kw_68 kw_96 kw_1590) rfl rfl rfl (by decide +kernel) ⟨by decide, by decide⟩) z_mv hKK hK hw hA hm_mm hf_mm rfl rfl rfl hl.1 rfl (Nat.le_of_ble_eq_true rfl) dX10_through_35 ⟨by decide, by decide⟩ (fun u H locs hp hw => ?_)
        obtain ⟨L11, f12⟩ := u
        obtain ⟨hsb, hfm, mn2_13, n2_14, d2_15, y2_16, x2_17, nro_18, nct_19, nse_20, nth_21, ncn_22, ndb_23, nbe_24, ndu_25, ha_0, ha_1, ha_2, ha_3, ha_4, ha_5, ha_6, ha_7, ha_8, hq_ro, hq_ct, hq_be, hq_du, hp⟩ := hp
        have hsb : L = L11 := hsb
        subst hsb
        have hsb : ∀ b ∈ L, b ∈ L := fun _ h => h
        have hw : z_H D vwCl (z_A L sz) s.heap L f12 H locs := hw
        have hfr : ∀ b ∈ L, b ≠ mm → b ≠ ro → b ≠ ct → b ≠ se → b ≠ th → b ≠ cn → b ≠ db → b ≠ be → b ≠ du → f12 b = f b := fun b hb h0 h1 h2 h3 h4 h5 h6 h7 h8 => (hfm b hb h0 h1 h2 h3 h4 h5 h6 h7 h8).trans (hfr b hb h0 h1 h2 h3 h4 h5 h6 h7 h8)
        have hf_ha : f12 ha = .inl (cy 1, 30, .inl gha) := (hfm ha hm_ha (z_tne hf_ha hf_mm (m := 340) (n := 10) rfl rfl (by decide)) (z_tne hf_ha hf_ro (m := 340) (n := 204) rfl rfl (by decide)) (z_tne hf_ha hf_ct (m := 340) (n := 132) rfl rfl (by decide)) (z_tne hf_ha hf_se (m := 340) (n := 388) rfl rfl (by decide)) (z_tne hf_ha hf_th (m := 340) (n := 388) rfl rfl (by decide)) (z_tne hf_ha hf_cn (m := 340) (n := 388) rfl rfl (by decide)) (z_tne hf_ha hf_db (m := 340) (n := 140) rfl rfl (by decide)) (z_tne hf_ha hf_be (m := 340) (n := 20692) rfl rfl (by decide)) (z_tne hf_ha hf_du (m := 340) (n := 41700) rfl rfl (by decide))).trans hf_ha
        have hf_dr : f12 dr = .inl (cy 1, 520, .inl gdr) := (hfm dr hm_dr (z_tne hf_dr hf_mm (m := 4260) (n := 10) rfl rfl (by decide)) (z_tne hf_dr hf_ro (m := 4260) (n := 204) rfl rfl (by decide)) (z_tne hf_dr hf_ct (m := 4260) (n := 132) rfl rfl (by decide)) (z_tne hf_dr hf_se (m := 4260) (n := 388) rfl rfl (by decide)) (z_tne hf_dr hf_th (m := 4260) (n := 388) rfl rfl (by decide)) (z_tne hf_dr hf_cn (m := 4260) (n := 388) rfl rfl (by decide)) (z_tne hf_dr hf_db (m := 4260) (n := 140) rfl rfl (by decide)) (z_tne hf_dr hf_be (m := 4260) (n := 20692) rfl rfl (by decide)) (z_tne hf_dr hf_du (m := 4260) (n := 41700) rfl rfl (by decide))).trans hf_dr
        have hf_lw : f12 lw = .inl (cy 1, 25, .inl glw) := (hfm lw hm_lw (z_tne hf_lw hf_mm (m := 300) (n := 10) rfl rfl (by decide)) (z_tne hf_lw hf_ro (m := 300) (n := 204) rfl rfl (by decide)) (z_tne hf_lw hf_ct (m := 300) (n := 132) rfl rfl (by decide)) (z_tne hf_lw hf_se (m := 300) (n := 388) rfl rfl (by decide)) (z_tne hf_lw hf_th (m := 300) (n := 388) rfl rfl (by decide)) (z_tne hf_lw hf_cn (m := 300) (n := 388) rfl rfl (by decide)) (z_tne hf_lw hf_db (m := 300) (n := 140) rfl rfl (by decide)) (z_tne hf_lw hf_be (m := 300) (n := 20692) rfl rfl (by decide)) (z_tne hf_lw hf_du (m := 300) (n := 41700) rfl rfl (by decide))).trans hf_lw
        have hf_st : f12 st = .inl (cy 1, 20, .inl gst) := (hfm st hm_st (z_tne hf_st hf_mm (m := 260) (n := 10) rfl rfl (by decide)) (z_tne hf_st hf_ro (m := 260) (n := 204) rfl rfl (by decide)) (z_tne hf_st hf_ct (m := 260) (n := 132) rfl rfl (by decide)) (z_tne hf_st hf_se (m := 260) (n := 388) rfl rfl (by decide)) (z_tne hf_st hf_th (m := 260) (n := 388) rfl rfl (by decide)) (z_tne hf_st hf_cn (m := 260) (n := 388) rfl rfl (by decide)) (z_tne hf_st hf_db (m := 260) (n := 140) rfl rfl (by decide)) (z_tne hf_st hf_be (m := 260) (n := 20692) rfl rfl (by decide)) (z_tne hf_st hf_du (m := 260) (n := 41700) rfl rfl (by decide))).trans hf_st
        have hf_fo : f12 fo = .inl (cy 1, 180, .inl gfo) := (hfm fo hm_fo (z_tne hf_fo hf_mm (m := 1540) (n := 10) rfl rfl (by decide)) (z_tne hf_fo hf_ro (m := 1540) (n := 204) rfl rfl (by decide)) (z_tne hf_fo hf_ct (m := 1540) (n := 132) rfl rfl (by decide)) (z_tne hf_fo hf_se (m := 1540) (n := 388) rfl rfl (by decide)) (z_tne hf_fo hf_th (m := 1540) (n := 388) rfl rfl (by decide)) (z_tne hf_fo hf_cn (m := 1540) (n := 388) rfl rfl (by decide)) (z_tne hf_fo hf_db (m := 1540) (n := 140) rfl rfl (by decide)) (z_tne hf_fo hf_be (m := 1540) (n := 20692) rfl rfl (by decide)) (z_tne hf_fo hf_du (m := 1540) (n := 41700) rfl rfl (by decide))).trans hf_fo
        have hf_mm : f12 mm = .inr (10, [.int 0, .ref wd, .ref my, .ref ce, .ref mv, .ref ta, .int m6, .int m7, .int m8, .int m9, .int m10, .long m11, .int m12, .int m13, .int m14, .int m15, .ref li, .ref ha, .ref lw, .ref st, .ref fo, .ref dr, .int m22, .ref ik, .int (-1), .int mn2_13, .long x2_17, .int 0, .int 1000, .ref ro, .int n2_14, .ref ct, .ref se, .ref th, .ref cn, .ref be, .int y2_16, .ref du, .int d2_15, .ref db, .int m40, .int m41, .int m42, .ref pn, .ref wg, .ref wh, .ref tn, .ref he, .int m48, .ref tr, .ref fd, .ref po, .int m52, .int m53]) := ha_0
        have hf_ro : f12 ro = .inl (cy 1, 13, .inl nro_18) := ha_1
        have hf_ct : f12 ct = .inl (cy 1, 4, .inl nct_19) := ha_2
        have hf_se : f12 se = .inl (cy 1, 36, .inl nse_20) := ha_3
        have hf_th : f12 th = .inl (cy 1, 36, .inl nth_21) := ha_4
        have hf_cn : f12 cn = .inl (cy 1, 36, .inl ncn_22) := ha_5
        have hf_db : f12 db = .inl (cy 1, 5, .inl ndb_23) := ha_6
        have hf_be : f12 be = .inl (cy 1, 2574, .inl nbe_24) := ha_7
        have hf_du : f12 du = .inl (cy 1, 5200, .inl ndu_25) := ha_8
        have hto := hp
        refine lv_iload_n hx hb dX10_through_38 rfl (lv_at hl 3 rfl) ?_
        refine z_if_ne (tgt := 56) hx hb rfl dX10_through_39 (by decide) (fun c26 => ?_) (fun c26 => ?_)
        · skip
          refine lv_aload_n hx hb dX10_through_56 rfl (lv_at hl 0 rfl) ?_
          refine z_get (C := RX10) (T := TX10) (N := 54) (ci := 10) (v := .ref cn) hx hb hT zin_X10 hown hK hw hm_mm hf_mm rfl 34 (by decide) (hT _ kw_1202) rfl dX10_through_57 ?_
          refine lv_bipush (v := 9) hx hb dX10_through_60 (by decide) ?_
          refine lv_iload_n hx hb dX10_through_62 rfl (lv_at hl 1 rfl) ?_
          refine lv_imul hx hb dX10_through_63 ?_
          refine lv_topi (fun w27 e_w27 => ?_)
          have i_w27 : w27.toInt = (9 * ga.toInt) := z_mul e_w27 (show (9 : Int32).toInt = 9 by decide) rfl (by omega)
          refine lv_iload_n hx hb dX10_through_64 rfl (lv_at hl 2 rfl) ?_
          refine lv_iadd hx hb dX10_through_65 ?_
          refine lv_topi (fun w28 e_w28 => ?_)
          have i_w28 : w28.toInt = ((9 * ga.toInt) + dy.toInt) := z_add e_w28 i_w27 rfl (by omega)
          refine z_iald hx hb hK hw 1 hm_cn hf_cn rfl (z_ix i_w28 (by omega)) dX10_through_66 ?_
          refine lv_topi (fun w29 e_w29 => ?_)
          exact z_iret hx hb hr hlk (by decide) (by decide) hw (⟨hsub, hfr, (-1), mn2_13, 0, 1000, n2_14, d2_15, y2_16, x2_17, nro_18, nct_19, nse_20, nth_21, ncn_22, ndb_23, nbe_24, ndu_25, hf_mm, hf_ro, hf_ct, hf_se, hf_th, hf_cn, hf_db, hf_be, hf_du, hq_ro, hq_ct, hq_be, hq_du, by omega⟩) dX10_through_67
        · skip
          refine lv_aload_n hx hb dX10_through_42 rfl (lv_at hl 0 rfl) ?_
          refine z_get (C := RX10) (T := TX10) (N := 54) (ci := 10) (v := .ref th) hx hb hT zin_X10 hown hK hw hm_mm hf_mm rfl 33 (by decide) (hT _ kw_1201) rfl dX10_through_43 ?_
          refine lv_bipush (v := 9) hx hb dX10_through_46 (by decide) ?_
          refine lv_iload_n hx hb dX10_through_48 rfl (lv_at hl 1 rfl) ?_
          refine lv_imul hx hb dX10_through_49 ?_
          refine lv_topi (fun w30 e_w30 => ?_)
          have i_w30 : w30.toInt = (9 * ga.toInt) := z_mul e_w30 (show (9 : Int32).toInt = 9 by decide) rfl (by omega)
          refine lv_iload_n hx hb dX10_through_50 rfl (lv_at hl 2 rfl) ?_
          refine lv_iadd hx hb dX10_through_51 ?_
          refine lv_topi (fun w31 e_w31 => ?_)
          have i_w31 : w31.toInt = ((9 * ga.toInt) + dy.toInt) := z_add e_w31 i_w30 rfl (by omega)
          refine z_iald hx hb hK hw 1 hm_th hf_th rfl (z_ix i_w31 (by omega)) dX10_through_52 ?_
          refine lv_topi (fun w32 e_w32 => ?_)
          refine lv_goto (tgt := 67) hx hb dX10_through_53 (by decide) ?_
          exact z_iret hx hb hr hlk (by decide) (by decide) hw (⟨hsub, hfr, (-1), mn2_13, 0, 1000, n2_14, d2_15, y2_16, x2_17, nro_18, nct_19, nse_20, nth_21, ncn_22, ndb_23, nbe_24, ndu_25, hf_mm, hf_ro, hf_ct, hf_se, hf_th, hf_cn, hf_db, hf_be, hf_du, hq_ro, hq_ct, hq_be, hq_du, by omega⟩) dX10_through_67
      · skip
        refine z_if_ne (tgt := 34) hx hb (show (0 : Int32).toInt = 0 by decide) dX10_through_28 (by decide) (fun h => absurd h (by decide)) (fun _ => ?_)
        refine lv_bipush (v := (-2)) hx hb dX10_through_31 (by decide) ?_
        exact z_iret hx hb hr hlk (by decide) (by decide) hw (⟨hsub, hfr, m24, m25, m27, m28, m30, m38, m36, m26, gro, gct, gse, gth, gcn, gdb, gbe, gdu, hf_mm, hf_ro, hf_ct, hf_se, hf_th, hf_cn, hf_db, hf_be, hf_du, hq_ro, hq_ct, hq_be, hq_du, by omega⟩) dX10_through_33
    · skip
      refine z_if_eq (tgt := 31) hx hb (show (0 : Int32).toInt = 0 by decide) dX10_through_18 (by decide) (fun _ => ?_) (fun h => absurd h (by decide))
      refine lv_bipush (v := (-2)) hx hb dX10_through_31 (by decide) ?_
      exact z_iret hx hb hr hlk (by decide) (by decide) hw (⟨hsub, hfr, m24, m25, m27, m28, m30, m38, m36, m26, gro, gct, gse, gth, gcn, gdb, gbe, gdu, hf_mm, hf_ro, hf_ct, hf_se, hf_th, hf_cn, hf_db, hf_be, hf_du, hq_ro, hq_ct, hq_be, hq_du, by omega⟩) dX10_through_33
  · skip
    refine z_if_eq (tgt := 31) hx hb (show (0 : Int32).toInt = 0 by decide) dX10_through_10 (by decide) (fun _ => ?_) (fun h => absurd h (by decide))
    refine lv_bipush (v := (-2)) hx hb dX10_through_31 (by decide) ?_
    exact z_iret hx hb hr hlk (by decide) (by decide) hw (⟨hsub, hfr, m24, m25, m27, m28, m30, m38, m36, m26, gro, gct, gse, gth, gcn, gdb, gbe, gdu, hf_mm, hf_ro, hf_ct, hf_se, hf_th, hf_cn, hf_db, hf_be, hf_du, hq_ro, hq_ct, hq_be, hq_du, by omega⟩) dX10_through_33

set_option maxHeartbeats 2000000 in
set_option maxRecDepth 100000 in
theorem c_X10_dues (l : Launch) {D : va_G} {cy : Nat → ClassId} {L : List Nat} {f : Nat → va_E} {sz : Nat} {adK adV : Nat → Nat} {mm wd my ce mv ta li ha lw st fo dr ik ro ct se th cn be du db pn wg wh tn he tr fd po : Nat} {m0 m6 m7 m8 m9 m10 m12 m13 m14 m15 m22 m24 m25 m27 m28 m30 m36 m38 m40 m41 m42 m48 m52 m53 : Int32} {m11 m26 : Int64} {gli gha glw gst gfo gdr gro gct gse gth gcn gbe gdu gdb : Nat → Int32}  (hm_mm : mm ∈ L) (hm_ha : ha ∈ L) (hm_dr : dr ∈ L) (hm_ro : ro ∈ L) (hm_lw : lw ∈ L) (hm_st : st ∈ L) (hm_ct : ct ∈ L) (hm_se : se ∈ L) (hm_th : th ∈ L) (hm_cn : cn ∈ L) (hm_db : db ∈ L) (hm_be : be ∈ L) (hm_du : du ∈ L) (hm_fo : fo ∈ L) (hm_li : li ∈ L) (hf_mm : f mm = .inr (10, [.int m0, .ref wd, .ref my, .ref ce, .ref mv, .ref ta, .int m6, .int m7, .int m8, .int m9, .int m10, .long m11, .int m12, .int m13, .int m14, .int m15, .ref li, .ref ha, .ref lw, .ref st, .ref fo, .ref dr, .int m22, .ref ik, .int m24, .int m25, .long m26, .int m27, .int m28, .ref ro, .int m30, .ref ct, .ref se, .ref th, .ref cn, .ref be, .int m36, .ref du, .int m38, .ref db, .int m40, .int m41, .int m42, .ref pn, .ref wg, .ref wh, .ref tn, .ref he, .int m48, .ref tr, .ref fd, .ref po, .int m52, .int m53])) (hf_ha : f ha = .inl (cy 1, 30, .inl gha)) (hf_dr : f dr = .inl (cy 1, 520, .inl gdr)) (hf_ro : f ro = .inl (cy 1, 13, .inl gro)) (hf_lw : f lw = .inl (cy 1, 25, .inl glw)) (hf_st : f st = .inl (cy 1, 20, .inl gst)) (hf_ct : f ct = .inl (cy 1, 4, .inl gct)) (hf_se : f se = .inl (cy 1, 36, .inl gse)) (hf_th : f th = .inl (cy 1, 36, .inl gth)) (hf_cn : f cn = .inl (cy 1, 36, .inl gcn)) (hf_db : f db = .inl (cy 1, 5, .inl gdb)) (hf_be : f be = .inl (cy 1, 2574, .inl gbe)) (hf_du : f du = .inl (cy 1, 5200, .inl gdu)) (hf_fo : f fo = .inl (cy 1, 180, .inl gfo)) (hf_li : f li = .inl (cy 1, 5, .inl gli)) (ne_se_th : se ≠ th) (ne_se_cn : se ≠ cn) (ne_th_cn : th ≠ cn) (ne_db_li : db ≠ li) (hq_ha : ∀ j : Nat, q_has j (gha j)) (hq_dr : ∀ j : Nat, q_drv j (gdr j)) (hq_ro : ∀ j : Nat, q_12 j (gro j)) (hq_lw : ∀ j : Nat, q_law j (glw j)) (hq_st : ∀ j : Nat, q_law j (gst j)) (hq_ct : ∀ j : Nat, q_law j (gct j)) (hq_be : ∀ j : Nat, q_be j (gbe j)) (hq_du : ∀ j : Nat, q_du j (gdu j)) (hxx : 0 ≤ m26.toInt ∧ m26.toInt < 2147483648) (hea : ∀ m : Nat, m < 5 → z_ea gha glw m) : Met l yX10_dues (z_ws yX10_dues cX10_dues 1 (some .int)) (z_R 7 0 0) (va_Pc [.ref mm] (z_Pre D vwCl (z_KK D cy adK adV) L f sz)) (z_Qi D vwCl (fun r u => L = u.1 ∧ (∀ b ∈ L, b ≠ mm → b ≠ ro → b ≠ ct → b ≠ se → b ≠ th → b ≠ cn → b ≠ db → b ≠ be → b ≠ du → u.2 b = f b) ∧ (∃ (o2 mn2 i2 u2 n2 d2 y2 : Int32) (x2 : Int64) (nro nct nse nth ncn ndb nbe ndu : Nat → Int32), (u.2 mm = .inr (10, [.int 0, .ref wd, .ref my, .ref ce, .ref mv, .ref ta, .int m6, .int m7, .int m8, .int m9, .int m10, .long m11, .int m12, .int m13, .int m14, .int m15, .ref li, .ref ha, .ref lw, .ref st, .ref fo, .ref dr, .int m22, .ref ik, .int o2, .int mn2, .long x2, .int i2, .int u2, .ref ro, .int n2, .ref ct, .ref se, .ref th, .ref cn, .ref be, .int y2, .ref du, .int d2, .ref db, .int m40, .int m41, .int m42, .ref pn, .ref wg, .ref wh, .ref tn, .ref he, .int m48, .ref tr, .ref fd, .ref po, .int m52, .int m53])) ∧ (u.2 ro = .inl (cy 1, 13, .inl nro)) ∧ (u.2 ct = .inl (cy 1, 4, .inl nct)) ∧ (u.2 se = .inl (cy 1, 36, .inl nse)) ∧ (u.2 th = .inl (cy 1, 36, .inl nth)) ∧ (u.2 cn = .inl (cy 1, 36, .inl ncn)) ∧ (u.2 db = .inl (cy 1, 5, .inl ndb)) ∧ (u.2 be = .inl (cy 1, 2574, .inl nbe)) ∧ (u.2 du = .inl (cy 1, 5200, .inl ndu)) ∧ (∀ j : Nat, q_12 j (nro j)) ∧ (∀ j : Nat, q_law j (nct j)) ∧ (∀ j : Nat, q_be j (nbe j)) ∧ (∀ j : Nat, q_du j (ndu j)) ∧ (0 ≤ x2.toInt ∧ x2.toInt < 2147483648))) L sz) 0 0 (z_A L sz) := by
  refine z_met (cc := cX10_dues) (maxL := 1) (ret := (some .int)) (lv := [(0, .ref mm)]) (by decide) rfl (Nat.le_of_ble_eq_true rfl) rfl ?_
  intro p e s m below meth c ls hx hb hr hlk hml hown hnm hts hKK hA hw hl
  have hK := hKK.1.1
  have hown : s.vm.findClass RX10 = some m.cls := hown
  have hT : ∀ w ∈ lw_all, w.before ([.ref mm] : List Value).toArray s = true := fun w h => hts w (z_cons w h)
  have hsub : L = L := rfl
  have hfr : ∀ b ∈ L, b ≠ mm → b ≠ ro → b ≠ ct → b ≠ se → b ≠ th → b ≠ cn → b ≠ db → b ≠ be → b ≠ du → f b = f b := fun _ _ _ _ _ _ _ _ _ _ _ => rfl
  have hh0 := (hq_ha 0).1 rfl
  have hh1 := (hq_ha 1).2.1 rfl
  have hh2 := (hq_ha 2).2.2.1 rfl
  have hh3 := (hq_ha 3).2.2.2 rfl
  have hea0 : 2 ≤ (glw 3).toInt ∨ ((gha 3).toInt = 0 ∧ (gha 0).toInt = 0) := hea 0 (by decide)
  have hz_m2 : (-2 : Int32).toInt = -2 := by decide
  have hz_m1 : (-1 : Int32).toInt = -1 := by decide
  have hz_0 : (0 : Int32).toInt = 0 := by decide
  refine lv_aload_n hx hb dX10_dues_0 rfl (lv_at hl 0 rfl) ?_
  refine lv_iconst (v := 0) hx hb dX10_dues_1 (by decide) ?_
  refine z_put (C := RX10) (T := TX10) (N := 54) (ci := 10) (v := .int 0) (fs' := [.int 0, .ref wd, .ref my, .ref ce, .ref mv, .ref ta, .int m6, .int m7, .int m8, .int m9, .int m10, .long m11, .int m12, .int m13, .int m14, .int m15, .ref li, .ref ha, .ref lw, .ref st, .ref fo, .ref dr, .int m22, .ref ik, .int m24, .int m25, .long m26, .int m27, .int m28, .ref ro, .int m30, .ref ct, .ref se, .ref th, .ref cn, .ref be, .int m36, .ref du, .int m38, .ref db, .int m40, .int m41, .int m42, .ref pn, .ref wg, .ref wh, .ref tn, .ref he, .int m48, .ref tr, .ref fd, .ref po, .int m52, .int m53]) hx hb hT zin_X10 tyX10_ok nmX10 hown hK hw hm_mm hf_mm rfl 0 (by decide) (hT _ kw_1168) rfl rfl rfl (Nat.le_of_ble_eq_true rfl) rfl dX10_dues_2 (fun H locs hw => ?_)
  obtain ⟨f1, e_f1⟩ : ∃ z, z = va_up f mm (.inr (10, [.int 0, .ref wd, .ref my, .ref ce, .ref mv, .ref ta, .int m6, .int m7, .int m8, .int m9, .int m10, .long m11, .int m12, .int m13, .int m14, .int m15, .ref li, .ref ha, .ref lw, .ref st, .ref fo, .ref dr, .int m22, .ref ik, .int m24, .int m25, .long m26, .int m27, .int m28, .ref ro, .int m30, .ref ct, .ref se, .ref th, .ref cn, .ref be, .int m36, .ref du, .int m38, .ref db, .int m40, .int m41, .int m42, .ref pn, .ref wg, .ref wh, .ref tn, .ref he, .int m48, .ref tr, .ref fd, .ref po, .int m52, .int m53])) := ⟨_, rfl⟩
  rw [← e_f1] at hw
  have hf_ha : f1 ha = .inl (cy 1, 30, .inl gha) := (congrFun e_f1 ha).trans (z_up_ne (z_tne hf_ha hf_mm (m := 340) (n := 10) rfl rfl (by decide)) hf_ha)
  have hf_dr : f1 dr = .inl (cy 1, 520, .inl gdr) := (congrFun e_f1 dr).trans (z_up_ne (z_tne hf_dr hf_mm (m := 4260) (n := 10) rfl rfl (by decide)) hf_dr)
  have hf_ro : f1 ro = .inl (cy 1, 13, .inl gro) := (congrFun e_f1 ro).trans (z_up_ne (z_tne hf_ro hf_mm (m := 204) (n := 10) rfl rfl (by decide)) hf_ro)
  have hf_lw : f1 lw = .inl (cy 1, 25, .inl glw) := (congrFun e_f1 lw).trans (z_up_ne (z_tne hf_lw hf_mm (m := 300) (n := 10) rfl rfl (by decide)) hf_lw)
  have hf_st : f1 st = .inl (cy 1, 20, .inl gst) := (congrFun e_f1 st).trans (z_up_ne (z_tne hf_st hf_mm (m := 260) (n := 10) rfl rfl (by decide)) hf_st)
  have hf_ct : f1 ct = .inl (cy 1, 4, .inl gct) := (congrFun e_f1 ct).trans (z_up_ne (z_tne hf_ct hf_mm (m := 132) (n := 10) rfl rfl (by decide)) hf_ct)
  have hf_se : f1 se = .inl (cy 1, 36, .inl gse) := (congrFun e_f1 se).trans (z_up_ne (z_tne hf_se hf_mm (m := 388) (n := 10) rfl rfl (by decide)) hf_se)
  have hf_th : f1 th = .inl (cy 1, 36, .inl gth) := (congrFun e_f1 th).trans (z_up_ne (z_tne hf_th hf_mm (m := 388) (n := 10) rfl rfl (by decide)) hf_th)
  have hf_cn : f1 cn = .inl (cy 1, 36, .inl gcn) := (congrFun e_f1 cn).trans (z_up_ne (z_tne hf_cn hf_mm (m := 388) (n := 10) rfl rfl (by decide)) hf_cn)
  have hf_db : f1 db = .inl (cy 1, 5, .inl gdb) := (congrFun e_f1 db).trans (z_up_ne (z_tne hf_db hf_mm (m := 140) (n := 10) rfl rfl (by decide)) hf_db)
  have hf_be : f1 be = .inl (cy 1, 2574, .inl gbe) := (congrFun e_f1 be).trans (z_up_ne (z_tne hf_be hf_mm (m := 20692) (n := 10) rfl rfl (by decide)) hf_be)
  have hf_du : f1 du = .inl (cy 1, 5200, .inl gdu) := (congrFun e_f1 du).trans (z_up_ne (z_tne hf_du hf_mm (m := 41700) (n := 10) rfl rfl (by decide)) hf_du)
  have hf_fo : f1 fo = .inl (cy 1, 180, .inl gfo) := (congrFun e_f1 fo).trans (z_up_ne (z_tne hf_fo hf_mm (m := 1540) (n := 10) rfl rfl (by decide)) hf_fo)
  have hf_li : f1 li = .inl (cy 1, 5, .inl gli) := (congrFun e_f1 li).trans (z_up_ne (z_tne hf_li hf_mm (m := 140) (n := 10) rfl rfl (by decide)) hf_li)
  have hf_mm : f1 mm = .inr (10, [.int 0, .ref wd, .ref my, .ref ce, .ref mv, .ref ta, .int m6, .int m7, .int m8, .int m9, .int m10, .long m11, .int m12, .int m13, .int m14, .int m15, .ref li, .ref ha, .ref lw, .ref st, .ref fo, .ref dr, .int m22, .ref ik, .int m24, .int m25, .long m26, .int m27, .int m28, .ref ro, .int m30, .ref ct, .ref se, .ref th, .ref cn, .ref be, .int m36, .ref du, .int m38, .ref db, .int m40, .int m41, .int m42, .ref pn, .ref wg, .ref wh, .ref tn, .ref he, .int m48, .ref tr, .ref fd, .ref po, .int m52, .int m53]) := (congrFun e_f1 mm).trans z_up_self
  have hfr : ∀ b ∈ L, b ≠ mm → b ≠ ro → b ≠ ct → b ≠ se → b ≠ th → b ≠ cn → b ≠ db → b ≠ be → b ≠ du → f1 b = f b := fun b hb h0 h1 h2 h3 h4 h5 h6 h7 h8 => (congrFun e_f1 b).trans (z_up_ne h0 (hfr b hb h0 h1 h2 h3 h4 h5 h6 h7 h8))
  refine lv_aload_n hx hb dX10_dues_5 rfl (lv_at hl 0 rfl) ?_
  refine z_calliV (cells := 0) (slots := 0) (b := mm) (As := []) (rest := []) (ci := 10) (q0 := (RX10, TX10, 54)) ⟨hx, hb, hml, hown, hT⟩ (c_X10_isMoor l hm_mm hm_li hf_mm hf_li) (cwV 0 hT (z_goodV (fun _ h => h) kw_1507 kw_1509 kw_54 kw_96 kw_1510) rfl rfl rfl (by decide +kernel) ⟨by decide, by decide⟩) z_mv hKK hK hw hA hm_mm hf_mm rfl rfl rfl hl.1 rfl (Nat.le_of_ble_eq_true rfl) dX10_dues_6 ⟨by decide, by decide⟩ (fun r2 u H locs hp hw => ?_)
  obtain ⟨rfl, hp⟩ := hp
  have hw : z_H D vwCl (z_A L sz) s.heap L f1 H locs := hw
  rcases hp with ⟨rfl, h3⟩ | ⟨rfl, h3⟩
  · skip
    refine z_if_ne (tgt := 15) hx hb (show (1 : Int32).toInt = 1 by decide) dX10_dues_9 (by decide) (fun _ => ?_) (fun h => absurd h (by decide))
    refine lv_aload_n hx hb dX10_dues_15 rfl (lv_at hl 0 rfl) ?_
    refine z_callvV (cells := 0) (slots := 0) (b := mm) (As := []) (rest := []) (ci := 10) (q0 := (RX10, TX10, 54)) ⟨hx, hb, hml, hown, hT⟩ (c_X10_asTold l hm_mm hm_ha hm_dr hm_ro hm_lw hm_st hm_ct hm_se hm_th hm_cn hm_db hm_be hm_du hm_fo hf_mm hf_ha hf_dr hf_ro hf_lw hf_st hf_ct hf_se hf_th hf_cn hf_db hf_be hf_du hf_fo ne_se_th ne_se_cn ne_th_cn hq_ha hq_dr hq_ro hq_lw hq_st hq_ct hq_be hq_du (by first | omega | decide | assumption) hea) (cwV 0 hT (z_goodV (fun _ h => h) kw_1587 kw_1589 kw_68 kw_96 kw_1590) rfl rfl rfl (by decide +kernel) ⟨by decide, by decide⟩) z_mv hKK hK hw hA hm_mm hf_mm rfl rfl rfl hl.1 rfl (Nat.le_of_ble_eq_true rfl) dX10_dues_16 ⟨by decide, by decide⟩ (fun u H locs hp hw => ?_)
    obtain ⟨L4, f5⟩ := u
    obtain ⟨hsb, hfm, mn2_6, n2_7, d2_8, y2_9, x2_10, nro_11, nct_12, nse_13, nth_14, ncn_15, ndb_16, nbe_17, ndu_18, ha_0, ha_1, ha_2, ha_3, ha_4, ha_5, ha_6, ha_7, ha_8, hq_ro, hq_ct, hq_be, hq_du, hp⟩ := hp
    have hsb : L = L4 := hsb
    subst hsb
    have hsb : ∀ b ∈ L, b ∈ L := fun _ h => h
    have hw : z_H D vwCl (z_A L sz) s.heap L f5 H locs := hw
    have hfr : ∀ b ∈ L, b ≠ mm → b ≠ ro → b ≠ ct → b ≠ se → b ≠ th → b ≠ cn → b ≠ db → b ≠ be → b ≠ du → f5 b = f b := fun b hb h0 h1 h2 h3 h4 h5 h6 h7 h8 => (hfm b hb h0 h1 h2 h3 h4 h5 h6 h7 h8).trans (hfr b hb h0 h1 h2 h3 h4 h5 h6 h7 h8)
    have hf_ha : f5 ha = .inl (cy 1, 30, .inl gha) := (hfm ha hm_ha (z_tne hf_ha hf_mm (m := 340) (n := 10) rfl rfl (by decide)) (z_tne hf_ha hf_ro (m := 340) (n := 204) rfl rfl (by decide)) (z_tne hf_ha hf_ct (m := 340) (n := 132) rfl rfl (by decide)) (z_tne hf_ha hf_se (m := 340) (n := 388) rfl rfl (by decide)) (z_tne hf_ha hf_th (m := 340) (n := 388) rfl rfl (by decide)) (z_tne hf_ha hf_cn (m := 340) (n := 388) rfl rfl (by decide)) (z_tne hf_ha hf_db (m := 340) (n := 140) rfl rfl (by decide)) (z_tne hf_ha hf_be (m := 340) (n := 20692) rfl rfl (by decide)) (z_tne hf_ha hf_du (m := 340) (n := 41700) rfl rfl (by decide))).trans hf_ha
    have hf_dr : f5 dr = .inl (cy 1, 520, .inl gdr) := (hfm dr hm_dr (z_tne hf_dr hf_mm (m := 4260) (n := 10) rfl rfl (by decide)) (z_tne hf_dr hf_ro (m := 4260) (n := 204) rfl rfl (by decide)) (z_tne hf_dr hf_ct (m := 4260) (n := 132) rfl rfl (by decide)) (z_tne hf_dr hf_se (m := 4260) (n := 388) rfl rfl (by decide)) (z_tne hf_dr hf_th (m := 4260) (n := 388) rfl rfl (by decide)) (z_tne hf_dr hf_cn (m := 4260) (n := 388) rfl rfl (by decide)) (z_tne hf_dr hf_db (m := 4260) (n := 140) rfl rfl (by decide)) (z_tne hf_dr hf_be (m := 4260) (n := 20692) rfl rfl (by decide)) (z_tne hf_dr hf_du (m := 4260) (n := 41700) rfl rfl (by decide))).trans hf_dr
    have hf_lw : f5 lw = .inl (cy 1, 25, .inl glw) := (hfm lw hm_lw (z_tne hf_lw hf_mm (m := 300) (n := 10) rfl rfl (by decide)) (z_tne hf_lw hf_ro (m := 300) (n := 204) rfl rfl (by decide)) (z_tne hf_lw hf_ct (m := 300) (n := 132) rfl rfl (by decide)) (z_tne hf_lw hf_se (m := 300) (n := 388) rfl rfl (by decide)) (z_tne hf_lw hf_th (m := 300) (n := 388) rfl rfl (by decide)) (z_tne hf_lw hf_cn (m := 300) (n := 388) rfl rfl (by decide)) (z_tne hf_lw hf_db (m := 300) (n := 140) rfl rfl (by decide)) (z_tne hf_lw hf_be (m := 300) (n := 20692) rfl rfl (by decide)) (z_tne hf_lw hf_du (m := 300) (n := 41700) rfl rfl (by decide))).trans hf_lw
    have hf_st : f5 st = .inl (cy 1, 20, .inl gst) := (hfm st hm_st (z_tne hf_st hf_mm (m := 260) (n := 10) rfl rfl (by decide)) (z_tne hf_st hf_ro (m := 260) (n := 204) rfl rfl (by decide)) (z_tne hf_st hf_ct (m := 260) (n := 132) rfl rfl (by decide)) (z_tne hf_st hf_se (m := 260) (n := 388) rfl rfl (by decide)) (z_tne hf_st hf_th (m := 260) (n := 388) rfl rfl (by decide)) (z_tne hf_st hf_cn (m := 260) (n := 388) rfl rfl (by decide)) (z_tne hf_st hf_db (m := 260) (n := 140) rfl rfl (by decide)) (z_tne hf_st hf_be (m := 260) (n := 20692) rfl rfl (by decide)) (z_tne hf_st hf_du (m := 260) (n := 41700) rfl rfl (by decide))).trans hf_st
    have hf_fo : f5 fo = .inl (cy 1, 180, .inl gfo) := (hfm fo hm_fo (z_tne hf_fo hf_mm (m := 1540) (n := 10) rfl rfl (by decide)) (z_tne hf_fo hf_ro (m := 1540) (n := 204) rfl rfl (by decide)) (z_tne hf_fo hf_ct (m := 1540) (n := 132) rfl rfl (by decide)) (z_tne hf_fo hf_se (m := 1540) (n := 388) rfl rfl (by decide)) (z_tne hf_fo hf_th (m := 1540) (n := 388) rfl rfl (by decide)) (z_tne hf_fo hf_cn (m := 1540) (n := 388) rfl rfl (by decide)) (z_tne hf_fo hf_db (m := 1540) (n := 140) rfl rfl (by decide)) (z_tne hf_fo hf_be (m := 1540) (n := 20692) rfl rfl (by decide)) (z_tne hf_fo hf_du (m := 1540) (n := 41700) rfl rfl (by decide))).trans hf_fo
    have hf_li : f5 li = .inl (cy 1, 5, .inl gli) := (hfm li hm_li (z_tne hf_li hf_mm (m := 140) (n := 10) rfl rfl (by decide)) (z_tne hf_li hf_ro (m := 140) (n := 204) rfl rfl (by decide)) (z_tne hf_li hf_ct (m := 140) (n := 132) rfl rfl (by decide)) (z_tne hf_li hf_se (m := 140) (n := 388) rfl rfl (by decide)) (z_tne hf_li hf_th (m := 140) (n := 388) rfl rfl (by decide)) (z_tne hf_li hf_cn (m := 140) (n := 388) rfl rfl (by decide)) (Ne.symm ne_db_li) (z_tne hf_li hf_be (m := 140) (n := 20692) rfl rfl (by decide)) (z_tne hf_li hf_du (m := 140) (n := 41700) rfl rfl (by decide))).trans hf_li
    have hf_mm : f5 mm = .inr (10, [.int 0, .ref wd, .ref my, .ref ce, .ref mv, .ref ta, .int m6, .int m7, .int m8, .int m9, .int m10, .long m11, .int m12, .int m13, .int m14, .int m15, .ref li, .ref ha, .ref lw, .ref st, .ref fo, .ref dr, .int m22, .ref ik, .int (-1), .int mn2_6, .long x2_10, .int 0, .int 1000, .ref ro, .int n2_7, .ref ct, .ref se, .ref th, .ref cn, .ref be, .int y2_9, .ref du, .int d2_8, .ref db, .int m40, .int m41, .int m42, .ref pn, .ref wg, .ref wh, .ref tn, .ref he, .int m48, .ref tr, .ref fd, .ref po, .int m52, .int m53]) := ha_0
    have hf_ro : f5 ro = .inl (cy 1, 13, .inl nro_11) := ha_1
    have hf_ct : f5 ct = .inl (cy 1, 4, .inl nct_12) := ha_2
    have hf_se : f5 se = .inl (cy 1, 36, .inl nse_13) := ha_3
    have hf_th : f5 th = .inl (cy 1, 36, .inl nth_14) := ha_4
    have hf_cn : f5 cn = .inl (cy 1, 36, .inl ncn_15) := ha_5
    have hf_db : f5 db = .inl (cy 1, 5, .inl ndb_16) := ha_6
    have hf_be : f5 be = .inl (cy 1, 2574, .inl nbe_17) := ha_7
    have hf_du : f5 du = .inl (cy 1, 5200, .inl ndu_18) := ha_8
    have hto := hp
    refine lv_aload_n hx hb dX10_dues_19 rfl (lv_at hl 0 rfl) ?_
    refine z_get (C := RX10) (T := TX10) (N := 54) (ci := 10) (v := .int d2_8) hx hb hT zin_X10 hown hK hw hm_mm hf_mm rfl 38 (by decide) (hT _ kw_1206) rfl dX10_dues_20 ?_
    exact z_iret hx hb hr hlk (by decide) (by decide) hw (⟨hsub, hfr, (-1), mn2_6, 0, 1000, n2_7, d2_8, y2_9, x2_10, nro_11, nct_12, nse_13, nth_14, ncn_15, ndb_16, nbe_17, ndu_18, hf_mm, hf_ro, hf_ct, hf_se, hf_th, hf_cn, hf_db, hf_be, hf_du, hq_ro, hq_ct, hq_be, hq_du, by omega⟩) dX10_dues_23
  · skip
    refine z_if_ne (tgt := 15) hx hb (show (0 : Int32).toInt = 0 by decide) dX10_dues_9 (by decide) (fun h => absurd h (by decide)) (fun _ => ?_)
    refine lv_bipush (v := (-2)) hx hb dX10_dues_12 (by decide) ?_
    exact z_iret hx hb hr hlk (by decide) (by decide) hw (⟨hsub, hfr, m24, m25, m27, m28, m30, m38, m36, m26, gro, gct, gse, gth, gcn, gdb, gbe, gdu, hf_mm, hf_ro, hf_ct, hf_se, hf_th, hf_cn, hf_db, hf_be, hf_du, hq_ro, hq_ct, hq_be, hq_du, by omega⟩) dX10_dues_14

set_option maxHeartbeats 2000000 in
set_option maxRecDepth 100000 in
theorem c_X10_due (l : Launch) {D : va_G} {cy : Nat → ClassId} {L : List Nat} {f : Nat → va_E} {sz : Nat} {adK adV : Nat → Nat} {mm wd my ce mv ta li ha lw st fo dr ik ro ct se th cn be du db pn wg wh tn he tr fd po : Nat} {m0 m6 m7 m8 m9 m10 m12 m13 m14 m15 m22 m24 m25 m27 m28 m30 m36 m38 m40 m41 m42 m48 m52 m53 : Int32} {m11 m26 : Int64} {gli gha glw gst gfo gdr gro gct gse gth gcn gbe gdu gdb : Nat → Int32}  {ii wt : Int32} (hm_mm : mm ∈ L) (hm_ha : ha ∈ L) (hm_dr : dr ∈ L) (hm_ro : ro ∈ L) (hm_lw : lw ∈ L) (hm_st : st ∈ L) (hm_ct : ct ∈ L) (hm_se : se ∈ L) (hm_th : th ∈ L) (hm_cn : cn ∈ L) (hm_db : db ∈ L) (hm_be : be ∈ L) (hm_du : du ∈ L) (hm_fo : fo ∈ L) (hm_li : li ∈ L) (hf_mm : f mm = .inr (10, [.int m0, .ref wd, .ref my, .ref ce, .ref mv, .ref ta, .int m6, .int m7, .int m8, .int m9, .int m10, .long m11, .int m12, .int m13, .int m14, .int m15, .ref li, .ref ha, .ref lw, .ref st, .ref fo, .ref dr, .int m22, .ref ik, .int m24, .int m25, .long m26, .int m27, .int m28, .ref ro, .int m30, .ref ct, .ref se, .ref th, .ref cn, .ref be, .int m36, .ref du, .int m38, .ref db, .int m40, .int m41, .int m42, .ref pn, .ref wg, .ref wh, .ref tn, .ref he, .int m48, .ref tr, .ref fd, .ref po, .int m52, .int m53])) (hf_ha : f ha = .inl (cy 1, 30, .inl gha)) (hf_dr : f dr = .inl (cy 1, 520, .inl gdr)) (hf_ro : f ro = .inl (cy 1, 13, .inl gro)) (hf_lw : f lw = .inl (cy 1, 25, .inl glw)) (hf_st : f st = .inl (cy 1, 20, .inl gst)) (hf_ct : f ct = .inl (cy 1, 4, .inl gct)) (hf_se : f se = .inl (cy 1, 36, .inl gse)) (hf_th : f th = .inl (cy 1, 36, .inl gth)) (hf_cn : f cn = .inl (cy 1, 36, .inl gcn)) (hf_db : f db = .inl (cy 1, 5, .inl gdb)) (hf_be : f be = .inl (cy 1, 2574, .inl gbe)) (hf_du : f du = .inl (cy 1, 5200, .inl gdu)) (hf_fo : f fo = .inl (cy 1, 180, .inl gfo)) (hf_li : f li = .inl (cy 1, 5, .inl gli)) (ne_se_th : se ≠ th) (ne_se_cn : se ≠ cn) (ne_th_cn : th ≠ cn) (ne_db_li : db ≠ li) (hq_ha : ∀ j : Nat, q_has j (gha j)) (hq_dr : ∀ j : Nat, q_drv j (gdr j)) (hq_ro : ∀ j : Nat, q_12 j (gro j)) (hq_lw : ∀ j : Nat, q_law j (glw j)) (hq_st : ∀ j : Nat, q_law j (gst j)) (hq_ct : ∀ j : Nat, q_law j (gct j)) (hq_be : ∀ j : Nat, q_be j (gbe j)) (hq_du : ∀ j : Nat, q_du j (gdu j)) (hxx : 0 ≤ m26.toInt ∧ m26.toInt < 2147483648) (hea : ∀ m : Nat, m < 5 → z_ea gha glw m) : Met l yX10_due (z_ws yX10_due cX10_due 5 (some .int)) (z_R 7 0 0) (va_Pc [.ref mm, .int ii, .int wt] (z_Pre D vwCl (z_KK D cy adK adV) L f sz)) (z_Qi D vwCl (fun r u => L = u.1 ∧ (∀ b ∈ L, b ≠ mm → b ≠ ro → b ≠ ct → b ≠ se → b ≠ th → b ≠ cn → b ≠ db → b ≠ be → b ≠ du → u.2 b = f b) ∧ (∃ (o2 mn2 i2 u2 n2 d2 y2 : Int32) (x2 : Int64) (nro nct nse nth ncn ndb nbe ndu : Nat → Int32), (u.2 mm = .inr (10, [.int 0, .ref wd, .ref my, .ref ce, .ref mv, .ref ta, .int m6, .int m7, .int m8, .int m9, .int m10, .long m11, .int m12, .int m13, .int m14, .int m15, .ref li, .ref ha, .ref lw, .ref st, .ref fo, .ref dr, .int m22, .ref ik, .int o2, .int mn2, .long x2, .int i2, .int u2, .ref ro, .int n2, .ref ct, .ref se, .ref th, .ref cn, .ref be, .int y2, .ref du, .int d2, .ref db, .int m40, .int m41, .int m42, .ref pn, .ref wg, .ref wh, .ref tn, .ref he, .int m48, .ref tr, .ref fd, .ref po, .int m52, .int m53])) ∧ (u.2 ro = .inl (cy 1, 13, .inl nro)) ∧ (u.2 ct = .inl (cy 1, 4, .inl nct)) ∧ (u.2 se = .inl (cy 1, 36, .inl nse)) ∧ (u.2 th = .inl (cy 1, 36, .inl nth)) ∧ (u.2 cn = .inl (cy 1, 36, .inl ncn)) ∧ (u.2 db = .inl (cy 1, 5, .inl ndb)) ∧ (u.2 be = .inl (cy 1, 2574, .inl nbe)) ∧ (u.2 du = .inl (cy 1, 5200, .inl ndu)) ∧ (∀ j : Nat, q_12 j (nro j)) ∧ (∀ j : Nat, q_law j (nct j)) ∧ (∀ j : Nat, q_be j (nbe j)) ∧ (∀ j : Nat, q_du j (ndu j)) ∧ (0 ≤ x2.toInt ∧ x2.toInt < 2147483648))) L sz) 0 0 (z_A L sz) := by
  refine z_met (cc := cX10_due) (maxL := 5) (ret := (some .int)) (lv := [(0, .ref mm), (1, .int ii), (2, .int wt)]) (by decide) rfl (Nat.le_of_ble_eq_true rfl) rfl ?_
  intro p e s m below meth c ls hx hb hr hlk hml hown hnm hts hKK hA hw hl
  have hK := hKK.1.1
  have hown : s.vm.findClass RX10 = some m.cls := hown
  have hT : ∀ w ∈ lw_all, w.before ([.ref mm, .int ii, .int wt] : List Value).toArray s = true := fun w h => hts w (z_cons w h)
  have hsub : L = L := rfl
  have hfr : ∀ b ∈ L, b ≠ mm → b ≠ ro → b ≠ ct → b ≠ se → b ≠ th → b ≠ cn → b ≠ db → b ≠ be → b ≠ du → f b = f b := fun _ _ _ _ _ _ _ _ _ _ _ => rfl
  have hh0 := (hq_ha 0).1 rfl
  have hh1 := (hq_ha 1).2.1 rfl
  have hh2 := (hq_ha 2).2.2.1 rfl
  have hh3 := (hq_ha 3).2.2.2 rfl
  have hea0 : 2 ≤ (glw 3).toInt ∨ ((gha 3).toInt = 0 ∧ (gha 0).toInt = 0) := hea 0 (by decide)
  have hz_m2 : (-2 : Int32).toInt = -2 := by decide
  have hz_m1 : (-1 : Int32).toInt = -1 := by decide
  have hz_0 : (0 : Int32).toInt = 0 := by decide
  refine lv_aload_n hx hb dX10_due_0 rfl (lv_at hl 0 rfl) ?_
  refine lv_iconst (v := 0) hx hb dX10_due_1 (by decide) ?_
  refine z_put (C := RX10) (T := TX10) (N := 54) (ci := 10) (v := .int 0) (fs' := [.int 0, .ref wd, .ref my, .ref ce, .ref mv, .ref ta, .int m6, .int m7, .int m8, .int m9, .int m10, .long m11, .int m12, .int m13, .int m14, .int m15, .ref li, .ref ha, .ref lw, .ref st, .ref fo, .ref dr, .int m22, .ref ik, .int m24, .int m25, .long m26, .int m27, .int m28, .ref ro, .int m30, .ref ct, .ref se, .ref th, .ref cn, .ref be, .int m36, .ref du, .int m38, .ref db, .int m40, .int m41, .int m42, .ref pn, .ref wg, .ref wh, .ref tn, .ref he, .int m48, .ref tr, .ref fd, .ref po, .int m52, .int m53]) hx hb hT zin_X10 tyX10_ok nmX10 hown hK hw hm_mm hf_mm rfl 0 (by decide) (hT _ kw_1168) rfl rfl rfl (Nat.le_of_ble_eq_true rfl) rfl dX10_due_2 (fun H locs hw => ?_)
  obtain ⟨f1, e_f1⟩ : ∃ z, z = va_up f mm (.inr (10, [.int 0, .ref wd, .ref my, .ref ce, .ref mv, .ref ta, .int m6, .int m7, .int m8, .int m9, .int m10, .long m11, .int m12, .int m13, .int m14, .int m15, .ref li, .ref ha, .ref lw, .ref st, .ref fo, .ref dr, .int m22, .ref ik, .int m24, .int m25, .long m26, .int m27, .int m28, .ref ro, .int m30, .ref ct, .ref se, .ref th, .ref cn, .ref be, .int m36, .ref du, .int m38, .ref db, .int m40, .int m41, .int m42, .ref pn, .ref wg, .ref wh, .ref tn, .ref he, .int m48, .ref tr, .ref fd, .ref po, .int m52, .int m53])) := ⟨_, rfl⟩
  rw [← e_f1] at hw
  have hf_ha : f1 ha = .inl (cy 1, 30, .inl gha) := (congrFun e_f1 ha).trans (z_up_ne (z_tne hf_ha hf_mm (m := 340) (n := 10) rfl rfl (by decide)) hf_ha)
  have hf_dr : f1 dr = .inl (cy 1, 520, .inl gdr) := (congrFun e_f1 dr).trans (z_up_ne (z_tne hf_dr hf_mm (m := 4260) (n := 10) rfl rfl (by decide)) hf_dr)
  have hf_ro : f1 ro = .inl (cy 1, 13, .inl gro) := (congrFun e_f1 ro).trans (z_up_ne (z_tne hf_ro hf_mm (m := 204) (n := 10) rfl rfl (by decide)) hf_ro)
  have hf_lw : f1 lw = .inl (cy 1, 25, .inl glw) := (congrFun e_f1 lw).trans (z_up_ne (z_tne hf_lw hf_mm (m := 300) (n := 10) rfl rfl (by decide)) hf_lw)
  have hf_st : f1 st = .inl (cy 1, 20, .inl gst) := (congrFun e_f1 st).trans (z_up_ne (z_tne hf_st hf_mm (m := 260) (n := 10) rfl rfl (by decide)) hf_st)
  have hf_ct : f1 ct = .inl (cy 1, 4, .inl gct) := (congrFun e_f1 ct).trans (z_up_ne (z_tne hf_ct hf_mm (m := 132) (n := 10) rfl rfl (by decide)) hf_ct)
  have hf_se : f1 se = .inl (cy 1, 36, .inl gse) := (congrFun e_f1 se).trans (z_up_ne (z_tne hf_se hf_mm (m := 388) (n := 10) rfl rfl (by decide)) hf_se)
  have hf_th : f1 th = .inl (cy 1, 36, .inl gth) := (congrFun e_f1 th).trans (z_up_ne (z_tne hf_th hf_mm (m := 388) (n := 10) rfl rfl (by decide)) hf_th)
  have hf_cn : f1 cn = .inl (cy 1, 36, .inl gcn) := (congrFun e_f1 cn).trans (z_up_ne (z_tne hf_cn hf_mm (m := 388) (n := 10) rfl rfl (by decide)) hf_cn)
  have hf_db : f1 db = .inl (cy 1, 5, .inl gdb) := (congrFun e_f1 db).trans (z_up_ne (z_tne hf_db hf_mm (m := 140) (n := 10) rfl rfl (by decide)) hf_db)
  have hf_be : f1 be = .inl (cy 1, 2574, .inl gbe) := (congrFun e_f1 be).trans (z_up_ne (z_tne hf_be hf_mm (m := 20692) (n := 10) rfl rfl (by decide)) hf_be)
  have hf_du : f1 du = .inl (cy 1, 5200, .inl gdu) := (congrFun e_f1 du).trans (z_up_ne (z_tne hf_du hf_mm (m := 41700) (n := 10) rfl rfl (by decide)) hf_du)
  have hf_fo : f1 fo = .inl (cy 1, 180, .inl gfo) := (congrFun e_f1 fo).trans (z_up_ne (z_tne hf_fo hf_mm (m := 1540) (n := 10) rfl rfl (by decide)) hf_fo)
  have hf_li : f1 li = .inl (cy 1, 5, .inl gli) := (congrFun e_f1 li).trans (z_up_ne (z_tne hf_li hf_mm (m := 140) (n := 10) rfl rfl (by decide)) hf_li)
  have hf_mm : f1 mm = .inr (10, [.int 0, .ref wd, .ref my, .ref ce, .ref mv, .ref ta, .int m6, .int m7, .int m8, .int m9, .int m10, .long m11, .int m12, .int m13, .int m14, .int m15, .ref li, .ref ha, .ref lw, .ref st, .ref fo, .ref dr, .int m22, .ref ik, .int m24, .int m25, .long m26, .int m27, .int m28, .ref ro, .int m30, .ref ct, .ref se, .ref th, .ref cn, .ref be, .int m36, .ref du, .int m38, .ref db, .int m40, .int m41, .int m42, .ref pn, .ref wg, .ref wh, .ref tn, .ref he, .int m48, .ref tr, .ref fd, .ref po, .int m52, .int m53]) := (congrFun e_f1 mm).trans z_up_self
  have hfr : ∀ b ∈ L, b ≠ mm → b ≠ ro → b ≠ ct → b ≠ se → b ≠ th → b ≠ cn → b ≠ db → b ≠ be → b ≠ du → f1 b = f b := fun b hb h0 h1 h2 h3 h4 h5 h6 h7 h8 => (congrFun e_f1 b).trans (z_up_ne h0 (hfr b hb h0 h1 h2 h3 h4 h5 h6 h7 h8))
  refine lv_aload_n hx hb dX10_due_5 rfl (lv_at hl 0 rfl) ?_
  refine z_calliV (cells := 0) (slots := 0) (b := mm) (As := []) (rest := []) (ci := 10) (q0 := (RX10, TX10, 54)) ⟨hx, hb, hml, hown, hT⟩ (c_X10_isMoor l hm_mm hm_li hf_mm hf_li) (cwV 0 hT (z_goodV (fun _ h => h) kw_1507 kw_1509 kw_54 kw_96 kw_1510) rfl rfl rfl (by decide +kernel) ⟨by decide, by decide⟩) z_mv hKK hK hw hA hm_mm hf_mm rfl rfl rfl hl.1 rfl (Nat.le_of_ble_eq_true rfl) dX10_due_6 ⟨by decide, by decide⟩ (fun r2 u H locs hp hw => ?_)
  obtain ⟨rfl, hp⟩ := hp
  have hw : z_H D vwCl (z_A L sz) s.heap L f1 H locs := hw
  rcases hp with ⟨rfl, h3⟩ | ⟨rfl, h3⟩
  · skip
    refine z_if_eq (tgt := 24) hx hb (show (1 : Int32).toInt = 1 by decide) dX10_due_9 (by decide) (fun h => absurd h (by decide)) (fun _ => ?_)
    refine lv_iload_n hx hb dX10_due_12 rfl (lv_at hl 2 rfl) ?_
    refine lv_i2l hx hb dX10_due_13 rfl ?_
    refine lv_topl (fun w4 e_w4 => ?_)
    have i_w4 : w4.toInt = wt.toInt := z_i2l e_w4 rfl
    refine lv_lconst (v := 0) hx hb dX10_due_14 (by decide) ?_
    refine lv_ldc2 (v := 5) hx hb hown (hT _ kw_1599) dX10_due_15 ?_
    have hz5 := (show (0 : Int64).toInt = 0 by decide)
    have hz6 := (show (5 : Int64).toInt = 5 by decide)
    refine z_calliS (cells := 0) (slots := 0) (As := [.long w4, .long 0, .long 5]) (rest := []) ⟨hx, hb, hml, hown, hT⟩ (c_X10_in l ) (va_cwS 3 hT (z_goodS (fun _ h => h) kw_1339 kw_1340 kw_96 kw_1341) rfl rfl rfl (by decide +kernel) ⟨by decide, by decide⟩) z_mv hKK hw hA rfl hl.1 rfl (Nat.le_of_ble_eq_true rfl) dX10_due_18 ⟨by decide, by decide⟩ (fun r7 u H locs hp hw => ?_)
    obtain ⟨rfl, hp⟩ := hp
    have hw : z_H D vwCl (z_A L sz) s.heap L f1 H locs := hw
    rcases hp with ⟨rfl, h8⟩ | ⟨rfl, h8⟩
    · skip
      refine z_if_ne (tgt := 27) hx hb (show (1 : Int32).toInt = 1 by decide) dX10_due_21 (by decide) (fun _ => ?_) (fun h => absurd h (by decide))
      refine lv_aload_n hx hb dX10_due_27 rfl (lv_at hl 0 rfl) ?_
      refine z_callvV (cells := 0) (slots := 0) (b := mm) (As := []) (rest := []) (ci := 10) (q0 := (RX10, TX10, 54)) ⟨hx, hb, hml, hown, hT⟩ (c_X10_asTold l hm_mm hm_ha hm_dr hm_ro hm_lw hm_st hm_ct hm_se hm_th hm_cn hm_db hm_be hm_du hm_fo hf_mm hf_ha hf_dr hf_ro hf_lw hf_st hf_ct hf_se hf_th hf_cn hf_db hf_be hf_du hf_fo ne_se_th ne_se_cn ne_th_cn hq_ha hq_dr hq_ro hq_lw hq_st hq_ct hq_be hq_du (by first | omega | decide | assumption) hea) (cwV 0 hT (z_goodV (fun _ h => h) kw_1587 kw_1589 kw_68 kw_96 kw_1590) rfl rfl rfl (by decide +kernel) ⟨by decide, by decide⟩) z_mv hKK hK hw hA hm_mm hf_mm rfl rfl rfl hl.1 rfl (Nat.le_of_ble_eq_true rfl) dX10_due_28 ⟨by decide, by decide⟩ (fun u H locs hp hw => ?_)
      obtain ⟨L9, f10⟩ := u
      obtain ⟨hsb, hfm, mn2_11, n2_12, d2_13, y2_14, x2_15, nro_16, nct_17, nse_18, nth_19, ncn_20, ndb_21, nbe_22, ndu_23, ha_0, ha_1, ha_2, ha_3, ha_4, ha_5, ha_6, ha_7, ha_8, hq_ro, hq_ct, hq_be, hq_du, hp⟩ := hp
      have hsb : L = L9 := hsb
      subst hsb
      have hsb : ∀ b ∈ L, b ∈ L := fun _ h => h
      have hw : z_H D vwCl (z_A L sz) s.heap L f10 H locs := hw
      have hfr : ∀ b ∈ L, b ≠ mm → b ≠ ro → b ≠ ct → b ≠ se → b ≠ th → b ≠ cn → b ≠ db → b ≠ be → b ≠ du → f10 b = f b := fun b hb h0 h1 h2 h3 h4 h5 h6 h7 h8 => (hfm b hb h0 h1 h2 h3 h4 h5 h6 h7 h8).trans (hfr b hb h0 h1 h2 h3 h4 h5 h6 h7 h8)
      have hf_ha : f10 ha = .inl (cy 1, 30, .inl gha) := (hfm ha hm_ha (z_tne hf_ha hf_mm (m := 340) (n := 10) rfl rfl (by decide)) (z_tne hf_ha hf_ro (m := 340) (n := 204) rfl rfl (by decide)) (z_tne hf_ha hf_ct (m := 340) (n := 132) rfl rfl (by decide)) (z_tne hf_ha hf_se (m := 340) (n := 388) rfl rfl (by decide)) (z_tne hf_ha hf_th (m := 340) (n := 388) rfl rfl (by decide)) (z_tne hf_ha hf_cn (m := 340) (n := 388) rfl rfl (by decide)) (z_tne hf_ha hf_db (m := 340) (n := 140) rfl rfl (by decide)) (z_tne hf_ha hf_be (m := 340) (n := 20692) rfl rfl (by decide)) (z_tne hf_ha hf_du (m := 340) (n := 41700) rfl rfl (by decide))).trans hf_ha
      have hf_dr : f10 dr = .inl (cy 1, 520, .inl gdr) := (hfm dr hm_dr (z_tne hf_dr hf_mm (m := 4260) (n := 10) rfl rfl (by decide)) (z_tne hf_dr hf_ro (m := 4260) (n := 204) rfl rfl (by decide)) (z_tne hf_dr hf_ct (m := 4260) (n := 132) rfl rfl (by decide)) (z_tne hf_dr hf_se (m := 4260) (n := 388) rfl rfl (by decide)) (z_tne hf_dr hf_th (m := 4260) (n := 388) rfl rfl (by decide)) (z_tne hf_dr hf_cn (m := 4260) (n := 388) rfl rfl (by decide)) (z_tne hf_dr hf_db (m := 4260) (n := 140) rfl rfl (by decide)) (z_tne hf_dr hf_be (m := 4260) (n := 20692) rfl rfl (by decide)) (z_tne hf_dr hf_du (m := 4260) (n := 41700) rfl rfl (by decide))).trans hf_dr
      have hf_lw : f10 lw = .inl (cy 1, 25, .inl glw) := (hfm lw hm_lw (z_tne hf_lw hf_mm (m := 300) (n := 10) rfl rfl (by decide)) (z_tne hf_lw hf_ro (m := 300) (n := 204) rfl rfl (by decide)) (z_tne hf_lw hf_ct (m := 300) (n := 132) rfl rfl (by decide)) (z_tne hf_lw hf_se (m := 300) (n := 388) rfl rfl (by decide)) (z_tne hf_lw hf_th (m := 300) (n := 388) rfl rfl (by decide)) (z_tne hf_lw hf_cn (m := 300) (n := 388) rfl rfl (by decide)) (z_tne hf_lw hf_db (m := 300) (n := 140) rfl rfl (by decide)) (z_tne hf_lw hf_be (m := 300) (n := 20692) rfl rfl (by decide)) (z_tne hf_lw hf_du (m := 300) (n := 41700) rfl rfl (by decide))).trans hf_lw
      have hf_st : f10 st = .inl (cy 1, 20, .inl gst) := (hfm st hm_st (z_tne hf_st hf_mm (m := 260) (n := 10) rfl rfl (by decide)) (z_tne hf_st hf_ro (m := 260) (n := 204) rfl rfl (by decide)) (z_tne hf_st hf_ct (m := 260) (n := 132) rfl rfl (by decide)) (z_tne hf_st hf_se (m := 260) (n := 388) rfl rfl (by decide)) (z_tne hf_st hf_th (m := 260) (n := 388) rfl rfl (by decide)) (z_tne hf_st hf_cn (m := 260) (n := 388) rfl rfl (by decide)) (z_tne hf_st hf_db (m := 260) (n := 140) rfl rfl (by decide)) (z_tne hf_st hf_be (m := 260) (n := 20692) rfl rfl (by decide)) (z_tne hf_st hf_du (m := 260) (n := 41700) rfl rfl (by decide))).trans hf_st
      have hf_fo : f10 fo = .inl (cy 1, 180, .inl gfo) := (hfm fo hm_fo (z_tne hf_fo hf_mm (m := 1540) (n := 10) rfl rfl (by decide)) (z_tne hf_fo hf_ro (m := 1540) (n := 204) rfl rfl (by decide)) (z_tne hf_fo hf_ct (m := 1540) (n := 132) rfl rfl (by decide)) (z_tne hf_fo hf_se (m := 1540) (n := 388) rfl rfl (by decide)) (z_tne hf_fo hf_th (m := 1540) (n := 388) rfl rfl (by decide)) (z_tne hf_fo hf_cn (m := 1540) (n := 388) rfl rfl (by decide)) (z_tne hf_fo hf_db (m := 1540) (n := 140) rfl rfl (by decide)) (z_tne hf_fo hf_be (m := 1540) (n := 20692) rfl rfl (by decide)) (z_tne hf_fo hf_du (m := 1540) (n := 41700) rfl rfl (by decide))).trans hf_fo
      have hf_li : f10 li = .inl (cy 1, 5, .inl gli) := (hfm li hm_li (z_tne hf_li hf_mm (m := 140) (n := 10) rfl rfl (by decide)) (z_tne hf_li hf_ro (m := 140) (n := 204) rfl rfl (by decide)) (z_tne hf_li hf_ct (m := 140) (n := 132) rfl rfl (by decide)) (z_tne hf_li hf_se (m := 140) (n := 388) rfl rfl (by decide)) (z_tne hf_li hf_th (m := 140) (n := 388) rfl rfl (by decide)) (z_tne hf_li hf_cn (m := 140) (n := 388) rfl rfl (by decide)) (Ne.symm ne_db_li) (z_tne hf_li hf_be (m := 140) (n := 20692) rfl rfl (by decide)) (z_tne hf_li hf_du (m := 140) (n := 41700) rfl rfl (by decide))).trans hf_li
      have hf_mm : f10 mm = .inr (10, [.int 0, .ref wd, .ref my, .ref ce, .ref mv, .ref ta, .int m6, .int m7, .int m8, .int m9, .int m10, .long m11, .int m12, .int m13, .int m14, .int m15, .ref li, .ref ha, .ref lw, .ref st, .ref fo, .ref dr, .int m22, .ref ik, .int (-1), .int mn2_11, .long x2_15, .int 0, .int 1000, .ref ro, .int n2_12, .ref ct, .ref se, .ref th, .ref cn, .ref be, .int y2_14, .ref du, .int d2_13, .ref db, .int m40, .int m41, .int m42, .ref pn, .ref wg, .ref wh, .ref tn, .ref he, .int m48, .ref tr, .ref fd, .ref po, .int m52, .int m53]) := ha_0
      have hf_ro : f10 ro = .inl (cy 1, 13, .inl nro_16) := ha_1
      have hf_ct : f10 ct = .inl (cy 1, 4, .inl nct_17) := ha_2
      have hf_se : f10 se = .inl (cy 1, 36, .inl nse_18) := ha_3
      have hf_th : f10 th = .inl (cy 1, 36, .inl nth_19) := ha_4
      have hf_cn : f10 cn = .inl (cy 1, 36, .inl ncn_20) := ha_5
      have hf_db : f10 db = .inl (cy 1, 5, .inl ndb_21) := ha_6
      have hf_be : f10 be = .inl (cy 1, 2574, .inl nbe_22) := ha_7
      have hf_du : f10 du = .inl (cy 1, 5200, .inl ndu_23) := ha_8
      have hto := hp
      refine lv_iload_n hx hb dX10_due_31 rfl (lv_at hl 1 rfl) ?_
      refine lv_i2l hx hb dX10_due_32 rfl ?_
      refine lv_topl (fun w24 e_w24 => ?_)
      have i_w24 : w24.toInt = ii.toInt := z_i2l e_w24 rfl
      refine lv_lconst (v := 0) hx hb dX10_due_33 (by decide) ?_
      refine lv_aload_n hx hb dX10_due_34 rfl (lv_at hl 0 rfl) ?_
      refine z_get (C := RX10) (T := TX10) (N := 54) (ci := 10) (v := .int d2_13) hx hb hT zin_X10 hown hK hw hm_mm hf_mm rfl 38 (by decide) (hT _ kw_1206) rfl dX10_due_35 ?_
      refine lv_iconst (v := 1) hx hb dX10_due_38 (by decide) ?_
      refine lv_isub hx hb dX10_due_39 ?_
      refine lv_topi (fun w25 e_w25 => ?_)
      have i_w25 : w25.toInt = (d2_13.toInt - 1) := z_subI e_w25 rfl (show (1 : Int32).toInt = 1 by decide) (by omega)
      refine lv_i2l hx hb dX10_due_40 rfl ?_
      refine lv_topl (fun w26 e_w26 => ?_)
      have i_w26 : w26.toInt = (d2_13.toInt - 1) := z_i2l e_w26 i_w25
      have hz27 := (show (0 : Int64).toInt = 0 by decide)
      refine z_calliS (cells := 0) (slots := 0) (As := [.long w24, .long 0, .long w26]) (rest := []) ⟨hx, hb, hml, hown, hT⟩ (c_X10_in l ) (va_cwS 3 hT (z_goodS (fun _ h => h) kw_1339 kw_1340 kw_96 kw_1341) rfl rfl rfl (by decide +kernel) ⟨by decide, by decide⟩) z_mv hKK hw hA rfl hl.1 rfl (Nat.le_of_ble_eq_true rfl) dX10_due_41 ⟨by decide, by decide⟩ (fun r28 u H locs hp hw => ?_)
      obtain ⟨rfl, hp⟩ := hp
      have hw : z_H D vwCl (z_A L sz) s.heap L f10 H locs := hw
      rcases hp with ⟨rfl, h29⟩ | ⟨rfl, h29⟩
      · skip
        refine z_if_ne (tgt := 49) hx hb (show (1 : Int32).toInt = 1 by decide) dX10_due_44 (by decide) (fun _ => ?_) (fun h => absurd h (by decide))
        refine lv_aload_n hx hb dX10_due_49 rfl (lv_at hl 0 rfl) ?_
        refine z_get (C := RX10) (T := TX10) (N := 54) (ci := 10) (v := .ref du) hx hb hT zin_X10 hown hK hw hm_mm hf_mm rfl 37 (by decide) (hT _ kw_1205) rfl dX10_due_50 ?_
        refine lv_iconst (v := 4) hx hb dX10_due_53 (by decide) ?_
        refine lv_iload_n hx hb dX10_due_54 rfl (lv_at hl 1 rfl) ?_
        refine lv_imul hx hb dX10_due_55 ?_
        refine lv_topi (fun w30 e_w30 => ?_)
        have i_w30 : w30.toInt = (4 * ii.toInt) := z_mul e_w30 (show (4 : Int32).toInt = 4 by decide) rfl (by omega)
        refine z_iald hx hb hK hw 1 hm_du hf_du rfl (z_ix i_w30 (by omega)) dX10_due_56 ?_
        refine lv_topi (fun w31 e_w31 => ?_)
        refine lv_istore_n (lv' := [(3, .int w31), (0, .ref mm), (1, .int ii), (2, .int wt)]) hx hb dX10_due_57 rfl hl (by decide) rfl (fun ls hl => ?_)
        refine lv_aload_n hx hb dX10_due_58 rfl (lv_at hl 1 rfl) ?_
        refine z_get (C := RX10) (T := TX10) (N := 54) (ci := 10) (v := .ref du) hx hb hT zin_X10 hown hK hw hm_mm hf_mm rfl 37 (by decide) (hT _ kw_1205) rfl dX10_due_59 ?_
        refine lv_iconst (v := 4) hx hb dX10_due_62 (by decide) ?_
        refine lv_iload_n hx hb dX10_due_63 rfl (lv_at hl 2 rfl) ?_
        refine lv_imul hx hb dX10_due_64 ?_
        refine lv_topi (fun w32 e_w32 => ?_)
        have i_w32 : w32.toInt = (4 * ii.toInt) := z_mul e_w32 (show (4 : Int32).toInt = 4 by decide) rfl (by omega)
        refine lv_iconst (v := 2) hx hb dX10_due_65 (by decide) ?_
        refine lv_iadd hx hb dX10_due_66 ?_
        refine lv_topi (fun w33 e_w33 => ?_)
        have i_w33 : w33.toInt = ((4 * ii.toInt) + 2) := z_add e_w33 i_w32 (show (2 : Int32).toInt = 2 by decide) (by omega)
        refine z_iald hx hb hK hw 1 hm_du hf_du rfl (z_ix i_w33 (by omega)) dX10_due_67 ?_
        refine lv_topi (fun w34 e_w34 => ?_)
        have hv_w34 : 0 ≤ w34.toInt ∧ w34.toInt ≤ 12 := by rw [e_w34]; exact hq_du _ (z_mod4 i_w33 (by omega))
        refine lv_istore (lv' := [(4, .int w34), (3, .int w31), (0, .ref mm), (1, .int ii), (2, .int wt)]) hx hb dX10_due_68 hl (by decide) rfl (fun ls hl => ?_)
        refine lv_iload_n hx hb dX10_due_70 rfl (lv_at hl 4 rfl) ?_
        refine z_if_ne (tgt := 81) hx hb rfl dX10_due_71 (by decide) (fun c35 => ?_) (fun c35 => ?_)
        · skip
          refine lv_iload_n hx hb dX10_due_81 rfl (lv_at hl 4 rfl) ?_
          refine lv_iconst (v := 1) hx hb dX10_due_82 (by decide) ?_
          refine z_icmp_ne (tgt := 93) hx hb rfl (show (1 : Int32).toInt = 1 by decide) dX10_due_83 (by decide) (fun c36 => ?_) (fun c36 => ?_)
          · skip
            refine lv_iload_n hx hb dX10_due_93 rfl (lv_at hl 4 rfl) ?_
            refine lv_iconst (v := 2) hx hb dX10_due_94 (by decide) ?_
            refine z_icmp_ne (tgt := 111) hx hb rfl (show (2 : Int32).toInt = 2 by decide) dX10_due_95 (by decide) (fun c37 => ?_) (fun c37 => ?_)
            · skip
              refine lv_iload_n hx hb dX10_due_111 rfl (lv_at hl 4 rfl) ?_
              refine lv_iconst (v := 3) hx hb dX10_due_112 (by decide) ?_
              refine z_icmp_ne (tgt := 127) hx hb rfl (show (3 : Int32).toInt = 3 by decide) dX10_due_113 (by decide) (fun c38 => ?_) (fun c38 => ?_)
              · skip
                refine lv_iload_n hx hb dX10_due_127 rfl (lv_at hl 4 rfl) ?_
                refine lv_iconst (v := 4) hx hb dX10_due_128 (by decide) ?_
                refine z_icmp_ne (tgt := 137) hx hb rfl (show (4 : Int32).toInt = 4 by decide) dX10_due_129 (by decide) (fun c39 => ?_) (fun c39 => ?_)
                · skip
                  refine lv_aload_n hx hb dX10_due_137 rfl (lv_at hl 2 rfl) ?_
                  refine z_get (C := RX10) (T := TX10) (N := 54) (ci := 10) (v := .ref du) hx hb hT zin_X10 hown hK hw hm_mm hf_mm rfl 37 (by decide) (hT _ kw_1205) rfl dX10_due_138 ?_
                  refine lv_iconst (v := 4) hx hb dX10_due_141 (by decide) ?_
                  refine lv_iload_n hx hb dX10_due_142 rfl (lv_at hl 3 rfl) ?_
                  refine lv_imul hx hb dX10_due_143 ?_
                  refine lv_topi (fun w40 e_w40 => ?_)
                  have i_w40 : w40.toInt = (4 * ii.toInt) := z_mul e_w40 (show (4 : Int32).toInt = 4 by decide) rfl (by omega)
                  refine lv_iconst (v := 3) hx hb dX10_due_144 (by decide) ?_
                  refine lv_iadd hx hb dX10_due_145 ?_
                  refine lv_topi (fun w41 e_w41 => ?_)
                  have i_w41 : w41.toInt = ((4 * ii.toInt) + 3) := z_add e_w41 i_w40 (show (3 : Int32).toInt = 3 by decide) (by omega)
                  refine z_iald hx hb hK hw 1 hm_du hf_du rfl (z_ix i_w41 (by omega)) dX10_due_146 ?_
                  refine lv_topi (fun w42 e_w42 => ?_)
                  exact z_iret hx hb hr hlk (by decide) (by decide) hw (⟨hsub, hfr, (-1), mn2_11, 0, 1000, n2_12, d2_13, y2_14, x2_15, nro_16, nct_17, nse_18, nth_19, ncn_20, ndb_21, nbe_22, ndu_23, hf_mm, hf_ro, hf_ct, hf_se, hf_th, hf_cn, hf_db, hf_be, hf_du, hq_ro, hq_ct, hq_be, hq_du, by omega⟩) dX10_due_147
                · skip
                  refine lv_iload hx hb dX10_due_132 (lv_at hl 0 rfl) ?_
                  refine lv_goto (tgt := 147) hx hb dX10_due_134 (by decide) ?_
                  exact z_iret hx hb hr hlk (by decide) (by decide) hw (⟨hsub, hfr, (-1), mn2_11, 0, 1000, n2_12, d2_13, y2_14, x2_15, nro_16, nct_17, nse_18, nth_19, ncn_20, ndb_21, nbe_22, ndu_23, hf_mm, hf_ro, hf_ct, hf_se, hf_th, hf_cn, hf_db, hf_be, hf_du, hq_ro, hq_ct, hq_be, hq_du, by omega⟩) dX10_due_147
              · skip
                refine lv_aload_n hx hb dX10_due_116 rfl (lv_at hl 2 rfl) ?_
                refine lv_iload hx hb dX10_due_117 (lv_at hl 0 rfl) ?_
                refine lv_bipush (v := 6) hx hb dX10_due_119 (by decide) ?_
                have hz43 := (show (6 : Int32).toInt = 6 by decide)
                refine z_calliV (cells := 0) (slots := 0) (b := mm) (As := [.int w34, .int 6]) (rest := []) (ci := 10) (q0 := (RX10, TX10, 54)) ⟨hx, hb, hml, hown, hT⟩ (c_X10_of l hm_mm hm_dr hf_mm hf_dr hq_dr (by first | omega | decide | assumption) (by decide)) (cwV 2 hT (z_goodV (fun _ h => h) kw_1487 kw_1489 kw_51 kw_96 kw_1490) rfl rfl rfl (by decide +kernel) ⟨by decide, by decide⟩) z_mv hKK hK hw hA hm_mm hf_mm rfl rfl rfl hl.1 rfl (Nat.le_of_ble_eq_true rfl) dX10_due_121 ⟨by decide, by decide⟩ (fun r44 u H locs hp hw => ?_)
                obtain ⟨rfl, hp⟩ := hp
                have hw : z_H D vwCl (z_A L sz) s.heap L f10 H locs := hw
                have hof_r44 : r44 = gdr (8 * w34.toNatClampNeg + 6) := hp
                have hh_r44 : 0 ≤ r44.toInt ∧ r44.toInt ≤ 4 := by rw [hof_r44]; exact (hq_dr _).2.2.2.2.2.2.1 (by omega)
                refine lv_goto (tgt := 147) hx hb dX10_due_124 (by decide) ?_
                exact z_iret hx hb hr hlk (by decide) (by decide) hw (⟨hsub, hfr, (-1), mn2_11, 0, 1000, n2_12, d2_13, y2_14, x2_15, nro_16, nct_17, nse_18, nth_19, ncn_20, ndb_21, nbe_22, ndu_23, hf_mm, hf_ro, hf_ct, hf_se, hf_th, hf_cn, hf_db, hf_be, hf_du, hq_ro, hq_ct, hq_be, hq_du, by omega⟩) dX10_due_147
            · skip
              refine lv_aload_n hx hb dX10_due_98 rfl (lv_at hl 2 rfl) ?_
              refine z_get (C := RX10) (T := TX10) (N := 54) (ci := 10) (v := .ref du) hx hb hT zin_X10 hown hK hw hm_mm hf_mm rfl 37 (by decide) (hT _ kw_1205) rfl dX10_due_99 ?_
              refine lv_iconst (v := 4) hx hb dX10_due_102 (by decide) ?_
              refine lv_iload_n hx hb dX10_due_103 rfl (lv_at hl 3 rfl) ?_
              refine lv_imul hx hb dX10_due_104 ?_
              refine lv_topi (fun w45 e_w45 => ?_)
              have i_w45 : w45.toInt = (4 * ii.toInt) := z_mul e_w45 (show (4 : Int32).toInt = 4 by decide) rfl (by omega)
              refine lv_iconst (v := 1) hx hb dX10_due_105 (by decide) ?_
              refine lv_iadd hx hb dX10_due_106 ?_
              refine lv_topi (fun w46 e_w46 => ?_)
              have i_w46 : w46.toInt = ((4 * ii.toInt) + 1) := z_add e_w46 i_w45 (show (1 : Int32).toInt = 1 by decide) (by omega)
              refine z_iald hx hb hK hw 1 hm_du hf_du rfl (z_ix i_w46 (by omega)) dX10_due_107 ?_
              refine lv_topi (fun w47 e_w47 => ?_)
              refine lv_goto (tgt := 147) hx hb dX10_due_108 (by decide) ?_
              exact z_iret hx hb hr hlk (by decide) (by decide) hw (⟨hsub, hfr, (-1), mn2_11, 0, 1000, n2_12, d2_13, y2_14, x2_15, nro_16, nct_17, nse_18, nth_19, ncn_20, ndb_21, nbe_22, ndu_23, hf_mm, hf_ro, hf_ct, hf_se, hf_th, hf_cn, hf_db, hf_be, hf_du, hq_ro, hq_ct, hq_be, hq_du, by omega⟩) dX10_due_147
          · skip
            refine lv_iload_n hx hb dX10_due_86 rfl (lv_at hl 1 rfl) ?_
            refine lv_bipush (v := 24) hx hb dX10_due_87 (by decide) ?_
            refine lv_irem hx hb dX10_due_89 (by decide) ?_
            refine lv_topi (fun w48 e_w48 => ?_)
            refine lv_goto (tgt := 147) hx hb dX10_due_90 (by decide) ?_
            exact z_iret hx hb hr hlk (by decide) (by decide) hw (⟨hsub, hfr, (-1), mn2_11, 0, 1000, n2_12, d2_13, y2_14, x2_15, nro_16, nct_17, nse_18, nth_19, ncn_20, ndb_21, nbe_22, ndu_23, hf_mm, hf_ro, hf_ct, hf_se, hf_th, hf_cn, hf_db, hf_be, hf_du, hq_ro, hq_ct, hq_be, hq_du, by omega⟩) dX10_due_147
        · skip
          refine lv_iload_n hx hb dX10_due_74 rfl (lv_at hl 1 rfl) ?_
          refine lv_bipush (v := 24) hx hb dX10_due_75 (by decide) ?_
          refine lv_idiv hx hb dX10_due_77 (by decide) ?_
          refine lv_topi (fun w49 e_w49 => ?_)
          refine lv_goto (tgt := 147) hx hb dX10_due_78 (by decide) ?_
          exact z_iret hx hb hr hlk (by decide) (by decide) hw (⟨hsub, hfr, (-1), mn2_11, 0, 1000, n2_12, d2_13, y2_14, x2_15, nro_16, nct_17, nse_18, nth_19, ncn_20, ndb_21, nbe_22, ndu_23, hf_mm, hf_ro, hf_ct, hf_se, hf_th, hf_cn, hf_db, hf_be, hf_du, hq_ro, hq_ct, hq_be, hq_du, by omega⟩) dX10_due_147
      · skip
        refine z_if_ne (tgt := 49) hx hb (show (0 : Int32).toInt = 0 by decide) dX10_due_44 (by decide) (fun h => absurd h (by decide)) (fun _ => ?_)
        refine lv_iconst (v := (-1)) hx hb dX10_due_47 (by decide) ?_
        exact z_iret hx hb hr hlk (by decide) (by decide) hw (⟨hsub, hfr, (-1), mn2_11, 0, 1000, n2_12, d2_13, y2_14, x2_15, nro_16, nct_17, nse_18, nth_19, ncn_20, ndb_21, nbe_22, ndu_23, hf_mm, hf_ro, hf_ct, hf_se, hf_th, hf_cn, hf_db, hf_be, hf_du, hq_ro, hq_ct, hq_be, hq_du, by omega⟩) dX10_due_48
    · skip
      refine z_if_ne (tgt := 27) hx hb (show (0 : Int32).toInt = 0 by decide) dX10_due_21 (by decide) (fun h => absurd h (by decide)) (fun _ => ?_)
      refine lv_bipush (v := (-2)) hx hb dX10_due_24 (by decide) ?_
      exact z_iret hx hb hr hlk (by decide) (by decide) hw (⟨hsub, hfr, m24, m25, m27, m28, m30, m38, m36, m26, gro, gct, gse, gth, gcn, gdb, gbe, gdu, hf_mm, hf_ro, hf_ct, hf_se, hf_th, hf_cn, hf_db, hf_be, hf_du, hq_ro, hq_ct, hq_be, hq_du, by omega⟩) dX10_due_26
  · skip
    refine z_if_eq (tgt := 24) hx hb (show (0 : Int32).toInt = 0 by decide) dX10_due_9 (by decide) (fun _ => ?_) (fun h => absurd h (by decide))
    refine lv_bipush (v := (-2)) hx hb dX10_due_24 (by decide) ?_
    exact z_iret hx hb hr hlk (by decide) (by decide) hw (⟨hsub, hfr, m24, m25, m27, m28, m30, m38, m36, m26, gro, gct, gse, gth, gcn, gdb, gbe, gdu, hf_mm, hf_ro, hf_ct, hf_se, hf_th, hf_cn, hf_db, hf_be, hf_du, hq_ro, hq_ct, hq_be, hq_du, by omega⟩) dX10_due_26

set_option maxHeartbeats 2000000 in
set_option maxRecDepth 100000 in
theorem c_X10_paid (l : Launch) {D : va_G} {cy : Nat → ClassId} {L : List Nat} {f : Nat → va_E} {sz : Nat} {adK adV : Nat → Nat} {mm wd my ce mv ta li ha lw st fo dr ik ro ct se th cn be du db pn wg wh tn he tr fd po : Nat} {m0 m6 m7 m8 m9 m10 m12 m13 m14 m15 m22 m24 m25 m27 m28 m30 m36 m38 m40 m41 m42 m48 m52 m53 : Int32} {m11 m26 : Int64} {gli gha glw gst gfo gdr gro gct gse gth gcn gbe gdu gdb : Nat → Int32}  {oo : Int32} (hm_mm : mm ∈ L) (hm_ha : ha ∈ L) (hm_dr : dr ∈ L) (hm_ro : ro ∈ L) (hm_lw : lw ∈ L) (hm_st : st ∈ L) (hm_ct : ct ∈ L) (hm_se : se ∈ L) (hm_th : th ∈ L) (hm_cn : cn ∈ L) (hm_db : db ∈ L) (hm_be : be ∈ L) (hm_du : du ∈ L) (hm_fo : fo ∈ L) (hm_li : li ∈ L) (hf_mm : f mm = .inr (10, [.int m0, .ref wd, .ref my, .ref ce, .ref mv, .ref ta, .int m6, .int m7, .int m8, .int m9, .int m10, .long m11, .int m12, .int m13, .int m14, .int m15, .ref li, .ref ha, .ref lw, .ref st, .ref fo, .ref dr, .int m22, .ref ik, .int m24, .int m25, .long m26, .int m27, .int m28, .ref ro, .int m30, .ref ct, .ref se, .ref th, .ref cn, .ref be, .int m36, .ref du, .int m38, .ref db, .int m40, .int m41, .int m42, .ref pn, .ref wg, .ref wh, .ref tn, .ref he, .int m48, .ref tr, .ref fd, .ref po, .int m52, .int m53])) (hf_ha : f ha = .inl (cy 1, 30, .inl gha)) (hf_dr : f dr = .inl (cy 1, 520, .inl gdr)) (hf_ro : f ro = .inl (cy 1, 13, .inl gro)) (hf_lw : f lw = .inl (cy 1, 25, .inl glw)) (hf_st : f st = .inl (cy 1, 20, .inl gst)) (hf_ct : f ct = .inl (cy 1, 4, .inl gct)) (hf_se : f se = .inl (cy 1, 36, .inl gse)) (hf_th : f th = .inl (cy 1, 36, .inl gth)) (hf_cn : f cn = .inl (cy 1, 36, .inl gcn)) (hf_db : f db = .inl (cy 1, 5, .inl gdb)) (hf_be : f be = .inl (cy 1, 2574, .inl gbe)) (hf_du : f du = .inl (cy 1, 5200, .inl gdu)) (hf_fo : f fo = .inl (cy 1, 180, .inl gfo)) (hf_li : f li = .inl (cy 1, 5, .inl gli)) (ne_se_th : se ≠ th) (ne_se_cn : se ≠ cn) (ne_th_cn : th ≠ cn) (ne_db_li : db ≠ li) (hq_ha : ∀ j : Nat, q_has j (gha j)) (hq_dr : ∀ j : Nat, q_drv j (gdr j)) (hq_ro : ∀ j : Nat, q_12 j (gro j)) (hq_lw : ∀ j : Nat, q_law j (glw j)) (hq_st : ∀ j : Nat, q_law j (gst j)) (hq_ct : ∀ j : Nat, q_law j (gct j)) (hq_be : ∀ j : Nat, q_be j (gbe j)) (hq_du : ∀ j : Nat, q_du j (gdu j)) (hxx : 0 ≤ m26.toInt ∧ m26.toInt < 2147483648) (hea : ∀ m : Nat, m < 5 → z_ea gha glw m) : Met l yX10_paid (z_ws yX10_paid cX10_paid 2 (some .int)) (z_R 7 0 0) (va_Pc [.ref mm, .int oo] (z_Pre D vwCl (z_KK D cy adK adV) L f sz)) (z_Qi D vwCl (fun r u => L = u.1 ∧ (∀ b ∈ L, b ≠ mm → b ≠ ro → b ≠ ct → b ≠ se → b ≠ th → b ≠ cn → b ≠ db → b ≠ be → b ≠ du → u.2 b = f b) ∧ (∃ (o2 mn2 i2 u2 n2 d2 y2 : Int32) (x2 : Int64) (nro nct nse nth ncn ndb nbe ndu : Nat → Int32), (u.2 mm = .inr (10, [.int 0, .ref wd, .ref my, .ref ce, .ref mv, .ref ta, .int m6, .int m7, .int m8, .int m9, .int m10, .long m11, .int m12, .int m13, .int m14, .int m15, .ref li, .ref ha, .ref lw, .ref st, .ref fo, .ref dr, .int m22, .ref ik, .int o2, .int mn2, .long x2, .int i2, .int u2, .ref ro, .int n2, .ref ct, .ref se, .ref th, .ref cn, .ref be, .int y2, .ref du, .int d2, .ref db, .int m40, .int m41, .int m42, .ref pn, .ref wg, .ref wh, .ref tn, .ref he, .int m48, .ref tr, .ref fd, .ref po, .int m52, .int m53])) ∧ (u.2 ro = .inl (cy 1, 13, .inl nro)) ∧ (u.2 ct = .inl (cy 1, 4, .inl nct)) ∧ (u.2 se = .inl (cy 1, 36, .inl nse)) ∧ (u.2 th = .inl (cy 1, 36, .inl nth)) ∧ (u.2 cn = .inl (cy 1, 36, .inl ncn)) ∧ (u.2 db = .inl (cy 1, 5, .inl ndb)) ∧ (u.2 be = .inl (cy 1, 2574, .inl nbe)) ∧ (u.2 du = .inl (cy 1, 5200, .inl ndu)) ∧ (∀ j : Nat, q_12 j (nro j)) ∧ (∀ j : Nat, q_law j (nct j)) ∧ (∀ j : Nat, q_be j (nbe j)) ∧ (∀ j : Nat, q_du j (ndu j)) ∧ (0 ≤ x2.toInt ∧ x2.toInt < 2147483648))) L sz) 0 0 (z_A L sz) := by
  refine z_met (cc := cX10_paid) (maxL := 2) (ret := (some .int)) (lv := [(0, .ref mm), (1, .int oo)]) (by decide) rfl (Nat.le_of_ble_eq_true rfl) rfl ?_
  intro p e s m below meth c ls hx hb hr hlk hml hown hnm hts hKK hA hw hl
  have hK := hKK.1.1
  have hown : s.vm.findClass RX10 = some m.cls := hown
  have hT : ∀ w ∈ lw_all, w.before ([.ref mm, .int oo] : List Value).toArray s = true := fun w h => hts w (z_cons w h)
  have hsub : L = L := rfl
  have hfr : ∀ b ∈ L, b ≠ mm → b ≠ ro → b ≠ ct → b ≠ se → b ≠ th → b ≠ cn → b ≠ db → b ≠ be → b ≠ du → f b = f b := fun _ _ _ _ _ _ _ _ _ _ _ => rfl
  have hh0 := (hq_ha 0).1 rfl
  have hh1 := (hq_ha 1).2.1 rfl
  have hh2 := (hq_ha 2).2.2.1 rfl
  have hh3 := (hq_ha 3).2.2.2 rfl
  have hea0 : 2 ≤ (glw 3).toInt ∨ ((gha 3).toInt = 0 ∧ (gha 0).toInt = 0) := hea 0 (by decide)
  have hz_m2 : (-2 : Int32).toInt = -2 := by decide
  have hz_m1 : (-1 : Int32).toInt = -1 := by decide
  have hz_0 : (0 : Int32).toInt = 0 := by decide
  refine lv_aload_n hx hb dX10_paid_0 rfl (lv_at hl 0 rfl) ?_
  refine lv_iconst (v := 0) hx hb dX10_paid_1 (by decide) ?_
  refine z_put (C := RX10) (T := TX10) (N := 54) (ci := 10) (v := .int 0) (fs' := [.int 0, .ref wd, .ref my, .ref ce, .ref mv, .ref ta, .int m6, .int m7, .int m8, .int m9, .int m10, .long m11, .int m12, .int m13, .int m14, .int m15, .ref li, .ref ha, .ref lw, .ref st, .ref fo, .ref dr, .int m22, .ref ik, .int m24, .int m25, .long m26, .int m27, .int m28, .ref ro, .int m30, .ref ct, .ref se, .ref th, .ref cn, .ref be, .int m36, .ref du, .int m38, .ref db, .int m40, .int m41, .int m42, .ref pn, .ref wg, .ref wh, .ref tn, .ref he, .int m48, .ref tr, .ref fd, .ref po, .int m52, .int m53]) hx hb hT zin_X10 tyX10_ok nmX10 hown hK hw hm_mm hf_mm rfl 0 (by decide) (hT _ kw_1168) rfl rfl rfl (Nat.le_of_ble_eq_true rfl) rfl dX10_paid_2 (fun H locs hw => ?_)
  obtain ⟨f1, e_f1⟩ : ∃ z, z = va_up f mm (.inr (10, [.int 0, .ref wd, .ref my, .ref ce, .ref mv, .ref ta, .int m6, .int m7, .int m8, .int m9, .int m10, .long m11, .int m12, .int m13, .int m14, .int m15, .ref li, .ref ha, .ref lw, .ref st, .ref fo, .ref dr, .int m22, .ref ik, .int m24, .int m25, .long m26, .int m27, .int m28, .ref ro, .int m30, .ref ct, .ref se, .ref th, .ref cn, .ref be, .int m36, .ref du, .int m38, .ref db, .int m40, .int m41, .int m42, .ref pn, .ref wg, .ref wh, .ref tn, .ref he, .int m48, .ref tr, .ref fd, .ref po, .int m52, .int m53])) := ⟨_, rfl⟩
  rw [← e_f1] at hw
  have hf_ha : f1 ha = .inl (cy 1, 30, .inl gha) := (congrFun e_f1 ha).trans (z_up_ne (z_tne hf_ha hf_mm (m := 340) (n := 10) rfl rfl (by decide)) hf_ha)
  have hf_dr : f1 dr = .inl (cy 1, 520, .inl gdr) := (congrFun e_f1 dr).trans (z_up_ne (z_tne hf_dr hf_mm (m := 4260) (n := 10) rfl rfl (by decide)) hf_dr)
  have hf_ro : f1 ro = .inl (cy 1, 13, .inl gro) := (congrFun e_f1 ro).trans (z_up_ne (z_tne hf_ro hf_mm (m := 204) (n := 10) rfl rfl (by decide)) hf_ro)
  have hf_lw : f1 lw = .inl (cy 1, 25, .inl glw) := (congrFun e_f1 lw).trans (z_up_ne (z_tne hf_lw hf_mm (m := 300) (n := 10) rfl rfl (by decide)) hf_lw)
  have hf_st : f1 st = .inl (cy 1, 20, .inl gst) := (congrFun e_f1 st).trans (z_up_ne (z_tne hf_st hf_mm (m := 260) (n := 10) rfl rfl (by decide)) hf_st)
  have hf_ct : f1 ct = .inl (cy 1, 4, .inl gct) := (congrFun e_f1 ct).trans (z_up_ne (z_tne hf_ct hf_mm (m := 132) (n := 10) rfl rfl (by decide)) hf_ct)
  have hf_se : f1 se = .inl (cy 1, 36, .inl gse) := (congrFun e_f1 se).trans (z_up_ne (z_tne hf_se hf_mm (m := 388) (n := 10) rfl rfl (by decide)) hf_se)
  have hf_th : f1 th = .inl (cy 1, 36, .inl gth) := (congrFun e_f1 th).trans (z_up_ne (z_tne hf_th hf_mm (m := 388) (n := 10) rfl rfl (by decide)) hf_th)
  have hf_cn : f1 cn = .inl (cy 1, 36, .inl gcn) := (congrFun e_f1 cn).trans (z_up_ne (z_tne hf_cn hf_mm (m := 388) (n := 10) rfl rfl (by decide)) hf_cn)
  have hf_db : f1 db = .inl (cy 1, 5, .inl gdb) := (congrFun e_f1 db).trans (z_up_ne (z_tne hf_db hf_mm (m := 140) (n := 10) rfl rfl (by decide)) hf_db)
  have hf_be : f1 be = .inl (cy 1, 2574, .inl gbe) := (congrFun e_f1 be).trans (z_up_ne (z_tne hf_be hf_mm (m := 20692) (n := 10) rfl rfl (by decide)) hf_be)
  have hf_du : f1 du = .inl (cy 1, 5200, .inl gdu) := (congrFun e_f1 du).trans (z_up_ne (z_tne hf_du hf_mm (m := 41700) (n := 10) rfl rfl (by decide)) hf_du)
  have hf_fo : f1 fo = .inl (cy 1, 180, .inl gfo) := (congrFun e_f1 fo).trans (z_up_ne (z_tne hf_fo hf_mm (m := 1540) (n := 10) rfl rfl (by decide)) hf_fo)
  have hf_li : f1 li = .inl (cy 1, 5, .inl gli) := (congrFun e_f1 li).trans (z_up_ne (z_tne hf_li hf_mm (m := 140) (n := 10) rfl rfl (by decide)) hf_li)
  have hf_mm : f1 mm = .inr (10, [.int 0, .ref wd, .ref my, .ref ce, .ref mv, .ref ta, .int m6, .int m7, .int m8, .int m9, .int m10, .long m11, .int m12, .int m13, .int m14, .int m15, .ref li, .ref ha, .ref lw, .ref st, .ref fo, .ref dr, .int m22, .ref ik, .int m24, .int m25, .long m26, .int m27, .int m28, .ref ro, .int m30, .ref ct, .ref se, .ref th, .ref cn, .ref be, .int m36, .ref du, .int m38, .ref db, .int m40, .int m41, .int m42, .ref pn, .ref wg, .ref wh, .ref tn, .ref he, .int m48, .ref tr, .ref fd, .ref po, .int m52, .int m53]) := (congrFun e_f1 mm).trans z_up_self
  have hfr : ∀ b ∈ L, b ≠ mm → b ≠ ro → b ≠ ct → b ≠ se → b ≠ th → b ≠ cn → b ≠ db → b ≠ be → b ≠ du → f1 b = f b := fun b hb h0 h1 h2 h3 h4 h5 h6 h7 h8 => (congrFun e_f1 b).trans (z_up_ne h0 (hfr b hb h0 h1 h2 h3 h4 h5 h6 h7 h8))
  refine lv_aload_n hx hb dX10_paid_5 rfl (lv_at hl 0 rfl) ?_
  refine lv_iload_n hx hb dX10_paid_6 rfl (lv_at hl 1 rfl) ?_
  refine lv_i2l hx hb dX10_paid_7 rfl ?_
  refine lv_topl (fun w2 e_w2 => ?_)
  have i_w2 : w2.toInt = oo.toInt := z_i2l e_w2 rfl
  refine z_calliV (cells := 0) (slots := 0) (b := mm) (As := [.long w2]) (rest := []) (ci := 10) (q0 := (RX10, TX10, 54)) ⟨hx, hb, hml, hown, hT⟩ (c_X10_isOwner l hm_mm hm_li hm_ha hf_mm hf_li hf_ha hq_ha) (cwV 1 hT (z_goodV (fun _ h => h) kw_1604 kw_1606 kw_69 kw_96 kw_1607) rfl rfl rfl (by decide +kernel) ⟨by decide, by decide⟩) z_mv hKK hK hw hA hm_mm hf_mm rfl rfl rfl hl.1 rfl (Nat.le_of_ble_eq_true rfl) dX10_paid_8 ⟨by decide, by decide⟩ (fun r3 u H locs hp hw => ?_)
  obtain ⟨rfl, hp⟩ := hp
  have hw : z_H D vwCl (z_A L sz) s.heap L f1 H locs := hw
  rcases hp with ⟨rfl, h4⟩ | ⟨rfl, h4⟩
  · skip
    refine z_if_ne (tgt := 17) hx hb (show (1 : Int32).toInt = 1 by decide) dX10_paid_11 (by decide) (fun _ => ?_) (fun h => absurd h (by decide))
    refine lv_aload_n hx hb dX10_paid_17 rfl (lv_at hl 0 rfl) ?_
    refine z_callvV (cells := 0) (slots := 0) (b := mm) (As := []) (rest := []) (ci := 10) (q0 := (RX10, TX10, 54)) ⟨hx, hb, hml, hown, hT⟩ (c_X10_asTold l hm_mm hm_ha hm_dr hm_ro hm_lw hm_st hm_ct hm_se hm_th hm_cn hm_db hm_be hm_du hm_fo hf_mm hf_ha hf_dr hf_ro hf_lw hf_st hf_ct hf_se hf_th hf_cn hf_db hf_be hf_du hf_fo ne_se_th ne_se_cn ne_th_cn hq_ha hq_dr hq_ro hq_lw hq_st hq_ct hq_be hq_du (by first | omega | decide | assumption) hea) (cwV 0 hT (z_goodV (fun _ h => h) kw_1587 kw_1589 kw_68 kw_96 kw_1590) rfl rfl rfl (by decide +kernel) ⟨by decide, by decide⟩) z_mv hKK hK hw hA hm_mm hf_mm rfl rfl rfl hl.1 rfl (Nat.le_of_ble_eq_true rfl) dX10_paid_18 ⟨by decide, by decide⟩ (fun u H locs hp hw => ?_)
    obtain ⟨L5, f6⟩ := u
    obtain ⟨hsb, hfm, mn2_7, n2_8, d2_9, y2_10, x2_11, nro_12, nct_13, nse_14, nth_15, ncn_16, ndb_17, nbe_18, ndu_19, ha_0, ha_1, ha_2, ha_3, ha_4, ha_5, ha_6, ha_7, ha_8, hq_ro, hq_ct, hq_be, hq_du, hp⟩ := hp
    have hsb : L = L5 := hsb
    subst hsb
    have hsb : ∀ b ∈ L, b ∈ L := fun _ h => h
    have hw : z_H D vwCl (z_A L sz) s.heap L f6 H locs := hw
    have hfr : ∀ b ∈ L, b ≠ mm → b ≠ ro → b ≠ ct → b ≠ se → b ≠ th → b ≠ cn → b ≠ db → b ≠ be → b ≠ du → f6 b = f b := fun b hb h0 h1 h2 h3 h4 h5 h6 h7 h8 => (hfm b hb h0 h1 h2 h3 h4 h5 h6 h7 h8).trans (hfr b hb h0 h1 h2 h3 h4 h5 h6 h7 h8)
    have hf_ha : f6 ha = .inl (cy 1, 30, .inl gha) := (hfm ha hm_ha (z_tne hf_ha hf_mm (m := 340) (n := 10) rfl rfl (by decide)) (z_tne hf_ha hf_ro (m := 340) (n := 204) rfl rfl (by decide)) (z_tne hf_ha hf_ct (m := 340) (n := 132) rfl rfl (by decide)) (z_tne hf_ha hf_se (m := 340) (n := 388) rfl rfl (by decide)) (z_tne hf_ha hf_th (m := 340) (n := 388) rfl rfl (by decide)) (z_tne hf_ha hf_cn (m := 340) (n := 388) rfl rfl (by decide)) (z_tne hf_ha hf_db (m := 340) (n := 140) rfl rfl (by decide)) (z_tne hf_ha hf_be (m := 340) (n := 20692) rfl rfl (by decide)) (z_tne hf_ha hf_du (m := 340) (n := 41700) rfl rfl (by decide))).trans hf_ha
    have hf_dr : f6 dr = .inl (cy 1, 520, .inl gdr) := (hfm dr hm_dr (z_tne hf_dr hf_mm (m := 4260) (n := 10) rfl rfl (by decide)) (z_tne hf_dr hf_ro (m := 4260) (n := 204) rfl rfl (by decide)) (z_tne hf_dr hf_ct (m := 4260) (n := 132) rfl rfl (by decide)) (z_tne hf_dr hf_se (m := 4260) (n := 388) rfl rfl (by decide)) (z_tne hf_dr hf_th (m := 4260) (n := 388) rfl rfl (by decide)) (z_tne hf_dr hf_cn (m := 4260) (n := 388) rfl rfl (by decide)) (z_tne hf_dr hf_db (m := 4260) (n := 140) rfl rfl (by decide)) (z_tne hf_dr hf_be (m := 4260) (n := 20692) rfl rfl (by decide)) (z_tne hf_dr hf_du (m := 4260) (n := 41700) rfl rfl (by decide))).trans hf_dr
    have hf_lw : f6 lw = .inl (cy 1, 25, .inl glw) := (hfm lw hm_lw (z_tne hf_lw hf_mm (m := 300) (n := 10) rfl rfl (by decide)) (z_tne hf_lw hf_ro (m := 300) (n := 204) rfl rfl (by decide)) (z_tne hf_lw hf_ct (m := 300) (n := 132) rfl rfl (by decide)) (z_tne hf_lw hf_se (m := 300) (n := 388) rfl rfl (by decide)) (z_tne hf_lw hf_th (m := 300) (n := 388) rfl rfl (by decide)) (z_tne hf_lw hf_cn (m := 300) (n := 388) rfl rfl (by decide)) (z_tne hf_lw hf_db (m := 300) (n := 140) rfl rfl (by decide)) (z_tne hf_lw hf_be (m := 300) (n := 20692) rfl rfl (by decide)) (z_tne hf_lw hf_du (m := 300) (n := 41700) rfl rfl (by decide))).trans hf_lw
    have hf_st : f6 st = .inl (cy 1, 20, .inl gst) := (hfm st hm_st (z_tne hf_st hf_mm (m := 260) (n := 10) rfl rfl (by decide)) (z_tne hf_st hf_ro (m := 260) (n := 204) rfl rfl (by decide)) (z_tne hf_st hf_ct (m := 260) (n := 132) rfl rfl (by decide)) (z_tne hf_st hf_se (m := 260) (n := 388) rfl rfl (by decide)) (z_tne hf_st hf_th (m := 260) (n := 388) rfl rfl (by decide)) (z_tne hf_st hf_cn (m := 260) (n := 388) rfl rfl (by decide)) (z_tne hf_st hf_db (m := 260) (n := 140) rfl rfl (by decide)) (z_tne hf_st hf_be (m := 260) (n := 20692) rfl rfl (by decide)) (z_tne hf_st hf_du (m := 260) (n := 41700) rfl rfl (by decide))).trans hf_st
    have hf_fo : f6 fo = .inl (cy 1, 180, .inl gfo) := (hfm fo hm_fo (z_tne hf_fo hf_mm (m := 1540) (n := 10) rfl rfl (by decide)) (z_tne hf_fo hf_ro (m := 1540) (n := 204) rfl rfl (by decide)) (z_tne hf_fo hf_ct (m := 1540) (n := 132) rfl rfl (by decide)) (z_tne hf_fo hf_se (m := 1540) (n := 388) rfl rfl (by decide)) (z_tne hf_fo hf_th (m := 1540) (n := 388) rfl rfl (by decide)) (z_tne hf_fo hf_cn (m := 1540) (n := 388) rfl rfl (by decide)) (z_tne hf_fo hf_db (m := 1540) (n := 140) rfl rfl (by decide)) (z_tne hf_fo hf_be (m := 1540) (n := 20692) rfl rfl (by decide)) (z_tne hf_fo hf_du (m := 1540) (n := 41700) rfl rfl (by decide))).trans hf_fo
    have hf_li : f6 li = .inl (cy 1, 5, .inl gli) := (hfm li hm_li (z_tne hf_li hf_mm (m := 140) (n := 10) rfl rfl (by decide)) (z_tne hf_li hf_ro (m := 140) (n := 204) rfl rfl (by decide)) (z_tne hf_li hf_ct (m := 140) (n := 132) rfl rfl (by decide)) (z_tne hf_li hf_se (m := 140) (n := 388) rfl rfl (by decide)) (z_tne hf_li hf_th (m := 140) (n := 388) rfl rfl (by decide)) (z_tne hf_li hf_cn (m := 140) (n := 388) rfl rfl (by decide)) (Ne.symm ne_db_li) (z_tne hf_li hf_be (m := 140) (n := 20692) rfl rfl (by decide)) (z_tne hf_li hf_du (m := 140) (n := 41700) rfl rfl (by decide))).trans hf_li
    have hf_mm : f6 mm = .inr (10, [.int 0, .ref wd, .ref my, .ref ce, .ref mv, .ref ta, .int m6, .int m7, .int m8, .int m9, .int m10, .long m11, .int m12, .int m13, .int m14, .int m15, .ref li, .ref ha, .ref lw, .ref st, .ref fo, .ref dr, .int m22, .ref ik, .int (-1), .int mn2_7, .long x2_11, .int 0, .int 1000, .ref ro, .int n2_8, .ref ct, .ref se, .ref th, .ref cn, .ref be, .int y2_10, .ref du, .int d2_9, .ref db, .int m40, .int m41, .int m42, .ref pn, .ref wg, .ref wh, .ref tn, .ref he, .int m48, .ref tr, .ref fd, .ref po, .int m52, .int m53]) := ha_0
    have hf_ro : f6 ro = .inl (cy 1, 13, .inl nro_12) := ha_1
    have hf_ct : f6 ct = .inl (cy 1, 4, .inl nct_13) := ha_2
    have hf_se : f6 se = .inl (cy 1, 36, .inl nse_14) := ha_3
    have hf_th : f6 th = .inl (cy 1, 36, .inl nth_15) := ha_4
    have hf_cn : f6 cn = .inl (cy 1, 36, .inl ncn_16) := ha_5
    have hf_db : f6 db = .inl (cy 1, 5, .inl ndb_17) := ha_6
    have hf_be : f6 be = .inl (cy 1, 2574, .inl nbe_18) := ha_7
    have hf_du : f6 du = .inl (cy 1, 5200, .inl ndu_19) := ha_8
    have hto := hp
    refine lv_aload_n hx hb dX10_paid_21 rfl (lv_at hl 0 rfl) ?_
    refine lv_iload_n hx hb dX10_paid_22 rfl (lv_at hl 1 rfl) ?_
    refine z_calliV (cells := 0) (slots := 0) (b := mm) (As := [.int oo]) (rest := []) (ci := 10) (q0 := (RX10, TX10, 54)) ⟨hx, hb, hml, hown, hT⟩ (c_X10_paidBy l hm_mm hm_db hm_lw hf_mm hf_db hf_lw hq_lw (by first | omega | decide | assumption)) (cwV 1 hT (z_goodV (fun _ h => h) kw_1608 kw_1610 kw_70 kw_96 kw_1611) rfl rfl rfl (by decide +kernel) ⟨by decide, by decide⟩) z_mv hKK hK hw hA hm_mm hf_mm rfl rfl rfl hl.1 rfl (Nat.le_of_ble_eq_true rfl) dX10_paid_23 ⟨by decide, by decide⟩ (fun r20 u H locs hp hw => ?_)
    obtain ⟨rfl, hp⟩ := hp
    have hw : z_H D vwCl (z_A L sz) s.heap L f6 H locs := hw
    exact z_iret hx hb hr hlk (by decide) (by decide) hw (⟨hsub, hfr, (-1), mn2_7, 0, 1000, n2_8, d2_9, y2_10, x2_11, nro_12, nct_13, nse_14, nth_15, ncn_16, ndb_17, nbe_18, ndu_19, hf_mm, hf_ro, hf_ct, hf_se, hf_th, hf_cn, hf_db, hf_be, hf_du, hq_ro, hq_ct, hq_be, hq_du, by omega⟩) dX10_paid_26
  · skip
    refine z_if_ne (tgt := 17) hx hb (show (0 : Int32).toInt = 0 by decide) dX10_paid_11 (by decide) (fun h => absurd h (by decide)) (fun _ => ?_)
    refine lv_bipush (v := (-2)) hx hb dX10_paid_14 (by decide) ?_
    exact z_iret hx hb hr hlk (by decide) (by decide) hw (⟨hsub, hfr, m24, m25, m27, m28, m30, m38, m36, m26, gro, gct, gse, gth, gcn, gdb, gbe, gdu, hf_mm, hf_ro, hf_ct, hf_se, hf_th, hf_cn, hf_db, hf_be, hf_du, hq_ro, hq_ct, hq_be, hq_du, by omega⟩) dX10_paid_16

set_option maxHeartbeats 2000000 in
set_option maxRecDepth 100000 in
theorem c_X10_pays (l : Launch) {D : va_G} {cy : Nat → ClassId} {L : List Nat} {f : Nat → va_E} {sz : Nat} {adK adV : Nat → Nat} {mm wd my ce mv ta li ha lw st fo dr ik ro ct se th cn be du db pn wg wh tn he tr fd po : Nat} {m0 m6 m7 m8 m9 m10 m12 m13 m14 m15 m22 m24 m25 m27 m28 m30 m36 m38 m40 m41 m42 m48 m52 m53 : Int32} {m11 m26 : Int64} {gli gha glw gst gfo gdr gro gct gse gth gcn gbe gdu gdb : Nat → Int32}  {oo dy : Int32} (hm_mm : mm ∈ L) (hm_ha : ha ∈ L) (hm_dr : dr ∈ L) (hm_ro : ro ∈ L) (hm_lw : lw ∈ L) (hm_st : st ∈ L) (hm_ct : ct ∈ L) (hm_se : se ∈ L) (hm_th : th ∈ L) (hm_cn : cn ∈ L) (hm_db : db ∈ L) (hm_be : be ∈ L) (hm_du : du ∈ L) (hm_fo : fo ∈ L) (hm_li : li ∈ L) (hf_mm : f mm = .inr (10, [.int m0, .ref wd, .ref my, .ref ce, .ref mv, .ref ta, .int m6, .int m7, .int m8, .int m9, .int m10, .long m11, .int m12, .int m13, .int m14, .int m15, .ref li, .ref ha, .ref lw, .ref st, .ref fo, .ref dr, .int m22, .ref ik, .int m24, .int m25, .long m26, .int m27, .int m28, .ref ro, .int m30, .ref ct, .ref se, .ref th, .ref cn, .ref be, .int m36, .ref du, .int m38, .ref db, .int m40, .int m41, .int m42, .ref pn, .ref wg, .ref wh, .ref tn, .ref he, .int m48, .ref tr, .ref fd, .ref po, .int m52, .int m53])) (hf_ha : f ha = .inl (cy 1, 30, .inl gha)) (hf_dr : f dr = .inl (cy 1, 520, .inl gdr)) (hf_ro : f ro = .inl (cy 1, 13, .inl gro)) (hf_lw : f lw = .inl (cy 1, 25, .inl glw)) (hf_st : f st = .inl (cy 1, 20, .inl gst)) (hf_ct : f ct = .inl (cy 1, 4, .inl gct)) (hf_se : f se = .inl (cy 1, 36, .inl gse)) (hf_th : f th = .inl (cy 1, 36, .inl gth)) (hf_cn : f cn = .inl (cy 1, 36, .inl gcn)) (hf_db : f db = .inl (cy 1, 5, .inl gdb)) (hf_be : f be = .inl (cy 1, 2574, .inl gbe)) (hf_du : f du = .inl (cy 1, 5200, .inl gdu)) (hf_fo : f fo = .inl (cy 1, 180, .inl gfo)) (hf_li : f li = .inl (cy 1, 5, .inl gli)) (ne_se_th : se ≠ th) (ne_se_cn : se ≠ cn) (ne_th_cn : th ≠ cn) (ne_db_li : db ≠ li) (hq_ha : ∀ j : Nat, q_has j (gha j)) (hq_dr : ∀ j : Nat, q_drv j (gdr j)) (hq_ro : ∀ j : Nat, q_12 j (gro j)) (hq_lw : ∀ j : Nat, q_law j (glw j)) (hq_st : ∀ j : Nat, q_law j (gst j)) (hq_ct : ∀ j : Nat, q_law j (gct j)) (hq_be : ∀ j : Nat, q_be j (gbe j)) (hq_du : ∀ j : Nat, q_du j (gdu j)) (hxx : 0 ≤ m26.toInt ∧ m26.toInt < 2147483648) (hea : ∀ m : Nat, m < 5 → z_ea gha glw m) : Met l yX10_pays (z_ws yX10_pays cX10_pays 5 (some .int)) (z_R 7 0 0) (va_Pc [.ref mm, .int oo, .int dy] (z_Pre D vwCl (z_KK D cy adK adV) L f sz)) (z_Qi D vwCl (fun r u => L = u.1 ∧ (∀ b ∈ L, b ≠ mm → b ≠ ro → b ≠ ct → b ≠ se → b ≠ th → b ≠ cn → b ≠ db → b ≠ be → b ≠ du → u.2 b = f b) ∧ (∃ (o2 mn2 i2 u2 n2 d2 y2 : Int32) (x2 : Int64) (nro nct nse nth ncn ndb nbe ndu : Nat → Int32), (u.2 mm = .inr (10, [.int 0, .ref wd, .ref my, .ref ce, .ref mv, .ref ta, .int m6, .int m7, .int m8, .int m9, .int m10, .long m11, .int m12, .int m13, .int m14, .int m15, .ref li, .ref ha, .ref lw, .ref st, .ref fo, .ref dr, .int m22, .ref ik, .int o2, .int mn2, .long x2, .int i2, .int u2, .ref ro, .int n2, .ref ct, .ref se, .ref th, .ref cn, .ref be, .int y2, .ref du, .int d2, .ref db, .int m40, .int m41, .int m42, .ref pn, .ref wg, .ref wh, .ref tn, .ref he, .int m48, .ref tr, .ref fd, .ref po, .int m52, .int m53])) ∧ (u.2 ro = .inl (cy 1, 13, .inl nro)) ∧ (u.2 ct = .inl (cy 1, 4, .inl nct)) ∧ (u.2 se = .inl (cy 1, 36, .inl nse)) ∧ (u.2 th = .inl (cy 1, 36, .inl nth)) ∧ (u.2 cn = .inl (cy 1, 36, .inl ncn)) ∧ (u.2 db = .inl (cy 1, 5, .inl ndb)) ∧ (u.2 be = .inl (cy 1, 2574, .inl nbe)) ∧ (u.2 du = .inl (cy 1, 5200, .inl ndu)) ∧ (∀ j : Nat, q_12 j (nro j)) ∧ (∀ j : Nat, q_law j (nct j)) ∧ (∀ j : Nat, q_be j (nbe j)) ∧ (∀ j : Nat, q_du j (ndu j)) ∧ (0 ≤ x2.toInt ∧ x2.toInt < 2147483648))) L sz) 0 0 (z_A L sz) := by
  refine z_met (cc := cX10_pays) (maxL := 5) (ret := (some .int)) (lv := [(0, .ref mm), (1, .int oo), (2, .int dy)]) (by decide) rfl (Nat.le_of_ble_eq_true rfl) rfl ?_
  intro p e s m below meth c ls hx hb hr hlk hml hown hnm hts hKK hA hw hl
  have hK := hKK.1.1
  have hown : s.vm.findClass RX10 = some m.cls := hown
  have hT : ∀ w ∈ lw_all, w.before ([.ref mm, .int oo, .int dy] : List Value).toArray s = true := fun w h => hts w (z_cons w h)
  have hsub : L = L := rfl
  have hfr : ∀ b ∈ L, b ≠ mm → b ≠ ro → b ≠ ct → b ≠ se → b ≠ th → b ≠ cn → b ≠ db → b ≠ be → b ≠ du → f b = f b := fun _ _ _ _ _ _ _ _ _ _ _ => rfl
  have hh0 := (hq_ha 0).1 rfl
  have hh1 := (hq_ha 1).2.1 rfl
  have hh2 := (hq_ha 2).2.2.1 rfl
  have hh3 := (hq_ha 3).2.2.2 rfl
  have hea0 : 2 ≤ (glw 3).toInt ∨ ((gha 3).toInt = 0 ∧ (gha 0).toInt = 0) := hea 0 (by decide)
  have hz_m2 : (-2 : Int32).toInt = -2 := by decide
  have hz_m1 : (-1 : Int32).toInt = -1 := by decide
  have hz_0 : (0 : Int32).toInt = 0 := by decide
  refine lv_aload_n hx hb dX10_pays_0 rfl (lv_at hl 0 rfl) ?_
  refine lv_iconst (v := 0) hx hb dX10_pays_1 (by decide) ?_
  refine z_put (C := RX10) (T := TX10) (N := 54) (ci := 10) (v := .int 0) (fs' := [.int 0, .ref wd, .ref my, .ref ce, .ref mv, .ref ta, .int m6, .int m7, .int m8, .int m9, .int m10, .long m11, .int m12, .int m13, .int m14, .int m15, .ref li, .ref ha, .ref lw, .ref st, .ref fo, .ref dr, .int m22, .ref ik, .int m24, .int m25, .long m26, .int m27, .int m28, .ref ro, .int m30, .ref ct, .ref se, .ref th, .ref cn, .ref be, .int m36, .ref du, .int m38, .ref db, .int m40, .int m41, .int m42, .ref pn, .ref wg, .ref wh, .ref tn, .ref he, .int m48, .ref tr, .ref fd, .ref po, .int m52, .int m53]) hx hb hT zin_X10 tyX10_ok nmX10 hown hK hw hm_mm hf_mm rfl 0 (by decide) (hT _ kw_1168) rfl rfl rfl (Nat.le_of_ble_eq_true rfl) rfl dX10_pays_2 (fun H locs hw => ?_)
  obtain ⟨f1, e_f1⟩ : ∃ z, z = va_up f mm (.inr (10, [.int 0, .ref wd, .ref my, .ref ce, .ref mv, .ref ta, .int m6, .int m7, .int m8, .int m9, .int m10, .long m11, .int m12, .int m13, .int m14, .int m15, .ref li, .ref ha, .ref lw, .ref st, .ref fo, .ref dr, .int m22, .ref ik, .int m24, .int m25, .long m26, .int m27, .int m28, .ref ro, .int m30, .ref ct, .ref se, .ref th, .ref cn, .ref be, .int m36, .ref du, .int m38, .ref db, .int m40, .int m41, .int m42, .ref pn, .ref wg, .ref wh, .ref tn, .ref he, .int m48, .ref tr, .ref fd, .ref po, .int m52, .int m53])) := ⟨_, rfl⟩
  rw [← e_f1] at hw
  have hf_ha : f1 ha = .inl (cy 1, 30, .inl gha) := (congrFun e_f1 ha).trans (z_up_ne (z_tne hf_ha hf_mm (m := 340) (n := 10) rfl rfl (by decide)) hf_ha)
  have hf_dr : f1 dr = .inl (cy 1, 520, .inl gdr) := (congrFun e_f1 dr).trans (z_up_ne (z_tne hf_dr hf_mm (m := 4260) (n := 10) rfl rfl (by decide)) hf_dr)
  have hf_ro : f1 ro = .inl (cy 1, 13, .inl gro) := (congrFun e_f1 ro).trans (z_up_ne (z_tne hf_ro hf_mm (m := 204) (n := 10) rfl rfl (by decide)) hf_ro)
  have hf_lw : f1 lw = .inl (cy 1, 25, .inl glw) := (congrFun e_f1 lw).trans (z_up_ne (z_tne hf_lw hf_mm (m := 300) (n := 10) rfl rfl (by decide)) hf_lw)
  have hf_st : f1 st = .inl (cy 1, 20, .inl gst) := (congrFun e_f1 st).trans (z_up_ne (z_tne hf_st hf_mm (m := 260) (n := 10) rfl rfl (by decide)) hf_st)
  have hf_ct : f1 ct = .inl (cy 1, 4, .inl gct) := (congrFun e_f1 ct).trans (z_up_ne (z_tne hf_ct hf_mm (m := 132) (n := 10) rfl rfl (by decide)) hf_ct)
  have hf_se : f1 se = .inl (cy 1, 36, .inl gse) := (congrFun e_f1 se).trans (z_up_ne (z_tne hf_se hf_mm (m := 388) (n := 10) rfl rfl (by decide)) hf_se)
  have hf_th : f1 th = .inl (cy 1, 36, .inl gth) := (congrFun e_f1 th).trans (z_up_ne (z_tne hf_th hf_mm (m := 388) (n := 10) rfl rfl (by decide)) hf_th)
  have hf_cn : f1 cn = .inl (cy 1, 36, .inl gcn) := (congrFun e_f1 cn).trans (z_up_ne (z_tne hf_cn hf_mm (m := 388) (n := 10) rfl rfl (by decide)) hf_cn)
  have hf_db : f1 db = .inl (cy 1, 5, .inl gdb) := (congrFun e_f1 db).trans (z_up_ne (z_tne hf_db hf_mm (m := 140) (n := 10) rfl rfl (by decide)) hf_db)
  have hf_be : f1 be = .inl (cy 1, 2574, .inl gbe) := (congrFun e_f1 be).trans (z_up_ne (z_tne hf_be hf_mm (m := 20692) (n := 10) rfl rfl (by decide)) hf_be)
  have hf_du : f1 du = .inl (cy 1, 5200, .inl gdu) := (congrFun e_f1 du).trans (z_up_ne (z_tne hf_du hf_mm (m := 41700) (n := 10) rfl rfl (by decide)) hf_du)
  have hf_fo : f1 fo = .inl (cy 1, 180, .inl gfo) := (congrFun e_f1 fo).trans (z_up_ne (z_tne hf_fo hf_mm (m := 1540) (n := 10) rfl rfl (by decide)) hf_fo)
  have hf_li : f1 li = .inl (cy 1, 5, .inl gli) := (congrFun e_f1 li).trans (z_up_ne (z_tne hf_li hf_mm (m := 140) (n := 10) rfl rfl (by decide)) hf_li)
  have hf_mm : f1 mm = .inr (10, [.int 0, .ref wd, .ref my, .ref ce, .ref mv, .ref ta, .int m6, .int m7, .int m8, .int m9, .int m10, .long m11, .int m12, .int m13, .int m14, .int m15, .ref li, .ref ha, .ref lw, .ref st, .ref fo, .ref dr, .int m22, .ref ik, .int m24, .int m25, .long m26, .int m27, .int m28, .ref ro, .int m30, .ref ct, .ref se, .ref th, .ref cn, .ref be, .int m36, .ref du, .int m38, .ref db, .int m40, .int m41, .int m42, .ref pn, .ref wg, .ref wh, .ref tn, .ref he, .int m48, .ref tr, .ref fd, .ref po, .int m52, .int m53]) := (congrFun e_f1 mm).trans z_up_self
  have hfr : ∀ b ∈ L, b ≠ mm → b ≠ ro → b ≠ ct → b ≠ se → b ≠ th → b ≠ cn → b ≠ db → b ≠ be → b ≠ du → f1 b = f b := fun b hb h0 h1 h2 h3 h4 h5 h6 h7 h8 => (congrFun e_f1 b).trans (z_up_ne h0 (hfr b hb h0 h1 h2 h3 h4 h5 h6 h7 h8))
  refine lv_aload_n hx hb dX10_pays_5 rfl (lv_at hl 0 rfl) ?_
  refine lv_iload_n hx hb dX10_pays_6 rfl (lv_at hl 1 rfl) ?_
  refine lv_i2l hx hb dX10_pays_7 rfl ?_
  refine lv_topl (fun w2 e_w2 => ?_)
  have i_w2 : w2.toInt = oo.toInt := z_i2l e_w2 rfl
  refine z_calliV (cells := 0) (slots := 0) (b := mm) (As := [.long w2]) (rest := []) (ci := 10) (q0 := (RX10, TX10, 54)) ⟨hx, hb, hml, hown, hT⟩ (c_X10_isOwner l hm_mm hm_li hm_ha hf_mm hf_li hf_ha hq_ha) (cwV 1 hT (z_goodV (fun _ h => h) kw_1604 kw_1606 kw_69 kw_96 kw_1607) rfl rfl rfl (by decide +kernel) ⟨by decide, by decide⟩) z_mv hKK hK hw hA hm_mm hf_mm rfl rfl rfl hl.1 rfl (Nat.le_of_ble_eq_true rfl) dX10_pays_8 ⟨by decide, by decide⟩ (fun r3 u H locs hp hw => ?_)
  obtain ⟨rfl, hp⟩ := hp
  have hw : z_H D vwCl (z_A L sz) s.heap L f1 H locs := hw
  rcases hp with ⟨rfl, h4⟩ | ⟨rfl, h4⟩
  · skip
    refine z_if_eq (tgt := 22) hx hb (show (1 : Int32).toInt = 1 by decide) dX10_pays_11 (by decide) (fun h => absurd h (by decide)) (fun _ => ?_)
    refine lv_aload_n hx hb dX10_pays_14 rfl (lv_at hl 0 rfl) ?_
    refine lv_iload_n hx hb dX10_pays_15 rfl (lv_at hl 2 rfl) ?_
    refine z_calliV (cells := 0) (slots := 0) (b := mm) (As := [.int dy]) (rest := []) (ci := 10) (q0 := (RX10, TX10, 54)) ⟨hx, hb, hml, hown, hT⟩ (c_X10_isDay l hm_mm hm_ha hf_mm hf_ha hq_ha) (cwV 1 hT (z_goodV (fun _ h => h) kw_1535 kw_1537 kw_57 kw_96 kw_1538) rfl rfl rfl (by decide +kernel) ⟨by decide, by decide⟩) z_mv hKK hK hw hA hm_mm hf_mm rfl rfl rfl hl.1 rfl (Nat.le_of_ble_eq_true rfl) dX10_pays_16 ⟨by decide, by decide⟩ (fun r5 u H locs hp hw => ?_)
    obtain ⟨rfl, hp⟩ := hp
    have hw : z_H D vwCl (z_A L sz) s.heap L f1 H locs := hw
    rcases hp with ⟨rfl, h6⟩ | ⟨rfl, h6⟩
    · skip
      refine z_if_ne (tgt := 25) hx hb (show (1 : Int32).toInt = 1 by decide) dX10_pays_19 (by decide) (fun _ => ?_) (fun h => absurd h (by decide))
      refine lv_aload_n hx hb dX10_pays_25 rfl (lv_at hl 0 rfl) ?_
      refine z_callvV (cells := 0) (slots := 0) (b := mm) (As := []) (rest := []) (ci := 10) (q0 := (RX10, TX10, 54)) ⟨hx, hb, hml, hown, hT⟩ (c_X10_asTold l hm_mm hm_ha hm_dr hm_ro hm_lw hm_st hm_ct hm_se hm_th hm_cn hm_db hm_be hm_du hm_fo hf_mm hf_ha hf_dr hf_ro hf_lw hf_st hf_ct hf_se hf_th hf_cn hf_db hf_be hf_du hf_fo ne_se_th ne_se_cn ne_th_cn hq_ha hq_dr hq_ro hq_lw hq_st hq_ct hq_be hq_du (by first | omega | decide | assumption) hea) (cwV 0 hT (z_goodV (fun _ h => h) kw_1587 kw_1589 kw_68 kw_96 kw_1590) rfl rfl rfl (by decide +kernel) ⟨by decide, by decide⟩) z_mv hKK hK hw hA hm_mm hf_mm rfl rfl rfl hl.1 rfl (Nat.le_of_ble_eq_true rfl) dX10_pays_26 ⟨by decide, by decide⟩ (fun u H locs hp hw => ?_)
      obtain ⟨L7, f8⟩ := u
      obtain ⟨hsb, hfm, mn2_9, n2_10, d2_11, y2_12, x2_13, nro_14, nct_15, nse_16, nth_17, ncn_18, ndb_19, nbe_20, ndu_21, ha_0, ha_1, ha_2, ha_3, ha_4, ha_5, ha_6, ha_7, ha_8, hq_ro, hq_ct, hq_be, hq_du, hp⟩ := hp
      have hsb : L = L7 := hsb
      subst hsb
      have hsb : ∀ b ∈ L, b ∈ L := fun _ h => h
      have hw : z_H D vwCl (z_A L sz) s.heap L f8 H locs := hw
      have hfr : ∀ b ∈ L, b ≠ mm → b ≠ ro → b ≠ ct → b ≠ se → b ≠ th → b ≠ cn → b ≠ db → b ≠ be → b ≠ du → f8 b = f b := fun b hb h0 h1 h2 h3 h4 h5 h6 h7 h8 => (hfm b hb h0 h1 h2 h3 h4 h5 h6 h7 h8).trans (hfr b hb h0 h1 h2 h3 h4 h5 h6 h7 h8)
      have hf_ha : f8 ha = .inl (cy 1, 30, .inl gha) := (hfm ha hm_ha (z_tne hf_ha hf_mm (m := 340) (n := 10) rfl rfl (by decide)) (z_tne hf_ha hf_ro (m := 340) (n := 204) rfl rfl (by decide)) (z_tne hf_ha hf_ct (m := 340) (n := 132) rfl rfl (by decide)) (z_tne hf_ha hf_se (m := 340) (n := 388) rfl rfl (by decide)) (z_tne hf_ha hf_th (m := 340) (n := 388) rfl rfl (by decide)) (z_tne hf_ha hf_cn (m := 340) (n := 388) rfl rfl (by decide)) (z_tne hf_ha hf_db (m := 340) (n := 140) rfl rfl (by decide)) (z_tne hf_ha hf_be (m := 340) (n := 20692) rfl rfl (by decide)) (z_tne hf_ha hf_du (m := 340) (n := 41700) rfl rfl (by decide))).trans hf_ha
      have hf_dr : f8 dr = .inl (cy 1, 520, .inl gdr) := (hfm dr hm_dr (z_tne hf_dr hf_mm (m := 4260) (n := 10) rfl rfl (by decide)) (z_tne hf_dr hf_ro (m := 4260) (n := 204) rfl rfl (by decide)) (z_tne hf_dr hf_ct (m := 4260) (n := 132) rfl rfl (by decide)) (z_tne hf_dr hf_se (m := 4260) (n := 388) rfl rfl (by decide)) (z_tne hf_dr hf_th (m := 4260) (n := 388) rfl rfl (by decide)) (z_tne hf_dr hf_cn (m := 4260) (n := 388) rfl rfl (by decide)) (z_tne hf_dr hf_db (m := 4260) (n := 140) rfl rfl (by decide)) (z_tne hf_dr hf_be (m := 4260) (n := 20692) rfl rfl (by decide)) (z_tne hf_dr hf_du (m := 4260) (n := 41700) rfl rfl (by decide))).trans hf_dr
      have hf_lw : f8 lw = .inl (cy 1, 25, .inl glw) := (hfm lw hm_lw (z_tne hf_lw hf_mm (m := 300) (n := 10) rfl rfl (by decide)) (z_tne hf_lw hf_ro (m := 300) (n := 204) rfl rfl (by decide)) (z_tne hf_lw hf_ct (m := 300) (n := 132) rfl rfl (by decide)) (z_tne hf_lw hf_se (m := 300) (n := 388) rfl rfl (by decide)) (z_tne hf_lw hf_th (m := 300) (n := 388) rfl rfl (by decide)) (z_tne hf_lw hf_cn (m := 300) (n := 388) rfl rfl (by decide)) (z_tne hf_lw hf_db (m := 300) (n := 140) rfl rfl (by decide)) (z_tne hf_lw hf_be (m := 300) (n := 20692) rfl rfl (by decide)) (z_tne hf_lw hf_du (m := 300) (n := 41700) rfl rfl (by decide))).trans hf_lw
      have hf_st : f8 st = .inl (cy 1, 20, .inl gst) := (hfm st hm_st (z_tne hf_st hf_mm (m := 260) (n := 10) rfl rfl (by decide)) (z_tne hf_st hf_ro (m := 260) (n := 204) rfl rfl (by decide)) (z_tne hf_st hf_ct (m := 260) (n := 132) rfl rfl (by decide)) (z_tne hf_st hf_se (m := 260) (n := 388) rfl rfl (by decide)) (z_tne hf_st hf_th (m := 260) (n := 388) rfl rfl (by decide)) (z_tne hf_st hf_cn (m := 260) (n := 388) rfl rfl (by decide)) (z_tne hf_st hf_db (m := 260) (n := 140) rfl rfl (by decide)) (z_tne hf_st hf_be (m := 260) (n := 20692) rfl rfl (by decide)) (z_tne hf_st hf_du (m := 260) (n := 41700) rfl rfl (by decide))).trans hf_st
      have hf_fo : f8 fo = .inl (cy 1, 180, .inl gfo) := (hfm fo hm_fo (z_tne hf_fo hf_mm (m := 1540) (n := 10) rfl rfl (by decide)) (z_tne hf_fo hf_ro (m := 1540) (n := 204) rfl rfl (by decide)) (z_tne hf_fo hf_ct (m := 1540) (n := 132) rfl rfl (by decide)) (z_tne hf_fo hf_se (m := 1540) (n := 388) rfl rfl (by decide)) (z_tne hf_fo hf_th (m := 1540) (n := 388) rfl rfl (by decide)) (z_tne hf_fo hf_cn (m := 1540) (n := 388) rfl rfl (by decide)) (z_tne hf_fo hf_db (m := 1540) (n := 140) rfl rfl (by decide)) (z_tne hf_fo hf_be (m := 1540) (n := 20692) rfl rfl (by decide)) (z_tne hf_fo hf_du (m := 1540) (n := 41700) rfl rfl (by decide))).trans hf_fo
      have hf_li : f8 li = .inl (cy 1, 5, .inl gli) := (hfm li hm_li (z_tne hf_li hf_mm (m := 140) (n := 10) rfl rfl (by decide)) (z_tne hf_li hf_ro (m := 140) (n := 204) rfl rfl (by decide)) (z_tne hf_li hf_ct (m := 140) (n := 132) rfl rfl (by decide)) (z_tne hf_li hf_se (m := 140) (n := 388) rfl rfl (by decide)) (z_tne hf_li hf_th (m := 140) (n := 388) rfl rfl (by decide)) (z_tne hf_li hf_cn (m := 140) (n := 388) rfl rfl (by decide)) (Ne.symm ne_db_li) (z_tne hf_li hf_be (m := 140) (n := 20692) rfl rfl (by decide)) (z_tne hf_li hf_du (m := 140) (n := 41700) rfl rfl (by decide))).trans hf_li
      have hf_mm : f8 mm = .inr (10, [.int 0, .ref wd, .ref my, .ref ce, .ref mv, .ref ta, .int m6, .int m7, .int m8, .int m9, .int m10, .long m11, .int m12, .int m13, .int m14, .int m15, .ref li, .ref ha, .ref lw, .ref st, .ref fo, .ref dr, .int m22, .ref ik, .int (-1), .int mn2_9, .long x2_13, .int 0, .int 1000, .ref ro, .int n2_10, .ref ct, .ref se, .ref th, .ref cn, .ref be, .int y2_12, .ref du, .int d2_11, .ref db, .int m40, .int m41, .int m42, .ref pn, .ref wg, .ref wh, .ref tn, .ref he, .int m48, .ref tr, .ref fd, .ref po, .int m52, .int m53]) := ha_0
      have hf_ro : f8 ro = .inl (cy 1, 13, .inl nro_14) := ha_1
      have hf_ct : f8 ct = .inl (cy 1, 4, .inl nct_15) := ha_2
      have hf_se : f8 se = .inl (cy 1, 36, .inl nse_16) := ha_3
      have hf_th : f8 th = .inl (cy 1, 36, .inl nth_17) := ha_4
      have hf_cn : f8 cn = .inl (cy 1, 36, .inl ncn_18) := ha_5
      have hf_db : f8 db = .inl (cy 1, 5, .inl ndb_19) := ha_6
      have hf_be : f8 be = .inl (cy 1, 2574, .inl nbe_20) := ha_7
      have hf_du : f8 du = .inl (cy 1, 5200, .inl ndu_21) := ha_8
      have hto := hp
      refine lv_iconst (v := 0) hx hb dX10_pays_29 (by decide) ?_
      refine lv_istore_n (lv' := [(3, .int 0), (0, .ref mm), (1, .int oo), (2, .int dy)]) hx hb dX10_pays_30 rfl hl (by decide) rfl (fun ls hl => ?_)
      refine lv_iconst (v := 0) hx hb dX10_pays_31 (by decide) ?_
      refine lv_istore (lv' := [(4, .int 0), (3, .int 0), (0, .ref mm), (1, .int oo), (2, .int dy)]) hx hb dX10_pays_32 hl (by decide) rfl (fun ls hl => ?_)
      have hzk : (0 : Int32).toInt = 0 := by decide
      refine z_loop (fun n H locs ls => ∃ (K22 : Int32) (V24 : Int32) (f23 : Nat → va_E), (n = (d2_11.toInt - K22.toInt).toNat) ∧ (0 ≤ K22.toInt) ∧ (K22.toInt ≤ d2_11.toInt) ∧ (z_H D vwCl (z_A L sz) s.heap L f23 H locs) ∧ (f23 mm = .inr (10, [.int 0, .ref wd, .ref my, .ref ce, .ref mv, .ref ta, .int m6, .int m7, .int m8, .int m9, .int m10, .long m11, .int m12, .int m13, .int m14, .int m15, .ref li, .ref ha, .ref lw, .ref st, .ref fo, .ref dr, .int m22, .ref ik, .int (-1), .int mn2_9, .long x2_13, .int 0, .int 1000, .ref ro, .int n2_10, .ref ct, .ref se, .ref th, .ref cn, .ref be, .int y2_12, .ref du, .int d2_11, .ref db, .int m40, .int m41, .int m42, .ref pn, .ref wg, .ref wh, .ref tn, .ref he, .int m48, .ref tr, .ref fd, .ref po, .int m52, .int m53])) ∧ (f23 ha = .inl (cy 1, 30, .inl gha)) ∧ (f23 dr = .inl (cy 1, 520, .inl gdr)) ∧ (f23 ro = .inl (cy 1, 13, .inl nro_14)) ∧ (f23 lw = .inl (cy 1, 25, .inl glw)) ∧ (f23 st = .inl (cy 1, 20, .inl gst)) ∧ (f23 ct = .inl (cy 1, 4, .inl nct_15)) ∧ (f23 se = .inl (cy 1, 36, .inl nse_16)) ∧ (f23 th = .inl (cy 1, 36, .inl nth_17)) ∧ (f23 cn = .inl (cy 1, 36, .inl ncn_18)) ∧ (f23 db = .inl (cy 1, 5, .inl ndb_19)) ∧ (f23 be = .inl (cy 1, 2574, .inl nbe_20)) ∧ (f23 du = .inl (cy 1, 5200, .inl ndu_21)) ∧ (f23 fo = .inl (cy 1, 180, .inl gfo)) ∧ (f23 li = .inl (cy 1, 5, .inl gli)) ∧ (∀ b ∈ L, b ≠ mm → b ≠ ro → b ≠ ct → b ≠ se → b ≠ th → b ≠ cn → b ≠ db → b ≠ be → b ≠ du → f23 b = f b) ∧ (lv_has ls 5 [(4, .int K22), (3, .int V24), (0, .ref mm), (1, .int oo), (2, .int dy)])) _ ⟨0, 0, f8, rfl, (by first | decide | omega), (by first | decide | omega), hw, hf_mm, hf_ha, hf_dr, hf_ro, hf_lw, hf_st, hf_ct, hf_se, hf_th, hf_cn, hf_db, hf_be, hf_du, hf_fo, hf_li, hfr, (lv_sub hl [0, 1, 2, 3, 4] rfl)⟩ (fun n H locs ls hI ih_34 => ?_)
      obtain ⟨K22, V24, f23, hn, hk0, hk1, hw, hf_mm, hf_ha, hf_dr, hf_ro, hf_lw, hf_st, hf_ct, hf_se, hf_th, hf_cn, hf_db, hf_be, hf_du, hf_fo, hf_li, hfr, hl⟩ := hI
      refine lv_iload hx hb dX10_pays_34 (lv_at hl 0 rfl) ?_
      refine lv_aload_n hx hb dX10_pays_36 rfl (lv_at hl 2 rfl) ?_
      refine z_get (C := RX10) (T := TX10) (N := 54) (ci := 10) (v := .int d2_11) hx hb hT zin_X10 hown hK hw hm_mm hf_mm rfl 38 (by decide) (hT _ kw_1206) rfl dX10_pays_37 ?_
      refine z_icmp_ge (tgt := 94) hx hb rfl rfl dX10_pays_40 (by decide) (fun c25 => ?_) (fun c25 => ?_)
      · skip
        refine lv_iload_n hx hb dX10_pays_94 rfl (lv_at hl 1 rfl) ?_
        exact z_iret hx hb hr hlk (by decide) (by decide) hw (⟨hsub, hfr, (-1), mn2_9, 0, 1000, n2_10, d2_11, y2_12, x2_13, nro_14, nct_15, nse_16, nth_17, ncn_18, ndb_19, nbe_20, ndu_21, hf_mm, hf_ro, hf_ct, hf_se, hf_th, hf_cn, hf_db, hf_be, hf_du, hq_ro, hq_ct, hq_be, hq_du, by omega⟩) dX10_pays_95
      · skip
        refine lv_iload_n hx hb dX10_pays_43 rfl (lv_at hl 1 rfl) ?_
        refine lv_aload_n hx hb dX10_pays_44 rfl (lv_at hl 2 rfl) ?_
        refine z_get (C := RX10) (T := TX10) (N := 54) (ci := 10) (v := .ref du) hx hb hT zin_X10 hown hK hw hm_mm hf_mm rfl 37 (by decide) (hT _ kw_1205) rfl dX10_pays_45 ?_
        refine lv_iconst (v := 4) hx hb dX10_pays_48 (by decide) ?_
        refine lv_iload hx hb dX10_pays_49 (lv_at hl 0 rfl) ?_
        refine lv_imul hx hb dX10_pays_51 ?_
        refine lv_topi (fun w26 e_w26 => ?_)
        have i_w26 : w26.toInt = (4 * K22.toInt) := z_mul e_w26 (show (4 : Int32).toInt = 4 by decide) rfl (by omega)
        refine z_iald hx hb hK hw 1 hm_du hf_du rfl (z_ix i_w26 (by omega)) dX10_pays_52 ?_
        refine lv_topi (fun w27 e_w27 => ?_)
        refine lv_bipush (v := 24) hx hb dX10_pays_53 (by decide) ?_
        refine lv_idiv hx hb dX10_pays_55 (by decide) ?_
        refine lv_topi (fun w28 e_w28 => ?_)
        refine lv_iload_n hx hb dX10_pays_56 rfl (lv_at hl 4 rfl) ?_
        refine z_icmp_ne (tgt := 85) hx hb rfl rfl dX10_pays_57 (by decide) (fun c29 => ?_) (fun c29 => ?_)
        · skip
          refine lv_iconst (v := 0) hx hb dX10_pays_85 (by decide) ?_
          refine lv_iadd hx hb dX10_pays_86 ?_
          refine lv_topi (fun w30 e_w30 => ?_)
          refine lv_istore_n (lv' := [(3, .int w30), (4, .int K22), (0, .ref mm), (1, .int oo), (2, .int dy)]) hx hb dX10_pays_87 rfl hl (by decide) rfl (fun ls hl => ?_)
          obtain ⟨k31, e_k31⟩ : ∃ z : Int32, z = K22 + 1 := ⟨_, rfl⟩
          refine lv_iinc (v := k31) (lv' := [(4, .int k31), (3, .int w30), (0, .ref mm), (1, .int oo), (2, .int dy)]) hx hb dX10_pays_88 hl (k := 1) rfl (by rw [e_k31]; rfl) (by decide) rfl (fun ls hl => ?_)
          have i_k31 : k31.toInt = (K22.toInt + 1) := z_add e_k31 rfl (by decide) (by omega)
          refine lv_goto (tgt := 34) hx hb dX10_pays_91 (by decide) ?_
          exact ih_34 _ (by omega) _ _ _ ⟨k31, w30, f23, rfl, (by first | decide | omega), (by first | decide | omega), hw, hf_mm, hf_ha, hf_dr, hf_ro, hf_lw, hf_st, hf_ct, hf_se, hf_th, hf_cn, hf_db, hf_be, hf_du, hf_fo, hf_li, hfr, (lv_sub hl [0, 1, 2, 3, 4] rfl)⟩
        · skip
          refine lv_aload_n hx hb dX10_pays_60 rfl (lv_at hl 2 rfl) ?_
          refine lv_aload_n hx hb dX10_pays_61 rfl (lv_at hl 2 rfl) ?_
          refine z_get (C := RX10) (T := TX10) (N := 54) (ci := 10) (v := .ref du) hx hb hT zin_X10 hown hK hw hm_mm hf_mm rfl 37 (by decide) (hT _ kw_1205) rfl dX10_pays_62 ?_
          refine lv_iconst (v := 4) hx hb dX10_pays_65 (by decide) ?_
          refine lv_iload hx hb dX10_pays_66 (lv_at hl 0 rfl) ?_
          refine lv_imul hx hb dX10_pays_68 ?_
          refine lv_topi (fun w32 e_w32 => ?_)
          have i_w32 : w32.toInt = (4 * K22.toInt) := z_mul e_w32 (show (4 : Int32).toInt = 4 by decide) rfl (by omega)
          refine lv_iconst (v := 2) hx hb dX10_pays_69 (by decide) ?_
          refine lv_iadd hx hb dX10_pays_70 ?_
          refine lv_topi (fun w33 e_w33 => ?_)
          have i_w33 : w33.toInt = ((4 * K22.toInt) + 2) := z_add e_w33 i_w32 (show (2 : Int32).toInt = 2 by decide) (by omega)
          refine z_iald hx hb hK hw 1 hm_du hf_du rfl (z_ix i_w33 (by omega)) dX10_pays_71 ?_
          refine lv_topi (fun w34 e_w34 => ?_)
          have hv_w34 : 0 ≤ w34.toInt ∧ w34.toInt ≤ 12 := by rw [e_w34]; exact hq_du _ (z_mod4 i_w33 (by omega))
          refine lv_bipush (v := 6) hx hb dX10_pays_72 (by decide) ?_
          have hz35 := (show (6 : Int32).toInt = 6 by decide)
          refine z_calliV (cells := 0) (slots := 0) (b := mm) (As := [.int w34, .int 6]) (rest := [.int V24]) (ci := 10) (q0 := (RX10, TX10, 54)) ⟨hx, hb, hml, hown, hT⟩ (c_X10_of l hm_mm hm_dr hf_mm hf_dr hq_dr (by first | omega | decide | assumption) (by decide)) (cwV 2 hT (z_goodV (fun _ h => h) kw_1487 kw_1489 kw_51 kw_96 kw_1490) rfl rfl rfl (by decide +kernel) ⟨by decide, by decide⟩) z_mv hKK hK hw hA hm_mm hf_mm rfl rfl rfl hl.1 rfl (Nat.le_of_ble_eq_true rfl) dX10_pays_74 ⟨by decide, by decide⟩ (fun r36 u H locs hp hw => ?_)
          obtain ⟨rfl, hp⟩ := hp
          have hw : z_H D vwCl (z_A L sz) s.heap L f23 H locs := hw
          have hof_r36 : r36 = gdr (8 * w34.toNatClampNeg + 6) := hp
          have hh_r36 : 0 ≤ r36.toInt ∧ r36.toInt ≤ 4 := by rw [hof_r36]; exact (hq_dr _).2.2.2.2.2.2.1 (by omega)
          refine lv_iload_n hx hb dX10_pays_77 rfl (lv_at hl 3 rfl) ?_
          refine z_icmp_ne (tgt := 85) hx hb rfl rfl dX10_pays_78 (by decide) (fun c37 => ?_) (fun c37 => ?_)
          · skip
            refine lv_iconst (v := 0) hx hb dX10_pays_85 (by decide) ?_
            refine lv_iadd hx hb dX10_pays_86 ?_
            refine lv_topi (fun w38 e_w38 => ?_)
            refine lv_istore_n (lv' := [(3, .int w38), (4, .int K22), (0, .ref mm), (1, .int oo), (2, .int dy)]) hx hb dX10_pays_87 rfl hl (by decide) rfl (fun ls hl => ?_)
            obtain ⟨k39, e_k39⟩ : ∃ z : Int32, z = K22 + 1 := ⟨_, rfl⟩
            refine lv_iinc (v := k39) (lv' := [(4, .int k39), (3, .int w38), (0, .ref mm), (1, .int oo), (2, .int dy)]) hx hb dX10_pays_88 hl (k := 1) rfl (by rw [e_k39]; rfl) (by decide) rfl (fun ls hl => ?_)
            have i_k39 : k39.toInt = (K22.toInt + 1) := z_add e_k39 rfl (by decide) (by omega)
            refine lv_goto (tgt := 34) hx hb dX10_pays_91 (by decide) ?_
            exact ih_34 _ (by omega) _ _ _ ⟨k39, w38, f23, rfl, (by first | decide | omega), (by first | decide | omega), hw, hf_mm, hf_ha, hf_dr, hf_ro, hf_lw, hf_st, hf_ct, hf_se, hf_th, hf_cn, hf_db, hf_be, hf_du, hf_fo, hf_li, hfr, (lv_sub hl [0, 1, 2, 3, 4] rfl)⟩
          · skip
            refine lv_iconst (v := 1) hx hb dX10_pays_81 (by decide) ?_
            refine lv_goto (tgt := 86) hx hb dX10_pays_82 (by decide) ?_
            refine lv_iadd hx hb dX10_pays_86 ?_
            refine lv_topi (fun w40 e_w40 => ?_)
            refine lv_istore_n (lv' := [(3, .int w40), (4, .int K22), (0, .ref mm), (1, .int oo), (2, .int dy)]) hx hb dX10_pays_87 rfl hl (by decide) rfl (fun ls hl => ?_)
            obtain ⟨k41, e_k41⟩ : ∃ z : Int32, z = K22 + 1 := ⟨_, rfl⟩
            refine lv_iinc (v := k41) (lv' := [(4, .int k41), (3, .int w40), (0, .ref mm), (1, .int oo), (2, .int dy)]) hx hb dX10_pays_88 hl (k := 1) rfl (by rw [e_k41]; rfl) (by decide) rfl (fun ls hl => ?_)
            have i_k41 : k41.toInt = (K22.toInt + 1) := z_add e_k41 rfl (by decide) (by omega)
            refine lv_goto (tgt := 34) hx hb dX10_pays_91 (by decide) ?_
            exact ih_34 _ (by omega) _ _ _ ⟨k41, w40, f23, rfl, (by first | decide | omega), (by first | decide | omega), hw, hf_mm, hf_ha, hf_dr, hf_ro, hf_lw, hf_st, hf_ct, hf_se, hf_th, hf_cn, hf_db, hf_be, hf_du, hf_fo, hf_li, hfr, (lv_sub hl [0, 1, 2, 3, 4] rfl)⟩
    · skip
      refine z_if_ne (tgt := 25) hx hb (show (0 : Int32).toInt = 0 by decide) dX10_pays_19 (by decide) (fun h => absurd h (by decide)) (fun _ => ?_)
      refine lv_bipush (v := (-2)) hx hb dX10_pays_22 (by decide) ?_
      exact z_iret hx hb hr hlk (by decide) (by decide) hw (⟨hsub, hfr, m24, m25, m27, m28, m30, m38, m36, m26, gro, gct, gse, gth, gcn, gdb, gbe, gdu, hf_mm, hf_ro, hf_ct, hf_se, hf_th, hf_cn, hf_db, hf_be, hf_du, hq_ro, hq_ct, hq_be, hq_du, by omega⟩) dX10_pays_24
  · skip
    refine z_if_eq (tgt := 22) hx hb (show (0 : Int32).toInt = 0 by decide) dX10_pays_11 (by decide) (fun _ => ?_) (fun h => absurd h (by decide))
    refine lv_bipush (v := (-2)) hx hb dX10_pays_22 (by decide) ?_
    exact z_iret hx hb hr hlk (by decide) (by decide) hw (⟨hsub, hfr, m24, m25, m27, m28, m30, m38, m36, m26, gro, gct, gse, gth, gcn, gdb, gbe, gdu, hf_mm, hf_ro, hf_ct, hf_se, hf_th, hf_cn, hf_db, hf_be, hf_du, hq_ro, hq_ct, hq_be, hq_du, by omega⟩) dX10_pays_24

set_option maxHeartbeats 2000000 in
set_option maxRecDepth 100000 in
theorem c_X10_worst (l : Launch) {D : va_G} {cy : Nat → ClassId} {L : List Nat} {f : Nat → va_E} {sz : Nat} {adK adV : Nat → Nat} {mm wd my ce mv ta li ha lw st fo dr ik ro ct se th cn be du db pn wg wh tn he tr fd po : Nat} {m0 m6 m7 m8 m9 m10 m12 m13 m14 m15 m22 m24 m25 m27 m28 m30 m36 m38 m40 m41 m42 m48 m52 m53 : Int32} {m11 m26 : Int64} {gli gha glw gst gfo gdr gro gct gse gth gcn gbe gdu gdb : Nat → Int32}  (hm_mm : mm ∈ L) (hm_ha : ha ∈ L) (hm_dr : dr ∈ L) (hm_ro : ro ∈ L) (hm_lw : lw ∈ L) (hm_st : st ∈ L) (hm_ct : ct ∈ L) (hm_se : se ∈ L) (hm_th : th ∈ L) (hm_cn : cn ∈ L) (hm_db : db ∈ L) (hm_be : be ∈ L) (hm_du : du ∈ L) (hm_fo : fo ∈ L) (hm_li : li ∈ L) (hf_mm : f mm = .inr (10, [.int m0, .ref wd, .ref my, .ref ce, .ref mv, .ref ta, .int m6, .int m7, .int m8, .int m9, .int m10, .long m11, .int m12, .int m13, .int m14, .int m15, .ref li, .ref ha, .ref lw, .ref st, .ref fo, .ref dr, .int m22, .ref ik, .int m24, .int m25, .long m26, .int m27, .int m28, .ref ro, .int m30, .ref ct, .ref se, .ref th, .ref cn, .ref be, .int m36, .ref du, .int m38, .ref db, .int m40, .int m41, .int m42, .ref pn, .ref wg, .ref wh, .ref tn, .ref he, .int m48, .ref tr, .ref fd, .ref po, .int m52, .int m53])) (hf_ha : f ha = .inl (cy 1, 30, .inl gha)) (hf_dr : f dr = .inl (cy 1, 520, .inl gdr)) (hf_ro : f ro = .inl (cy 1, 13, .inl gro)) (hf_lw : f lw = .inl (cy 1, 25, .inl glw)) (hf_st : f st = .inl (cy 1, 20, .inl gst)) (hf_ct : f ct = .inl (cy 1, 4, .inl gct)) (hf_se : f se = .inl (cy 1, 36, .inl gse)) (hf_th : f th = .inl (cy 1, 36, .inl gth)) (hf_cn : f cn = .inl (cy 1, 36, .inl gcn)) (hf_db : f db = .inl (cy 1, 5, .inl gdb)) (hf_be : f be = .inl (cy 1, 2574, .inl gbe)) (hf_du : f du = .inl (cy 1, 5200, .inl gdu)) (hf_fo : f fo = .inl (cy 1, 180, .inl gfo)) (hf_li : f li = .inl (cy 1, 5, .inl gli)) (ne_se_th : se ≠ th) (ne_se_cn : se ≠ cn) (ne_th_cn : th ≠ cn) (ne_db_li : db ≠ li) (hq_ha : ∀ j : Nat, q_has j (gha j)) (hq_dr : ∀ j : Nat, q_drv j (gdr j)) (hq_ro : ∀ j : Nat, q_12 j (gro j)) (hq_lw : ∀ j : Nat, q_law j (glw j)) (hq_st : ∀ j : Nat, q_law j (gst j)) (hq_ct : ∀ j : Nat, q_law j (gct j)) (hq_be : ∀ j : Nat, q_be j (gbe j)) (hq_du : ∀ j : Nat, q_du j (gdu j)) (hxx : 0 ≤ m26.toInt ∧ m26.toInt < 2147483648) (hea : ∀ m : Nat, m < 5 → z_ea gha glw m) : Met l yX10_worst (z_ws yX10_worst cX10_worst 3 (some .int)) (z_R 7 0 0) (va_Pc [.ref mm] (z_Pre D vwCl (z_KK D cy adK adV) L f sz)) (z_Qi D vwCl (fun r u => L = u.1 ∧ (∀ b ∈ L, b ≠ mm → b ≠ ro → b ≠ ct → b ≠ se → b ≠ th → b ≠ cn → b ≠ db → b ≠ be → b ≠ du → u.2 b = f b) ∧ (∃ (o2 mn2 i2 u2 n2 d2 y2 : Int32) (x2 : Int64) (nro nct nse nth ncn ndb nbe ndu : Nat → Int32), (u.2 mm = .inr (10, [.int 0, .ref wd, .ref my, .ref ce, .ref mv, .ref ta, .int m6, .int m7, .int m8, .int m9, .int m10, .long m11, .int m12, .int m13, .int m14, .int m15, .ref li, .ref ha, .ref lw, .ref st, .ref fo, .ref dr, .int m22, .ref ik, .int o2, .int mn2, .long x2, .int i2, .int u2, .ref ro, .int n2, .ref ct, .ref se, .ref th, .ref cn, .ref be, .int y2, .ref du, .int d2, .ref db, .int m40, .int m41, .int m42, .ref pn, .ref wg, .ref wh, .ref tn, .ref he, .int m48, .ref tr, .ref fd, .ref po, .int m52, .int m53])) ∧ (u.2 ro = .inl (cy 1, 13, .inl nro)) ∧ (u.2 ct = .inl (cy 1, 4, .inl nct)) ∧ (u.2 se = .inl (cy 1, 36, .inl nse)) ∧ (u.2 th = .inl (cy 1, 36, .inl nth)) ∧ (u.2 cn = .inl (cy 1, 36, .inl ncn)) ∧ (u.2 db = .inl (cy 1, 5, .inl ndb)) ∧ (u.2 be = .inl (cy 1, 2574, .inl nbe)) ∧ (u.2 du = .inl (cy 1, 5200, .inl ndu)) ∧ (∀ j : Nat, q_12 j (nro j)) ∧ (∀ j : Nat, q_law j (nct j)) ∧ (∀ j : Nat, q_be j (nbe j)) ∧ (∀ j : Nat, q_du j (ndu j)) ∧ (0 ≤ x2.toInt ∧ x2.toInt < 2147483648))) L sz) 0 0 (z_A L sz) := by
  refine z_met (cc := cX10_worst) (maxL := 3) (ret := (some .int)) (lv := [(0, .ref mm)]) (by decide) rfl (Nat.le_of_ble_eq_true rfl) rfl ?_
  intro p e s m below meth c ls hx hb hr hlk hml hown hnm hts hKK hA hw hl
  have hK := hKK.1.1
  have hown : s.vm.findClass RX10 = some m.cls := hown
  have hT : ∀ w ∈ lw_all, w.before ([.ref mm] : List Value).toArray s = true := fun w h => hts w (z_cons w h)
  have hsub : L = L := rfl
  have hfr : ∀ b ∈ L, b ≠ mm → b ≠ ro → b ≠ ct → b ≠ se → b ≠ th → b ≠ cn → b ≠ db → b ≠ be → b ≠ du → f b = f b := fun _ _ _ _ _ _ _ _ _ _ _ => rfl
  have hh0 := (hq_ha 0).1 rfl
  have hh1 := (hq_ha 1).2.1 rfl
  have hh2 := (hq_ha 2).2.2.1 rfl
  have hh3 := (hq_ha 3).2.2.2 rfl
  have hea0 : 2 ≤ (glw 3).toInt ∨ ((gha 3).toInt = 0 ∧ (gha 0).toInt = 0) := hea 0 (by decide)
  have hz_m2 : (-2 : Int32).toInt = -2 := by decide
  have hz_m1 : (-1 : Int32).toInt = -1 := by decide
  have hz_0 : (0 : Int32).toInt = 0 := by decide
  refine lv_aload_n hx hb dX10_worst_0 rfl (lv_at hl 0 rfl) ?_
  refine lv_iconst (v := 0) hx hb dX10_worst_1 (by decide) ?_
  refine z_put (C := RX10) (T := TX10) (N := 54) (ci := 10) (v := .int 0) (fs' := [.int 0, .ref wd, .ref my, .ref ce, .ref mv, .ref ta, .int m6, .int m7, .int m8, .int m9, .int m10, .long m11, .int m12, .int m13, .int m14, .int m15, .ref li, .ref ha, .ref lw, .ref st, .ref fo, .ref dr, .int m22, .ref ik, .int m24, .int m25, .long m26, .int m27, .int m28, .ref ro, .int m30, .ref ct, .ref se, .ref th, .ref cn, .ref be, .int m36, .ref du, .int m38, .ref db, .int m40, .int m41, .int m42, .ref pn, .ref wg, .ref wh, .ref tn, .ref he, .int m48, .ref tr, .ref fd, .ref po, .int m52, .int m53]) hx hb hT zin_X10 tyX10_ok nmX10 hown hK hw hm_mm hf_mm rfl 0 (by decide) (hT _ kw_1168) rfl rfl rfl (Nat.le_of_ble_eq_true rfl) rfl dX10_worst_2 (fun H locs hw => ?_)
  obtain ⟨f1, e_f1⟩ : ∃ z, z = va_up f mm (.inr (10, [.int 0, .ref wd, .ref my, .ref ce, .ref mv, .ref ta, .int m6, .int m7, .int m8, .int m9, .int m10, .long m11, .int m12, .int m13, .int m14, .int m15, .ref li, .ref ha, .ref lw, .ref st, .ref fo, .ref dr, .int m22, .ref ik, .int m24, .int m25, .long m26, .int m27, .int m28, .ref ro, .int m30, .ref ct, .ref se, .ref th, .ref cn, .ref be, .int m36, .ref du, .int m38, .ref db, .int m40, .int m41, .int m42, .ref pn, .ref wg, .ref wh, .ref tn, .ref he, .int m48, .ref tr, .ref fd, .ref po, .int m52, .int m53])) := ⟨_, rfl⟩
  rw [← e_f1] at hw
  have hf_ha : f1 ha = .inl (cy 1, 30, .inl gha) := (congrFun e_f1 ha).trans (z_up_ne (z_tne hf_ha hf_mm (m := 340) (n := 10) rfl rfl (by decide)) hf_ha)
  have hf_dr : f1 dr = .inl (cy 1, 520, .inl gdr) := (congrFun e_f1 dr).trans (z_up_ne (z_tne hf_dr hf_mm (m := 4260) (n := 10) rfl rfl (by decide)) hf_dr)
  have hf_ro : f1 ro = .inl (cy 1, 13, .inl gro) := (congrFun e_f1 ro).trans (z_up_ne (z_tne hf_ro hf_mm (m := 204) (n := 10) rfl rfl (by decide)) hf_ro)
  have hf_lw : f1 lw = .inl (cy 1, 25, .inl glw) := (congrFun e_f1 lw).trans (z_up_ne (z_tne hf_lw hf_mm (m := 300) (n := 10) rfl rfl (by decide)) hf_lw)
  have hf_st : f1 st = .inl (cy 1, 20, .inl gst) := (congrFun e_f1 st).trans (z_up_ne (z_tne hf_st hf_mm (m := 260) (n := 10) rfl rfl (by decide)) hf_st)
  have hf_ct : f1 ct = .inl (cy 1, 4, .inl gct) := (congrFun e_f1 ct).trans (z_up_ne (z_tne hf_ct hf_mm (m := 132) (n := 10) rfl rfl (by decide)) hf_ct)
  have hf_se : f1 se = .inl (cy 1, 36, .inl gse) := (congrFun e_f1 se).trans (z_up_ne (z_tne hf_se hf_mm (m := 388) (n := 10) rfl rfl (by decide)) hf_se)
  have hf_th : f1 th = .inl (cy 1, 36, .inl gth) := (congrFun e_f1 th).trans (z_up_ne (z_tne hf_th hf_mm (m := 388) (n := 10) rfl rfl (by decide)) hf_th)
  have hf_cn : f1 cn = .inl (cy 1, 36, .inl gcn) := (congrFun e_f1 cn).trans (z_up_ne (z_tne hf_cn hf_mm (m := 388) (n := 10) rfl rfl (by decide)) hf_cn)
  have hf_db : f1 db = .inl (cy 1, 5, .inl gdb) := (congrFun e_f1 db).trans (z_up_ne (z_tne hf_db hf_mm (m := 140) (n := 10) rfl rfl (by decide)) hf_db)
  have hf_be : f1 be = .inl (cy 1, 2574, .inl gbe) := (congrFun e_f1 be).trans (z_up_ne (z_tne hf_be hf_mm (m := 20692) (n := 10) rfl rfl (by decide)) hf_be)
  have hf_du : f1 du = .inl (cy 1, 5200, .inl gdu) := (congrFun e_f1 du).trans (z_up_ne (z_tne hf_du hf_mm (m := 41700) (n := 10) rfl rfl (by decide)) hf_du)
  have hf_fo : f1 fo = .inl (cy 1, 180, .inl gfo) := (congrFun e_f1 fo).trans (z_up_ne (z_tne hf_fo hf_mm (m := 1540) (n := 10) rfl rfl (by decide)) hf_fo)
  have hf_li : f1 li = .inl (cy 1, 5, .inl gli) := (congrFun e_f1 li).trans (z_up_ne (z_tne hf_li hf_mm (m := 140) (n := 10) rfl rfl (by decide)) hf_li)
  have hf_mm : f1 mm = .inr (10, [.int 0, .ref wd, .ref my, .ref ce, .ref mv, .ref ta, .int m6, .int m7, .int m8, .int m9, .int m10, .long m11, .int m12, .int m13, .int m14, .int m15, .ref li, .ref ha, .ref lw, .ref st, .ref fo, .ref dr, .int m22, .ref ik, .int m24, .int m25, .long m26, .int m27, .int m28, .ref ro, .int m30, .ref ct, .ref se, .ref th, .ref cn, .ref be, .int m36, .ref du, .int m38, .ref db, .int m40, .int m41, .int m42, .ref pn, .ref wg, .ref wh, .ref tn, .ref he, .int m48, .ref tr, .ref fd, .ref po, .int m52, .int m53]) := (congrFun e_f1 mm).trans z_up_self
  have hfr : ∀ b ∈ L, b ≠ mm → b ≠ ro → b ≠ ct → b ≠ se → b ≠ th → b ≠ cn → b ≠ db → b ≠ be → b ≠ du → f1 b = f b := fun b hb h0 h1 h2 h3 h4 h5 h6 h7 h8 => (congrFun e_f1 b).trans (z_up_ne h0 (hfr b hb h0 h1 h2 h3 h4 h5 h6 h7 h8))
  refine lv_aload_n hx hb dX10_worst_5 rfl (lv_at hl 0 rfl) ?_
  refine z_calliV (cells := 0) (slots := 0) (b := mm) (As := []) (rest := []) (ci := 10) (q0 := (RX10, TX10, 54)) ⟨hx, hb, hml, hown, hT⟩ (c_X10_isMoor l hm_mm hm_li hf_mm hf_li) (cwV 0 hT (z_goodV (fun _ h => h) kw_1507 kw_1509 kw_54 kw_96 kw_1510) rfl rfl rfl (by decide +kernel) ⟨by decide, by decide⟩) z_mv hKK hK hw hA hm_mm hf_mm rfl rfl rfl hl.1 rfl (Nat.le_of_ble_eq_true rfl) dX10_worst_6 ⟨by decide, by decide⟩ (fun r2 u H locs hp hw => ?_)
  obtain ⟨rfl, hp⟩ := hp
  have hw : z_H D vwCl (z_A L sz) s.heap L f1 H locs := hw
  rcases hp with ⟨rfl, h3⟩ | ⟨rfl, h3⟩
  · skip
    refine z_if_ne (tgt := 15) hx hb (show (1 : Int32).toInt = 1 by decide) dX10_worst_9 (by decide) (fun _ => ?_) (fun h => absurd h (by decide))
    refine lv_aload_n hx hb dX10_worst_15 rfl (lv_at hl 0 rfl) ?_
    refine z_callvV (cells := 0) (slots := 0) (b := mm) (As := []) (rest := []) (ci := 10) (q0 := (RX10, TX10, 54)) ⟨hx, hb, hml, hown, hT⟩ (c_X10_asTold l hm_mm hm_ha hm_dr hm_ro hm_lw hm_st hm_ct hm_se hm_th hm_cn hm_db hm_be hm_du hm_fo hf_mm hf_ha hf_dr hf_ro hf_lw hf_st hf_ct hf_se hf_th hf_cn hf_db hf_be hf_du hf_fo ne_se_th ne_se_cn ne_th_cn hq_ha hq_dr hq_ro hq_lw hq_st hq_ct hq_be hq_du (by first | omega | decide | assumption) hea) (cwV 0 hT (z_goodV (fun _ h => h) kw_1587 kw_1589 kw_68 kw_96 kw_1590) rfl rfl rfl (by decide +kernel) ⟨by decide, by decide⟩) z_mv hKK hK hw hA hm_mm hf_mm rfl rfl rfl hl.1 rfl (Nat.le_of_ble_eq_true rfl) dX10_worst_16 ⟨by decide, by decide⟩ (fun u H locs hp hw => ?_)
    obtain ⟨L4, f5⟩ := u
    obtain ⟨hsb, hfm, mn2_6, n2_7, d2_8, y2_9, x2_10, nro_11, nct_12, nse_13, nth_14, ncn_15, ndb_16, nbe_17, ndu_18, ha_0, ha_1, ha_2, ha_3, ha_4, ha_5, ha_6, ha_7, ha_8, hq_ro, hq_ct, hq_be, hq_du, hp⟩ := hp
    have hsb : L = L4 := hsb
    subst hsb
    have hsb : ∀ b ∈ L, b ∈ L := fun _ h => h
    have hw : z_H D vwCl (z_A L sz) s.heap L f5 H locs := hw
    have hfr : ∀ b ∈ L, b ≠ mm → b ≠ ro → b ≠ ct → b ≠ se → b ≠ th → b ≠ cn → b ≠ db → b ≠ be → b ≠ du → f5 b = f b := fun b hb h0 h1 h2 h3 h4 h5 h6 h7 h8 => (hfm b hb h0 h1 h2 h3 h4 h5 h6 h7 h8).trans (hfr b hb h0 h1 h2 h3 h4 h5 h6 h7 h8)
    have hf_ha : f5 ha = .inl (cy 1, 30, .inl gha) := (hfm ha hm_ha (z_tne hf_ha hf_mm (m := 340) (n := 10) rfl rfl (by decide)) (z_tne hf_ha hf_ro (m := 340) (n := 204) rfl rfl (by decide)) (z_tne hf_ha hf_ct (m := 340) (n := 132) rfl rfl (by decide)) (z_tne hf_ha hf_se (m := 340) (n := 388) rfl rfl (by decide)) (z_tne hf_ha hf_th (m := 340) (n := 388) rfl rfl (by decide)) (z_tne hf_ha hf_cn (m := 340) (n := 388) rfl rfl (by decide)) (z_tne hf_ha hf_db (m := 340) (n := 140) rfl rfl (by decide)) (z_tne hf_ha hf_be (m := 340) (n := 20692) rfl rfl (by decide)) (z_tne hf_ha hf_du (m := 340) (n := 41700) rfl rfl (by decide))).trans hf_ha
    have hf_dr : f5 dr = .inl (cy 1, 520, .inl gdr) := (hfm dr hm_dr (z_tne hf_dr hf_mm (m := 4260) (n := 10) rfl rfl (by decide)) (z_tne hf_dr hf_ro (m := 4260) (n := 204) rfl rfl (by decide)) (z_tne hf_dr hf_ct (m := 4260) (n := 132) rfl rfl (by decide)) (z_tne hf_dr hf_se (m := 4260) (n := 388) rfl rfl (by decide)) (z_tne hf_dr hf_th (m := 4260) (n := 388) rfl rfl (by decide)) (z_tne hf_dr hf_cn (m := 4260) (n := 388) rfl rfl (by decide)) (z_tne hf_dr hf_db (m := 4260) (n := 140) rfl rfl (by decide)) (z_tne hf_dr hf_be (m := 4260) (n := 20692) rfl rfl (by decide)) (z_tne hf_dr hf_du (m := 4260) (n := 41700) rfl rfl (by decide))).trans hf_dr
    have hf_lw : f5 lw = .inl (cy 1, 25, .inl glw) := (hfm lw hm_lw (z_tne hf_lw hf_mm (m := 300) (n := 10) rfl rfl (by decide)) (z_tne hf_lw hf_ro (m := 300) (n := 204) rfl rfl (by decide)) (z_tne hf_lw hf_ct (m := 300) (n := 132) rfl rfl (by decide)) (z_tne hf_lw hf_se (m := 300) (n := 388) rfl rfl (by decide)) (z_tne hf_lw hf_th (m := 300) (n := 388) rfl rfl (by decide)) (z_tne hf_lw hf_cn (m := 300) (n := 388) rfl rfl (by decide)) (z_tne hf_lw hf_db (m := 300) (n := 140) rfl rfl (by decide)) (z_tne hf_lw hf_be (m := 300) (n := 20692) rfl rfl (by decide)) (z_tne hf_lw hf_du (m := 300) (n := 41700) rfl rfl (by decide))).trans hf_lw
    have hf_st : f5 st = .inl (cy 1, 20, .inl gst) := (hfm st hm_st (z_tne hf_st hf_mm (m := 260) (n := 10) rfl rfl (by decide)) (z_tne hf_st hf_ro (m := 260) (n := 204) rfl rfl (by decide)) (z_tne hf_st hf_ct (m := 260) (n := 132) rfl rfl (by decide)) (z_tne hf_st hf_se (m := 260) (n := 388) rfl rfl (by decide)) (z_tne hf_st hf_th (m := 260) (n := 388) rfl rfl (by decide)) (z_tne hf_st hf_cn (m := 260) (n := 388) rfl rfl (by decide)) (z_tne hf_st hf_db (m := 260) (n := 140) rfl rfl (by decide)) (z_tne hf_st hf_be (m := 260) (n := 20692) rfl rfl (by decide)) (z_tne hf_st hf_du (m := 260) (n := 41700) rfl rfl (by decide))).trans hf_st
    have hf_fo : f5 fo = .inl (cy 1, 180, .inl gfo) := (hfm fo hm_fo (z_tne hf_fo hf_mm (m := 1540) (n := 10) rfl rfl (by decide)) (z_tne hf_fo hf_ro (m := 1540) (n := 204) rfl rfl (by decide)) (z_tne hf_fo hf_ct (m := 1540) (n := 132) rfl rfl (by decide)) (z_tne hf_fo hf_se (m := 1540) (n := 388) rfl rfl (by decide)) (z_tne hf_fo hf_th (m := 1540) (n := 388) rfl rfl (by decide)) (z_tne hf_fo hf_cn (m := 1540) (n := 388) rfl rfl (by decide)) (z_tne hf_fo hf_db (m := 1540) (n := 140) rfl rfl (by decide)) (z_tne hf_fo hf_be (m := 1540) (n := 20692) rfl rfl (by decide)) (z_tne hf_fo hf_du (m := 1540) (n := 41700) rfl rfl (by decide))).trans hf_fo
    have hf_li : f5 li = .inl (cy 1, 5, .inl gli) := (hfm li hm_li (z_tne hf_li hf_mm (m := 140) (n := 10) rfl rfl (by decide)) (z_tne hf_li hf_ro (m := 140) (n := 204) rfl rfl (by decide)) (z_tne hf_li hf_ct (m := 140) (n := 132) rfl rfl (by decide)) (z_tne hf_li hf_se (m := 140) (n := 388) rfl rfl (by decide)) (z_tne hf_li hf_th (m := 140) (n := 388) rfl rfl (by decide)) (z_tne hf_li hf_cn (m := 140) (n := 388) rfl rfl (by decide)) (Ne.symm ne_db_li) (z_tne hf_li hf_be (m := 140) (n := 20692) rfl rfl (by decide)) (z_tne hf_li hf_du (m := 140) (n := 41700) rfl rfl (by decide))).trans hf_li
    have hf_mm : f5 mm = .inr (10, [.int 0, .ref wd, .ref my, .ref ce, .ref mv, .ref ta, .int m6, .int m7, .int m8, .int m9, .int m10, .long m11, .int m12, .int m13, .int m14, .int m15, .ref li, .ref ha, .ref lw, .ref st, .ref fo, .ref dr, .int m22, .ref ik, .int (-1), .int mn2_6, .long x2_10, .int 0, .int 1000, .ref ro, .int n2_7, .ref ct, .ref se, .ref th, .ref cn, .ref be, .int y2_9, .ref du, .int d2_8, .ref db, .int m40, .int m41, .int m42, .ref pn, .ref wg, .ref wh, .ref tn, .ref he, .int m48, .ref tr, .ref fd, .ref po, .int m52, .int m53]) := ha_0
    have hf_ro : f5 ro = .inl (cy 1, 13, .inl nro_11) := ha_1
    have hf_ct : f5 ct = .inl (cy 1, 4, .inl nct_12) := ha_2
    have hf_se : f5 se = .inl (cy 1, 36, .inl nse_13) := ha_3
    have hf_th : f5 th = .inl (cy 1, 36, .inl nth_14) := ha_4
    have hf_cn : f5 cn = .inl (cy 1, 36, .inl ncn_15) := ha_5
    have hf_db : f5 db = .inl (cy 1, 5, .inl ndb_16) := ha_6
    have hf_be : f5 be = .inl (cy 1, 2574, .inl nbe_17) := ha_7
    have hf_du : f5 du = .inl (cy 1, 5200, .inl ndu_18) := ha_8
    have hto := hp
    refine lv_iconst (v := (-1)) hx hb dX10_worst_19 (by decide) ?_
    refine lv_istore_n (lv' := [(1, .int (-1)), (0, .ref mm)]) hx hb dX10_worst_20 rfl hl (by decide) rfl (fun ls hl => ?_)
    refine lv_iconst (v := 0) hx hb dX10_worst_21 (by decide) ?_
    refine lv_istore_n (lv' := [(2, .int 0), (1, .int (-1)), (0, .ref mm)]) hx hb dX10_worst_22 rfl hl (by decide) rfl (fun ls hl => ?_)
    have hzk : (0 : Int32).toInt = 0 := by decide
    refine z_loop (fun n H locs ls => ∃ (K19 : Int32) (V21 : Int32) (f20 : Nat → va_E), (n = (5 - K19.toInt).toNat) ∧ (0 ≤ K19.toInt) ∧ (K19.toInt ≤ 5) ∧ (-1 ≤ V21.toInt ∧ V21.toInt ≤ 4) ∧ (z_H D vwCl (z_A L sz) s.heap L f20 H locs) ∧ (f20 mm = .inr (10, [.int 0, .ref wd, .ref my, .ref ce, .ref mv, .ref ta, .int m6, .int m7, .int m8, .int m9, .int m10, .long m11, .int m12, .int m13, .int m14, .int m15, .ref li, .ref ha, .ref lw, .ref st, .ref fo, .ref dr, .int m22, .ref ik, .int (-1), .int mn2_6, .long x2_10, .int 0, .int 1000, .ref ro, .int n2_7, .ref ct, .ref se, .ref th, .ref cn, .ref be, .int y2_9, .ref du, .int d2_8, .ref db, .int m40, .int m41, .int m42, .ref pn, .ref wg, .ref wh, .ref tn, .ref he, .int m48, .ref tr, .ref fd, .ref po, .int m52, .int m53])) ∧ (f20 ha = .inl (cy 1, 30, .inl gha)) ∧ (f20 dr = .inl (cy 1, 520, .inl gdr)) ∧ (f20 ro = .inl (cy 1, 13, .inl nro_11)) ∧ (f20 lw = .inl (cy 1, 25, .inl glw)) ∧ (f20 st = .inl (cy 1, 20, .inl gst)) ∧ (f20 ct = .inl (cy 1, 4, .inl nct_12)) ∧ (f20 se = .inl (cy 1, 36, .inl nse_13)) ∧ (f20 th = .inl (cy 1, 36, .inl nth_14)) ∧ (f20 cn = .inl (cy 1, 36, .inl ncn_15)) ∧ (f20 db = .inl (cy 1, 5, .inl ndb_16)) ∧ (f20 be = .inl (cy 1, 2574, .inl nbe_17)) ∧ (f20 du = .inl (cy 1, 5200, .inl ndu_18)) ∧ (f20 fo = .inl (cy 1, 180, .inl gfo)) ∧ (f20 li = .inl (cy 1, 5, .inl gli)) ∧ (∀ b ∈ L, b ≠ mm → b ≠ ro → b ≠ ct → b ≠ se → b ≠ th → b ≠ cn → b ≠ db → b ≠ be → b ≠ du → f20 b = f b) ∧ (lv_has ls 3 [(2, .int K19), (1, .int V21), (0, .ref mm)])) _ ⟨0, (-1), f5, rfl, (by first | decide | omega), (by first | decide | omega), (by decide), hw, hf_mm, hf_ha, hf_dr, hf_ro, hf_lw, hf_st, hf_ct, hf_se, hf_th, hf_cn, hf_db, hf_be, hf_du, hf_fo, hf_li, hfr, (lv_sub hl [0, 1, 2] rfl)⟩ (fun n H locs ls hI ih_23 => ?_)
    obtain ⟨K19, V21, f20, hn, hk0, hk1, hi0, hw, hf_mm, hf_ha, hf_dr, hf_ro, hf_lw, hf_st, hf_ct, hf_se, hf_th, hf_cn, hf_db, hf_be, hf_du, hf_fo, hf_li, hfr, hl⟩ := hI
    refine lv_iload_n hx hb dX10_worst_23 rfl (lv_at hl 0 rfl) ?_
    refine lv_iconst (v := 5) hx hb dX10_worst_24 (by decide) ?_
    refine z_icmp_ge (tgt := 60) hx hb rfl (show (5 : Int32).toInt = 5 by decide) dX10_worst_25 (by decide) (fun c22 => ?_) (fun c22 => ?_)
    · skip
      refine lv_iload_n hx hb dX10_worst_60 rfl (lv_at hl 1 rfl) ?_
      exact z_iret hx hb hr hlk (by decide) (by decide) hw (⟨hsub, hfr, (-1), mn2_6, 0, 1000, n2_7, d2_8, y2_9, x2_10, nro_11, nct_12, nse_13, nth_14, ncn_15, ndb_16, nbe_17, ndu_18, hf_mm, hf_ro, hf_ct, hf_se, hf_th, hf_cn, hf_db, hf_be, hf_du, hq_ro, hq_ct, hq_be, hq_du, by omega⟩) dX10_worst_61
    · skip
      refine lv_aload_n hx hb dX10_worst_28 rfl (lv_at hl 2 rfl) ?_
      refine z_get (C := RX10) (T := TX10) (N := 54) (ci := 10) (v := .ref db) hx hb hT zin_X10 hown hK hw hm_mm hf_mm rfl 39 (by decide) (hT _ kw_1207) rfl dX10_worst_29 ?_
      refine lv_iload_n hx hb dX10_worst_32 rfl (lv_at hl 0 rfl) ?_
      refine z_iald hx hb hK hw 1 hm_db hf_db rfl (z_ix rfl (by omega)) dX10_worst_33 ?_
      refine lv_topi (fun w23 e_w23 => ?_)
      refine lv_iload_n hx hb dX10_worst_34 rfl (lv_at hl 1 rfl) ?_
      refine lv_iconst (v := (-1)) hx hb dX10_worst_35 (by decide) ?_
      refine z_icmp_ne (tgt := 43) hx hb rfl (show ((-1) : Int32).toInt = (-1) by decide) dX10_worst_36 (by decide) (fun c24 => ?_) (fun c24 => ?_)
      · skip
        refine lv_aload_n hx hb dX10_worst_43 rfl (lv_at hl 2 rfl) ?_
        refine z_get (C := RX10) (T := TX10) (N := 54) (ci := 10) (v := .ref db) hx hb hT zin_X10 hown hK hw hm_mm hf_mm rfl 39 (by decide) (hT _ kw_1207) rfl dX10_worst_44 ?_
        refine lv_iload_n hx hb dX10_worst_47 rfl (lv_at hl 1 rfl) ?_
        refine z_iald hx hb hK hw 1 hm_db hf_db rfl (z_ix rfl (by omega)) dX10_worst_48 ?_
        refine lv_topi (fun w25 e_w25 => ?_)
        refine z_icmp_le (tgt := 54) hx hb rfl rfl dX10_worst_49 (by decide) (fun c26 => ?_) (fun c26 => ?_)
        · skip
          obtain ⟨k27, e_k27⟩ : ∃ z : Int32, z = K19 + 1 := ⟨_, rfl⟩
          refine lv_iinc (v := k27) (lv' := [(2, .int k27), (1, .int V21), (0, .ref mm)]) hx hb dX10_worst_54 hl (k := 0) rfl (by rw [e_k27]; rfl) (by decide) rfl (fun ls hl => ?_)
          have i_k27 : k27.toInt = (K19.toInt + 1) := z_add e_k27 rfl (by decide) (by omega)
          refine lv_goto (tgt := 23) hx hb dX10_worst_57 (by decide) ?_
          exact ih_23 _ (by omega) _ _ _ ⟨k27, V21, f20, rfl, (by first | decide | omega), (by first | decide | omega), (by omega), hw, hf_mm, hf_ha, hf_dr, hf_ro, hf_lw, hf_st, hf_ct, hf_se, hf_th, hf_cn, hf_db, hf_be, hf_du, hf_fo, hf_li, hfr, (lv_sub hl [0, 1, 2] rfl)⟩
        · skip
          refine lv_iload_n hx hb dX10_worst_52 rfl (lv_at hl 0 rfl) ?_
          refine lv_istore_n (lv' := [(1, .int K19), (2, .int K19), (0, .ref mm)]) hx hb dX10_worst_53 rfl hl (by decide) rfl (fun ls hl => ?_)
          obtain ⟨k28, e_k28⟩ : ∃ z : Int32, z = K19 + 1 := ⟨_, rfl⟩
          refine lv_iinc (v := k28) (lv' := [(2, .int k28), (1, .int K19), (0, .ref mm)]) hx hb dX10_worst_54 hl (k := 1) rfl (by rw [e_k28]; rfl) (by decide) rfl (fun ls hl => ?_)
          have i_k28 : k28.toInt = (K19.toInt + 1) := z_add e_k28 rfl (by decide) (by omega)
          refine lv_goto (tgt := 23) hx hb dX10_worst_57 (by decide) ?_
          exact ih_23 _ (by omega) _ _ _ ⟨k28, K19, f20, rfl, (by first | decide | omega), (by first | decide | omega), (by omega), hw, hf_mm, hf_ha, hf_dr, hf_ro, hf_lw, hf_st, hf_ct, hf_se, hf_th, hf_cn, hf_db, hf_be, hf_du, hf_fo, hf_li, hfr, (lv_sub hl [0, 1, 2] rfl)⟩
      · skip
        refine lv_iconst (v := 0) hx hb dX10_worst_39 (by decide) ?_
        refine lv_goto (tgt := 49) hx hb dX10_worst_40 (by decide) ?_
        refine z_icmp_le (tgt := 54) hx hb rfl (show (0 : Int32).toInt = 0 by decide) dX10_worst_49 (by decide) (fun c29 => ?_) (fun c29 => ?_)
        · skip
          obtain ⟨k30, e_k30⟩ : ∃ z : Int32, z = K19 + 1 := ⟨_, rfl⟩
          refine lv_iinc (v := k30) (lv' := [(2, .int k30), (1, .int V21), (0, .ref mm)]) hx hb dX10_worst_54 hl (k := 0) rfl (by rw [e_k30]; rfl) (by decide) rfl (fun ls hl => ?_)
          have i_k30 : k30.toInt = (K19.toInt + 1) := z_add e_k30 rfl (by decide) (by omega)
          refine lv_goto (tgt := 23) hx hb dX10_worst_57 (by decide) ?_
          exact ih_23 _ (by omega) _ _ _ ⟨k30, V21, f20, rfl, (by first | decide | omega), (by first | decide | omega), (by omega), hw, hf_mm, hf_ha, hf_dr, hf_ro, hf_lw, hf_st, hf_ct, hf_se, hf_th, hf_cn, hf_db, hf_be, hf_du, hf_fo, hf_li, hfr, (lv_sub hl [0, 1, 2] rfl)⟩
        · skip
          refine lv_iload_n hx hb dX10_worst_52 rfl (lv_at hl 0 rfl) ?_
          refine lv_istore_n (lv' := [(1, .int K19), (2, .int K19), (0, .ref mm)]) hx hb dX10_worst_53 rfl hl (by decide) rfl (fun ls hl => ?_)
          obtain ⟨k31, e_k31⟩ : ∃ z : Int32, z = K19 + 1 := ⟨_, rfl⟩
          refine lv_iinc (v := k31) (lv' := [(2, .int k31), (1, .int K19), (0, .ref mm)]) hx hb dX10_worst_54 hl (k := 1) rfl (by rw [e_k31]; rfl) (by decide) rfl (fun ls hl => ?_)
          have i_k31 : k31.toInt = (K19.toInt + 1) := z_add e_k31 rfl (by decide) (by omega)
          refine lv_goto (tgt := 23) hx hb dX10_worst_57 (by decide) ?_
          exact ih_23 _ (by omega) _ _ _ ⟨k31, K19, f20, rfl, (by first | decide | omega), (by first | decide | omega), (by omega), hw, hf_mm, hf_ha, hf_dr, hf_ro, hf_lw, hf_st, hf_ct, hf_se, hf_th, hf_cn, hf_db, hf_be, hf_du, hf_fo, hf_li, hfr, (lv_sub hl [0, 1, 2] rfl)⟩
  · skip
    refine z_if_ne (tgt := 15) hx hb (show (0 : Int32).toInt = 0 by decide) dX10_worst_9 (by decide) (fun h => absurd h (by decide)) (fun _ => ?_)
    refine lv_bipush (v := (-2)) hx hb dX10_worst_12 (by decide) ?_
    exact z_iret hx hb hr hlk (by decide) (by decide) hw (⟨hsub, hfr, m24, m25, m27, m28, m30, m38, m36, m26, gro, gct, gse, gth, gcn, gdb, gbe, gdu, hf_mm, hf_ro, hf_ct, hf_se, hf_th, hf_cn, hf_db, hf_be, hf_du, hq_ro, hq_ct, hq_be, hq_du, by omega⟩) dX10_worst_14

set_option maxHeartbeats 2000000 in
set_option maxRecDepth 100000 in
theorem c_X10_left (l : Launch) {D : va_G} {cy : Nat → ClassId} {L : List Nat} {f : Nat → va_E} {sz : Nat} {adK adV : Nat → Nat} {mm wd my ce mv ta li ha lw st fo dr ik ro ct se th cn be du db pn wg wh tn he tr fd po : Nat} {m0 m6 m7 m8 m9 m10 m12 m13 m14 m15 m22 m24 m25 m27 m28 m30 m36 m38 m40 m41 m42 m48 m52 m53 : Int32} {m11 m26 : Int64} {gha glw gst gfo gdr gro gct gse gth gcn gbe gdu gdb : Nat → Int32}  {ga : Int32} (hm_mm : mm ∈ L) (hm_ha : ha ∈ L) (hm_dr : dr ∈ L) (hm_ro : ro ∈ L) (hm_lw : lw ∈ L) (hm_st : st ∈ L) (hm_ct : ct ∈ L) (hm_se : se ∈ L) (hm_th : th ∈ L) (hm_cn : cn ∈ L) (hm_db : db ∈ L) (hm_be : be ∈ L) (hm_du : du ∈ L) (hm_fo : fo ∈ L) (hf_mm : f mm = .inr (10, [.int m0, .ref wd, .ref my, .ref ce, .ref mv, .ref ta, .int m6, .int m7, .int m8, .int m9, .int m10, .long m11, .int m12, .int m13, .int m14, .int m15, .ref li, .ref ha, .ref lw, .ref st, .ref fo, .ref dr, .int m22, .ref ik, .int m24, .int m25, .long m26, .int m27, .int m28, .ref ro, .int m30, .ref ct, .ref se, .ref th, .ref cn, .ref be, .int m36, .ref du, .int m38, .ref db, .int m40, .int m41, .int m42, .ref pn, .ref wg, .ref wh, .ref tn, .ref he, .int m48, .ref tr, .ref fd, .ref po, .int m52, .int m53])) (hf_ha : f ha = .inl (cy 1, 30, .inl gha)) (hf_dr : f dr = .inl (cy 1, 520, .inl gdr)) (hf_ro : f ro = .inl (cy 1, 13, .inl gro)) (hf_lw : f lw = .inl (cy 1, 25, .inl glw)) (hf_st : f st = .inl (cy 1, 20, .inl gst)) (hf_ct : f ct = .inl (cy 1, 4, .inl gct)) (hf_se : f se = .inl (cy 1, 36, .inl gse)) (hf_th : f th = .inl (cy 1, 36, .inl gth)) (hf_cn : f cn = .inl (cy 1, 36, .inl gcn)) (hf_db : f db = .inl (cy 1, 5, .inl gdb)) (hf_be : f be = .inl (cy 1, 2574, .inl gbe)) (hf_du : f du = .inl (cy 1, 5200, .inl gdu)) (hf_fo : f fo = .inl (cy 1, 180, .inl gfo)) (ne_se_th : se ≠ th) (ne_se_cn : se ≠ cn) (ne_th_cn : th ≠ cn) (hq_ha : ∀ j : Nat, q_has j (gha j)) (hq_dr : ∀ j : Nat, q_drv j (gdr j)) (hq_ro : ∀ j : Nat, q_12 j (gro j)) (hq_lw : ∀ j : Nat, q_law j (glw j)) (hq_st : ∀ j : Nat, q_law j (gst j)) (hq_ct : ∀ j : Nat, q_law j (gct j)) (hq_be : ∀ j : Nat, q_be j (gbe j)) (hq_du : ∀ j : Nat, q_du j (gdu j)) (hxx : 0 ≤ m26.toInt ∧ m26.toInt < 2147483648) (hea : ∀ m : Nat, m < 5 → z_ea gha glw m) : Met l yX10_left (z_ws yX10_left cX10_left 3 (some .int)) (z_R 7 0 0) (va_Pc [.ref mm, .int ga] (z_Pre D vwCl (z_KK D cy adK adV) L f sz)) (z_Qi D vwCl (fun r u => L = u.1 ∧ (∀ b ∈ L, b ≠ mm → b ≠ ro → b ≠ ct → b ≠ se → b ≠ th → b ≠ cn → b ≠ db → b ≠ be → b ≠ du → u.2 b = f b) ∧ (∃ (o2 mn2 i2 u2 n2 d2 y2 : Int32) (x2 : Int64) (nro nct nse nth ncn ndb nbe ndu : Nat → Int32), (u.2 mm = .inr (10, [.int 0, .ref wd, .ref my, .ref ce, .ref mv, .ref ta, .int m6, .int m7, .int m8, .int m9, .int m10, .long m11, .int m12, .int m13, .int m14, .int m15, .ref li, .ref ha, .ref lw, .ref st, .ref fo, .ref dr, .int m22, .ref ik, .int o2, .int mn2, .long x2, .int i2, .int u2, .ref ro, .int n2, .ref ct, .ref se, .ref th, .ref cn, .ref be, .int y2, .ref du, .int d2, .ref db, .int m40, .int m41, .int m42, .ref pn, .ref wg, .ref wh, .ref tn, .ref he, .int m48, .ref tr, .ref fd, .ref po, .int m52, .int m53])) ∧ (u.2 ro = .inl (cy 1, 13, .inl nro)) ∧ (u.2 ct = .inl (cy 1, 4, .inl nct)) ∧ (u.2 se = .inl (cy 1, 36, .inl nse)) ∧ (u.2 th = .inl (cy 1, 36, .inl nth)) ∧ (u.2 cn = .inl (cy 1, 36, .inl ncn)) ∧ (u.2 db = .inl (cy 1, 5, .inl ndb)) ∧ (u.2 be = .inl (cy 1, 2574, .inl nbe)) ∧ (u.2 du = .inl (cy 1, 5200, .inl ndu)) ∧ (∀ j : Nat, q_12 j (nro j)) ∧ (∀ j : Nat, q_law j (nct j)) ∧ (∀ j : Nat, q_be j (nbe j)) ∧ (∀ j : Nat, q_du j (ndu j)) ∧ (0 ≤ x2.toInt ∧ x2.toInt < 2147483648))) L sz) 0 0 (z_A L sz) := by
  refine z_met (cc := cX10_left) (maxL := 3) (ret := (some .int)) (lv := [(0, .ref mm), (1, .int ga)]) (by decide) rfl (Nat.le_of_ble_eq_true rfl) rfl ?_
  intro p e s m below meth c ls hx hb hr hlk hml hown hnm hts hKK hA hw hl
  have hK := hKK.1.1
  have hown : s.vm.findClass RX10 = some m.cls := hown
  have hT : ∀ w ∈ lw_all, w.before ([.ref mm, .int ga] : List Value).toArray s = true := fun w h => hts w (z_cons w h)
  have hsub : L = L := rfl
  have hfr : ∀ b ∈ L, b ≠ mm → b ≠ ro → b ≠ ct → b ≠ se → b ≠ th → b ≠ cn → b ≠ db → b ≠ be → b ≠ du → f b = f b := fun _ _ _ _ _ _ _ _ _ _ _ => rfl
  have hh0 := (hq_ha 0).1 rfl
  have hh1 := (hq_ha 1).2.1 rfl
  have hh2 := (hq_ha 2).2.2.1 rfl
  have hh3 := (hq_ha 3).2.2.2 rfl
  have hea0 : 2 ≤ (glw 3).toInt ∨ ((gha 3).toInt = 0 ∧ (gha 0).toInt = 0) := hea 0 (by decide)
  have hz_m2 : (-2 : Int32).toInt = -2 := by decide
  have hz_m1 : (-1 : Int32).toInt = -1 := by decide
  have hz_0 : (0 : Int32).toInt = 0 := by decide
  refine lv_aload_n hx hb dX10_left_0 rfl (lv_at hl 0 rfl) ?_
  refine lv_iconst (v := 0) hx hb dX10_left_1 (by decide) ?_
  refine z_put (C := RX10) (T := TX10) (N := 54) (ci := 10) (v := .int 0) (fs' := [.int 0, .ref wd, .ref my, .ref ce, .ref mv, .ref ta, .int m6, .int m7, .int m8, .int m9, .int m10, .long m11, .int m12, .int m13, .int m14, .int m15, .ref li, .ref ha, .ref lw, .ref st, .ref fo, .ref dr, .int m22, .ref ik, .int m24, .int m25, .long m26, .int m27, .int m28, .ref ro, .int m30, .ref ct, .ref se, .ref th, .ref cn, .ref be, .int m36, .ref du, .int m38, .ref db, .int m40, .int m41, .int m42, .ref pn, .ref wg, .ref wh, .ref tn, .ref he, .int m48, .ref tr, .ref fd, .ref po, .int m52, .int m53]) hx hb hT zin_X10 tyX10_ok nmX10 hown hK hw hm_mm hf_mm rfl 0 (by decide) (hT _ kw_1168) rfl rfl rfl (Nat.le_of_ble_eq_true rfl) rfl dX10_left_2 (fun H locs hw => ?_)
  obtain ⟨f1, e_f1⟩ : ∃ z, z = va_up f mm (.inr (10, [.int 0, .ref wd, .ref my, .ref ce, .ref mv, .ref ta, .int m6, .int m7, .int m8, .int m9, .int m10, .long m11, .int m12, .int m13, .int m14, .int m15, .ref li, .ref ha, .ref lw, .ref st, .ref fo, .ref dr, .int m22, .ref ik, .int m24, .int m25, .long m26, .int m27, .int m28, .ref ro, .int m30, .ref ct, .ref se, .ref th, .ref cn, .ref be, .int m36, .ref du, .int m38, .ref db, .int m40, .int m41, .int m42, .ref pn, .ref wg, .ref wh, .ref tn, .ref he, .int m48, .ref tr, .ref fd, .ref po, .int m52, .int m53])) := ⟨_, rfl⟩
  rw [← e_f1] at hw
  have hf_ha : f1 ha = .inl (cy 1, 30, .inl gha) := (congrFun e_f1 ha).trans (z_up_ne (z_tne hf_ha hf_mm (m := 340) (n := 10) rfl rfl (by decide)) hf_ha)
  have hf_dr : f1 dr = .inl (cy 1, 520, .inl gdr) := (congrFun e_f1 dr).trans (z_up_ne (z_tne hf_dr hf_mm (m := 4260) (n := 10) rfl rfl (by decide)) hf_dr)
  have hf_ro : f1 ro = .inl (cy 1, 13, .inl gro) := (congrFun e_f1 ro).trans (z_up_ne (z_tne hf_ro hf_mm (m := 204) (n := 10) rfl rfl (by decide)) hf_ro)
  have hf_lw : f1 lw = .inl (cy 1, 25, .inl glw) := (congrFun e_f1 lw).trans (z_up_ne (z_tne hf_lw hf_mm (m := 300) (n := 10) rfl rfl (by decide)) hf_lw)
  have hf_st : f1 st = .inl (cy 1, 20, .inl gst) := (congrFun e_f1 st).trans (z_up_ne (z_tne hf_st hf_mm (m := 260) (n := 10) rfl rfl (by decide)) hf_st)
  have hf_ct : f1 ct = .inl (cy 1, 4, .inl gct) := (congrFun e_f1 ct).trans (z_up_ne (z_tne hf_ct hf_mm (m := 132) (n := 10) rfl rfl (by decide)) hf_ct)
  have hf_se : f1 se = .inl (cy 1, 36, .inl gse) := (congrFun e_f1 se).trans (z_up_ne (z_tne hf_se hf_mm (m := 388) (n := 10) rfl rfl (by decide)) hf_se)
  have hf_th : f1 th = .inl (cy 1, 36, .inl gth) := (congrFun e_f1 th).trans (z_up_ne (z_tne hf_th hf_mm (m := 388) (n := 10) rfl rfl (by decide)) hf_th)
  have hf_cn : f1 cn = .inl (cy 1, 36, .inl gcn) := (congrFun e_f1 cn).trans (z_up_ne (z_tne hf_cn hf_mm (m := 388) (n := 10) rfl rfl (by decide)) hf_cn)
  have hf_db : f1 db = .inl (cy 1, 5, .inl gdb) := (congrFun e_f1 db).trans (z_up_ne (z_tne hf_db hf_mm (m := 140) (n := 10) rfl rfl (by decide)) hf_db)
  have hf_be : f1 be = .inl (cy 1, 2574, .inl gbe) := (congrFun e_f1 be).trans (z_up_ne (z_tne hf_be hf_mm (m := 20692) (n := 10) rfl rfl (by decide)) hf_be)
  have hf_du : f1 du = .inl (cy 1, 5200, .inl gdu) := (congrFun e_f1 du).trans (z_up_ne (z_tne hf_du hf_mm (m := 41700) (n := 10) rfl rfl (by decide)) hf_du)
  have hf_fo : f1 fo = .inl (cy 1, 180, .inl gfo) := (congrFun e_f1 fo).trans (z_up_ne (z_tne hf_fo hf_mm (m := 1540) (n := 10) rfl rfl (by decide)) hf_fo)
  have hf_mm : f1 mm = .inr (10, [.int 0, .ref wd, .ref my, .ref ce, .ref mv, .ref ta, .int m6, .int m7, .int m8, .int m9, .int m10, .long m11, .int m12, .int m13, .int m14, .int m15, .ref li, .ref ha, .ref lw, .ref st, .ref fo, .ref dr, .int m22, .ref ik, .int m24, .int m25, .long m26, .int m27, .int m28, .ref ro, .int m30, .ref ct, .ref se, .ref th, .ref cn, .ref be, .int m36, .ref du, .int m38, .ref db, .int m40, .int m41, .int m42, .ref pn, .ref wg, .ref wh, .ref tn, .ref he, .int m48, .ref tr, .ref fd, .ref po, .int m52, .int m53]) := (congrFun e_f1 mm).trans z_up_self
  have hfr : ∀ b ∈ L, b ≠ mm → b ≠ ro → b ≠ ct → b ≠ se → b ≠ th → b ≠ cn → b ≠ db → b ≠ be → b ≠ du → f1 b = f b := fun b hb h0 h1 h2 h3 h4 h5 h6 h7 h8 => (congrFun e_f1 b).trans (z_up_ne h0 (hfr b hb h0 h1 h2 h3 h4 h5 h6 h7 h8))
  refine lv_aload_n hx hb dX10_left_5 rfl (lv_at hl 0 rfl) ?_
  refine lv_iload_n hx hb dX10_left_6 rfl (lv_at hl 1 rfl) ?_
  refine z_calliV (cells := 0) (slots := 0) (b := mm) (As := [.int ga]) (rest := []) (ci := 10) (q0 := (RX10, TX10, 54)) ⟨hx, hb, hml, hown, hT⟩ (c_X10_isGap l hm_mm hm_ha hf_mm hf_ha hq_ha) (cwV 1 hT (z_goodV (fun _ h => h) kw_1519 kw_1521 kw_55 kw_96 kw_1522) rfl rfl rfl (by decide +kernel) ⟨by decide, by decide⟩) z_mv hKK hK hw hA hm_mm hf_mm rfl rfl rfl hl.1 rfl (Nat.le_of_ble_eq_true rfl) dX10_left_7 ⟨by decide, by decide⟩ (fun r2 u H locs hp hw => ?_)
  obtain ⟨rfl, hp⟩ := hp
  have hw : z_H D vwCl (z_A L sz) s.heap L f1 H locs := hw
  rcases hp with ⟨rfl, h3⟩ | ⟨rfl, h3⟩
  · skip
    refine z_if_ne (tgt := 16) hx hb (show (1 : Int32).toInt = 1 by decide) dX10_left_10 (by decide) (fun _ => ?_) (fun h => absurd h (by decide))
    refine lv_aload_n hx hb dX10_left_16 rfl (lv_at hl 0 rfl) ?_
    refine z_callvV (cells := 0) (slots := 0) (b := mm) (As := []) (rest := []) (ci := 10) (q0 := (RX10, TX10, 54)) ⟨hx, hb, hml, hown, hT⟩ (c_X10_asTold l hm_mm hm_ha hm_dr hm_ro hm_lw hm_st hm_ct hm_se hm_th hm_cn hm_db hm_be hm_du hm_fo hf_mm hf_ha hf_dr hf_ro hf_lw hf_st hf_ct hf_se hf_th hf_cn hf_db hf_be hf_du hf_fo ne_se_th ne_se_cn ne_th_cn hq_ha hq_dr hq_ro hq_lw hq_st hq_ct hq_be hq_du (by first | omega | decide | assumption) hea) (cwV 0 hT (z_goodV (fun _ h => h) kw_1587 kw_1589 kw_68 kw_96 kw_1590) rfl rfl rfl (by decide +kernel) ⟨by decide, by decide⟩) z_mv hKK hK hw hA hm_mm hf_mm rfl rfl rfl hl.1 rfl (Nat.le_of_ble_eq_true rfl) dX10_left_17 ⟨by decide, by decide⟩ (fun u H locs hp hw => ?_)
    obtain ⟨L4, f5⟩ := u
    obtain ⟨hsb, hfm, mn2_6, n2_7, d2_8, y2_9, x2_10, nro_11, nct_12, nse_13, nth_14, ncn_15, ndb_16, nbe_17, ndu_18, ha_0, ha_1, ha_2, ha_3, ha_4, ha_5, ha_6, ha_7, ha_8, hq_ro, hq_ct, hq_be, hq_du, hp⟩ := hp
    have hsb : L = L4 := hsb
    subst hsb
    have hsb : ∀ b ∈ L, b ∈ L := fun _ h => h
    have hw : z_H D vwCl (z_A L sz) s.heap L f5 H locs := hw
    have hfr : ∀ b ∈ L, b ≠ mm → b ≠ ro → b ≠ ct → b ≠ se → b ≠ th → b ≠ cn → b ≠ db → b ≠ be → b ≠ du → f5 b = f b := fun b hb h0 h1 h2 h3 h4 h5 h6 h7 h8 => (hfm b hb h0 h1 h2 h3 h4 h5 h6 h7 h8).trans (hfr b hb h0 h1 h2 h3 h4 h5 h6 h7 h8)
    have hf_ha : f5 ha = .inl (cy 1, 30, .inl gha) := (hfm ha hm_ha (z_tne hf_ha hf_mm (m := 340) (n := 10) rfl rfl (by decide)) (z_tne hf_ha hf_ro (m := 340) (n := 204) rfl rfl (by decide)) (z_tne hf_ha hf_ct (m := 340) (n := 132) rfl rfl (by decide)) (z_tne hf_ha hf_se (m := 340) (n := 388) rfl rfl (by decide)) (z_tne hf_ha hf_th (m := 340) (n := 388) rfl rfl (by decide)) (z_tne hf_ha hf_cn (m := 340) (n := 388) rfl rfl (by decide)) (z_tne hf_ha hf_db (m := 340) (n := 140) rfl rfl (by decide)) (z_tne hf_ha hf_be (m := 340) (n := 20692) rfl rfl (by decide)) (z_tne hf_ha hf_du (m := 340) (n := 41700) rfl rfl (by decide))).trans hf_ha
    have hf_dr : f5 dr = .inl (cy 1, 520, .inl gdr) := (hfm dr hm_dr (z_tne hf_dr hf_mm (m := 4260) (n := 10) rfl rfl (by decide)) (z_tne hf_dr hf_ro (m := 4260) (n := 204) rfl rfl (by decide)) (z_tne hf_dr hf_ct (m := 4260) (n := 132) rfl rfl (by decide)) (z_tne hf_dr hf_se (m := 4260) (n := 388) rfl rfl (by decide)) (z_tne hf_dr hf_th (m := 4260) (n := 388) rfl rfl (by decide)) (z_tne hf_dr hf_cn (m := 4260) (n := 388) rfl rfl (by decide)) (z_tne hf_dr hf_db (m := 4260) (n := 140) rfl rfl (by decide)) (z_tne hf_dr hf_be (m := 4260) (n := 20692) rfl rfl (by decide)) (z_tne hf_dr hf_du (m := 4260) (n := 41700) rfl rfl (by decide))).trans hf_dr
    have hf_lw : f5 lw = .inl (cy 1, 25, .inl glw) := (hfm lw hm_lw (z_tne hf_lw hf_mm (m := 300) (n := 10) rfl rfl (by decide)) (z_tne hf_lw hf_ro (m := 300) (n := 204) rfl rfl (by decide)) (z_tne hf_lw hf_ct (m := 300) (n := 132) rfl rfl (by decide)) (z_tne hf_lw hf_se (m := 300) (n := 388) rfl rfl (by decide)) (z_tne hf_lw hf_th (m := 300) (n := 388) rfl rfl (by decide)) (z_tne hf_lw hf_cn (m := 300) (n := 388) rfl rfl (by decide)) (z_tne hf_lw hf_db (m := 300) (n := 140) rfl rfl (by decide)) (z_tne hf_lw hf_be (m := 300) (n := 20692) rfl rfl (by decide)) (z_tne hf_lw hf_du (m := 300) (n := 41700) rfl rfl (by decide))).trans hf_lw
    have hf_st : f5 st = .inl (cy 1, 20, .inl gst) := (hfm st hm_st (z_tne hf_st hf_mm (m := 260) (n := 10) rfl rfl (by decide)) (z_tne hf_st hf_ro (m := 260) (n := 204) rfl rfl (by decide)) (z_tne hf_st hf_ct (m := 260) (n := 132) rfl rfl (by decide)) (z_tne hf_st hf_se (m := 260) (n := 388) rfl rfl (by decide)) (z_tne hf_st hf_th (m := 260) (n := 388) rfl rfl (by decide)) (z_tne hf_st hf_cn (m := 260) (n := 388) rfl rfl (by decide)) (z_tne hf_st hf_db (m := 260) (n := 140) rfl rfl (by decide)) (z_tne hf_st hf_be (m := 260) (n := 20692) rfl rfl (by decide)) (z_tne hf_st hf_du (m := 260) (n := 41700) rfl rfl (by decide))).trans hf_st
    have hf_fo : f5 fo = .inl (cy 1, 180, .inl gfo) := (hfm fo hm_fo (z_tne hf_fo hf_mm (m := 1540) (n := 10) rfl rfl (by decide)) (z_tne hf_fo hf_ro (m := 1540) (n := 204) rfl rfl (by decide)) (z_tne hf_fo hf_ct (m := 1540) (n := 132) rfl rfl (by decide)) (z_tne hf_fo hf_se (m := 1540) (n := 388) rfl rfl (by decide)) (z_tne hf_fo hf_th (m := 1540) (n := 388) rfl rfl (by decide)) (z_tne hf_fo hf_cn (m := 1540) (n := 388) rfl rfl (by decide)) (z_tne hf_fo hf_db (m := 1540) (n := 140) rfl rfl (by decide)) (z_tne hf_fo hf_be (m := 1540) (n := 20692) rfl rfl (by decide)) (z_tne hf_fo hf_du (m := 1540) (n := 41700) rfl rfl (by decide))).trans hf_fo
    have hf_mm : f5 mm = .inr (10, [.int 0, .ref wd, .ref my, .ref ce, .ref mv, .ref ta, .int m6, .int m7, .int m8, .int m9, .int m10, .long m11, .int m12, .int m13, .int m14, .int m15, .ref li, .ref ha, .ref lw, .ref st, .ref fo, .ref dr, .int m22, .ref ik, .int (-1), .int mn2_6, .long x2_10, .int 0, .int 1000, .ref ro, .int n2_7, .ref ct, .ref se, .ref th, .ref cn, .ref be, .int y2_9, .ref du, .int d2_8, .ref db, .int m40, .int m41, .int m42, .ref pn, .ref wg, .ref wh, .ref tn, .ref he, .int m48, .ref tr, .ref fd, .ref po, .int m52, .int m53]) := ha_0
    have hf_ro : f5 ro = .inl (cy 1, 13, .inl nro_11) := ha_1
    have hf_ct : f5 ct = .inl (cy 1, 4, .inl nct_12) := ha_2
    have hf_se : f5 se = .inl (cy 1, 36, .inl nse_13) := ha_3
    have hf_th : f5 th = .inl (cy 1, 36, .inl nth_14) := ha_4
    have hf_cn : f5 cn = .inl (cy 1, 36, .inl ncn_15) := ha_5
    have hf_db : f5 db = .inl (cy 1, 5, .inl ndb_16) := ha_6
    have hf_be : f5 be = .inl (cy 1, 2574, .inl nbe_17) := ha_7
    have hf_du : f5 du = .inl (cy 1, 5200, .inl ndu_18) := ha_8
    have hto := hp
    refine lv_aload_n hx hb dX10_left_20 rfl (lv_at hl 0 rfl) ?_
    refine z_get (C := RX10) (T := TX10) (N := 54) (ci := 10) (v := .ref lw) hx hb hT zin_X10 hown hK hw hm_mm hf_mm rfl 18 (by decide) (hT _ kw_1186) rfl dX10_left_21 ?_
    refine lv_iconst (v := 3) hx hb dX10_left_24 (by decide) ?_
    refine z_iald hx hb hK hw 1 hm_lw hf_lw rfl (z_ix (show (3 : Int32).toInt = 3 by decide) (by decide)) dX10_left_25 ?_
    refine lv_topi (fun w19 e_w19 => ?_)
    have hv_w19 : 0 ≤ w19.toInt ∧ w19.toInt ≤ 999 := by rw [e_w19]; exact hq_lw _
    refine lv_aload_n hx hb dX10_left_26 rfl (lv_at hl 0 rfl) ?_
    refine z_get (C := RX10) (T := TX10) (N := 54) (ci := 10) (v := .ref ct) hx hb hT zin_X10 hown hK hw hm_mm hf_mm rfl 31 (by decide) (hT _ kw_1199) rfl dX10_left_27 ?_
    refine lv_aload_n hx hb dX10_left_30 rfl (lv_at hl 0 rfl) ?_
    refine lv_iload_n hx hb dX10_left_31 rfl (lv_at hl 1 rfl) ?_
    refine z_calliV (cells := 0) (slots := 0) (b := mm) (As := [.int ga]) (rest := [.ref ct, .int w19]) (ci := 10) (q0 := (RX10, TX10, 54)) ⟨hx, hb, hml, hown, hT⟩ (c_X10_counterOf l hm_mm hm_lw hf_mm hf_lw hq_lw (by first | omega | decide | assumption)) (cwV 1 hT (z_goodV (fun _ h => h) kw_1579 kw_1581 kw_67 kw_96 kw_1582) rfl rfl rfl (by decide +kernel) ⟨by decide, by decide⟩) z_mv hKK hK hw hA hm_mm hf_mm rfl rfl rfl hl.1 rfl (Nat.le_of_ble_eq_true rfl) dX10_left_32 ⟨by decide, by decide⟩ (fun r20 u H locs hp hw => ?_)
    obtain ⟨rfl, hp⟩ := hp
    have hw : z_H D vwCl (z_A L sz) s.heap L f5 H locs := hw
    have hq21 := hp
    refine z_iald hx hb hK hw 1 hm_ct hf_ct rfl (z_ix rfl (by omega)) dX10_left_35 ?_
    refine lv_topi (fun w22 e_w22 => ?_)
    have hv_w22 : 0 ≤ w22.toInt ∧ w22.toInt ≤ 999 := by rw [e_w22]; exact hq_ct _
    refine lv_isub hx hb dX10_left_36 ?_
    refine lv_topi (fun w23 e_w23 => ?_)
    refine lv_istore_n (lv' := [(2, .int w23), (0, .ref mm), (1, .int ga)]) hx hb dX10_left_37 rfl hl (by decide) rfl (fun ls hl => ?_)
    refine lv_iload_n hx hb dX10_left_38 rfl (lv_at hl 0 rfl) ?_
    refine lv_iconst (v := 1) hx hb dX10_left_39 (by decide) ?_
    refine z_icmp_ge (tgt := 47) hx hb rfl (show (1 : Int32).toInt = 1 by decide) dX10_left_40 (by decide) (fun c24 => ?_) (fun c24 => ?_)
    · skip
      refine lv_iload_n hx hb dX10_left_47 rfl (lv_at hl 0 rfl) ?_
      exact z_iret hx hb hr hlk (by decide) (by decide) hw (⟨hsub, hfr, (-1), mn2_6, 0, 1000, n2_7, d2_8, y2_9, x2_10, nro_11, nct_12, nse_13, nth_14, ncn_15, ndb_16, nbe_17, ndu_18, hf_mm, hf_ro, hf_ct, hf_se, hf_th, hf_cn, hf_db, hf_be, hf_du, hq_ro, hq_ct, hq_be, hq_du, by omega⟩) dX10_left_48
    · skip
      refine lv_iconst (v := 1) hx hb dX10_left_43 (by decide) ?_
      refine lv_goto (tgt := 48) hx hb dX10_left_44 (by decide) ?_
      exact z_iret hx hb hr hlk (by decide) (by decide) hw (⟨hsub, hfr, (-1), mn2_6, 0, 1000, n2_7, d2_8, y2_9, x2_10, nro_11, nct_12, nse_13, nth_14, ncn_15, ndb_16, nbe_17, ndu_18, hf_mm, hf_ro, hf_ct, hf_se, hf_th, hf_cn, hf_db, hf_be, hf_du, hq_ro, hq_ct, hq_be, hq_du, by omega⟩) dX10_left_48
  · skip
    refine z_if_ne (tgt := 16) hx hb (show (0 : Int32).toInt = 0 by decide) dX10_left_10 (by decide) (fun h => absurd h (by decide)) (fun _ => ?_)
    refine lv_bipush (v := (-2)) hx hb dX10_left_13 (by decide) ?_
    exact z_iret hx hb hr hlk (by decide) (by decide) hw (⟨hsub, hfr, m24, m25, m27, m28, m30, m38, m36, m26, gro, gct, gse, gth, gcn, gdb, gbe, gdu, hf_mm, hf_ro, hf_ct, hf_se, hf_th, hf_cn, hf_db, hf_be, hf_du, hq_ro, hq_ct, hq_be, hq_du, by omega⟩) dX10_left_15

set_option maxHeartbeats 2000000 in
set_option maxRecDepth 100000 in
theorem c_X10_ring (l : Launch) {D : va_G} {cy : Nat → ClassId} {L : List Nat} {f : Nat → va_E} {sz : Nat} {adK adV : Nat → Nat} {mm wd my ce mv ta li ha lw st fo dr ik ro ct se th cn be du db pn wg wh tn he tr fd po : Nat} {m0 m6 m7 m8 m9 m10 m12 m13 m14 m15 m22 m24 m25 m27 m28 m30 m36 m38 m40 m41 m42 m48 m52 m53 : Int32} {m11 m26 : Int64} {gha glw gst gfo gdr gro gct gse gth gcn gbe gdu gdb : Nat → Int32}  {ga nn rr : Int32} (hm_mm : mm ∈ L) (hm_ha : ha ∈ L) (hm_dr : dr ∈ L) (hm_ro : ro ∈ L) (hm_lw : lw ∈ L) (hm_st : st ∈ L) (hm_ct : ct ∈ L) (hm_se : se ∈ L) (hm_th : th ∈ L) (hm_cn : cn ∈ L) (hm_db : db ∈ L) (hm_be : be ∈ L) (hm_du : du ∈ L) (hm_fo : fo ∈ L) (hf_mm : f mm = .inr (10, [.int m0, .ref wd, .ref my, .ref ce, .ref mv, .ref ta, .int m6, .int m7, .int m8, .int m9, .int m10, .long m11, .int m12, .int m13, .int m14, .int m15, .ref li, .ref ha, .ref lw, .ref st, .ref fo, .ref dr, .int m22, .ref ik, .int m24, .int m25, .long m26, .int m27, .int m28, .ref ro, .int m30, .ref ct, .ref se, .ref th, .ref cn, .ref be, .int m36, .ref du, .int m38, .ref db, .int m40, .int m41, .int m42, .ref pn, .ref wg, .ref wh, .ref tn, .ref he, .int m48, .ref tr, .ref fd, .ref po, .int m52, .int m53])) (hf_ha : f ha = .inl (cy 1, 30, .inl gha)) (hf_dr : f dr = .inl (cy 1, 520, .inl gdr)) (hf_ro : f ro = .inl (cy 1, 13, .inl gro)) (hf_lw : f lw = .inl (cy 1, 25, .inl glw)) (hf_st : f st = .inl (cy 1, 20, .inl gst)) (hf_ct : f ct = .inl (cy 1, 4, .inl gct)) (hf_se : f se = .inl (cy 1, 36, .inl gse)) (hf_th : f th = .inl (cy 1, 36, .inl gth)) (hf_cn : f cn = .inl (cy 1, 36, .inl gcn)) (hf_db : f db = .inl (cy 1, 5, .inl gdb)) (hf_be : f be = .inl (cy 1, 2574, .inl gbe)) (hf_du : f du = .inl (cy 1, 5200, .inl gdu)) (hf_fo : f fo = .inl (cy 1, 180, .inl gfo)) (ne_se_th : se ≠ th) (ne_se_cn : se ≠ cn) (ne_th_cn : th ≠ cn) (hq_ha : ∀ j : Nat, q_has j (gha j)) (hq_dr : ∀ j : Nat, q_drv j (gdr j)) (hq_ro : ∀ j : Nat, q_12 j (gro j)) (hq_lw : ∀ j : Nat, q_law j (glw j)) (hq_st : ∀ j : Nat, q_law j (gst j)) (hq_ct : ∀ j : Nat, q_law j (gct j)) (hq_be : ∀ j : Nat, q_be j (gbe j)) (hq_du : ∀ j : Nat, q_du j (gdu j)) (hxx : 0 ≤ m26.toInt ∧ m26.toInt < 2147483648) (hea : ∀ m : Nat, m < 5 → z_ea gha glw m) : Met l yX10_ring (z_ws yX10_ring cX10_ring 7 (some .int)) (z_R 7 0 0) (va_Pc [.ref mm, .int ga, .int nn, .int rr] (z_Pre D vwCl (z_KK D cy adK adV) L f sz)) (z_Qi D vwCl (fun r u => L = u.1 ∧ (∀ b ∈ L, b ≠ mm → b ≠ ro → b ≠ ct → b ≠ se → b ≠ th → b ≠ cn → b ≠ db → b ≠ be → b ≠ du → u.2 b = f b) ∧ (∃ (o2 mn2 i2 u2 n2 d2 y2 : Int32) (x2 : Int64) (nro nct nse nth ncn ndb nbe ndu : Nat → Int32), (u.2 mm = .inr (10, [.int 0, .ref wd, .ref my, .ref ce, .ref mv, .ref ta, .int m6, .int m7, .int m8, .int m9, .int m10, .long m11, .int m12, .int m13, .int m14, .int m15, .ref li, .ref ha, .ref lw, .ref st, .ref fo, .ref dr, .int m22, .ref ik, .int o2, .int mn2, .long x2, .int i2, .int u2, .ref ro, .int n2, .ref ct, .ref se, .ref th, .ref cn, .ref be, .int y2, .ref du, .int d2, .ref db, .int m40, .int m41, .int m42, .ref pn, .ref wg, .ref wh, .ref tn, .ref he, .int m48, .ref tr, .ref fd, .ref po, .int m52, .int m53])) ∧ (u.2 ro = .inl (cy 1, 13, .inl nro)) ∧ (u.2 ct = .inl (cy 1, 4, .inl nct)) ∧ (u.2 se = .inl (cy 1, 36, .inl nse)) ∧ (u.2 th = .inl (cy 1, 36, .inl nth)) ∧ (u.2 cn = .inl (cy 1, 36, .inl ncn)) ∧ (u.2 db = .inl (cy 1, 5, .inl ndb)) ∧ (u.2 be = .inl (cy 1, 2574, .inl nbe)) ∧ (u.2 du = .inl (cy 1, 5200, .inl ndu)) ∧ (∀ j : Nat, q_12 j (nro j)) ∧ (∀ j : Nat, q_law j (nct j)) ∧ (∀ j : Nat, q_be j (nbe j)) ∧ (∀ j : Nat, q_du j (ndu j)) ∧ (0 ≤ x2.toInt ∧ x2.toInt < 2147483648))) L sz) 0 0 (z_A L sz) := by
  refine z_met (cc := cX10_ring) (maxL := 7) (ret := (some .int)) (lv := [(0, .ref mm), (1, .int ga), (2, .int nn), (3, .int rr)]) (by decide) rfl (Nat.le_of_ble_eq_true rfl) rfl ?_
  intro p e s m below meth c ls hx hb hr hlk hml hown hnm hts hKK hA hw hl
  have hK := hKK.1.1
  have hown : s.vm.findClass RX10 = some m.cls := hown
  have hT : ∀ w ∈ lw_all, w.before ([.ref mm, .int ga, .int nn, .int rr] : List Value).toArray s = true := fun w h => hts w (z_cons w h)
  have hsub : L = L := rfl
  have hfr : ∀ b ∈ L, b ≠ mm → b ≠ ro → b ≠ ct → b ≠ se → b ≠ th → b ≠ cn → b ≠ db → b ≠ be → b ≠ du → f b = f b := fun _ _ _ _ _ _ _ _ _ _ _ => rfl
  have hh0 := (hq_ha 0).1 rfl
  have hh1 := (hq_ha 1).2.1 rfl
  have hh2 := (hq_ha 2).2.2.1 rfl
  have hh3 := (hq_ha 3).2.2.2 rfl
  have hea0 : 2 ≤ (glw 3).toInt ∨ ((gha 3).toInt = 0 ∧ (gha 0).toInt = 0) := hea 0 (by decide)
  have hz_m2 : (-2 : Int32).toInt = -2 := by decide
  have hz_m1 : (-1 : Int32).toInt = -1 := by decide
  have hz_0 : (0 : Int32).toInt = 0 := by decide
  refine lv_aload_n hx hb dX10_ring_0 rfl (lv_at hl 0 rfl) ?_
  refine lv_iconst (v := 0) hx hb dX10_ring_1 (by decide) ?_
  refine z_put (C := RX10) (T := TX10) (N := 54) (ci := 10) (v := .int 0) (fs' := [.int 0, .ref wd, .ref my, .ref ce, .ref mv, .ref ta, .int m6, .int m7, .int m8, .int m9, .int m10, .long m11, .int m12, .int m13, .int m14, .int m15, .ref li, .ref ha, .ref lw, .ref st, .ref fo, .ref dr, .int m22, .ref ik, .int m24, .int m25, .long m26, .int m27, .int m28, .ref ro, .int m30, .ref ct, .ref se, .ref th, .ref cn, .ref be, .int m36, .ref du, .int m38, .ref db, .int m40, .int m41, .int m42, .ref pn, .ref wg, .ref wh, .ref tn, .ref he, .int m48, .ref tr, .ref fd, .ref po, .int m52, .int m53]) hx hb hT zin_X10 tyX10_ok nmX10 hown hK hw hm_mm hf_mm rfl 0 (by decide) (hT _ kw_1168) rfl rfl rfl (Nat.le_of_ble_eq_true rfl) rfl dX10_ring_2 (fun H locs hw => ?_)
  obtain ⟨f1, e_f1⟩ : ∃ z, z = va_up f mm (.inr (10, [.int 0, .ref wd, .ref my, .ref ce, .ref mv, .ref ta, .int m6, .int m7, .int m8, .int m9, .int m10, .long m11, .int m12, .int m13, .int m14, .int m15, .ref li, .ref ha, .ref lw, .ref st, .ref fo, .ref dr, .int m22, .ref ik, .int m24, .int m25, .long m26, .int m27, .int m28, .ref ro, .int m30, .ref ct, .ref se, .ref th, .ref cn, .ref be, .int m36, .ref du, .int m38, .ref db, .int m40, .int m41, .int m42, .ref pn, .ref wg, .ref wh, .ref tn, .ref he, .int m48, .ref tr, .ref fd, .ref po, .int m52, .int m53])) := ⟨_, rfl⟩
  rw [← e_f1] at hw
  have hf_ha : f1 ha = .inl (cy 1, 30, .inl gha) := (congrFun e_f1 ha).trans (z_up_ne (z_tne hf_ha hf_mm (m := 340) (n := 10) rfl rfl (by decide)) hf_ha)
  have hf_dr : f1 dr = .inl (cy 1, 520, .inl gdr) := (congrFun e_f1 dr).trans (z_up_ne (z_tne hf_dr hf_mm (m := 4260) (n := 10) rfl rfl (by decide)) hf_dr)
  have hf_ro : f1 ro = .inl (cy 1, 13, .inl gro) := (congrFun e_f1 ro).trans (z_up_ne (z_tne hf_ro hf_mm (m := 204) (n := 10) rfl rfl (by decide)) hf_ro)
  have hf_lw : f1 lw = .inl (cy 1, 25, .inl glw) := (congrFun e_f1 lw).trans (z_up_ne (z_tne hf_lw hf_mm (m := 300) (n := 10) rfl rfl (by decide)) hf_lw)
  have hf_st : f1 st = .inl (cy 1, 20, .inl gst) := (congrFun e_f1 st).trans (z_up_ne (z_tne hf_st hf_mm (m := 260) (n := 10) rfl rfl (by decide)) hf_st)
  have hf_ct : f1 ct = .inl (cy 1, 4, .inl gct) := (congrFun e_f1 ct).trans (z_up_ne (z_tne hf_ct hf_mm (m := 132) (n := 10) rfl rfl (by decide)) hf_ct)
  have hf_se : f1 se = .inl (cy 1, 36, .inl gse) := (congrFun e_f1 se).trans (z_up_ne (z_tne hf_se hf_mm (m := 388) (n := 10) rfl rfl (by decide)) hf_se)
  have hf_th : f1 th = .inl (cy 1, 36, .inl gth) := (congrFun e_f1 th).trans (z_up_ne (z_tne hf_th hf_mm (m := 388) (n := 10) rfl rfl (by decide)) hf_th)
  have hf_cn : f1 cn = .inl (cy 1, 36, .inl gcn) := (congrFun e_f1 cn).trans (z_up_ne (z_tne hf_cn hf_mm (m := 388) (n := 10) rfl rfl (by decide)) hf_cn)
  have hf_db : f1 db = .inl (cy 1, 5, .inl gdb) := (congrFun e_f1 db).trans (z_up_ne (z_tne hf_db hf_mm (m := 140) (n := 10) rfl rfl (by decide)) hf_db)
  have hf_be : f1 be = .inl (cy 1, 2574, .inl gbe) := (congrFun e_f1 be).trans (z_up_ne (z_tne hf_be hf_mm (m := 20692) (n := 10) rfl rfl (by decide)) hf_be)
  have hf_du : f1 du = .inl (cy 1, 5200, .inl gdu) := (congrFun e_f1 du).trans (z_up_ne (z_tne hf_du hf_mm (m := 41700) (n := 10) rfl rfl (by decide)) hf_du)
  have hf_fo : f1 fo = .inl (cy 1, 180, .inl gfo) := (congrFun e_f1 fo).trans (z_up_ne (z_tne hf_fo hf_mm (m := 1540) (n := 10) rfl rfl (by decide)) hf_fo)
  have hf_mm : f1 mm = .inr (10, [.int 0, .ref wd, .ref my, .ref ce, .ref mv, .ref ta, .int m6, .int m7, .int m8, .int m9, .int m10, .long m11, .int m12, .int m13, .int m14, .int m15, .ref li, .ref ha, .ref lw, .ref st, .ref fo, .ref dr, .int m22, .ref ik, .int m24, .int m25, .long m26, .int m27, .int m28, .ref ro, .int m30, .ref ct, .ref se, .ref th, .ref cn, .ref be, .int m36, .ref du, .int m38, .ref db, .int m40, .int m41, .int m42, .ref pn, .ref wg, .ref wh, .ref tn, .ref he, .int m48, .ref tr, .ref fd, .ref po, .int m52, .int m53]) := (congrFun e_f1 mm).trans z_up_self
  have hfr : ∀ b ∈ L, b ≠ mm → b ≠ ro → b ≠ ct → b ≠ se → b ≠ th → b ≠ cn → b ≠ db → b ≠ be → b ≠ du → f1 b = f b := fun b hb h0 h1 h2 h3 h4 h5 h6 h7 h8 => (congrFun e_f1 b).trans (z_up_ne h0 (hfr b hb h0 h1 h2 h3 h4 h5 h6 h7 h8))
  refine lv_aload_n hx hb dX10_ring_5 rfl (lv_at hl 0 rfl) ?_
  refine lv_iload_n hx hb dX10_ring_6 rfl (lv_at hl 1 rfl) ?_
  refine z_calliV (cells := 0) (slots := 0) (b := mm) (As := [.int ga]) (rest := []) (ci := 10) (q0 := (RX10, TX10, 54)) ⟨hx, hb, hml, hown, hT⟩ (c_X10_isGap l hm_mm hm_ha hf_mm hf_ha hq_ha) (cwV 1 hT (z_goodV (fun _ h => h) kw_1519 kw_1521 kw_55 kw_96 kw_1522) rfl rfl rfl (by decide +kernel) ⟨by decide, by decide⟩) z_mv hKK hK hw hA hm_mm hf_mm rfl rfl rfl hl.1 rfl (Nat.le_of_ble_eq_true rfl) dX10_ring_7 ⟨by decide, by decide⟩ (fun r2 u H locs hp hw => ?_)
  obtain ⟨rfl, hp⟩ := hp
  have hw : z_H D vwCl (z_A L sz) s.heap L f1 H locs := hw
  rcases hp with ⟨rfl, h3⟩ | ⟨rfl, h3⟩
  · skip
    refine z_if_eq (tgt := 37) hx hb (show (1 : Int32).toInt = 1 by decide) dX10_ring_10 (by decide) (fun h => absurd h (by decide)) (fun _ => ?_)
    refine lv_iload_n hx hb dX10_ring_13 rfl (lv_at hl 2 rfl) ?_
    refine lv_i2l hx hb dX10_ring_14 rfl ?_
    refine lv_topl (fun w4 e_w4 => ?_)
    have i_w4 : w4.toInt = nn.toInt := z_i2l e_w4 rfl
    refine lv_lconst (v := 1) hx hb dX10_ring_15 (by decide) ?_
    refine lv_ldc2 (v := 999) hx hb hown (hT _ kw_1514) dX10_ring_16 ?_
    have hz5 := (show (1 : Int64).toInt = 1 by decide)
    have hz6 := (show (999 : Int64).toInt = 999 by decide)
    refine z_calliS (cells := 0) (slots := 0) (As := [.long w4, .long 1, .long 999]) (rest := []) ⟨hx, hb, hml, hown, hT⟩ (c_X10_in l ) (va_cwS 3 hT (z_goodS (fun _ h => h) kw_1339 kw_1340 kw_96 kw_1341) rfl rfl rfl (by decide +kernel) ⟨by decide, by decide⟩) z_mv hKK hw hA rfl hl.1 rfl (Nat.le_of_ble_eq_true rfl) dX10_ring_19 ⟨by decide, by decide⟩ (fun r7 u H locs hp hw => ?_)
    obtain ⟨rfl, hp⟩ := hp
    have hw : z_H D vwCl (z_A L sz) s.heap L f1 H locs := hw
    rcases hp with ⟨rfl, h8⟩ | ⟨rfl, h8⟩
    · skip
      refine z_if_eq (tgt := 37) hx hb (show (1 : Int32).toInt = 1 by decide) dX10_ring_22 (by decide) (fun h => absurd h (by decide)) (fun _ => ?_)
      refine lv_iload_n hx hb dX10_ring_25 rfl (lv_at hl 3 rfl) ?_
      refine lv_i2l hx hb dX10_ring_26 rfl ?_
      refine lv_topl (fun w9 e_w9 => ?_)
      have i_w9 : w9.toInt = rr.toInt := z_i2l e_w9 rfl
      refine lv_lconst (v := 0) hx hb dX10_ring_27 (by decide) ?_
      refine lv_ldc2 (v := 99) hx hb hown (hT _ kw_1685) dX10_ring_28 ?_
      have hz10 := (show (0 : Int64).toInt = 0 by decide)
      have hz11 := (show (99 : Int64).toInt = 99 by decide)
      refine z_calliS (cells := 0) (slots := 0) (As := [.long w9, .long 0, .long 99]) (rest := []) ⟨hx, hb, hml, hown, hT⟩ (c_X10_in l ) (va_cwS 3 hT (z_goodS (fun _ h => h) kw_1339 kw_1340 kw_96 kw_1341) rfl rfl rfl (by decide +kernel) ⟨by decide, by decide⟩) z_mv hKK hw hA rfl hl.1 rfl (Nat.le_of_ble_eq_true rfl) dX10_ring_31 ⟨by decide, by decide⟩ (fun r12 u H locs hp hw => ?_)
      obtain ⟨rfl, hp⟩ := hp
      have hw : z_H D vwCl (z_A L sz) s.heap L f1 H locs := hw
      rcases hp with ⟨rfl, h13⟩ | ⟨rfl, h13⟩
      · skip
        refine z_if_ne (tgt := 40) hx hb (show (1 : Int32).toInt = 1 by decide) dX10_ring_34 (by decide) (fun _ => ?_) (fun h => absurd h (by decide))
        refine lv_aload_n hx hb dX10_ring_40 rfl (lv_at hl 0 rfl) ?_
        refine z_callvV (cells := 0) (slots := 0) (b := mm) (As := []) (rest := []) (ci := 10) (q0 := (RX10, TX10, 54)) ⟨hx, hb, hml, hown, hT⟩ (c_X10_asTold l hm_mm hm_ha hm_dr hm_ro hm_lw hm_st hm_ct hm_se hm_th hm_cn hm_db hm_be hm_du hm_fo hf_mm hf_ha hf_dr hf_ro hf_lw hf_st hf_ct hf_se hf_th hf_cn hf_db hf_be hf_du hf_fo ne_se_th ne_se_cn ne_th_cn hq_ha hq_dr hq_ro hq_lw hq_st hq_ct hq_be hq_du (by first | omega | decide | assumption) hea) (cwV 0 hT (z_goodV (fun _ h => h) kw_1587 kw_1589 kw_68 kw_96 kw_1590) rfl rfl rfl (by decide +kernel) ⟨by decide, by decide⟩) z_mv hKK hK hw hA hm_mm hf_mm rfl rfl rfl hl.1 rfl (Nat.le_of_ble_eq_true rfl) dX10_ring_41 ⟨by decide, by decide⟩ (fun u H locs hp hw => ?_)
        obtain ⟨L14, f15⟩ := u
        obtain ⟨hsb, hfm, mn2_16, n2_17, d2_18, y2_19, x2_20, nro_21, nct_22, nse_23, nth_24, ncn_25, ndb_26, nbe_27, ndu_28, ha_0, ha_1, ha_2, ha_3, ha_4, ha_5, ha_6, ha_7, ha_8, hq_ro, hq_ct, hq_be, hq_du, hp⟩ := hp
        have hsb : L = L14 := hsb
        subst hsb
        have hsb : ∀ b ∈ L, b ∈ L := fun _ h => h
        have hw : z_H D vwCl (z_A L sz) s.heap L f15 H locs := hw
        have hfr : ∀ b ∈ L, b ≠ mm → b ≠ ro → b ≠ ct → b ≠ se → b ≠ th → b ≠ cn → b ≠ db → b ≠ be → b ≠ du → f15 b = f b := fun b hb h0 h1 h2 h3 h4 h5 h6 h7 h8 => (hfm b hb h0 h1 h2 h3 h4 h5 h6 h7 h8).trans (hfr b hb h0 h1 h2 h3 h4 h5 h6 h7 h8)
        have hf_ha : f15 ha = .inl (cy 1, 30, .inl gha) := (hfm ha hm_ha (z_tne hf_ha hf_mm (m := 340) (n := 10) rfl rfl (by decide)) (z_tne hf_ha hf_ro (m := 340) (n := 204) rfl rfl (by decide)) (z_tne hf_ha hf_ct (m := 340) (n := 132) rfl rfl (by decide)) (z_tne hf_ha hf_se (m := 340) (n := 388) rfl rfl (by decide)) (z_tne hf_ha hf_th (m := 340) (n := 388) rfl rfl (by decide)) (z_tne hf_ha hf_cn (m := 340) (n := 388) rfl rfl (by decide)) (z_tne hf_ha hf_db (m := 340) (n := 140) rfl rfl (by decide)) (z_tne hf_ha hf_be (m := 340) (n := 20692) rfl rfl (by decide)) (z_tne hf_ha hf_du (m := 340) (n := 41700) rfl rfl (by decide))).trans hf_ha
        have hf_dr : f15 dr = .inl (cy 1, 520, .inl gdr) := (hfm dr hm_dr (z_tne hf_dr hf_mm (m := 4260) (n := 10) rfl rfl (by decide)) (z_tne hf_dr hf_ro (m := 4260) (n := 204) rfl rfl (by decide)) (z_tne hf_dr hf_ct (m := 4260) (n := 132) rfl rfl (by decide)) (z_tne hf_dr hf_se (m := 4260) (n := 388) rfl rfl (by decide)) (z_tne hf_dr hf_th (m := 4260) (n := 388) rfl rfl (by decide)) (z_tne hf_dr hf_cn (m := 4260) (n := 388) rfl rfl (by decide)) (z_tne hf_dr hf_db (m := 4260) (n := 140) rfl rfl (by decide)) (z_tne hf_dr hf_be (m := 4260) (n := 20692) rfl rfl (by decide)) (z_tne hf_dr hf_du (m := 4260) (n := 41700) rfl rfl (by decide))).trans hf_dr
        have hf_lw : f15 lw = .inl (cy 1, 25, .inl glw) := (hfm lw hm_lw (z_tne hf_lw hf_mm (m := 300) (n := 10) rfl rfl (by decide)) (z_tne hf_lw hf_ro (m := 300) (n := 204) rfl rfl (by decide)) (z_tne hf_lw hf_ct (m := 300) (n := 132) rfl rfl (by decide)) (z_tne hf_lw hf_se (m := 300) (n := 388) rfl rfl (by decide)) (z_tne hf_lw hf_th (m := 300) (n := 388) rfl rfl (by decide)) (z_tne hf_lw hf_cn (m := 300) (n := 388) rfl rfl (by decide)) (z_tne hf_lw hf_db (m := 300) (n := 140) rfl rfl (by decide)) (z_tne hf_lw hf_be (m := 300) (n := 20692) rfl rfl (by decide)) (z_tne hf_lw hf_du (m := 300) (n := 41700) rfl rfl (by decide))).trans hf_lw
        have hf_st : f15 st = .inl (cy 1, 20, .inl gst) := (hfm st hm_st (z_tne hf_st hf_mm (m := 260) (n := 10) rfl rfl (by decide)) (z_tne hf_st hf_ro (m := 260) (n := 204) rfl rfl (by decide)) (z_tne hf_st hf_ct (m := 260) (n := 132) rfl rfl (by decide)) (z_tne hf_st hf_se (m := 260) (n := 388) rfl rfl (by decide)) (z_tne hf_st hf_th (m := 260) (n := 388) rfl rfl (by decide)) (z_tne hf_st hf_cn (m := 260) (n := 388) rfl rfl (by decide)) (z_tne hf_st hf_db (m := 260) (n := 140) rfl rfl (by decide)) (z_tne hf_st hf_be (m := 260) (n := 20692) rfl rfl (by decide)) (z_tne hf_st hf_du (m := 260) (n := 41700) rfl rfl (by decide))).trans hf_st
        have hf_fo : f15 fo = .inl (cy 1, 180, .inl gfo) := (hfm fo hm_fo (z_tne hf_fo hf_mm (m := 1540) (n := 10) rfl rfl (by decide)) (z_tne hf_fo hf_ro (m := 1540) (n := 204) rfl rfl (by decide)) (z_tne hf_fo hf_ct (m := 1540) (n := 132) rfl rfl (by decide)) (z_tne hf_fo hf_se (m := 1540) (n := 388) rfl rfl (by decide)) (z_tne hf_fo hf_th (m := 1540) (n := 388) rfl rfl (by decide)) (z_tne hf_fo hf_cn (m := 1540) (n := 388) rfl rfl (by decide)) (z_tne hf_fo hf_db (m := 1540) (n := 140) rfl rfl (by decide)) (z_tne hf_fo hf_be (m := 1540) (n := 20692) rfl rfl (by decide)) (z_tne hf_fo hf_du (m := 1540) (n := 41700) rfl rfl (by decide))).trans hf_fo
        have hf_mm : f15 mm = .inr (10, [.int 0, .ref wd, .ref my, .ref ce, .ref mv, .ref ta, .int m6, .int m7, .int m8, .int m9, .int m10, .long m11, .int m12, .int m13, .int m14, .int m15, .ref li, .ref ha, .ref lw, .ref st, .ref fo, .ref dr, .int m22, .ref ik, .int (-1), .int mn2_16, .long x2_20, .int 0, .int 1000, .ref ro, .int n2_17, .ref ct, .ref se, .ref th, .ref cn, .ref be, .int y2_19, .ref du, .int d2_18, .ref db, .int m40, .int m41, .int m42, .ref pn, .ref wg, .ref wh, .ref tn, .ref he, .int m48, .ref tr, .ref fd, .ref po, .int m52, .int m53]) := ha_0
        have hf_ro : f15 ro = .inl (cy 1, 13, .inl nro_21) := ha_1
        have hf_ct : f15 ct = .inl (cy 1, 4, .inl nct_22) := ha_2
        have hf_se : f15 se = .inl (cy 1, 36, .inl nse_23) := ha_3
        have hf_th : f15 th = .inl (cy 1, 36, .inl nth_24) := ha_4
        have hf_cn : f15 cn = .inl (cy 1, 36, .inl ncn_25) := ha_5
        have hf_db : f15 db = .inl (cy 1, 5, .inl ndb_26) := ha_6
        have hf_be : f15 be = .inl (cy 1, 2574, .inl nbe_27) := ha_7
        have hf_du : f15 du = .inl (cy 1, 5200, .inl ndu_28) := ha_8
        have hto := hp
        refine lv_aload_n hx hb dX10_ring_44 rfl (lv_at hl 0 rfl) ?_
        refine z_get (C := RX10) (T := TX10) (N := 54) (ci := 10) (v := .ref ct) hx hb hT zin_X10 hown hK hw hm_mm hf_mm rfl 31 (by decide) (hT _ kw_1199) rfl dX10_ring_45 ?_
        refine lv_aload_n hx hb dX10_ring_48 rfl (lv_at hl 0 rfl) ?_
        refine lv_iload_n hx hb dX10_ring_49 rfl (lv_at hl 1 rfl) ?_
        refine z_calliV (cells := 0) (slots := 0) (b := mm) (As := [.int ga]) (rest := [.ref ct]) (ci := 10) (q0 := (RX10, TX10, 54)) ⟨hx, hb, hml, hown, hT⟩ (c_X10_counterOf l hm_mm hm_lw hf_mm hf_lw hq_lw (by first | omega | decide | assumption)) (cwV 1 hT (z_goodV (fun _ h => h) kw_1579 kw_1581 kw_67 kw_96 kw_1582) rfl rfl rfl (by decide +kernel) ⟨by decide, by decide⟩) z_mv hKK hK hw hA hm_mm hf_mm rfl rfl rfl hl.1 rfl (Nat.le_of_ble_eq_true rfl) dX10_ring_50 ⟨by decide, by decide⟩ (fun r29 u H locs hp hw => ?_)
        obtain ⟨rfl, hp⟩ := hp
        have hw : z_H D vwCl (z_A L sz) s.heap L f15 H locs := hw
        have hq30 := hp
        refine z_iald hx hb hK hw 1 hm_ct hf_ct rfl (z_ix rfl (by omega)) dX10_ring_53 ?_
        refine lv_topi (fun w31 e_w31 => ?_)
        have hv_w31 : 0 ≤ w31.toInt ∧ w31.toInt ≤ 999 := by rw [e_w31]; exact hq_ct _
        refine lv_istore (lv' := [(4, .int w31), (0, .ref mm), (1, .int ga), (2, .int nn), (3, .int rr)]) hx hb dX10_ring_54 hl (by decide) rfl (fun ls hl => ?_)
        refine lv_iconst (v := 0) hx hb dX10_ring_56 (by decide) ?_
        refine lv_istore (lv' := [(5, .int 0), (4, .int w31), (0, .ref mm), (1, .int ga), (2, .int nn), (3, .int rr)]) hx hb dX10_ring_57 hl (by decide) rfl (fun ls hl => ?_)
        refine lv_iconst (v := 0) hx hb dX10_ring_59 (by decide) ?_
        refine lv_istore (lv' := [(6, .int 0), (5, .int 0), (4, .int w31), (0, .ref mm), (1, .int ga), (2, .int nn), (3, .int rr)]) hx hb dX10_ring_60 hl (by decide) rfl (fun ls hl => ?_)
        have hzk : (0 : Int32).toInt = 0 := by decide
        refine z_loop (fun n H locs ls => ∃ (K32 : Int32) (V34 : Int32) (V35 : Int32) (f33 : Nat → va_E), (n = (98901 - K32.toInt).toNat) ∧ (0 ≤ K32.toInt) ∧ (K32.toInt ≤ 98901) ∧ (z_H D vwCl (z_A L sz) s.heap L f33 H locs) ∧ (f33 mm = .inr (10, [.int 0, .ref wd, .ref my, .ref ce, .ref mv, .ref ta, .int m6, .int m7, .int m8, .int m9, .int m10, .long m11, .int m12, .int m13, .int m14, .int m15, .ref li, .ref ha, .ref lw, .ref st, .ref fo, .ref dr, .int m22, .ref ik, .int (-1), .int mn2_16, .long x2_20, .int 0, .int 1000, .ref ro, .int n2_17, .ref ct, .ref se, .ref th, .ref cn, .ref be, .int y2_19, .ref du, .int d2_18, .ref db, .int m40, .int m41, .int m42, .ref pn, .ref wg, .ref wh, .ref tn, .ref he, .int m48, .ref tr, .ref fd, .ref po, .int m52, .int m53])) ∧ (f33 ha = .inl (cy 1, 30, .inl gha)) ∧ (f33 dr = .inl (cy 1, 520, .inl gdr)) ∧ (f33 ro = .inl (cy 1, 13, .inl nro_21)) ∧ (f33 lw = .inl (cy 1, 25, .inl glw)) ∧ (f33 st = .inl (cy 1, 20, .inl gst)) ∧ (f33 ct = .inl (cy 1, 4, .inl nct_22)) ∧ (f33 se = .inl (cy 1, 36, .inl nse_23)) ∧ (f33 th = .inl (cy 1, 36, .inl nth_24)) ∧ (f33 cn = .inl (cy 1, 36, .inl ncn_25)) ∧ (f33 db = .inl (cy 1, 5, .inl ndb_26)) ∧ (f33 be = .inl (cy 1, 2574, .inl nbe_27)) ∧ (f33 du = .inl (cy 1, 5200, .inl ndu_28)) ∧ (f33 fo = .inl (cy 1, 180, .inl gfo)) ∧ (∀ b ∈ L, b ≠ mm → b ≠ ro → b ≠ ct → b ≠ se → b ≠ th → b ≠ cn → b ≠ db → b ≠ be → b ≠ du → f33 b = f b) ∧ (lv_has ls 7 [(6, .int K32), (5, .int V35), (4, .int V34), (0, .ref mm), (1, .int ga), (2, .int nn), (3, .int rr)])) _ ⟨0, w31, 0, f15, rfl, (by first | decide | omega), (by first | decide | omega), hw, hf_mm, hf_ha, hf_dr, hf_ro, hf_lw, hf_st, hf_ct, hf_se, hf_th, hf_cn, hf_db, hf_be, hf_du, hf_fo, hfr, (lv_sub hl [0, 1, 2, 3, 4, 5, 6] rfl)⟩ (fun n H locs ls hI ih_62 => ?_)
        obtain ⟨K32, V34, V35, f33, hn, hk0, hk1, hw, hf_mm, hf_ha, hf_dr, hf_ro, hf_lw, hf_st, hf_ct, hf_se, hf_th, hf_cn, hf_db, hf_be, hf_du, hf_fo, hfr, hl⟩ := hI
        refine lv_iload hx hb dX10_ring_62 (lv_at hl 0 rfl) ?_
        refine lv_iload_n hx hb dX10_ring_64 rfl (lv_at hl 5 rfl) ?_
        refine lv_iload_n hx hb dX10_ring_65 rfl (lv_at hl 6 rfl) ?_
        have hnr := z_mulR (a := nn.toInt) (b := rr.toInt) (by omega) (by omega)
        refine lv_imul hx hb dX10_ring_66 ?_
        refine lv_topi (fun w36 e_w36 => ?_)
        have i_w36 : w36.toInt = (nn.toInt * rr.toInt) := z_mul e_w36 rfl rfl (by omega)
        refine z_icmp_ge (tgt := 99) hx hb rfl i_w36 dX10_ring_67 (by decide) (fun c37 => ?_) (fun c37 => ?_)
        · skip
          refine lv_iload hx hb dX10_ring_99 (lv_at hl 1 rfl) ?_
          exact z_iret hx hb hr hlk (by decide) (by decide) hw (⟨hsub, hfr, (-1), mn2_16, 0, 1000, n2_17, d2_18, y2_19, x2_20, nro_21, nct_22, nse_23, nth_24, ncn_25, ndb_26, nbe_27, ndu_28, hf_mm, hf_ro, hf_ct, hf_se, hf_th, hf_cn, hf_db, hf_be, hf_du, hq_ro, hq_ct, hq_be, hq_du, by omega⟩) dX10_ring_101
        · skip
          obtain ⟨k38, e_k38⟩ : ∃ z : Int32, z = V34 + 1 := ⟨_, rfl⟩
          refine lv_iinc (v := k38) (lv' := [(4, .int k38), (6, .int K32), (5, .int V35), (0, .ref mm), (1, .int ga), (2, .int nn), (3, .int rr)]) hx hb dX10_ring_70 hl (k := 2) rfl (by rw [e_k38]; rfl) (by decide) rfl (fun ls hl => ?_)
          refine lv_iload hx hb dX10_ring_73 (lv_at hl 0 rfl) ?_
          refine lv_aload_n hx hb dX10_ring_75 rfl (lv_at hl 3 rfl) ?_
          refine z_get (C := RX10) (T := TX10) (N := 54) (ci := 10) (v := .ref lw) hx hb hT zin_X10 hown hK hw hm_mm hf_mm rfl 18 (by decide) (hT _ kw_1186) rfl dX10_ring_76 ?_
          refine lv_iconst (v := 3) hx hb dX10_ring_79 (by decide) ?_
          refine z_iald hx hb hK hw 1 hm_lw hf_lw rfl (z_ix (show (3 : Int32).toInt = 3 by decide) (by decide)) dX10_ring_80 ?_
          refine lv_topi (fun w39 e_w39 => ?_)
          have hv_w39 : 0 ≤ w39.toInt ∧ w39.toInt ≤ 999 := by rw [e_w39]; exact hq_lw _
          refine z_icmp_ge (tgt := 87) hx hb rfl rfl dX10_ring_81 (by decide) (fun c40 => ?_) (fun c40 => ?_)
          · skip
            refine lv_iconst (v := 0) hx hb dX10_ring_87 (by decide) ?_
            refine lv_istore (lv' := [(4, .int 0), (6, .int K32), (5, .int V35), (0, .ref mm), (1, .int ga), (2, .int nn), (3, .int rr)]) hx hb dX10_ring_88 hl (by decide) rfl (fun ls hl => ?_)
            obtain ⟨k41, e_k41⟩ : ∃ z : Int32, z = V35 + 1 := ⟨_, rfl⟩
            refine lv_iinc (v := k41) (lv' := [(5, .int k41), (4, .int 0), (6, .int K32), (0, .ref mm), (1, .int ga), (2, .int nn), (3, .int rr)]) hx hb dX10_ring_90 hl (k := 2) rfl (by rw [e_k41]; rfl) (by decide) rfl (fun ls hl => ?_)
            obtain ⟨k42, e_k42⟩ : ∃ z : Int32, z = K32 + 1 := ⟨_, rfl⟩
            refine lv_iinc (v := k42) (lv' := [(6, .int k42), (5, .int k41), (4, .int 0), (0, .ref mm), (1, .int ga), (2, .int nn), (3, .int rr)]) hx hb dX10_ring_93 hl (k := 2) rfl (by rw [e_k42]; rfl) (by decide) rfl (fun ls hl => ?_)
            have i_k42 : k42.toInt = (K32.toInt + 1) := z_add e_k42 rfl (by decide) (by omega)
            refine lv_goto (tgt := 62) hx hb dX10_ring_96 (by decide) ?_
            exact ih_62 _ (by omega) _ _ _ ⟨k42, 0, k41, f33, rfl, (by first | decide | omega), (by first | decide | omega), hw, hf_mm, hf_ha, hf_dr, hf_ro, hf_lw, hf_st, hf_ct, hf_se, hf_th, hf_cn, hf_db, hf_be, hf_du, hf_fo, hfr, (lv_sub hl [0, 1, 2, 3, 4, 5, 6] rfl)⟩
          · skip
            refine lv_goto (tgt := 93) hx hb dX10_ring_84 (by decide) ?_
            obtain ⟨k43, e_k43⟩ : ∃ z : Int32, z = K32 + 1 := ⟨_, rfl⟩
            refine lv_iinc (v := k43) (lv' := [(6, .int k43), (4, .int k38), (5, .int V35), (0, .ref mm), (1, .int ga), (2, .int nn), (3, .int rr)]) hx hb dX10_ring_93 hl (k := 1) rfl (by rw [e_k43]; rfl) (by decide) rfl (fun ls hl => ?_)
            have i_k43 : k43.toInt = (K32.toInt + 1) := z_add e_k43 rfl (by decide) (by omega)
            refine lv_goto (tgt := 62) hx hb dX10_ring_96 (by decide) ?_
            exact ih_62 _ (by omega) _ _ _ ⟨k43, k38, V35, f33, rfl, (by first | decide | omega), (by first | decide | omega), hw, hf_mm, hf_ha, hf_dr, hf_ro, hf_lw, hf_st, hf_ct, hf_se, hf_th, hf_cn, hf_db, hf_be, hf_du, hf_fo, hfr, (lv_sub hl [0, 2, 1, 3, 4, 5, 6] rfl)⟩
      · skip
        refine z_if_ne (tgt := 40) hx hb (show (0 : Int32).toInt = 0 by decide) dX10_ring_34 (by decide) (fun h => absurd h (by decide)) (fun _ => ?_)
        refine lv_bipush (v := (-2)) hx hb dX10_ring_37 (by decide) ?_
        exact z_iret hx hb hr hlk (by decide) (by decide) hw (⟨hsub, hfr, m24, m25, m27, m28, m30, m38, m36, m26, gro, gct, gse, gth, gcn, gdb, gbe, gdu, hf_mm, hf_ro, hf_ct, hf_se, hf_th, hf_cn, hf_db, hf_be, hf_du, hq_ro, hq_ct, hq_be, hq_du, by omega⟩) dX10_ring_39
    · skip
      refine z_if_eq (tgt := 37) hx hb (show (0 : Int32).toInt = 0 by decide) dX10_ring_22 (by decide) (fun _ => ?_) (fun h => absurd h (by decide))
      refine lv_bipush (v := (-2)) hx hb dX10_ring_37 (by decide) ?_
      exact z_iret hx hb hr hlk (by decide) (by decide) hw (⟨hsub, hfr, m24, m25, m27, m28, m30, m38, m36, m26, gro, gct, gse, gth, gcn, gdb, gbe, gdu, hf_mm, hf_ro, hf_ct, hf_se, hf_th, hf_cn, hf_db, hf_be, hf_du, hq_ro, hq_ct, hq_be, hq_du, by omega⟩) dX10_ring_39
  · skip
    refine z_if_eq (tgt := 37) hx hb (show (0 : Int32).toInt = 0 by decide) dX10_ring_10 (by decide) (fun _ => ?_) (fun h => absurd h (by decide))
    refine lv_bipush (v := (-2)) hx hb dX10_ring_37 (by decide) ?_
    exact z_iret hx hb hr hlk (by decide) (by decide) hw (⟨hsub, hfr, m24, m25, m27, m28, m30, m38, m36, m26, gro, gct, gse, gth, gcn, gdb, gbe, gdu, hf_mm, hf_ro, hf_ct, hf_se, hf_th, hf_cn, hf_db, hf_be, hf_du, hq_ro, hq_ct, hq_be, hq_du, by omega⟩) dX10_ring_39

set_option maxHeartbeats 2000000 in
set_option maxRecDepth 100000 in
theorem c_X10_rounds (l : Launch) {D : va_G} {cy : Nat → ClassId} {L : List Nat} {f : Nat → va_E} {sz : Nat} {adK adV : Nat → Nat} {mm wd my ce mv ta li ha lw st fo dr ik ro ct se th cn be du db pn wg wh tn he tr fd po : Nat} {m0 m6 m7 m8 m9 m10 m12 m13 m14 m15 m22 m24 m25 m27 m28 m30 m36 m38 m40 m41 m42 m48 m52 m53 : Int32} {m11 m26 : Int64} {gha glw gst gfo gdr gro gct gse gth gcn gbe gdu gdb : Nat → Int32}  {ga nn : Int32} (hm_mm : mm ∈ L) (hm_ha : ha ∈ L) (hm_dr : dr ∈ L) (hm_ro : ro ∈ L) (hm_lw : lw ∈ L) (hm_st : st ∈ L) (hm_ct : ct ∈ L) (hm_se : se ∈ L) (hm_th : th ∈ L) (hm_cn : cn ∈ L) (hm_db : db ∈ L) (hm_be : be ∈ L) (hm_du : du ∈ L) (hm_fo : fo ∈ L) (hf_mm : f mm = .inr (10, [.int m0, .ref wd, .ref my, .ref ce, .ref mv, .ref ta, .int m6, .int m7, .int m8, .int m9, .int m10, .long m11, .int m12, .int m13, .int m14, .int m15, .ref li, .ref ha, .ref lw, .ref st, .ref fo, .ref dr, .int m22, .ref ik, .int m24, .int m25, .long m26, .int m27, .int m28, .ref ro, .int m30, .ref ct, .ref se, .ref th, .ref cn, .ref be, .int m36, .ref du, .int m38, .ref db, .int m40, .int m41, .int m42, .ref pn, .ref wg, .ref wh, .ref tn, .ref he, .int m48, .ref tr, .ref fd, .ref po, .int m52, .int m53])) (hf_ha : f ha = .inl (cy 1, 30, .inl gha)) (hf_dr : f dr = .inl (cy 1, 520, .inl gdr)) (hf_ro : f ro = .inl (cy 1, 13, .inl gro)) (hf_lw : f lw = .inl (cy 1, 25, .inl glw)) (hf_st : f st = .inl (cy 1, 20, .inl gst)) (hf_ct : f ct = .inl (cy 1, 4, .inl gct)) (hf_se : f se = .inl (cy 1, 36, .inl gse)) (hf_th : f th = .inl (cy 1, 36, .inl gth)) (hf_cn : f cn = .inl (cy 1, 36, .inl gcn)) (hf_db : f db = .inl (cy 1, 5, .inl gdb)) (hf_be : f be = .inl (cy 1, 2574, .inl gbe)) (hf_du : f du = .inl (cy 1, 5200, .inl gdu)) (hf_fo : f fo = .inl (cy 1, 180, .inl gfo)) (ne_se_th : se ≠ th) (ne_se_cn : se ≠ cn) (ne_th_cn : th ≠ cn) (hq_ha : ∀ j : Nat, q_has j (gha j)) (hq_dr : ∀ j : Nat, q_drv j (gdr j)) (hq_ro : ∀ j : Nat, q_12 j (gro j)) (hq_lw : ∀ j : Nat, q_law j (glw j)) (hq_st : ∀ j : Nat, q_law j (gst j)) (hq_ct : ∀ j : Nat, q_law j (gct j)) (hq_be : ∀ j : Nat, q_be j (gbe j)) (hq_du : ∀ j : Nat, q_du j (gdu j)) (hxx : 0 ≤ m26.toInt ∧ m26.toInt < 2147483648) (hea : ∀ m : Nat, m < 5 → z_ea gha glw m) : Met l yX10_rounds (z_ws yX10_rounds cX10_rounds 6 (some .int)) (z_R 7 0 0) (va_Pc [.ref mm, .int ga, .int nn] (z_Pre D vwCl (z_KK D cy adK adV) L f sz)) (z_Qi D vwCl (fun r u => L = u.1 ∧ (∀ b ∈ L, b ≠ mm → b ≠ ro → b ≠ ct → b ≠ se → b ≠ th → b ≠ cn → b ≠ db → b ≠ be → b ≠ du → u.2 b = f b) ∧ (∃ (o2 mn2 i2 u2 n2 d2 y2 : Int32) (x2 : Int64) (nro nct nse nth ncn ndb nbe ndu : Nat → Int32), (u.2 mm = .inr (10, [.int 0, .ref wd, .ref my, .ref ce, .ref mv, .ref ta, .int m6, .int m7, .int m8, .int m9, .int m10, .long m11, .int m12, .int m13, .int m14, .int m15, .ref li, .ref ha, .ref lw, .ref st, .ref fo, .ref dr, .int m22, .ref ik, .int o2, .int mn2, .long x2, .int i2, .int u2, .ref ro, .int n2, .ref ct, .ref se, .ref th, .ref cn, .ref be, .int y2, .ref du, .int d2, .ref db, .int m40, .int m41, .int m42, .ref pn, .ref wg, .ref wh, .ref tn, .ref he, .int m48, .ref tr, .ref fd, .ref po, .int m52, .int m53])) ∧ (u.2 ro = .inl (cy 1, 13, .inl nro)) ∧ (u.2 ct = .inl (cy 1, 4, .inl nct)) ∧ (u.2 se = .inl (cy 1, 36, .inl nse)) ∧ (u.2 th = .inl (cy 1, 36, .inl nth)) ∧ (u.2 cn = .inl (cy 1, 36, .inl ncn)) ∧ (u.2 db = .inl (cy 1, 5, .inl ndb)) ∧ (u.2 be = .inl (cy 1, 2574, .inl nbe)) ∧ (u.2 du = .inl (cy 1, 5200, .inl ndu)) ∧ (∀ j : Nat, q_12 j (nro j)) ∧ (∀ j : Nat, q_law j (nct j)) ∧ (∀ j : Nat, q_be j (nbe j)) ∧ (∀ j : Nat, q_du j (ndu j)) ∧ (0 ≤ x2.toInt ∧ x2.toInt < 2147483648))) L sz) 0 0 (z_A L sz) := by
  refine z_met (cc := cX10_rounds) (maxL := 6) (ret := (some .int)) (lv := [(0, .ref mm), (1, .int ga), (2, .int nn)]) (by decide) rfl (Nat.le_of_ble_eq_true rfl) rfl ?_
  intro p e s m below meth c ls hx hb hr hlk hml hown hnm hts hKK hA hw hl
  have hK := hKK.1.1
  have hown : s.vm.findClass RX10 = some m.cls := hown
  have hT : ∀ w ∈ lw_all, w.before ([.ref mm, .int ga, .int nn] : List Value).toArray s = true := fun w h => hts w (z_cons w h)
  have hsub : L = L := rfl
  have hfr : ∀ b ∈ L, b ≠ mm → b ≠ ro → b ≠ ct → b ≠ se → b ≠ th → b ≠ cn → b ≠ db → b ≠ be → b ≠ du → f b = f b := fun _ _ _ _ _ _ _ _ _ _ _ => rfl
  have hh0 := (hq_ha 0).1 rfl
  have hh1 := (hq_ha 1).2.1 rfl
  have hh2 := (hq_ha 2).2.2.1 rfl
  have hh3 := (hq_ha 3).2.2.2 rfl
  have hea0 : 2 ≤ (glw 3).toInt ∨ ((gha 3).toInt = 0 ∧ (gha 0).toInt = 0) := hea 0 (by decide)
  have hz_m2 : (-2 : Int32).toInt = -2 := by decide
  have hz_m1 : (-1 : Int32).toInt = -1 := by decide
  have hz_0 : (0 : Int32).toInt = 0 := by decide
  refine lv_aload_n hx hb dX10_rounds_0 rfl (lv_at hl 0 rfl) ?_
  refine lv_iconst (v := 0) hx hb dX10_rounds_1 (by decide) ?_
  refine z_put (C := RX10) (T := TX10) (N := 54) (ci := 10) (v := .int 0) (fs' := [.int 0, .ref wd, .ref my, .ref ce, .ref mv, .ref ta, .int m6, .int m7, .int m8, .int m9, .int m10, .long m11, .int m12, .int m13, .int m14, .int m15, .ref li, .ref ha, .ref lw, .ref st, .ref fo, .ref dr, .int m22, .ref ik, .int m24, .int m25, .long m26, .int m27, .int m28, .ref ro, .int m30, .ref ct, .ref se, .ref th, .ref cn, .ref be, .int m36, .ref du, .int m38, .ref db, .int m40, .int m41, .int m42, .ref pn, .ref wg, .ref wh, .ref tn, .ref he, .int m48, .ref tr, .ref fd, .ref po, .int m52, .int m53]) hx hb hT zin_X10 tyX10_ok nmX10 hown hK hw hm_mm hf_mm rfl 0 (by decide) (hT _ kw_1168) rfl rfl rfl (Nat.le_of_ble_eq_true rfl) rfl dX10_rounds_2 (fun H locs hw => ?_)
  obtain ⟨f1, e_f1⟩ : ∃ z, z = va_up f mm (.inr (10, [.int 0, .ref wd, .ref my, .ref ce, .ref mv, .ref ta, .int m6, .int m7, .int m8, .int m9, .int m10, .long m11, .int m12, .int m13, .int m14, .int m15, .ref li, .ref ha, .ref lw, .ref st, .ref fo, .ref dr, .int m22, .ref ik, .int m24, .int m25, .long m26, .int m27, .int m28, .ref ro, .int m30, .ref ct, .ref se, .ref th, .ref cn, .ref be, .int m36, .ref du, .int m38, .ref db, .int m40, .int m41, .int m42, .ref pn, .ref wg, .ref wh, .ref tn, .ref he, .int m48, .ref tr, .ref fd, .ref po, .int m52, .int m53])) := ⟨_, rfl⟩
  rw [← e_f1] at hw
  have hf_ha : f1 ha = .inl (cy 1, 30, .inl gha) := (congrFun e_f1 ha).trans (z_up_ne (z_tne hf_ha hf_mm (m := 340) (n := 10) rfl rfl (by decide)) hf_ha)
  have hf_dr : f1 dr = .inl (cy 1, 520, .inl gdr) := (congrFun e_f1 dr).trans (z_up_ne (z_tne hf_dr hf_mm (m := 4260) (n := 10) rfl rfl (by decide)) hf_dr)
  have hf_ro : f1 ro = .inl (cy 1, 13, .inl gro) := (congrFun e_f1 ro).trans (z_up_ne (z_tne hf_ro hf_mm (m := 204) (n := 10) rfl rfl (by decide)) hf_ro)
  have hf_lw : f1 lw = .inl (cy 1, 25, .inl glw) := (congrFun e_f1 lw).trans (z_up_ne (z_tne hf_lw hf_mm (m := 300) (n := 10) rfl rfl (by decide)) hf_lw)
  have hf_st : f1 st = .inl (cy 1, 20, .inl gst) := (congrFun e_f1 st).trans (z_up_ne (z_tne hf_st hf_mm (m := 260) (n := 10) rfl rfl (by decide)) hf_st)
  have hf_ct : f1 ct = .inl (cy 1, 4, .inl gct) := (congrFun e_f1 ct).trans (z_up_ne (z_tne hf_ct hf_mm (m := 132) (n := 10) rfl rfl (by decide)) hf_ct)
  have hf_se : f1 se = .inl (cy 1, 36, .inl gse) := (congrFun e_f1 se).trans (z_up_ne (z_tne hf_se hf_mm (m := 388) (n := 10) rfl rfl (by decide)) hf_se)
  have hf_th : f1 th = .inl (cy 1, 36, .inl gth) := (congrFun e_f1 th).trans (z_up_ne (z_tne hf_th hf_mm (m := 388) (n := 10) rfl rfl (by decide)) hf_th)
  have hf_cn : f1 cn = .inl (cy 1, 36, .inl gcn) := (congrFun e_f1 cn).trans (z_up_ne (z_tne hf_cn hf_mm (m := 388) (n := 10) rfl rfl (by decide)) hf_cn)
  have hf_db : f1 db = .inl (cy 1, 5, .inl gdb) := (congrFun e_f1 db).trans (z_up_ne (z_tne hf_db hf_mm (m := 140) (n := 10) rfl rfl (by decide)) hf_db)
  have hf_be : f1 be = .inl (cy 1, 2574, .inl gbe) := (congrFun e_f1 be).trans (z_up_ne (z_tne hf_be hf_mm (m := 20692) (n := 10) rfl rfl (by decide)) hf_be)
  have hf_du : f1 du = .inl (cy 1, 5200, .inl gdu) := (congrFun e_f1 du).trans (z_up_ne (z_tne hf_du hf_mm (m := 41700) (n := 10) rfl rfl (by decide)) hf_du)
  have hf_fo : f1 fo = .inl (cy 1, 180, .inl gfo) := (congrFun e_f1 fo).trans (z_up_ne (z_tne hf_fo hf_mm (m := 1540) (n := 10) rfl rfl (by decide)) hf_fo)
  have hf_mm : f1 mm = .inr (10, [.int 0, .ref wd, .ref my, .ref ce, .ref mv, .ref ta, .int m6, .int m7, .int m8, .int m9, .int m10, .long m11, .int m12, .int m13, .int m14, .int m15, .ref li, .ref ha, .ref lw, .ref st, .ref fo, .ref dr, .int m22, .ref ik, .int m24, .int m25, .long m26, .int m27, .int m28, .ref ro, .int m30, .ref ct, .ref se, .ref th, .ref cn, .ref be, .int m36, .ref du, .int m38, .ref db, .int m40, .int m41, .int m42, .ref pn, .ref wg, .ref wh, .ref tn, .ref he, .int m48, .ref tr, .ref fd, .ref po, .int m52, .int m53]) := (congrFun e_f1 mm).trans z_up_self
  have hfr : ∀ b ∈ L, b ≠ mm → b ≠ ro → b ≠ ct → b ≠ se → b ≠ th → b ≠ cn → b ≠ db → b ≠ be → b ≠ du → f1 b = f b := fun b hb h0 h1 h2 h3 h4 h5 h6 h7 h8 => (congrFun e_f1 b).trans (z_up_ne h0 (hfr b hb h0 h1 h2 h3 h4 h5 h6 h7 h8))
  refine lv_aload_n hx hb dX10_rounds_5 rfl (lv_at hl 0 rfl) ?_
  refine lv_iload_n hx hb dX10_rounds_6 rfl (lv_at hl 1 rfl) ?_
  refine z_calliV (cells := 0) (slots := 0) (b := mm) (As := [.int ga]) (rest := []) (ci := 10) (q0 := (RX10, TX10, 54)) ⟨hx, hb, hml, hown, hT⟩ (c_X10_isGap l hm_mm hm_ha hf_mm hf_ha hq_ha) (cwV 1 hT (z_goodV (fun _ h => h) kw_1519 kw_1521 kw_55 kw_96 kw_1522) rfl rfl rfl (by decide +kernel) ⟨by decide, by decide⟩) z_mv hKK hK hw hA hm_mm hf_mm rfl rfl rfl hl.1 rfl (Nat.le_of_ble_eq_true rfl) dX10_rounds_7 ⟨by decide, by decide⟩ (fun r2 u H locs hp hw => ?_)
  obtain ⟨rfl, hp⟩ := hp
  have hw : z_H D vwCl (z_A L sz) s.heap L f1 H locs := hw
  rcases hp with ⟨rfl, h3⟩ | ⟨rfl, h3⟩
  · skip
    refine z_if_eq (tgt := 25) hx hb (show (1 : Int32).toInt = 1 by decide) dX10_rounds_10 (by decide) (fun h => absurd h (by decide)) (fun _ => ?_)
    refine lv_iload_n hx hb dX10_rounds_13 rfl (lv_at hl 2 rfl) ?_
    refine lv_i2l hx hb dX10_rounds_14 rfl ?_
    refine lv_topl (fun w4 e_w4 => ?_)
    have i_w4 : w4.toInt = nn.toInt := z_i2l e_w4 rfl
    refine lv_lconst (v := 1) hx hb dX10_rounds_15 (by decide) ?_
    refine lv_ldc2 (v := 999) hx hb hown (hT _ kw_1514) dX10_rounds_16 ?_
    have hz5 := (show (1 : Int64).toInt = 1 by decide)
    have hz6 := (show (999 : Int64).toInt = 999 by decide)
    refine z_calliS (cells := 0) (slots := 0) (As := [.long w4, .long 1, .long 999]) (rest := []) ⟨hx, hb, hml, hown, hT⟩ (c_X10_in l ) (va_cwS 3 hT (z_goodS (fun _ h => h) kw_1339 kw_1340 kw_96 kw_1341) rfl rfl rfl (by decide +kernel) ⟨by decide, by decide⟩) z_mv hKK hw hA rfl hl.1 rfl (Nat.le_of_ble_eq_true rfl) dX10_rounds_19 ⟨by decide, by decide⟩ (fun r7 u H locs hp hw => ?_)
    obtain ⟨rfl, hp⟩ := hp
    have hw : z_H D vwCl (z_A L sz) s.heap L f1 H locs := hw
    rcases hp with ⟨rfl, h8⟩ | ⟨rfl, h8⟩
    · skip
      refine z_if_ne (tgt := 28) hx hb (show (1 : Int32).toInt = 1 by decide) dX10_rounds_22 (by decide) (fun _ => ?_) (fun h => absurd h (by decide))
      refine lv_aload_n hx hb dX10_rounds_28 rfl (lv_at hl 0 rfl) ?_
      refine z_callvV (cells := 0) (slots := 0) (b := mm) (As := []) (rest := []) (ci := 10) (q0 := (RX10, TX10, 54)) ⟨hx, hb, hml, hown, hT⟩ (c_X10_asTold l hm_mm hm_ha hm_dr hm_ro hm_lw hm_st hm_ct hm_se hm_th hm_cn hm_db hm_be hm_du hm_fo hf_mm hf_ha hf_dr hf_ro hf_lw hf_st hf_ct hf_se hf_th hf_cn hf_db hf_be hf_du hf_fo ne_se_th ne_se_cn ne_th_cn hq_ha hq_dr hq_ro hq_lw hq_st hq_ct hq_be hq_du (by first | omega | decide | assumption) hea) (cwV 0 hT (z_goodV (fun _ h => h) kw_1587 kw_1589 kw_68 kw_96 kw_1590) rfl rfl rfl (by decide +kernel) ⟨by decide, by decide⟩) z_mv hKK hK hw hA hm_mm hf_mm rfl rfl rfl hl.1 rfl (Nat.le_of_ble_eq_true rfl) dX10_rounds_29 ⟨by decide, by decide⟩ (fun u H locs hp hw => ?_)
      obtain ⟨L9, f10⟩ := u
      obtain ⟨hsb, hfm, mn2_11, n2_12, d2_13, y2_14, x2_15, nro_16, nct_17, nse_18, nth_19, ncn_20, ndb_21, nbe_22, ndu_23, ha_0, ha_1, ha_2, ha_3, ha_4, ha_5, ha_6, ha_7, ha_8, hq_ro, hq_ct, hq_be, hq_du, hp⟩ := hp
      have hsb : L = L9 := hsb
      subst hsb
      have hsb : ∀ b ∈ L, b ∈ L := fun _ h => h
      have hw : z_H D vwCl (z_A L sz) s.heap L f10 H locs := hw
      have hfr : ∀ b ∈ L, b ≠ mm → b ≠ ro → b ≠ ct → b ≠ se → b ≠ th → b ≠ cn → b ≠ db → b ≠ be → b ≠ du → f10 b = f b := fun b hb h0 h1 h2 h3 h4 h5 h6 h7 h8 => (hfm b hb h0 h1 h2 h3 h4 h5 h6 h7 h8).trans (hfr b hb h0 h1 h2 h3 h4 h5 h6 h7 h8)
      have hf_ha : f10 ha = .inl (cy 1, 30, .inl gha) := (hfm ha hm_ha (z_tne hf_ha hf_mm (m := 340) (n := 10) rfl rfl (by decide)) (z_tne hf_ha hf_ro (m := 340) (n := 204) rfl rfl (by decide)) (z_tne hf_ha hf_ct (m := 340) (n := 132) rfl rfl (by decide)) (z_tne hf_ha hf_se (m := 340) (n := 388) rfl rfl (by decide)) (z_tne hf_ha hf_th (m := 340) (n := 388) rfl rfl (by decide)) (z_tne hf_ha hf_cn (m := 340) (n := 388) rfl rfl (by decide)) (z_tne hf_ha hf_db (m := 340) (n := 140) rfl rfl (by decide)) (z_tne hf_ha hf_be (m := 340) (n := 20692) rfl rfl (by decide)) (z_tne hf_ha hf_du (m := 340) (n := 41700) rfl rfl (by decide))).trans hf_ha
      have hf_dr : f10 dr = .inl (cy 1, 520, .inl gdr) := (hfm dr hm_dr (z_tne hf_dr hf_mm (m := 4260) (n := 10) rfl rfl (by decide)) (z_tne hf_dr hf_ro (m := 4260) (n := 204) rfl rfl (by decide)) (z_tne hf_dr hf_ct (m := 4260) (n := 132) rfl rfl (by decide)) (z_tne hf_dr hf_se (m := 4260) (n := 388) rfl rfl (by decide)) (z_tne hf_dr hf_th (m := 4260) (n := 388) rfl rfl (by decide)) (z_tne hf_dr hf_cn (m := 4260) (n := 388) rfl rfl (by decide)) (z_tne hf_dr hf_db (m := 4260) (n := 140) rfl rfl (by decide)) (z_tne hf_dr hf_be (m := 4260) (n := 20692) rfl rfl (by decide)) (z_tne hf_dr hf_du (m := 4260) (n := 41700) rfl rfl (by decide))).trans hf_dr
      have hf_lw : f10 lw = .inl (cy 1, 25, .inl glw) := (hfm lw hm_lw (z_tne hf_lw hf_mm (m := 300) (n := 10) rfl rfl (by decide)) (z_tne hf_lw hf_ro (m := 300) (n := 204) rfl rfl (by decide)) (z_tne hf_lw hf_ct (m := 300) (n := 132) rfl rfl (by decide)) (z_tne hf_lw hf_se (m := 300) (n := 388) rfl rfl (by decide)) (z_tne hf_lw hf_th (m := 300) (n := 388) rfl rfl (by decide)) (z_tne hf_lw hf_cn (m := 300) (n := 388) rfl rfl (by decide)) (z_tne hf_lw hf_db (m := 300) (n := 140) rfl rfl (by decide)) (z_tne hf_lw hf_be (m := 300) (n := 20692) rfl rfl (by decide)) (z_tne hf_lw hf_du (m := 300) (n := 41700) rfl rfl (by decide))).trans hf_lw
      have hf_st : f10 st = .inl (cy 1, 20, .inl gst) := (hfm st hm_st (z_tne hf_st hf_mm (m := 260) (n := 10) rfl rfl (by decide)) (z_tne hf_st hf_ro (m := 260) (n := 204) rfl rfl (by decide)) (z_tne hf_st hf_ct (m := 260) (n := 132) rfl rfl (by decide)) (z_tne hf_st hf_se (m := 260) (n := 388) rfl rfl (by decide)) (z_tne hf_st hf_th (m := 260) (n := 388) rfl rfl (by decide)) (z_tne hf_st hf_cn (m := 260) (n := 388) rfl rfl (by decide)) (z_tne hf_st hf_db (m := 260) (n := 140) rfl rfl (by decide)) (z_tne hf_st hf_be (m := 260) (n := 20692) rfl rfl (by decide)) (z_tne hf_st hf_du (m := 260) (n := 41700) rfl rfl (by decide))).trans hf_st
      have hf_fo : f10 fo = .inl (cy 1, 180, .inl gfo) := (hfm fo hm_fo (z_tne hf_fo hf_mm (m := 1540) (n := 10) rfl rfl (by decide)) (z_tne hf_fo hf_ro (m := 1540) (n := 204) rfl rfl (by decide)) (z_tne hf_fo hf_ct (m := 1540) (n := 132) rfl rfl (by decide)) (z_tne hf_fo hf_se (m := 1540) (n := 388) rfl rfl (by decide)) (z_tne hf_fo hf_th (m := 1540) (n := 388) rfl rfl (by decide)) (z_tne hf_fo hf_cn (m := 1540) (n := 388) rfl rfl (by decide)) (z_tne hf_fo hf_db (m := 1540) (n := 140) rfl rfl (by decide)) (z_tne hf_fo hf_be (m := 1540) (n := 20692) rfl rfl (by decide)) (z_tne hf_fo hf_du (m := 1540) (n := 41700) rfl rfl (by decide))).trans hf_fo
      have hf_mm : f10 mm = .inr (10, [.int 0, .ref wd, .ref my, .ref ce, .ref mv, .ref ta, .int m6, .int m7, .int m8, .int m9, .int m10, .long m11, .int m12, .int m13, .int m14, .int m15, .ref li, .ref ha, .ref lw, .ref st, .ref fo, .ref dr, .int m22, .ref ik, .int (-1), .int mn2_11, .long x2_15, .int 0, .int 1000, .ref ro, .int n2_12, .ref ct, .ref se, .ref th, .ref cn, .ref be, .int y2_14, .ref du, .int d2_13, .ref db, .int m40, .int m41, .int m42, .ref pn, .ref wg, .ref wh, .ref tn, .ref he, .int m48, .ref tr, .ref fd, .ref po, .int m52, .int m53]) := ha_0
      have hf_ro : f10 ro = .inl (cy 1, 13, .inl nro_16) := ha_1
      have hf_ct : f10 ct = .inl (cy 1, 4, .inl nct_17) := ha_2
      have hf_se : f10 se = .inl (cy 1, 36, .inl nse_18) := ha_3
      have hf_th : f10 th = .inl (cy 1, 36, .inl nth_19) := ha_4
      have hf_cn : f10 cn = .inl (cy 1, 36, .inl ncn_20) := ha_5
      have hf_db : f10 db = .inl (cy 1, 5, .inl ndb_21) := ha_6
      have hf_be : f10 be = .inl (cy 1, 2574, .inl nbe_22) := ha_7
      have hf_du : f10 du = .inl (cy 1, 5200, .inl ndu_23) := ha_8
      have hto := hp
      refine lv_aload_n hx hb dX10_rounds_32 rfl (lv_at hl 0 rfl) ?_
      refine z_get (C := RX10) (T := TX10) (N := 54) (ci := 10) (v := .ref ct) hx hb hT zin_X10 hown hK hw hm_mm hf_mm rfl 31 (by decide) (hT _ kw_1199) rfl dX10_rounds_33 ?_
      refine lv_aload_n hx hb dX10_rounds_36 rfl (lv_at hl 0 rfl) ?_
      refine lv_iload_n hx hb dX10_rounds_37 rfl (lv_at hl 1 rfl) ?_
      refine z_calliV (cells := 0) (slots := 0) (b := mm) (As := [.int ga]) (rest := [.ref ct]) (ci := 10) (q0 := (RX10, TX10, 54)) ⟨hx, hb, hml, hown, hT⟩ (c_X10_counterOf l hm_mm hm_lw hf_mm hf_lw hq_lw (by first | omega | decide | assumption)) (cwV 1 hT (z_goodV (fun _ h => h) kw_1579 kw_1581 kw_67 kw_96 kw_1582) rfl rfl rfl (by decide +kernel) ⟨by decide, by decide⟩) z_mv hKK hK hw hA hm_mm hf_mm rfl rfl rfl hl.1 rfl (Nat.le_of_ble_eq_true rfl) dX10_rounds_38 ⟨by decide, by decide⟩ (fun r24 u H locs hp hw => ?_)
      obtain ⟨rfl, hp⟩ := hp
      have hw : z_H D vwCl (z_A L sz) s.heap L f10 H locs := hw
      have hq25 := hp
      refine z_iald hx hb hK hw 1 hm_ct hf_ct rfl (z_ix rfl (by omega)) dX10_rounds_41 ?_
      refine lv_topi (fun w26 e_w26 => ?_)
      have hv_w26 : 0 ≤ w26.toInt ∧ w26.toInt ≤ 999 := by rw [e_w26]; exact hq_ct _
      refine lv_istore_n (lv' := [(3, .int w26), (0, .ref mm), (1, .int ga), (2, .int nn)]) hx hb dX10_rounds_42 rfl hl (by decide) rfl (fun ls hl => ?_)
      refine lv_iconst (v := 1) hx hb dX10_rounds_43 (by decide) ?_
      refine lv_istore (lv' := [(4, .int 1), (3, .int w26), (0, .ref mm), (1, .int ga), (2, .int nn)]) hx hb dX10_rounds_44 hl (by decide) rfl (fun ls hl => ?_)
      have hzk : (1 : Int32).toInt = 1 := by decide
      refine z_loop (fun n H locs ls => ∃ (K27 : Int32) (V29 : Int32) (f28 : Nat → va_E), (n = (1000 - K27.toInt).toNat) ∧ (1 ≤ K27.toInt) ∧ (K27.toInt ≤ 1000) ∧ (z_H D vwCl (z_A L sz) s.heap L f28 H locs) ∧ (f28 mm = .inr (10, [.int 0, .ref wd, .ref my, .ref ce, .ref mv, .ref ta, .int m6, .int m7, .int m8, .int m9, .int m10, .long m11, .int m12, .int m13, .int m14, .int m15, .ref li, .ref ha, .ref lw, .ref st, .ref fo, .ref dr, .int m22, .ref ik, .int (-1), .int mn2_11, .long x2_15, .int 0, .int 1000, .ref ro, .int n2_12, .ref ct, .ref se, .ref th, .ref cn, .ref be, .int y2_14, .ref du, .int d2_13, .ref db, .int m40, .int m41, .int m42, .ref pn, .ref wg, .ref wh, .ref tn, .ref he, .int m48, .ref tr, .ref fd, .ref po, .int m52, .int m53])) ∧ (f28 ha = .inl (cy 1, 30, .inl gha)) ∧ (f28 dr = .inl (cy 1, 520, .inl gdr)) ∧ (f28 ro = .inl (cy 1, 13, .inl nro_16)) ∧ (f28 lw = .inl (cy 1, 25, .inl glw)) ∧ (f28 st = .inl (cy 1, 20, .inl gst)) ∧ (f28 ct = .inl (cy 1, 4, .inl nct_17)) ∧ (f28 se = .inl (cy 1, 36, .inl nse_18)) ∧ (f28 th = .inl (cy 1, 36, .inl nth_19)) ∧ (f28 cn = .inl (cy 1, 36, .inl ncn_20)) ∧ (f28 db = .inl (cy 1, 5, .inl ndb_21)) ∧ (f28 be = .inl (cy 1, 2574, .inl nbe_22)) ∧ (f28 du = .inl (cy 1, 5200, .inl ndu_23)) ∧ (f28 fo = .inl (cy 1, 180, .inl gfo)) ∧ (∀ b ∈ L, b ≠ mm → b ≠ ro → b ≠ ct → b ≠ se → b ≠ th → b ≠ cn → b ≠ db → b ≠ be → b ≠ du → f28 b = f b) ∧ (lv_has ls 6 [(4, .int K27), (3, .int V29), (0, .ref mm), (1, .int ga), (2, .int nn)])) _ ⟨1, w26, f10, rfl, (by first | decide | omega), (by first | decide | omega), hw, hf_mm, hf_ha, hf_dr, hf_ro, hf_lw, hf_st, hf_ct, hf_se, hf_th, hf_cn, hf_db, hf_be, hf_du, hf_fo, hfr, (lv_sub hl [0, 1, 2, 3, 4] rfl)⟩ (fun n H locs ls hI ih_46 => ?_)
      obtain ⟨K27, V29, f28, hn, hk0, hk1, hw, hf_mm, hf_ha, hf_dr, hf_ro, hf_lw, hf_st, hf_ct, hf_se, hf_th, hf_cn, hf_db, hf_be, hf_du, hf_fo, hfr, hl⟩ := hI
      refine lv_iload hx hb dX10_rounds_46 (lv_at hl 0 rfl) ?_
      refine lv_aload_n hx hb dX10_rounds_48 rfl (lv_at hl 2 rfl) ?_
      refine z_get (C := RX10) (T := TX10) (N := 54) (ci := 10) (v := .ref lw) hx hb hT zin_X10 hown hK hw hm_mm hf_mm rfl 18 (by decide) (hT _ kw_1186) rfl dX10_rounds_49 ?_
      refine lv_iconst (v := 3) hx hb dX10_rounds_52 (by decide) ?_
      refine z_iald hx hb hK hw 1 hm_lw hf_lw rfl (z_ix (show (3 : Int32).toInt = 3 by decide) (by decide)) dX10_rounds_53 ?_
      refine lv_topi (fun w30 e_w30 => ?_)
      have hv_w30 : 0 ≤ w30.toInt ∧ w30.toInt ≤ 999 := by rw [e_w30]; exact hq_lw _
      refine z_icmp_gt (tgt := 105) hx hb rfl rfl dX10_rounds_54 (by decide) (fun c31 => ?_) (fun c31 => ?_)
      · skip
        refine lv_iconst (v := (-1)) hx hb dX10_rounds_105 (by decide) ?_
        exact z_iret hx hb hr hlk (by decide) (by decide) hw (⟨hsub, hfr, (-1), mn2_11, 0, 1000, n2_12, d2_13, y2_14, x2_15, nro_16, nct_17, nse_18, nth_19, ncn_20, ndb_21, nbe_22, ndu_23, hf_mm, hf_ro, hf_ct, hf_se, hf_th, hf_cn, hf_db, hf_be, hf_du, hq_ro, hq_ct, hq_be, hq_du, by omega⟩) dX10_rounds_106
      · skip
        refine lv_iconst (v := 0) hx hb dX10_rounds_57 (by decide) ?_
        refine lv_istore (lv' := [(5, .int 0), (4, .int K27), (3, .int V29), (0, .ref mm), (1, .int ga), (2, .int nn)]) hx hb dX10_rounds_58 hl (by decide) rfl (fun ls hl => ?_)
        have hzk : (0 : Int32).toInt = 0 := by decide
        refine z_loop (fun n H locs ls => ∃ (K32 : Int32) (V34 : Int32) (f33 : Nat → va_E), (n = (nn.toInt - K32.toInt).toNat) ∧ (0 ≤ K32.toInt) ∧ (K32.toInt ≤ nn.toInt) ∧ (z_H D vwCl (z_A L sz) s.heap L f33 H locs) ∧ (f33 mm = .inr (10, [.int 0, .ref wd, .ref my, .ref ce, .ref mv, .ref ta, .int m6, .int m7, .int m8, .int m9, .int m10, .long m11, .int m12, .int m13, .int m14, .int m15, .ref li, .ref ha, .ref lw, .ref st, .ref fo, .ref dr, .int m22, .ref ik, .int (-1), .int mn2_11, .long x2_15, .int 0, .int 1000, .ref ro, .int n2_12, .ref ct, .ref se, .ref th, .ref cn, .ref be, .int y2_14, .ref du, .int d2_13, .ref db, .int m40, .int m41, .int m42, .ref pn, .ref wg, .ref wh, .ref tn, .ref he, .int m48, .ref tr, .ref fd, .ref po, .int m52, .int m53])) ∧ (f33 ha = .inl (cy 1, 30, .inl gha)) ∧ (f33 dr = .inl (cy 1, 520, .inl gdr)) ∧ (f33 ro = .inl (cy 1, 13, .inl nro_16)) ∧ (f33 lw = .inl (cy 1, 25, .inl glw)) ∧ (f33 st = .inl (cy 1, 20, .inl gst)) ∧ (f33 ct = .inl (cy 1, 4, .inl nct_17)) ∧ (f33 se = .inl (cy 1, 36, .inl nse_18)) ∧ (f33 th = .inl (cy 1, 36, .inl nth_19)) ∧ (f33 cn = .inl (cy 1, 36, .inl ncn_20)) ∧ (f33 db = .inl (cy 1, 5, .inl ndb_21)) ∧ (f33 be = .inl (cy 1, 2574, .inl nbe_22)) ∧ (f33 du = .inl (cy 1, 5200, .inl ndu_23)) ∧ (f33 fo = .inl (cy 1, 180, .inl gfo)) ∧ (∀ b ∈ L, b ≠ mm → b ≠ ro → b ≠ ct → b ≠ se → b ≠ th → b ≠ cn → b ≠ db → b ≠ be → b ≠ du → f33 b = f b) ∧ (lv_has ls 6 [(5, .int K32), (4, .int K27), (3, .int V34), (0, .ref mm), (1, .int ga), (2, .int nn)])) _ ⟨0, V29, f28, rfl, (by first | decide | omega), (by first | decide | omega), hw, hf_mm, hf_ha, hf_dr, hf_ro, hf_lw, hf_st, hf_ct, hf_se, hf_th, hf_cn, hf_db, hf_be, hf_du, hf_fo, hfr, (lv_sub hl [0, 1, 2, 3, 4, 5] rfl)⟩ (fun n H locs ls hI ih_60 => ?_)
        obtain ⟨K32, V34, f33, hn, hk0, hk1, hw, hf_mm, hf_ha, hf_dr, hf_ro, hf_lw, hf_st, hf_ct, hf_se, hf_th, hf_cn, hf_db, hf_be, hf_du, hf_fo, hfr, hl⟩ := hI
        refine lv_iload hx hb dX10_rounds_60 (lv_at hl 0 rfl) ?_
        refine lv_iload_n hx hb dX10_rounds_62 rfl (lv_at hl 5 rfl) ?_
        refine z_icmp_ge (tgt := 92) hx hb rfl rfl dX10_rounds_63 (by decide) (fun c35 => ?_) (fun c35 => ?_)
        · skip
          refine lv_iload_n hx hb dX10_rounds_92 rfl (lv_at hl 2 rfl) ?_
          refine z_if_ne (tgt := 99) hx hb rfl dX10_rounds_93 (by decide) (fun c36 => ?_) (fun c36 => ?_)
          · skip
            obtain ⟨k37, e_k37⟩ : ∃ z : Int32, z = K27 + 1 := ⟨_, rfl⟩
            refine lv_iinc (v := k37) (lv' := [(4, .int k37), (5, .int K32), (3, .int V34), (0, .ref mm), (1, .int ga), (2, .int nn)]) hx hb dX10_rounds_99 hl (k := 1) rfl (by rw [e_k37]; rfl) (by decide) rfl (fun ls hl => ?_)
            have i_k37 : k37.toInt = (K27.toInt + 1) := z_add e_k37 rfl (by decide) (by omega)
            refine lv_goto (tgt := 46) hx hb dX10_rounds_102 (by decide) ?_
            exact ih_46 _ (by omega) _ _ _ ⟨k37, V34, f33, rfl, (by first | decide | omega), (by first | decide | omega), hw, hf_mm, hf_ha, hf_dr, hf_ro, hf_lw, hf_st, hf_ct, hf_se, hf_th, hf_cn, hf_db, hf_be, hf_du, hf_fo, hfr, (lv_sub hl [0, 2, 3, 4, 5] rfl)⟩
          · skip
            refine lv_iload hx hb dX10_rounds_96 (lv_at hl 1 rfl) ?_
            exact z_iret hx hb hr hlk (by decide) (by decide) hw (⟨hsub, hfr, (-1), mn2_11, 0, 1000, n2_12, d2_13, y2_14, x2_15, nro_16, nct_17, nse_18, nth_19, ncn_20, ndb_21, nbe_22, ndu_23, hf_mm, hf_ro, hf_ct, hf_se, hf_th, hf_cn, hf_db, hf_be, hf_du, hq_ro, hq_ct, hq_be, hq_du, by omega⟩) dX10_rounds_98
        · skip
          refine lv_iload_n hx hb dX10_rounds_66 rfl (lv_at hl 2 rfl) ?_
          refine lv_iconst (v := 1) hx hb dX10_rounds_67 (by decide) ?_
          refine lv_iadd hx hb dX10_rounds_68 ?_
          refine lv_topi (fun w38 e_w38 => ?_)
          refine lv_aload_n hx hb dX10_rounds_69 rfl (lv_at hl 3 rfl) ?_
          refine z_get (C := RX10) (T := TX10) (N := 54) (ci := 10) (v := .ref lw) hx hb hT zin_X10 hown hK hw hm_mm hf_mm rfl 18 (by decide) (hT _ kw_1186) rfl dX10_rounds_70 ?_
          refine lv_iconst (v := 3) hx hb dX10_rounds_73 (by decide) ?_
          refine z_iald hx hb hK hw 1 hm_lw hf_lw rfl (z_ix (show (3 : Int32).toInt = 3 by decide) (by decide)) dX10_rounds_74 ?_
          refine lv_topi (fun w39 e_w39 => ?_)
          have hv_w39 : 0 ≤ w39.toInt ∧ w39.toInt ≤ 999 := by rw [e_w39]; exact hq_lw _
          refine z_icmp_ge (tgt := 84) hx hb rfl rfl dX10_rounds_75 (by decide) (fun c40 => ?_) (fun c40 => ?_)
          · skip
            refine lv_iconst (v := 0) hx hb dX10_rounds_84 (by decide) ?_
            refine lv_istore_n (lv' := [(3, .int 0), (5, .int K32), (4, .int K27), (0, .ref mm), (1, .int ga), (2, .int nn)]) hx hb dX10_rounds_85 rfl hl (by decide) rfl (fun ls hl => ?_)
            obtain ⟨k41, e_k41⟩ : ∃ z : Int32, z = K32 + 1 := ⟨_, rfl⟩
            refine lv_iinc (v := k41) (lv' := [(5, .int k41), (3, .int 0), (4, .int K27), (0, .ref mm), (1, .int ga), (2, .int nn)]) hx hb dX10_rounds_86 hl (k := 1) rfl (by rw [e_k41]; rfl) (by decide) rfl (fun ls hl => ?_)
            have i_k41 : k41.toInt = (K32.toInt + 1) := z_add e_k41 rfl (by decide) (by omega)
            refine lv_goto (tgt := 60) hx hb dX10_rounds_89 (by decide) ?_
            exact ih_60 _ (by omega) _ _ _ ⟨k41, 0, f33, rfl, (by first | decide | omega), (by first | decide | omega), hw, hf_mm, hf_ha, hf_dr, hf_ro, hf_lw, hf_st, hf_ct, hf_se, hf_th, hf_cn, hf_db, hf_be, hf_du, hf_fo, hfr, (lv_sub hl [0, 2, 1, 3, 4, 5] rfl)⟩
          · skip
            refine lv_iload_n hx hb dX10_rounds_78 rfl (lv_at hl 2 rfl) ?_
            refine lv_iconst (v := 1) hx hb dX10_rounds_79 (by decide) ?_
            refine lv_iadd hx hb dX10_rounds_80 ?_
            refine lv_topi (fun w42 e_w42 => ?_)
            refine lv_goto (tgt := 85) hx hb dX10_rounds_81 (by decide) ?_
            refine lv_istore_n (lv' := [(3, .int w42), (5, .int K32), (4, .int K27), (0, .ref mm), (1, .int ga), (2, .int nn)]) hx hb dX10_rounds_85 rfl hl (by decide) rfl (fun ls hl => ?_)
            obtain ⟨k43, e_k43⟩ : ∃ z : Int32, z = K32 + 1 := ⟨_, rfl⟩
            refine lv_iinc (v := k43) (lv' := [(5, .int k43), (3, .int w42), (4, .int K27), (0, .ref mm), (1, .int ga), (2, .int nn)]) hx hb dX10_rounds_86 hl (k := 1) rfl (by rw [e_k43]; rfl) (by decide) rfl (fun ls hl => ?_)
            have i_k43 : k43.toInt = (K32.toInt + 1) := z_add e_k43 rfl (by decide) (by omega)
            refine lv_goto (tgt := 60) hx hb dX10_rounds_89 (by decide) ?_
            exact ih_60 _ (by omega) _ _ _ ⟨k43, w42, f33, rfl, (by first | decide | omega), (by first | decide | omega), hw, hf_mm, hf_ha, hf_dr, hf_ro, hf_lw, hf_st, hf_ct, hf_se, hf_th, hf_cn, hf_db, hf_be, hf_du, hf_fo, hfr, (lv_sub hl [0, 2, 1, 3, 4, 5] rfl)⟩
    · skip
      refine z_if_ne (tgt := 28) hx hb (show (0 : Int32).toInt = 0 by decide) dX10_rounds_22 (by decide) (fun h => absurd h (by decide)) (fun _ => ?_)
      refine lv_bipush (v := (-2)) hx hb dX10_rounds_25 (by decide) ?_
      exact z_iret hx hb hr hlk (by decide) (by decide) hw (⟨hsub, hfr, m24, m25, m27, m28, m30, m38, m36, m26, gro, gct, gse, gth, gcn, gdb, gbe, gdu, hf_mm, hf_ro, hf_ct, hf_se, hf_th, hf_cn, hf_db, hf_be, hf_du, hq_ro, hq_ct, hq_be, hq_du, by omega⟩) dX10_rounds_27
  · skip
    refine z_if_eq (tgt := 25) hx hb (show (0 : Int32).toInt = 0 by decide) dX10_rounds_10 (by decide) (fun _ => ?_) (fun h => absurd h (by decide))
    refine lv_bipush (v := (-2)) hx hb dX10_rounds_25 (by decide) ?_
    exact z_iret hx hb hr hlk (by decide) (by decide) hw (⟨hsub, hfr, m24, m25, m27, m28, m30, m38, m36, m26, gro, gct, gse, gth, gcn, gdb, gbe, gdu, hf_mm, hf_ro, hf_ct, hf_se, hf_th, hf_cn, hf_db, hf_be, hf_du, hq_ro, hq_ct, hq_be, hq_du, by omega⟩) dX10_rounds_27
