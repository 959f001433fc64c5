set_option maxHeartbeats 2000000 in
set_option maxRecDepth 100000 in
theorem c_X10_seeks (l : Launch) {D : va_G} {cy : Nat → ClassId} {L : List Nat} {f : Nat → va_E} {sz : Nat} {adK adV : Nat → Nat} {mm wd my ce mv ta li ha lw st fo dr ik ro ct se th cn be du db pn wg wh tn he tr fd po : Nat} {m0 m6 m7 m8 m9 m10 m12 m13 m14 m15 m22 m24 m25 m27 m28 m30 m36 m38 m40 m41 m42 m48 m52 m53 : Int32} {m11 m26 : Int64} {gha glw gst gfo gdr gro gct gse gth gcn gbe gdu gdb : Nat → Int32}  {kk wo : Int32} (hm_mm : mm ∈ L) (hm_ha : ha ∈ L) (hm_dr : dr ∈ L) (hm_ro : ro ∈ L) (hm_lw : lw ∈ L) (hm_st : st ∈ L) (hm_ct : ct ∈ L) (hm_se : se ∈ L) (hm_th : th ∈ L) (hm_cn : cn ∈ L) (hm_db : db ∈ L) (hm_be : be ∈ L) (hm_du : du ∈ L) (hm_fo : fo ∈ L) (hf_mm : f mm = .inr (10, [.int m0, .ref wd, .ref my, .ref ce, .ref mv, .ref ta, .int m6, .int m7, .int m8, .int m9, .int m10, .long m11, .int m12, .int m13, .int m14, .int m15, .ref li, .ref ha, .ref lw, .ref st, .ref fo, .ref dr, .int m22, .ref ik, .int m24, .int m25, .long m26, .int m27, .int m28, .ref ro, .int m30, .ref ct, .ref se, .ref th, .ref cn, .ref be, .int m36, .ref du, .int m38, .ref db, .int m40, .int m41, .int m42, .ref pn, .ref wg, .ref wh, .ref tn, .ref he, .int m48, .ref tr, .ref fd, .ref po, .int m52, .int m53])) (hf_ha : f ha = .inl (cy 1, 30, .inl gha)) (hf_dr : f dr = .inl (cy 1, 520, .inl gdr)) (hf_ro : f ro = .inl (cy 1, 13, .inl gro)) (hf_lw : f lw = .inl (cy 1, 25, .inl glw)) (hf_st : f st = .inl (cy 1, 20, .inl gst)) (hf_ct : f ct = .inl (cy 1, 4, .inl gct)) (hf_se : f se = .inl (cy 1, 36, .inl gse)) (hf_th : f th = .inl (cy 1, 36, .inl gth)) (hf_cn : f cn = .inl (cy 1, 36, .inl gcn)) (hf_db : f db = .inl (cy 1, 5, .inl gdb)) (hf_be : f be = .inl (cy 1, 2574, .inl gbe)) (hf_du : f du = .inl (cy 1, 5200, .inl gdu)) (hf_fo : f fo = .inl (cy 1, 180, .inl gfo)) (ne_se_th : se ≠ th) (ne_se_cn : se ≠ cn) (ne_th_cn : th ≠ cn) (hq_ha : ∀ j : Nat, q_has j (gha j)) (hq_dr : ∀ j : Nat, q_drv j (gdr j)) (hq_ro : ∀ j : Nat, q_12 j (gro j)) (hq_lw : ∀ j : Nat, q_law j (glw j)) (hq_st : ∀ j : Nat, q_law j (gst j)) (hq_ct : ∀ j : Nat, q_law j (gct j)) (hq_be : ∀ j : Nat, q_be j (gbe j)) (hq_du : ∀ j : Nat, q_du j (gdu j)) (hmn : 0 ≤ m25.toInt ∧ m25.toInt ≤ 13) (hee : 2 ≤ (glw 3).toInt ∨ m25.toInt ≤ 0) (hxx : 0 ≤ m26.toInt ∧ m26.toInt < 2147483648) (hbg : 0 ≤ m41.toInt ∧ m41.toInt ≤ 3) (hbh : 0 ≤ m42.toInt ∧ m42.toInt ≤ 23) (hkk : 0 ≤ kk.toInt ∧ kk.toInt ≤ 12) (hwo : 0 ≤ wo.toInt ∧ wo.toInt ≤ 4) : Met l yX10_seeks (z_ws yX10_seeks cX10_seeks 7 none) (z_R 6 0 0) (va_Pc [.ref mm, .int kk, .int wo] (z_Pre D vwCl (z_KK D cy adK adV) L f sz)) (z_Qv D vwCl (fun u => L = u.1 ∧ (∀ b ∈ L, b ≠ mm → b ≠ ro → b ≠ ct → b ≠ se → b ≠ th → b ≠ cn → b ≠ db → b ≠ be → b ≠ du → b ≠ dr → u.2 b = f b) ∧ (∃ (n2 d2 y2 bp2 bg2 bh2 : Int32) (x2 : Int64) (nro nct nse nth ncn ndb nbe ndu ndr : Nat → Int32), (u.2 mm = .inr (10, [.int m0, .ref wd, .ref my, .ref ce, .ref mv, .ref ta, .int m6, .int m7, .int m8, .int m9, .int m10, .long m11, .int m12, .int m13, .int m14, .int m15, .ref li, .ref ha, .ref lw, .ref st, .ref fo, .ref dr, .int m22, .ref ik, .int m24, .int m25, .long x2, .int m27, .int m28, .ref ro, .int n2, .ref ct, .ref se, .ref th, .ref cn, .ref be, .int y2, .ref du, .int d2, .ref db, .int bp2, .int bg2, .int bh2, .ref pn, .ref wg, .ref wh, .ref tn, .ref he, .int m48, .ref tr, .ref fd, .ref po, .int m52, .int m53])) ∧ (u.2 ro = .inl (cy 1, 13, .inl nro)) ∧ (u.2 ct = .inl (cy 1, 4, .inl nct)) ∧ (u.2 se = .inl (cy 1, 36, .inl nse)) ∧ (u.2 th = .inl (cy 1, 36, .inl nth)) ∧ (u.2 cn = .inl (cy 1, 36, .inl ncn)) ∧ (u.2 db = .inl (cy 1, 5, .inl ndb)) ∧ (u.2 be = .inl (cy 1, 2574, .inl nbe)) ∧ (u.2 du = .inl (cy 1, 5200, .inl ndu)) ∧ (u.2 dr = .inl (cy 1, 520, .inl ndr)) ∧ (∀ j : Nat, q_12 j (nro j)) ∧ (∀ j : Nat, q_law j (nct j)) ∧ (∀ j : Nat, q_be j (nbe j)) ∧ (∀ j : Nat, q_du j (ndu j)) ∧ (∀ j : Nat, q_drv j (ndr j)) ∧ ((0 ≤ x2.toInt ∧ x2.toInt < 2147483648) ∧ (0 ≤ bg2.toInt ∧ bg2.toInt ≤ 3) ∧ (0 ≤ bh2.toInt ∧ bh2.toInt ≤ 23)))) L sz) 0 0 (z_A L sz) := by
  refine z_met (cc := cX10_seeks) (maxL := 7) (ret := none) (lv := [(0, .ref mm), (1, .int kk), (2, .int wo)]) (by decide) rfl (Nat.le_of_ble_eq_true rfl) rfl ?_
  intro p e s m below meth c ls hx hb hr hlk hml hown hnm hts hKK hA hw hl
  have hK := hKK.1.1
  have hown : s.vm.findClass RX10 = some m.cls := hown
  have hT : ∀ w ∈ lw_all, w.before ([.ref mm, .int kk, .int wo] : List Value).toArray s = true := fun w h => hts w (z_cons w h)
  have hsub : L = L := rfl
  have hfr : ∀ b ∈ L, b ≠ mm → b ≠ ro → b ≠ ct → b ≠ se → b ≠ th → b ≠ cn → b ≠ db → b ≠ be → b ≠ du → b ≠ dr → f b = f b := fun _ _ _ _ _ _ _ _ _ _ _ _ => rfl
  have hh0 := (hq_ha 0).1 rfl
  have hz_m1 : (-1 : Int32).toInt = -1 := by decide
  refine lv_aload_n hx hb dX10_seeks_0 rfl (lv_at hl 0 rfl) ?_
  refine lv_iload_n hx hb dX10_seeks_1 rfl (lv_at hl 1 rfl) ?_
  refine lv_iconst (v := 1) hx hb dX10_seeks_2 (by decide) ?_
  have hz1 := (show (1 : Int32).toInt = 1 by decide)
  refine z_calliV (cells := 0) (slots := 0) (b := mm) (As := [.int kk, .int 1]) (rest := []) (ci := 10) (q0 := (RX10, TX10, 54)) ⟨hx, hb, hml, hown, hT⟩ (c_X10_of l hm_mm hm_dr hf_mm hf_dr hq_dr (by first | omega | decide | assumption) (by decide)) (cwV 2 hT (z_goodV (fun _ h => h) kw_1487 kw_1489 kw_51 kw_96 kw_1490) rfl rfl rfl (by decide +kernel) ⟨by decide, by decide⟩) z_mv hKK hK hw hA hm_mm hf_mm rfl rfl rfl hl.1 rfl (Nat.le_of_ble_eq_true rfl) dX10_seeks_3 ⟨by decide, by decide⟩ (fun r2 u H locs hp hw => ?_)
  obtain ⟨rfl, hp⟩ := hp
  have hw : z_H D vwCl (z_A L sz) s.heap L f H locs := hw
  have hof_r2 : r2 = gdr (8 * kk.toNatClampNeg + 1) := hp
  have hh_r2 : 0 ≤ r2.toInt ∧ r2.toInt ≤ 3 := by rw [hof_r2]; exact (hq_dr _).2.1 (by omega)
  refine lv_istore_n (lv' := [(3, .int r2), (0, .ref mm), (1, .int kk), (2, .int wo)]) hx hb dX10_seeks_6 rfl hl (by decide) rfl (fun ls hl => ?_)
  refine lv_aload_n hx hb dX10_seeks_7 rfl (lv_at hl 1 rfl) ?_
  refine lv_iload_n hx hb dX10_seeks_8 rfl (lv_at hl 2 rfl) ?_
  refine lv_iconst (v := 3) hx hb dX10_seeks_9 (by decide) ?_
  have hz3 := (show (3 : Int32).toInt = 3 by decide)
  refine z_calliV (cells := 0) (slots := 0) (b := mm) (As := [.int kk, .int 3]) (rest := []) (ci := 10) (q0 := (RX10, TX10, 54)) ⟨hx, hb, hml, hown, hT⟩ (c_X10_of l hm_mm hm_dr hf_mm hf_dr hq_dr (by first | omega | decide | assumption) (by decide)) (cwV 2 hT (z_goodV (fun _ h => h) kw_1487 kw_1489 kw_51 kw_96 kw_1490) rfl rfl rfl (by decide +kernel) ⟨by decide, by decide⟩) z_mv hKK hK hw hA hm_mm hf_mm rfl rfl rfl hl.1 rfl (Nat.le_of_ble_eq_true rfl) dX10_seeks_10 ⟨by decide, by decide⟩ (fun r4 u H locs hp hw => ?_)
  obtain ⟨rfl, hp⟩ := hp
  have hw : z_H D vwCl (z_A L sz) s.heap L f H locs := hw
  have hof_r4 : r4 = gdr (8 * kk.toNatClampNeg + 3) := hp
  have hh_r4 : 0 ≤ r4.toInt ∧ r4.toInt ≤ 23 := by rw [hof_r4]; exact (hq_dr _).2.2.2.1 (by omega)
  refine lv_istore (lv' := [(4, .int r4), (3, .int r2), (0, .ref mm), (1, .int kk), (2, .int wo)]) hx hb dX10_seeks_13 hl (by decide) rfl (fun ls hl => ?_)
  refine lv_aload_n hx hb dX10_seeks_15 rfl (lv_at hl 2 rfl) ?_
  refine lv_iconst (v := (-1)) hx hb dX10_seeks_16 (by decide) ?_
  refine z_put (C := RX10) (T := TX10) (N := 54) (ci := 10) (v := .int (-1)) (fs' := [.int m0, .ref wd, .ref my, .ref ce, .ref mv, .ref ta, .int m6, .int m7, .int m8, .int m9, .int m10, .long m11, .int m12, .int m13, .int m14, .int m15, .ref li, .ref ha, .ref lw, .ref st, .ref fo, .ref dr, .int m22, .ref ik, .int m24, .int m25, .long m26, .int m27, .int m28, .ref ro, .int m30, .ref ct, .ref se, .ref th, .ref cn, .ref be, .int m36, .ref du, .int m38, .ref db, .int (-1), .int m41, .int m42, .ref pn, .ref wg, .ref wh, .ref tn, .ref he, .int m48, .ref tr, .ref fd, .ref po, .int m52, .int m53]) hx hb hT zin_X10 tyX10_ok nmX10 hown hK hw hm_mm hf_mm rfl 40 (by decide) (hT _ kw_1208) rfl rfl rfl (Nat.le_of_ble_eq_true rfl) rfl dX10_seeks_17 (fun H locs hw => ?_)
  obtain ⟨f5, e_f5⟩ : ∃ z, z = va_up f mm (.inr (10, [.int m0, .ref wd, .ref my, .ref ce, .ref mv, .ref ta, .int m6, .int m7, .int m8, .int m9, .int m10, .long m11, .int m12, .int m13, .int m14, .int m15, .ref li, .ref ha, .ref lw, .ref st, .ref fo, .ref dr, .int m22, .ref ik, .int m24, .int m25, .long m26, .int m27, .int m28, .ref ro, .int m30, .ref ct, .ref se, .ref th, .ref cn, .ref be, .int m36, .ref du, .int m38, .ref db, .int (-1), .int m41, .int m42, .ref pn, .ref wg, .ref wh, .ref tn, .ref he, .int m48, .ref tr, .ref fd, .ref po, .int m52, .int m53])) := ⟨_, rfl⟩
  rw [← e_f5] at hw
  have hf_ha : f5 ha = .inl (cy 1, 30, .inl gha) := (congrFun e_f5 ha).trans (z_up_ne (z_tne hf_ha hf_mm (m := 340) (n := 10) rfl rfl (by decide)) hf_ha)
  have hf_dr : f5 dr = .inl (cy 1, 520, .inl gdr) := (congrFun e_f5 dr).trans (z_up_ne (z_tne hf_dr hf_mm (m := 4260) (n := 10) rfl rfl (by decide)) hf_dr)
  have hf_ro : f5 ro = .inl (cy 1, 13, .inl gro) := (congrFun e_f5 ro).trans (z_up_ne (z_tne hf_ro hf_mm (m := 204) (n := 10) rfl rfl (by decide)) hf_ro)
  have hf_lw : f5 lw = .inl (cy 1, 25, .inl glw) := (congrFun e_f5 lw).trans (z_up_ne (z_tne hf_lw hf_mm (m := 300) (n := 10) rfl rfl (by decide)) hf_lw)
  have hf_st : f5 st = .inl (cy 1, 20, .inl gst) := (congrFun e_f5 st).trans (z_up_ne (z_tne hf_st hf_mm (m := 260) (n := 10) rfl rfl (by decide)) hf_st)
  have hf_ct : f5 ct = .inl (cy 1, 4, .inl gct) := (congrFun e_f5 ct).trans (z_up_ne (z_tne hf_ct hf_mm (m := 132) (n := 10) rfl rfl (by decide)) hf_ct)
  have hf_se : f5 se = .inl (cy 1, 36, .inl gse) := (congrFun e_f5 se).trans (z_up_ne (z_tne hf_se hf_mm (m := 388) (n := 10) rfl rfl (by decide)) hf_se)
  have hf_th : f5 th = .inl (cy 1, 36, .inl gth) := (congrFun e_f5 th).trans (z_up_ne (z_tne hf_th hf_mm (m := 388) (n := 10) rfl rfl (by decide)) hf_th)
  have hf_cn : f5 cn = .inl (cy 1, 36, .inl gcn) := (congrFun e_f5 cn).trans (z_up_ne (z_tne hf_cn hf_mm (m := 388) (n := 10) rfl rfl (by decide)) hf_cn)
  have hf_db : f5 db = .inl (cy 1, 5, .inl gdb) := (congrFun e_f5 db).trans (z_up_ne (z_tne hf_db hf_mm (m := 140) (n := 10) rfl rfl (by decide)) hf_db)
  have hf_be : f5 be = .inl (cy 1, 2574, .inl gbe) := (congrFun e_f5 be).trans (z_up_ne (z_tne hf_be hf_mm (m := 20692) (n := 10) rfl rfl (by decide)) hf_be)
  have hf_du : f5 du = .inl (cy 1, 5200, .inl gdu) := (congrFun e_f5 du).trans (z_up_ne (z_tne hf_du hf_mm (m := 41700) (n := 10) rfl rfl (by decide)) hf_du)
  have hf_fo : f5 fo = .inl (cy 1, 180, .inl gfo) := (congrFun e_f5 fo).trans (z_up_ne (z_tne hf_fo hf_mm (m := 1540) (n := 10) rfl rfl (by decide)) hf_fo)
  have hf_mm : f5 mm = .inr (10, [.int m0, .ref wd, .ref my, .ref ce, .ref mv, .ref ta, .int m6, .int m7, .int m8, .int m9, .int m10, .long m11, .int m12, .int m13, .int m14, .int m15, .ref li, .ref ha, .ref lw, .ref st, .ref fo, .ref dr, .int m22, .ref ik, .int m24, .int m25, .long m26, .int m27, .int m28, .ref ro, .int m30, .ref ct, .ref se, .ref th, .ref cn, .ref be, .int m36, .ref du, .int m38, .ref db, .int (-1), .int m41, .int m42, .ref pn, .ref wg, .ref wh, .ref tn, .ref he, .int m48, .ref tr, .ref fd, .ref po, .int m52, .int m53]) := (congrFun e_f5 mm).trans z_up_self
  have hfr : ∀ b ∈ L, b ≠ mm → b ≠ ro → b ≠ ct → b ≠ se → b ≠ th → b ≠ cn → b ≠ db → b ≠ be → b ≠ du → b ≠ dr → f5 b = f b := fun b hb h0 h1 h2 h3 h4 h5 h6 h7 h8 h9 => (congrFun e_f5 b).trans (z_up_ne h0 (hfr b hb h0 h1 h2 h3 h4 h5 h6 h7 h8 h9))
  refine lv_iconst (v := 0) hx hb dX10_seeks_20 (by decide) ?_
  refine lv_istore (lv' := [(5, .int 0), (4, .int r4), (3, .int r2), (0, .ref mm), (1, .int kk), (2, .int wo)]) hx hb dX10_seeks_21 hl (by decide) rfl (fun ls hl => ?_)
  have hzk : (0 : Int32).toInt = 0 := by decide
  refine z_loop (fun n H locs ls => ∃ (K6 : Int32) (G16 : Nat → Int32) (G17 : Nat → Int32) (G18 : Nat → Int32) (G19 : Nat → Int32) (G20 : Nat → Int32) (G21 : Nat → Int32) (G22 : Nat → Int32) (G23 : Nat → Int32) (G15 : Nat → Int32) (RM8 : Int32) (DM9 : Int32) (DN10 : Int32) (XX11 : Int64) (BP12 : Int32) (BG13 : Int32) (BH14 : Int32) (f7 : Nat → va_E), (n = ((gha 0).toInt - K6.toInt).toNat) ∧ (0 ≤ K6.toInt) ∧ (K6.toInt ≤ (gha 0).toInt) ∧ (0 ≤ XX11.toInt ∧ XX11.toInt < 2147483648) ∧ (0 ≤ BG13.toInt ∧ BG13.toInt ≤ 3) ∧ (0 ≤ BH14.toInt ∧ BH14.toInt ≤ 23) ∧ (z_H D vwCl (z_A L sz) s.heap L f7 H locs) ∧ (f7 mm = .inr (10, [.int m0, .ref wd, .ref my, .ref ce, .ref mv, .ref ta, .int m6, .int m7, .int m8, .int m9, .int m10, .long m11, .int m12, .int m13, .int m14, .int m15, .ref li, .ref ha, .ref lw, .ref st, .ref fo, .ref dr, .int m22, .ref ik, .int m24, .int m25, .long XX11, .int m27, .int m28, .ref ro, .int RM8, .ref ct, .ref se, .ref th, .ref cn, .ref be, .int DN10, .ref du, .int DM9, .ref db, .int BP12, .int BG13, .int BH14, .ref pn, .ref wg, .ref wh, .ref tn, .ref he, .int m48, .ref tr, .ref fd, .ref po, .int m52, .int m53])) ∧ (f7 ha = .inl (cy 1, 30, .inl gha)) ∧ (f7 dr = .inl (cy 1, 520, .inl G15)) ∧ (f7 ro = .inl (cy 1, 13, .inl G16)) ∧ (f7 lw = .inl (cy 1, 25, .inl glw)) ∧ (f7 st = .inl (cy 1, 20, .inl gst)) ∧ (f7 ct = .inl (cy 1, 4, .inl G17)) ∧ (f7 se = .inl (cy 1, 36, .inl G18)) ∧ (f7 th = .inl (cy 1, 36, .inl G19)) ∧ (f7 cn = .inl (cy 1, 36, .inl G20)) ∧ (f7 db = .inl (cy 1, 5, .inl G21)) ∧ (f7 be = .inl (cy 1, 2574, .inl G22)) ∧ (f7 du = .inl (cy 1, 5200, .inl G23)) ∧ (f7 fo = .inl (cy 1, 180, .inl gfo)) ∧ (∀ b ∈ L, b ≠ mm → b ≠ ro → b ≠ ct → b ≠ se → b ≠ th → b ≠ cn → b ≠ db → b ≠ be → b ≠ du → b ≠ dr → f7 b = f b) ∧ (∀ j : Nat, q_12 j (G16 j)) ∧ (∀ j : Nat, q_law j (G17 j)) ∧ (∀ j : Nat, q_be j (G22 j)) ∧ (∀ j : Nat, q_du j (G23 j)) ∧ (∀ j : Nat, q_drv j (G15 j)) ∧ (lv_has ls 7 [(5, .int K6), (4, .int r4), (3, .int r2), (0, .ref mm), (1, .int kk), (2, .int wo)])) _ ⟨0, gro, gct, gse, gth, gcn, gdb, gbe, gdu, gdr, m30, m38, m36, m26, (-1), m41, m42, f5, rfl, (by first | decide | omega), (by first | decide | omega), (by omega), (by omega), (by omega), hw, hf_mm, hf_ha, hf_dr, hf_ro, hf_lw, hf_st, hf_ct, hf_se, hf_th, hf_cn, hf_db, hf_be, hf_du, hf_fo, hfr, hq_ro, hq_ct, hq_be, hq_du, hq_dr, (lv_sub hl [0, 1, 2, 3, 4, 5] rfl)⟩ (fun n H locs ls hI ih_23 => ?_)
  obtain ⟨K6, G16, G17, G18, G19, G20, G21, G22, G23, G15, RM8, DM9, DN10, XX11, BP12, BG13, BH14, f7, hn, hk0, hk1, hi0, hi1, hi2, hw, hf_mm, hf_ha, hf_dr, hf_ro, hf_lw, hf_st, hf_ct, hf_se, hf_th, hf_cn, hf_db, hf_be, hf_du, hf_fo, hfr, hq_ro, hq_ct, hq_be, hq_du, hq_dr, hl⟩ := hI
  refine lv_iload hx hb dX10_seeks_23 (lv_at hl 0 rfl) ?_
  refine lv_aload_n hx hb dX10_seeks_25 rfl (lv_at hl 3 rfl) ?_
  refine z_get (C := RX10) (T := TX10) (N := 54) (ci := 10) (v := .ref ha) hx hb hT zin_X10 hown hK hw hm_mm hf_mm rfl 17 (by decide) (hT _ kw_1185) rfl dX10_seeks_26 ?_
  refine lv_iconst (v := 0) hx hb dX10_seeks_29 (by decide) ?_
  refine z_iald hx hb hK hw 1 hm_ha hf_ha rfl (z_ix (show (0 : Int32).toInt = 0 by decide) (by decide)) dX10_seeks_30 ?_
  refine lv_topi (fun w24 e_w24 => ?_)
  have hv_w24 : 0 ≤ w24.toInt ∧ w24.toInt ≤ 4 := by rw [e_w24]; exact (hq_ha _).1 rfl
  have hgw_w24 : w24.toInt = (gha 0).toInt := by rw [e_w24]; rfl
  refine z_icmp_ge (tgt := 113) hx hb rfl rfl dX10_seeks_31 (by decide) (fun c25 => ?_) (fun c25 => ?_)
  · skip
    refine lv_aload_n hx hb dX10_seeks_113 rfl (lv_at hl 3 rfl) ?_
    refine lv_iload_n hx hb dX10_seeks_114 rfl (lv_at hl 4 rfl) ?_
    refine lv_iload_n hx hb dX10_seeks_115 rfl (lv_at hl 2 rfl) ?_
    refine lv_iload hx hb dX10_seeks_116 (lv_at hl 1 rfl) ?_
    refine z_callvV (cells := 0) (slots := 0) (b := mm) (As := [.int kk, .int r2, .int r4]) (rest := []) (ci := 10) (q0 := (RX10, TX10, 54)) ⟨hx, hb, hml, hown, hT⟩ (c_X10_goesTo l hm_mm hm_dr hf_mm hf_dr hq_dr (by first | omega | decide | assumption) (by first | omega | decide | assumption) (by first | omega | decide | assumption)) (cwV 3 hT (z_goodV (fun _ h => h) kw_1527 kw_1529 kw_56 kw_96 kw_1530) rfl rfl rfl (by decide +kernel) ⟨by decide, by decide⟩) z_mv hKK hK hw hA hm_mm hf_mm rfl rfl rfl hl.1 rfl (Nat.le_of_ble_eq_true rfl) dX10_seeks_118 ⟨by decide, by decide⟩ (fun u H locs hp hw => ?_)
    obtain ⟨L26, f27⟩ := u
    obtain ⟨hsb, hfm, ndr_28, ha_0, hq_dr, hp⟩ := hp
    have hsb : L = L26 := hsb
    subst hsb
    have hsb : ∀ b ∈ L, b ∈ L := fun _ h => h
    have hw : z_H D vwCl (z_A L sz) s.heap L f27 H locs := hw
    have hfr : ∀ b ∈ L, b ≠ mm → b ≠ ro → b ≠ ct → b ≠ se → b ≠ th → b ≠ cn → b ≠ db → b ≠ be → b ≠ du → b ≠ dr → f27 b = f b := fun b hb h0 h1 h2 h3 h4 h5 h6 h7 h8 h9 => (hfm b hb h9).trans (hfr b hb h0 h1 h2 h3 h4 h5 h6 h7 h8 h9)
    have hf_mm : f27 mm = .inr (10, [.int m0, .ref wd, .ref my, .ref ce, .ref mv, .ref ta, .int m6, .int m7, .int m8, .int m9, .int m10, .long m11, .int m12, .int m13, .int m14, .int m15, .ref li, .ref ha, .ref lw, .ref st, .ref fo, .ref dr, .int m22, .ref ik, .int m24, .int m25, .long XX11, .int m27, .int m28, .ref ro, .int RM8, .ref ct, .ref se, .ref th, .ref cn, .ref be, .int DN10, .ref du, .int DM9, .ref db, .int BP12, .int BG13, .int BH14, .ref pn, .ref wg, .ref wh, .ref tn, .ref he, .int m48, .ref tr, .ref fd, .ref po, .int m52, .int m53]) := (hfm mm hm_mm (z_tne hf_mm hf_dr (m := 10) (n := 4260) rfl rfl (by decide))).trans hf_mm
    have hf_ha : f27 ha = .inl (cy 1, 30, .inl gha) := (hfm ha hm_ha (z_tne hf_ha hf_dr (m := 340) (n := 4260) rfl rfl (by decide))).trans hf_ha
    have hf_ro : f27 ro = .inl (cy 1, 13, .inl G16) := (hfm ro hm_ro (z_tne hf_ro hf_dr (m := 204) (n := 4260) rfl rfl (by decide))).trans hf_ro
    have hf_lw : f27 lw = .inl (cy 1, 25, .inl glw) := (hfm lw hm_lw (z_tne hf_lw hf_dr (m := 300) (n := 4260) rfl rfl (by decide))).trans hf_lw
    have hf_st : f27 st = .inl (cy 1, 20, .inl gst) := (hfm st hm_st (z_tne hf_st hf_dr (m := 260) (n := 4260) rfl rfl (by decide))).trans hf_st
    have hf_ct : f27 ct = .inl (cy 1, 4, .inl G17) := (hfm ct hm_ct (z_tne hf_ct hf_dr (m := 132) (n := 4260) rfl rfl (by decide))).trans hf_ct
    have hf_se : f27 se = .inl (cy 1, 36, .inl G18) := (hfm se hm_se (z_tne hf_se hf_dr (m := 388) (n := 4260) rfl rfl (by decide))).trans hf_se
    have hf_th : f27 th = .inl (cy 1, 36, .inl G19) := (hfm th hm_th (z_tne hf_th hf_dr (m := 388) (n := 4260) rfl rfl (by decide))).trans hf_th
    have hf_cn : f27 cn = .inl (cy 1, 36, .inl G20) := (hfm cn hm_cn (z_tne hf_cn hf_dr (m := 388) (n := 4260) rfl rfl (by decide))).trans hf_cn
    have hf_db : f27 db = .inl (cy 1, 5, .inl G21) := (hfm db hm_db (z_tne hf_db hf_dr (m := 140) (n := 4260) rfl rfl (by decide))).trans hf_db
    have hf_be : f27 be = .inl (cy 1, 2574, .inl G22) := (hfm be hm_be (z_tne hf_be hf_dr (m := 20692) (n := 4260) rfl rfl (by decide))).trans hf_be
    have hf_du : f27 du = .inl (cy 1, 5200, .inl G23) := (hfm du hm_du (z_tne hf_du hf_dr (m := 41700) (n := 4260) rfl rfl (by decide))).trans hf_du
    have hf_fo : f27 fo = .inl (cy 1, 180, .inl gfo) := (hfm fo hm_fo (z_tne hf_fo hf_dr (m := 1540) (n := 4260) rfl rfl (by decide))).trans hf_fo
    have hf_dr : f27 dr = .inl (cy 1, 520, .inl ndr_28) := ha_0
    exact z_vret hx hb hr hlk (by decide) (by decide) hw (⟨hsub, hfr, RM8, DM9, DN10, BP12, BG13, BH14, XX11, G16, G17, G18, G19, G20, G21, G22, G23, ndr_28, hf_mm, hf_ro, hf_ct, hf_se, hf_th, hf_cn, hf_db, hf_be, hf_du, hf_dr, hq_ro, hq_ct, hq_be, hq_du, hq_dr, by omega, by omega, by omega⟩) dX10_seeks_121
  · skip
    refine lv_iconst (v := 0) hx hb dX10_seeks_34 (by decide) ?_
    refine lv_istore (lv' := [(6, .int 0), (5, .int K6), (4, .int r4), (3, .int r2), (0, .ref mm), (1, .int kk), (2, .int wo)]) hx hb dX10_seeks_35 hl (by decide) rfl (fun ls hl => ?_)
    have hzk : (0 : Int32).toInt = 0 := by decide
    refine z_loop (fun n H locs ls => ∃ (K29 : Int32) (G39 : Nat → Int32) (G40 : Nat → Int32) (G41 : Nat → Int32) (G42 : Nat → Int32) (G43 : Nat → Int32) (G44 : Nat → Int32) (G45 : Nat → Int32) (G46 : Nat → Int32) (G38 : Nat → Int32) (RM31 : Int32) (DM32 : Int32) (DN33 : Int32) (XX34 : Int64) (BP35 : Int32) (BG36 : Int32) (BH37 : Int32) (f30 : Nat → va_E), (n = (24 - K29.toInt).toNat) ∧ (0 ≤ K29.toInt) ∧ (K29.toInt ≤ 24) ∧ (0 ≤ XX34.toInt ∧ XX34.toInt < 2147483648) ∧ (0 ≤ BG36.toInt ∧ BG36.toInt ≤ 3) ∧ (0 ≤ BH37.toInt ∧ BH37.toInt ≤ 23) ∧ (z_H D vwCl (z_A L sz) s.heap L f30 H locs) ∧ (f30 mm = .inr (10, [.int m0, .ref wd, .ref my, .ref ce, .ref mv, .ref ta, .int m6, .int m7, .int m8, .int m9, .int m10, .long m11, .int m12, .int m13, .int m14, .int m15, .ref li, .ref ha, .ref lw, .ref st, .ref fo, .ref dr, .int m22, .ref ik, .int m24, .int m25, .long XX34, .int m27, .int m28, .ref ro, .int RM31, .ref ct, .ref se, .ref th, .ref cn, .ref be, .int DN33, .ref du, .int DM32, .ref db, .int BP35, .int BG36, .int BH37, .ref pn, .ref wg, .ref wh, .ref tn, .ref he, .int m48, .ref tr, .ref fd, .ref po, .int m52, .int m53])) ∧ (f30 ha = .inl (cy 1, 30, .inl gha)) ∧ (f30 dr = .inl (cy 1, 520, .inl G38)) ∧ (f30 ro = .inl (cy 1, 13, .inl G39)) ∧ (f30 lw = .inl (cy 1, 25, .inl glw)) ∧ (f30 st = .inl (cy 1, 20, .inl gst)) ∧ (f30 ct = .inl (cy 1, 4, .inl G40)) ∧ (f30 se = .inl (cy 1, 36, .inl G41)) ∧ (f30 th = .inl (cy 1, 36, .inl G42)) ∧ (f30 cn = .inl (cy 1, 36, .inl G43)) ∧ (f30 db = .inl (cy 1, 5, .inl G44)) ∧ (f30 be = .inl (cy 1, 2574, .inl G45)) ∧ (f30 du = .inl (cy 1, 5200, .inl G46)) ∧ (f30 fo = .inl (cy 1, 180, .inl gfo)) ∧ (∀ b ∈ L, b ≠ mm → b ≠ ro → b ≠ ct → b ≠ se → b ≠ th → b ≠ cn → b ≠ db → b ≠ be → b ≠ du → b ≠ dr → f30 b = f b) ∧ (∀ j : Nat, q_12 j (G39 j)) ∧ (∀ j : Nat, q_law j (G40 j)) ∧ (∀ j : Nat, q_be j (G45 j)) ∧ (∀ j : Nat, q_du j (G46 j)) ∧ (∀ j : Nat, q_drv j (G38 j)) ∧ (lv_has ls 7 [(6, .int K29), (5, .int K6), (4, .int r4), (3, .int r2), (0, .ref mm), (1, .int kk), (2, .int wo)])) _ ⟨0, G16, G17, G18, G19, G20, G21, G22, G23, G15, RM8, DM9, DN10, XX11, BP12, BG13, BH14, f7, rfl, (by first | decide | omega), (by first | decide | omega), (by omega), (by omega), (by omega), hw, hf_mm, hf_ha, hf_dr, hf_ro, hf_lw, hf_st, hf_ct, hf_se, hf_th, hf_cn, hf_db, hf_be, hf_du, hf_fo, hfr, hq_ro, hq_ct, hq_be, hq_du, hq_dr, (lv_sub hl [0, 1, 2, 3, 4, 5, 6] rfl)⟩ (fun n H locs ls hI ih_37 => ?_)
    obtain ⟨K29, G39, G40, G41, G42, G43, G44, G45, G46, G38, RM31, DM32, DN33, XX34, BP35, BG36, BH37, f30, hn, hk0, hk1, hi0, hi1, hi2, hw, hf_mm, hf_ha, hf_dr, hf_ro, hf_lw, hf_st, hf_ct, hf_se, hf_th, hf_cn, hf_db, hf_be, hf_du, hf_fo, hfr, hq_ro, hq_ct, hq_be, hq_du, hq_dr, hl⟩ := hI
    refine lv_iload hx hb dX10_seeks_37 (lv_at hl 0 rfl) ?_
    refine lv_bipush (v := 24) hx hb dX10_seeks_39 (by decide) ?_
    refine z_icmp_ge (tgt := 107) hx hb rfl (show (24 : Int32).toInt = 24 by decide) dX10_seeks_41 (by decide) (fun c47 => ?_) (fun c47 => ?_)
    · skip
      obtain ⟨k48, e_k48⟩ : ∃ z : Int32, z = K6 + 1 := ⟨_, rfl⟩
      refine lv_iinc (v := k48) (lv' := [(5, .int k48), (6, .int K29), (4, .int r4), (3, .int r2), (0, .ref mm), (1, .int kk), (2, .int wo)]) hx hb dX10_seeks_107 hl (k := 1) rfl (by rw [e_k48]; rfl) (by decide) rfl (fun ls hl => ?_)
      have i_k48 : k48.toInt = (K6.toInt + 1) := z_add e_k48 rfl (by decide) (by omega)
      refine lv_goto (tgt := 23) hx hb dX10_seeks_110 (by decide) ?_
      exact ih_23 _ (by omega) _ _ _ ⟨k48, G39, G40, G41, G42, G43, G44, G45, G46, G38, RM31, DM32, DN33, XX34, BP35, BG36, BH37, f30, rfl, (by first | decide | omega), (by first | decide | omega), (by omega), (by omega), (by omega), hw, hf_mm, hf_ha, hf_dr, hf_ro, hf_lw, hf_st, hf_ct, hf_se, hf_th, hf_cn, hf_db, hf_be, hf_du, hf_fo, hfr, hq_ro, hq_ct, hq_be, hq_du, hq_dr, (lv_sub hl [0, 2, 3, 4, 5, 6] rfl)⟩
    · skip
      refine lv_aload_n hx hb dX10_seeks_44 rfl (lv_at hl 4 rfl) ?_
      refine lv_iload_n hx hb dX10_seeks_45 rfl (lv_at hl 5 rfl) ?_
      refine lv_iload hx hb dX10_seeks_46 (lv_at hl 1 rfl) ?_
      refine lv_iload hx hb dX10_seeks_48 (lv_at hl 0 rfl) ?_
      refine z_callvV (cells := 0) (slots := 0) (b := mm) (As := [.int kk, .int K6, .int K29]) (rest := []) (ci := 10) (q0 := (RX10, TX10, 54)) ⟨hx, hb, hml, hown, hT⟩ (c_X10_goesTo l hm_mm hm_dr hf_mm hf_dr hq_dr (by first | omega | decide | assumption) (by first | omega | decide | assumption) (by first | omega | decide | assumption)) (cwV 3 hT (z_goodV (fun _ h => h) kw_1527 kw_1529 kw_56 kw_96 kw_1530) rfl rfl rfl (by decide +kernel) ⟨by decide, by decide⟩) z_mv hKK hK hw hA hm_mm hf_mm rfl rfl rfl hl.1 rfl (Nat.le_of_ble_eq_true rfl) dX10_seeks_50 ⟨by decide, by decide⟩ (fun u H locs hp hw => ?_)
      obtain ⟨L49, f50⟩ := u
      obtain ⟨hsb, hfm, ndr_51, ha_0, hq_dr, hp⟩ := hp
      have hsb : L = L49 := hsb
      subst hsb
      have hsb : ∀ b ∈ L, b ∈ L := fun _ h => h
      have hw : z_H D vwCl (z_A L sz) s.heap L f50 H locs := hw
      have hfr : ∀ b ∈ L, b ≠ mm → b ≠ ro → b ≠ ct → b ≠ se → b ≠ th → b ≠ cn → b ≠ db → b ≠ be → b ≠ du → b ≠ dr → f50 b = f b := fun b hb h0 h1 h2 h3 h4 h5 h6 h7 h8 h9 => (hfm b hb h9).trans (hfr b hb h0 h1 h2 h3 h4 h5 h6 h7 h8 h9)
      have hf_mm : f50 mm = .inr (10, [.int m0, .ref wd, .ref my, .ref ce, .ref mv, .ref ta, .int m6, .int m7, .int m8, .int m9, .int m10, .long m11, .int m12, .int m13, .int m14, .int m15, .ref li, .ref ha, .ref lw, .ref st, .ref fo, .ref dr, .int m22, .ref ik, .int m24, .int m25, .long XX34, .int m27, .int m28, .ref ro, .int RM31, .ref ct, .ref se, .ref th, .ref cn, .ref be, .int DN33, .ref du, .int DM32, .ref db, .int BP35, .int BG36, .int BH37, .ref pn, .ref wg, .ref wh, .ref tn, .ref he, .int m48, .ref tr, .ref fd, .ref po, .int m52, .int m53]) := (hfm mm hm_mm (z_tne hf_mm hf_dr (m := 10) (n := 4260) rfl rfl (by decide))).trans hf_mm
      have hf_ha : f50 ha = .inl (cy 1, 30, .inl gha) := (hfm ha hm_ha (z_tne hf_ha hf_dr (m := 340) (n := 4260) rfl rfl (by decide))).trans hf_ha
      have hf_ro : f50 ro = .inl (cy 1, 13, .inl G39) := (hfm ro hm_ro (z_tne hf_ro hf_dr (m := 204) (n := 4260) rfl rfl (by decide))).trans hf_ro
      have hf_lw : f50 lw = .inl (cy 1, 25, .inl glw) := (hfm lw hm_lw (z_tne hf_lw hf_dr (m := 300) (n := 4260) rfl rfl (by decide))).trans hf_lw
      have hf_st : f50 st = .inl (cy 1, 20, .inl gst) := (hfm st hm_st (z_tne hf_st hf_dr (m := 260) (n := 4260) rfl rfl (by decide))).trans hf_st
      have hf_ct : f50 ct = .inl (cy 1, 4, .inl G40) := (hfm ct hm_ct (z_tne hf_ct hf_dr (m := 132) (n := 4260) rfl rfl (by decide))).trans hf_ct
      have hf_se : f50 se = .inl (cy 1, 36, .inl G41) := (hfm se hm_se (z_tne hf_se hf_dr (m := 388) (n := 4260) rfl rfl (by decide))).trans hf_se
      have hf_th : f50 th = .inl (cy 1, 36, .inl G42) := (hfm th hm_th (z_tne hf_th hf_dr (m := 388) (n := 4260) rfl rfl (by decide))).trans hf_th
      have hf_cn : f50 cn = .inl (cy 1, 36, .inl G43) := (hfm cn hm_cn (z_tne hf_cn hf_dr (m := 388) (n := 4260) rfl rfl (by decide))).trans hf_cn
      have hf_db : f50 db = .inl (cy 1, 5, .inl G44) := (hfm db hm_db (z_tne hf_db hf_dr (m := 140) (n := 4260) rfl rfl (by decide))).trans hf_db
      have hf_be : f50 be = .inl (cy 1, 2574, .inl G45) := (hfm be hm_be (z_tne hf_be hf_dr (m := 20692) (n := 4260) rfl rfl (by decide))).trans hf_be
      have hf_du : f50 du = .inl (cy 1, 5200, .inl G46) := (hfm du hm_du (z_tne hf_du hf_dr (m := 41700) (n := 4260) rfl rfl (by decide))).trans hf_du
      have hf_fo : f50 fo = .inl (cy 1, 180, .inl gfo) := (hfm fo hm_fo (z_tne hf_fo hf_dr (m := 1540) (n := 4260) rfl rfl (by decide))).trans hf_fo
      have hf_dr : f50 dr = .inl (cy 1, 520, .inl ndr_51) := ha_0
      refine lv_aload_n hx hb dX10_seeks_53 rfl (lv_at hl 4 rfl) ?_
      refine z_callvV (cells := 0) (slots := 0) (b := mm) (As := []) (rest := []) (ci := 10) (q0 := (RX10, TX10, 54)) ⟨hx, hb, hml, hown, hT⟩ (c_X10_goes_ l hm_mm hm_ha hm_dr hm_ro hm_lw hm_st hm_ct hm_se hm_th hm_cn hm_db hm_be hm_du hm_fo hf_mm hf_ha hf_dr hf_ro hf_lw hf_st hf_ct hf_se hf_th hf_cn hf_db hf_be hf_du hf_fo ne_se_th ne_se_cn ne_th_cn hq_ha hq_dr hq_ro hq_lw hq_st hq_ct hq_be hq_du (by first | omega | decide | assumption) (by omega) (by first | omega | decide | assumption)) (cwV 0 hT (z_goodV (fun _ h => h) kw_1543 kw_1545 kw_59 kw_96 kw_1546) rfl rfl rfl (by decide +kernel) ⟨by decide, by decide⟩) z_mv hKK hK hw hA hm_mm hf_mm rfl rfl rfl hl.1 rfl (Nat.le_of_ble_eq_true rfl) dX10_seeks_54 ⟨by decide, by decide⟩ (fun u H locs hp hw => ?_)
      obtain ⟨L52, f53⟩ := u
      obtain ⟨hsb, hfm, n2_54, d2_55, y2_56, x2_57, nro_58, nct_59, nse_60, nth_61, ncn_62, ndb_63, nbe_64, ndu_65, ha_0, ha_1, ha_2, ha_3, ha_4, ha_5, ha_6, ha_7, ha_8, hq_ro, hq_ct, hq_be, hq_du, hp⟩ := hp
      have hsb : L = L52 := hsb
      subst hsb
      have hsb : ∀ b ∈ L, b ∈ L := fun _ h => h
      have hw : z_H D vwCl (z_A L sz) s.heap L f53 H locs := hw
      have hfr : ∀ b ∈ L, b ≠ mm → b ≠ ro → b ≠ ct → b ≠ se → b ≠ th → b ≠ cn → b ≠ db → b ≠ be → b ≠ du → b ≠ dr → f53 b = f b := fun b hb h0 h1 h2 h3 h4 h5 h6 h7 h8 h9 => (hfm b hb h0 h1 h2 h3 h4 h5 h6 h7 h8).trans (hfr b hb h0 h1 h2 h3 h4 h5 h6 h7 h8 h9)
      have hf_ha : f53 ha = .inl (cy 1, 30, .inl gha) := (hfm ha hm_ha (z_tne hf_ha hf_mm (m := 340) (n := 10) rfl rfl (by decide)) (z_tne hf_ha hf_ro (m := 340) (n := 204) rfl rfl (by decide)) (z_tne hf_ha hf_ct (m := 340) (n := 132) rfl rfl (by decide)) (z_tne hf_ha hf_se (m := 340) (n := 388) rfl rfl (by decide)) (z_tne hf_ha hf_th (m := 340) (n := 388) rfl rfl (by decide)) (z_tne hf_ha hf_cn (m := 340) (n := 388) rfl rfl (by decide)) (z_tne hf_ha hf_db (m := 340) (n := 140) rfl rfl (by decide)) (z_tne hf_ha hf_be (m := 340) (n := 20692) rfl rfl (by decide)) (z_tne hf_ha hf_du (m := 340) (n := 41700) rfl rfl (by decide))).trans hf_ha
      have hf_dr : f53 dr = .inl (cy 1, 520, .inl ndr_51) := (hfm dr hm_dr (z_tne hf_dr hf_mm (m := 4260) (n := 10) rfl rfl (by decide)) (z_tne hf_dr hf_ro (m := 4260) (n := 204) rfl rfl (by decide)) (z_tne hf_dr hf_ct (m := 4260) (n := 132) rfl rfl (by decide)) (z_tne hf_dr hf_se (m := 4260) (n := 388) rfl rfl (by decide)) (z_tne hf_dr hf_th (m := 4260) (n := 388) rfl rfl (by decide)) (z_tne hf_dr hf_cn (m := 4260) (n := 388) rfl rfl (by decide)) (z_tne hf_dr hf_db (m := 4260) (n := 140) rfl rfl (by decide)) (z_tne hf_dr hf_be (m := 4260) (n := 20692) rfl rfl (by decide)) (z_tne hf_dr hf_du (m := 4260) (n := 41700) rfl rfl (by decide))).trans hf_dr
      have hf_lw : f53 lw = .inl (cy 1, 25, .inl glw) := (hfm lw hm_lw (z_tne hf_lw hf_mm (m := 300) (n := 10) rfl rfl (by decide)) (z_tne hf_lw hf_ro (m := 300) (n := 204) rfl rfl (by decide)) (z_tne hf_lw hf_ct (m := 300) (n := 132) rfl rfl (by decide)) (z_tne hf_lw hf_se (m := 300) (n := 388) rfl rfl (by decide)) (z_tne hf_lw hf_th (m := 300) (n := 388) rfl rfl (by decide)) (z_tne hf_lw hf_cn (m := 300) (n := 388) rfl rfl (by decide)) (z_tne hf_lw hf_db (m := 300) (n := 140) rfl rfl (by decide)) (z_tne hf_lw hf_be (m := 300) (n := 20692) rfl rfl (by decide)) (z_tne hf_lw hf_du (m := 300) (n := 41700) rfl rfl (by decide))).trans hf_lw
      have hf_st : f53 st = .inl (cy 1, 20, .inl gst) := (hfm st hm_st (z_tne hf_st hf_mm (m := 260) (n := 10) rfl rfl (by decide)) (z_tne hf_st hf_ro (m := 260) (n := 204) rfl rfl (by decide)) (z_tne hf_st hf_ct (m := 260) (n := 132) rfl rfl (by decide)) (z_tne hf_st hf_se (m := 260) (n := 388) rfl rfl (by decide)) (z_tne hf_st hf_th (m := 260) (n := 388) rfl rfl (by decide)) (z_tne hf_st hf_cn (m := 260) (n := 388) rfl rfl (by decide)) (z_tne hf_st hf_db (m := 260) (n := 140) rfl rfl (by decide)) (z_tne hf_st hf_be (m := 260) (n := 20692) rfl rfl (by decide)) (z_tne hf_st hf_du (m := 260) (n := 41700) rfl rfl (by decide))).trans hf_st
      have hf_fo : f53 fo = .inl (cy 1, 180, .inl gfo) := (hfm fo hm_fo (z_tne hf_fo hf_mm (m := 1540) (n := 10) rfl rfl (by decide)) (z_tne hf_fo hf_ro (m := 1540) (n := 204) rfl rfl (by decide)) (z_tne hf_fo hf_ct (m := 1540) (n := 132) rfl rfl (by decide)) (z_tne hf_fo hf_se (m := 1540) (n := 388) rfl rfl (by decide)) (z_tne hf_fo hf_th (m := 1540) (n := 388) rfl rfl (by decide)) (z_tne hf_fo hf_cn (m := 1540) (n := 388) rfl rfl (by decide)) (z_tne hf_fo hf_db (m := 1540) (n := 140) rfl rfl (by decide)) (z_tne hf_fo hf_be (m := 1540) (n := 20692) rfl rfl (by decide)) (z_tne hf_fo hf_du (m := 1540) (n := 41700) rfl rfl (by decide))).trans hf_fo
      have hf_mm : f53 mm = .inr (10, [.int m0, .ref wd, .ref my, .ref ce, .ref mv, .ref ta, .int m6, .int m7, .int m8, .int m9, .int m10, .long m11, .int m12, .int m13, .int m14, .int m15, .ref li, .ref ha, .ref lw, .ref st, .ref fo, .ref dr, .int m22, .ref ik, .int m24, .int m25, .long x2_57, .int m27, .int m28, .ref ro, .int n2_54, .ref ct, .ref se, .ref th, .ref cn, .ref be, .int y2_56, .ref du, .int d2_55, .ref db, .int BP35, .int BG36, .int BH37, .ref pn, .ref wg, .ref wh, .ref tn, .ref he, .int m48, .ref tr, .ref fd, .ref po, .int m52, .int m53]) := ha_0
      have hf_ro : f53 ro = .inl (cy 1, 13, .inl nro_58) := ha_1
      have hf_ct : f53 ct = .inl (cy 1, 4, .inl nct_59) := ha_2
      have hf_se : f53 se = .inl (cy 1, 36, .inl nse_60) := ha_3
      have hf_th : f53 th = .inl (cy 1, 36, .inl nth_61) := ha_4
      have hf_cn : f53 cn = .inl (cy 1, 36, .inl ncn_62) := ha_5
      have hf_db : f53 db = .inl (cy 1, 5, .inl ndb_63) := ha_6
      have hf_be : f53 be = .inl (cy 1, 2574, .inl nbe_64) := ha_7
      have hf_du : f53 du = .inl (cy 1, 5200, .inl ndu_65) := ha_8
      have hgx := hp.2.2.1
      clear hp
      refine lv_aload_n hx hb dX10_seeks_57 rfl (lv_at hl 4 rfl) ?_
      refine z_get (C := RX10) (T := TX10) (N := 54) (ci := 10) (v := .int BP35) hx hb hT zin_X10 hown hK hw hm_mm hf_mm rfl 40 (by decide) (hT _ kw_1208) rfl dX10_seeks_58 ?_
      refine lv_iconst (v := (-1)) hx hb dX10_seeks_61 (by decide) ?_
      refine z_icmp_eq (tgt := 80) hx hb rfl (show ((-1) : Int32).toInt = (-1) by decide) dX10_seeks_62 (by decide) (fun c66 => ?_) (fun c66 => ?_)
      · skip
        refine lv_aload_n hx hb dX10_seeks_80 rfl (lv_at hl 4 rfl) ?_
        refine lv_aload_n hx hb dX10_seeks_81 rfl (lv_at hl 4 rfl) ?_
        refine lv_iload_n hx hb dX10_seeks_82 rfl (lv_at hl 6 rfl) ?_
        refine z_calliV (cells := 0) (slots := 0) (b := mm) (As := [.int wo]) (rest := [.ref mm]) (ci := 10) (q0 := (RX10, TX10, 54)) ⟨hx, hb, hml, hown, hT⟩ (c_X10_paidBy l hm_mm hm_db hm_lw hf_mm hf_db hf_lw hq_lw (by first | omega | decide | assumption)) (cwV 1 hT (z_goodV (fun _ h => h) kw_1608 kw_1610 kw_70 kw_96 kw_1611) rfl rfl rfl (by decide +kernel) ⟨by decide, by decide⟩) z_mv hKK hK hw hA hm_mm hf_mm rfl rfl rfl hl.1 rfl (Nat.le_of_ble_eq_true rfl) dX10_seeks_83 ⟨by decide, by decide⟩ (fun r67 u H locs hp hw => ?_)
        obtain ⟨rfl, hp⟩ := hp
        have hw : z_H D vwCl (z_A L sz) s.heap L f53 H locs := hw
        refine z_put (C := RX10) (T := TX10) (N := 54) (ci := 10) (v := .int r67) (fs' := [.int m0, .ref wd, .ref my, .ref ce, .ref mv, .ref ta, .int m6, .int m7, .int m8, .int m9, .int m10, .long m11, .int m12, .int m13, .int m14, .int m15, .ref li, .ref ha, .ref lw, .ref st, .ref fo, .ref dr, .int m22, .ref ik, .int m24, .int m25, .long x2_57, .int m27, .int m28, .ref ro, .int n2_54, .ref ct, .ref se, .ref th, .ref cn, .ref be, .int y2_56, .ref du, .int d2_55, .ref db, .int r67, .int BG36, .int BH37, .ref pn, .ref wg, .ref wh, .ref tn, .ref he, .int m48, .ref tr, .ref fd, .ref po, .int m52, .int m53]) hx hb hT zin_X10 tyX10_ok nmX10 hown hK hw hm_mm hf_mm rfl 40 (by decide) (hT _ kw_1208) rfl rfl rfl (Nat.le_of_ble_eq_true rfl) rfl dX10_seeks_86 (fun H locs hw => ?_)
        obtain ⟨f68, e_f68⟩ : ∃ z, z = va_up f53 mm (.inr (10, [.int m0, .ref wd, .ref my, .ref ce, .ref mv, .ref ta, .int m6, .int m7, .int m8, .int m9, .int m10, .long m11, .int m12, .int m13, .int m14, .int m15, .ref li, .ref ha, .ref lw, .ref st, .ref fo, .ref dr, .int m22, .ref ik, .int m24, .int m25, .long x2_57, .int m27, .int m28, .ref ro, .int n2_54, .ref ct, .ref se, .ref th, .ref cn, .ref be, .int y2_56, .ref du, .int d2_55, .ref db, .int r67, .int BG36, .int BH37, .ref pn, .ref wg, .ref wh, .ref tn, .ref he, .int m48, .ref tr, .ref fd, .ref po, .int m52, .int m53])) := ⟨_, rfl⟩
        rw [← e_f68] at hw
        have hf_ha : f68 ha = .inl (cy 1, 30, .inl gha) := (congrFun e_f68 ha).trans (z_up_ne (z_tne hf_ha hf_mm (m := 340) (n := 10) rfl rfl (by decide)) hf_ha)
        have hf_dr : f68 dr = .inl (cy 1, 520, .inl ndr_51) := (congrFun e_f68 dr).trans (z_up_ne (z_tne hf_dr hf_mm (m := 4260) (n := 10) rfl rfl (by decide)) hf_dr)
        have hf_ro : f68 ro = .inl (cy 1, 13, .inl nro_58) := (congrFun e_f68 ro).trans (z_up_ne (z_tne hf_ro hf_mm (m := 204) (n := 10) rfl rfl (by decide)) hf_ro)
        have hf_lw : f68 lw = .inl (cy 1, 25, .inl glw) := (congrFun e_f68 lw).trans (z_up_ne (z_tne hf_lw hf_mm (m := 300) (n := 10) rfl rfl (by decide)) hf_lw)
        have hf_st : f68 st = .inl (cy 1, 20, .inl gst) := (congrFun e_f68 st).trans (z_up_ne (z_tne hf_st hf_mm (m := 260) (n := 10) rfl rfl (by decide)) hf_st)
        have hf_ct : f68 ct = .inl (cy 1, 4, .inl nct_59) := (congrFun e_f68 ct).trans (z_up_ne (z_tne hf_ct hf_mm (m := 132) (n := 10) rfl rfl (by decide)) hf_ct)
        have hf_se : f68 se = .inl (cy 1, 36, .inl nse_60) := (congrFun e_f68 se).trans (z_up_ne (z_tne hf_se hf_mm (m := 388) (n := 10) rfl rfl (by decide)) hf_se)
        have hf_th : f68 th = .inl (cy 1, 36, .inl nth_61) := (congrFun e_f68 th).trans (z_up_ne (z_tne hf_th hf_mm (m := 388) (n := 10) rfl rfl (by decide)) hf_th)
        have hf_cn : f68 cn = .inl (cy 1, 36, .inl ncn_62) := (congrFun e_f68 cn).trans (z_up_ne (z_tne hf_cn hf_mm (m := 388) (n := 10) rfl rfl (by decide)) hf_cn)
        have hf_db : f68 db = .inl (cy 1, 5, .inl ndb_63) := (congrFun e_f68 db).trans (z_up_ne (z_tne hf_db hf_mm (m := 140) (n := 10) rfl rfl (by decide)) hf_db)
        have hf_be : f68 be = .inl (cy 1, 2574, .inl nbe_64) := (congrFun e_f68 be).trans (z_up_ne (z_tne hf_be hf_mm (m := 20692) (n := 10) rfl rfl (by decide)) hf_be)
        have hf_du : f68 du = .inl (cy 1, 5200, .inl ndu_65) := (congrFun e_f68 du).trans (z_up_ne (z_tne hf_du hf_mm (m := 41700) (n := 10) rfl rfl (by decide)) hf_du)
        have hf_fo : f68 fo = .inl (cy 1, 180, .inl gfo) := (congrFun e_f68 fo).trans (z_up_ne (z_tne hf_fo hf_mm (m := 1540) (n := 10) rfl rfl (by decide)) hf_fo)
        have hf_mm : f68 mm = .inr (10, [.int m0, .ref wd, .ref my, .ref ce, .ref mv, .ref ta, .int m6, .int m7, .int m8, .int m9, .int m10, .long m11, .int m12, .int m13, .int m14, .int m15, .ref li, .ref ha, .ref lw, .ref st, .ref fo, .ref dr, .int m22, .ref ik, .int m24, .int m25, .long x2_57, .int m27, .int m28, .ref ro, .int n2_54, .ref ct, .ref se, .ref th, .ref cn, .ref be, .int y2_56, .ref du, .int d2_55, .ref db, .int r67, .int BG36, .int BH37, .ref pn, .ref wg, .ref wh, .ref tn, .ref he, .int m48, .ref tr, .ref fd, .ref po, .int m52, .int m53]) := (congrFun e_f68 mm).trans z_up_self
        have hfr : ∀ b ∈ L, b ≠ mm → b ≠ ro → b ≠ ct → b ≠ se → b ≠ th → b ≠ cn → b ≠ db → b ≠ be → b ≠ du → b ≠ dr → f68 b = f b := fun b hb h0 h1 h2 h3 h4 h5 h6 h7 h8 h9 => (congrFun e_f68 b).trans (z_up_ne h0 (hfr b hb h0 h1 h2 h3 h4 h5 h6 h7 h8 h9))
        refine lv_aload_n hx hb dX10_seeks_89 rfl (lv_at hl 4 rfl) ?_
        refine lv_iload hx hb dX10_seeks_90 (lv_at hl 1 rfl) ?_
        refine z_put (C := RX10) (T := TX10) (N := 54) (ci := 10) (v := .int K6) (fs' := [.int m0, .ref wd, .ref my, .ref ce, .ref mv, .ref ta, .int m6, .int m7, .int m8, .int m9, .int m10, .long m11, .int m12, .int m13, .int m14, .int m15, .ref li, .ref ha, .ref lw, .ref st, .ref fo, .ref dr, .int m22, .ref ik, .int m24, .int m25, .long x2_57, .int m27, .int m28, .ref ro, .int n2_54, .ref ct, .ref se, .ref th, .ref cn, .ref be, .int y2_56, .ref du, .int d2_55, .ref db, .int r67, .int K6, .int BH37, .ref pn, .ref wg, .ref wh, .ref tn, .ref he, .int m48, .ref tr, .ref fd, .ref po, .int m52, .int m53]) hx hb hT zin_X10 tyX10_ok nmX10 hown hK hw hm_mm hf_mm rfl 41 (by decide) (hT _ kw_1209) rfl rfl rfl (Nat.le_of_ble_eq_true rfl) rfl dX10_seeks_92 (fun H locs hw => ?_)
        obtain ⟨f69, e_f69⟩ : ∃ z, z = va_up f68 mm (.inr (10, [.int m0, .ref wd, .ref my, .ref ce, .ref mv, .ref ta, .int m6, .int m7, .int m8, .int m9, .int m10, .long m11, .int m12, .int m13, .int m14, .int m15, .ref li, .ref ha, .ref lw, .ref st, .ref fo, .ref dr, .int m22, .ref ik, .int m24, .int m25, .long x2_57, .int m27, .int m28, .ref ro, .int n2_54, .ref ct, .ref se, .ref th, .ref cn, .ref be, .int y2_56, .ref du, .int d2_55, .ref db, .int r67, .int K6, .int BH37, .ref pn, .ref wg, .ref wh, .ref tn, .ref he, .int m48, .ref tr, .ref fd, .ref po, .int m52, .int m53])) := ⟨_, rfl⟩
        rw [← e_f69] at hw
        have hf_ha : f69 ha = .inl (cy 1, 30, .inl gha) := (congrFun e_f69 ha).trans (z_up_ne (z_tne hf_ha hf_mm (m := 340) (n := 10) rfl rfl (by decide)) hf_ha)
        have hf_dr : f69 dr = .inl (cy 1, 520, .inl ndr_51) := (congrFun e_f69 dr).trans (z_up_ne (z_tne hf_dr hf_mm (m := 4260) (n := 10) rfl rfl (by decide)) hf_dr)
        have hf_ro : f69 ro = .inl (cy 1, 13, .inl nro_58) := (congrFun e_f69 ro).trans (z_up_ne (z_tne hf_ro hf_mm (m := 204) (n := 10) rfl rfl (by decide)) hf_ro)
        have hf_lw : f69 lw = .inl (cy 1, 25, .inl glw) := (congrFun e_f69 lw).trans (z_up_ne (z_tne hf_lw hf_mm (m := 300) (n := 10) rfl rfl (by decide)) hf_lw)
        have hf_st : f69 st = .inl (cy 1, 20, .inl gst) := (congrFun e_f69 st).trans (z_up_ne (z_tne hf_st hf_mm (m := 260) (n := 10) rfl rfl (by decide)) hf_st)
        have hf_ct : f69 ct = .inl (cy 1, 4, .inl nct_59) := (congrFun e_f69 ct).trans (z_up_ne (z_tne hf_ct hf_mm (m := 132) (n := 10) rfl rfl (by decide)) hf_ct)
        have hf_se : f69 se = .inl (cy 1, 36, .inl nse_60) := (congrFun e_f69 se).trans (z_up_ne (z_tne hf_se hf_mm (m := 388) (n := 10) rfl rfl (by decide)) hf_se)
        have hf_th : f69 th = .inl (cy 1, 36, .inl nth_61) := (congrFun e_f69 th).trans (z_up_ne (z_tne hf_th hf_mm (m := 388) (n := 10) rfl rfl (by decide)) hf_th)
        have hf_cn : f69 cn = .inl (cy 1, 36, .inl ncn_62) := (congrFun e_f69 cn).trans (z_up_ne (z_tne hf_cn hf_mm (m := 388) (n := 10) rfl rfl (by decide)) hf_cn)
        have hf_db : f69 db = .inl (cy 1, 5, .inl ndb_63) := (congrFun e_f69 db).trans (z_up_ne (z_tne hf_db hf_mm (m := 140) (n := 10) rfl rfl (by decide)) hf_db)
        have hf_be : f69 be = .inl (cy 1, 2574, .inl nbe_64) := (congrFun e_f69 be).trans (z_up_ne (z_tne hf_be hf_mm (m := 20692) (n := 10) rfl rfl (by decide)) hf_be)
        have hf_du : f69 du = .inl (cy 1, 5200, .inl ndu_65) := (congrFun e_f69 du).trans (z_up_ne (z_tne hf_du hf_mm (m := 41700) (n := 10) rfl rfl (by decide)) hf_du)
        have hf_fo : f69 fo = .inl (cy 1, 180, .inl gfo) := (congrFun e_f69 fo).trans (z_up_ne (z_tne hf_fo hf_mm (m := 1540) (n := 10) rfl rfl (by decide)) hf_fo)
        have hf_mm : f69 mm = .inr (10, [.int m0, .ref wd, .ref my, .ref ce, .ref mv, .ref ta, .int m6, .int m7, .int m8, .int m9, .int m10, .long m11, .int m12, .int m13, .int m14, .int m15, .ref li, .ref ha, .ref lw, .ref st, .ref fo, .ref dr, .int m22, .ref ik, .int m24, .int m25, .long x2_57, .int m27, .int m28, .ref ro, .int n2_54, .ref ct, .ref se, .ref th, .ref cn, .ref be, .int y2_56, .ref du, .int d2_55, .ref db, .int r67, .int K6, .int BH37, .ref pn, .ref wg, .ref wh, .ref tn, .ref he, .int m48, .ref tr, .ref fd, .ref po, .int m52, .int m53]) := (congrFun e_f69 mm).trans z_up_self
        have hfr : ∀ b ∈ L, b ≠ mm → b ≠ ro → b ≠ ct → b ≠ se → b ≠ th → b ≠ cn → b ≠ db → b ≠ be → b ≠ du → b ≠ dr → f69 b = f b := fun b hb h0 h1 h2 h3 h4 h5 h6 h7 h8 h9 => (congrFun e_f69 b).trans (z_up_ne h0 (hfr b hb h0 h1 h2 h3 h4 h5 h6 h7 h8 h9))
        refine lv_aload_n hx hb dX10_seeks_95 rfl (lv_at hl 4 rfl) ?_
        refine lv_iload hx hb dX10_seeks_96 (lv_at hl 0 rfl) ?_
        refine z_put (C := RX10) (T := TX10) (N := 54) (ci := 10) (v := .int K29) (fs' := [.int m0, .ref wd, .ref my, .ref ce, .ref mv, .ref ta, .int m6, .int m7, .int m8, .int m9, .int m10, .long m11, .int m12, .int m13, .int m14, .int m15, .ref li, .ref ha, .ref lw, .ref st, .ref fo, .ref dr, .int m22, .ref ik, .int m24, .int m25, .long x2_57, .int m27, .int m28, .ref ro, .int n2_54, .ref ct, .ref se, .ref th, .ref cn, .ref be, .int y2_56, .ref du, .int d2_55, .ref db, .int r67, .int K6, .int K29, .ref pn, .ref wg, .ref wh, .ref tn, .ref he, .int m48, .ref tr, .ref fd, .ref po, .int m52, .int m53]) hx hb hT zin_X10 tyX10_ok nmX10 hown hK hw hm_mm hf_mm rfl 42 (by decide) (hT _ kw_1210) rfl rfl rfl (Nat.le_of_ble_eq_true rfl) rfl dX10_seeks_98 (fun H locs hw => ?_)
        obtain ⟨f70, e_f70⟩ : ∃ z, z = va_up f69 mm (.inr (10, [.int m0, .ref wd, .ref my, .ref ce, .ref mv, .ref ta, .int m6, .int m7, .int m8, .int m9, .int m10, .long m11, .int m12, .int m13, .int m14, .int m15, .ref li, .ref ha, .ref lw, .ref st, .ref fo, .ref dr, .int m22, .ref ik, .int m24, .int m25, .long x2_57, .int m27, .int m28, .ref ro, .int n2_54, .ref ct, .ref se, .ref th, .ref cn, .ref be, .int y2_56, .ref du, .int d2_55, .ref db, .int r67, .int K6, .int K29, .ref pn, .ref wg, .ref wh, .ref tn, .ref he, .int m48, .ref tr, .ref fd, .ref po, .int m52, .int m53])) := ⟨_, rfl⟩
        rw [← e_f70] at hw
        have hf_ha : f70 ha = .inl (cy 1, 30, .inl gha) := (congrFun e_f70 ha).trans (z_up_ne (z_tne hf_ha hf_mm (m := 340) (n := 10) rfl rfl (by decide)) hf_ha)
        have hf_dr : f70 dr = .inl (cy 1, 520, .inl ndr_51) := (congrFun e_f70 dr).trans (z_up_ne (z_tne hf_dr hf_mm (m := 4260) (n := 10) rfl rfl (by decide)) hf_dr)
        have hf_ro : f70 ro = .inl (cy 1, 13, .inl nro_58) := (congrFun e_f70 ro).trans (z_up_ne (z_tne hf_ro hf_mm (m := 204) (n := 10) rfl rfl (by decide)) hf_ro)
        have hf_lw : f70 lw = .inl (cy 1, 25, .inl glw) := (congrFun e_f70 lw).trans (z_up_ne (z_tne hf_lw hf_mm (m := 300) (n := 10) rfl rfl (by decide)) hf_lw)
        have hf_st : f70 st = .inl (cy 1, 20, .inl gst) := (congrFun e_f70 st).trans (z_up_ne (z_tne hf_st hf_mm (m := 260) (n := 10) rfl rfl (by decide)) hf_st)
        have hf_ct : f70 ct = .inl (cy 1, 4, .inl nct_59) := (congrFun e_f70 ct).trans (z_up_ne (z_tne hf_ct hf_mm (m := 132) (n := 10) rfl rfl (by decide)) hf_ct)
        have hf_se : f70 se = .inl (cy 1, 36, .inl nse_60) := (congrFun e_f70 se).trans (z_up_ne (z_tne hf_se hf_mm (m := 388) (n := 10) rfl rfl (by decide)) hf_se)
        have hf_th : f70 th = .inl (cy 1, 36, .inl nth_61) := (congrFun e_f70 th).trans (z_up_ne (z_tne hf_th hf_mm (m := 388) (n := 10) rfl rfl (by decide)) hf_th)
        have hf_cn : f70 cn = .inl (cy 1, 36, .inl ncn_62) := (congrFun e_f70 cn).trans (z_up_ne (z_tne hf_cn hf_mm (m := 388) (n := 10) rfl rfl (by decide)) hf_cn)
        have hf_db : f70 db = .inl (cy 1, 5, .inl ndb_63) := (congrFun e_f70 db).trans (z_up_ne (z_tne hf_db hf_mm (m := 140) (n := 10) rfl rfl (by decide)) hf_db)
        have hf_be : f70 be = .inl (cy 1, 2574, .inl nbe_64) := (congrFun e_f70 be).trans (z_up_ne (z_tne hf_be hf_mm (m := 20692) (n := 10) rfl rfl (by decide)) hf_be)
        have hf_du : f70 du = .inl (cy 1, 5200, .inl ndu_65) := (congrFun e_f70 du).trans (z_up_ne (z_tne hf_du hf_mm (m := 41700) (n := 10) rfl rfl (by decide)) hf_du)
        have hf_fo : f70 fo = .inl (cy 1, 180, .inl gfo) := (congrFun e_f70 fo).trans (z_up_ne (z_tne hf_fo hf_mm (m := 1540) (n := 10) rfl rfl (by decide)) hf_fo)
        have hf_mm : f70 mm = .inr (10, [.int m0, .ref wd, .ref my, .ref ce, .ref mv, .ref ta, .int m6, .int m7, .int m8, .int m9, .int m10, .long m11, .int m12, .int m13, .int m14, .int m15, .ref li, .ref ha, .ref lw, .ref st, .ref fo, .ref dr, .int m22, .ref ik, .int m24, .int m25, .long x2_57, .int m27, .int m28, .ref ro, .int n2_54, .ref ct, .ref se, .ref th, .ref cn, .ref be, .int y2_56, .ref du, .int d2_55, .ref db, .int r67, .int K6, .int K29, .ref pn, .ref wg, .ref wh, .ref tn, .ref he, .int m48, .ref tr, .ref fd, .ref po, .int m52, .int m53]) := (congrFun e_f70 mm).trans z_up_self
        have hfr : ∀ b ∈ L, b ≠ mm → b ≠ ro → b ≠ ct → b ≠ se → b ≠ th → b ≠ cn → b ≠ db → b ≠ be → b ≠ du → b ≠ dr → f70 b = f b := fun b hb h0 h1 h2 h3 h4 h5 h6 h7 h8 h9 => (congrFun e_f70 b).trans (z_up_ne h0 (hfr b hb h0 h1 h2 h3 h4 h5 h6 h7 h8 h9))
        obtain ⟨k71, e_k71⟩ : ∃ z : Int32, z = K29 + 1 := ⟨_, rfl⟩
        refine lv_iinc (v := k71) (lv' := [(6, .int k71), (5, .int K6), (4, .int r4), (3, .int r2), (0, .ref mm), (1, .int kk), (2, .int wo)]) hx hb dX10_seeks_101 hl (k := 0) rfl (by rw [e_k71]; rfl) (by decide) rfl (fun ls hl => ?_)
        have i_k71 : k71.toInt = (K29.toInt + 1) := z_add e_k71 rfl (by decide) (by omega)
        refine lv_goto (tgt := 37) hx hb dX10_seeks_104 (by decide) ?_
        exact ih_37 _ (by omega) _ _ _ ⟨k71, nro_58, nct_59, nse_60, nth_61, ncn_62, ndb_63, nbe_64, ndu_65, ndr_51, n2_54, d2_55, y2_56, x2_57, r67, K6, K29, f70, rfl, (by first | decide | omega), (by first | decide | omega), (by omega), (by omega), (by omega), hw, hf_mm, hf_ha, hf_dr, hf_ro, hf_lw, hf_st, hf_ct, hf_se, hf_th, hf_cn, hf_db, hf_be, hf_du, hf_fo, hfr, hq_ro, hq_ct, hq_be, hq_du, hq_dr, (lv_sub hl [0, 1, 2, 3, 4, 5, 6] rfl)⟩
      · skip
        refine lv_aload_n hx hb dX10_seeks_65 rfl (lv_at hl 4 rfl) ?_
        refine lv_iload_n hx hb dX10_seeks_66 rfl (lv_at hl 6 rfl) ?_
        refine z_calliV (cells := 0) (slots := 0) (b := mm) (As := [.int wo]) (rest := []) (ci := 10) (q0 := (RX10, TX10, 54)) ⟨hx, hb, hml, hown, hT⟩ (c_X10_paidBy l hm_mm hm_db hm_lw hf_mm hf_db hf_lw hq_lw (by first | omega | decide | assumption)) (cwV 1 hT (z_goodV (fun _ h => h) kw_1608 kw_1610 kw_70 kw_96 kw_1611) rfl rfl rfl (by decide +kernel) ⟨by decide, by decide⟩) z_mv hKK hK hw hA hm_mm hf_mm rfl rfl rfl hl.1 rfl (Nat.le_of_ble_eq_true rfl) dX10_seeks_67 ⟨by decide, by decide⟩ (fun r72 u H locs hp hw => ?_)
        obtain ⟨rfl, hp⟩ := hp
        have hw : z_H D vwCl (z_A L sz) s.heap L f53 H locs := hw
        refine lv_aload_n hx hb dX10_seeks_70 rfl (lv_at hl 4 rfl) ?_
        refine z_get (C := RX10) (T := TX10) (N := 54) (ci := 10) (v := .int BP35) hx hb hT zin_X10 hown hK hw hm_mm hf_mm rfl 40 (by decide) (hT _ kw_1208) rfl dX10_seeks_71 ?_
        refine z_icmp_lt (tgt := 80) hx hb rfl rfl dX10_seeks_74 (by decide) (fun c73 => ?_) (fun c73 => ?_)
        · skip
          refine lv_aload_n hx hb dX10_seeks_80 rfl (lv_at hl 4 rfl) ?_
          refine lv_aload_n hx hb dX10_seeks_81 rfl (lv_at hl 4 rfl) ?_
          refine lv_iload_n hx hb dX10_seeks_82 rfl (lv_at hl 6 rfl) ?_
          refine z_calliV (cells := 0) (slots := 0) (b := mm) (As := [.int wo]) (rest := [.ref mm]) (ci := 10) (q0 := (RX10, TX10, 54)) ⟨hx, hb, hml, hown, hT⟩ (c_X10_paidBy l hm_mm hm_db hm_lw hf_mm hf_db hf_lw hq_lw (by first | omega | decide | assumption)) (cwV 1 hT (z_goodV (fun _ h => h) kw_1608 kw_1610 kw_70 kw_96 kw_1611) rfl rfl rfl (by decide +kernel) ⟨by decide, by decide⟩) z_mv hKK hK hw hA hm_mm hf_mm rfl rfl rfl hl.1 rfl (Nat.le_of_ble_eq_true rfl) dX10_seeks_83 ⟨by decide, by decide⟩ (fun r74 u H locs hp hw => ?_)
          obtain ⟨rfl, hp⟩ := hp
          have hw : z_H D vwCl (z_A L sz) s.heap L f53 H locs := hw
          refine z_put (C := RX10) (T := TX10) (N := 54) (ci := 10) (v := .int r74) (fs' := [.int m0, .ref wd, .ref my, .ref ce, .ref mv, .ref ta, .int m6, .int m7, .int m8, .int m9, .int m10, .long m11, .int m12, .int m13, .int m14, .int m15, .ref li, .ref ha, .ref lw, .ref st, .ref fo, .ref dr, .int m22, .ref ik, .int m24, .int m25, .long x2_57, .int m27, .int m28, .ref ro, .int n2_54, .ref ct, .ref se, .ref th, .ref cn, .ref be, .int y2_56, .ref du, .int d2_55, .ref db, .int r74, .int BG36, .int BH37, .ref pn, .ref wg, .ref wh, .ref tn, .ref he, .int m48, .ref tr, .ref fd, .ref po, .int m52, .int m53]) hx hb hT zin_X10 tyX10_ok nmX10 hown hK hw hm_mm hf_mm rfl 40 (by decide) (hT _ kw_1208) rfl rfl rfl (Nat.le_of_ble_eq_true rfl) rfl dX10_seeks_86 (fun H locs hw => ?_)
          obtain ⟨f75, e_f75⟩ : ∃ z, z = va_up f53 mm (.inr (10, [.int m0, .ref wd, .ref my, .ref ce, .ref mv, .ref ta, .int m6, .int m7, .int m8, .int m9, .int m10, .long m11, .int m12, .int m13, .int m14, .int m15, .ref li, .ref ha, .ref lw, .ref st, .ref fo, .ref dr, .int m22, .ref ik, .int m24, .int m25, .long x2_57, .int m27, .int m28, .ref ro, .int n2_54, .ref ct, .ref se, .ref th, .ref cn, .ref be, .int y2_56, .ref du, .int d2_55, .ref db, .int r74, .int BG36, .int BH37, .ref pn, .ref wg, .ref wh, .ref tn, .ref he, .int m48, .ref tr, .ref fd, .ref po, .int m52, .int m53])) := ⟨_, rfl⟩
          rw [← e_f75] at hw
          have hf_ha : f75 ha = .inl (cy 1, 30, .inl gha) := (congrFun e_f75 ha).trans (z_up_ne (z_tne hf_ha hf_mm (m := 340) (n := 10) rfl rfl (by decide)) hf_ha)
          have hf_dr : f75 dr = .inl (cy 1, 520, .inl ndr_51) := (congrFun e_f75 dr).trans (z_up_ne (z_tne hf_dr hf_mm (m := 4260) (n := 10) rfl rfl (by decide)) hf_dr)
          have hf_ro : f75 ro = .inl (cy 1, 13, .inl nro_58) := (congrFun e_f75 ro).trans (z_up_ne (z_tne hf_ro hf_mm (m := 204) (n := 10) rfl rfl (by decide)) hf_ro)
          have hf_lw : f75 lw = .inl (cy 1, 25, .inl glw) := (congrFun e_f75 lw).trans (z_up_ne (z_tne hf_lw hf_mm (m := 300) (n := 10) rfl rfl (by decide)) hf_lw)
          have hf_st : f75 st = .inl (cy 1, 20, .inl gst) := (congrFun e_f75 st).trans (z_up_ne (z_tne hf_st hf_mm (m := 260) (n := 10) rfl rfl (by decide)) hf_st)
          have hf_ct : f75 ct = .inl (cy 1, 4, .inl nct_59) := (congrFun e_f75 ct).trans (z_up_ne (z_tne hf_ct hf_mm (m := 132) (n := 10) rfl rfl (by decide)) hf_ct)
          have hf_se : f75 se = .inl (cy 1, 36, .inl nse_60) := (congrFun e_f75 se).trans (z_up_ne (z_tne hf_se hf_mm (m := 388) (n := 10) rfl rfl (by decide)) hf_se)
          have hf_th : f75 th = .inl (cy 1, 36, .inl nth_61) := (congrFun e_f75 th).trans (z_up_ne (z_tne hf_th hf_mm (m := 388) (n := 10) rfl rfl (by decide)) hf_th)
          have hf_cn : f75 cn = .inl (cy 1, 36, .inl ncn_62) := (congrFun e_f75 cn).trans (z_up_ne (z_tne hf_cn hf_mm (m := 388) (n := 10) rfl rfl (by decide)) hf_cn)
          have hf_db : f75 db = .inl (cy 1, 5, .inl ndb_63) := (congrFun e_f75 db).trans (z_up_ne (z_tne hf_db hf_mm (m := 140) (n := 10) rfl rfl (by decide)) hf_db)
          have hf_be : f75 be = .inl (cy 1, 2574, .inl nbe_64) := (congrFun e_f75 be).trans (z_up_ne (z_tne hf_be hf_mm (m := 20692) (n := 10) rfl rfl (by decide)) hf_be)
          have hf_du : f75 du = .inl (cy 1, 5200, .inl ndu_65) := (congrFun e_f75 du).trans (z_up_ne (z_tne hf_du hf_mm (m := 41700) (n := 10) rfl rfl (by decide)) hf_du)
          have hf_fo : f75 fo = .inl (cy 1, 180, .inl gfo) := (congrFun e_f75 fo).trans (z_up_ne (z_tne hf_fo hf_mm (m := 1540) (n := 10) rfl rfl (by decide)) hf_fo)
          have hf_mm : f75 mm = .inr (10, [.int m0, .ref wd, .ref my, .ref ce, .ref mv, .ref ta, .int m6, .int m7, .int m8, .int m9, .int m10, .long m11, .int m12, .int m13, .int m14, .int m15, .ref li, .ref ha, .ref lw, .ref st, .ref fo, .ref dr, .int m22, .ref ik, .int m24, .int m25, .long x2_57, .int m27, .int m28, .ref ro, .int n2_54, .ref ct, .ref se, .ref th, .ref cn, .ref be, .int y2_56, .ref du, .int d2_55, .ref db, .int r74, .int BG36, .int BH37, .ref pn, .ref wg, .ref wh, .ref tn, .ref he, .int m48, .ref tr, .ref fd, .ref po, .int m52, .int m53]) := (congrFun e_f75 mm).trans z_up_self
          have hfr : ∀ b ∈ L, b ≠ mm → b ≠ ro → b ≠ ct → b ≠ se → b ≠ th → b ≠ cn → b ≠ db → b ≠ be → b ≠ du → b ≠ dr → f75 b = f b := fun b hb h0 h1 h2 h3 h4 h5 h6 h7 h8 h9 => (congrFun e_f75 b).trans (z_up_ne h0 (hfr b hb h0 h1 h2 h3 h4 h5 h6 h7 h8 h9))
          refine lv_aload_n hx hb dX10_seeks_89 rfl (lv_at hl 4 rfl) ?_
          refine lv_iload hx hb dX10_seeks_90 (lv_at hl 1 rfl) ?_
          refine z_put (C := RX10) (T := TX10) (N := 54) (ci := 10) (v := .int K6) (fs' := [.int m0, .ref wd, .ref my, .ref ce, .ref mv, .ref ta, .int m6, .int m7, .int m8, .int m9, .int m10, .long m11, .int m12, .int m13, .int m14, .int m15, .ref li, .ref ha, .ref lw, .ref st, .ref fo, .ref dr, .int m22, .ref ik, .int m24, .int m25, .long x2_57, .int m27, .int m28, .ref ro, .int n2_54, .ref ct, .ref se, .ref th, .ref cn, .ref be, .int y2_56, .ref du, .int d2_55, .ref db, .int r74, .int K6, .int BH37, .ref pn, .ref wg, .ref wh, .ref tn, .ref he, .int m48, .ref tr, .ref fd, .ref po, .int m52, .int m53]) hx hb hT zin_X10 tyX10_ok nmX10 hown hK hw hm_mm hf_mm rfl 41 (by decide) (hT _ kw_1209) rfl rfl rfl (Nat.le_of_ble_eq_true rfl) rfl dX10_seeks_92 (fun H locs hw => ?_)
          obtain ⟨f76, e_f76⟩ : ∃ z, z = va_up f75 mm (.inr (10, [.int m0, .ref wd, .ref my, .ref ce, .ref mv, .ref ta, .int m6, .int m7, .int m8, .int m9, .int m10, .long m11, .int m12, .int m13, .int m14, .int m15, .ref li, .ref ha, .ref lw, .ref st, .ref fo, .ref dr, .int m22, .ref ik, .int m24, .int m25, .long x2_57, .int m27, .int m28, .ref ro, .int n2_54, .ref ct, .ref se, .ref th, .ref cn, .ref be, .int y2_56, .ref du, .int d2_55, .ref db, .int r74, .int K6, .int BH37, .ref pn, .ref wg, .ref wh, .ref tn, .ref he, .int m48, .ref tr, .ref fd, .ref po, .int m52, .int m53])) := ⟨_, rfl⟩
          rw [← e_f76] at hw
          have hf_ha : f76 ha = .inl (cy 1, 30, .inl gha) := (congrFun e_f76 ha).trans (z_up_ne (z_tne hf_ha hf_mm (m := 340) (n := 10) rfl rfl (by decide)) hf_ha)
          have hf_dr : f76 dr = .inl (cy 1, 520, .inl ndr_51) := (congrFun e_f76 dr).trans (z_up_ne (z_tne hf_dr hf_mm (m := 4260) (n := 10) rfl rfl (by decide)) hf_dr)
          have hf_ro : f76 ro = .inl (cy 1, 13, .inl nro_58) := (congrFun e_f76 ro).trans (z_up_ne (z_tne hf_ro hf_mm (m := 204) (n := 10) rfl rfl (by decide)) hf_ro)
          have hf_lw : f76 lw = .inl (cy 1, 25, .inl glw) := (congrFun e_f76 lw).trans (z_up_ne (z_tne hf_lw hf_mm (m := 300) (n := 10) rfl rfl (by decide)) hf_lw)
          have hf_st : f76 st = .inl (cy 1, 20, .inl gst) := (congrFun e_f76 st).trans (z_up_ne (z_tne hf_st hf_mm (m := 260) (n := 10) rfl rfl (by decide)) hf_st)
          have hf_ct : f76 ct = .inl (cy 1, 4, .inl nct_59) := (congrFun e_f76 ct).trans (z_up_ne (z_tne hf_ct hf_mm (m := 132) (n := 10) rfl rfl (by decide)) hf_ct)
          have hf_se : f76 se = .inl (cy 1, 36, .inl nse_60) := (congrFun e_f76 se).trans (z_up_ne (z_tne hf_se hf_mm (m := 388) (n := 10) rfl rfl (by decide)) hf_se)
          have hf_th : f76 th = .inl (cy 1, 36, .inl nth_61) := (congrFun e_f76 th).trans (z_up_ne (z_tne hf_th hf_mm (m := 388) (n := 10) rfl rfl (by decide)) hf_th)
          have hf_cn : f76 cn = .inl (cy 1, 36, .inl ncn_62) := (congrFun e_f76 cn).trans (z_up_ne (z_tne hf_cn hf_mm (m := 388) (n := 10) rfl rfl (by decide)) hf_cn)
          have hf_db : f76 db = .inl (cy 1, 5, .inl ndb_63) := (congrFun e_f76 db).trans (z_up_ne (z_tne hf_db hf_mm (m := 140) (n := 10) rfl rfl (by decide)) hf_db)
          have hf_be : f76 be = .inl (cy 1, 2574, .inl nbe_64) := (congrFun e_f76 be).trans (z_up_ne (z_tne hf_be hf_mm (m := 20692) (n := 10) rfl rfl (by decide)) hf_be)
          have hf_du : f76 du = .inl (cy 1, 5200, .inl ndu_65) := (congrFun e_f76 du).trans (z_up_ne (z_tne hf_du hf_mm (m := 41700) (n := 10) rfl rfl (by decide)) hf_du)
          have hf_fo : f76 fo = .inl (cy 1, 180, .inl gfo) := (congrFun e_f76 fo).trans (z_up_ne (z_tne hf_fo hf_mm (m := 1540) (n := 10) rfl rfl (by decide)) hf_fo)
          have hf_mm : f76 mm = .inr (10, [.int m0, .ref wd, .ref my, .ref ce, .ref mv, .ref ta, .int m6, .int m7, .int m8, .int m9, .int m10, .long m11, .int m12, .int m13, .int m14, .int m15, .ref li, .ref ha, .ref lw, .ref st, .ref fo, .ref dr, .int m22, .ref ik, .int m24, .int m25, .long x2_57, .int m27, .int m28, .ref ro, .int n2_54, .ref ct, .ref se, .ref th, .ref cn, .ref be, .int y2_56, .ref du, .int d2_55, .ref db, .int r74, .int K6, .int BH37, .ref pn, .ref wg, .ref wh, .ref tn, .ref he, .int m48, .ref tr, .ref fd, .ref po, .int m52, .int m53]) := (congrFun e_f76 mm).trans z_up_self
          have hfr : ∀ b ∈ L, b ≠ mm → b ≠ ro → b ≠ ct → b ≠ se → b ≠ th → b ≠ cn → b ≠ db → b ≠ be → b ≠ du → b ≠ dr → f76 b = f b := fun b hb h0 h1 h2 h3 h4 h5 h6 h7 h8 h9 => (congrFun e_f76 b).trans (z_up_ne h0 (hfr b hb h0 h1 h2 h3 h4 h5 h6 h7 h8 h9))
          refine lv_aload_n hx hb dX10_seeks_95 rfl (lv_at hl 4 rfl) ?_
          refine lv_iload hx hb dX10_seeks_96 (lv_at hl 0 rfl) ?_
          refine z_put (C := RX10) (T := TX10) (N := 54) (ci := 10) (v := .int K29) (fs' := [.int m0, .ref wd, .ref my, .ref ce, .ref mv, .ref ta, .int m6, .int m7, .int m8, .int m9, .int m10, .long m11, .int m12, .int m13, .int m14, .int m15, .ref li, .ref ha, .ref lw, .ref st, .ref fo, .ref dr, .int m22, .ref ik, .int m24, .int m25, .long x2_57, .int m27, .int m28, .ref ro, .int n2_54, .ref ct, .ref se, .ref th, .ref cn, .ref be, .int y2_56, .ref du, .int d2_55, .ref db, .int r74, .int K6, .int K29, .ref pn, .ref wg, .ref wh, .ref tn, .ref he, .int m48, .ref tr, .ref fd, .ref po, .int m52, .int m53]) hx hb hT zin_X10 tyX10_ok nmX10 hown hK hw hm_mm hf_mm rfl 42 (by decide) (hT _ kw_1210) rfl rfl rfl (Nat.le_of_ble_eq_true rfl) rfl dX10_seeks_98 (fun H locs hw => ?_)
          obtain ⟨f77, e_f77⟩ : ∃ z, z = va_up f76 mm (.inr (10, [.int m0, .ref wd, .ref my, .ref ce, .ref mv, .ref ta, .int m6, .int m7, .int m8, .int m9, .int m10, .long m11, .int m12, .int m13, .int m14, .int m15, .ref li, .ref ha, .ref lw, .ref st, .ref fo, .ref dr, .int m22, .ref ik, .int m24, .int m25, .long x2_57, .int m27, .int m28, .ref ro, .int n2_54, .ref ct, .ref se, .ref th, .ref cn, .ref be, .int y2_56, .ref du, .int d2_55, .ref db, .int r74, .int K6, .int K29, .ref pn, .ref wg, .ref wh, .ref tn, .ref he, .int m48, .ref tr, .ref fd, .ref po, .int m52, .int m53])) := ⟨_, rfl⟩
          rw [← e_f77] at hw
          have hf_ha : f77 ha = .inl (cy 1, 30, .inl gha) := (congrFun e_f77 ha).trans (z_up_ne (z_tne hf_ha hf_mm (m := 340) (n := 10) rfl rfl (by decide)) hf_ha)
          have hf_dr : f77 dr = .inl (cy 1, 520, .inl ndr_51) := (congrFun e_f77 dr).trans (z_up_ne (z_tne hf_dr hf_mm (m := 4260) (n := 10) rfl rfl (by decide)) hf_dr)
          have hf_ro : f77 ro = .inl (cy 1, 13, .inl nro_58) := (congrFun e_f77 ro).trans (z_up_ne (z_tne hf_ro hf_mm (m := 204) (n := 10) rfl rfl (by decide)) hf_ro)
          have hf_lw : f77 lw = .inl (cy 1, 25, .inl glw) := (congrFun e_f77 lw).trans (z_up_ne (z_tne hf_lw hf_mm (m := 300) (n := 10) rfl rfl (by decide)) hf_lw)
          have hf_st : f77 st = .inl (cy 1, 20, .inl gst) := (congrFun e_f77 st).trans (z_up_ne (z_tne hf_st hf_mm (m := 260) (n := 10) rfl rfl (by decide)) hf_st)
          have hf_ct : f77 ct = .inl (cy 1, 4, .inl nct_59) := (congrFun e_f77 ct).trans (z_up_ne (z_tne hf_ct hf_mm (m := 132) (n := 10) rfl rfl (by decide)) hf_ct)
          have hf_se : f77 se = .inl (cy 1, 36, .inl nse_60) := (congrFun e_f77 se).trans (z_up_ne (z_tne hf_se hf_mm (m := 388) (n := 10) rfl rfl (by decide)) hf_se)
          have hf_th : f77 th = .inl (cy 1, 36, .inl nth_61) := (congrFun e_f77 th).trans (z_up_ne (z_tne hf_th hf_mm (m := 388) (n := 10) rfl rfl (by decide)) hf_th)
          have hf_cn : f77 cn = .inl (cy 1, 36, .inl ncn_62) := (congrFun e_f77 cn).trans (z_up_ne (z_tne hf_cn hf_mm (m := 388) (n := 10) rfl rfl (by decide)) hf_cn)
          have hf_db : f77 db = .inl (cy 1, 5, .inl ndb_63) := (congrFun e_f77 db).trans (z_up_ne (z_tne hf_db hf_mm (m := 140) (n := 10) rfl rfl (by decide)) hf_db)
          have hf_be : f77 be = .inl (cy 1, 2574, .inl nbe_64) := (congrFun e_f77 be).trans (z_up_ne (z_tne hf_be hf_mm (m := 20692) (n := 10) rfl rfl (by decide)) hf_be)
          have hf_du : f77 du = .inl (cy 1, 5200, .inl ndu_65) := (congrFun e_f77 du).trans (z_up_ne (z_tne hf_du hf_mm (m := 41700) (n := 10) rfl rfl (by decide)) hf_du)
          have hf_fo : f77 fo = .inl (cy 1, 180, .inl gfo) := (congrFun e_f77 fo).trans (z_up_ne (z_tne hf_fo hf_mm (m := 1540) (n := 10) rfl rfl (by decide)) hf_fo)
          have hf_mm : f77 mm = .inr (10, [.int m0, .ref wd, .ref my, .ref ce, .ref mv, .ref ta, .int m6, .int m7, .int m8, .int m9, .int m10, .long m11, .int m12, .int m13, .int m14, .int m15, .ref li, .ref ha, .ref lw, .ref st, .ref fo, .ref dr, .int m22, .ref ik, .int m24, .int m25, .long x2_57, .int m27, .int m28, .ref ro, .int n2_54, .ref ct, .ref se, .ref th, .ref cn, .ref be, .int y2_56, .ref du, .int d2_55, .ref db, .int r74, .int K6, .int K29, .ref pn, .ref wg, .ref wh, .ref tn, .ref he, .int m48, .ref tr, .ref fd, .ref po, .int m52, .int m53]) := (congrFun e_f77 mm).trans z_up_self
          have hfr : ∀ b ∈ L, b ≠ mm → b ≠ ro → b ≠ ct → b ≠ se → b ≠ th → b ≠ cn → b ≠ db → b ≠ be → b ≠ du → b ≠ dr → f77 b = f b := fun b hb h0 h1 h2 h3 h4 h5 h6 h7 h8 h9 => (congrFun e_f77 b).trans (z_up_ne h0 (hfr b hb h0 h1 h2 h3 h4 h5 h6 h7 h8 h9))
          obtain ⟨k78, e_k78⟩ : ∃ z : Int32, z = K29 + 1 := ⟨_, rfl⟩
          refine lv_iinc (v := k78) (lv' := [(6, .int k78), (5, .int K6), (4, .int r4), (3, .int r2), (0, .ref mm), (1, .int kk), (2, .int wo)]) hx hb dX10_seeks_101 hl (k := 0) rfl (by rw [e_k78]; rfl) (by decide) rfl (fun ls hl => ?_)
          have i_k78 : k78.toInt = (K29.toInt + 1) := z_add e_k78 rfl (by decide) (by omega)
          refine lv_goto (tgt := 37) hx hb dX10_seeks_104 (by decide) ?_
          exact ih_37 _ (by omega) _ _ _ ⟨k78, nro_58, nct_59, nse_60, nth_61, ncn_62, ndb_63, nbe_64, ndu_65, ndr_51, n2_54, d2_55, y2_56, x2_57, r74, K6, K29, f77, rfl, (by first | decide | omega), (by first | decide | omega), (by omega), (by omega), (by omega), hw, hf_mm, hf_ha, hf_dr, hf_ro, hf_lw, hf_st, hf_ct, hf_se, hf_th, hf_cn, hf_db, hf_be, hf_du, hf_fo, hfr, hq_ro, hq_ct, hq_be, hq_du, hq_dr, (lv_sub hl [0, 1, 2, 3, 4, 5, 6] rfl)⟩
        · skip
          refine lv_goto (tgt := 101) hx hb dX10_seeks_77 (by decide) ?_
          obtain ⟨k79, e_k79⟩ : ∃ z : Int32, z = K29 + 1 := ⟨_, rfl⟩
          refine lv_iinc (v := k79) (lv' := [(6, .int k79), (5, .int K6), (4, .int r4), (3, .int r2), (0, .ref mm), (1, .int kk), (2, .int wo)]) hx hb dX10_seeks_101 hl (k := 0) rfl (by rw [e_k79]; rfl) (by decide) rfl (fun ls hl => ?_)
          have i_k79 : k79.toInt = (K29.toInt + 1) := z_add e_k79 rfl (by decide) (by omega)
          refine lv_goto (tgt := 37) hx hb dX10_seeks_104 (by decide) ?_
          exact ih_37 _ (by omega) _ _ _ ⟨k79, nro_58, nct_59, nse_60, nth_61, ncn_62, ndb_63, nbe_64, ndu_65, ndr_51, n2_54, d2_55, y2_56, x2_57, BP35, BG36, BH37, f53, rfl, (by first | decide | omega), (by first | decide | omega), (by omega), (by omega), (by omega), hw, hf_mm, hf_ha, hf_dr, hf_ro, hf_lw, hf_st, hf_ct, hf_se, hf_th, hf_cn, hf_db, hf_be, hf_du, hf_fo, hfr, hq_ro, hq_ct, hq_be, hq_du, hq_dr, (lv_sub hl [0, 1, 2, 3, 4, 5, 6] rfl)⟩

set_option maxHeartbeats 2000000 in
set_option maxRecDepth 100000 in
theorem c_X10_adds (l : Launch) {D : va_G} {cy : Nat → ClassId} {L : List Nat} {f : Nat → va_E} {sz : Nat} {adK adV : Nat → Nat} {mm wd my ce mv ta li ha lw st fo dr ik ro ct se th cn be du db pn wg wh tn he tr fd po : Nat} {m0 m6 m7 m8 m9 m10 m12 m13 m14 m15 m22 m24 m25 m27 m28 m30 m36 m38 m40 m41 m42 m48 m52 m53 : Int32} {m11 m26 : Int64} {gha gdr : Nat → Int32}  {a1 a2 a3 a4 a5 a6 a7 a8 : Int32} (hm_mm : mm ∈ L) (hm_ha : ha ∈ L) (hm_dr : dr ∈ L) (hf_mm : f mm = .inr (10, [.int m0, .ref wd, .ref my, .ref ce, .ref mv, .ref ta, .int m6, .int m7, .int m8, .int m9, .int m10, .long m11, .int m12, .int m13, .int m14, .int m15, .ref li, .ref ha, .ref lw, .ref st, .ref fo, .ref dr, .int m22, .ref ik, .int m24, .int m25, .long m26, .int m27, .int m28, .ref ro, .int m30, .ref ct, .ref se, .ref th, .ref cn, .ref be, .int m36, .ref du, .int m38, .ref db, .int m40, .int m41, .int m42, .ref pn, .ref wg, .ref wh, .ref tn, .ref he, .int m48, .ref tr, .ref fd, .ref po, .int m52, .int m53])) (hf_ha : f ha = .inl (cy 1, 30, .inl gha)) (hf_dr : f dr = .inl (cy 1, 520, .inl gdr)) (hq_ha : ∀ j : Nat, q_has j (gha j)) (hq_dr : ∀ j : Nat, q_drv j (gdr j)) (ha_a1 : 0 ≤ a1.toInt ∧ a1.toInt ≤ 4) (ha_a2 : 0 ≤ a2.toInt ∧ a2.toInt ≤ 3) (ha_a3 : 0 ≤ a3.toInt ∧ a3.toInt ≤ 8) (ha_a4 : 0 ≤ a4.toInt ∧ a4.toInt ≤ 23) (ha_a5 : 0 ≤ a5.toInt ∧ a5.toInt ≤ 99) (ha_a6 : 0 ≤ a6.toInt ∧ a6.toInt ≤ 99) (ha_a7 : 0 ≤ a7.toInt ∧ a7.toInt ≤ 4) (ha_a8 : 0 ≤ a8.toInt ∧ a8.toInt ≤ 1) : Met l yX10_adds (z_ws yX10_adds cX10_adds 10 none) (z_R 1 0 0) (va_Pc [.ref mm, .int a1, .int a2, .int a3, .int a4, .int a5, .int a6, .int a7, .int a8] (z_Pre D vwCl (z_KK D cy adK adV) L f sz)) (z_Qv D vwCl (fun u => L = u.1 ∧ (∀ b ∈ L, b ≠ mm → b ≠ dr → u.2 b = f b) ∧ (∃ (mn2 : Int32) (ndr : Nat → Int32), (u.2 mm = .inr (10, [.int m0, .ref wd, .ref my, .ref ce, .ref mv, .ref ta, .int m6, .int m7, .int m8, .int m9, .int m10, .long m11, .int m12, .int m13, .int m14, .int m15, .ref li, .ref ha, .ref lw, .ref st, .ref fo, .ref dr, .int m22, .ref ik, .int m24, .int mn2, .long m26, .int m27, .int m28, .ref ro, .int m30, .ref ct, .ref se, .ref th, .ref cn, .ref be, .int m36, .ref du, .int m38, .ref db, .int m40, .int m41, .int m42, .ref pn, .ref wg, .ref wh, .ref tn, .ref he, .int m48, .ref tr, .ref fd, .ref po, .int m52, .int m53])) ∧ (u.2 dr = .inl (cy 1, 520, .inl ndr)) ∧ (∀ j : Nat, q_drv j (ndr j)) ∧ (mn2.toInt = (gha 3).toInt + 1 ∧ 0 ≤ mn2.toInt ∧ mn2.toInt ≤ 13))) L sz) 0 0 (z_A L sz) := by
  refine z_met (cc := cX10_adds) (maxL := 10) (ret := none) (lv := [(0, .ref mm), (1, .int a1), (2, .int a2), (3, .int a3), (4, .int a4), (5, .int a5), (6, .int a6), (7, .int a7), (8, .int a8)]) (by decide) rfl (Nat.le_of_ble_eq_true rfl) rfl ?_
  intro p e s m below meth c ls hx hb hr hlk hml hown hnm hts hKK hA hw hl
  have hK := hKK.1.1
  have hown : s.vm.findClass RX10 = some m.cls := hown
  have hT : ∀ w ∈ lw_all, w.before ([.ref mm, .int a1, .int a2, .int a3, .int a4, .int a5, .int a6, .int a7, .int a8] : List Value).toArray s = true := fun w h => hts w (z_cons w h)
  have hsub : L = L := rfl
  have hfr : ∀ b ∈ L, b ≠ mm → b ≠ dr → f b = f b := fun _ _ _ _ => rfl
  refine lv_bipush (v := 8) hx hb dX10_adds_0 (by decide) ?_
  refine lv_aload_n hx hb dX10_adds_2 rfl (lv_at hl 0 rfl) ?_
  refine z_get (C := RX10) (T := TX10) (N := 54) (ci := 10) (v := .ref ha) hx hb hT zin_X10 hown hK hw hm_mm hf_mm rfl 17 (by decide) (hT _ kw_1185) rfl dX10_adds_3 ?_
  refine lv_iconst (v := 3) hx hb dX10_adds_6 (by decide) ?_
  refine z_iald hx hb hK hw 1 hm_ha hf_ha rfl (z_ix (show (3 : Int32).toInt = 3 by decide) (by decide)) dX10_adds_7 ?_
  refine lv_topi (fun w1 e_w1 => ?_)
  have hv_w1 : 0 ≤ w1.toInt ∧ w1.toInt ≤ 12 := by rw [e_w1]; exact (hq_ha _).2.2.2 rfl
  have hgw_w1 : w1.toInt = (gha 3).toInt := by rw [e_w1]; rfl
  refine lv_imul hx hb dX10_adds_8 ?_
  refine lv_topi (fun w2 e_w2 => ?_)
  have i_w2 : w2.toInt = (8 * w1.toInt) := z_mul e_w2 (show (8 : Int32).toInt = 8 by decide) rfl (by omega)
  refine lv_istore (lv' := [(9, .int w2), (0, .ref mm), (1, .int a1), (2, .int a2), (3, .int a3), (4, .int a4), (5, .int a5), (6, .int a6), (7, .int a7), (8, .int a8)]) hx hb dX10_adds_9 hl (by decide) rfl (fun ls hl => ?_)
  refine lv_aload_n hx hb dX10_adds_11 rfl (lv_at hl 1 rfl) ?_
  refine z_get (C := RX10) (T := TX10) (N := 54) (ci := 10) (v := .ref dr) hx hb hT zin_X10 hown hK hw hm_mm hf_mm rfl 21 (by decide) (hT _ kw_1189) rfl dX10_adds_12 ?_
  refine lv_iload hx hb dX10_adds_15 (lv_at hl 0 rfl) ?_
  refine lv_iload_n hx hb dX10_adds_17 rfl (lv_at hl 2 rfl) ?_
  refine z_iast hx hb hK hw 1 hm_dr hf_dr rfl (z_ix i_w2 (by omega)) dX10_adds_18 (fun H locs hw => ?_)
  obtain ⟨f4, e_f4⟩ : ∃ z, z = va_up f dr (.inl (cy 1, 520, .inl (upd gdr w2.toNatClampNeg a1))) := ⟨_, rfl⟩
  rw [← e_f4] at hw
  have hf_mm : f4 mm = .inr (10, [.int m0, .ref wd, .ref my, .ref ce, .ref mv, .ref ta, .int m6, .int m7, .int m8, .int m9, .int m10, .long m11, .int m12, .int m13, .int m14, .int m15, .ref li, .ref ha, .ref lw, .ref st, .ref fo, .ref dr, .int m22, .ref ik, .int m24, .int m25, .long m26, .int m27, .int m28, .ref ro, .int m30, .ref ct, .ref se, .ref th, .ref cn, .ref be, .int m36, .ref du, .int m38, .ref db, .int m40, .int m41, .int m42, .ref pn, .ref wg, .ref wh, .ref tn, .ref he, .int m48, .ref tr, .ref fd, .ref po, .int m52, .int m53]) := (congrFun e_f4 mm).trans (z_up_ne (z_tne hf_mm hf_dr (m := 10) (n := 4260) rfl rfl (by decide)) hf_mm)
  have hf_ha : f4 ha = .inl (cy 1, 30, .inl gha) := (congrFun e_f4 ha).trans (z_up_ne (z_tne hf_ha hf_dr (m := 340) (n := 4260) rfl rfl (by decide)) hf_ha)
  have hf_dr : f4 dr = .inl (cy 1, 520, .inl (upd gdr w2.toNatClampNeg a1)) := (congrFun e_f4 dr).trans z_up_self
  have hfr : ∀ b ∈ L, b ≠ mm → b ≠ dr → f4 b = f b := fun b hb h0 h1 => (congrFun e_f4 b).trans (z_up_ne h1 (hfr b hb h0 h1))
  obtain ⟨g3, e_g3⟩ : ∃ z, z = (upd gdr w2.toNatClampNeg a1) := ⟨_, rfl⟩
  rw [← e_g3] at hf_dr
  have hq_dr : ∀ j : Nat, q_drv j (g3 j) := z_updQ hq_dr e_g3 (show q_drv _ _ from z_drS0 (z_mod8 i_w2 (by omega)) (show 0 ≤ (a1 : Int32).toInt ∧ (a1 : Int32).toInt ≤ 4 by first | decide | omega))
  refine lv_aload_n hx hb dX10_adds_19 rfl (lv_at hl 1 rfl) ?_
  refine z_get (C := RX10) (T := TX10) (N := 54) (ci := 10) (v := .ref dr) hx hb hT zin_X10 hown hK hw hm_mm hf_mm rfl 21 (by decide) (hT _ kw_1189) rfl dX10_adds_20 ?_
  refine lv_iload hx hb dX10_adds_23 (lv_at hl 0 rfl) ?_
  refine lv_iconst (v := 1) hx hb dX10_adds_25 (by decide) ?_
  refine lv_iadd hx hb dX10_adds_26 ?_
  refine lv_topi (fun w5 e_w5 => ?_)
  have i_w5 : w5.toInt = ((8 * w1.toInt) + 1) := z_add e_w5 i_w2 (show (1 : Int32).toInt = 1 by decide) (by omega)
  refine lv_iload_n hx hb dX10_adds_27 rfl (lv_at hl 3 rfl) ?_
  refine z_iast hx hb hK hw 1 hm_dr hf_dr rfl (z_ix i_w5 (by omega)) dX10_adds_28 (fun H locs hw => ?_)
  obtain ⟨f7, e_f7⟩ : ∃ z, z = va_up f4 dr (.inl (cy 1, 520, .inl (upd g3 w5.toNatClampNeg a2))) := ⟨_, rfl⟩
  rw [← e_f7] at hw
  have hf_mm : f7 mm = .inr (10, [.int m0, .ref wd, .ref my, .ref ce, .ref mv, .ref ta, .int m6, .int m7, .int m8, .int m9, .int m10, .long m11, .int m12, .int m13, .int m14, .int m15, .ref li, .ref ha, .ref lw, .ref st, .ref fo, .ref dr, .int m22, .ref ik, .int m24, .int m25, .long m26, .int m27, .int m28, .ref ro, .int m30, .ref ct, .ref se, .ref th, .ref cn, .ref be, .int m36, .ref du, .int m38, .ref db, .int m40, .int m41, .int m42, .ref pn, .ref wg, .ref wh, .ref tn, .ref he, .int m48, .ref tr, .ref fd, .ref po, .int m52, .int m53]) := (congrFun e_f7 mm).trans (z_up_ne (z_tne hf_mm hf_dr (m := 10) (n := 4260) rfl rfl (by decide)) hf_mm)
  have hf_ha : f7 ha = .inl (cy 1, 30, .inl gha) := (congrFun e_f7 ha).trans (z_up_ne (z_tne hf_ha hf_dr (m := 340) (n := 4260) rfl rfl (by decide)) hf_ha)
  have hf_dr : f7 dr = .inl (cy 1, 520, .inl (upd g3 w5.toNatClampNeg a2)) := (congrFun e_f7 dr).trans z_up_self
  have hfr : ∀ b ∈ L, b ≠ mm → b ≠ dr → f7 b = f b := fun b hb h0 h1 => (congrFun e_f7 b).trans (z_up_ne h1 (hfr b hb h0 h1))
  obtain ⟨g6, e_g6⟩ : ∃ z, z = (upd g3 w5.toNatClampNeg a2) := ⟨_, rfl⟩
  rw [← e_g6] at hf_dr
  have hq_dr : ∀ j : Nat, q_drv j (g6 j) := z_updQ hq_dr e_g6 (show q_drv _ _ from z_drS1 (z_mod8 i_w5 (by omega)) (show 0 ≤ (a2 : Int32).toInt ∧ (a2 : Int32).toInt ≤ 3 by first | decide | omega))
  refine lv_aload_n hx hb dX10_adds_29 rfl (lv_at hl 1 rfl) ?_
  refine z_get (C := RX10) (T := TX10) (N := 54) (ci := 10) (v := .ref dr) hx hb hT zin_X10 hown hK hw hm_mm hf_mm rfl 21 (by decide) (hT _ kw_1189) rfl dX10_adds_30 ?_
  refine lv_iload hx hb dX10_adds_33 (lv_at hl 0 rfl) ?_
  refine lv_iconst (v := 2) hx hb dX10_adds_35 (by decide) ?_
  refine lv_iadd hx hb dX10_adds_36 ?_
  refine lv_topi (fun w8 e_w8 => ?_)
  have i_w8 : w8.toInt = ((8 * w1.toInt) + 2) := z_add e_w8 i_w2 (show (2 : Int32).toInt = 2 by decide) (by omega)
  refine lv_iload_n hx hb dX10_adds_37 rfl (lv_at hl 4 rfl) ?_
  refine z_iast hx hb hK hw 1 hm_dr hf_dr rfl (z_ix i_w8 (by omega)) dX10_adds_38 (fun H locs hw => ?_)
  obtain ⟨f10, e_f10⟩ : ∃ z, z = va_up f7 dr (.inl (cy 1, 520, .inl (upd g6 w8.toNatClampNeg a3))) := ⟨_, rfl⟩
  rw [← e_f10] at hw
  have hf_mm : f10 mm = .inr (10, [.int m0, .ref wd, .ref my, .ref ce, .ref mv, .ref ta, .int m6, .int m7, .int m8, .int m9, .int m10, .long m11, .int m12, .int m13, .int m14, .int m15, .ref li, .ref ha, .ref lw, .ref st, .ref fo, .ref dr, .int m22, .ref ik, .int m24, .int m25, .long m26, .int m27, .int m28, .ref ro, .int m30, .ref ct, .ref se, .ref th, .ref cn, .ref be, .int m36, .ref du, .int m38, .ref db, .int m40, .int m41, .int m42, .ref pn, .ref wg, .ref wh, .ref tn, .ref he, .int m48, .ref tr, .ref fd, .ref po, .int m52, .int m53]) := (congrFun e_f10 mm).trans (z_up_ne (z_tne hf_mm hf_dr (m := 10) (n := 4260) rfl rfl (by decide)) hf_mm)
  have hf_ha : f10 ha = .inl (cy 1, 30, .inl gha) := (congrFun e_f10 ha).trans (z_up_ne (z_tne hf_ha hf_dr (m := 340) (n := 4260) rfl rfl (by decide)) hf_ha)
  have hf_dr : f10 dr = .inl (cy 1, 520, .inl (upd g6 w8.toNatClampNeg a3)) := (congrFun e_f10 dr).trans z_up_self
  have hfr : ∀ b ∈ L, b ≠ mm → b ≠ dr → f10 b = f b := fun b hb h0 h1 => (congrFun e_f10 b).trans (z_up_ne h1 (hfr b hb h0 h1))
  obtain ⟨g9, e_g9⟩ : ∃ z, z = (upd g6 w8.toNatClampNeg a3) := ⟨_, rfl⟩
  rw [← e_g9] at hf_dr
  have hq_dr : ∀ j : Nat, q_drv j (g9 j) := z_updQ hq_dr e_g9 (show q_drv _ _ from z_drS2 (z_mod8 i_w8 (by omega)) (show 0 ≤ (a3 : Int32).toInt ∧ (a3 : Int32).toInt ≤ 8 by first | decide | omega))
  refine lv_aload_n hx hb dX10_adds_39 rfl (lv_at hl 1 rfl) ?_
  refine z_get (C := RX10) (T := TX10) (N := 54) (ci := 10) (v := .ref dr) hx hb hT zin_X10 hown hK hw hm_mm hf_mm rfl 21 (by decide) (hT _ kw_1189) rfl dX10_adds_40 ?_
  refine lv_iload hx hb dX10_adds_43 (lv_at hl 0 rfl) ?_
  refine lv_iconst (v := 3) hx hb dX10_adds_45 (by decide) ?_
  refine lv_iadd hx hb dX10_adds_46 ?_
  refine lv_topi (fun w11 e_w11 => ?_)
  have i_w11 : w11.toInt = ((8 * w1.toInt) + 3) := z_add e_w11 i_w2 (show (3 : Int32).toInt = 3 by decide) (by omega)
  refine lv_iload hx hb dX10_adds_47 (lv_at hl 5 rfl) ?_
  refine z_iast hx hb hK hw 1 hm_dr hf_dr rfl (z_ix i_w11 (by omega)) dX10_adds_49 (fun H locs hw => ?_)
  obtain ⟨f13, e_f13⟩ : ∃ z, z = va_up f10 dr (.inl (cy 1, 520, .inl (upd g9 w11.toNatClampNeg a4))) := ⟨_, rfl⟩
  rw [← e_f13] at hw
  have hf_mm : f13 mm = .inr (10, [.int m0, .ref wd, .ref my, .ref ce, .ref mv, .ref ta, .int m6, .int m7, .int m8, .int m9, .int m10, .long m11, .int m12, .int m13, .int m14, .int m15, .ref li, .ref ha, .ref lw, .ref st, .ref fo, .ref dr, .int m22, .ref ik, .int m24, .int m25, .long m26, .int m27, .int m28, .ref ro, .int m30, .ref ct, .ref se, .ref th, .ref cn, .ref be, .int m36, .ref du, .int m38, .ref db, .int m40, .int m41, .int m42, .ref pn, .ref wg, .ref wh, .ref tn, .ref he, .int m48, .ref tr, .ref fd, .ref po, .int m52, .int m53]) := (congrFun e_f13 mm).trans (z_up_ne (z_tne hf_mm hf_dr (m := 10) (n := 4260) rfl rfl (by decide)) hf_mm)
  have hf_ha : f13 ha = .inl (cy 1, 30, .inl gha) := (congrFun e_f13 ha).trans (z_up_ne (z_tne hf_ha hf_dr (m := 340) (n := 4260) rfl rfl (by decide)) hf_ha)
  have hf_dr : f13 dr = .inl (cy 1, 520, .inl (upd g9 w11.toNatClampNeg a4)) := (congrFun e_f13 dr).trans z_up_self
  have hfr : ∀ b ∈ L, b ≠ mm → b ≠ dr → f13 b = f b := fun b hb h0 h1 => (congrFun e_f13 b).trans (z_up_ne h1 (hfr b hb h0 h1))
  obtain ⟨g12, e_g12⟩ : ∃ z, z = (upd g9 w11.toNatClampNeg a4) := ⟨_, rfl⟩
  rw [← e_g12] at hf_dr
  have hq_dr : ∀ j : Nat, q_drv j (g12 j) := z_updQ hq_dr e_g12 (show q_drv _ _ from z_drS3 (z_mod8 i_w11 (by omega)) (show 0 ≤ (a4 : Int32).toInt ∧ (a4 : Int32).toInt ≤ 23 by first | decide | omega))
  refine lv_aload_n hx hb dX10_adds_50 rfl (lv_at hl 1 rfl) ?_
  refine z_get (C := RX10) (T := TX10) (N := 54) (ci := 10) (v := .ref dr) hx hb hT zin_X10 hown hK hw hm_mm hf_mm rfl 21 (by decide) (hT _ kw_1189) rfl dX10_adds_51 ?_
  refine lv_iload hx hb dX10_adds_54 (lv_at hl 0 rfl) ?_
  refine lv_iconst (v := 4) hx hb dX10_adds_56 (by decide) ?_
  refine lv_iadd hx hb dX10_adds_57 ?_
  refine lv_topi (fun w14 e_w14 => ?_)
  have i_w14 : w14.toInt = ((8 * w1.toInt) + 4) := z_add e_w14 i_w2 (show (4 : Int32).toInt = 4 by decide) (by omega)
  refine lv_iload hx hb dX10_adds_58 (lv_at hl 6 rfl) ?_
  refine z_iast hx hb hK hw 1 hm_dr hf_dr rfl (z_ix i_w14 (by omega)) dX10_adds_60 (fun H locs hw => ?_)
  obtain ⟨f16, e_f16⟩ : ∃ z, z = va_up f13 dr (.inl (cy 1, 520, .inl (upd g12 w14.toNatClampNeg a5))) := ⟨_, rfl⟩
  rw [← e_f16] at hw
  have hf_mm : f16 mm = .inr (10, [.int m0, .ref wd, .ref my, .ref ce, .ref mv, .ref ta, .int m6, .int m7, .int m8, .int m9, .int m10, .long m11, .int m12, .int m13, .int m14, .int m15, .ref li, .ref ha, .ref lw, .ref st, .ref fo, .ref dr, .int m22, .ref ik, .int m24, .int m25, .long m26, .int m27, .int m28, .ref ro, .int m30, .ref ct, .ref se, .ref th, .ref cn, .ref be, .int m36, .ref du, .int m38, .ref db, .int m40, .int m41, .int m42, .ref pn, .ref wg, .ref wh, .ref tn, .ref he, .int m48, .ref tr, .ref fd, .ref po, .int m52, .int m53]) := (congrFun e_f16 mm).trans (z_up_ne (z_tne hf_mm hf_dr (m := 10) (n := 4260) rfl rfl (by decide)) hf_mm)
  have hf_ha : f16 ha = .inl (cy 1, 30, .inl gha) := (congrFun e_f16 ha).trans (z_up_ne (z_tne hf_ha hf_dr (m := 340) (n := 4260) rfl rfl (by decide)) hf_ha)
  have hf_dr : f16 dr = .inl (cy 1, 520, .inl (upd g12 w14.toNatClampNeg a5)) := (congrFun e_f16 dr).trans z_up_self
  have hfr : ∀ b ∈ L, b ≠ mm → b ≠ dr → f16 b = f b := fun b hb h0 h1 => (congrFun e_f16 b).trans (z_up_ne h1 (hfr b hb h0 h1))
  obtain ⟨g15, e_g15⟩ : ∃ z, z = (upd g12 w14.toNatClampNeg a5) := ⟨_, rfl⟩
  rw [← e_g15] at hf_dr
  have hq_dr : ∀ j : Nat, q_drv j (g15 j) := z_updQ hq_dr e_g15 (show q_drv _ _ from z_drS4 (z_mod8 i_w14 (by omega)) (show 0 ≤ (a5 : Int32).toInt ∧ (a5 : Int32).toInt ≤ 99 by first | decide | omega))
  refine lv_aload_n hx hb dX10_adds_61 rfl (lv_at hl 1 rfl) ?_
  refine z_get (C := RX10) (T := TX10) (N := 54) (ci := 10) (v := .ref dr) hx hb hT zin_X10 hown hK hw hm_mm hf_mm rfl 21 (by decide) (hT _ kw_1189) rfl dX10_adds_62 ?_
  refine lv_iload hx hb dX10_adds_65 (lv_at hl 0 rfl) ?_
  refine lv_iconst (v := 5) hx hb dX10_adds_67 (by decide) ?_
  refine lv_iadd hx hb dX10_adds_68 ?_
  refine lv_topi (fun w17 e_w17 => ?_)
  have i_w17 : w17.toInt = ((8 * w1.toInt) + 5) := z_add e_w17 i_w2 (show (5 : Int32).toInt = 5 by decide) (by omega)
  refine lv_iload hx hb dX10_adds_69 (lv_at hl 7 rfl) ?_
  refine z_iast hx hb hK hw 1 hm_dr hf_dr rfl (z_ix i_w17 (by omega)) dX10_adds_71 (fun H locs hw => ?_)
  obtain ⟨f19, e_f19⟩ : ∃ z, z = va_up f16 dr (.inl (cy 1, 520, .inl (upd g15 w17.toNatClampNeg a6))) := ⟨_, rfl⟩
  rw [← e_f19] at hw
  have hf_mm : f19 mm = .inr (10, [.int m0, .ref wd, .ref my, .ref ce, .ref mv, .ref ta, .int m6, .int m7, .int m8, .int m9, .int m10, .long m11, .int m12, .int m13, .int m14, .int m15, .ref li, .ref ha, .ref lw, .ref st, .ref fo, .ref dr, .int m22, .ref ik, .int m24, .int m25, .long m26, .int m27, .int m28, .ref ro, .int m30, .ref ct, .ref se, .ref th, .ref cn, .ref be, .int m36, .ref du, .int m38, .ref db, .int m40, .int m41, .int m42, .ref pn, .ref wg, .ref wh, .ref tn, .ref he, .int m48, .ref tr, .ref fd, .ref po, .int m52, .int m53]) := (congrFun e_f19 mm).trans (z_up_ne (z_tne hf_mm hf_dr (m := 10) (n := 4260) rfl rfl (by decide)) hf_mm)
  have hf_ha : f19 ha = .inl (cy 1, 30, .inl gha) := (congrFun e_f19 ha).trans (z_up_ne (z_tne hf_ha hf_dr (m := 340) (n := 4260) rfl rfl (by decide)) hf_ha)
  have hf_dr : f19 dr = .inl (cy 1, 520, .inl (upd g15 w17.toNatClampNeg a6)) := (congrFun e_f19 dr).trans z_up_self
  have hfr : ∀ b ∈ L, b ≠ mm → b ≠ dr → f19 b = f b := fun b hb h0 h1 => (congrFun e_f19 b).trans (z_up_ne h1 (hfr b hb h0 h1))
  obtain ⟨g18, e_g18⟩ : ∃ z, z = (upd g15 w17.toNatClampNeg a6) := ⟨_, rfl⟩
  rw [← e_g18] at hf_dr
  have hq_dr : ∀ j : Nat, q_drv j (g18 j) := z_updQ hq_dr e_g18 (show q_drv _ _ from z_drS5 (z_mod8 i_w17 (by omega)) (show 0 ≤ (a6 : Int32).toInt ∧ (a6 : Int32).toInt ≤ 99 by first | decide | omega))
  refine lv_aload_n hx hb dX10_adds_72 rfl (lv_at hl 1 rfl) ?_
  refine z_get (C := RX10) (T := TX10) (N := 54) (ci := 10) (v := .ref dr) hx hb hT zin_X10 hown hK hw hm_mm hf_mm rfl 21 (by decide) (hT _ kw_1189) rfl dX10_adds_73 ?_
  refine lv_iload hx hb dX10_adds_76 (lv_at hl 0 rfl) ?_
  refine lv_bipush (v := 6) hx hb dX10_adds_78 (by decide) ?_
  refine lv_iadd hx hb dX10_adds_80 ?_
  refine lv_topi (fun w20 e_w20 => ?_)
  have i_w20 : w20.toInt = ((8 * w1.toInt) + 6) := z_add e_w20 i_w2 (show (6 : Int32).toInt = 6 by decide) (by omega)
  refine lv_iload hx hb dX10_adds_81 (lv_at hl 8 rfl) ?_
  refine z_iast hx hb hK hw 1 hm_dr hf_dr rfl (z_ix i_w20 (by omega)) dX10_adds_83 (fun H locs hw => ?_)
  obtain ⟨f22, e_f22⟩ : ∃ z, z = va_up f19 dr (.inl (cy 1, 520, .inl (upd g18 w20.toNatClampNeg a7))) := ⟨_, rfl⟩
  rw [← e_f22] at hw
  have hf_mm : f22 mm = .inr (10, [.int m0, .ref wd, .ref my, .ref ce, .ref mv, .ref ta, .int m6, .int m7, .int m8, .int m9, .int m10, .long m11, .int m12, .int m13, .int m14, .int m15, .ref li, .ref ha, .ref lw, .ref st, .ref fo, .ref dr, .int m22, .ref ik, .int m24, .int m25, .long m26, .int m27, .int m28, .ref ro, .int m30, .ref ct, .ref se, .ref th, .ref cn, .ref be, .int m36, .ref du, .int m38, .ref db, .int m40, .int m41, .int m42, .ref pn, .ref wg, .ref wh, .ref tn, .ref he, .int m48, .ref tr, .ref fd, .ref po, .int m52, .int m53]) := (congrFun e_f22 mm).trans (z_up_ne (z_tne hf_mm hf_dr (m := 10) (n := 4260) rfl rfl (by decide)) hf_mm)
  have hf_ha : f22 ha = .inl (cy 1, 30, .inl gha) := (congrFun e_f22 ha).trans (z_up_ne (z_tne hf_ha hf_dr (m := 340) (n := 4260) rfl rfl (by decide)) hf_ha)
  have hf_dr : f22 dr = .inl (cy 1, 520, .inl (upd g18 w20.toNatClampNeg a7)) := (congrFun e_f22 dr).trans z_up_self
  have hfr : ∀ b ∈ L, b ≠ mm → b ≠ dr → f22 b = f b := fun b hb h0 h1 => (congrFun e_f22 b).trans (z_up_ne h1 (hfr b hb h0 h1))
  obtain ⟨g21, e_g21⟩ : ∃ z, z = (upd g18 w20.toNatClampNeg a7) := ⟨_, rfl⟩
  rw [← e_g21] at hf_dr
  have hq_dr : ∀ j : Nat, q_drv j (g21 j) := z_updQ hq_dr e_g21 (show q_drv _ _ from z_drS6 (z_mod8 i_w20 (by omega)) (show 0 ≤ (a7 : Int32).toInt ∧ (a7 : Int32).toInt ≤ 4 by first | decide | omega))
  refine lv_aload_n hx hb dX10_adds_84 rfl (lv_at hl 1 rfl) ?_
  refine z_get (C := RX10) (T := TX10) (N := 54) (ci := 10) (v := .ref dr) hx hb hT zin_X10 hown hK hw hm_mm hf_mm rfl 21 (by decide) (hT _ kw_1189) rfl dX10_adds_85 ?_
  refine lv_iload hx hb dX10_adds_88 (lv_at hl 0 rfl) ?_
  refine lv_bipush (v := 7) hx hb dX10_adds_90 (by decide) ?_
  refine lv_iadd hx hb dX10_adds_92 ?_
  refine lv_topi (fun w23 e_w23 => ?_)
  have i_w23 : w23.toInt = ((8 * w1.toInt) + 7) := z_add e_w23 i_w2 (show (7 : Int32).toInt = 7 by decide) (by omega)
  refine lv_iload hx hb dX10_adds_93 (lv_at hl 9 rfl) ?_
  refine z_iast hx hb hK hw 1 hm_dr hf_dr rfl (z_ix i_w23 (by omega)) dX10_adds_95 (fun H locs hw => ?_)
  obtain ⟨f25, e_f25⟩ : ∃ z, z = va_up f22 dr (.inl (cy 1, 520, .inl (upd g21 w23.toNatClampNeg a8))) := ⟨_, rfl⟩
  rw [← e_f25] at hw
  have hf_mm : f25 mm = .inr (10, [.int m0, .ref wd, .ref my, .ref ce, .ref mv, .ref ta, .int m6, .int m7, .int m8, .int m9, .int m10, .long m11, .int m12, .int m13, .int m14, .int m15, .ref li, .ref ha, .ref lw, .ref st, .ref fo, .ref dr, .int m22, .ref ik, .int m24, .int m25, .long m26, .int m27, .int m28, .ref ro, .int m30, .ref ct, .ref se, .ref th, .ref cn, .ref be, .int m36, .ref du, .int m38, .ref db, .int m40, .int m41, .int m42, .ref pn, .ref wg, .ref wh, .ref tn, .ref he, .int m48, .ref tr, .ref fd, .ref po, .int m52, .int m53]) := (congrFun e_f25 mm).trans (z_up_ne (z_tne hf_mm hf_dr (m := 10) (n := 4260) rfl rfl (by decide)) hf_mm)
  have hf_ha : f25 ha = .inl (cy 1, 30, .inl gha) := (congrFun e_f25 ha).trans (z_up_ne (z_tne hf_ha hf_dr (m := 340) (n := 4260) rfl rfl (by decide)) hf_ha)
  have hf_dr : f25 dr = .inl (cy 1, 520, .inl (upd g21 w23.toNatClampNeg a8)) := (congrFun e_f25 dr).trans z_up_self
  have hfr : ∀ b ∈ L, b ≠ mm → b ≠ dr → f25 b = f b := fun b hb h0 h1 => (congrFun e_f25 b).trans (z_up_ne h1 (hfr b hb h0 h1))
  obtain ⟨g24, e_g24⟩ : ∃ z, z = (upd g21 w23.toNatClampNeg a8) := ⟨_, rfl⟩
  rw [← e_g24] at hf_dr
  have hq_dr : ∀ j : Nat, q_drv j (g24 j) := z_updQ hq_dr e_g24 (show q_drv _ _ from z_drS7 (z_mod8 i_w23 (by omega)) (show 0 ≤ (a8 : Int32).toInt ∧ (a8 : Int32).toInt ≤ 1 by first | decide | omega))
  refine lv_aload_n hx hb dX10_adds_96 rfl (lv_at hl 1 rfl) ?_
  refine lv_aload_n hx hb dX10_adds_97 rfl (lv_at hl 1 rfl) ?_
  refine z_get (C := RX10) (T := TX10) (N := 54) (ci := 10) (v := .ref ha) hx hb hT zin_X10 hown hK hw hm_mm hf_mm rfl 17 (by decide) (hT _ kw_1185) rfl dX10_adds_98 ?_
  refine lv_iconst (v := 3) hx hb dX10_adds_101 (by decide) ?_
  refine z_iald hx hb hK hw 1 hm_ha hf_ha rfl (z_ix (show (3 : Int32).toInt = 3 by decide) (by decide)) dX10_adds_102 ?_
  refine lv_topi (fun w26 e_w26 => ?_)
  have hv_w26 : 0 ≤ w26.toInt ∧ w26.toInt ≤ 12 := by rw [e_w26]; exact (hq_ha _).2.2.2 rfl
  have hgw_w26 : w26.toInt = (gha 3).toInt := by rw [e_w26]; rfl
  refine lv_iconst (v := 1) hx hb dX10_adds_103 (by decide) ?_
  refine lv_iadd hx hb dX10_adds_104 ?_
  refine lv_topi (fun w27 e_w27 => ?_)
  have i_w27 : w27.toInt = (w26.toInt + 1) := z_add e_w27 rfl (show (1 : Int32).toInt = 1 by decide) (by omega)
  refine z_put (C := RX10) (T := TX10) (N := 54) (ci := 10) (v := .int w27) (fs' := [.int m0, .ref wd, .ref my, .ref ce, .ref mv, .ref ta, .int m6, .int m7, .int m8, .int m9, .int m10, .long m11, .int m12, .int m13, .int m14, .int m15, .ref li, .ref ha, .ref lw, .ref st, .ref fo, .ref dr, .int m22, .ref ik, .int m24, .int w27, .long m26, .int m27, .int m28, .ref ro, .int m30, .ref ct, .ref se, .ref th, .ref cn, .ref be, .int m36, .ref du, .int m38, .ref db, .int m40, .int m41, .int m42, .ref pn, .ref wg, .ref wh, .ref tn, .ref he, .int m48, .ref tr, .ref fd, .ref po, .int m52, .int m53]) hx hb hT zin_X10 tyX10_ok nmX10 hown hK hw hm_mm hf_mm rfl 25 (by decide) (hT _ kw_1193) rfl rfl rfl (Nat.le_of_ble_eq_true rfl) rfl dX10_adds_105 (fun H locs hw => ?_)
  obtain ⟨f28, e_f28⟩ : ∃ z, z = va_up f25 mm (.inr (10, [.int m0, .ref wd, .ref my, .ref ce, .ref mv, .ref ta, .int m6, .int m7, .int m8, .int m9, .int m10, .long m11, .int m12, .int m13, .int m14, .int m15, .ref li, .ref ha, .ref lw, .ref st, .ref fo, .ref dr, .int m22, .ref ik, .int m24, .int w27, .long m26, .int m27, .int m28, .ref ro, .int m30, .ref ct, .ref se, .ref th, .ref cn, .ref be, .int m36, .ref du, .int m38, .ref db, .int m40, .int m41, .int m42, .ref pn, .ref wg, .ref wh, .ref tn, .ref he, .int m48, .ref tr, .ref fd, .ref po, .int m52, .int m53])) := ⟨_, rfl⟩
  rw [← e_f28] at hw
  have hf_ha : f28 ha = .inl (cy 1, 30, .inl gha) := (congrFun e_f28 ha).trans (z_up_ne (z_tne hf_ha hf_mm (m := 340) (n := 10) rfl rfl (by decide)) hf_ha)
  have hf_dr : f28 dr = .inl (cy 1, 520, .inl g24) := (congrFun e_f28 dr).trans (z_up_ne (z_tne hf_dr hf_mm (m := 4260) (n := 10) rfl rfl (by decide)) hf_dr)
  have hf_mm : f28 mm = .inr (10, [.int m0, .ref wd, .ref my, .ref ce, .ref mv, .ref ta, .int m6, .int m7, .int m8, .int m9, .int m10, .long m11, .int m12, .int m13, .int m14, .int m15, .ref li, .ref ha, .ref lw, .ref st, .ref fo, .ref dr, .int m22, .ref ik, .int m24, .int w27, .long m26, .int m27, .int m28, .ref ro, .int m30, .ref ct, .ref se, .ref th, .ref cn, .ref be, .int m36, .ref du, .int m38, .ref db, .int m40, .int m41, .int m42, .ref pn, .ref wg, .ref wh, .ref tn, .ref he, .int m48, .ref tr, .ref fd, .ref po, .int m52, .int m53]) := (congrFun e_f28 mm).trans z_up_self
  have hfr : ∀ b ∈ L, b ≠ mm → b ≠ dr → f28 b = f b := fun b hb h0 h1 => (congrFun e_f28 b).trans (z_up_ne h0 (hfr b hb h0 h1))
  exact z_vret hx hb hr hlk (by decide) (by decide) hw (⟨hsub, hfr, w27, g24, hf_mm, hf_dr, hq_dr, by omega, by omega⟩) dX10_adds_108

set_option maxHeartbeats 2000000 in
set_option maxRecDepth 100000 in
theorem c_X10_best (l : Launch) {D : va_G} {cy : Nat → ClassId} {L : List Nat} {f : Nat → va_E} {sz : Nat} {adK adV : Nat → Nat} {mm wd my ce mv ta li ha lw st fo dr ik ro ct se th cn be du db pn wg wh tn he tr fd po : Nat} {m0 m6 m7 m8 m9 m10 m12 m13 m14 m15 m22 m24 m25 m27 m28 m30 m36 m38 m40 m41 m42 m48 m52 m53 : Int32} {m11 m26 : Int64} {gha glw gst gfo gdr gro gct gse gth gcn gbe gdu gdb : Nat → Int32}  {kk wt : Int32} (hm_mm : mm ∈ L) (hm_ha : ha ∈ L) (hm_dr : dr ∈ L) (hm_ro : ro ∈ L) (hm_lw : lw ∈ L) (hm_st : st ∈ L) (hm_ct : ct ∈ L) (hm_se : se ∈ L) (hm_th : th ∈ L) (hm_cn : cn ∈ L) (hm_db : db ∈ L) (hm_be : be ∈ L) (hm_du : du ∈ L) (hm_fo : fo ∈ L) (hf_mm : f mm = .inr (10, [.int m0, .ref wd, .ref my, .ref ce, .ref mv, .ref ta, .int m6, .int m7, .int m8, .int m9, .int m10, .long m11, .int m12, .int m13, .int m14, .int m15, .ref li, .ref ha, .ref lw, .ref st, .ref fo, .ref dr, .int m22, .ref ik, .int m24, .int m25, .long m26, .int m27, .int m28, .ref ro, .int m30, .ref ct, .ref se, .ref th, .ref cn, .ref be, .int m36, .ref du, .int m38, .ref db, .int m40, .int m41, .int m42, .ref pn, .ref wg, .ref wh, .ref tn, .ref he, .int m48, .ref tr, .ref fd, .ref po, .int m52, .int m53])) (hf_ha : f ha = .inl (cy 1, 30, .inl gha)) (hf_dr : f dr = .inl (cy 1, 520, .inl gdr)) (hf_ro : f ro = .inl (cy 1, 13, .inl gro)) (hf_lw : f lw = .inl (cy 1, 25, .inl glw)) (hf_st : f st = .inl (cy 1, 20, .inl gst)) (hf_ct : f ct = .inl (cy 1, 4, .inl gct)) (hf_se : f se = .inl (cy 1, 36, .inl gse)) (hf_th : f th = .inl (cy 1, 36, .inl gth)) (hf_cn : f cn = .inl (cy 1, 36, .inl gcn)) (hf_db : f db = .inl (cy 1, 5, .inl gdb)) (hf_be : f be = .inl (cy 1, 2574, .inl gbe)) (hf_du : f du = .inl (cy 1, 5200, .inl gdu)) (hf_fo : f fo = .inl (cy 1, 180, .inl gfo)) (ne_se_th : se ≠ th) (ne_se_cn : se ≠ cn) (ne_th_cn : th ≠ cn) (hq_ha : ∀ j : Nat, q_has j (gha j)) (hq_dr : ∀ j : Nat, q_drv j (gdr j)) (hq_ro : ∀ j : Nat, q_12 j (gro j)) (hq_lw : ∀ j : Nat, q_law j (glw j)) (hq_st : ∀ j : Nat, q_law j (gst j)) (hq_ct : ∀ j : Nat, q_law j (gct j)) (hq_be : ∀ j : Nat, q_be j (gbe j)) (hq_du : ∀ j : Nat, q_du j (gdu j)) (hxx : 0 ≤ m26.toInt ∧ m26.toInt < 2147483648) (hea : ∀ m : Nat, m < 5 → z_ea gha glw m) (hbg : 0 ≤ m41.toInt ∧ m41.toInt ≤ 3) (hbh : 0 ≤ m42.toInt ∧ m42.toInt ≤ 23) : Met l yX10_best (z_ws yX10_best cX10_best 3 (some .int)) (z_R 8 0 0) (va_Pc [.ref mm, .int kk, .int wt] (z_Pre D vwCl (z_KK D cy adK adV) L f sz)) (z_Qi D vwCl (fun r u => L = u.1 ∧ (∀ b ∈ L, b ≠ mm → b ≠ ro → b ≠ ct → b ≠ se → b ≠ th → b ≠ cn → b ≠ db → b ≠ be → b ≠ du → b ≠ dr → u.2 b = f b) ∧ (∃ (o2 mn2 i2 u2 n2 d2 y2 bp2 bg2 bh2 : Int32) (x2 : Int64) (nro nct nse nth ncn ndb nbe ndu ndr : Nat → Int32), (u.2 mm = .inr (10, [.int 0, .ref wd, .ref my, .ref ce, .ref mv, .ref ta, .int m6, .int m7, .int m8, .int m9, .int m10, .long m11, .int m12, .int m13, .int m14, .int m15, .ref li, .ref ha, .ref lw, .ref st, .ref fo, .ref dr, .int m22, .ref ik, .int o2, .int mn2, .long x2, .int i2, .int u2, .ref ro, .int n2, .ref ct, .ref se, .ref th, .ref cn, .ref be, .int y2, .ref du, .int d2, .ref db, .int bp2, .int bg2, .int bh2, .ref pn, .ref wg, .ref wh, .ref tn, .ref he, .int m48, .ref tr, .ref fd, .ref po, .int m52, .int m53])) ∧ (u.2 ro = .inl (cy 1, 13, .inl nro)) ∧ (u.2 ct = .inl (cy 1, 4, .inl nct)) ∧ (u.2 se = .inl (cy 1, 36, .inl nse)) ∧ (u.2 th = .inl (cy 1, 36, .inl nth)) ∧ (u.2 cn = .inl (cy 1, 36, .inl ncn)) ∧ (u.2 db = .inl (cy 1, 5, .inl ndb)) ∧ (u.2 be = .inl (cy 1, 2574, .inl nbe)) ∧ (u.2 du = .inl (cy 1, 5200, .inl ndu)) ∧ (u.2 dr = .inl (cy 1, 520, .inl ndr)) ∧ (∀ j : Nat, q_12 j (nro j)) ∧ (∀ j : Nat, q_law j (nct j)) ∧ (∀ j : Nat, q_be j (nbe j)) ∧ (∀ j : Nat, q_du j (ndu j)) ∧ (∀ j : Nat, q_drv j (ndr j)) ∧ ((0 ≤ x2.toInt ∧ x2.toInt < 2147483648) ∧ (0 ≤ bg2.toInt ∧ bg2.toInt ≤ 3) ∧ (0 ≤ bh2.toInt ∧ bh2.toInt ≤ 23)))) L sz) 0 0 (z_A L sz) := by
  refine z_met (cc := cX10_best) (maxL := 3) (ret := (some .int)) (lv := [(0, .ref mm), (1, .int kk), (2, .int wt)]) (by decide) rfl (Nat.le_of_ble_eq_true rfl) rfl ?_
  intro p e s m below meth c ls hx hb hr hlk hml hown hnm hts hKK hA hw hl
  have hK := hKK.1.1
  have hown : s.vm.findClass RX10 = some m.cls := hown
  have hT : ∀ w ∈ lw_all, w.before ([.ref mm, .int kk, .int wt] : List Value).toArray s = true := fun w h => hts w (z_cons w h)
  have hsub : L = L := rfl
  have hfr : ∀ b ∈ L, b ≠ mm → b ≠ ro → b ≠ ct → b ≠ se → b ≠ th → b ≠ cn → b ≠ db → b ≠ be → b ≠ du → b ≠ dr → f b = f b := fun _ _ _ _ _ _ _ _ _ _ _ _ => rfl
  have hh0 := (hq_ha 0).1 rfl
  have hh1 := (hq_ha 1).2.1 rfl
  have hh2 := (hq_ha 2).2.2.1 rfl
  have hh3 := (hq_ha 3).2.2.2 rfl
  have hea0 : 2 ≤ (glw 3).toInt ∨ ((gha 3).toInt = 0 ∧ (gha 0).toInt = 0) := hea 0 (by decide)
  have hz_m2 : (-2 : Int32).toInt = -2 := by decide
  have hz_m1 : (-1 : Int32).toInt = -1 := by decide
  have hz_0 : (0 : Int32).toInt = 0 := by decide
  refine lv_aload_n hx hb dX10_best_0 rfl (lv_at hl 0 rfl) ?_
  refine lv_iconst (v := 0) hx hb dX10_best_1 (by decide) ?_
  refine z_put (C := RX10) (T := TX10) (N := 54) (ci := 10) (v := .int 0) (fs' := [.int 0, .ref wd, .ref my, .ref ce, .ref mv, .ref ta, .int m6, .int m7, .int m8, .int m9, .int m10, .long m11, .int m12, .int m13, .int m14, .int m15, .ref li, .ref ha, .ref lw, .ref st, .ref fo, .ref dr, .int m22, .ref ik, .int m24, .int m25, .long m26, .int m27, .int m28, .ref ro, .int m30, .ref ct, .ref se, .ref th, .ref cn, .ref be, .int m36, .ref du, .int m38, .ref db, .int m40, .int m41, .int m42, .ref pn, .ref wg, .ref wh, .ref tn, .ref he, .int m48, .ref tr, .ref fd, .ref po, .int m52, .int m53]) hx hb hT zin_X10 tyX10_ok nmX10 hown hK hw hm_mm hf_mm rfl 0 (by decide) (hT _ kw_1168) rfl rfl rfl (Nat.le_of_ble_eq_true rfl) rfl dX10_best_2 (fun H locs hw => ?_)
  obtain ⟨f1, e_f1⟩ : ∃ z, z = va_up f mm (.inr (10, [.int 0, .ref wd, .ref my, .ref ce, .ref mv, .ref ta, .int m6, .int m7, .int m8, .int m9, .int m10, .long m11, .int m12, .int m13, .int m14, .int m15, .ref li, .ref ha, .ref lw, .ref st, .ref fo, .ref dr, .int m22, .ref ik, .int m24, .int m25, .long m26, .int m27, .int m28, .ref ro, .int m30, .ref ct, .ref se, .ref th, .ref cn, .ref be, .int m36, .ref du, .int m38, .ref db, .int m40, .int m41, .int m42, .ref pn, .ref wg, .ref wh, .ref tn, .ref he, .int m48, .ref tr, .ref fd, .ref po, .int m52, .int m53])) := ⟨_, rfl⟩
  rw [← e_f1] at hw
  have hf_ha : f1 ha = .inl (cy 1, 30, .inl gha) := (congrFun e_f1 ha).trans (z_up_ne (z_tne hf_ha hf_mm (m := 340) (n := 10) rfl rfl (by decide)) hf_ha)
  have hf_dr : f1 dr = .inl (cy 1, 520, .inl gdr) := (congrFun e_f1 dr).trans (z_up_ne (z_tne hf_dr hf_mm (m := 4260) (n := 10) rfl rfl (by decide)) hf_dr)
  have hf_ro : f1 ro = .inl (cy 1, 13, .inl gro) := (congrFun e_f1 ro).trans (z_up_ne (z_tne hf_ro hf_mm (m := 204) (n := 10) rfl rfl (by decide)) hf_ro)
  have hf_lw : f1 lw = .inl (cy 1, 25, .inl glw) := (congrFun e_f1 lw).trans (z_up_ne (z_tne hf_lw hf_mm (m := 300) (n := 10) rfl rfl (by decide)) hf_lw)
  have hf_st : f1 st = .inl (cy 1, 20, .inl gst) := (congrFun e_f1 st).trans (z_up_ne (z_tne hf_st hf_mm (m := 260) (n := 10) rfl rfl (by decide)) hf_st)
  have hf_ct : f1 ct = .inl (cy 1, 4, .inl gct) := (congrFun e_f1 ct).trans (z_up_ne (z_tne hf_ct hf_mm (m := 132) (n := 10) rfl rfl (by decide)) hf_ct)
  have hf_se : f1 se = .inl (cy 1, 36, .inl gse) := (congrFun e_f1 se).trans (z_up_ne (z_tne hf_se hf_mm (m := 388) (n := 10) rfl rfl (by decide)) hf_se)
  have hf_th : f1 th = .inl (cy 1, 36, .inl gth) := (congrFun e_f1 th).trans (z_up_ne (z_tne hf_th hf_mm (m := 388) (n := 10) rfl rfl (by decide)) hf_th)
  have hf_cn : f1 cn = .inl (cy 1, 36, .inl gcn) := (congrFun e_f1 cn).trans (z_up_ne (z_tne hf_cn hf_mm (m := 388) (n := 10) rfl rfl (by decide)) hf_cn)
  have hf_db : f1 db = .inl (cy 1, 5, .inl gdb) := (congrFun e_f1 db).trans (z_up_ne (z_tne hf_db hf_mm (m := 140) (n := 10) rfl rfl (by decide)) hf_db)
  have hf_be : f1 be = .inl (cy 1, 2574, .inl gbe) := (congrFun e_f1 be).trans (z_up_ne (z_tne hf_be hf_mm (m := 20692) (n := 10) rfl rfl (by decide)) hf_be)
  have hf_du : f1 du = .inl (cy 1, 5200, .inl gdu) := (congrFun e_f1 du).trans (z_up_ne (z_tne hf_du hf_mm (m := 41700) (n := 10) rfl rfl (by decide)) hf_du)
  have hf_fo : f1 fo = .inl (cy 1, 180, .inl gfo) := (congrFun e_f1 fo).trans (z_up_ne (z_tne hf_fo hf_mm (m := 1540) (n := 10) rfl rfl (by decide)) hf_fo)
  have hf_mm : f1 mm = .inr (10, [.int 0, .ref wd, .ref my, .ref ce, .ref mv, .ref ta, .int m6, .int m7, .int m8, .int m9, .int m10, .long m11, .int m12, .int m13, .int m14, .int m15, .ref li, .ref ha, .ref lw, .ref st, .ref fo, .ref dr, .int m22, .ref ik, .int m24, .int m25, .long m26, .int m27, .int m28, .ref ro, .int m30, .ref ct, .ref se, .ref th, .ref cn, .ref be, .int m36, .ref du, .int m38, .ref db, .int m40, .int m41, .int m42, .ref pn, .ref wg, .ref wh, .ref tn, .ref he, .int m48, .ref tr, .ref fd, .ref po, .int m52, .int m53]) := (congrFun e_f1 mm).trans z_up_self
  have hfr : ∀ b ∈ L, b ≠ mm → b ≠ ro → b ≠ ct → b ≠ se → b ≠ th → b ≠ cn → b ≠ db → b ≠ be → b ≠ du → b ≠ dr → f1 b = f b := fun b hb h0 h1 h2 h3 h4 h5 h6 h7 h8 h9 => (congrFun e_f1 b).trans (z_up_ne h0 (hfr b hb h0 h1 h2 h3 h4 h5 h6 h7 h8 h9))
  refine lv_aload_n hx hb dX10_best_5 rfl (lv_at hl 0 rfl) ?_
  refine lv_iload_n hx hb dX10_best_6 rfl (lv_at hl 1 rfl) ?_
  refine z_calliV (cells := 0) (slots := 0) (b := mm) (As := [.int kk]) (rest := []) (ci := 10) (q0 := (RX10, TX10, 54)) ⟨hx, hb, hml, hown, hT⟩ (c_X10_isDrive l hm_mm hm_ha hf_mm hf_ha hq_ha) (cwV 1 hT (z_goodV (fun _ h => h) kw_1482 kw_1484 kw_50 kw_96 kw_1485) rfl rfl rfl (by decide +kernel) ⟨by decide, by decide⟩) z_mv hKK hK hw hA hm_mm hf_mm rfl rfl rfl hl.1 rfl (Nat.le_of_ble_eq_true rfl) dX10_best_7 ⟨by decide, by decide⟩ (fun r2 u H locs hp hw => ?_)
  obtain ⟨rfl, hp⟩ := hp
  have hw : z_H D vwCl (z_A L sz) s.heap L f1 H locs := hw
  rcases hp with ⟨rfl, h3⟩ | ⟨rfl, h3⟩
  · skip
    refine z_if_eq (tgt := 25) hx hb (show (1 : Int32).toInt = 1 by decide) dX10_best_10 (by decide) (fun h => absurd h (by decide)) (fun _ => ?_)
    refine lv_iload_n hx hb dX10_best_13 rfl (lv_at hl 2 rfl) ?_
    refine lv_i2l hx hb dX10_best_14 rfl ?_
    refine lv_topl (fun w4 e_w4 => ?_)
    have i_w4 : w4.toInt = wt.toInt := z_i2l e_w4 rfl
    refine lv_lconst (v := 0) hx hb dX10_best_15 (by decide) ?_
    refine lv_ldc2 (v := 2) hx hb hown (hT _ kw_1512) dX10_best_16 ?_
    have hz5 := (show (0 : Int64).toInt = 0 by decide)
    have hz6 := (show (2 : Int64).toInt = 2 by decide)
    refine z_calliS (cells := 0) (slots := 0) (As := [.long w4, .long 0, .long 2]) (rest := []) ⟨hx, hb, hml, hown, hT⟩ (c_X10_in l ) (va_cwS 3 hT (z_goodS (fun _ h => h) kw_1339 kw_1340 kw_96 kw_1341) rfl rfl rfl (by decide +kernel) ⟨by decide, by decide⟩) z_mv hKK hw hA rfl hl.1 rfl (Nat.le_of_ble_eq_true rfl) dX10_best_19 ⟨by decide, by decide⟩ (fun r7 u H locs hp hw => ?_)
    obtain ⟨rfl, hp⟩ := hp
    have hw : z_H D vwCl (z_A L sz) s.heap L f1 H locs := hw
    rcases hp with ⟨rfl, h8⟩ | ⟨rfl, h8⟩
    · skip
      refine z_if_ne (tgt := 28) hx hb (show (1 : Int32).toInt = 1 by decide) dX10_best_22 (by decide) (fun _ => ?_) (fun h => absurd h (by decide))
      refine lv_aload_n hx hb dX10_best_28 rfl (lv_at hl 0 rfl) ?_
      refine z_callvV (cells := 0) (slots := 0) (b := mm) (As := []) (rest := []) (ci := 10) (q0 := (RX10, TX10, 54)) ⟨hx, hb, hml, hown, hT⟩ (c_X10_plainly l hm_mm hm_ha hf_mm hf_ha hq_ha) (cwV 0 hT (z_goodV (fun _ h => h) kw_1539 kw_1541 kw_58 kw_96 kw_1542) rfl rfl rfl (by decide +kernel) ⟨by decide, by decide⟩) z_mv hKK hK hw hA hm_mm hf_mm rfl rfl rfl hl.1 rfl (Nat.le_of_ble_eq_true rfl) dX10_best_29 ⟨by decide, by decide⟩ (fun u H locs hp hw => ?_)
      obtain ⟨L9, f10⟩ := u
      obtain ⟨hsb, hfm, mn2_11, ha_0, hp⟩ := hp
      have hsb : L = L9 := hsb
      subst hsb
      have hsb : ∀ b ∈ L, b ∈ L := fun _ h => h
      have hw : z_H D vwCl (z_A L sz) s.heap L f10 H locs := hw
      have hfr : ∀ b ∈ L, b ≠ mm → b ≠ ro → b ≠ ct → b ≠ se → b ≠ th → b ≠ cn → b ≠ db → b ≠ be → b ≠ du → b ≠ dr → f10 b = f b := fun b hb h0 h1 h2 h3 h4 h5 h6 h7 h8 h9 => (hfm b hb h0).trans (hfr b hb h0 h1 h2 h3 h4 h5 h6 h7 h8 h9)
      have hf_ha : f10 ha = .inl (cy 1, 30, .inl gha) := (hfm ha hm_ha (z_tne hf_ha hf_mm (m := 340) (n := 10) rfl rfl (by decide))).trans hf_ha
      have hf_dr : f10 dr = .inl (cy 1, 520, .inl gdr) := (hfm dr hm_dr (z_tne hf_dr hf_mm (m := 4260) (n := 10) rfl rfl (by decide))).trans hf_dr
      have hf_ro : f10 ro = .inl (cy 1, 13, .inl gro) := (hfm ro hm_ro (z_tne hf_ro hf_mm (m := 204) (n := 10) rfl rfl (by decide))).trans hf_ro
      have hf_lw : f10 lw = .inl (cy 1, 25, .inl glw) := (hfm lw hm_lw (z_tne hf_lw hf_mm (m := 300) (n := 10) rfl rfl (by decide))).trans hf_lw
      have hf_st : f10 st = .inl (cy 1, 20, .inl gst) := (hfm st hm_st (z_tne hf_st hf_mm (m := 260) (n := 10) rfl rfl (by decide))).trans hf_st
      have hf_ct : f10 ct = .inl (cy 1, 4, .inl gct) := (hfm ct hm_ct (z_tne hf_ct hf_mm (m := 132) (n := 10) rfl rfl (by decide))).trans hf_ct
      have hf_se : f10 se = .inl (cy 1, 36, .inl gse) := (hfm se hm_se (z_tne hf_se hf_mm (m := 388) (n := 10) rfl rfl (by decide))).trans hf_se
      have hf_th : f10 th = .inl (cy 1, 36, .inl gth) := (hfm th hm_th (z_tne hf_th hf_mm (m := 388) (n := 10) rfl rfl (by decide))).trans hf_th
      have hf_cn : f10 cn = .inl (cy 1, 36, .inl gcn) := (hfm cn hm_cn (z_tne hf_cn hf_mm (m := 388) (n := 10) rfl rfl (by decide))).trans hf_cn
      have hf_db : f10 db = .inl (cy 1, 5, .inl gdb) := (hfm db hm_db (z_tne hf_db hf_mm (m := 140) (n := 10) rfl rfl (by decide))).trans hf_db
      have hf_be : f10 be = .inl (cy 1, 2574, .inl gbe) := (hfm be hm_be (z_tne hf_be hf_mm (m := 20692) (n := 10) rfl rfl (by decide))).trans hf_be
      have hf_du : f10 du = .inl (cy 1, 5200, .inl gdu) := (hfm du hm_du (z_tne hf_du hf_mm (m := 41700) (n := 10) rfl rfl (by decide))).trans hf_du
      have hf_fo : f10 fo = .inl (cy 1, 180, .inl gfo) := (hfm fo hm_fo (z_tne hf_fo hf_mm (m := 1540) (n := 10) rfl rfl (by decide))).trans hf_fo
      have hf_mm : f10 mm = .inr (10, [.int 0, .ref wd, .ref my, .ref ce, .ref mv, .ref ta, .int m6, .int m7, .int m8, .int m9, .int m10, .long m11, .int m12, .int m13, .int m14, .int m15, .ref li, .ref ha, .ref lw, .ref st, .ref fo, .ref dr, .int m22, .ref ik, .int (-1), .int mn2_11, .long m26, .int 0, .int 1000, .ref ro, .int m30, .ref ct, .ref se, .ref th, .ref cn, .ref be, .int m36, .ref du, .int m38, .ref db, .int m40, .int m41, .int m42, .ref pn, .ref wg, .ref wh, .ref tn, .ref he, .int m48, .ref tr, .ref fd, .ref po, .int m52, .int m53]) := ha_0
      have hq12 := hp
      refine lv_aload_n hx hb dX10_best_32 rfl (lv_at hl 0 rfl) ?_
      refine lv_iload_n hx hb dX10_best_33 rfl (lv_at hl 1 rfl) ?_
      refine lv_aload_n hx hb dX10_best_34 rfl (lv_at hl 0 rfl) ?_
      refine lv_iload_n hx hb dX10_best_35 rfl (lv_at hl 1 rfl) ?_
      refine lv_iconst (v := 0) hx hb dX10_best_36 (by decide) ?_
      have hz13 := (show (0 : Int32).toInt = 0 by decide)
      refine z_calliV (cells := 0) (slots := 0) (b := mm) (As := [.int kk, .int 0]) (rest := [.int kk, .ref mm]) (ci := 10) (q0 := (RX10, TX10, 54)) ⟨hx, hb, hml, hown, hT⟩ (c_X10_of l hm_mm hm_dr hf_mm hf_dr hq_dr (by first | omega | decide | assumption) (by decide)) (cwV 2 hT (z_goodV (fun _ h => h) kw_1487 kw_1489 kw_51 kw_96 kw_1490) rfl rfl rfl (by decide +kernel) ⟨by decide, by decide⟩) z_mv hKK hK hw hA hm_mm hf_mm rfl rfl rfl hl.1 rfl (Nat.le_of_ble_eq_true rfl) dX10_best_37 ⟨by decide, by decide⟩ (fun r14 u H locs hp hw => ?_)
      obtain ⟨rfl, hp⟩ := hp
      have hw : z_H D vwCl (z_A L sz) s.heap L f10 H locs := hw
      have hof_r14 : r14 = gdr (8 * kk.toNatClampNeg + 0) := hp
      have hh_r14 : 0 ≤ r14.toInt ∧ r14.toInt ≤ 4 := by rw [hof_r14]; exact (hq_dr _).1 (by omega)
      refine z_callvV (cells := 0) (slots := 0) (b := mm) (As := [.int kk, .int r14]) (rest := []) (ci := 10) (q0 := (RX10, TX10, 54)) ⟨hx, hb, hml, hown, hT⟩ (c_X10_seeks l hm_mm hm_ha hm_dr hm_ro hm_lw hm_st hm_ct hm_se hm_th hm_cn hm_db hm_be hm_du hm_fo hf_mm hf_ha hf_dr hf_ro hf_lw hf_st hf_ct hf_se hf_th hf_cn hf_db hf_be hf_du hf_fo ne_se_th ne_se_cn ne_th_cn hq_ha hq_dr hq_ro hq_lw hq_st hq_ct hq_be hq_du (by first | omega | decide | assumption) (by omega) (by first | omega | decide | assumption) (by first | omega | decide | assumption) (by first | omega | decide | assumption) (by first | omega | decide | assumption) (by first | omega | decide | assumption)) (cwV 2 hT (z_goodV (fun _ h => h) kw_1628 kw_1630 kw_71 kw_96 kw_1631) rfl rfl rfl (by decide +kernel) ⟨by decide, by decide⟩) z_mv hKK hK hw hA hm_mm hf_mm rfl rfl rfl hl.1 rfl (Nat.le_of_ble_eq_true rfl) dX10_best_40 ⟨by decide, by decide⟩ (fun u H locs hp hw => ?_)
      obtain ⟨L15, f16⟩ := u
      obtain ⟨hsb, hfm, n2_17, d2_18, y2_19, bp2_20, bg2_21, bh2_22, x2_23, nro_24, nct_25, nse_26, nth_27, ncn_28, ndb_29, nbe_30, ndu_31, ndr_32, ha_0, ha_1, ha_2, ha_3, ha_4, ha_5, ha_6, ha_7, ha_8, ha_9, hq_ro, hq_ct, hq_be, hq_du, hq_dr, hp⟩ := hp
      have hsb : L = L15 := hsb
      subst hsb
      have hsb : ∀ b ∈ L, b ∈ L := fun _ h => h
      have hw : z_H D vwCl (z_A L sz) s.heap L f16 H locs := hw
      have hfr : ∀ b ∈ L, b ≠ mm → b ≠ ro → b ≠ ct → b ≠ se → b ≠ th → b ≠ cn → b ≠ db → b ≠ be → b ≠ du → b ≠ dr → f16 b = f b := fun b hb h0 h1 h2 h3 h4 h5 h6 h7 h8 h9 => (hfm b hb h0 h1 h2 h3 h4 h5 h6 h7 h8 h9).trans (hfr b hb h0 h1 h2 h3 h4 h5 h6 h7 h8 h9)
      have hf_ha : f16 ha = .inl (cy 1, 30, .inl gha) := (hfm ha hm_ha (z_tne hf_ha hf_mm (m := 340) (n := 10) rfl rfl (by decide)) (z_tne hf_ha hf_ro (m := 340) (n := 204) rfl rfl (by decide)) (z_tne hf_ha hf_ct (m := 340) (n := 132) rfl rfl (by decide)) (z_tne hf_ha hf_se (m := 340) (n := 388) rfl rfl (by decide)) (z_tne hf_ha hf_th (m := 340) (n := 388) rfl rfl (by decide)) (z_tne hf_ha hf_cn (m := 340) (n := 388) rfl rfl (by decide)) (z_tne hf_ha hf_db (m := 340) (n := 140) rfl rfl (by decide)) (z_tne hf_ha hf_be (m := 340) (n := 20692) rfl rfl (by decide)) (z_tne hf_ha hf_du (m := 340) (n := 41700) rfl rfl (by decide)) (z_tne hf_ha hf_dr (m := 340) (n := 4260) rfl rfl (by decide))).trans hf_ha
      have hf_lw : f16 lw = .inl (cy 1, 25, .inl glw) := (hfm lw hm_lw (z_tne hf_lw hf_mm (m := 300) (n := 10) rfl rfl (by decide)) (z_tne hf_lw hf_ro (m := 300) (n := 204) rfl rfl (by decide)) (z_tne hf_lw hf_ct (m := 300) (n := 132) rfl rfl (by decide)) (z_tne hf_lw hf_se (m := 300) (n := 388) rfl rfl (by decide)) (z_tne hf_lw hf_th (m := 300) (n := 388) rfl rfl (by decide)) (z_tne hf_lw hf_cn (m := 300) (n := 388) rfl rfl (by decide)) (z_tne hf_lw hf_db (m := 300) (n := 140) rfl rfl (by decide)) (z_tne hf_lw hf_be (m := 300) (n := 20692) rfl rfl (by decide)) (z_tne hf_lw hf_du (m := 300) (n := 41700) rfl rfl (by decide)) (z_tne hf_lw hf_dr (m := 300) (n := 4260) rfl rfl (by decide))).trans hf_lw
      have hf_st : f16 st = .inl (cy 1, 20, .inl gst) := (hfm st hm_st (z_tne hf_st hf_mm (m := 260) (n := 10) rfl rfl (by decide)) (z_tne hf_st hf_ro (m := 260) (n := 204) rfl rfl (by decide)) (z_tne hf_st hf_ct (m := 260) (n := 132) rfl rfl (by decide)) (z_tne hf_st hf_se (m := 260) (n := 388) rfl rfl (by decide)) (z_tne hf_st hf_th (m := 260) (n := 388) rfl rfl (by decide)) (z_tne hf_st hf_cn (m := 260) (n := 388) rfl rfl (by decide)) (z_tne hf_st hf_db (m := 260) (n := 140) rfl rfl (by decide)) (z_tne hf_st hf_be (m := 260) (n := 20692) rfl rfl (by decide)) (z_tne hf_st hf_du (m := 260) (n := 41700) rfl rfl (by decide)) (z_tne hf_st hf_dr (m := 260) (n := 4260) rfl rfl (by decide))).trans hf_st
      have hf_fo : f16 fo = .inl (cy 1, 180, .inl gfo) := (hfm fo hm_fo (z_tne hf_fo hf_mm (m := 1540) (n := 10) rfl rfl (by decide)) (z_tne hf_fo hf_ro (m := 1540) (n := 204) rfl rfl (by decide)) (z_tne hf_fo hf_ct (m := 1540) (n := 132) rfl rfl (by decide)) (z_tne hf_fo hf_se (m := 1540) (n := 388) rfl rfl (by decide)) (z_tne hf_fo hf_th (m := 1540) (n := 388) rfl rfl (by decide)) (z_tne hf_fo hf_cn (m := 1540) (n := 388) rfl rfl (by decide)) (z_tne hf_fo hf_db (m := 1540) (n := 140) rfl rfl (by decide)) (z_tne hf_fo hf_be (m := 1540) (n := 20692) rfl rfl (by decide)) (z_tne hf_fo hf_du (m := 1540) (n := 41700) rfl rfl (by decide)) (z_tne hf_fo hf_dr (m := 1540) (n := 4260) rfl rfl (by decide))).trans hf_fo
      have hf_mm : f16 mm = .inr (10, [.int 0, .ref wd, .ref my, .ref ce, .ref mv, .ref ta, .int m6, .int m7, .int m8, .int m9, .int m10, .long m11, .int m12, .int m13, .int m14, .int m15, .ref li, .ref ha, .ref lw, .ref st, .ref fo, .ref dr, .int m22, .ref ik, .int (-1), .int mn2_11, .long x2_23, .int 0, .int 1000, .ref ro, .int n2_17, .ref ct, .ref se, .ref th, .ref cn, .ref be, .int y2_19, .ref du, .int d2_18, .ref db, .int bp2_20, .int bg2_21, .int bh2_22, .ref pn, .ref wg, .ref wh, .ref tn, .ref he, .int m48, .ref tr, .ref fd, .ref po, .int m52, .int m53]) := ha_0
      have hf_ro : f16 ro = .inl (cy 1, 13, .inl nro_24) := ha_1
      have hf_ct : f16 ct = .inl (cy 1, 4, .inl nct_25) := ha_2
      have hf_se : f16 se = .inl (cy 1, 36, .inl nse_26) := ha_3
      have hf_th : f16 th = .inl (cy 1, 36, .inl nth_27) := ha_4
      have hf_cn : f16 cn = .inl (cy 1, 36, .inl ncn_28) := ha_5
      have hf_db : f16 db = .inl (cy 1, 5, .inl ndb_29) := ha_6
      have hf_be : f16 be = .inl (cy 1, 2574, .inl nbe_30) := ha_7
      have hf_du : f16 du = .inl (cy 1, 5200, .inl ndu_31) := ha_8
      have hf_dr : f16 dr = .inl (cy 1, 520, .inl ndr_32) := ha_9
      have hq33 := hp
      refine lv_iload_n hx hb dX10_best_43 rfl (lv_at hl 2 rfl) ?_
      refine z_if_ne (tgt := 54) hx hb rfl dX10_best_44 (by decide) (fun c34 => ?_) (fun c34 => ?_)
      · skip
        refine lv_iload_n hx hb dX10_best_54 rfl (lv_at hl 2 rfl) ?_
        refine lv_iconst (v := 1) hx hb dX10_best_55 (by decide) ?_
        refine z_icmp_ne (tgt := 66) hx hb rfl (show (1 : Int32).toInt = 1 by decide) dX10_best_56 (by decide) (fun c35 => ?_) (fun c35 => ?_)
        · skip
          refine lv_aload_n hx hb dX10_best_66 rfl (lv_at hl 0 rfl) ?_
          refine z_get (C := RX10) (T := TX10) (N := 54) (ci := 10) (v := .int bh2_22) hx hb hT zin_X10 hown hK hw hm_mm hf_mm rfl 42 (by decide) (hT _ kw_1210) rfl dX10_best_67 ?_
          exact z_iret hx hb hr hlk (by decide) (by decide) hw (⟨hsub, hfr, (-1), mn2_11, 0, 1000, n2_17, d2_18, y2_19, bp2_20, bg2_21, bh2_22, x2_23, nro_24, nct_25, nse_26, nth_27, ncn_28, ndb_29, nbe_30, ndu_31, ndr_32, hf_mm, hf_ro, hf_ct, hf_se, hf_th, hf_cn, hf_db, hf_be, hf_du, hf_dr, hq_ro, hq_ct, hq_be, hq_du, hq_dr, by omega, by omega, by omega⟩) dX10_best_70
        · skip
          refine lv_aload_n hx hb dX10_best_59 rfl (lv_at hl 0 rfl) ?_
          refine z_get (C := RX10) (T := TX10) (N := 54) (ci := 10) (v := .int bg2_21) hx hb hT zin_X10 hown hK hw hm_mm hf_mm rfl 41 (by decide) (hT _ kw_1209) rfl dX10_best_60 ?_
          refine lv_goto (tgt := 70) hx hb dX10_best_63 (by decide) ?_
          exact z_iret hx hb hr hlk (by decide) (by decide) hw (⟨hsub, hfr, (-1), mn2_11, 0, 1000, n2_17, d2_18, y2_19, bp2_20, bg2_21, bh2_22, x2_23, nro_24, nct_25, nse_26, nth_27, ncn_28, ndb_29, nbe_30, ndu_31, ndr_32, hf_mm, hf_ro, hf_ct, hf_se, hf_th, hf_cn, hf_db, hf_be, hf_du, hf_dr, hq_ro, hq_ct, hq_be, hq_du, hq_dr, by omega, by omega, by omega⟩) dX10_best_70
      · skip
        refine lv_aload_n hx hb dX10_best_47 rfl (lv_at hl 0 rfl) ?_
        refine z_get (C := RX10) (T := TX10) (N := 54) (ci := 10) (v := .int bp2_20) hx hb hT zin_X10 hown hK hw hm_mm hf_mm rfl 40 (by decide) (hT _ kw_1208) rfl dX10_best_48 ?_
        refine lv_goto (tgt := 70) hx hb dX10_best_51 (by decide) ?_
        exact z_iret hx hb hr hlk (by decide) (by decide) hw (⟨hsub, hfr, (-1), mn2_11, 0, 1000, n2_17, d2_18, y2_19, bp2_20, bg2_21, bh2_22, x2_23, nro_24, nct_25, nse_26, nth_27, ncn_28, ndb_29, nbe_30, ndu_31, ndr_32, hf_mm, hf_ro, hf_ct, hf_se, hf_th, hf_cn, hf_db, hf_be, hf_du, hf_dr, hq_ro, hq_ct, hq_be, hq_du, hq_dr, by omega, by omega, by omega⟩) dX10_best_70
    · skip
      refine z_if_ne (tgt := 28) hx hb (show (0 : Int32).toInt = 0 by decide) dX10_best_22 (by decide) (fun h => absurd h (by decide)) (fun _ => ?_)
      refine lv_bipush (v := (-2)) hx hb dX10_best_25 (by decide) ?_
      exact z_iret hx hb hr hlk (by decide) (by decide) hw (⟨hsub, hfr, m24, m25, m27, m28, m30, m38, m36, m40, m41, m42, m26, gro, gct, gse, gth, gcn, gdb, gbe, gdu, gdr, hf_mm, hf_ro, hf_ct, hf_se, hf_th, hf_cn, hf_db, hf_be, hf_du, hf_dr, hq_ro, hq_ct, hq_be, hq_du, hq_dr, by omega, by omega, by omega⟩) dX10_best_27
  · skip
    refine z_if_eq (tgt := 25) hx hb (show (0 : Int32).toInt = 0 by decide) dX10_best_10 (by decide) (fun _ => ?_) (fun h => absurd h (by decide))
    refine lv_bipush (v := (-2)) hx hb dX10_best_25 (by decide) ?_
    exact z_iret hx hb hr hlk (by decide) (by decide) hw (⟨hsub, hfr, m24, m25, m27, m28, m30, m38, m36, m40, m41, m42, m26, gro, gct, gse, gth, gcn, gdb, gbe, gdu, gdr, hf_mm, hf_ro, hf_ct, hf_se, hf_th, hf_cn, hf_db, hf_be, hf_du, hf_dr, hq_ro, hq_ct, hq_be, hq_du, hq_dr, by omega, by omega, by omega⟩) dX10_best_27

set_option maxHeartbeats 2000000 in
set_option maxRecDepth 100000 in
theorem c_X10_split (l : Launch) {D : va_G} {cy : Nat → ClassId} {L : List Nat} {f : Nat → va_E} {sz : Nat} {adK adV : Nat → Nat} {mm wd my ce mv ta li ha lw st fo dr ik ro ct se th cn be du db pn wg wh tn he tr fd po : Nat} {m0 m6 m7 m8 m9 m10 m12 m13 m14 m15 m22 m24 m25 m27 m28 m30 m36 m38 m40 m41 m42 m48 m52 m53 : Int32} {m11 m26 : Int64} {gha glw gst gfo gdr gro gct gse gth gcn gbe gdu gdb : Nat → Int32}  {kk wt : Int32} (hm_mm : mm ∈ L) (hm_ha : ha ∈ L) (hm_dr : dr ∈ L) (hm_ro : ro ∈ L) (hm_lw : lw ∈ L) (hm_st : st ∈ L) (hm_ct : ct ∈ L) (hm_se : se ∈ L) (hm_th : th ∈ L) (hm_cn : cn ∈ L) (hm_db : db ∈ L) (hm_be : be ∈ L) (hm_du : du ∈ L) (hm_fo : fo ∈ L) (hf_mm : f mm = .inr (10, [.int m0, .ref wd, .ref my, .ref ce, .ref mv, .ref ta, .int m6, .int m7, .int m8, .int m9, .int m10, .long m11, .int m12, .int m13, .int m14, .int m15, .ref li, .ref ha, .ref lw, .ref st, .ref fo, .ref dr, .int m22, .ref ik, .int m24, .int m25, .long m26, .int m27, .int m28, .ref ro, .int m30, .ref ct, .ref se, .ref th, .ref cn, .ref be, .int m36, .ref du, .int m38, .ref db, .int m40, .int m41, .int m42, .ref pn, .ref wg, .ref wh, .ref tn, .ref he, .int m48, .ref tr, .ref fd, .ref po, .int m52, .int m53])) (hf_ha : f ha = .inl (cy 1, 30, .inl gha)) (hf_dr : f dr = .inl (cy 1, 520, .inl gdr)) (hf_ro : f ro = .inl (cy 1, 13, .inl gro)) (hf_lw : f lw = .inl (cy 1, 25, .inl glw)) (hf_st : f st = .inl (cy 1, 20, .inl gst)) (hf_ct : f ct = .inl (cy 1, 4, .inl gct)) (hf_se : f se = .inl (cy 1, 36, .inl gse)) (hf_th : f th = .inl (cy 1, 36, .inl gth)) (hf_cn : f cn = .inl (cy 1, 36, .inl gcn)) (hf_db : f db = .inl (cy 1, 5, .inl gdb)) (hf_be : f be = .inl (cy 1, 2574, .inl gbe)) (hf_du : f du = .inl (cy 1, 5200, .inl gdu)) (hf_fo : f fo = .inl (cy 1, 180, .inl gfo)) (ne_se_th : se ≠ th) (ne_se_cn : se ≠ cn) (ne_th_cn : th ≠ cn) (hq_ha : ∀ j : Nat, q_has j (gha j)) (hq_dr : ∀ j : Nat, q_drv j (gdr j)) (hq_ro : ∀ j : Nat, q_12 j (gro j)) (hq_lw : ∀ j : Nat, q_law j (glw j)) (hq_st : ∀ j : Nat, q_law j (gst j)) (hq_ct : ∀ j : Nat, q_law j (gct j)) (hq_be : ∀ j : Nat, q_be j (gbe j)) (hq_du : ∀ j : Nat, q_du j (gdu j)) (hxx : 0 ≤ m26.toInt ∧ m26.toInt < 2147483648) (hea : ∀ m : Nat, m < 5 → z_ea gha glw m) (hbg : 0 ≤ m41.toInt ∧ m41.toInt ≤ 3) (hbh : 0 ≤ m42.toInt ∧ m42.toInt ≤ 23) : Met l yX10_split (z_ws yX10_split cX10_split 10 (some .int)) (z_R 8 0 0) (va_Pc [.ref mm, .int kk, .int wt] (z_Pre D vwCl (z_KK D cy adK adV) L f sz)) (z_Qi D vwCl (fun r u => L = u.1 ∧ (∀ b ∈ L, b ≠ mm → b ≠ ro → b ≠ ct → b ≠ se → b ≠ th → b ≠ cn → b ≠ db → b ≠ be → b ≠ du → b ≠ dr → u.2 b = f b) ∧ (∃ (o2 mn2 i2 u2 n2 d2 y2 bp2 bg2 bh2 : Int32) (x2 : Int64) (nro nct nse nth ncn ndb nbe ndu ndr : Nat → Int32), (u.2 mm = .inr (10, [.int 0, .ref wd, .ref my, .ref ce, .ref mv, .ref ta, .int m6, .int m7, .int m8, .int m9, .int m10, .long m11, .int m12, .int m13, .int m14, .int m15, .ref li, .ref ha, .ref lw, .ref st, .ref fo, .ref dr, .int m22, .ref ik, .int o2, .int mn2, .long x2, .int i2, .int u2, .ref ro, .int n2, .ref ct, .ref se, .ref th, .ref cn, .ref be, .int y2, .ref du, .int d2, .ref db, .int bp2, .int bg2, .int bh2, .ref pn, .ref wg, .ref wh, .ref tn, .ref he, .int m48, .ref tr, .ref fd, .ref po, .int m52, .int m53])) ∧ (u.2 ro = .inl (cy 1, 13, .inl nro)) ∧ (u.2 ct = .inl (cy 1, 4, .inl nct)) ∧ (u.2 se = .inl (cy 1, 36, .inl nse)) ∧ (u.2 th = .inl (cy 1, 36, .inl nth)) ∧ (u.2 cn = .inl (cy 1, 36, .inl ncn)) ∧ (u.2 db = .inl (cy 1, 5, .inl ndb)) ∧ (u.2 be = .inl (cy 1, 2574, .inl nbe)) ∧ (u.2 du = .inl (cy 1, 5200, .inl ndu)) ∧ (u.2 dr = .inl (cy 1, 520, .inl ndr)) ∧ (∀ j : Nat, q_12 j (nro j)) ∧ (∀ j : Nat, q_law j (nct j)) ∧ (∀ j : Nat, q_be j (nbe j)) ∧ (∀ j : Nat, q_du j (ndu j)) ∧ (∀ j : Nat, q_drv j (ndr j)) ∧ ((0 ≤ x2.toInt ∧ x2.toInt < 2147483648) ∧ (0 ≤ bg2.toInt ∧ bg2.toInt ≤ 3) ∧ (0 ≤ bh2.toInt ∧ bh2.toInt ≤ 23)))) L sz) 0 0 (z_A L sz) := by
  refine z_met (cc := cX10_split) (maxL := 10) (ret := (some .int)) (lv := [(0, .ref mm), (1, .int kk), (2, .int wt)]) (by decide) rfl (Nat.le_of_ble_eq_true rfl) rfl ?_
  intro p e s m below meth c ls hx hb hr hlk hml hown hnm hts hKK hA hw hl
  have hK := hKK.1.1
  have hown : s.vm.findClass RX10 = some m.cls := hown
  have hT : ∀ w ∈ lw_all, w.before ([.ref mm, .int kk, .int wt] : List Value).toArray s = true := fun w h => hts w (z_cons w h)
  have hsub : L = L := rfl
  have hfr : ∀ b ∈ L, b ≠ mm → b ≠ ro → b ≠ ct → b ≠ se → b ≠ th → b ≠ cn → b ≠ db → b ≠ be → b ≠ du → b ≠ dr → f b = f b := fun _ _ _ _ _ _ _ _ _ _ _ _ => rfl
  have hh0 := (hq_ha 0).1 rfl
  have hh1 := (hq_ha 1).2.1 rfl
  have hh2 := (hq_ha 2).2.2.1 rfl
  have hh3 := (hq_ha 3).2.2.2 rfl
  have hea0 : 2 ≤ (glw 3).toInt ∨ ((gha 3).toInt = 0 ∧ (gha 0).toInt = 0) := hea 0 (by decide)
  have hz_m2 : (-2 : Int32).toInt = -2 := by decide
  have hz_m1 : (-1 : Int32).toInt = -1 := by decide
  have hz_0 : (0 : Int32).toInt = 0 := by decide
  refine lv_aload_n hx hb dX10_split_0 rfl (lv_at hl 0 rfl) ?_
  refine lv_iconst (v := 0) hx hb dX10_split_1 (by decide) ?_
  refine z_put (C := RX10) (T := TX10) (N := 54) (ci := 10) (v := .int 0) (fs' := [.int 0, .ref wd, .ref my, .ref ce, .ref mv, .ref ta, .int m6, .int m7, .int m8, .int m9, .int m10, .long m11, .int m12, .int m13, .int m14, .int m15, .ref li, .ref ha, .ref lw, .ref st, .ref fo, .ref dr, .int m22, .ref ik, .int m24, .int m25, .long m26, .int m27, .int m28, .ref ro, .int m30, .ref ct, .ref se, .ref th, .ref cn, .ref be, .int m36, .ref du, .int m38, .ref db, .int m40, .int m41, .int m42, .ref pn, .ref wg, .ref wh, .ref tn, .ref he, .int m48, .ref tr, .ref fd, .ref po, .int m52, .int m53]) hx hb hT zin_X10 tyX10_ok nmX10 hown hK hw hm_mm hf_mm rfl 0 (by decide) (hT _ kw_1168) rfl rfl rfl (Nat.le_of_ble_eq_true rfl) rfl dX10_split_2 (fun H locs hw => ?_)
  obtain ⟨f1, e_f1⟩ : ∃ z, z = va_up f mm (.inr (10, [.int 0, .ref wd, .ref my, .ref ce, .ref mv, .ref ta, .int m6, .int m7, .int m8, .int m9, .int m10, .long m11, .int m12, .int m13, .int m14, .int m15, .ref li, .ref ha, .ref lw, .ref st, .ref fo, .ref dr, .int m22, .ref ik, .int m24, .int m25, .long m26, .int m27, .int m28, .ref ro, .int m30, .ref ct, .ref se, .ref th, .ref cn, .ref be, .int m36, .ref du, .int m38, .ref db, .int m40, .int m41, .int m42, .ref pn, .ref wg, .ref wh, .ref tn, .ref he, .int m48, .ref tr, .ref fd, .ref po, .int m52, .int m53])) := ⟨_, rfl⟩
  rw [← e_f1] at hw
  have hf_ha : f1 ha = .inl (cy 1, 30, .inl gha) := (congrFun e_f1 ha).trans (z_up_ne (z_tne hf_ha hf_mm (m := 340) (n := 10) rfl rfl (by decide)) hf_ha)
  have hf_dr : f1 dr = .inl (cy 1, 520, .inl gdr) := (congrFun e_f1 dr).trans (z_up_ne (z_tne hf_dr hf_mm (m := 4260) (n := 10) rfl rfl (by decide)) hf_dr)
  have hf_ro : f1 ro = .inl (cy 1, 13, .inl gro) := (congrFun e_f1 ro).trans (z_up_ne (z_tne hf_ro hf_mm (m := 204) (n := 10) rfl rfl (by decide)) hf_ro)
  have hf_lw : f1 lw = .inl (cy 1, 25, .inl glw) := (congrFun e_f1 lw).trans (z_up_ne (z_tne hf_lw hf_mm (m := 300) (n := 10) rfl rfl (by decide)) hf_lw)
  have hf_st : f1 st = .inl (cy 1, 20, .inl gst) := (congrFun e_f1 st).trans (z_up_ne (z_tne hf_st hf_mm (m := 260) (n := 10) rfl rfl (by decide)) hf_st)
  have hf_ct : f1 ct = .inl (cy 1, 4, .inl gct) := (congrFun e_f1 ct).trans (z_up_ne (z_tne hf_ct hf_mm (m := 132) (n := 10) rfl rfl (by decide)) hf_ct)
  have hf_se : f1 se = .inl (cy 1, 36, .inl gse) := (congrFun e_f1 se).trans (z_up_ne (z_tne hf_se hf_mm (m := 388) (n := 10) rfl rfl (by decide)) hf_se)
  have hf_th : f1 th = .inl (cy 1, 36, .inl gth) := (congrFun e_f1 th).trans (z_up_ne (z_tne hf_th hf_mm (m := 388) (n := 10) rfl rfl (by decide)) hf_th)
  have hf_cn : f1 cn = .inl (cy 1, 36, .inl gcn) := (congrFun e_f1 cn).trans (z_up_ne (z_tne hf_cn hf_mm (m := 388) (n := 10) rfl rfl (by decide)) hf_cn)
  have hf_db : f1 db = .inl (cy 1, 5, .inl gdb) := (congrFun e_f1 db).trans (z_up_ne (z_tne hf_db hf_mm (m := 140) (n := 10) rfl rfl (by decide)) hf_db)
  have hf_be : f1 be = .inl (cy 1, 2574, .inl gbe) := (congrFun e_f1 be).trans (z_up_ne (z_tne hf_be hf_mm (m := 20692) (n := 10) rfl rfl (by decide)) hf_be)
  have hf_du : f1 du = .inl (cy 1, 5200, .inl gdu) := (congrFun e_f1 du).trans (z_up_ne (z_tne hf_du hf_mm (m := 41700) (n := 10) rfl rfl (by decide)) hf_du)
  have hf_fo : f1 fo = .inl (cy 1, 180, .inl gfo) := (congrFun e_f1 fo).trans (z_up_ne (z_tne hf_fo hf_mm (m := 1540) (n := 10) rfl rfl (by decide)) hf_fo)
  have hf_mm : f1 mm = .inr (10, [.int 0, .ref wd, .ref my, .ref ce, .ref mv, .ref ta, .int m6, .int m7, .int m8, .int m9, .int m10, .long m11, .int m12, .int m13, .int m14, .int m15, .ref li, .ref ha, .ref lw, .ref st, .ref fo, .ref dr, .int m22, .ref ik, .int m24, .int m25, .long m26, .int m27, .int m28, .ref ro, .int m30, .ref ct, .ref se, .ref th, .ref cn, .ref be, .int m36, .ref du, .int m38, .ref db, .int m40, .int m41, .int m42, .ref pn, .ref wg, .ref wh, .ref tn, .ref he, .int m48, .ref tr, .ref fd, .ref po, .int m52, .int m53]) := (congrFun e_f1 mm).trans z_up_self
  have hfr : ∀ b ∈ L, b ≠ mm → b ≠ ro → b ≠ ct → b ≠ se → b ≠ th → b ≠ cn → b ≠ db → b ≠ be → b ≠ du → b ≠ dr → f1 b = f b := fun b hb h0 h1 h2 h3 h4 h5 h6 h7 h8 h9 => (congrFun e_f1 b).trans (z_up_ne h0 (hfr b hb h0 h1 h2 h3 h4 h5 h6 h7 h8 h9))
  refine lv_aload_n hx hb dX10_split_5 rfl (lv_at hl 0 rfl) ?_
  refine lv_iload_n hx hb dX10_split_6 rfl (lv_at hl 1 rfl) ?_
  refine z_calliV (cells := 0) (slots := 0) (b := mm) (As := [.int kk]) (rest := []) (ci := 10) (q0 := (RX10, TX10, 54)) ⟨hx, hb, hml, hown, hT⟩ (c_X10_isDrive l hm_mm hm_ha hf_mm hf_ha hq_ha) (cwV 1 hT (z_goodV (fun _ h => h) kw_1482 kw_1484 kw_50 kw_96 kw_1485) rfl rfl rfl (by decide +kernel) ⟨by decide, by decide⟩) z_mv hKK hK hw hA hm_mm hf_mm rfl rfl rfl hl.1 rfl (Nat.le_of_ble_eq_true rfl) dX10_split_7 ⟨by decide, by decide⟩ (fun r2 u H locs hp hw => ?_)
  obtain ⟨rfl, hp⟩ := hp
  have hw : z_H D vwCl (z_A L sz) s.heap L f1 H locs := hw
  rcases hp with ⟨rfl, h3⟩ | ⟨rfl, h3⟩
  · skip
    refine z_if_eq (tgt := 25) hx hb (show (1 : Int32).toInt = 1 by decide) dX10_split_10 (by decide) (fun h => absurd h (by decide)) (fun _ => ?_)
    refine lv_iload_n hx hb dX10_split_13 rfl (lv_at hl 2 rfl) ?_
    refine lv_i2l hx hb dX10_split_14 rfl ?_
    refine lv_topl (fun w4 e_w4 => ?_)
    have i_w4 : w4.toInt = wt.toInt := z_i2l e_w4 rfl
    refine lv_lconst (v := 0) hx hb dX10_split_15 (by decide) ?_
    refine lv_ldc2 (v := 3) hx hb hown (hT _ kw_1338) dX10_split_16 ?_
    have hz5 := (show (0 : Int64).toInt = 0 by decide)
    have hz6 := (show (3 : Int64).toInt = 3 by decide)
    refine z_calliS (cells := 0) (slots := 0) (As := [.long w4, .long 0, .long 3]) (rest := []) ⟨hx, hb, hml, hown, hT⟩ (c_X10_in l ) (va_cwS 3 hT (z_goodS (fun _ h => h) kw_1339 kw_1340 kw_96 kw_1341) rfl rfl rfl (by decide +kernel) ⟨by decide, by decide⟩) z_mv hKK hw hA rfl hl.1 rfl (Nat.le_of_ble_eq_true rfl) dX10_split_19 ⟨by decide, by decide⟩ (fun r7 u H locs hp hw => ?_)
    obtain ⟨rfl, hp⟩ := hp
    have hw : z_H D vwCl (z_A L sz) s.heap L f1 H locs := hw
    rcases hp with ⟨rfl, h8⟩ | ⟨rfl, h8⟩
    · skip
      refine z_if_ne (tgt := 28) hx hb (show (1 : Int32).toInt = 1 by decide) dX10_split_22 (by decide) (fun _ => ?_) (fun h => absurd h (by decide))
      refine lv_aload_n hx hb dX10_split_28 rfl (lv_at hl 0 rfl) ?_
      refine lv_iload_n hx hb dX10_split_29 rfl (lv_at hl 1 rfl) ?_
      refine lv_iconst (v := 4) hx hb dX10_split_30 (by decide) ?_
      have hz9 := (show (4 : Int32).toInt = 4 by decide)
      refine z_calliV (cells := 0) (slots := 0) (b := mm) (As := [.int kk, .int 4]) (rest := []) (ci := 10) (q0 := (RX10, TX10, 54)) ⟨hx, hb, hml, hown, hT⟩ (c_X10_of l hm_mm hm_dr hf_mm hf_dr hq_dr (by first | omega | decide | assumption) (by decide)) (cwV 2 hT (z_goodV (fun _ h => h) kw_1487 kw_1489 kw_51 kw_96 kw_1490) rfl rfl rfl (by decide +kernel) ⟨by decide, by decide⟩) z_mv hKK hK hw hA hm_mm hf_mm rfl rfl rfl hl.1 rfl (Nat.le_of_ble_eq_true rfl) dX10_split_31 ⟨by decide, by decide⟩ (fun r10 u H locs hp hw => ?_)
      obtain ⟨rfl, hp⟩ := hp
      have hw : z_H D vwCl (z_A L sz) s.heap L f1 H locs := hw
      have hof_r10 : r10 = gdr (8 * kk.toNatClampNeg + 4) := hp
      have hh_r10 : 0 ≤ r10.toInt ∧ r10.toInt ≤ 99 := by rw [hof_r10]; exact (hq_dr _).2.2.2.2.1 (by omega)
      refine lv_istore_n (lv' := [(3, .int r10), (0, .ref mm), (1, .int kk), (2, .int wt)]) hx hb dX10_split_34 rfl hl (by decide) rfl (fun ls hl => ?_)
      refine lv_aload_n hx hb dX10_split_35 rfl (lv_at hl 1 rfl) ?_
      refine lv_iload_n hx hb dX10_split_36 rfl (lv_at hl 2 rfl) ?_
      refine lv_iconst (v := 5) hx hb dX10_split_37 (by decide) ?_
      have hz11 := (show (5 : Int32).toInt = 5 by decide)
      refine z_calliV (cells := 0) (slots := 0) (b := mm) (As := [.int kk, .int 5]) (rest := []) (ci := 10) (q0 := (RX10, TX10, 54)) ⟨hx, hb, hml, hown, hT⟩ (c_X10_of l hm_mm hm_dr hf_mm hf_dr hq_dr (by first | omega | decide | assumption) (by decide)) (cwV 2 hT (z_goodV (fun _ h => h) kw_1487 kw_1489 kw_51 kw_96 kw_1490) rfl rfl rfl (by decide +kernel) ⟨by decide, by decide⟩) z_mv hKK hK hw hA hm_mm hf_mm rfl rfl rfl hl.1 rfl (Nat.le_of_ble_eq_true rfl) dX10_split_38 ⟨by decide, by decide⟩ (fun r12 u H locs hp hw => ?_)
      obtain ⟨rfl, hp⟩ := hp
      have hw : z_H D vwCl (z_A L sz) s.heap L f1 H locs := hw
      have hof_r12 : r12 = gdr (8 * kk.toNatClampNeg + 5) := hp
      have hh_r12 : 0 ≤ r12.toInt ∧ r12.toInt ≤ 99 := by rw [hof_r12]; exact (hq_dr _).2.2.2.2.2.1 (by omega)
      refine lv_istore (lv' := [(4, .int r12), (3, .int r10), (0, .ref mm), (1, .int kk), (2, .int wt)]) hx hb dX10_split_41 hl (by decide) rfl (fun ls hl => ?_)
      refine lv_iload_n hx hb dX10_split_43 rfl (lv_at hl 1 rfl) ?_
      refine lv_iconst (v := 1) hx hb dX10_split_44 (by decide) ?_
      refine z_icmp_ne (tgt := 50) hx hb rfl (show (1 : Int32).toInt = 1 by decide) dX10_split_45 (by decide) (fun c13 => ?_) (fun c13 => ?_)
      · skip
        refine lv_aload_n hx hb dX10_split_50 rfl (lv_at hl 2 rfl) ?_
        refine z_callvV (cells := 0) (slots := 0) (b := mm) (As := []) (rest := []) (ci := 10) (q0 := (RX10, TX10, 54)) ⟨hx, hb, hml, hown, hT⟩ (c_X10_plainly l hm_mm hm_ha hf_mm hf_ha hq_ha) (cwV 0 hT (z_goodV (fun _ h => h) kw_1539 kw_1541 kw_58 kw_96 kw_1542) rfl rfl rfl (by decide +kernel) ⟨by decide, by decide⟩) z_mv hKK hK hw hA hm_mm hf_mm rfl rfl rfl hl.1 rfl (Nat.le_of_ble_eq_true rfl) dX10_split_51 ⟨by decide, by decide⟩ (fun u H locs hp hw => ?_)
        obtain ⟨L14, f15⟩ := u
        obtain ⟨hsb, hfm, mn2_16, ha_0, hp⟩ := hp
        have hsb : L = L14 := hsb
        subst hsb
        have hsb : ∀ b ∈ L, b ∈ L := fun _ h => h
        have hw : z_H D vwCl (z_A L sz) s.heap L f15 H locs := hw
        have hfr : ∀ b ∈ L, b ≠ mm → b ≠ ro → b ≠ ct → b ≠ se → b ≠ th → b ≠ cn → b ≠ db → b ≠ be → b ≠ du → b ≠ dr → f15 b = f b := fun b hb h0 h1 h2 h3 h4 h5 h6 h7 h8 h9 => (hfm b hb h0).trans (hfr b hb h0 h1 h2 h3 h4 h5 h6 h7 h8 h9)
        have hf_ha : f15 ha = .inl (cy 1, 30, .inl gha) := (hfm ha hm_ha (z_tne hf_ha hf_mm (m := 340) (n := 10) rfl rfl (by decide))).trans hf_ha
        have hf_dr : f15 dr = .inl (cy 1, 520, .inl gdr) := (hfm dr hm_dr (z_tne hf_dr hf_mm (m := 4260) (n := 10) rfl rfl (by decide))).trans hf_dr
        have hf_ro : f15 ro = .inl (cy 1, 13, .inl gro) := (hfm ro hm_ro (z_tne hf_ro hf_mm (m := 204) (n := 10) rfl rfl (by decide))).trans hf_ro
        have hf_lw : f15 lw = .inl (cy 1, 25, .inl glw) := (hfm lw hm_lw (z_tne hf_lw hf_mm (m := 300) (n := 10) rfl rfl (by decide))).trans hf_lw
        have hf_st : f15 st = .inl (cy 1, 20, .inl gst) := (hfm st hm_st (z_tne hf_st hf_mm (m := 260) (n := 10) rfl rfl (by decide))).trans hf_st
        have hf_ct : f15 ct = .inl (cy 1, 4, .inl gct) := (hfm ct hm_ct (z_tne hf_ct hf_mm (m := 132) (n := 10) rfl rfl (by decide))).trans hf_ct
        have hf_se : f15 se = .inl (cy 1, 36, .inl gse) := (hfm se hm_se (z_tne hf_se hf_mm (m := 388) (n := 10) rfl rfl (by decide))).trans hf_se
        have hf_th : f15 th = .inl (cy 1, 36, .inl gth) := (hfm th hm_th (z_tne hf_th hf_mm (m := 388) (n := 10) rfl rfl (by decide))).trans hf_th
        have hf_cn : f15 cn = .inl (cy 1, 36, .inl gcn) := (hfm cn hm_cn (z_tne hf_cn hf_mm (m := 388) (n := 10) rfl rfl (by decide))).trans hf_cn
        have hf_db : f15 db = .inl (cy 1, 5, .inl gdb) := (hfm db hm_db (z_tne hf_db hf_mm (m := 140) (n := 10) rfl rfl (by decide))).trans hf_db
        have hf_be : f15 be = .inl (cy 1, 2574, .inl gbe) := (hfm be hm_be (z_tne hf_be hf_mm (m := 20692) (n := 10) rfl rfl (by decide))).trans hf_be
        have hf_du : f15 du = .inl (cy 1, 5200, .inl gdu) := (hfm du hm_du (z_tne hf_du hf_mm (m := 41700) (n := 10) rfl rfl (by decide))).trans hf_du
        have hf_fo : f15 fo = .inl (cy 1, 180, .inl gfo) := (hfm fo hm_fo (z_tne hf_fo hf_mm (m := 1540) (n := 10) rfl rfl (by decide))).trans hf_fo
        have hf_mm : f15 mm = .inr (10, [.int 0, .ref wd, .ref my, .ref ce, .ref mv, .ref ta, .int m6, .int m7, .int m8, .int m9, .int m10, .long m11, .int m12, .int m13, .int m14, .int m15, .ref li, .ref ha, .ref lw, .ref st, .ref fo, .ref dr, .int m22, .ref ik, .int (-1), .int mn2_16, .long m26, .int 0, .int 1000, .ref ro, .int m30, .ref ct, .ref se, .ref th, .ref cn, .ref be, .int m36, .ref du, .int m38, .ref db, .int m40, .int m41, .int m42, .ref pn, .ref wg, .ref wh, .ref tn, .ref he, .int m48, .ref tr, .ref fd, .ref po, .int m52, .int m53]) := ha_0
        have hq17 := hp
        refine lv_iconst (v := (-1)) hx hb dX10_split_54 (by decide) ?_
        refine lv_istore (lv' := [(5, .int (-1)), (4, .int r12), (3, .int r10), (0, .ref mm), (1, .int kk), (2, .int wt)]) hx hb dX10_split_55 hl (by decide) rfl (fun ls hl => ?_)
        refine lv_iconst (v := (-1)) hx hb dX10_split_57 (by decide) ?_
        refine lv_istore (lv' := [(6, .int (-1)), (5, .int (-1)), (4, .int r12), (3, .int r10), (0, .ref mm), (1, .int kk), (2, .int wt)]) hx hb dX10_split_58 hl (by decide) rfl (fun ls hl => ?_)
        refine lv_iconst (v := (-1)) hx hb dX10_split_60 (by decide) ?_
        refine lv_istore (lv' := [(7, .int (-1)), (6, .int (-1)), (5, .int (-1)), (4, .int r12), (3, .int r10), (0, .ref mm), (1, .int kk), (2, .int wt)]) hx hb dX10_split_61 hl (by decide) rfl (fun ls hl => ?_)
        refine lv_iconst (v := (-1)) hx hb dX10_split_63 (by decide) ?_
        refine lv_istore (lv' := [(8, .int (-1)), (7, .int (-1)), (6, .int (-1)), (5, .int (-1)), (4, .int r12), (3, .int r10), (0, .ref mm), (1, .int kk), (2, .int wt)]) hx hb dX10_split_64 hl (by decide) rfl (fun ls hl => ?_)
        refine lv_iconst (v := 1) hx hb dX10_split_66 (by decide) ?_
        refine lv_istore (lv' := [(9, .int 1), (8, .int (-1)), (7, .int (-1)), (6, .int (-1)), (5, .int (-1)), (4, .int r12), (3, .int r10), (0, .ref mm), (1, .int kk), (2, .int wt)]) hx hb dX10_split_67 hl (by decide) rfl (fun ls hl => ?_)
        have hzk : (1 : Int32).toInt = 1 := by decide
        refine z_loop (fun n H locs ls => ∃ (K18 : Int32) (G29 : Nat → Int32) (G30 : Nat → Int32) (G31 : Nat → Int32) (G32 : Nat → Int32) (G33 : Nat → Int32) (G34 : Nat → Int32) (G35 : Nat → Int32) (G36 : Nat → Int32) (G28 : Nat → Int32) (RM20 : Int32) (DM21 : Int32) (DN22 : Int32) (XX23 : Int64) (BP24 : Int32) (BG25 : Int32) (BH26 : Int32) (MN27 : Int32) (V37 : Int32) (V38 : Int32) (V39 : Int32) (V40 : Int32) (f19 : Nat → va_E), (n = (100 - K18.toInt).toNat) ∧ (1 ≤ K18.toInt) ∧ (K18.toInt ≤ 100) ∧ (0 ≤ XX23.toInt ∧ XX23.toInt < 2147483648) ∧ (0 ≤ BG25.toInt ∧ BG25.toInt ≤ 3) ∧ (0 ≤ BH26.toInt ∧ BH26.toInt ≤ 23) ∧ (0 ≤ MN27.toInt ∧ MN27.toInt ≤ 13) ∧ (z_H D vwCl (z_A L sz) s.heap L f19 H locs) ∧ (f19 mm = .inr (10, [.int 0, .ref wd, .ref my, .ref ce, .ref mv, .ref ta, .int m6, .int m7, .int m8, .int m9, .int m10, .long m11, .int m12, .int m13, .int m14, .int m15, .ref li, .ref ha, .ref lw, .ref st, .ref fo, .ref dr, .int m22, .ref ik, .int (-1), .int MN27, .long XX23, .int 0, .int 1000, .ref ro, .int RM20, .ref ct, .ref se, .ref th, .ref cn, .ref be, .int DN22, .ref du, .int DM21, .ref db, .int BP24, .int BG25, .int BH26, .ref pn, .ref wg, .ref wh, .ref tn, .ref he, .int m48, .ref tr, .ref fd, .ref po, .int m52, .int m53])) ∧ (f19 ha = .inl (cy 1, 30, .inl gha)) ∧ (f19 dr = .inl (cy 1, 520, .inl G28)) ∧ (f19 ro = .inl (cy 1, 13, .inl G29)) ∧ (f19 lw = .inl (cy 1, 25, .inl glw)) ∧ (f19 st = .inl (cy 1, 20, .inl gst)) ∧ (f19 ct = .inl (cy 1, 4, .inl G30)) ∧ (f19 se = .inl (cy 1, 36, .inl G31)) ∧ (f19 th = .inl (cy 1, 36, .inl G32)) ∧ (f19 cn = .inl (cy 1, 36, .inl G33)) ∧ (f19 db = .inl (cy 1, 5, .inl G34)) ∧ (f19 be = .inl (cy 1, 2574, .inl G35)) ∧ (f19 du = .inl (cy 1, 5200, .inl G36)) ∧ (f19 fo = .inl (cy 1, 180, .inl gfo)) ∧ (∀ b ∈ L, b ≠ mm → b ≠ ro → b ≠ ct → b ≠ se → b ≠ th → b ≠ cn → b ≠ db → b ≠ be → b ≠ du → b ≠ dr → f19 b = f b) ∧ (∀ j : Nat, q_12 j (G29 j)) ∧ (∀ j : Nat, q_law j (G30 j)) ∧ (∀ j : Nat, q_be j (G35 j)) ∧ (∀ j : Nat, q_du j (G36 j)) ∧ (∀ j : Nat, q_drv j (G28 j)) ∧ (lv_has ls 10 [(9, .int K18), (8, .int V40), (7, .int V39), (6, .int V38), (5, .int V37), (4, .int r12), (3, .int r10), (0, .ref mm), (1, .int kk), (2, .int wt)])) _ ⟨1, gro, gct, gse, gth, gcn, gdb, gbe, gdu, gdr, m30, m38, m36, m26, m40, m41, m42, mn2_16, (-1), (-1), (-1), (-1), f15, rfl, (by first | decide | omega), (by first | decide | omega), (by omega), (by omega), (by omega), (by omega), hw, hf_mm, hf_ha, hf_dr, hf_ro, hf_lw, hf_st, hf_ct, hf_se, hf_th, hf_cn, hf_db, hf_be, hf_du, hf_fo, hfr, hq_ro, hq_ct, hq_be, hq_du, hq_dr, (lv_sub hl [0, 1, 2, 3, 4, 5, 6, 7, 8, 9] rfl)⟩ (fun n H locs ls hI ih_69 => ?_)
        obtain ⟨K18, G29, G30, G31, G32, G33, G34, G35, G36, G28, RM20, DM21, DN22, XX23, BP24, BG25, BH26, MN27, V37, V38, V39, V40, f19, hn, hk0, hk1, hi0, hi1, hi2, hi3, hw, hf_mm, hf_ha, hf_dr, hf_ro, hf_lw, hf_st, hf_ct, hf_se, hf_th, hf_cn, hf_db, hf_be, hf_du, hf_fo, hfr, hq_ro, hq_ct, hq_be, hq_du, hq_dr, hl⟩ := hI
        refine lv_iload hx hb dX10_split_69 (lv_at hl 0 rfl) ?_
        refine lv_iload_n hx hb dX10_split_71 rfl (lv_at hl 6 rfl) ?_
        refine z_icmp_ge (tgt := 200) hx hb rfl rfl dX10_split_72 (by decide) (fun c41 => ?_) (fun c41 => ?_)
        · skip
          refine lv_aload_n hx hb dX10_split_200 rfl (lv_at hl 7 rfl) ?_
          refine z_get (C := RX10) (T := TX10) (N := 54) (ci := 10) (v := .ref dr) hx hb hT zin_X10 hown hK hw hm_mm hf_mm rfl 21 (by decide) (hT _ kw_1189) rfl dX10_split_201 ?_
          refine lv_bipush (v := 8) hx hb dX10_split_204 (by decide) ?_
          refine lv_iload_n hx hb dX10_split_206 rfl (lv_at hl 8 rfl) ?_
          refine lv_imul hx hb dX10_split_207 ?_
          refine lv_topi (fun w42 e_w42 => ?_)
          have i_w42 : w42.toInt = (8 * kk.toInt) := z_mul e_w42 (show (8 : Int32).toInt = 8 by decide) rfl (by omega)
          refine lv_iconst (v := 4) hx hb dX10_split_208 (by decide) ?_
          refine lv_iadd hx hb dX10_split_209 ?_
          refine lv_topi (fun w43 e_w43 => ?_)
          have i_w43 : w43.toInt = ((8 * kk.toInt) + 4) := z_add e_w43 i_w42 (show (4 : Int32).toInt = 4 by decide) (by omega)
          refine lv_iload_n hx hb dX10_split_210 rfl (lv_at hl 6 rfl) ?_
          refine z_iast hx hb hK hw 1 hm_dr hf_dr rfl (z_ix i_w43 (by omega)) dX10_split_211 (fun H locs hw => ?_)
          obtain ⟨f45, e_f45⟩ : ∃ z, z = va_up f19 dr (.inl (cy 1, 520, .inl (upd G28 w43.toNatClampNeg r10))) := ⟨_, rfl⟩
          rw [← e_f45] at hw
          have hf_mm : f45 mm = .inr (10, [.int 0, .ref wd, .ref my, .ref ce, .ref mv, .ref ta, .int m6, .int m7, .int m8, .int m9, .int m10, .long m11, .int m12, .int m13, .int m14, .int m15, .ref li, .ref ha, .ref lw, .ref st, .ref fo, .ref dr, .int m22, .ref ik, .int (-1), .int MN27, .long XX23, .int 0, .int 1000, .ref ro, .int RM20, .ref ct, .ref se, .ref th, .ref cn, .ref be, .int DN22, .ref du, .int DM21, .ref db, .int BP24, .int BG25, .int BH26, .ref pn, .ref wg, .ref wh, .ref tn, .ref he, .int m48, .ref tr, .ref fd, .ref po, .int m52, .int m53]) := (congrFun e_f45 mm).trans (z_up_ne (z_tne hf_mm hf_dr (m := 10) (n := 4260) rfl rfl (by decide)) hf_mm)
          have hf_ha : f45 ha = .inl (cy 1, 30, .inl gha) := (congrFun e_f45 ha).trans (z_up_ne (z_tne hf_ha hf_dr (m := 340) (n := 4260) rfl rfl (by decide)) hf_ha)
          have hf_ro : f45 ro = .inl (cy 1, 13, .inl G29) := (congrFun e_f45 ro).trans (z_up_ne (z_tne hf_ro hf_dr (m := 204) (n := 4260) rfl rfl (by decide)) hf_ro)
          have hf_lw : f45 lw = .inl (cy 1, 25, .inl glw) := (congrFun e_f45 lw).trans (z_up_ne (z_tne hf_lw hf_dr (m := 300) (n := 4260) rfl rfl (by decide)) hf_lw)
          have hf_st : f45 st = .inl (cy 1, 20, .inl gst) := (congrFun e_f45 st).trans (z_up_ne (z_tne hf_st hf_dr (m := 260) (n := 4260) rfl rfl (by decide)) hf_st)
          have hf_ct : f45 ct = .inl (cy 1, 4, .inl G30) := (congrFun e_f45 ct).trans (z_up_ne (z_tne hf_ct hf_dr (m := 132) (n := 4260) rfl rfl (by decide)) hf_ct)
          have hf_se : f45 se = .inl (cy 1, 36, .inl G31) := (congrFun e_f45 se).trans (z_up_ne (z_tne hf_se hf_dr (m := 388) (n := 4260) rfl rfl (by decide)) hf_se)
          have hf_th : f45 th = .inl (cy 1, 36, .inl G32) := (congrFun e_f45 th).trans (z_up_ne (z_tne hf_th hf_dr (m := 388) (n := 4260) rfl rfl (by decide)) hf_th)
          have hf_cn : f45 cn = .inl (cy 1, 36, .inl G33) := (congrFun e_f45 cn).trans (z_up_ne (z_tne hf_cn hf_dr (m := 388) (n := 4260) rfl rfl (by decide)) hf_cn)
          have hf_db : f45 db = .inl (cy 1, 5, .inl G34) := (congrFun e_f45 db).trans (z_up_ne (z_tne hf_db hf_dr (m := 140) (n := 4260) rfl rfl (by decide)) hf_db)
          have hf_be : f45 be = .inl (cy 1, 2574, .inl G35) := (congrFun e_f45 be).trans (z_up_ne (z_tne hf_be hf_dr (m := 20692) (n := 4260) rfl rfl (by decide)) hf_be)
          have hf_du : f45 du = .inl (cy 1, 5200, .inl G36) := (congrFun e_f45 du).trans (z_up_ne (z_tne hf_du hf_dr (m := 41700) (n := 4260) rfl rfl (by decide)) hf_du)
          have hf_fo : f45 fo = .inl (cy 1, 180, .inl gfo) := (congrFun e_f45 fo).trans (z_up_ne (z_tne hf_fo hf_dr (m := 1540) (n := 4260) rfl rfl (by decide)) hf_fo)
          have hf_dr : f45 dr = .inl (cy 1, 520, .inl (upd G28 w43.toNatClampNeg r10)) := (congrFun e_f45 dr).trans z_up_self
          have hfr : ∀ b ∈ L, b ≠ mm → b ≠ ro → b ≠ ct → b ≠ se → b ≠ th → b ≠ cn → b ≠ db → b ≠ be → b ≠ du → b ≠ dr → f45 b = f b := fun b hb h0 h1 h2 h3 h4 h5 h6 h7 h8 h9 => (congrFun e_f45 b).trans (z_up_ne h9 (hfr b hb h0 h1 h2 h3 h4 h5 h6 h7 h8 h9))
          obtain ⟨g44, e_g44⟩ : ∃ z, z = (upd G28 w43.toNatClampNeg r10) := ⟨_, rfl⟩
          rw [← e_g44] at hf_dr
          have hq_dr : ∀ j : Nat, q_drv j (g44 j) := z_updQ hq_dr e_g44 (show q_drv _ _ from z_drS4 (z_mod8 i_w43 (by omega)) (show 0 ≤ (r10 : Int32).toInt ∧ (r10 : Int32).toInt ≤ 99 by first | decide | omega))
          refine lv_aload_n hx hb dX10_split_212 rfl (lv_at hl 7 rfl) ?_
          refine z_get (C := RX10) (T := TX10) (N := 54) (ci := 10) (v := .ref dr) hx hb hT zin_X10 hown hK hw hm_mm hf_mm rfl 21 (by decide) (hT _ kw_1189) rfl dX10_split_213 ?_
          refine lv_bipush (v := 8) hx hb dX10_split_216 (by decide) ?_
          refine lv_iload_n hx hb dX10_split_218 rfl (lv_at hl 8 rfl) ?_
          refine lv_imul hx hb dX10_split_219 ?_
          refine lv_topi (fun w46 e_w46 => ?_)
          have i_w46 : w46.toInt = (8 * kk.toInt) := z_mul e_w46 (show (8 : Int32).toInt = 8 by decide) rfl (by omega)
          refine lv_iconst (v := 5) hx hb dX10_split_220 (by decide) ?_
          refine lv_iadd hx hb dX10_split_221 ?_
          refine lv_topi (fun w47 e_w47 => ?_)
          have i_w47 : w47.toInt = ((8 * kk.toInt) + 5) := z_add e_w47 i_w46 (show (5 : Int32).toInt = 5 by decide) (by omega)
          refine lv_iload hx hb dX10_split_222 (lv_at hl 5 rfl) ?_
          refine z_iast hx hb hK hw 1 hm_dr hf_dr rfl (z_ix i_w47 (by omega)) dX10_split_224 (fun H locs hw => ?_)
          obtain ⟨f49, e_f49⟩ : ∃ z, z = va_up f45 dr (.inl (cy 1, 520, .inl (upd g44 w47.toNatClampNeg r12))) := ⟨_, rfl⟩
          rw [← e_f49] at hw
          have hf_mm : f49 mm = .inr (10, [.int 0, .ref wd, .ref my, .ref ce, .ref mv, .ref ta, .int m6, .int m7, .int m8, .int m9, .int m10, .long m11, .int m12, .int m13, .int m14, .int m15, .ref li, .ref ha, .ref lw, .ref st, .ref fo, .ref dr, .int m22, .ref ik, .int (-1), .int MN27, .long XX23, .int 0, .int 1000, .ref ro, .int RM20, .ref ct, .ref se, .ref th, .ref cn, .ref be, .int DN22, .ref du, .int DM21, .ref db, .int BP24, .int BG25, .int BH26, .ref pn, .ref wg, .ref wh, .ref tn, .ref he, .int m48, .ref tr, .ref fd, .ref po, .int m52, .int m53]) := (congrFun e_f49 mm).trans (z_up_ne (z_tne hf_mm hf_dr (m := 10) (n := 4260) rfl rfl (by decide)) hf_mm)
          have hf_ha : f49 ha = .inl (cy 1, 30, .inl gha) := (congrFun e_f49 ha).trans (z_up_ne (z_tne hf_ha hf_dr (m := 340) (n := 4260) rfl rfl (by decide)) hf_ha)
          have hf_ro : f49 ro = .inl (cy 1, 13, .inl G29) := (congrFun e_f49 ro).trans (z_up_ne (z_tne hf_ro hf_dr (m := 204) (n := 4260) rfl rfl (by decide)) hf_ro)
          have hf_lw : f49 lw = .inl (cy 1, 25, .inl glw) := (congrFun e_f49 lw).trans (z_up_ne (z_tne hf_lw hf_dr (m := 300) (n := 4260) rfl rfl (by decide)) hf_lw)
          have hf_st : f49 st = .inl (cy 1, 20, .inl gst) := (congrFun e_f49 st).trans (z_up_ne (z_tne hf_st hf_dr (m := 260) (n := 4260) rfl rfl (by decide)) hf_st)
          have hf_ct : f49 ct = .inl (cy 1, 4, .inl G30) := (congrFun e_f49 ct).trans (z_up_ne (z_tne hf_ct hf_dr (m := 132) (n := 4260) rfl rfl (by decide)) hf_ct)
          have hf_se : f49 se = .inl (cy 1, 36, .inl G31) := (congrFun e_f49 se).trans (z_up_ne (z_tne hf_se hf_dr (m := 388) (n := 4260) rfl rfl (by decide)) hf_se)
          have hf_th : f49 th = .inl (cy 1, 36, .inl G32) := (congrFun e_f49 th).trans (z_up_ne (z_tne hf_th hf_dr (m := 388) (n := 4260) rfl rfl (by decide)) hf_th)
          have hf_cn : f49 cn = .inl (cy 1, 36, .inl G33) := (congrFun e_f49 cn).trans (z_up_ne (z_tne hf_cn hf_dr (m := 388) (n := 4260) rfl rfl (by decide)) hf_cn)
          have hf_db : f49 db = .inl (cy 1, 5, .inl G34) := (congrFun e_f49 db).trans (z_up_ne (z_tne hf_db hf_dr (m := 140) (n := 4260) rfl rfl (by decide)) hf_db)
          have hf_be : f49 be = .inl (cy 1, 2574, .inl G35) := (congrFun e_f49 be).trans (z_up_ne (z_tne hf_be hf_dr (m := 20692) (n := 4260) rfl rfl (by decide)) hf_be)
          have hf_du : f49 du = .inl (cy 1, 5200, .inl G36) := (congrFun e_f49 du).trans (z_up_ne (z_tne hf_du hf_dr (m := 41700) (n := 4260) rfl rfl (by decide)) hf_du)
          have hf_fo : f49 fo = .inl (cy 1, 180, .inl gfo) := (congrFun e_f49 fo).trans (z_up_ne (z_tne hf_fo hf_dr (m := 1540) (n := 4260) rfl rfl (by decide)) hf_fo)
          have hf_dr : f49 dr = .inl (cy 1, 520, .inl (upd g44 w47.toNatClampNeg r12)) := (congrFun e_f49 dr).trans z_up_self
          have hfr : ∀ b ∈ L, b ≠ mm → b ≠ ro → b ≠ ct → b ≠ se → b ≠ th → b ≠ cn → b ≠ db → b ≠ be → b ≠ du → b ≠ dr → f49 b = f b := fun b hb h0 h1 h2 h3 h4 h5 h6 h7 h8 h9 => (congrFun e_f49 b).trans (z_up_ne h9 (hfr b hb h0 h1 h2 h3 h4 h5 h6 h7 h8 h9))
          obtain ⟨g48, e_g48⟩ : ∃ z, z = (upd g44 w47.toNatClampNeg r12) := ⟨_, rfl⟩
          rw [← e_g48] at hf_dr
          have hq_dr : ∀ j : Nat, q_drv j (g48 j) := z_updQ hq_dr e_g48 (show q_drv _ _ from z_drS5 (z_mod8 i_w47 (by omega)) (show 0 ≤ (r12 : Int32).toInt ∧ (r12 : Int32).toInt ≤ 99 by first | decide | omega))
          refine lv_iload_n hx hb dX10_split_225 rfl (lv_at hl 9 rfl) ?_
          refine z_if_ne (tgt := 234) hx hb rfl dX10_split_226 (by decide) (fun c50 => ?_) (fun c50 => ?_)
          · skip
            refine lv_iload_n hx hb dX10_split_234 rfl (lv_at hl 9 rfl) ?_
            refine lv_iconst (v := 1) hx hb dX10_split_235 (by decide) ?_
            refine z_icmp_ne (tgt := 244) hx hb rfl (show (1 : Int32).toInt = 1 by decide) dX10_split_236 (by decide) (fun c51 => ?_) (fun c51 => ?_)
            · skip
              refine lv_iload_n hx hb dX10_split_244 rfl (lv_at hl 9 rfl) ?_
              refine lv_iconst (v := 2) hx hb dX10_split_245 (by decide) ?_
              refine z_icmp_ne (tgt := 254) hx hb rfl (show (2 : Int32).toInt = 2 by decide) dX10_split_246 (by decide) (fun c52 => ?_) (fun c52 => ?_)
              · skip
                refine lv_iload hx hb dX10_split_254 (lv_at hl 1 rfl) ?_
                exact z_iret hx hb hr hlk (by decide) (by decide) hw (⟨hsub, hfr, (-1), MN27, 0, 1000, RM20, DM21, DN22, BP24, BG25, BH26, XX23, G29, G30, G31, G32, G33, G34, G35, G36, g48, hf_mm, hf_ro, hf_ct, hf_se, hf_th, hf_cn, hf_db, hf_be, hf_du, hf_dr, hq_ro, hq_ct, hq_be, hq_du, hq_dr, by omega, by omega, by omega⟩) dX10_split_256
              · skip
                refine lv_iload hx hb dX10_split_249 (lv_at hl 2 rfl) ?_
                refine lv_goto (tgt := 256) hx hb dX10_split_251 (by decide) ?_
                exact z_iret hx hb hr hlk (by decide) (by decide) hw (⟨hsub, hfr, (-1), MN27, 0, 1000, RM20, DM21, DN22, BP24, BG25, BH26, XX23, G29, G30, G31, G32, G33, G34, G35, G36, g48, hf_mm, hf_ro, hf_ct, hf_se, hf_th, hf_cn, hf_db, hf_be, hf_du, hf_dr, hq_ro, hq_ct, hq_be, hq_du, hq_dr, by omega, by omega, by omega⟩) dX10_split_256
            · skip
              refine lv_iload hx hb dX10_split_239 (lv_at hl 3 rfl) ?_
              refine lv_goto (tgt := 256) hx hb dX10_split_241 (by decide) ?_
              exact z_iret hx hb hr hlk (by decide) (by decide) hw (⟨hsub, hfr, (-1), MN27, 0, 1000, RM20, DM21, DN22, BP24, BG25, BH26, XX23, G29, G30, G31, G32, G33, G34, G35, G36, g48, hf_mm, hf_ro, hf_ct, hf_se, hf_th, hf_cn, hf_db, hf_be, hf_du, hf_dr, hq_ro, hq_ct, hq_be, hq_du, hq_dr, by omega, by omega, by omega⟩) dX10_split_256
          · skip
            refine lv_iload hx hb dX10_split_229 (lv_at hl 4 rfl) ?_
            refine lv_goto (tgt := 256) hx hb dX10_split_231 (by decide) ?_
            exact z_iret hx hb hr hlk (by decide) (by decide) hw (⟨hsub, hfr, (-1), MN27, 0, 1000, RM20, DM21, DN22, BP24, BG25, BH26, XX23, G29, G30, G31, G32, G33, G34, G35, G36, g48, hf_mm, hf_ro, hf_ct, hf_se, hf_th, hf_cn, hf_db, hf_be, hf_du, hf_dr, hq_ro, hq_ct, hq_be, hq_du, hq_dr, by omega, by omega, by omega⟩) dX10_split_256
        · skip
          refine lv_aload_n hx hb dX10_split_75 rfl (lv_at hl 7 rfl) ?_
          refine lv_aload_n hx hb dX10_split_76 rfl (lv_at hl 7 rfl) ?_
          refine lv_iload_n hx hb dX10_split_77 rfl (lv_at hl 8 rfl) ?_
          refine lv_iconst (v := 0) hx hb dX10_split_78 (by decide) ?_
          have hz53 := (show (0 : Int32).toInt = 0 by decide)
          refine z_calliV (cells := 0) (slots := 0) (b := mm) (As := [.int kk, .int 0]) (rest := [.ref mm]) (ci := 10) (q0 := (RX10, TX10, 54)) ⟨hx, hb, hml, hown, hT⟩ (c_X10_of l hm_mm hm_dr hf_mm hf_dr hq_dr (by first | omega | decide | assumption) (by decide)) (cwV 2 hT (z_goodV (fun _ h => h) kw_1487 kw_1489 kw_51 kw_96 kw_1490) rfl rfl rfl (by decide +kernel) ⟨by decide, by decide⟩) z_mv hKK hK hw hA hm_mm hf_mm rfl rfl rfl hl.1 rfl (Nat.le_of_ble_eq_true rfl) dX10_split_79 ⟨by decide, by decide⟩ (fun r54 u H locs hp hw => ?_)
          obtain ⟨rfl, hp⟩ := hp
          have hw : z_H D vwCl (z_A L sz) s.heap L f19 H locs := hw
          have hof_r54 : r54 = G28 (8 * kk.toNatClampNeg + 0) := hp
          have hh_r54 : 0 ≤ r54.toInt ∧ r54.toInt ≤ 4 := by rw [hof_r54]; exact (hq_dr _).1 (by omega)
          refine lv_iconst (v := 0) hx hb dX10_split_82 (by decide) ?_
          refine lv_aload_n hx hb dX10_split_83 rfl (lv_at hl 7 rfl) ?_
          refine lv_iload_n hx hb dX10_split_84 rfl (lv_at hl 8 rfl) ?_
          refine lv_iconst (v := 2) hx hb dX10_split_85 (by decide) ?_
          have hz55 := (show (2 : Int32).toInt = 2 by decide)
          refine z_calliV (cells := 0) (slots := 0) (b := mm) (As := [.int kk, .int 2]) (rest := [.int 0, .int r54, .ref mm]) (ci := 10) (q0 := (RX10, TX10, 54)) ⟨hx, hb, hml, hown, hT⟩ (c_X10_of l hm_mm hm_dr hf_mm hf_dr hq_dr (by first | omega | decide | assumption) (by decide)) (cwV 2 hT (z_goodV (fun _ h => h) kw_1487 kw_1489 kw_51 kw_96 kw_1490) rfl rfl rfl (by decide +kernel) ⟨by decide, by decide⟩) z_mv hKK hK hw hA hm_mm hf_mm rfl rfl rfl hl.1 rfl (Nat.le_of_ble_eq_true rfl) dX10_split_86 ⟨by decide, by decide⟩ (fun r56 u H locs hp hw => ?_)
          obtain ⟨rfl, hp⟩ := hp
          have hw : z_H D vwCl (z_A L sz) s.heap L f19 H locs := hw
          have hof_r56 : r56 = G28 (8 * kk.toNatClampNeg + 2) := hp
          have hh_r56 : 0 ≤ r56.toInt ∧ r56.toInt ≤ 8 := by rw [hof_r56]; exact (hq_dr _).2.2.1 (by omega)
          refine lv_iconst (v := 0) hx hb dX10_split_89 (by decide) ?_
          refine lv_iload_n hx hb dX10_split_90 rfl (lv_at hl 6 rfl) ?_
          refine lv_iload hx hb dX10_split_91 (lv_at hl 0 rfl) ?_
          refine lv_isub hx hb dX10_split_93 ?_
          refine lv_topi (fun w57 e_w57 => ?_)
          have i_w57 : w57.toInt = (r10.toInt - K18.toInt) := z_subI e_w57 rfl rfl (by omega)
          refine lv_iload hx hb dX10_split_94 (lv_at hl 5 rfl) ?_
          refine lv_aload_n hx hb dX10_split_96 rfl (lv_at hl 7 rfl) ?_
          refine lv_iload_n hx hb dX10_split_97 rfl (lv_at hl 8 rfl) ?_
          refine lv_bipush (v := 6) hx hb dX10_split_98 (by decide) ?_
          have hz58 := (show (6 : Int32).toInt = 6 by decide)
          refine z_calliV (cells := 0) (slots := 0) (b := mm) (As := [.int kk, .int 6]) (rest := [.int r12, .int w57, .int 0, .int r56, .int 0, .int r54, .ref mm]) (ci := 10) (q0 := (RX10, TX10, 54)) ⟨hx, hb, hml, hown, hT⟩ (c_X10_of l hm_mm hm_dr hf_mm hf_dr hq_dr (by first | omega | decide | assumption) (by decide)) (cwV 2 hT (z_goodV (fun _ h => h) kw_1487 kw_1489 kw_51 kw_96 kw_1490) rfl rfl rfl (by decide +kernel) ⟨by decide, by decide⟩) z_mv hKK hK hw hA hm_mm hf_mm rfl rfl rfl hl.1 rfl (Nat.le_of_ble_eq_true rfl) dX10_split_100 ⟨by decide, by decide⟩ (fun r59 u H locs hp hw => ?_)
          obtain ⟨rfl, hp⟩ := hp
          have hw : z_H D vwCl (z_A L sz) s.heap L f19 H locs := hw
          have hof_r59 : r59 = G28 (8 * kk.toNatClampNeg + 6) := hp
          have hh_r59 : 0 ≤ r59.toInt ∧ r59.toInt ≤ 4 := by rw [hof_r59]; exact (hq_dr _).2.2.2.2.2.2.1 (by omega)
          refine lv_aload_n hx hb dX10_split_103 rfl (lv_at hl 7 rfl) ?_
          refine lv_iload_n hx hb dX10_split_104 rfl (lv_at hl 8 rfl) ?_
          refine lv_bipush (v := 7) hx hb dX10_split_105 (by decide) ?_
          have hz60 := (show (7 : Int32).toInt = 7 by decide)
          refine z_calliV (cells := 0) (slots := 0) (b := mm) (As := [.int kk, .int 7]) (rest := [.int r59, .int r12, .int w57, .int 0, .int r56, .int 0, .int r54, .ref mm]) (ci := 10) (q0 := (RX10, TX10, 54)) ⟨hx, hb, hml, hown, hT⟩ (c_X10_of l hm_mm hm_dr hf_mm hf_dr hq_dr (by first | omega | decide | assumption) (by decide)) (cwV 2 hT (z_goodV (fun _ h => h) kw_1487 kw_1489 kw_51 kw_96 kw_1490) rfl rfl rfl (by decide +kernel) ⟨by decide, by decide⟩) z_mv hKK hK hw hA hm_mm hf_mm rfl rfl rfl hl.1 rfl (Nat.le_of_ble_eq_true rfl) dX10_split_107 ⟨by decide, by decide⟩ (fun r61 u H locs hp hw => ?_)
          obtain ⟨rfl, hp⟩ := hp
          have hw : z_H D vwCl (z_A L sz) s.heap L f19 H locs := hw
          have hof_r61 : r61 = G28 (8 * kk.toNatClampNeg + 7) := hp
          have hh_r61 : 0 ≤ r61.toInt ∧ r61.toInt ≤ 1 := by rw [hof_r61]; exact (hq_dr _).2.2.2.2.2.2.2 (by omega)
          have hz62 := (show (0 : Int32).toInt = 0 by decide)
          have hz63 := (show (0 : Int32).toInt = 0 by decide)
          refine z_callvV (cells := 0) (slots := 0) (b := mm) (As := [.int r54, .int 0, .int r56, .int 0, .int w57, .int r12, .int r59, .int r61]) (rest := []) (ci := 10) (q0 := (RX10, TX10, 54)) ⟨hx, hb, hml, hown, hT⟩ (c_X10_adds l hm_mm hm_ha hm_dr hf_mm hf_ha hf_dr hq_ha hq_dr (by first | omega | decide | assumption) (by first | omega | decide | assumption) (by first | omega | decide | assumption) (by first | omega | decide | assumption) (by first | omega | decide | assumption) (by first | omega | decide | assumption) (by first | omega | decide | assumption) (by first | omega | decide | assumption)) (cwV 8 hT (z_goodV (fun _ h => h) kw_1636 kw_1638 kw_72 kw_96 kw_1639) rfl rfl rfl (by decide +kernel) ⟨by decide, by decide⟩) z_mv hKK hK hw hA hm_mm hf_mm rfl rfl rfl hl.1 rfl (Nat.le_of_ble_eq_true rfl) dX10_split_110 ⟨by decide, by decide⟩ (fun u H locs hp hw => ?_)
          obtain ⟨L64, f65⟩ := u
          obtain ⟨hsb, hfm, mn2_66, ndr_67, ha_0, ha_1, hq_dr, hp⟩ := hp
          have hsb : L = L64 := hsb
          subst hsb
          have hsb : ∀ b ∈ L, b ∈ L := fun _ h => h
          have hw : z_H D vwCl (z_A L sz) s.heap L f65 H locs := hw
          have hfr : ∀ b ∈ L, b ≠ mm → b ≠ ro → b ≠ ct → b ≠ se → b ≠ th → b ≠ cn → b ≠ db → b ≠ be → b ≠ du → b ≠ dr → f65 b = f b := fun b hb h0 h1 h2 h3 h4 h5 h6 h7 h8 h9 => (hfm b hb h0 h9).trans (hfr b hb h0 h1 h2 h3 h4 h5 h6 h7 h8 h9)
          have hf_ha : f65 ha = .inl (cy 1, 30, .inl gha) := (hfm ha hm_ha (z_tne hf_ha hf_mm (m := 340) (n := 10) rfl rfl (by decide)) (z_tne hf_ha hf_dr (m := 340) (n := 4260) rfl rfl (by decide))).trans hf_ha
          have hf_ro : f65 ro = .inl (cy 1, 13, .inl G29) := (hfm ro hm_ro (z_tne hf_ro hf_mm (m := 204) (n := 10) rfl rfl (by decide)) (z_tne hf_ro hf_dr (m := 204) (n := 4260) rfl rfl (by decide))).trans hf_ro
          have hf_lw : f65 lw = .inl (cy 1, 25, .inl glw) := (hfm lw hm_lw (z_tne hf_lw hf_mm (m := 300) (n := 10) rfl rfl (by decide)) (z_tne hf_lw hf_dr (m := 300) (n := 4260) rfl rfl (by decide))).trans hf_lw
          have hf_st : f65 st = .inl (cy 1, 20, .inl gst) := (hfm st hm_st (z_tne hf_st hf_mm (m := 260) (n := 10) rfl rfl (by decide)) (z_tne hf_st hf_dr (m := 260) (n := 4260) rfl rfl (by decide))).trans hf_st
          have hf_ct : f65 ct = .inl (cy 1, 4, .inl G30) := (hfm ct hm_ct (z_tne hf_ct hf_mm (m := 132) (n := 10) rfl rfl (by decide)) (z_tne hf_ct hf_dr (m := 132) (n := 4260) rfl rfl (by decide))).trans hf_ct
          have hf_se : f65 se = .inl (cy 1, 36, .inl G31) := (hfm se hm_se (z_tne hf_se hf_mm (m := 388) (n := 10) rfl rfl (by decide)) (z_tne hf_se hf_dr (m := 388) (n := 4260) rfl rfl (by decide))).trans hf_se
          have hf_th : f65 th = .inl (cy 1, 36, .inl G32) := (hfm th hm_th (z_tne hf_th hf_mm (m := 388) (n := 10) rfl rfl (by decide)) (z_tne hf_th hf_dr (m := 388) (n := 4260) rfl rfl (by decide))).trans hf_th
          have hf_cn : f65 cn = .inl (cy 1, 36, .inl G33) := (hfm cn hm_cn (z_tne hf_cn hf_mm (m := 388) (n := 10) rfl rfl (by decide)) (z_tne hf_cn hf_dr (m := 388) (n := 4260) rfl rfl (by decide))).trans hf_cn
          have hf_db : f65 db = .inl (cy 1, 5, .inl G34) := (hfm db hm_db (z_tne hf_db hf_mm (m := 140) (n := 10) rfl rfl (by decide)) (z_tne hf_db hf_dr (m := 140) (n := 4260) rfl rfl (by decide))).trans hf_db
          have hf_be : f65 be = .inl (cy 1, 2574, .inl G35) := (hfm be hm_be (z_tne hf_be hf_mm (m := 20692) (n := 10) rfl rfl (by decide)) (z_tne hf_be hf_dr (m := 20692) (n := 4260) rfl rfl (by decide))).trans hf_be
          have hf_du : f65 du = .inl (cy 1, 5200, .inl G36) := (hfm du hm_du (z_tne hf_du hf_mm (m := 41700) (n := 10) rfl rfl (by decide)) (z_tne hf_du hf_dr (m := 41700) (n := 4260) rfl rfl (by decide))).trans hf_du
          have hf_fo : f65 fo = .inl (cy 1, 180, .inl gfo) := (hfm fo hm_fo (z_tne hf_fo hf_mm (m := 1540) (n := 10) rfl rfl (by decide)) (z_tne hf_fo hf_dr (m := 1540) (n := 4260) rfl rfl (by decide))).trans hf_fo
          have hf_mm : f65 mm = .inr (10, [.int 0, .ref wd, .ref my, .ref ce, .ref mv, .ref ta, .int m6, .int m7, .int m8, .int m9, .int m10, .long m11, .int m12, .int m13, .int m14, .int m15, .ref li, .ref ha, .ref lw, .ref st, .ref fo, .ref dr, .int m22, .ref ik, .int (-1), .int mn2_66, .long XX23, .int 0, .int 1000, .ref ro, .int RM20, .ref ct, .ref se, .ref th, .ref cn, .ref be, .int DN22, .ref du, .int DM21, .ref db, .int BP24, .int BG25, .int BH26, .ref pn, .ref wg, .ref wh, .ref tn, .ref he, .int m48, .ref tr, .ref fd, .ref po, .int m52, .int m53]) := ha_0
          have hf_dr : f65 dr = .inl (cy 1, 520, .inl ndr_67) := ha_1
          have hq68 := hp
          refine lv_aload_n hx hb dX10_split_113 rfl (lv_at hl 7 rfl) ?_
          refine z_get (C := RX10) (T := TX10) (N := 54) (ci := 10) (v := .ref dr) hx hb hT zin_X10 hown hK hw hm_mm hf_mm rfl 21 (by decide) (hT _ kw_1189) rfl dX10_split_114 ?_
          refine lv_bipush (v := 8) hx hb dX10_split_117 (by decide) ?_
          refine lv_iload_n hx hb dX10_split_119 rfl (lv_at hl 8 rfl) ?_
          refine lv_imul hx hb dX10_split_120 ?_
          refine lv_topi (fun w69 e_w69 => ?_)
          have i_w69 : w69.toInt = (8 * kk.toInt) := z_mul e_w69 (show (8 : Int32).toInt = 8 by decide) rfl (by omega)
          refine lv_iconst (v := 4) hx hb dX10_split_121 (by decide) ?_
          refine lv_iadd hx hb dX10_split_122 ?_
          refine lv_topi (fun w70 e_w70 => ?_)
          have i_w70 : w70.toInt = ((8 * kk.toInt) + 4) := z_add e_w70 i_w69 (show (4 : Int32).toInt = 4 by decide) (by omega)
          refine lv_iload hx hb dX10_split_123 (lv_at hl 0 rfl) ?_
          refine z_iast hx hb hK hw 1 hm_dr hf_dr rfl (z_ix i_w70 (by omega)) dX10_split_125 (fun H locs hw => ?_)
          obtain ⟨f72, e_f72⟩ : ∃ z, z = va_up f65 dr (.inl (cy 1, 520, .inl (upd ndr_67 w70.toNatClampNeg K18))) := ⟨_, rfl⟩
          rw [← e_f72] at hw
          have hf_mm : f72 mm = .inr (10, [.int 0, .ref wd, .ref my, .ref ce, .ref mv, .ref ta, .int m6, .int m7, .int m8, .int m9, .int m10, .long m11, .int m12, .int m13, .int m14, .int m15, .ref li, .ref ha, .ref lw, .ref st, .ref fo, .ref dr, .int m22, .ref ik, .int (-1), .int mn2_66, .long XX23, .int 0, .int 1000, .ref ro, .int RM20, .ref ct, .ref se, .ref th, .ref cn, .ref be, .int DN22, .ref du, .int DM21, .ref db, .int BP24, .int BG25, .int BH26, .ref pn, .ref wg, .ref wh, .ref tn, .ref he, .int m48, .ref tr, .ref fd, .ref po, .int m52, .int m53]) := (congrFun e_f72 mm).trans (z_up_ne (z_tne hf_mm hf_dr (m := 10) (n := 4260) rfl rfl (by decide)) hf_mm)
          have hf_ha : f72 ha = .inl (cy 1, 30, .inl gha) := (congrFun e_f72 ha).trans (z_up_ne (z_tne hf_ha hf_dr (m := 340) (n := 4260) rfl rfl (by decide)) hf_ha)
          have hf_ro : f72 ro = .inl (cy 1, 13, .inl G29) := (congrFun e_f72 ro).trans (z_up_ne (z_tne hf_ro hf_dr (m := 204) (n := 4260) rfl rfl (by decide)) hf_ro)
          have hf_lw : f72 lw = .inl (cy 1, 25, .inl glw) := (congrFun e_f72 lw).trans (z_up_ne (z_tne hf_lw hf_dr (m := 300) (n := 4260) rfl rfl (by decide)) hf_lw)
          have hf_st : f72 st = .inl (cy 1, 20, .inl gst) := (congrFun e_f72 st).trans (z_up_ne (z_tne hf_st hf_dr (m := 260) (n := 4260) rfl rfl (by decide)) hf_st)
          have hf_ct : f72 ct = .inl (cy 1, 4, .inl G30) := (congrFun e_f72 ct).trans (z_up_ne (z_tne hf_ct hf_dr (m := 132) (n := 4260) rfl rfl (by decide)) hf_ct)
          have hf_se : f72 se = .inl (cy 1, 36, .inl G31) := (congrFun e_f72 se).trans (z_up_ne (z_tne hf_se hf_dr (m := 388) (n := 4260) rfl rfl (by decide)) hf_se)
          have hf_th : f72 th = .inl (cy 1, 36, .inl G32) := (congrFun e_f72 th).trans (z_up_ne (z_tne hf_th hf_dr (m := 388) (n := 4260) rfl rfl (by decide)) hf_th)
          have hf_cn : f72 cn = .inl (cy 1, 36, .inl G33) := (congrFun e_f72 cn).trans (z_up_ne (z_tne hf_cn hf_dr (m := 388) (n := 4260) rfl rfl (by decide)) hf_cn)
          have hf_db : f72 db = .inl (cy 1, 5, .inl G34) := (congrFun e_f72 db).trans (z_up_ne (z_tne hf_db hf_dr (m := 140) (n := 4260) rfl rfl (by decide)) hf_db)
          have hf_be : f72 be = .inl (cy 1, 2574, .inl G35) := (congrFun e_f72 be).trans (z_up_ne (z_tne hf_be hf_dr (m := 20692) (n := 4260) rfl rfl (by decide)) hf_be)
          have hf_du : f72 du = .inl (cy 1, 5200, .inl G36) := (congrFun e_f72 du).trans (z_up_ne (z_tne hf_du hf_dr (m := 41700) (n := 4260) rfl rfl (by decide)) hf_du)
          have hf_fo : f72 fo = .inl (cy 1, 180, .inl gfo) := (congrFun e_f72 fo).trans (z_up_ne (z_tne hf_fo hf_dr (m := 1540) (n := 4260) rfl rfl (by decide)) hf_fo)
          have hf_dr : f72 dr = .inl (cy 1, 520, .inl (upd ndr_67 w70.toNatClampNeg K18)) := (congrFun e_f72 dr).trans z_up_self
          have hfr : ∀ b ∈ L, b ≠ mm → b ≠ ro → b ≠ ct → b ≠ se → b ≠ th → b ≠ cn → b ≠ db → b ≠ be → b ≠ du → b ≠ dr → f72 b = f b := fun b hb h0 h1 h2 h3 h4 h5 h6 h7 h8 h9 => (congrFun e_f72 b).trans (z_up_ne h9 (hfr b hb h0 h1 h2 h3 h4 h5 h6 h7 h8 h9))
          obtain ⟨g71, e_g71⟩ : ∃ z, z = (upd ndr_67 w70.toNatClampNeg K18) := ⟨_, rfl⟩
          rw [← e_g71] at hf_dr
          have hq_dr : ∀ j : Nat, q_drv j (g71 j) := z_updQ hq_dr e_g71 (show q_drv _ _ from z_drS4 (z_mod8 i_w70 (by omega)) (show 0 ≤ (K18 : Int32).toInt ∧ (K18 : Int32).toInt ≤ 99 by first | decide | omega))
          refine lv_aload_n hx hb dX10_split_126 rfl (lv_at hl 7 rfl) ?_
          refine z_get (C := RX10) (T := TX10) (N := 54) (ci := 10) (v := .ref dr) hx hb hT zin_X10 hown hK hw hm_mm hf_mm rfl 21 (by decide) (hT _ kw_1189) rfl dX10_split_127 ?_
          refine lv_bipush (v := 8) hx hb dX10_split_130 (by decide) ?_
          refine lv_iload_n hx hb dX10_split_132 rfl (lv_at hl 8 rfl) ?_
          refine lv_imul hx hb dX10_split_133 ?_
          refine lv_topi (fun w73 e_w73 => ?_)
          have i_w73 : w73.toInt = (8 * kk.toInt) := z_mul e_w73 (show (8 : Int32).toInt = 8 by decide) rfl (by omega)
          refine lv_iconst (v := 5) hx hb dX10_split_134 (by decide) ?_
          refine lv_iadd hx hb dX10_split_135 ?_
          refine lv_topi (fun w74 e_w74 => ?_)
          have i_w74 : w74.toInt = ((8 * kk.toInt) + 5) := z_add e_w74 i_w73 (show (5 : Int32).toInt = 5 by decide) (by omega)
          refine lv_iconst (v := 0) hx hb dX10_split_136 (by decide) ?_
          refine z_iast hx hb hK hw 1 hm_dr hf_dr rfl (z_ix i_w74 (by omega)) dX10_split_137 (fun H locs hw => ?_)
          obtain ⟨f76, e_f76⟩ : ∃ z, z = va_up f72 dr (.inl (cy 1, 520, .inl (upd g71 w74.toNatClampNeg 0))) := ⟨_, rfl⟩
          rw [← e_f76] at hw
          have hf_mm : f76 mm = .inr (10, [.int 0, .ref wd, .ref my, .ref ce, .ref mv, .ref ta, .int m6, .int m7, .int m8, .int m9, .int m10, .long m11, .int m12, .int m13, .int m14, .int m15, .ref li, .ref ha, .ref lw, .ref st, .ref fo, .ref dr, .int m22, .ref ik, .int (-1), .int mn2_66, .long XX23, .int 0, .int 1000, .ref ro, .int RM20, .ref ct, .ref se, .ref th, .ref cn, .ref be, .int DN22, .ref du, .int DM21, .ref db, .int BP24, .int BG25, .int BH26, .ref pn, .ref wg, .ref wh, .ref tn, .ref he, .int m48, .ref tr, .ref fd, .ref po, .int m52, .int m53]) := (congrFun e_f76 mm).trans (z_up_ne (z_tne hf_mm hf_dr (m := 10) (n := 4260) rfl rfl (by decide)) hf_mm)
          have hf_ha : f76 ha = .inl (cy 1, 30, .inl gha) := (congrFun e_f76 ha).trans (z_up_ne (z_tne hf_ha hf_dr (m := 340) (n := 4260) rfl rfl (by decide)) hf_ha)
          have hf_ro : f76 ro = .inl (cy 1, 13, .inl G29) := (congrFun e_f76 ro).trans (z_up_ne (z_tne hf_ro hf_dr (m := 204) (n := 4260) rfl rfl (by decide)) hf_ro)
          have hf_lw : f76 lw = .inl (cy 1, 25, .inl glw) := (congrFun e_f76 lw).trans (z_up_ne (z_tne hf_lw hf_dr (m := 300) (n := 4260) rfl rfl (by decide)) hf_lw)
          have hf_st : f76 st = .inl (cy 1, 20, .inl gst) := (congrFun e_f76 st).trans (z_up_ne (z_tne hf_st hf_dr (m := 260) (n := 4260) rfl rfl (by decide)) hf_st)
          have hf_ct : f76 ct = .inl (cy 1, 4, .inl G30) := (congrFun e_f76 ct).trans (z_up_ne (z_tne hf_ct hf_dr (m := 132) (n := 4260) rfl rfl (by decide)) hf_ct)
          have hf_se : f76 se = .inl (cy 1, 36, .inl G31) := (congrFun e_f76 se).trans (z_up_ne (z_tne hf_se hf_dr (m := 388) (n := 4260) rfl rfl (by decide)) hf_se)
          have hf_th : f76 th = .inl (cy 1, 36, .inl G32) := (congrFun e_f76 th).trans (z_up_ne (z_tne hf_th hf_dr (m := 388) (n := 4260) rfl rfl (by decide)) hf_th)
          have hf_cn : f76 cn = .inl (cy 1, 36, .inl G33) := (congrFun e_f76 cn).trans (z_up_ne (z_tne hf_cn hf_dr (m := 388) (n := 4260) rfl rfl (by decide)) hf_cn)
          have hf_db : f76 db = .inl (cy 1, 5, .inl G34) := (congrFun e_f76 db).trans (z_up_ne (z_tne hf_db hf_dr (m := 140) (n := 4260) rfl rfl (by decide)) hf_db)
          have hf_be : f76 be = .inl (cy 1, 2574, .inl G35) := (congrFun e_f76 be).trans (z_up_ne (z_tne hf_be hf_dr (m := 20692) (n := 4260) rfl rfl (by decide)) hf_be)
          have hf_du : f76 du = .inl (cy 1, 5200, .inl G36) := (congrFun e_f76 du).trans (z_up_ne (z_tne hf_du hf_dr (m := 41700) (n := 4260) rfl rfl (by decide)) hf_du)
          have hf_fo : f76 fo = .inl (cy 1, 180, .inl gfo) := (congrFun e_f76 fo).trans (z_up_ne (z_tne hf_fo hf_dr (m := 1540) (n := 4260) rfl rfl (by decide)) hf_fo)
          have hf_dr : f76 dr = .inl (cy 1, 520, .inl (upd g71 w74.toNatClampNeg 0)) := (congrFun e_f76 dr).trans z_up_self
          have hfr : ∀ b ∈ L, b ≠ mm → b ≠ ro → b ≠ ct → b ≠ se → b ≠ th → b ≠ cn → b ≠ db → b ≠ be → b ≠ du → b ≠ dr → f76 b = f b := fun b hb h0 h1 h2 h3 h4 h5 h6 h7 h8 h9 => (congrFun e_f76 b).trans (z_up_ne h9 (hfr b hb h0 h1 h2 h3 h4 h5 h6 h7 h8 h9))
          obtain ⟨g75, e_g75⟩ : ∃ z, z = (upd g71 w74.toNatClampNeg 0) := ⟨_, rfl⟩
          rw [← e_g75] at hf_dr
          have hq_dr : ∀ j : Nat, q_drv j (g75 j) := z_updQ hq_dr e_g75 (show q_drv _ _ from z_drS5 (z_mod8 i_w74 (by omega)) (show 0 ≤ (0 : Int32).toInt ∧ (0 : Int32).toInt ≤ 99 by first | decide | omega))
          refine lv_aload_n hx hb dX10_split_138 rfl (lv_at hl 7 rfl) ?_
          refine lv_aload_n hx hb dX10_split_139 rfl (lv_at hl 7 rfl) ?_
          refine z_get (C := RX10) (T := TX10) (N := 54) (ci := 10) (v := .ref ha) hx hb hT zin_X10 hown hK hw hm_mm hf_mm rfl 17 (by decide) (hT _ kw_1185) rfl dX10_split_140 ?_
          refine lv_iconst (v := 3) hx hb dX10_split_143 (by decide) ?_
          refine z_iald hx hb hK hw 1 hm_ha hf_ha rfl (z_ix (show (3 : Int32).toInt = 3 by decide) (by decide)) dX10_split_144 ?_
          refine lv_topi (fun w77 e_w77 => ?_)
          have hv_w77 : 0 ≤ w77.toInt ∧ w77.toInt ≤ 12 := by rw [e_w77]; exact (hq_ha _).2.2.2 rfl
          have hgw_w77 : w77.toInt = (gha 3).toInt := by rw [e_w77]; rfl
          refine lv_aload_n hx hb dX10_split_145 rfl (lv_at hl 7 rfl) ?_
          refine lv_iload_n hx hb dX10_split_146 rfl (lv_at hl 8 rfl) ?_
          refine lv_iconst (v := 0) hx hb dX10_split_147 (by decide) ?_
          have hz78 := (show (0 : Int32).toInt = 0 by decide)
          refine z_calliV (cells := 0) (slots := 0) (b := mm) (As := [.int kk, .int 0]) (rest := [.int w77, .ref mm]) (ci := 10) (q0 := (RX10, TX10, 54)) ⟨hx, hb, hml, hown, hT⟩ (c_X10_of l hm_mm hm_dr hf_mm hf_dr hq_dr (by first | omega | decide | assumption) (by decide)) (cwV 2 hT (z_goodV (fun _ h => h) kw_1487 kw_1489 kw_51 kw_96 kw_1490) rfl rfl rfl (by decide +kernel) ⟨by decide, by decide⟩) z_mv hKK hK hw hA hm_mm hf_mm rfl rfl rfl hl.1 rfl (Nat.le_of_ble_eq_true rfl) dX10_split_148 ⟨by decide, by decide⟩ (fun r79 u H locs hp hw => ?_)
          obtain ⟨rfl, hp⟩ := hp
          have hw : z_H D vwCl (z_A L sz) s.heap L f76 H locs := hw
          have hof_r79 : r79 = g75 (8 * kk.toNatClampNeg + 0) := hp
          have hh_r79 : 0 ≤ r79.toInt ∧ r79.toInt ≤ 4 := by rw [hof_r79]; exact (hq_dr _).1 (by omega)
          refine z_callvV (cells := 0) (slots := 0) (b := mm) (As := [.int w77, .int r79]) (rest := []) (ci := 10) (q0 := (RX10, TX10, 54)) ⟨hx, hb, hml, hown, hT⟩ (c_X10_seeks l hm_mm hm_ha hm_dr hm_ro hm_lw hm_st hm_ct hm_se hm_th hm_cn hm_db hm_be hm_du hm_fo hf_mm hf_ha hf_dr hf_ro hf_lw hf_st hf_ct hf_se hf_th hf_cn hf_db hf_be hf_du hf_fo ne_se_th ne_se_cn ne_th_cn hq_ha hq_dr hq_ro hq_lw hq_st hq_ct hq_be hq_du (by first | omega | decide | assumption) (by omega) (by first | omega | decide | assumption) (by first | omega | decide | assumption) (by first | omega | decide | assumption) (by first | omega | decide | assumption) (by first | omega | decide | assumption)) (cwV 2 hT (z_goodV (fun _ h => h) kw_1628 kw_1630 kw_71 kw_96 kw_1631) rfl rfl rfl (by decide +kernel) ⟨by decide, by decide⟩) z_mv hKK hK hw hA hm_mm hf_mm rfl rfl rfl hl.1 rfl (Nat.le_of_ble_eq_true rfl) dX10_split_151 ⟨by decide, by decide⟩ (fun u H locs hp hw => ?_)
          obtain ⟨L80, f81⟩ := u
          obtain ⟨hsb, hfm, n2_82, d2_83, y2_84, bp2_85, bg2_86, bh2_87, x2_88, nro_89, nct_90, nse_91, nth_92, ncn_93, ndb_94, nbe_95, ndu_96, ndr_97, ha_0, ha_1, ha_2, ha_3, ha_4, ha_5, ha_6, ha_7, ha_8, ha_9, hq_ro, hq_ct, hq_be, hq_du, hq_dr, hp⟩ := hp
          have hsb : L = L80 := hsb
          subst hsb
          have hsb : ∀ b ∈ L, b ∈ L := fun _ h => h
          have hw : z_H D vwCl (z_A L sz) s.heap L f81 H locs := hw
          have hfr : ∀ b ∈ L, b ≠ mm → b ≠ ro → b ≠ ct → b ≠ se → b ≠ th → b ≠ cn → b ≠ db → b ≠ be → b ≠ du → b ≠ dr → f81 b = f b := fun b hb h0 h1 h2 h3 h4 h5 h6 h7 h8 h9 => (hfm b hb h0 h1 h2 h3 h4 h5 h6 h7 h8 h9).trans (hfr b hb h0 h1 h2 h3 h4 h5 h6 h7 h8 h9)
          have hf_ha : f81 ha = .inl (cy 1, 30, .inl gha) := (hfm ha hm_ha (z_tne hf_ha hf_mm (m := 340) (n := 10) rfl rfl (by decide)) (z_tne hf_ha hf_ro (m := 340) (n := 204) rfl rfl (by decide)) (z_tne hf_ha hf_ct (m := 340) (n := 132) rfl rfl (by decide)) (z_tne hf_ha hf_se (m := 340) (n := 388) rfl rfl (by decide)) (z_tne hf_ha hf_th (m := 340) (n := 388) rfl rfl (by decide)) (z_tne hf_ha hf_cn (m := 340) (n := 388) rfl rfl (by decide)) (z_tne hf_ha hf_db (m := 340) (n := 140) rfl rfl (by decide)) (z_tne hf_ha hf_be (m := 340) (n := 20692) rfl rfl (by decide)) (z_tne hf_ha hf_du (m := 340) (n := 41700) rfl rfl (by decide)) (z_tne hf_ha hf_dr (m := 340) (n := 4260) rfl rfl (by decide))).trans hf_ha
          have hf_lw : f81 lw = .inl (cy 1, 25, .inl glw) := (hfm lw hm_lw (z_tne hf_lw hf_mm (m := 300) (n := 10) rfl rfl (by decide)) (z_tne hf_lw hf_ro (m := 300) (n := 204) rfl rfl (by decide)) (z_tne hf_lw hf_ct (m := 300) (n := 132) rfl rfl (by decide)) (z_tne hf_lw hf_se (m := 300) (n := 388) rfl rfl (by decide)) (z_tne hf_lw hf_th (m := 300) (n := 388) rfl rfl (by decide)) (z_tne hf_lw hf_cn (m := 300) (n := 388) rfl rfl (by decide)) (z_tne hf_lw hf_db (m := 300) (n := 140) rfl rfl (by decide)) (z_tne hf_lw hf_be (m := 300) (n := 20692) rfl rfl (by decide)) (z_tne hf_lw hf_du (m := 300) (n := 41700) rfl rfl (by decide)) (z_tne hf_lw hf_dr (m := 300) (n := 4260) rfl rfl (by decide))).trans hf_lw
          have hf_st : f81 st = .inl (cy 1, 20, .inl gst) := (hfm st hm_st (z_tne hf_st hf_mm (m := 260) (n := 10) rfl rfl (by decide)) (z_tne hf_st hf_ro (m := 260) (n := 204) rfl rfl (by decide)) (z_tne hf_st hf_ct (m := 260) (n := 132) rfl rfl (by decide)) (z_tne hf_st hf_se (m := 260) (n := 388) rfl rfl (by decide)) (z_tne hf_st hf_th (m := 260) (n := 388) rfl rfl (by decide)) (z_tne hf_st hf_cn (m := 260) (n := 388) rfl rfl (by decide)) (z_tne hf_st hf_db (m := 260) (n := 140) rfl rfl (by decide)) (z_tne hf_st hf_be (m := 260) (n := 20692) rfl rfl (by decide)) (z_tne hf_st hf_du (m := 260) (n := 41700) rfl rfl (by decide)) (z_tne hf_st hf_dr (m := 260) (n := 4260) rfl rfl (by decide))).trans hf_st
          have hf_fo : f81 fo = .inl (cy 1, 180, .inl gfo) := (hfm fo hm_fo (z_tne hf_fo hf_mm (m := 1540) (n := 10) rfl rfl (by decide)) (z_tne hf_fo hf_ro (m := 1540) (n := 204) rfl rfl (by decide)) (z_tne hf_fo hf_ct (m := 1540) (n := 132) rfl rfl (by decide)) (z_tne hf_fo hf_se (m := 1540) (n := 388) rfl rfl (by decide)) (z_tne hf_fo hf_th (m := 1540) (n := 388) rfl rfl (by decide)) (z_tne hf_fo hf_cn (m := 1540) (n := 388) rfl rfl (by decide)) (z_tne hf_fo hf_db (m := 1540) (n := 140) rfl rfl (by decide)) (z_tne hf_fo hf_be (m := 1540) (n := 20692) rfl rfl (by decide)) (z_tne hf_fo hf_du (m := 1540) (n := 41700) rfl rfl (by decide)) (z_tne hf_fo hf_dr (m := 1540) (n := 4260) rfl rfl (by decide))).trans hf_fo
          have hf_mm : f81 mm = .inr (10, [.int 0, .ref wd, .ref my, .ref ce, .ref mv, .ref ta, .int m6, .int m7, .int m8, .int m9, .int m10, .long m11, .int m12, .int m13, .int m14, .int m15, .ref li, .ref ha, .ref lw, .ref st, .ref fo, .ref dr, .int m22, .ref ik, .int (-1), .int mn2_66, .long x2_88, .int 0, .int 1000, .ref ro, .int n2_82, .ref ct, .ref se, .ref th, .ref cn, .ref be, .int y2_84, .ref du, .int d2_83, .ref db, .int bp2_85, .int bg2_86, .int bh2_87, .ref pn, .ref wg, .ref wh, .ref tn, .ref he, .int m48, .ref tr, .ref fd, .ref po, .int m52, .int m53]) := ha_0
          have hf_ro : f81 ro = .inl (cy 1, 13, .inl nro_89) := ha_1
          have hf_ct : f81 ct = .inl (cy 1, 4, .inl nct_90) := ha_2
          have hf_se : f81 se = .inl (cy 1, 36, .inl nse_91) := ha_3
          have hf_th : f81 th = .inl (cy 1, 36, .inl nth_92) := ha_4
          have hf_cn : f81 cn = .inl (cy 1, 36, .inl ncn_93) := ha_5
          have hf_db : f81 db = .inl (cy 1, 5, .inl ndb_94) := ha_6
          have hf_be : f81 be = .inl (cy 1, 2574, .inl nbe_95) := ha_7
          have hf_du : f81 du = .inl (cy 1, 5200, .inl ndu_96) := ha_8
          have hf_dr : f81 dr = .inl (cy 1, 520, .inl ndr_97) := ha_9
          have hq98 := hp
          refine lv_iload hx hb dX10_split_154 (lv_at hl 4 rfl) ?_
          refine lv_iconst (v := (-1)) hx hb dX10_split_156 (by decide) ?_
          refine z_icmp_eq (tgt := 172) hx hb rfl (show ((-1) : Int32).toInt = (-1) by decide) dX10_split_157 (by decide) (fun c99 => ?_) (fun c99 => ?_)
          · skip
            refine lv_aload_n hx hb dX10_split_172 rfl (lv_at hl 7 rfl) ?_
            refine z_get (C := RX10) (T := TX10) (N := 54) (ci := 10) (v := .int bp2_85) hx hb hT zin_X10 hown hK hw hm_mm hf_mm rfl 40 (by decide) (hT _ kw_1208) rfl dX10_split_173 ?_
            refine lv_istore (lv' := [(5, .int bp2_85), (9, .int K18), (8, .int V40), (7, .int V39), (6, .int V38), (4, .int r12), (3, .int r10), (0, .ref mm), (1, .int kk), (2, .int wt)]) hx hb dX10_split_176 hl (by decide) rfl (fun ls hl => ?_)
            refine lv_iload hx hb dX10_split_178 (lv_at hl 1 rfl) ?_
            refine lv_istore (lv' := [(6, .int K18), (5, .int bp2_85), (9, .int K18), (8, .int V40), (7, .int V39), (4, .int r12), (3, .int r10), (0, .ref mm), (1, .int kk), (2, .int wt)]) hx hb dX10_split_180 hl (by decide) rfl (fun ls hl => ?_)
            refine lv_aload_n hx hb dX10_split_182 rfl (lv_at hl 7 rfl) ?_
            refine z_get (C := RX10) (T := TX10) (N := 54) (ci := 10) (v := .int bg2_86) hx hb hT zin_X10 hown hK hw hm_mm hf_mm rfl 41 (by decide) (hT _ kw_1209) rfl dX10_split_183 ?_
            refine lv_istore (lv' := [(7, .int bg2_86), (6, .int K18), (5, .int bp2_85), (9, .int K18), (8, .int V40), (4, .int r12), (3, .int r10), (0, .ref mm), (1, .int kk), (2, .int wt)]) hx hb dX10_split_186 hl (by decide) rfl (fun ls hl => ?_)
            refine lv_aload_n hx hb dX10_split_188 rfl (lv_at hl 7 rfl) ?_
            refine z_get (C := RX10) (T := TX10) (N := 54) (ci := 10) (v := .int bh2_87) hx hb hT zin_X10 hown hK hw hm_mm hf_mm rfl 42 (by decide) (hT _ kw_1210) rfl dX10_split_189 ?_
            refine lv_istore (lv' := [(8, .int bh2_87), (7, .int bg2_86), (6, .int K18), (5, .int bp2_85), (9, .int K18), (4, .int r12), (3, .int r10), (0, .ref mm), (1, .int kk), (2, .int wt)]) hx hb dX10_split_192 hl (by decide) rfl (fun ls hl => ?_)
            obtain ⟨k100, e_k100⟩ : ∃ z : Int32, z = K18 + 1 := ⟨_, rfl⟩
            refine lv_iinc (v := k100) (lv' := [(9, .int k100), (8, .int bh2_87), (7, .int bg2_86), (6, .int K18), (5, .int bp2_85), (4, .int r12), (3, .int r10), (0, .ref mm), (1, .int kk), (2, .int wt)]) hx hb dX10_split_194 hl (k := 4) rfl (by rw [e_k100]; rfl) (by decide) rfl (fun ls hl => ?_)
            have i_k100 : k100.toInt = (K18.toInt + 1) := z_add e_k100 rfl (by decide) (by omega)
            refine lv_goto (tgt := 69) hx hb dX10_split_197 (by decide) ?_
            exact ih_69 _ (by omega) _ _ _ ⟨k100, nro_89, nct_90, nse_91, nth_92, ncn_93, ndb_94, nbe_95, ndu_96, ndr_97, n2_82, d2_83, y2_84, x2_88, bp2_85, bg2_86, bh2_87, mn2_66, bp2_85, K18, bg2_86, bh2_87, f81, rfl, (by first | decide | omega), (by first | decide | omega), (by omega), (by omega), (by omega), (by omega), hw, hf_mm, hf_ha, hf_dr, hf_ro, hf_lw, hf_st, hf_ct, hf_se, hf_th, hf_cn, hf_db, hf_be, hf_du, hf_fo, hfr, hq_ro, hq_ct, hq_be, hq_du, hq_dr, (lv_sub hl [0, 1, 2, 3, 4, 5, 6, 7, 8, 9] rfl)⟩
          · skip
            refine lv_aload_n hx hb dX10_split_160 rfl (lv_at hl 7 rfl) ?_
            refine z_get (C := RX10) (T := TX10) (N := 54) (ci := 10) (v := .int bp2_85) hx hb hT zin_X10 hown hK hw hm_mm hf_mm rfl 40 (by decide) (hT _ kw_1208) rfl dX10_split_161 ?_
            refine lv_iload hx hb dX10_split_164 (lv_at hl 4 rfl) ?_
            refine z_icmp_lt (tgt := 172) hx hb rfl rfl dX10_split_166 (by decide) (fun c101 => ?_) (fun c101 => ?_)
            · skip
              refine lv_aload_n hx hb dX10_split_172 rfl (lv_at hl 7 rfl) ?_
              refine z_get (C := RX10) (T := TX10) (N := 54) (ci := 10) (v := .int bp2_85) hx hb hT zin_X10 hown hK hw hm_mm hf_mm rfl 40 (by decide) (hT _ kw_1208) rfl dX10_split_173 ?_
              refine lv_istore (lv' := [(5, .int bp2_85), (9, .int K18), (8, .int V40), (7, .int V39), (6, .int V38), (4, .int r12), (3, .int r10), (0, .ref mm), (1, .int kk), (2, .int wt)]) hx hb dX10_split_176 hl (by decide) rfl (fun ls hl => ?_)
              refine lv_iload hx hb dX10_split_178 (lv_at hl 1 rfl) ?_
              refine lv_istore (lv' := [(6, .int K18), (5, .int bp2_85), (9, .int K18), (8, .int V40), (7, .int V39), (4, .int r12), (3, .int r10), (0, .ref mm), (1, .int kk), (2, .int wt)]) hx hb dX10_split_180 hl (by decide) rfl (fun ls hl => ?_)
              refine lv_aload_n hx hb dX10_split_182 rfl (lv_at hl 7 rfl) ?_
              refine z_get (C := RX10) (T := TX10) (N := 54) (ci := 10) (v := .int bg2_86) hx hb hT zin_X10 hown hK hw hm_mm hf_mm rfl 41 (by decide) (hT _ kw_1209) rfl dX10_split_183 ?_
              refine lv_istore (lv' := [(7, .int bg2_86), (6, .int K18), (5, .int bp2_85), (9, .int K18), (8, .int V40), (4, .int r12), (3, .int r10), (0, .ref mm), (1, .int kk), (2, .int wt)]) hx hb dX10_split_186 hl (by decide) rfl (fun ls hl => ?_)
              refine lv_aload_n hx hb dX10_split_188 rfl (lv_at hl 7 rfl) ?_
              refine z_get (C := RX10) (T := TX10) (N := 54) (ci := 10) (v := .int bh2_87) hx hb hT zin_X10 hown hK hw hm_mm hf_mm rfl 42 (by decide) (hT _ kw_1210) rfl dX10_split_189 ?_
              refine lv_istore (lv' := [(8, .int bh2_87), (7, .int bg2_86), (6, .int K18), (5, .int bp2_85), (9, .int K18), (4, .int r12), (3, .int r10), (0, .ref mm), (1, .int kk), (2, .int wt)]) hx hb dX10_split_192 hl (by decide) rfl (fun ls hl => ?_)
              obtain ⟨k102, e_k102⟩ : ∃ z : Int32, z = K18 + 1 := ⟨_, rfl⟩
              refine lv_iinc (v := k102) (lv' := [(9, .int k102), (8, .int bh2_87), (7, .int bg2_86), (6, .int K18), (5, .int bp2_85), (4, .int r12), (3, .int r10), (0, .ref mm), (1, .int kk), (2, .int wt)]) hx hb dX10_split_194 hl (k := 4) rfl (by rw [e_k102]; rfl) (by decide) rfl (fun ls hl => ?_)
              have i_k102 : k102.toInt = (K18.toInt + 1) := z_add e_k102 rfl (by decide) (by omega)
              refine lv_goto (tgt := 69) hx hb dX10_split_197 (by decide) ?_
              exact ih_69 _ (by omega) _ _ _ ⟨k102, nro_89, nct_90, nse_91, nth_92, ncn_93, ndb_94, nbe_95, ndu_96, ndr_97, n2_82, d2_83, y2_84, x2_88, bp2_85, bg2_86, bh2_87, mn2_66, bp2_85, K18, bg2_86, bh2_87, f81, rfl, (by first | decide | omega), (by first | decide | omega), (by omega), (by omega), (by omega), (by omega), hw, hf_mm, hf_ha, hf_dr, hf_ro, hf_lw, hf_st, hf_ct, hf_se, hf_th, hf_cn, hf_db, hf_be, hf_du, hf_fo, hfr, hq_ro, hq_ct, hq_be, hq_du, hq_dr, (lv_sub hl [0, 1, 2, 3, 4, 5, 6, 7, 8, 9] rfl)⟩
            · skip
              refine lv_goto (tgt := 194) hx hb dX10_split_169 (by decide) ?_
              obtain ⟨k103, e_k103⟩ : ∃ z : Int32, z = K18 + 1 := ⟨_, rfl⟩
              refine lv_iinc (v := k103) (lv' := [(9, .int k103), (8, .int V40), (7, .int V39), (6, .int V38), (5, .int V37), (4, .int r12), (3, .int r10), (0, .ref mm), (1, .int kk), (2, .int wt)]) hx hb dX10_split_194 hl (k := 0) rfl (by rw [e_k103]; rfl) (by decide) rfl (fun ls hl => ?_)
              have i_k103 : k103.toInt = (K18.toInt + 1) := z_add e_k103 rfl (by decide) (by omega)
              refine lv_goto (tgt := 69) hx hb dX10_split_197 (by decide) ?_
              exact ih_69 _ (by omega) _ _ _ ⟨k103, nro_89, nct_90, nse_91, nth_92, ncn_93, ndb_94, nbe_95, ndu_96, ndr_97, n2_82, d2_83, y2_84, x2_88, bp2_85, bg2_86, bh2_87, mn2_66, V37, V38, V39, V40, f81, rfl, (by first | decide | omega), (by first | decide | omega), (by omega), (by omega), (by omega), (by omega), hw, hf_mm, hf_ha, hf_dr, hf_ro, hf_lw, hf_st, hf_ct, hf_se, hf_th, hf_cn, hf_db, hf_be, hf_du, hf_fo, hfr, hq_ro, hq_ct, hq_be, hq_du, hq_dr, (lv_sub hl [0, 1, 2, 3, 4, 5, 6, 7, 8, 9] rfl)⟩
      · skip
        refine lv_iconst (v := (-1)) hx hb dX10_split_48 (by decide) ?_
        exact z_iret hx hb hr hlk (by decide) (by decide) hw (⟨hsub, hfr, m24, m25, m27, m28, m30, m38, m36, m40, m41, m42, m26, gro, gct, gse, gth, gcn, gdb, gbe, gdu, gdr, hf_mm, hf_ro, hf_ct, hf_se, hf_th, hf_cn, hf_db, hf_be, hf_du, hf_dr, hq_ro, hq_ct, hq_be, hq_du, hq_dr, by omega, by omega, by omega⟩) dX10_split_49
    · skip
      refine z_if_ne (tgt := 28) hx hb (show (0 : Int32).toInt = 0 by decide) dX10_split_22 (by decide) (fun h => absurd h (by decide)) (fun _ => ?_)
      refine lv_bipush (v := (-2)) hx hb dX10_split_25 (by decide) ?_
      exact z_iret hx hb hr hlk (by decide) (by decide) hw (⟨hsub, hfr, m24, m25, m27, m28, m30, m38, m36, m40, m41, m42, m26, gro, gct, gse, gth, gcn, gdb, gbe, gdu, gdr, hf_mm, hf_ro, hf_ct, hf_se, hf_th, hf_cn, hf_db, hf_be, hf_du, hf_dr, hq_ro, hq_ct, hq_be, hq_du, hq_dr, by omega, by omega, by omega⟩) dX10_split_27
  · skip
    refine z_if_eq (tgt := 25) hx hb (show (0 : Int32).toInt = 0 by decide) dX10_split_10 (by decide) (fun _ => ?_) (fun h => absurd h (by decide))
    refine lv_bipush (v := (-2)) hx hb dX10_split_25 (by decide) ?_
    exact z_iret hx hb hr hlk (by decide) (by decide) hw (⟨hsub, hfr, m24, m25, m27, m28, m30, m38, m36, m40, m41, m42, m26, gro, gct, gse, gth, gcn, gdb, gbe, gdu, gdr, hf_mm, hf_ro, hf_ct, hf_se, hf_th, hf_cn, hf_db, hf_be, hf_du, hf_dr, hq_ro, hq_ct, hq_be, hq_du, hq_dr, by omega, by omega, by omega⟩) dX10_split_27

set_option maxHeartbeats 2000000 in
set_option maxRecDepth 100000 in
theorem c_X10_restless (l : Launch) {D : va_G} {cy : Nat → ClassId} {L : List Nat} {f : Nat → va_E} {sz : Nat} {adK adV : Nat → Nat} {mm wd my ce mv ta li ha lw st fo dr ik ro ct se th cn be du db pn wg wh tn he tr fd po : Nat} {m0 m6 m7 m8 m9 m10 m12 m13 m14 m15 m22 m24 m25 m27 m28 m30 m36 m38 m40 m41 m42 m48 m52 m53 : Int32} {m11 m26 : Int64} {gha glw gst gfo gdr gro gct gse gth gcn gbe gdu gdb gpn : Nat → Int32}  (hm_mm : mm ∈ L) (hm_ha : ha ∈ L) (hm_dr : dr ∈ L) (hm_ro : ro ∈ L) (hm_lw : lw ∈ L) (hm_st : st ∈ L) (hm_ct : ct ∈ L) (hm_se : se ∈ L) (hm_th : th ∈ L) (hm_cn : cn ∈ L) (hm_db : db ∈ L) (hm_be : be ∈ L) (hm_du : du ∈ L) (hm_fo : fo ∈ L) (hm_pn : pn ∈ L) (hf_mm : f mm = .inr (10, [.int m0, .ref wd, .ref my, .ref ce, .ref mv, .ref ta, .int m6, .int m7, .int m8, .int m9, .int m10, .long m11, .int m12, .int m13, .int m14, .int m15, .ref li, .ref ha, .ref lw, .ref st, .ref fo, .ref dr, .int m22, .ref ik, .int m24, .int m25, .long m26, .int m27, .int m28, .ref ro, .int m30, .ref ct, .ref se, .ref th, .ref cn, .ref be, .int m36, .ref du, .int m38, .ref db, .int m40, .int m41, .int m42, .ref pn, .ref wg, .ref wh, .ref tn, .ref he, .int m48, .ref tr, .ref fd, .ref po, .int m52, .int m53])) (hf_ha : f ha = .inl (cy 1, 30, .inl gha)) (hf_dr : f dr = .inl (cy 1, 520, .inl gdr)) (hf_ro : f ro = .inl (cy 1, 13, .inl gro)) (hf_lw : f lw = .inl (cy 1, 25, .inl glw)) (hf_st : f st = .inl (cy 1, 20, .inl gst)) (hf_ct : f ct = .inl (cy 1, 4, .inl gct)) (hf_se : f se = .inl (cy 1, 36, .inl gse)) (hf_th : f th = .inl (cy 1, 36, .inl gth)) (hf_cn : f cn = .inl (cy 1, 36, .inl gcn)) (hf_db : f db = .inl (cy 1, 5, .inl gdb)) (hf_be : f be = .inl (cy 1, 2574, .inl gbe)) (hf_du : f du = .inl (cy 1, 5200, .inl gdu)) (hf_fo : f fo = .inl (cy 1, 180, .inl gfo)) (hf_pn : f pn = .inl (cy 1, 5, .inl gpn)) (ne_se_th : se ≠ th) (ne_se_cn : se ≠ cn) (ne_th_cn : th ≠ cn) (ne_db_pn : db ≠ pn) (hq_ha : ∀ j : Nat, q_has j (gha j)) (hq_dr : ∀ j : Nat, q_drv j (gdr j)) (hq_ro : ∀ j : Nat, q_12 j (gro j)) (hq_lw : ∀ j : Nat, q_law j (glw j)) (hq_st : ∀ j : Nat, q_law j (gst j)) (hq_ct : ∀ j : Nat, q_law j (gct j)) (hq_be : ∀ j : Nat, q_be j (gbe j)) (hq_du : ∀ j : Nat, q_du j (gdu j)) (hxx : 0 ≤ m26.toInt ∧ m26.toInt < 2147483648) (hea : ∀ m : Nat, m < 5 → z_ea gha glw m) (hbg : 0 ≤ m41.toInt ∧ m41.toInt ≤ 3) (hbh : 0 ≤ m42.toInt ∧ m42.toInt ≤ 23) : Met l yX10_restless (z_ws yX10_restless cX10_restless 2 (some .int)) (z_R 7 0 0) (va_Pc [.ref mm] (z_Pre D vwCl (z_KK D cy adK adV) L f sz)) (z_Qi D vwCl (fun r u => L = u.1 ∧ (∀ b ∈ L, b ≠ mm → b ≠ ro → b ≠ ct → b ≠ se → b ≠ th → b ≠ cn → b ≠ db → b ≠ be → b ≠ du → b ≠ dr → b ≠ pn → u.2 b = f b) ∧ (∃ (mn2 n2 d2 y2 bp2 bg2 bh2 : Int32) (x2 : Int64) (nro nct nse nth ncn ndb nbe ndu ndr npn : Nat → Int32), (u.2 mm = .inr (10, [.int m0, .ref wd, .ref my, .ref ce, .ref mv, .ref ta, .int m6, .int m7, .int m8, .int m9, .int m10, .long m11, .int m12, .int m13, .int m14, .int m15, .ref li, .ref ha, .ref lw, .ref st, .ref fo, .ref dr, .int m22, .ref ik, .int (-1), .int mn2, .long x2, .int 0, .int 1000, .ref ro, .int n2, .ref ct, .ref se, .ref th, .ref cn, .ref be, .int y2, .ref du, .int d2, .ref db, .int bp2, .int bg2, .int bh2, .ref pn, .ref wg, .ref wh, .ref tn, .ref he, .int m48, .ref tr, .ref fd, .ref po, .int m52, .int m53])) ∧ (u.2 ro = .inl (cy 1, 13, .inl nro)) ∧ (u.2 ct = .inl (cy 1, 4, .inl nct)) ∧ (u.2 se = .inl (cy 1, 36, .inl nse)) ∧ (u.2 th = .inl (cy 1, 36, .inl nth)) ∧ (u.2 cn = .inl (cy 1, 36, .inl ncn)) ∧ (u.2 db = .inl (cy 1, 5, .inl ndb)) ∧ (u.2 be = .inl (cy 1, 2574, .inl nbe)) ∧ (u.2 du = .inl (cy 1, 5200, .inl ndu)) ∧ (u.2 dr = .inl (cy 1, 520, .inl ndr)) ∧ (u.2 pn = .inl (cy 1, 5, .inl npn)) ∧ (∀ j : Nat, q_12 j (nro j)) ∧ (∀ j : Nat, q_law j (nct j)) ∧ (∀ j : Nat, q_be j (nbe j)) ∧ (∀ j : Nat, q_du j (ndu j)) ∧ (∀ j : Nat, q_drv j (ndr j)) ∧ ((0 ≤ x2.toInt ∧ x2.toInt < 2147483648) ∧ (0 ≤ bg2.toInt ∧ bg2.toInt ≤ 3) ∧ (0 ≤ bh2.toInt ∧ bh2.toInt ≤ 23) ∧ (r.toInt = -1 ∨ (0 ≤ r.toInt ∧ r.toInt ≤ 12))))) L sz) 0 0 (z_A L sz) := by
  refine z_met (cc := cX10_restless) (maxL := 2) (ret := (some .int)) (lv := [(0, .ref mm)]) (by decide) rfl (Nat.le_of_ble_eq_true rfl) rfl ?_
  intro p e s m below meth c ls hx hb hr hlk hml hown hnm hts hKK hA hw hl
  have hK := hKK.1.1
  have hown : s.vm.findClass RX10 = some m.cls := hown
  have hT : ∀ w ∈ lw_all, w.before ([.ref mm] : List Value).toArray s = true := fun w h => hts w (z_cons w h)
  have hsub : L = L := rfl
  have hfr : ∀ b ∈ L, b ≠ mm → b ≠ ro → b ≠ ct → b ≠ se → b ≠ th → b ≠ cn → b ≠ db → b ≠ be → b ≠ du → b ≠ dr → b ≠ pn → f b = f b := fun _ _ _ _ _ _ _ _ _ _ _ _ _ => rfl
  have hh0 := (hq_ha 0).1 rfl
  have hh1 := (hq_ha 1).2.1 rfl
  have hh2 := (hq_ha 2).2.2.1 rfl
  have hh3 := (hq_ha 3).2.2.2 rfl
  have hea0 : 2 ≤ (glw 3).toInt ∨ ((gha 3).toInt = 0 ∧ (gha 0).toInt = 0) := hea 0 (by decide)
  have hz_m1 : (-1 : Int32).toInt = -1 := by decide
  refine lv_aload_n hx hb dX10_restless_0 rfl (lv_at hl 0 rfl) ?_
  refine z_callvV (cells := 0) (slots := 0) (b := mm) (As := []) (rest := []) (ci := 10) (q0 := (RX10, TX10, 54)) ⟨hx, hb, hml, hown, hT⟩ (c_X10_plainly l hm_mm hm_ha hf_mm hf_ha hq_ha) (cwV 0 hT (z_goodV (fun _ h => h) kw_1539 kw_1541 kw_58 kw_96 kw_1542) rfl rfl rfl (by decide +kernel) ⟨by decide, by decide⟩) z_mv hKK hK hw hA hm_mm hf_mm rfl rfl rfl hl.1 rfl (Nat.le_of_ble_eq_true rfl) dX10_restless_1 ⟨by decide, by decide⟩ (fun u H locs hp hw => ?_)
  obtain ⟨L1, f2⟩ := u
  obtain ⟨hsb, hfm, mn2_3, ha_0, hp⟩ := hp
  have hsb : L = L1 := hsb
  subst hsb
  have hsb : ∀ b ∈ L, b ∈ L := fun _ h => h
  have hw : z_H D vwCl (z_A L sz) s.heap L f2 H locs := hw
  have hfr : ∀ b ∈ L, b ≠ mm → b ≠ ro → b ≠ ct → b ≠ se → b ≠ th → b ≠ cn → b ≠ db → b ≠ be → b ≠ du → b ≠ dr → b ≠ pn → f2 b = f b := fun b hb h0 h1 h2 h3 h4 h5 h6 h7 h8 h9 h10 => (hfm b hb h0).trans (hfr b hb h0 h1 h2 h3 h4 h5 h6 h7 h8 h9 h10)
  have hf_ha : f2 ha = .inl (cy 1, 30, .inl gha) := (hfm ha hm_ha (z_tne hf_ha hf_mm (m := 340) (n := 10) rfl rfl (by decide))).trans hf_ha
  have hf_dr : f2 dr = .inl (cy 1, 520, .inl gdr) := (hfm dr hm_dr (z_tne hf_dr hf_mm (m := 4260) (n := 10) rfl rfl (by decide))).trans hf_dr
  have hf_ro : f2 ro = .inl (cy 1, 13, .inl gro) := (hfm ro hm_ro (z_tne hf_ro hf_mm (m := 204) (n := 10) rfl rfl (by decide))).trans hf_ro
  have hf_lw : f2 lw = .inl (cy 1, 25, .inl glw) := (hfm lw hm_lw (z_tne hf_lw hf_mm (m := 300) (n := 10) rfl rfl (by decide))).trans hf_lw
  have hf_st : f2 st = .inl (cy 1, 20, .inl gst) := (hfm st hm_st (z_tne hf_st hf_mm (m := 260) (n := 10) rfl rfl (by decide))).trans hf_st
  have hf_ct : f2 ct = .inl (cy 1, 4, .inl gct) := (hfm ct hm_ct (z_tne hf_ct hf_mm (m := 132) (n := 10) rfl rfl (by decide))).trans hf_ct
  have hf_se : f2 se = .inl (cy 1, 36, .inl gse) := (hfm se hm_se (z_tne hf_se hf_mm (m := 388) (n := 10) rfl rfl (by decide))).trans hf_se
  have hf_th : f2 th = .inl (cy 1, 36, .inl gth) := (hfm th hm_th (z_tne hf_th hf_mm (m := 388) (n := 10) rfl rfl (by decide))).trans hf_th
  have hf_cn : f2 cn = .inl (cy 1, 36, .inl gcn) := (hfm cn hm_cn (z_tne hf_cn hf_mm (m := 388) (n := 10) rfl rfl (by decide))).trans hf_cn
  have hf_db : f2 db = .inl (cy 1, 5, .inl gdb) := (hfm db hm_db (z_tne hf_db hf_mm (m := 140) (n := 10) rfl rfl (by decide))).trans hf_db
  have hf_be : f2 be = .inl (cy 1, 2574, .inl gbe) := (hfm be hm_be (z_tne hf_be hf_mm (m := 20692) (n := 10) rfl rfl (by decide))).trans hf_be
  have hf_du : f2 du = .inl (cy 1, 5200, .inl gdu) := (hfm du hm_du (z_tne hf_du hf_mm (m := 41700) (n := 10) rfl rfl (by decide))).trans hf_du
  have hf_fo : f2 fo = .inl (cy 1, 180, .inl gfo) := (hfm fo hm_fo (z_tne hf_fo hf_mm (m := 1540) (n := 10) rfl rfl (by decide))).trans hf_fo
  have hf_pn : f2 pn = .inl (cy 1, 5, .inl gpn) := (hfm pn hm_pn (z_tne hf_pn hf_mm (m := 140) (n := 10) rfl rfl (by decide))).trans hf_pn
  have hf_mm : f2 mm = .inr (10, [.int m0, .ref wd, .ref my, .ref ce, .ref mv, .ref ta, .int m6, .int m7, .int m8, .int m9, .int m10, .long m11, .int m12, .int m13, .int m14, .int m15, .ref li, .ref ha, .ref lw, .ref st, .ref fo, .ref dr, .int m22, .ref ik, .int (-1), .int mn2_3, .long m26, .int 0, .int 1000, .ref ro, .int m30, .ref ct, .ref se, .ref th, .ref cn, .ref be, .int m36, .ref du, .int m38, .ref db, .int m40, .int m41, .int m42, .ref pn, .ref wg, .ref wh, .ref tn, .ref he, .int m48, .ref tr, .ref fd, .ref po, .int m52, .int m53]) := ha_0
  have hq4 := hp
  refine lv_aload_n hx hb dX10_restless_4 rfl (lv_at hl 0 rfl) ?_
  refine z_callvV (cells := 0) (slots := 0) (b := mm) (As := []) (rest := []) (ci := 10) (q0 := (RX10, TX10, 54)) ⟨hx, hb, hml, hown, hT⟩ (c_X10_goes_ l hm_mm hm_ha hm_dr hm_ro hm_lw hm_st hm_ct hm_se hm_th hm_cn hm_db hm_be hm_du hm_fo hf_mm hf_ha hf_dr hf_ro hf_lw hf_st hf_ct hf_se hf_th hf_cn hf_db hf_be hf_du hf_fo ne_se_th ne_se_cn ne_th_cn hq_ha hq_dr hq_ro hq_lw hq_st hq_ct hq_be hq_du (by first | omega | decide | assumption) (by omega) (by first | omega | decide | assumption)) (cwV 0 hT (z_goodV (fun _ h => h) kw_1543 kw_1545 kw_59 kw_96 kw_1546) rfl rfl rfl (by decide +kernel) ⟨by decide, by decide⟩) z_mv hKK hK hw hA hm_mm hf_mm rfl rfl rfl hl.1 rfl (Nat.le_of_ble_eq_true rfl) dX10_restless_5 ⟨by decide, by decide⟩ (fun u H locs hp hw => ?_)
  obtain ⟨L5, f6⟩ := u
  obtain ⟨hsb, hfm, n2_7, d2_8, y2_9, x2_10, nro_11, nct_12, nse_13, nth_14, ncn_15, ndb_16, nbe_17, ndu_18, ha_0, ha_1, ha_2, ha_3, ha_4, ha_5, ha_6, ha_7, ha_8, hq_ro, hq_ct, hq_be, hq_du, hp⟩ := hp
  have hsb : L = L5 := hsb
  subst hsb
  have hsb : ∀ b ∈ L, b ∈ L := fun _ h => h
  have hw : z_H D vwCl (z_A L sz) s.heap L f6 H locs := hw
  have hfr : ∀ b ∈ L, b ≠ mm → b ≠ ro → b ≠ ct → b ≠ se → b ≠ th → b ≠ cn → b ≠ db → b ≠ be → b ≠ du → b ≠ dr → b ≠ pn → f6 b = f b := fun b hb h0 h1 h2 h3 h4 h5 h6 h7 h8 h9 h10 => (hfm b hb h0 h1 h2 h3 h4 h5 h6 h7 h8).trans (hfr b hb h0 h1 h2 h3 h4 h5 h6 h7 h8 h9 h10)
  have hf_ha : f6 ha = .inl (cy 1, 30, .inl gha) := (hfm ha hm_ha (z_tne hf_ha hf_mm (m := 340) (n := 10) rfl rfl (by decide)) (z_tne hf_ha hf_ro (m := 340) (n := 204) rfl rfl (by decide)) (z_tne hf_ha hf_ct (m := 340) (n := 132) rfl rfl (by decide)) (z_tne hf_ha hf_se (m := 340) (n := 388) rfl rfl (by decide)) (z_tne hf_ha hf_th (m := 340) (n := 388) rfl rfl (by decide)) (z_tne hf_ha hf_cn (m := 340) (n := 388) rfl rfl (by decide)) (z_tne hf_ha hf_db (m := 340) (n := 140) rfl rfl (by decide)) (z_tne hf_ha hf_be (m := 340) (n := 20692) rfl rfl (by decide)) (z_tne hf_ha hf_du (m := 340) (n := 41700) rfl rfl (by decide))).trans hf_ha
  have hf_dr : f6 dr = .inl (cy 1, 520, .inl gdr) := (hfm dr hm_dr (z_tne hf_dr hf_mm (m := 4260) (n := 10) rfl rfl (by decide)) (z_tne hf_dr hf_ro (m := 4260) (n := 204) rfl rfl (by decide)) (z_tne hf_dr hf_ct (m := 4260) (n := 132) rfl rfl (by decide)) (z_tne hf_dr hf_se (m := 4260) (n := 388) rfl rfl (by decide)) (z_tne hf_dr hf_th (m := 4260) (n := 388) rfl rfl (by decide)) (z_tne hf_dr hf_cn (m := 4260) (n := 388) rfl rfl (by decide)) (z_tne hf_dr hf_db (m := 4260) (n := 140) rfl rfl (by decide)) (z_tne hf_dr hf_be (m := 4260) (n := 20692) rfl rfl (by decide)) (z_tne hf_dr hf_du (m := 4260) (n := 41700) rfl rfl (by decide))).trans hf_dr
  have hf_lw : f6 lw = .inl (cy 1, 25, .inl glw) := (hfm lw hm_lw (z_tne hf_lw hf_mm (m := 300) (n := 10) rfl rfl (by decide)) (z_tne hf_lw hf_ro (m := 300) (n := 204) rfl rfl (by decide)) (z_tne hf_lw hf_ct (m := 300) (n := 132) rfl rfl (by decide)) (z_tne hf_lw hf_se (m := 300) (n := 388) rfl rfl (by decide)) (z_tne hf_lw hf_th (m := 300) (n := 388) rfl rfl (by decide)) (z_tne hf_lw hf_cn (m := 300) (n := 388) rfl rfl (by decide)) (z_tne hf_lw hf_db (m := 300) (n := 140) rfl rfl (by decide)) (z_tne hf_lw hf_be (m := 300) (n := 20692) rfl rfl (by decide)) (z_tne hf_lw hf_du (m := 300) (n := 41700) rfl rfl (by decide))).trans hf_lw
  have hf_st : f6 st = .inl (cy 1, 20, .inl gst) := (hfm st hm_st (z_tne hf_st hf_mm (m := 260) (n := 10) rfl rfl (by decide)) (z_tne hf_st hf_ro (m := 260) (n := 204) rfl rfl (by decide)) (z_tne hf_st hf_ct (m := 260) (n := 132) rfl rfl (by decide)) (z_tne hf_st hf_se (m := 260) (n := 388) rfl rfl (by decide)) (z_tne hf_st hf_th (m := 260) (n := 388) rfl rfl (by decide)) (z_tne hf_st hf_cn (m := 260) (n := 388) rfl rfl (by decide)) (z_tne hf_st hf_db (m := 260) (n := 140) rfl rfl (by decide)) (z_tne hf_st hf_be (m := 260) (n := 20692) rfl rfl (by decide)) (z_tne hf_st hf_du (m := 260) (n := 41700) rfl rfl (by decide))).trans hf_st
  have hf_fo : f6 fo = .inl (cy 1, 180, .inl gfo) := (hfm fo hm_fo (z_tne hf_fo hf_mm (m := 1540) (n := 10) rfl rfl (by decide)) (z_tne hf_fo hf_ro (m := 1540) (n := 204) rfl rfl (by decide)) (z_tne hf_fo hf_ct (m := 1540) (n := 132) rfl rfl (by decide)) (z_tne hf_fo hf_se (m := 1540) (n := 388) rfl rfl (by decide)) (z_tne hf_fo hf_th (m := 1540) (n := 388) rfl rfl (by decide)) (z_tne hf_fo hf_cn (m := 1540) (n := 388) rfl rfl (by decide)) (z_tne hf_fo hf_db (m := 1540) (n := 140) rfl rfl (by decide)) (z_tne hf_fo hf_be (m := 1540) (n := 20692) rfl rfl (by decide)) (z_tne hf_fo hf_du (m := 1540) (n := 41700) rfl rfl (by decide))).trans hf_fo
  have hf_pn : f6 pn = .inl (cy 1, 5, .inl gpn) := (hfm pn hm_pn (z_tne hf_pn hf_mm (m := 140) (n := 10) rfl rfl (by decide)) (z_tne hf_pn hf_ro (m := 140) (n := 204) rfl rfl (by decide)) (z_tne hf_pn hf_ct (m := 140) (n := 132) rfl rfl (by decide)) (z_tne hf_pn hf_se (m := 140) (n := 388) rfl rfl (by decide)) (z_tne hf_pn hf_th (m := 140) (n := 388) rfl rfl (by decide)) (z_tne hf_pn hf_cn (m := 140) (n := 388) rfl rfl (by decide)) (Ne.symm ne_db_pn) (z_tne hf_pn hf_be (m := 140) (n := 20692) rfl rfl (by decide)) (z_tne hf_pn hf_du (m := 140) (n := 41700) rfl rfl (by decide))).trans hf_pn
  have hf_mm : f6 mm = .inr (10, [.int m0, .ref wd, .ref my, .ref ce, .ref mv, .ref ta, .int m6, .int m7, .int m8, .int m9, .int m10, .long m11, .int m12, .int m13, .int m14, .int m15, .ref li, .ref ha, .ref lw, .ref st, .ref fo, .ref dr, .int m22, .ref ik, .int (-1), .int mn2_3, .long x2_10, .int 0, .int 1000, .ref ro, .int n2_7, .ref ct, .ref se, .ref th, .ref cn, .ref be, .int y2_9, .ref du, .int d2_8, .ref db, .int m40, .int m41, .int m42, .ref pn, .ref wg, .ref wh, .ref tn, .ref he, .int m48, .ref tr, .ref fd, .ref po, .int m52, .int m53]) := ha_0
  have hf_ro : f6 ro = .inl (cy 1, 13, .inl nro_11) := ha_1
  have hf_ct : f6 ct = .inl (cy 1, 4, .inl nct_12) := ha_2
  have hf_se : f6 se = .inl (cy 1, 36, .inl nse_13) := ha_3
  have hf_th : f6 th = .inl (cy 1, 36, .inl nth_14) := ha_4
  have hf_cn : f6 cn = .inl (cy 1, 36, .inl ncn_15) := ha_5
  have hf_db : f6 db = .inl (cy 1, 5, .inl ndb_16) := ha_6
  have hf_be : f6 be = .inl (cy 1, 2574, .inl nbe_17) := ha_7
  have hf_du : f6 du = .inl (cy 1, 5200, .inl ndu_18) := ha_8
  have hgx := hp.2.2.1
  clear hp
  refine lv_iconst (v := 0) hx hb dX10_restless_8 (by decide) ?_
  refine lv_istore_n (lv' := [(1, .int 0), (0, .ref mm)]) hx hb dX10_restless_9 rfl hl (by decide) rfl (fun ls hl => ?_)
  have hzk : (0 : Int32).toInt = 0 := by decide
  refine z_loop (fun n H locs ls => ∃ (K19 : Int32) (G21 : Nat → Int32) (f20 : Nat → va_E), (n = (5 - K19.toInt).toNat) ∧ (0 ≤ K19.toInt) ∧ (K19.toInt ≤ 5) ∧ (z_H D vwCl (z_A L sz) s.heap L f20 H locs) ∧ (f20 mm = .inr (10, [.int m0, .ref wd, .ref my, .ref ce, .ref mv, .ref ta, .int m6, .int m7, .int m8, .int m9, .int m10, .long m11, .int m12, .int m13, .int m14, .int m15, .ref li, .ref ha, .ref lw, .ref st, .ref fo, .ref dr, .int m22, .ref ik, .int (-1), .int mn2_3, .long x2_10, .int 0, .int 1000, .ref ro, .int n2_7, .ref ct, .ref se, .ref th, .ref cn, .ref be, .int y2_9, .ref du, .int d2_8, .ref db, .int m40, .int m41, .int m42, .ref pn, .ref wg, .ref wh, .ref tn, .ref he, .int m48, .ref tr, .ref fd, .ref po, .int m52, .int m53])) ∧ (f20 ha = .inl (cy 1, 30, .inl gha)) ∧ (f20 dr = .inl (cy 1, 520, .inl gdr)) ∧ (f20 ro = .inl (cy 1, 13, .inl nro_11)) ∧ (f20 lw = .inl (cy 1, 25, .inl glw)) ∧ (f20 st = .inl (cy 1, 20, .inl gst)) ∧ (f20 ct = .inl (cy 1, 4, .inl nct_12)) ∧ (f20 se = .inl (cy 1, 36, .inl nse_13)) ∧ (f20 th = .inl (cy 1, 36, .inl nth_14)) ∧ (f20 cn = .inl (cy 1, 36, .inl ncn_15)) ∧ (f20 db = .inl (cy 1, 5, .inl ndb_16)) ∧ (f20 be = .inl (cy 1, 2574, .inl nbe_17)) ∧ (f20 du = .inl (cy 1, 5200, .inl ndu_18)) ∧ (f20 fo = .inl (cy 1, 180, .inl gfo)) ∧ (f20 pn = .inl (cy 1, 5, .inl G21)) ∧ (∀ b ∈ L, b ≠ mm → b ≠ ro → b ≠ ct → b ≠ se → b ≠ th → b ≠ cn → b ≠ db → b ≠ be → b ≠ du → b ≠ dr → b ≠ pn → f20 b = f b) ∧ (lv_has ls 2 [(1, .int K19), (0, .ref mm)])) _ ⟨0, gpn, f6, rfl, (by first | decide | omega), (by first | decide | omega), hw, hf_mm, hf_ha, hf_dr, hf_ro, hf_lw, hf_st, hf_ct, hf_se, hf_th, hf_cn, hf_db, hf_be, hf_du, hf_fo, hf_pn, hfr, (lv_sub hl [0, 1] rfl)⟩ (fun n H locs ls hI ih_10 => ?_)
  obtain ⟨K19, G21, f20, hn, hk0, hk1, hw, hf_mm, hf_ha, hf_dr, hf_ro, hf_lw, hf_st, hf_ct, hf_se, hf_th, hf_cn, hf_db, hf_be, hf_du, hf_fo, hf_pn, hfr, hl⟩ := hI
  refine lv_iload_n hx hb dX10_restless_10 rfl (lv_at hl 0 rfl) ?_
  refine lv_iconst (v := 5) hx hb dX10_restless_11 (by decide) ?_
  refine z_icmp_ge (tgt := 32) hx hb rfl (show (5 : Int32).toInt = 5 by decide) dX10_restless_12 (by decide) (fun c22 => ?_) (fun c22 => ?_)
  · skip
    refine lv_iconst (v := 0) hx hb dX10_restless_32 (by decide) ?_
    refine lv_istore_n (lv' := [(1, .int 0), (0, .ref mm)]) hx hb dX10_restless_33 rfl hl (by decide) rfl (fun ls hl => ?_)
    have hzk : (0 : Int32).toInt = 0 := by decide
    refine z_loop (fun n H locs ls => ∃ (K23 : Int32) (G33 : Nat → Int32) (G34 : Nat → Int32) (G35 : Nat → Int32) (G36 : Nat → Int32) (G37 : Nat → Int32) (G38 : Nat → Int32) (G39 : Nat → Int32) (G40 : Nat → Int32) (G32 : Nat → Int32) (RM25 : Int32) (DM26 : Int32) (DN27 : Int32) (XX28 : Int64) (BP29 : Int32) (BG30 : Int32) (BH31 : Int32) (f24 : Nat → va_E), (n = ((gha 3).toInt - K23.toInt).toNat) ∧ (0 ≤ K23.toInt) ∧ (K23.toInt ≤ (gha 3).toInt) ∧ (0 ≤ XX28.toInt ∧ XX28.toInt < 2147483648) ∧ (0 ≤ BG30.toInt ∧ BG30.toInt ≤ 3) ∧ (0 ≤ BH31.toInt ∧ BH31.toInt ≤ 23) ∧ (z_H D vwCl (z_A L sz) s.heap L f24 H locs) ∧ (f24 mm = .inr (10, [.int m0, .ref wd, .ref my, .ref ce, .ref mv, .ref ta, .int m6, .int m7, .int m8, .int m9, .int m10, .long m11, .int m12, .int m13, .int m14, .int m15, .ref li, .ref ha, .ref lw, .ref st, .ref fo, .ref dr, .int m22, .ref ik, .int (-1), .int mn2_3, .long XX28, .int 0, .int 1000, .ref ro, .int RM25, .ref ct, .ref se, .ref th, .ref cn, .ref be, .int DN27, .ref du, .int DM26, .ref db, .int BP29, .int BG30, .int BH31, .ref pn, .ref wg, .ref wh, .ref tn, .ref he, .int m48, .ref tr, .ref fd, .ref po, .int m52, .int m53])) ∧ (f24 ha = .inl (cy 1, 30, .inl gha)) ∧ (f24 dr = .inl (cy 1, 520, .inl G32)) ∧ (f24 ro = .inl (cy 1, 13, .inl G33)) ∧ (f24 lw = .inl (cy 1, 25, .inl glw)) ∧ (f24 st = .inl (cy 1, 20, .inl gst)) ∧ (f24 ct = .inl (cy 1, 4, .inl G34)) ∧ (f24 se = .inl (cy 1, 36, .inl G35)) ∧ (f24 th = .inl (cy 1, 36, .inl G36)) ∧ (f24 cn = .inl (cy 1, 36, .inl G37)) ∧ (f24 db = .inl (cy 1, 5, .inl G38)) ∧ (f24 be = .inl (cy 1, 2574, .inl G39)) ∧ (f24 du = .inl (cy 1, 5200, .inl G40)) ∧ (f24 fo = .inl (cy 1, 180, .inl gfo)) ∧ (f24 pn = .inl (cy 1, 5, .inl G21)) ∧ (∀ b ∈ L, b ≠ mm → b ≠ ro → b ≠ ct → b ≠ se → b ≠ th → b ≠ cn → b ≠ db → b ≠ be → b ≠ du → b ≠ dr → b ≠ pn → f24 b = f b) ∧ (∀ j : Nat, q_12 j (G33 j)) ∧ (∀ j : Nat, q_law j (G34 j)) ∧ (∀ j : Nat, q_be j (G39 j)) ∧ (∀ j : Nat, q_du j (G40 j)) ∧ (∀ j : Nat, q_drv j (G32 j)) ∧ (lv_has ls 2 [(1, .int K23), (0, .ref mm)])) _ ⟨0, nro_11, nct_12, nse_13, nth_14, ncn_15, ndb_16, nbe_17, ndu_18, gdr, n2_7, d2_8, y2_9, x2_10, m40, m41, m42, f20, rfl, (by first | decide | omega), (by first | decide | omega), (by omega), (by omega), (by omega), hw, hf_mm, hf_ha, hf_dr, hf_ro, hf_lw, hf_st, hf_ct, hf_se, hf_th, hf_cn, hf_db, hf_be, hf_du, hf_fo, hf_pn, hfr, hq_ro, hq_ct, hq_be, hq_du, hq_dr, (lv_sub hl [0, 1] rfl)⟩ (fun n H locs ls hI ih_34 => ?_)
    obtain ⟨K23, G33, G34, G35, G36, G37, G38, G39, G40, G32, RM25, DM26, DN27, XX28, BP29, BG30, BH31, f24, hn, hk0, hk1, hi0, hi1, hi2, hw, hf_mm, hf_ha, hf_dr, hf_ro, hf_lw, hf_st, hf_ct, hf_se, hf_th, hf_cn, hf_db, hf_be, hf_du, hf_fo, hf_pn, hfr, hq_ro, hq_ct, hq_be, hq_du, hq_dr, hl⟩ := hI
    refine lv_iload_n hx hb dX10_restless_34 rfl (lv_at hl 0 rfl) ?_
    refine lv_aload_n hx hb dX10_restless_35 rfl (lv_at hl 1 rfl) ?_
    refine z_get (C := RX10) (T := TX10) (N := 54) (ci := 10) (v := .ref ha) hx hb hT zin_X10 hown hK hw hm_mm hf_mm rfl 17 (by decide) (hT _ kw_1185) rfl dX10_restless_36 ?_
    refine lv_iconst (v := 3) hx hb dX10_restless_39 (by decide) ?_
    refine z_iald hx hb hK hw 1 hm_ha hf_ha rfl (z_ix (show (3 : Int32).toInt = 3 by decide) (by decide)) dX10_restless_40 ?_
    refine lv_topi (fun w41 e_w41 => ?_)
    have hv_w41 : 0 ≤ w41.toInt ∧ w41.toInt ≤ 12 := by rw [e_w41]; exact (hq_ha _).2.2.2 rfl
    have hgw_w41 : w41.toInt = (gha 3).toInt := by rw [e_w41]; rfl
    refine z_icmp_ge (tgt := 81) hx hb rfl rfl dX10_restless_41 (by decide) (fun c42 => ?_) (fun c42 => ?_)
    · skip
      refine lv_iconst (v := (-1)) hx hb dX10_restless_81 (by decide) ?_
      exact z_iret hx hb hr hlk (by decide) (by decide) hw (⟨hsub, hfr, mn2_3, RM25, DM26, DN27, BP29, BG30, BH31, XX28, G33, G34, G35, G36, G37, G38, G39, G40, G32, G21, hf_mm, hf_ro, hf_ct, hf_se, hf_th, hf_cn, hf_db, hf_be, hf_du, hf_dr, hf_pn, hq_ro, hq_ct, hq_be, hq_du, hq_dr, by omega, by omega, by omega, by omega⟩) dX10_restless_82
    · skip
      refine lv_aload_n hx hb dX10_restless_44 rfl (lv_at hl 1 rfl) ?_
      refine lv_iload_n hx hb dX10_restless_45 rfl (lv_at hl 0 rfl) ?_
      refine lv_aload_n hx hb dX10_restless_46 rfl (lv_at hl 1 rfl) ?_
      refine lv_iload_n hx hb dX10_restless_47 rfl (lv_at hl 0 rfl) ?_
      refine lv_iconst (v := 0) hx hb dX10_restless_48 (by decide) ?_
      have hz43 := (show (0 : Int32).toInt = 0 by decide)
      refine z_calliV (cells := 0) (slots := 0) (b := mm) (As := [.int K23, .int 0]) (rest := [.int K23, .ref mm]) (ci := 10) (q0 := (RX10, TX10, 54)) ⟨hx, hb, hml, hown, hT⟩ (c_X10_of l hm_mm hm_dr hf_mm hf_dr hq_dr (by first | omega | decide | assumption) (by decide)) (cwV 2 hT (z_goodV (fun _ h => h) kw_1487 kw_1489 kw_51 kw_96 kw_1490) rfl rfl rfl (by decide +kernel) ⟨by decide, by decide⟩) z_mv hKK hK hw hA hm_mm hf_mm rfl rfl rfl hl.1 rfl (Nat.le_of_ble_eq_true rfl) dX10_restless_49 ⟨by decide, by decide⟩ (fun r44 u H locs hp hw => ?_)
      obtain ⟨rfl, hp⟩ := hp
      have hw : z_H D vwCl (z_A L sz) s.heap L f24 H locs := hw
      have hof_r44 : r44 = G32 (8 * K23.toNatClampNeg + 0) := hp
      have hh_r44 : 0 ≤ r44.toInt ∧ r44.toInt ≤ 4 := by rw [hof_r44]; exact (hq_dr _).1 (by omega)
      refine z_callvV (cells := 0) (slots := 0) (b := mm) (As := [.int K23, .int r44]) (rest := []) (ci := 10) (q0 := (RX10, TX10, 54)) ⟨hx, hb, hml, hown, hT⟩ (c_X10_seeks l hm_mm hm_ha hm_dr hm_ro hm_lw hm_st hm_ct hm_se hm_th hm_cn hm_db hm_be hm_du hm_fo hf_mm hf_ha hf_dr hf_ro hf_lw hf_st hf_ct hf_se hf_th hf_cn hf_db hf_be hf_du hf_fo ne_se_th ne_se_cn ne_th_cn hq_ha hq_dr hq_ro hq_lw hq_st hq_ct hq_be hq_du (by first | omega | decide | assumption) (by omega) (by first | omega | decide | assumption) (by first | omega | decide | assumption) (by first | omega | decide | assumption) (by first | omega | decide | assumption) (by first | omega | decide | assumption)) (cwV 2 hT (z_goodV (fun _ h => h) kw_1628 kw_1630 kw_71 kw_96 kw_1631) rfl rfl rfl (by decide +kernel) ⟨by decide, by decide⟩) z_mv hKK hK hw hA hm_mm hf_mm rfl rfl rfl hl.1 rfl (Nat.le_of_ble_eq_true rfl) dX10_restless_52 ⟨by decide, by decide⟩ (fun u H locs hp hw => ?_)
      obtain ⟨L45, f46⟩ := u
      obtain ⟨hsb, hfm, n2_47, d2_48, y2_49, bp2_50, bg2_51, bh2_52, x2_53, nro_54, nct_55, nse_56, nth_57, ncn_58, ndb_59, nbe_60, ndu_61, ndr_62, ha_0, ha_1, ha_2, ha_3, ha_4, ha_5, ha_6, ha_7, ha_8, ha_9, hq_ro, hq_ct, hq_be, hq_du, hq_dr, hp⟩ := hp
      have hsb : L = L45 := hsb
      subst hsb
      have hsb : ∀ b ∈ L, b ∈ L := fun _ h => h
      have hw : z_H D vwCl (z_A L sz) s.heap L f46 H locs := hw
      have hfr : ∀ b ∈ L, b ≠ mm → b ≠ ro → b ≠ ct → b ≠ se → b ≠ th → b ≠ cn → b ≠ db → b ≠ be → b ≠ du → b ≠ dr → b ≠ pn → f46 b = f b := fun b hb h0 h1 h2 h3 h4 h5 h6 h7 h8 h9 h10 => (hfm b hb h0 h1 h2 h3 h4 h5 h6 h7 h8 h9).trans (hfr b hb h0 h1 h2 h3 h4 h5 h6 h7 h8 h9 h10)
      have hf_ha : f46 ha = .inl (cy 1, 30, .inl gha) := (hfm ha hm_ha (z_tne hf_ha hf_mm (m := 340) (n := 10) rfl rfl (by decide)) (z_tne hf_ha hf_ro (m := 340) (n := 204) rfl rfl (by decide)) (z_tne hf_ha hf_ct (m := 340) (n := 132) rfl rfl (by decide)) (z_tne hf_ha hf_se (m := 340) (n := 388) rfl rfl (by decide)) (z_tne hf_ha hf_th (m := 340) (n := 388) rfl rfl (by decide)) (z_tne hf_ha hf_cn (m := 340) (n := 388) rfl rfl (by decide)) (z_tne hf_ha hf_db (m := 340) (n := 140) rfl rfl (by decide)) (z_tne hf_ha hf_be (m := 340) (n := 20692) rfl rfl (by decide)) (z_tne hf_ha hf_du (m := 340) (n := 41700) rfl rfl (by decide)) (z_tne hf_ha hf_dr (m := 340) (n := 4260) rfl rfl (by decide))).trans hf_ha
      have hf_lw : f46 lw = .inl (cy 1, 25, .inl glw) := (hfm lw hm_lw (z_tne hf_lw hf_mm (m := 300) (n := 10) rfl rfl (by decide)) (z_tne hf_lw hf_ro (m := 300) (n := 204) rfl rfl (by decide)) (z_tne hf_lw hf_ct (m := 300) (n := 132) rfl rfl (by decide)) (z_tne hf_lw hf_se (m := 300) (n := 388) rfl rfl (by decide)) (z_tne hf_lw hf_th (m := 300) (n := 388) rfl rfl (by decide)) (z_tne hf_lw hf_cn (m := 300) (n := 388) rfl rfl (by decide)) (z_tne hf_lw hf_db (m := 300) (n := 140) rfl rfl (by decide)) (z_tne hf_lw hf_be (m := 300) (n := 20692) rfl rfl (by decide)) (z_tne hf_lw hf_du (m := 300) (n := 41700) rfl rfl (by decide)) (z_tne hf_lw hf_dr (m := 300) (n := 4260) rfl rfl (by decide))).trans hf_lw
      have hf_st : f46 st = .inl (cy 1, 20, .inl gst) := (hfm st hm_st (z_tne hf_st hf_mm (m := 260) (n := 10) rfl rfl (by decide)) (z_tne hf_st hf_ro (m := 260) (n := 204) rfl rfl (by decide)) (z_tne hf_st hf_ct (m := 260) (n := 132) rfl rfl (by decide)) (z_tne hf_st hf_se (m := 260) (n := 388) rfl rfl (by decide)) (z_tne hf_st hf_th (m := 260) (n := 388) rfl rfl (by decide)) (z_tne hf_st hf_cn (m := 260) (n := 388) rfl rfl (by decide)) (z_tne hf_st hf_db (m := 260) (n := 140) rfl rfl (by decide)) (z_tne hf_st hf_be (m := 260) (n := 20692) rfl rfl (by decide)) (z_tne hf_st hf_du (m := 260) (n := 41700) rfl rfl (by decide)) (z_tne hf_st hf_dr (m := 260) (n := 4260) rfl rfl (by decide))).trans hf_st
      have hf_fo : f46 fo = .inl (cy 1, 180, .inl gfo) := (hfm fo hm_fo (z_tne hf_fo hf_mm (m := 1540) (n := 10) rfl rfl (by decide)) (z_tne hf_fo hf_ro (m := 1540) (n := 204) rfl rfl (by decide)) (z_tne hf_fo hf_ct (m := 1540) (n := 132) rfl rfl (by decide)) (z_tne hf_fo hf_se (m := 1540) (n := 388) rfl rfl (by decide)) (z_tne hf_fo hf_th (m := 1540) (n := 388) rfl rfl (by decide)) (z_tne hf_fo hf_cn (m := 1540) (n := 388) rfl rfl (by decide)) (z_tne hf_fo hf_db (m := 1540) (n := 140) rfl rfl (by decide)) (z_tne hf_fo hf_be (m := 1540) (n := 20692) rfl rfl (by decide)) (z_tne hf_fo hf_du (m := 1540) (n := 41700) rfl rfl (by decide)) (z_tne hf_fo hf_dr (m := 1540) (n := 4260) rfl rfl (by decide))).trans hf_fo
      have hf_pn : f46 pn = .inl (cy 1, 5, .inl G21) := (hfm pn hm_pn (z_tne hf_pn hf_mm (m := 140) (n := 10) rfl rfl (by decide)) (z_tne hf_pn hf_ro (m := 140) (n := 204) rfl rfl (by decide)) (z_tne hf_pn hf_ct (m := 140) (n := 132) rfl rfl (by decide)) (z_tne hf_pn hf_se (m := 140) (n := 388) rfl rfl (by decide)) (z_tne hf_pn hf_th (m := 140) (n := 388) rfl rfl (by decide)) (z_tne hf_pn hf_cn (m := 140) (n := 388) rfl rfl (by decide)) (Ne.symm ne_db_pn) (z_tne hf_pn hf_be (m := 140) (n := 20692) rfl rfl (by decide)) (z_tne hf_pn hf_du (m := 140) (n := 41700) rfl rfl (by decide)) (z_tne hf_pn hf_dr (m := 140) (n := 4260) rfl rfl (by decide))).trans hf_pn
      have hf_mm : f46 mm = .inr (10, [.int m0, .ref wd, .ref my, .ref ce, .ref mv, .ref ta, .int m6, .int m7, .int m8, .int m9, .int m10, .long m11, .int m12, .int m13, .int m14, .int m15, .ref li, .ref ha, .ref lw, .ref st, .ref fo, .ref dr, .int m22, .ref ik, .int (-1), .int mn2_3, .long x2_53, .int 0, .int 1000, .ref ro, .int n2_47, .ref ct, .ref se, .ref th, .ref cn, .ref be, .int y2_49, .ref du, .int d2_48, .ref db, .int bp2_50, .int bg2_51, .int bh2_52, .ref pn, .ref wg, .ref wh, .ref tn, .ref he, .int m48, .ref tr, .ref fd, .ref po, .int m52, .int m53]) := ha_0
      have hf_ro : f46 ro = .inl (cy 1, 13, .inl nro_54) := ha_1
      have hf_ct : f46 ct = .inl (cy 1, 4, .inl nct_55) := ha_2
      have hf_se : f46 se = .inl (cy 1, 36, .inl nse_56) := ha_3
      have hf_th : f46 th = .inl (cy 1, 36, .inl nth_57) := ha_4
      have hf_cn : f46 cn = .inl (cy 1, 36, .inl ncn_58) := ha_5
      have hf_db : f46 db = .inl (cy 1, 5, .inl ndb_59) := ha_6
      have hf_be : f46 be = .inl (cy 1, 2574, .inl nbe_60) := ha_7
      have hf_du : f46 du = .inl (cy 1, 5200, .inl ndu_61) := ha_8
      have hf_dr : f46 dr = .inl (cy 1, 520, .inl ndr_62) := ha_9
      have hq63 := hp
      refine lv_aload_n hx hb dX10_restless_55 rfl (lv_at hl 1 rfl) ?_
      refine z_get (C := RX10) (T := TX10) (N := 54) (ci := 10) (v := .int bp2_50) hx hb hT zin_X10 hown hK hw hm_mm hf_mm rfl 40 (by decide) (hT _ kw_1208) rfl dX10_restless_56 ?_
      refine lv_aload_n hx hb dX10_restless_59 rfl (lv_at hl 1 rfl) ?_
      refine z_get (C := RX10) (T := TX10) (N := 54) (ci := 10) (v := .ref pn) hx hb hT zin_X10 hown hK hw hm_mm hf_mm rfl 43 (by decide) (hT _ kw_1211) rfl dX10_restless_60 ?_
      refine lv_aload_n hx hb dX10_restless_63 rfl (lv_at hl 1 rfl) ?_
      refine lv_iload_n hx hb dX10_restless_64 rfl (lv_at hl 0 rfl) ?_
      refine lv_iconst (v := 0) hx hb dX10_restless_65 (by decide) ?_
      have hz64 := (show (0 : Int32).toInt = 0 by decide)
      refine z_calliV (cells := 0) (slots := 0) (b := mm) (As := [.int K23, .int 0]) (rest := [.ref pn, .int bp2_50]) (ci := 10) (q0 := (RX10, TX10, 54)) ⟨hx, hb, hml, hown, hT⟩ (c_X10_of l hm_mm hm_dr hf_mm hf_dr hq_dr (by first | omega | decide | assumption) (by decide)) (cwV 2 hT (z_goodV (fun _ h => h) kw_1487 kw_1489 kw_51 kw_96 kw_1490) rfl rfl rfl (by decide +kernel) ⟨by decide, by decide⟩) z_mv hKK hK hw hA hm_mm hf_mm rfl rfl rfl hl.1 rfl (Nat.le_of_ble_eq_true rfl) dX10_restless_66 ⟨by decide, by decide⟩ (fun r65 u H locs hp hw => ?_)
      obtain ⟨rfl, hp⟩ := hp
      have hw : z_H D vwCl (z_A L sz) s.heap L f46 H locs := hw
      have hof_r65 : r65 = ndr_62 (8 * K23.toNatClampNeg + 0) := hp
      have hh_r65 : 0 ≤ r65.toInt ∧ r65.toInt ≤ 4 := by rw [hof_r65]; exact (hq_dr _).1 (by omega)
      refine z_iald hx hb hK hw 1 hm_pn hf_pn rfl (z_ix rfl (by omega)) dX10_restless_69 ?_
      refine lv_topi (fun w66 e_w66 => ?_)
      refine z_icmp_ge (tgt := 75) hx hb rfl rfl dX10_restless_70 (by decide) (fun c67 => ?_) (fun c67 => ?_)
      · skip
        obtain ⟨k68, e_k68⟩ : ∃ z : Int32, z = K23 + 1 := ⟨_, rfl⟩
        refine lv_iinc (v := k68) (lv' := [(1, .int k68), (0, .ref mm)]) hx hb dX10_restless_75 hl (k := 0) rfl (by rw [e_k68]; rfl) (by decide) rfl (fun ls hl => ?_)
        have i_k68 : k68.toInt = (K23.toInt + 1) := z_add e_k68 rfl (by decide) (by omega)
        refine lv_goto (tgt := 34) hx hb dX10_restless_78 (by decide) ?_
        exact ih_34 _ (by omega) _ _ _ ⟨k68, nro_54, nct_55, nse_56, nth_57, ncn_58, ndb_59, nbe_60, ndu_61, ndr_62, n2_47, d2_48, y2_49, x2_53, bp2_50, bg2_51, bh2_52, f46, rfl, (by first | decide | omega), (by first | decide | omega), (by omega), (by omega), (by omega), hw, hf_mm, hf_ha, hf_dr, hf_ro, hf_lw, hf_st, hf_ct, hf_se, hf_th, hf_cn, hf_db, hf_be, hf_du, hf_fo, hf_pn, hfr, hq_ro, hq_ct, hq_be, hq_du, hq_dr, (lv_sub hl [0, 1] rfl)⟩
      · skip
        refine lv_iload_n hx hb dX10_restless_73 rfl (lv_at hl 0 rfl) ?_
        exact z_iret hx hb hr hlk (by decide) (by decide) hw (⟨hsub, hfr, mn2_3, n2_47, d2_48, y2_49, bp2_50, bg2_51, bh2_52, x2_53, nro_54, nct_55, nse_56, nth_57, ncn_58, ndb_59, nbe_60, ndu_61, ndr_62, G21, hf_mm, hf_ro, hf_ct, hf_se, hf_th, hf_cn, hf_db, hf_be, hf_du, hf_dr, hf_pn, hq_ro, hq_ct, hq_be, hq_du, hq_dr, by omega, by omega, by omega, by omega⟩) dX10_restless_74
  · skip
    refine lv_aload_n hx hb dX10_restless_15 rfl (lv_at hl 1 rfl) ?_
    refine z_get (C := RX10) (T := TX10) (N := 54) (ci := 10) (v := .ref pn) hx hb hT zin_X10 hown hK hw hm_mm hf_mm rfl 43 (by decide) (hT _ kw_1211) rfl dX10_restless_16 ?_
    refine lv_iload_n hx hb dX10_restless_19 rfl (lv_at hl 0 rfl) ?_
    refine lv_aload_n hx hb dX10_restless_20 rfl (lv_at hl 1 rfl) ?_
    refine lv_iload_n hx hb dX10_restless_21 rfl (lv_at hl 0 rfl) ?_
    refine z_calliV (cells := 0) (slots := 0) (b := mm) (As := [.int K19]) (rest := [.int K19, .ref pn]) (ci := 10) (q0 := (RX10, TX10, 54)) ⟨hx, hb, hml, hown, hT⟩ (c_X10_paidBy l hm_mm hm_db hm_lw hf_mm hf_db hf_lw hq_lw (by first | omega | decide | assumption)) (cwV 1 hT (z_goodV (fun _ h => h) kw_1608 kw_1610 kw_70 kw_96 kw_1611) rfl rfl rfl (by decide +kernel) ⟨by decide, by decide⟩) z_mv hKK hK hw hA hm_mm hf_mm rfl rfl rfl hl.1 rfl (Nat.le_of_ble_eq_true rfl) dX10_restless_22 ⟨by decide, by decide⟩ (fun r69 u H locs hp hw => ?_)
    obtain ⟨rfl, hp⟩ := hp
    have hw : z_H D vwCl (z_A L sz) s.heap L f20 H locs := hw
    refine z_iast hx hb hK hw 1 hm_pn hf_pn rfl (z_ix rfl (by omega)) dX10_restless_25 (fun H locs hw => ?_)
    obtain ⟨f71, e_f71⟩ : ∃ z, z = va_up f20 pn (.inl (cy 1, 5, .inl (upd G21 K19.toNatClampNeg r69))) := ⟨_, rfl⟩
    rw [← e_f71] at hw
    have hf_mm : f71 mm = .inr (10, [.int m0, .ref wd, .ref my, .ref ce, .ref mv, .ref ta, .int m6, .int m7, .int m8, .int m9, .int m10, .long m11, .int m12, .int m13, .int m14, .int m15, .ref li, .ref ha, .ref lw, .ref st, .ref fo, .ref dr, .int m22, .ref ik, .int (-1), .int mn2_3, .long x2_10, .int 0, .int 1000, .ref ro, .int n2_7, .ref ct, .ref se, .ref th, .ref cn, .ref be, .int y2_9, .ref du, .int d2_8, .ref db, .int m40, .int m41, .int m42, .ref pn, .ref wg, .ref wh, .ref tn, .ref he, .int m48, .ref tr, .ref fd, .ref po, .int m52, .int m53]) := (congrFun e_f71 mm).trans (z_up_ne (z_tne hf_mm hf_pn (m := 10) (n := 140) rfl rfl (by decide)) hf_mm)
    have hf_ha : f71 ha = .inl (cy 1, 30, .inl gha) := (congrFun e_f71 ha).trans (z_up_ne (z_tne hf_ha hf_pn (m := 340) (n := 140) rfl rfl (by decide)) hf_ha)
    have hf_dr : f71 dr = .inl (cy 1, 520, .inl gdr) := (congrFun e_f71 dr).trans (z_up_ne (z_tne hf_dr hf_pn (m := 4260) (n := 140) rfl rfl (by decide)) hf_dr)
    have hf_ro : f71 ro = .inl (cy 1, 13, .inl nro_11) := (congrFun e_f71 ro).trans (z_up_ne (z_tne hf_ro hf_pn (m := 204) (n := 140) rfl rfl (by decide)) hf_ro)
    have hf_lw : f71 lw = .inl (cy 1, 25, .inl glw) := (congrFun e_f71 lw).trans (z_up_ne (z_tne hf_lw hf_pn (m := 300) (n := 140) rfl rfl (by decide)) hf_lw)
    have hf_st : f71 st = .inl (cy 1, 20, .inl gst) := (congrFun e_f71 st).trans (z_up_ne (z_tne hf_st hf_pn (m := 260) (n := 140) rfl rfl (by decide)) hf_st)
    have hf_ct : f71 ct = .inl (cy 1, 4, .inl nct_12) := (congrFun e_f71 ct).trans (z_up_ne (z_tne hf_ct hf_pn (m := 132) (n := 140) rfl rfl (by decide)) hf_ct)
    have hf_se : f71 se = .inl (cy 1, 36, .inl nse_13) := (congrFun e_f71 se).trans (z_up_ne (z_tne hf_se hf_pn (m := 388) (n := 140) rfl rfl (by decide)) hf_se)
    have hf_th : f71 th = .inl (cy 1, 36, .inl nth_14) := (congrFun e_f71 th).trans (z_up_ne (z_tne hf_th hf_pn (m := 388) (n := 140) rfl rfl (by decide)) hf_th)
    have hf_cn : f71 cn = .inl (cy 1, 36, .inl ncn_15) := (congrFun e_f71 cn).trans (z_up_ne (z_tne hf_cn hf_pn (m := 388) (n := 140) rfl rfl (by decide)) hf_cn)
    have hf_db : f71 db = .inl (cy 1, 5, .inl ndb_16) := (congrFun e_f71 db).trans (z_up_ne ne_db_pn hf_db)
    have hf_be : f71 be = .inl (cy 1, 2574, .inl nbe_17) := (congrFun e_f71 be).trans (z_up_ne (z_tne hf_be hf_pn (m := 20692) (n := 140) rfl rfl (by decide)) hf_be)
    have hf_du : f71 du = .inl (cy 1, 5200, .inl ndu_18) := (congrFun e_f71 du).trans (z_up_ne (z_tne hf_du hf_pn (m := 41700) (n := 140) rfl rfl (by decide)) hf_du)
    have hf_fo : f71 fo = .inl (cy 1, 180, .inl gfo) := (congrFun e_f71 fo).trans (z_up_ne (z_tne hf_fo hf_pn (m := 1540) (n := 140) rfl rfl (by decide)) hf_fo)
    have hf_pn : f71 pn = .inl (cy 1, 5, .inl (upd G21 K19.toNatClampNeg r69)) := (congrFun e_f71 pn).trans z_up_self
    have hfr : ∀ b ∈ L, b ≠ mm → b ≠ ro → b ≠ ct → b ≠ se → b ≠ th → b ≠ cn → b ≠ db → b ≠ be → b ≠ du → b ≠ dr → b ≠ pn → f71 b = f b := fun b hb h0 h1 h2 h3 h4 h5 h6 h7 h8 h9 h10 => (congrFun e_f71 b).trans (z_up_ne h10 (hfr b hb h0 h1 h2 h3 h4 h5 h6 h7 h8 h9 h10))
    obtain ⟨g70, e_g70⟩ : ∃ z, z = (upd G21 K19.toNatClampNeg r69) := ⟨_, rfl⟩
    rw [← e_g70] at hf_pn
    obtain ⟨k72, e_k72⟩ : ∃ z : Int32, z = K19 + 1 := ⟨_, rfl⟩
    refine lv_iinc (v := k72) (lv' := [(1, .int k72), (0, .ref mm)]) hx hb dX10_restless_26 hl (k := 0) rfl (by rw [e_k72]; rfl) (by decide) rfl (fun ls hl => ?_)
    have i_k72 : k72.toInt = (K19.toInt + 1) := z_add e_k72 rfl (by decide) (by omega)
    refine lv_goto (tgt := 10) hx hb dX10_restless_29 (by decide) ?_
    exact ih_10 _ (by omega) _ _ _ ⟨k72, g70, f71, rfl, (by first | decide | omega), (by first | decide | omega), hw, hf_mm, hf_ha, hf_dr, hf_ro, hf_lw, hf_st, hf_ct, hf_se, hf_th, hf_cn, hf_db, hf_be, hf_du, hf_fo, hf_pn, hfr, (lv_sub hl [0, 1] rfl)⟩

set_option maxHeartbeats 2000000 in
set_option maxRecDepth 100000 in
theorem c_X10_restsBy (l : Launch) {D : va_G} {cy : Nat → ClassId} {L : List Nat} {f : Nat → va_E} {sz : Nat} {adK adV : Nat → Nat} {mm wd my ce mv ta li ha lw st fo dr ik ro ct se th cn be du db pn wg wh tn he tr fd po : Nat} {m0 m6 m7 m8 m9 m10 m12 m13 m14 m15 m22 m24 m25 m27 m28 m30 m36 m38 m40 m41 m42 m48 m52 m53 : Int32} {m11 m26 : Int64} {gha glw gst gfo gdr gro gct gse gth gcn gbe gdu gdb gpn gwg gwh gtn : Nat → Int32}  {nn : Int32} (hm_mm : mm ∈ L) (hm_ha : ha ∈ L) (hm_dr : dr ∈ L) (hm_ro : ro ∈ L) (hm_lw : lw ∈ L) (hm_st : st ∈ L) (hm_ct : ct ∈ L) (hm_se : se ∈ L) (hm_th : th ∈ L) (hm_cn : cn ∈ L) (hm_db : db ∈ L) (hm_be : be ∈ L) (hm_du : du ∈ L) (hm_fo : fo ∈ L) (hm_pn : pn ∈ L) (hm_wg : wg ∈ L) (hm_wh : wh ∈ L) (hm_tn : tn ∈ L) (hf_mm : f mm = .inr (10, [.int m0, .ref wd, .ref my, .ref ce, .ref mv, .ref ta, .int m6, .int m7, .int m8, .int m9, .int m10, .long m11, .int m12, .int m13, .int m14, .int m15, .ref li, .ref ha, .ref lw, .ref st, .ref fo, .ref dr, .int m22, .ref ik, .int m24, .int m25, .long m26, .int m27, .int m28, .ref ro, .int m30, .ref ct, .ref se, .ref th, .ref cn, .ref be, .int m36, .ref du, .int m38, .ref db, .int m40, .int m41, .int m42, .ref pn, .ref wg, .ref wh, .ref tn, .ref he, .int m48, .ref tr, .ref fd, .ref po, .int m52, .int m53])) (hf_ha : f ha = .inl (cy 1, 30, .inl gha)) (hf_dr : f dr = .inl (cy 1, 520, .inl gdr)) (hf_ro : f ro = .inl (cy 1, 13, .inl gro)) (hf_lw : f lw = .inl (cy 1, 25, .inl glw)) (hf_st : f st = .inl (cy 1, 20, .inl gst)) (hf_ct : f ct = .inl (cy 1, 4, .inl gct)) (hf_se : f se = .inl (cy 1, 36, .inl gse)) (hf_th : f th = .inl (cy 1, 36, .inl gth)) (hf_cn : f cn = .inl (cy 1, 36, .inl gcn)) (hf_db : f db = .inl (cy 1, 5, .inl gdb)) (hf_be : f be = .inl (cy 1, 2574, .inl gbe)) (hf_du : f du = .inl (cy 1, 5200, .inl gdu)) (hf_fo : f fo = .inl (cy 1, 180, .inl gfo)) (hf_pn : f pn = .inl (cy 1, 5, .inl gpn)) (hf_wg : f wg = .inl (cy 1, 12, .inl gwg)) (hf_wh : f wh = .inl (cy 1, 12, .inl gwh)) (hf_tn : f tn = .inl (cy 1, 12, .inl gtn)) (ne_se_th : se ≠ th) (ne_se_cn : se ≠ cn) (ne_th_cn : th ≠ cn) (ne_db_pn : db ≠ pn) (ne_wg_wh : wg ≠ wh) (ne_wg_tn : wg ≠ tn) (ne_wh_tn : wh ≠ tn) (hq_ha : ∀ j : Nat, q_has j (gha j)) (hq_dr : ∀ j : Nat, q_drv j (gdr j)) (hq_ro : ∀ j : Nat, q_12 j (gro j)) (hq_lw : ∀ j : Nat, q_law j (glw j)) (hq_st : ∀ j : Nat, q_law j (gst j)) (hq_ct : ∀ j : Nat, q_law j (gct j)) (hq_be : ∀ j : Nat, q_be j (gbe j)) (hq_du : ∀ j : Nat, q_du j (gdu j)) (hq_wg : ∀ j : Nat, q_3 j (gwg j)) (hq_wh : ∀ j : Nat, q_23 j (gwh j)) (hxx : 0 ≤ m26.toInt ∧ m26.toInt < 2147483648) (hea : ∀ m : Nat, m < 5 → z_ea gha glw m) (hbg : 0 ≤ m41.toInt ∧ m41.toInt ≤ 3) (hbh : 0 ≤ m42.toInt ∧ m42.toInt ≤ 23) (hnn : 0 ≤ nn.toInt ∧ nn.toInt ≤ 30) : Met l yX10_restsBy (z_ws yX10_restsBy cX10_restsBy 5 (some .int)) (z_R 8 0 0) (va_Pc [.ref mm, .int nn] (z_Pre D vwCl (z_KK D cy adK adV) L f sz)) (z_Qi D vwCl (fun r u => L = u.1 ∧ (∀ b ∈ L, b ≠ mm → b ≠ ro → b ≠ ct → b ≠ se → b ≠ th → b ≠ cn → b ≠ db → b ≠ be → b ≠ du → b ≠ dr → b ≠ pn → b ≠ wg → b ≠ wh → b ≠ tn → u.2 b = f b) ∧ (∃ (o2 mn2 i2 u2 n2 d2 y2 bp2 bg2 bh2 : Int32) (x2 : Int64) (nro nct nse nth ncn ndb nbe ndu ndr npn nwg nwh ntn : Nat → Int32), (u.2 mm = .inr (10, [.int m0, .ref wd, .ref my, .ref ce, .ref mv, .ref ta, .int m6, .int m7, .int m8, .int m9, .int m10, .long m11, .int m12, .int m13, .int m14, .int m15, .ref li, .ref ha, .ref lw, .ref st, .ref fo, .ref dr, .int m22, .ref ik, .int o2, .int mn2, .long x2, .int i2, .int u2, .ref ro, .int n2, .ref ct, .ref se, .ref th, .ref cn, .ref be, .int y2, .ref du, .int d2, .ref db, .int bp2, .int bg2, .int bh2, .ref pn, .ref wg, .ref wh, .ref tn, .ref he, .int m48, .ref tr, .ref fd, .ref po, .int m52, .int m53])) ∧ (u.2 ro = .inl (cy 1, 13, .inl nro)) ∧ (u.2 ct = .inl (cy 1, 4, .inl nct)) ∧ (u.2 se = .inl (cy 1, 36, .inl nse)) ∧ (u.2 th = .inl (cy 1, 36, .inl nth)) ∧ (u.2 cn = .inl (cy 1, 36, .inl ncn)) ∧ (u.2 db = .inl (cy 1, 5, .inl ndb)) ∧ (u.2 be = .inl (cy 1, 2574, .inl nbe)) ∧ (u.2 du = .inl (cy 1, 5200, .inl ndu)) ∧ (u.2 dr = .inl (cy 1, 520, .inl ndr)) ∧ (u.2 pn = .inl (cy 1, 5, .inl npn)) ∧ (u.2 wg = .inl (cy 1, 12, .inl nwg)) ∧ (u.2 wh = .inl (cy 1, 12, .inl nwh)) ∧ (u.2 tn = .inl (cy 1, 12, .inl ntn)) ∧ (∀ j : Nat, q_12 j (nro j)) ∧ (∀ j : Nat, q_law j (nct j)) ∧ (∀ j : Nat, q_be j (nbe j)) ∧ (∀ j : Nat, q_du j (ndu j)) ∧ (∀ j : Nat, q_drv j (ndr j)) ∧ (∀ j : Nat, q_3 j (nwg j)) ∧ (∀ j : Nat, q_23 j (nwh j)) ∧ ((0 ≤ x2.toInt ∧ x2.toInt < 2147483648) ∧ (0 ≤ bg2.toInt ∧ bg2.toInt ≤ 3) ∧ (0 ≤ bh2.toInt ∧ bh2.toInt ≤ 23)))) L sz) 0 0 (z_A L sz) := by
  refine z_met (cc := cX10_restsBy) (maxL := 5) (ret := (some .int)) (lv := [(0, .ref mm), (1, .int nn)]) (by decide) rfl (Nat.le_of_ble_eq_true rfl) rfl ?_
  intro p e s m below meth c ls hx hb hr hlk hml hown hnm hts hKK hA hw hl
  have hK := hKK.1.1
  have hown : s.vm.findClass RX10 = some m.cls := hown
  have hT : ∀ w ∈ lw_all, w.before ([.ref mm, .int nn] : List Value).toArray s = true := fun w h => hts w (z_cons w h)
  have hsub : L = L := rfl
  have hfr : ∀ b ∈ L, b ≠ mm → b ≠ ro → b ≠ ct → b ≠ se → b ≠ th → b ≠ cn → b ≠ db → b ≠ be → b ≠ du → b ≠ dr → b ≠ pn → b ≠ wg → b ≠ wh → b ≠ tn → f b = f b := fun _ _ _ _ _ _ _ _ _ _ _ _ _ _ _ _ => rfl
  have hh0 := (hq_ha 0).1 rfl
  have hh1 := (hq_ha 1).2.1 rfl
  have hh2 := (hq_ha 2).2.2.1 rfl
  have hh3 := (hq_ha 3).2.2.2 rfl
  have hea0 : 2 ≤ (glw 3).toInt ∨ ((gha 3).toInt = 0 ∧ (gha 0).toInt = 0) := hea 0 (by decide)
  have hz_m1 : (-1 : Int32).toInt = -1 := by decide
  refine lv_iconst (v := 0) hx hb dX10_restsBy_0 (by decide) ?_
  refine lv_istore_n (lv' := [(2, .int 0), (0, .ref mm), (1, .int nn)]) hx hb dX10_restsBy_1 rfl hl (by decide) rfl (fun ls hl => ?_)
  have hzk : (0 : Int32).toInt = 0 := by decide
  refine z_loop (fun n H locs ls => ∃ (K1 : Int32) (G3 : Nat → Int32) (G4 : Nat → Int32) (f2 : Nat → va_E), (n = ((gha 3).toInt - K1.toInt).toNat) ∧ (0 ≤ K1.toInt) ∧ (K1.toInt ≤ (gha 3).toInt) ∧ (z_H D vwCl (z_A L sz) s.heap L f2 H locs) ∧ (f2 mm = .inr (10, [.int m0, .ref wd, .ref my, .ref ce, .ref mv, .ref ta, .int m6, .int m7, .int m8, .int m9, .int m10, .long m11, .int m12, .int m13, .int m14, .int m15, .ref li, .ref ha, .ref lw, .ref st, .ref fo, .ref dr, .int m22, .ref ik, .int m24, .int m25, .long m26, .int m27, .int m28, .ref ro, .int m30, .ref ct, .ref se, .ref th, .ref cn, .ref be, .int m36, .ref du, .int m38, .ref db, .int m40, .int m41, .int m42, .ref pn, .ref wg, .ref wh, .ref tn, .ref he, .int m48, .ref tr, .ref fd, .ref po, .int m52, .int m53])) ∧ (f2 ha = .inl (cy 1, 30, .inl gha)) ∧ (f2 dr = .inl (cy 1, 520, .inl gdr)) ∧ (f2 ro = .inl (cy 1, 13, .inl gro)) ∧ (f2 lw = .inl (cy 1, 25, .inl glw)) ∧ (f2 st = .inl (cy 1, 20, .inl gst)) ∧ (f2 ct = .inl (cy 1, 4, .inl gct)) ∧ (f2 se = .inl (cy 1, 36, .inl gse)) ∧ (f2 th = .inl (cy 1, 36, .inl gth)) ∧ (f2 cn = .inl (cy 1, 36, .inl gcn)) ∧ (f2 db = .inl (cy 1, 5, .inl gdb)) ∧ (f2 be = .inl (cy 1, 2574, .inl gbe)) ∧ (f2 du = .inl (cy 1, 5200, .inl gdu)) ∧ (f2 fo = .inl (cy 1, 180, .inl gfo)) ∧ (f2 pn = .inl (cy 1, 5, .inl gpn)) ∧ (f2 wg = .inl (cy 1, 12, .inl G3)) ∧ (f2 wh = .inl (cy 1, 12, .inl G4)) ∧ (f2 tn = .inl (cy 1, 12, .inl gtn)) ∧ (∀ b ∈ L, b ≠ mm → b ≠ ro → b ≠ ct → b ≠ se → b ≠ th → b ≠ cn → b ≠ db → b ≠ be → b ≠ du → b ≠ dr → b ≠ pn → b ≠ wg → b ≠ wh → b ≠ tn → f2 b = f b) ∧ (∀ j : Nat, q_3 j (G3 j)) ∧ (∀ j : Nat, q_23 j (G4 j)) ∧ (lv_has ls 5 [(2, .int K1), (0, .ref mm), (1, .int nn)])) _ ⟨0, gwg, gwh, f, rfl, (by first | decide | omega), (by first | decide | omega), hw, hf_mm, hf_ha, hf_dr, hf_ro, hf_lw, hf_st, hf_ct, hf_se, hf_th, hf_cn, hf_db, hf_be, hf_du, hf_fo, hf_pn, hf_wg, hf_wh, hf_tn, hfr, hq_wg, hq_wh, (lv_sub hl [0, 1, 2] rfl)⟩ (fun n H locs ls hI ih_2 => ?_)
  obtain ⟨K1, G3, G4, f2, hn, hk0, hk1, hw, hf_mm, hf_ha, hf_dr, hf_ro, hf_lw, hf_st, hf_ct, hf_se, hf_th, hf_cn, hf_db, hf_be, hf_du, hf_fo, hf_pn, hf_wg, hf_wh, hf_tn, hfr, hq_wg, hq_wh, hl⟩ := hI
  refine lv_iload_n hx hb dX10_restsBy_2 rfl (lv_at hl 0 rfl) ?_
  refine lv_aload_n hx hb dX10_restsBy_3 rfl (lv_at hl 1 rfl) ?_
  refine z_get (C := RX10) (T := TX10) (N := 54) (ci := 10) (v := .ref ha) hx hb hT zin_X10 hown hK hw hm_mm hf_mm rfl 17 (by decide) (hT _ kw_1185) rfl dX10_restsBy_4 ?_
  refine lv_iconst (v := 3) hx hb dX10_restsBy_7 (by decide) ?_
  refine z_iald hx hb hK hw 1 hm_ha hf_ha rfl (z_ix (show (3 : Int32).toInt = 3 by decide) (by decide)) dX10_restsBy_8 ?_
  refine lv_topi (fun w5 e_w5 => ?_)
  have hv_w5 : 0 ≤ w5.toInt ∧ w5.toInt ≤ 12 := by rw [e_w5]; exact (hq_ha _).2.2.2 rfl
  have hgw_w5 : w5.toInt = (gha 3).toInt := by rw [e_w5]; rfl
  refine z_icmp_ge (tgt := 42) hx hb rfl rfl dX10_restsBy_9 (by decide) (fun c6 => ?_) (fun c6 => ?_)
  · skip
    refine lv_iconst (v := (-1)) hx hb dX10_restsBy_42 (by decide) ?_
    refine lv_istore_n (lv' := [(2, .int (-1)), (0, .ref mm), (1, .int nn)]) hx hb dX10_restsBy_43 rfl hl (by decide) rfl (fun ls hl => ?_)
    refine lv_iconst (v := 0) hx hb dX10_restsBy_44 (by decide) ?_
    refine lv_istore_n (lv' := [(3, .int 0), (2, .int (-1)), (0, .ref mm), (1, .int nn)]) hx hb dX10_restsBy_45 rfl hl (by decide) rfl (fun ls hl => ?_)
    have hzk : (0 : Int32).toInt = 0 := by decide
    refine z_loop (fun n H locs ls => ∃ (K7 : Int32) (G21 : Nat → Int32) (G22 : Nat → Int32) (G23 : Nat → Int32) (G24 : Nat → Int32) (G25 : Nat → Int32) (G26 : Nat → Int32) (G27 : Nat → Int32) (G28 : Nat → Int32) (G20 : Nat → Int32) (G29 : Nat → Int32) (RM9 : Int32) (DM10 : Int32) (DN11 : Int32) (XX12 : Int64) (BP13 : Int32) (BG14 : Int32) (BH15 : Int32) (WO16 : Int32) (MN17 : Int32) (IM18 : Int32) (UT19 : Int32) (V30 : Int32) (f8 : Nat → va_E), (n = (nn.toInt + 1 - K7.toInt).toNat) ∧ (0 ≤ K7.toInt) ∧ (K7.toInt ≤ nn.toInt + 1) ∧ (0 ≤ XX12.toInt ∧ XX12.toInt < 2147483648) ∧ (0 ≤ BG14.toInt ∧ BG14.toInt ≤ 3) ∧ (0 ≤ BH15.toInt ∧ BH15.toInt ≤ 23) ∧ (z_H D vwCl (z_A L sz) s.heap L f8 H locs) ∧ (f8 mm = .inr (10, [.int m0, .ref wd, .ref my, .ref ce, .ref mv, .ref ta, .int m6, .int m7, .int m8, .int m9, .int m10, .long m11, .int m12, .int m13, .int m14, .int m15, .ref li, .ref ha, .ref lw, .ref st, .ref fo, .ref dr, .int m22, .ref ik, .int WO16, .int MN17, .long XX12, .int IM18, .int UT19, .ref ro, .int RM9, .ref ct, .ref se, .ref th, .ref cn, .ref be, .int DN11, .ref du, .int DM10, .ref db, .int BP13, .int BG14, .int BH15, .ref pn, .ref wg, .ref wh, .ref tn, .ref he, .int m48, .ref tr, .ref fd, .ref po, .int m52, .int m53])) ∧ (f8 ha = .inl (cy 1, 30, .inl gha)) ∧ (f8 dr = .inl (cy 1, 520, .inl G20)) ∧ (f8 ro = .inl (cy 1, 13, .inl G21)) ∧ (f8 lw = .inl (cy 1, 25, .inl glw)) ∧ (f8 st = .inl (cy 1, 20, .inl gst)) ∧ (f8 ct = .inl (cy 1, 4, .inl G22)) ∧ (f8 se = .inl (cy 1, 36, .inl G23)) ∧ (f8 th = .inl (cy 1, 36, .inl G24)) ∧ (f8 cn = .inl (cy 1, 36, .inl G25)) ∧ (f8 db = .inl (cy 1, 5, .inl G26)) ∧ (f8 be = .inl (cy 1, 2574, .inl G27)) ∧ (f8 du = .inl (cy 1, 5200, .inl G28)) ∧ (f8 fo = .inl (cy 1, 180, .inl gfo)) ∧ (f8 pn = .inl (cy 1, 5, .inl G29)) ∧ (f8 wg = .inl (cy 1, 12, .inl G3)) ∧ (f8 wh = .inl (cy 1, 12, .inl G4)) ∧ (f8 tn = .inl (cy 1, 12, .inl gtn)) ∧ (∀ b ∈ L, b ≠ mm → b ≠ ro → b ≠ ct → b ≠ se → b ≠ th → b ≠ cn → b ≠ db → b ≠ be → b ≠ du → b ≠ dr → b ≠ pn → b ≠ wg → b ≠ wh → b ≠ tn → f8 b = f b) ∧ (∀ j : Nat, q_12 j (G21 j)) ∧ (∀ j : Nat, q_law j (G22 j)) ∧ (∀ j : Nat, q_be j (G27 j)) ∧ (∀ j : Nat, q_du j (G28 j)) ∧ (∀ j : Nat, q_drv j (G20 j)) ∧ (lv_has ls 5 [(3, .int K7), (2, .int V30), (0, .ref mm), (1, .int nn)])) _ ⟨0, gro, gct, gse, gth, gcn, gdb, gbe, gdu, gdr, gpn, m30, m38, m36, m26, m40, m41, m42, m24, m25, m27, m28, (-1), f2, rfl, (by first | decide | omega), (by first | decide | omega), (by omega), (by omega), (by omega), hw, hf_mm, hf_ha, hf_dr, hf_ro, hf_lw, hf_st, hf_ct, hf_se, hf_th, hf_cn, hf_db, hf_be, hf_du, hf_fo, hf_pn, hf_wg, hf_wh, hf_tn, hfr, hq_ro, hq_ct, hq_be, hq_du, hq_dr, (lv_sub hl [0, 1, 2, 3] rfl)⟩ (fun n H locs ls hI ih_46 => ?_)
    obtain ⟨K7, G21, G22, G23, G24, G25, G26, G27, G28, G20, G29, RM9, DM10, DN11, XX12, BP13, BG14, BH15, WO16, MN17, IM18, UT19, V30, f8, hn, hk0, hk1, hi0, hi1, hi2, hw, hf_mm, hf_ha, hf_dr, hf_ro, hf_lw, hf_st, hf_ct, hf_se, hf_th, hf_cn, hf_db, hf_be, hf_du, hf_fo, hf_pn, hf_wg, hf_wh, hf_tn, hfr, hq_ro, hq_ct, hq_be, hq_du, hq_dr, hl⟩ := hI
    refine lv_iload_n hx hb dX10_restsBy_46 rfl (lv_at hl 0 rfl) ?_
    refine lv_iload_n hx hb dX10_restsBy_47 rfl (lv_at hl 3 rfl) ?_
    refine z_icmp_gt (tgt := 98) hx hb rfl rfl dX10_restsBy_48 (by decide) (fun c31 => ?_) (fun c31 => ?_)
    · skip
      refine lv_iconst (v := 0) hx hb dX10_restsBy_98 (by decide) ?_
      refine lv_istore_n (lv' := [(3, .int 0), (2, .int V30), (0, .ref mm), (1, .int nn)]) hx hb dX10_restsBy_99 rfl hl (by decide) rfl (fun ls hl => ?_)
      have hzk : (0 : Int32).toInt = 0 := by decide
      refine z_loop (fun n H locs ls => ∃ (K32 : Int32) (G35 : Nat → Int32) (G34 : Nat → Int32) (f33 : Nat → va_E), (n = ((gha 3).toInt - K32.toInt).toNat) ∧ (0 ≤ K32.toInt) ∧ (K32.toInt ≤ (gha 3).toInt) ∧ (z_H D vwCl (z_A L sz) s.heap L f33 H locs) ∧ (f33 mm = .inr (10, [.int m0, .ref wd, .ref my, .ref ce, .ref mv, .ref ta, .int m6, .int m7, .int m8, .int m9, .int m10, .long m11, .int m12, .int m13, .int m14, .int m15, .ref li, .ref ha, .ref lw, .ref st, .ref fo, .ref dr, .int m22, .ref ik, .int WO16, .int MN17, .long XX12, .int IM18, .int UT19, .ref ro, .int RM9, .ref ct, .ref se, .ref th, .ref cn, .ref be, .int DN11, .ref du, .int DM10, .ref db, .int BP13, .int BG14, .int BH15, .ref pn, .ref wg, .ref wh, .ref tn, .ref he, .int m48, .ref tr, .ref fd, .ref po, .int m52, .int m53])) ∧ (f33 ha = .inl (cy 1, 30, .inl gha)) ∧ (f33 dr = .inl (cy 1, 520, .inl G34)) ∧ (f33 ro = .inl (cy 1, 13, .inl G21)) ∧ (f33 lw = .inl (cy 1, 25, .inl glw)) ∧ (f33 st = .inl (cy 1, 20, .inl gst)) ∧ (f33 ct = .inl (cy 1, 4, .inl G22)) ∧ (f33 se = .inl (cy 1, 36, .inl G23)) ∧ (f33 th = .inl (cy 1, 36, .inl G24)) ∧ (f33 cn = .inl (cy 1, 36, .inl G25)) ∧ (f33 db = .inl (cy 1, 5, .inl G26)) ∧ (f33 be = .inl (cy 1, 2574, .inl G27)) ∧ (f33 du = .inl (cy 1, 5200, .inl G28)) ∧ (f33 fo = .inl (cy 1, 180, .inl gfo)) ∧ (f33 pn = .inl (cy 1, 5, .inl G29)) ∧ (f33 wg = .inl (cy 1, 12, .inl G3)) ∧ (f33 wh = .inl (cy 1, 12, .inl G4)) ∧ (f33 tn = .inl (cy 1, 12, .inl G35)) ∧ (∀ b ∈ L, b ≠ mm → b ≠ ro → b ≠ ct → b ≠ se → b ≠ th → b ≠ cn → b ≠ db → b ≠ be → b ≠ du → b ≠ dr → b ≠ pn → b ≠ wg → b ≠ wh → b ≠ tn → f33 b = f b) ∧ (∀ j : Nat, q_drv j (G34 j)) ∧ (lv_has ls 5 [(3, .int K32), (2, .int V30), (0, .ref mm), (1, .int nn)])) _ ⟨0, gtn, G20, f8, rfl, (by first | decide | omega), (by first | decide | omega), hw, hf_mm, hf_ha, hf_dr, hf_ro, hf_lw, hf_st, hf_ct, hf_se, hf_th, hf_cn, hf_db, hf_be, hf_du, hf_fo, hf_pn, hf_wg, hf_wh, hf_tn, hfr, hq_dr, (lv_sub hl [0, 1, 2, 3] rfl)⟩ (fun n H locs ls hI ih_100 => ?_)
      obtain ⟨K32, G35, G34, f33, hn, hk0, hk1, hw, hf_mm, hf_ha, hf_dr, hf_ro, hf_lw, hf_st, hf_ct, hf_se, hf_th, hf_cn, hf_db, hf_be, hf_du, hf_fo, hf_pn, hf_wg, hf_wh, hf_tn, hfr, hq_dr, hl⟩ := hI
      refine lv_iload_n hx hb dX10_restsBy_100 rfl (lv_at hl 0 rfl) ?_
      refine lv_aload_n hx hb dX10_restsBy_101 rfl (lv_at hl 2 rfl) ?_
      refine z_get (C := RX10) (T := TX10) (N := 54) (ci := 10) (v := .ref ha) hx hb hT zin_X10 hown hK hw hm_mm hf_mm rfl 17 (by decide) (hT _ kw_1185) rfl dX10_restsBy_102 ?_
      refine lv_iconst (v := 3) hx hb dX10_restsBy_105 (by decide) ?_
      refine z_iald hx hb hK hw 1 hm_ha hf_ha rfl (z_ix (show (3 : Int32).toInt = 3 by decide) (by decide)) dX10_restsBy_106 ?_
      refine lv_topi (fun w36 e_w36 => ?_)
      have hv_w36 : 0 ≤ w36.toInt ∧ w36.toInt ≤ 12 := by rw [e_w36]; exact (hq_ha _).2.2.2 rfl
      have hgw_w36 : w36.toInt = (gha 3).toInt := by rw [e_w36]; rfl
      refine z_icmp_ge (tgt := 155) hx hb rfl rfl dX10_restsBy_107 (by decide) (fun c37 => ?_) (fun c37 => ?_)
      · skip
        refine lv_iload_n hx hb dX10_restsBy_155 rfl (lv_at hl 1 rfl) ?_
        exact z_iret hx hb hr hlk (by decide) (by decide) hw (⟨hsub, hfr, WO16, MN17, IM18, UT19, RM9, DM10, DN11, BP13, BG14, BH15, XX12, G21, G22, G23, G24, G25, G26, G27, G28, G34, G29, G3, G4, G35, hf_mm, hf_ro, hf_ct, hf_se, hf_th, hf_cn, hf_db, hf_be, hf_du, hf_dr, hf_pn, hf_wg, hf_wh, hf_tn, hq_ro, hq_ct, hq_be, hq_du, hq_dr, hq_wg, hq_wh, by omega, by omega, by omega⟩) dX10_restsBy_156
      · skip
        refine lv_aload_n hx hb dX10_restsBy_110 rfl (lv_at hl 2 rfl) ?_
        refine z_get (C := RX10) (T := TX10) (N := 54) (ci := 10) (v := .ref tn) hx hb hT zin_X10 hown hK hw hm_mm hf_mm rfl 46 (by decide) (hT _ kw_1214) rfl dX10_restsBy_111 ?_
        refine lv_iload_n hx hb dX10_restsBy_114 rfl (lv_at hl 0 rfl) ?_
        refine lv_bipush (v := 100) hx hb dX10_restsBy_115 (by decide) ?_
        refine lv_aload_n hx hb dX10_restsBy_117 rfl (lv_at hl 2 rfl) ?_
        refine lv_iload_n hx hb dX10_restsBy_118 rfl (lv_at hl 0 rfl) ?_
        refine lv_iconst (v := 1) hx hb dX10_restsBy_119 (by decide) ?_
        have hz38 := (show (1 : Int32).toInt = 1 by decide)
        refine z_calliV (cells := 0) (slots := 0) (b := mm) (As := [.int K32, .int 1]) (rest := [.int 100, .int K32, .ref tn]) (ci := 10) (q0 := (RX10, TX10, 54)) ⟨hx, hb, hml, hown, hT⟩ (c_X10_of l hm_mm hm_dr hf_mm hf_dr hq_dr (by first | omega | decide | assumption) (by decide)) (cwV 2 hT (z_goodV (fun _ h => h) kw_1487 kw_1489 kw_51 kw_96 kw_1490) rfl rfl rfl (by decide +kernel) ⟨by decide, by decide⟩) z_mv hKK hK hw hA hm_mm hf_mm rfl rfl rfl hl.1 rfl (Nat.le_of_ble_eq_true rfl) dX10_restsBy_120 ⟨by decide, by decide⟩ (fun r39 u H locs hp hw => ?_)
        obtain ⟨rfl, hp⟩ := hp
        have hw : z_H D vwCl (z_A L sz) s.heap L f33 H locs := hw
        have hof_r39 : r39 = G34 (8 * K32.toNatClampNeg + 1) := hp
        have hh_r39 : 0 ≤ r39.toInt ∧ r39.toInt ≤ 3 := by rw [hof_r39]; exact (hq_dr _).2.1 (by omega)
        refine lv_imul hx hb dX10_restsBy_123 ?_
        refine lv_topi (fun w40 e_w40 => ?_)
        have i_w40 : w40.toInt = (100 * r39.toInt) := z_mul e_w40 (show (100 : Int32).toInt = 100 by decide) rfl (by omega)
        refine lv_aload_n hx hb dX10_restsBy_124 rfl (lv_at hl 2 rfl) ?_
        refine lv_iload_n hx hb dX10_restsBy_125 rfl (lv_at hl 0 rfl) ?_
        refine lv_iconst (v := 3) hx hb dX10_restsBy_126 (by decide) ?_
        have hz41 := (show (3 : Int32).toInt = 3 by decide)
        refine z_calliV (cells := 0) (slots := 0) (b := mm) (As := [.int K32, .int 3]) (rest := [.int w40, .int K32, .ref tn]) (ci := 10) (q0 := (RX10, TX10, 54)) ⟨hx, hb, hml, hown, hT⟩ (c_X10_of l hm_mm hm_dr hf_mm hf_dr hq_dr (by first | omega | decide | assumption) (by decide)) (cwV 2 hT (z_goodV (fun _ h => h) kw_1487 kw_1489 kw_51 kw_96 kw_1490) rfl rfl rfl (by decide +kernel) ⟨by decide, by decide⟩) z_mv hKK hK hw hA hm_mm hf_mm rfl rfl rfl hl.1 rfl (Nat.le_of_ble_eq_true rfl) dX10_restsBy_127 ⟨by decide, by decide⟩ (fun r42 u H locs hp hw => ?_)
        obtain ⟨rfl, hp⟩ := hp
        have hw : z_H D vwCl (z_A L sz) s.heap L f33 H locs := hw
        have hof_r42 : r42 = G34 (8 * K32.toNatClampNeg + 3) := hp
        have hh_r42 : 0 ≤ r42.toInt ∧ r42.toInt ≤ 23 := by rw [hof_r42]; exact (hq_dr _).2.2.2.1 (by omega)
        refine lv_iadd hx hb dX10_restsBy_130 ?_
        refine lv_topi (fun w43 e_w43 => ?_)
        have i_w43 : w43.toInt = ((100 * r39.toInt) + r42.toInt) := z_add e_w43 i_w40 rfl (by omega)
        refine z_iast hx hb hK hw 1 hm_tn hf_tn rfl (z_ix rfl (by omega)) dX10_restsBy_131 (fun H locs hw => ?_)
        obtain ⟨f45, e_f45⟩ : ∃ z, z = va_up f33 tn (.inl (cy 1, 12, .inl (upd G35 K32.toNatClampNeg w43))) := ⟨_, rfl⟩
        rw [← e_f45] at hw
        have hf_mm : f45 mm = .inr (10, [.int m0, .ref wd, .ref my, .ref ce, .ref mv, .ref ta, .int m6, .int m7, .int m8, .int m9, .int m10, .long m11, .int m12, .int m13, .int m14, .int m15, .ref li, .ref ha, .ref lw, .ref st, .ref fo, .ref dr, .int m22, .ref ik, .int WO16, .int MN17, .long XX12, .int IM18, .int UT19, .ref ro, .int RM9, .ref ct, .ref se, .ref th, .ref cn, .ref be, .int DN11, .ref du, .int DM10, .ref db, .int BP13, .int BG14, .int BH15, .ref pn, .ref wg, .ref wh, .ref tn, .ref he, .int m48, .ref tr, .ref fd, .ref po, .int m52, .int m53]) := (congrFun e_f45 mm).trans (z_up_ne (z_tne hf_mm hf_tn (m := 10) (n := 196) rfl rfl (by decide)) hf_mm)
        have hf_ha : f45 ha = .inl (cy 1, 30, .inl gha) := (congrFun e_f45 ha).trans (z_up_ne (z_tne hf_ha hf_tn (m := 340) (n := 196) rfl rfl (by decide)) hf_ha)
        have hf_dr : f45 dr = .inl (cy 1, 520, .inl G34) := (congrFun e_f45 dr).trans (z_up_ne (z_tne hf_dr hf_tn (m := 4260) (n := 196) rfl rfl (by decide)) hf_dr)
        have hf_ro : f45 ro = .inl (cy 1, 13, .inl G21) := (congrFun e_f45 ro).trans (z_up_ne (z_tne hf_ro hf_tn (m := 204) (n := 196) rfl rfl (by decide)) hf_ro)
        have hf_lw : f45 lw = .inl (cy 1, 25, .inl glw) := (congrFun e_f45 lw).trans (z_up_ne (z_tne hf_lw hf_tn (m := 300) (n := 196) rfl rfl (by decide)) hf_lw)
        have hf_st : f45 st = .inl (cy 1, 20, .inl gst) := (congrFun e_f45 st).trans (z_up_ne (z_tne hf_st hf_tn (m := 260) (n := 196) rfl rfl (by decide)) hf_st)
        have hf_ct : f45 ct = .inl (cy 1, 4, .inl G22) := (congrFun e_f45 ct).trans (z_up_ne (z_tne hf_ct hf_tn (m := 132) (n := 196) rfl rfl (by decide)) hf_ct)
        have hf_se : f45 se = .inl (cy 1, 36, .inl G23) := (congrFun e_f45 se).trans (z_up_ne (z_tne hf_se hf_tn (m := 388) (n := 196) rfl rfl (by decide)) hf_se)
        have hf_th : f45 th = .inl (cy 1, 36, .inl G24) := (congrFun e_f45 th).trans (z_up_ne (z_tne hf_th hf_tn (m := 388) (n := 196) rfl rfl (by decide)) hf_th)
        have hf_cn : f45 cn = .inl (cy 1, 36, .inl G25) := (congrFun e_f45 cn).trans (z_up_ne (z_tne hf_cn hf_tn (m := 388) (n := 196) rfl rfl (by decide)) hf_cn)
        have hf_db : f45 db = .inl (cy 1, 5, .inl G26) := (congrFun e_f45 db).trans (z_up_ne (z_tne hf_db hf_tn (m := 140) (n := 196) rfl rfl (by decide)) hf_db)
        have hf_be : f45 be = .inl (cy 1, 2574, .inl G27) := (congrFun e_f45 be).trans (z_up_ne (z_tne hf_be hf_tn (m := 20692) (n := 196) rfl rfl (by decide)) hf_be)
        have hf_du : f45 du = .inl (cy 1, 5200, .inl G28) := (congrFun e_f45 du).trans (z_up_ne (z_tne hf_du hf_tn (m := 41700) (n := 196) rfl rfl (by decide)) hf_du)
        have hf_fo : f45 fo = .inl (cy 1, 180, .inl gfo) := (congrFun e_f45 fo).trans (z_up_ne (z_tne hf_fo hf_tn (m := 1540) (n := 196) rfl rfl (by decide)) hf_fo)
        have hf_pn : f45 pn = .inl (cy 1, 5, .inl G29) := (congrFun e_f45 pn).trans (z_up_ne (z_tne hf_pn hf_tn (m := 140) (n := 196) rfl rfl (by decide)) hf_pn)
        have hf_wg : f45 wg = .inl (cy 1, 12, .inl G3) := (congrFun e_f45 wg).trans (z_up_ne ne_wg_tn hf_wg)
        have hf_wh : f45 wh = .inl (cy 1, 12, .inl G4) := (congrFun e_f45 wh).trans (z_up_ne ne_wh_tn hf_wh)
        have hf_tn : f45 tn = .inl (cy 1, 12, .inl (upd G35 K32.toNatClampNeg w43)) := (congrFun e_f45 tn).trans z_up_self
        have hfr : ∀ b ∈ L, b ≠ mm → b ≠ ro → b ≠ ct → b ≠ se → b ≠ th → b ≠ cn → b ≠ db → b ≠ be → b ≠ du → b ≠ dr → b ≠ pn → b ≠ wg → b ≠ wh → b ≠ tn → f45 b = f b := fun b hb h0 h1 h2 h3 h4 h5 h6 h7 h8 h9 h10 h11 h12 h13 => (congrFun e_f45 b).trans (z_up_ne h13 (hfr b hb h0 h1 h2 h3 h4 h5 h6 h7 h8 h9 h10 h11 h12 h13))
        obtain ⟨g44, e_g44⟩ : ∃ z, z = (upd G35 K32.toNatClampNeg w43) := ⟨_, rfl⟩
        rw [← e_g44] at hf_tn
        refine lv_aload_n hx hb dX10_restsBy_132 rfl (lv_at hl 2 rfl) ?_
        refine lv_iload_n hx hb dX10_restsBy_133 rfl (lv_at hl 0 rfl) ?_
        refine lv_aload_n hx hb dX10_restsBy_134 rfl (lv_at hl 2 rfl) ?_
        refine z_get (C := RX10) (T := TX10) (N := 54) (ci := 10) (v := .ref wg) hx hb hT zin_X10 hown hK hw hm_mm hf_mm rfl 44 (by decide) (hT _ kw_1212) rfl dX10_restsBy_135 ?_
        refine lv_iload_n hx hb dX10_restsBy_138 rfl (lv_at hl 0 rfl) ?_
        refine z_iald hx hb hK hw 1 hm_wg hf_wg rfl (z_ix rfl (by omega)) dX10_restsBy_139 ?_
        refine lv_topi (fun w46 e_w46 => ?_)
        have hv_w46 : 0 ≤ w46.toInt ∧ w46.toInt ≤ 3 := by rw [e_w46]; exact hq_wg _
        refine lv_aload_n hx hb dX10_restsBy_140 rfl (lv_at hl 2 rfl) ?_
        refine z_get (C := RX10) (T := TX10) (N := 54) (ci := 10) (v := .ref wh) hx hb hT zin_X10 hown hK hw hm_mm hf_mm rfl 45 (by decide) (hT _ kw_1213) rfl dX10_restsBy_141 ?_
        refine lv_iload_n hx hb dX10_restsBy_144 rfl (lv_at hl 0 rfl) ?_
        refine z_iald hx hb hK hw 1 hm_wh hf_wh rfl (z_ix rfl (by omega)) dX10_restsBy_145 ?_
        refine lv_topi (fun w47 e_w47 => ?_)
        have hv_w47 : 0 ≤ w47.toInt ∧ w47.toInt ≤ 23 := by rw [e_w47]; exact hq_wh _
        refine z_callvV (cells := 0) (slots := 0) (b := mm) (As := [.int K32, .int w46, .int w47]) (rest := []) (ci := 10) (q0 := (RX10, TX10, 54)) ⟨hx, hb, hml, hown, hT⟩ (c_X10_goesTo l hm_mm hm_dr hf_mm hf_dr hq_dr (by first | omega | decide | assumption) (by first | omega | decide | assumption) (by first | omega | decide | assumption)) (cwV 3 hT (z_goodV (fun _ h => h) kw_1527 kw_1529 kw_56 kw_96 kw_1530) rfl rfl rfl (by decide +kernel) ⟨by decide, by decide⟩) z_mv hKK hK hw hA hm_mm hf_mm rfl rfl rfl hl.1 rfl (Nat.le_of_ble_eq_true rfl) dX10_restsBy_146 ⟨by decide, by decide⟩ (fun u H locs hp hw => ?_)
        obtain ⟨L48, f49⟩ := u
        obtain ⟨hsb, hfm, ndr_50, ha_0, hq_dr, hp⟩ := hp
        have hsb : L = L48 := hsb
        subst hsb
        have hsb : ∀ b ∈ L, b ∈ L := fun _ h => h
        have hw : z_H D vwCl (z_A L sz) s.heap L f49 H locs := hw
        have hfr : ∀ b ∈ L, b ≠ mm → b ≠ ro → b ≠ ct → b ≠ se → b ≠ th → b ≠ cn → b ≠ db → b ≠ be → b ≠ du → b ≠ dr → b ≠ pn → b ≠ wg → b ≠ wh → b ≠ tn → f49 b = f b := fun b hb h0 h1 h2 h3 h4 h5 h6 h7 h8 h9 h10 h11 h12 h13 => (hfm b hb h9).trans (hfr b hb h0 h1 h2 h3 h4 h5 h6 h7 h8 h9 h10 h11 h12 h13)
        have hf_mm : f49 mm = .inr (10, [.int m0, .ref wd, .ref my, .ref ce, .ref mv, .ref ta, .int m6, .int m7, .int m8, .int m9, .int m10, .long m11, .int m12, .int m13, .int m14, .int m15, .ref li, .ref ha, .ref lw, .ref st, .ref fo, .ref dr, .int m22, .ref ik, .int WO16, .int MN17, .long XX12, .int IM18, .int UT19, .ref ro, .int RM9, .ref ct, .ref se, .ref th, .ref cn, .ref be, .int DN11, .ref du, .int DM10, .ref db, .int BP13, .int BG14, .int BH15, .ref pn, .ref wg, .ref wh, .ref tn, .ref he, .int m48, .ref tr, .ref fd, .ref po, .int m52, .int m53]) := (hfm mm hm_mm (z_tne hf_mm hf_dr (m := 10) (n := 4260) rfl rfl (by decide))).trans hf_mm
        have hf_ha : f49 ha = .inl (cy 1, 30, .inl gha) := (hfm ha hm_ha (z_tne hf_ha hf_dr (m := 340) (n := 4260) rfl rfl (by decide))).trans hf_ha
        have hf_ro : f49 ro = .inl (cy 1, 13, .inl G21) := (hfm ro hm_ro (z_tne hf_ro hf_dr (m := 204) (n := 4260) rfl rfl (by decide))).trans hf_ro
        have hf_lw : f49 lw = .inl (cy 1, 25, .inl glw) := (hfm lw hm_lw (z_tne hf_lw hf_dr (m := 300) (n := 4260) rfl rfl (by decide))).trans hf_lw
        have hf_st : f49 st = .inl (cy 1, 20, .inl gst) := (hfm st hm_st (z_tne hf_st hf_dr (m := 260) (n := 4260) rfl rfl (by decide))).trans hf_st
        have hf_ct : f49 ct = .inl (cy 1, 4, .inl G22) := (hfm ct hm_ct (z_tne hf_ct hf_dr (m := 132) (n := 4260) rfl rfl (by decide))).trans hf_ct
        have hf_se : f49 se = .inl (cy 1, 36, .inl G23) := (hfm se hm_se (z_tne hf_se hf_dr (m := 388) (n := 4260) rfl rfl (by decide))).trans hf_se
        have hf_th : f49 th = .inl (cy 1, 36, .inl G24) := (hfm th hm_th (z_tne hf_th hf_dr (m := 388) (n := 4260) rfl rfl (by decide))).trans hf_th
        have hf_cn : f49 cn = .inl (cy 1, 36, .inl G25) := (hfm cn hm_cn (z_tne hf_cn hf_dr (m := 388) (n := 4260) rfl rfl (by decide))).trans hf_cn
        have hf_db : f49 db = .inl (cy 1, 5, .inl G26) := (hfm db hm_db (z_tne hf_db hf_dr (m := 140) (n := 4260) rfl rfl (by decide))).trans hf_db
        have hf_be : f49 be = .inl (cy 1, 2574, .inl G27) := (hfm be hm_be (z_tne hf_be hf_dr (m := 20692) (n := 4260) rfl rfl (by decide))).trans hf_be
        have hf_du : f49 du = .inl (cy 1, 5200, .inl G28) := (hfm du hm_du (z_tne hf_du hf_dr (m := 41700) (n := 4260) rfl rfl (by decide))).trans hf_du
        have hf_fo : f49 fo = .inl (cy 1, 180, .inl gfo) := (hfm fo hm_fo (z_tne hf_fo hf_dr (m := 1540) (n := 4260) rfl rfl (by decide))).trans hf_fo
        have hf_pn : f49 pn = .inl (cy 1, 5, .inl G29) := (hfm pn hm_pn (z_tne hf_pn hf_dr (m := 140) (n := 4260) rfl rfl (by decide))).trans hf_pn
        have hf_wg : f49 wg = .inl (cy 1, 12, .inl G3) := (hfm wg hm_wg (z_tne hf_wg hf_dr (m := 196) (n := 4260) rfl rfl (by decide))).trans hf_wg
        have hf_wh : f49 wh = .inl (cy 1, 12, .inl G4) := (hfm wh hm_wh (z_tne hf_wh hf_dr (m := 196) (n := 4260) rfl rfl (by decide))).trans hf_wh
        have hf_tn : f49 tn = .inl (cy 1, 12, .inl g44) := (hfm tn hm_tn (z_tne hf_tn hf_dr (m := 196) (n := 4260) rfl rfl (by decide))).trans hf_tn
        have hf_dr : f49 dr = .inl (cy 1, 520, .inl ndr_50) := ha_0
        obtain ⟨k51, e_k51⟩ : ∃ z : Int32, z = K32 + 1 := ⟨_, rfl⟩
        refine lv_iinc (v := k51) (lv' := [(3, .int k51), (2, .int V30), (0, .ref mm), (1, .int nn)]) hx hb dX10_restsBy_149 hl (k := 0) rfl (by rw [e_k51]; rfl) (by decide) rfl (fun ls hl => ?_)
        have i_k51 : k51.toInt = (K32.toInt + 1) := z_add e_k51 rfl (by decide) (by omega)
        refine lv_goto (tgt := 100) hx hb dX10_restsBy_152 (by decide) ?_
        exact ih_100 _ (by omega) _ _ _ ⟨k51, g44, ndr_50, f49, rfl, (by first | decide | omega), (by first | decide | omega), hw, hf_mm, hf_ha, hf_dr, hf_ro, hf_lw, hf_st, hf_ct, hf_se, hf_th, hf_cn, hf_db, hf_be, hf_du, hf_fo, hf_pn, hf_wg, hf_wh, hf_tn, hfr, hq_dr, (lv_sub hl [0, 1, 2, 3] rfl)⟩
    · skip
      refine lv_iload_n hx hb dX10_restsBy_51 rfl (lv_at hl 1 rfl) ?_
      refine lv_iconst (v := (-1)) hx hb dX10_restsBy_52 (by decide) ?_
      refine z_icmp_ne (tgt := 98) hx hb rfl (show ((-1) : Int32).toInt = (-1) by decide) dX10_restsBy_53 (by decide) (fun c52 => ?_) (fun c52 => ?_)
      · skip
        refine lv_iconst (v := 0) hx hb dX10_restsBy_98 (by decide) ?_
        refine lv_istore_n (lv' := [(3, .int 0), (2, .int V30), (0, .ref mm), (1, .int nn)]) hx hb dX10_restsBy_99 rfl hl (by decide) rfl (fun ls hl => ?_)
        have hzk : (0 : Int32).toInt = 0 := by decide
        refine z_loop (fun n H locs ls => ∃ (K53 : Int32) (G56 : Nat → Int32) (G55 : Nat → Int32) (f54 : Nat → va_E), (n = ((gha 3).toInt - K53.toInt).toNat) ∧ (0 ≤ K53.toInt) ∧ (K53.toInt ≤ (gha 3).toInt) ∧ (z_H D vwCl (z_A L sz) s.heap L f54 H locs) ∧ (f54 mm = .inr (10, [.int m0, .ref wd, .ref my, .ref ce, .ref mv, .ref ta, .int m6, .int m7, .int m8, .int m9, .int m10, .long m11, .int m12, .int m13, .int m14, .int m15, .ref li, .ref ha, .ref lw, .ref st, .ref fo, .ref dr, .int m22, .ref ik, .int WO16, .int MN17, .long XX12, .int IM18, .int UT19, .ref ro, .int RM9, .ref ct, .ref se, .ref th, .ref cn, .ref be, .int DN11, .ref du, .int DM10, .ref db, .int BP13, .int BG14, .int BH15, .ref pn, .ref wg, .ref wh, .ref tn, .ref he, .int m48, .ref tr, .ref fd, .ref po, .int m52, .int m53])) ∧ (f54 ha = .inl (cy 1, 30, .inl gha)) ∧ (f54 dr = .inl (cy 1, 520, .inl G55)) ∧ (f54 ro = .inl (cy 1, 13, .inl G21)) ∧ (f54 lw = .inl (cy 1, 25, .inl glw)) ∧ (f54 st = .inl (cy 1, 20, .inl gst)) ∧ (f54 ct = .inl (cy 1, 4, .inl G22)) ∧ (f54 se = .inl (cy 1, 36, .inl G23)) ∧ (f54 th = .inl (cy 1, 36, .inl G24)) ∧ (f54 cn = .inl (cy 1, 36, .inl G25)) ∧ (f54 db = .inl (cy 1, 5, .inl G26)) ∧ (f54 be = .inl (cy 1, 2574, .inl G27)) ∧ (f54 du = .inl (cy 1, 5200, .inl G28)) ∧ (f54 fo = .inl (cy 1, 180, .inl gfo)) ∧ (f54 pn = .inl (cy 1, 5, .inl G29)) ∧ (f54 wg = .inl (cy 1, 12, .inl G3)) ∧ (f54 wh = .inl (cy 1, 12, .inl G4)) ∧ (f54 tn = .inl (cy 1, 12, .inl G56)) ∧ (∀ b ∈ L, b ≠ mm → b ≠ ro → b ≠ ct → b ≠ se → b ≠ th → b ≠ cn → b ≠ db → b ≠ be → b ≠ du → b ≠ dr → b ≠ pn → b ≠ wg → b ≠ wh → b ≠ tn → f54 b = f b) ∧ (∀ j : Nat, q_drv j (G55 j)) ∧ (lv_has ls 5 [(3, .int K53), (2, .int V30), (0, .ref mm), (1, .int nn)])) _ ⟨0, gtn, G20, f8, rfl, (by first | decide | omega), (by first | decide | omega), hw, hf_mm, hf_ha, hf_dr, hf_ro, hf_lw, hf_st, hf_ct, hf_se, hf_th, hf_cn, hf_db, hf_be, hf_du, hf_fo, hf_pn, hf_wg, hf_wh, hf_tn, hfr, hq_dr, (lv_sub hl [0, 1, 2, 3] rfl)⟩ (fun n H locs ls hI ih_100 => ?_)
        obtain ⟨K53, G56, G55, f54, hn, hk0, hk1, hw, hf_mm, hf_ha, hf_dr, hf_ro, hf_lw, hf_st, hf_ct, hf_se, hf_th, hf_cn, hf_db, hf_be, hf_du, hf_fo, hf_pn, hf_wg, hf_wh, hf_tn, hfr, hq_dr, hl⟩ := hI
        refine lv_iload_n hx hb dX10_restsBy_100 rfl (lv_at hl 0 rfl) ?_
        refine lv_aload_n hx hb dX10_restsBy_101 rfl (lv_at hl 2 rfl) ?_
        refine z_get (C := RX10) (T := TX10) (N := 54) (ci := 10) (v := .ref ha) hx hb hT zin_X10 hown hK hw hm_mm hf_mm rfl 17 (by decide) (hT _ kw_1185) rfl dX10_restsBy_102 ?_
        refine lv_iconst (v := 3) hx hb dX10_restsBy_105 (by decide) ?_
        refine z_iald hx hb hK hw 1 hm_ha hf_ha rfl (z_ix (show (3 : Int32).toInt = 3 by decide) (by decide)) dX10_restsBy_106 ?_
        refine lv_topi (fun w57 e_w57 => ?_)
        have hv_w57 : 0 ≤ w57.toInt ∧ w57.toInt ≤ 12 := by rw [e_w57]; exact (hq_ha _).2.2.2 rfl
        have hgw_w57 : w57.toInt = (gha 3).toInt := by rw [e_w57]; rfl
        refine z_icmp_ge (tgt := 155) hx hb rfl rfl dX10_restsBy_107 (by decide) (fun c58 => ?_) (fun c58 => ?_)
        · skip
          refine lv_iload_n hx hb dX10_restsBy_155 rfl (lv_at hl 1 rfl) ?_
          exact z_iret hx hb hr hlk (by decide) (by decide) hw (⟨hsub, hfr, WO16, MN17, IM18, UT19, RM9, DM10, DN11, BP13, BG14, BH15, XX12, G21, G22, G23, G24, G25, G26, G27, G28, G55, G29, G3, G4, G56, hf_mm, hf_ro, hf_ct, hf_se, hf_th, hf_cn, hf_db, hf_be, hf_du, hf_dr, hf_pn, hf_wg, hf_wh, hf_tn, hq_ro, hq_ct, hq_be, hq_du, hq_dr, hq_wg, hq_wh, by omega, by omega, by omega⟩) dX10_restsBy_156
        · skip
          refine lv_aload_n hx hb dX10_restsBy_110 rfl (lv_at hl 2 rfl) ?_
          refine z_get (C := RX10) (T := TX10) (N := 54) (ci := 10) (v := .ref tn) hx hb hT zin_X10 hown hK hw hm_mm hf_mm rfl 46 (by decide) (hT _ kw_1214) rfl dX10_restsBy_111 ?_
          refine lv_iload_n hx hb dX10_restsBy_114 rfl (lv_at hl 0 rfl) ?_
          refine lv_bipush (v := 100) hx hb dX10_restsBy_115 (by decide) ?_
          refine lv_aload_n hx hb dX10_restsBy_117 rfl (lv_at hl 2 rfl) ?_
          refine lv_iload_n hx hb dX10_restsBy_118 rfl (lv_at hl 0 rfl) ?_
          refine lv_iconst (v := 1) hx hb dX10_restsBy_119 (by decide) ?_
          have hz59 := (show (1 : Int32).toInt = 1 by decide)
          refine z_calliV (cells := 0) (slots := 0) (b := mm) (As := [.int K53, .int 1]) (rest := [.int 100, .int K53, .ref tn]) (ci := 10) (q0 := (RX10, TX10, 54)) ⟨hx, hb, hml, hown, hT⟩ (c_X10_of l hm_mm hm_dr hf_mm hf_dr hq_dr (by first | omega | decide | assumption) (by decide)) (cwV 2 hT (z_goodV (fun _ h => h) kw_1487 kw_1489 kw_51 kw_96 kw_1490) rfl rfl rfl (by decide +kernel) ⟨by decide, by decide⟩) z_mv hKK hK hw hA hm_mm hf_mm rfl rfl rfl hl.1 rfl (Nat.le_of_ble_eq_true rfl) dX10_restsBy_120 ⟨by decide, by decide⟩ (fun r60 u H locs hp hw => ?_)
          obtain ⟨rfl, hp⟩ := hp
          have hw : z_H D vwCl (z_A L sz) s.heap L f54 H locs := hw
          have hof_r60 : r60 = G55 (8 * K53.toNatClampNeg + 1) := hp
          have hh_r60 : 0 ≤ r60.toInt ∧ r60.toInt ≤ 3 := by rw [hof_r60]; exact (hq_dr _).2.1 (by omega)
          refine lv_imul hx hb dX10_restsBy_123 ?_
          refine lv_topi (fun w61 e_w61 => ?_)
          have i_w61 : w61.toInt = (100 * r60.toInt) := z_mul e_w61 (show (100 : Int32).toInt = 100 by decide) rfl (by omega)
          refine lv_aload_n hx hb dX10_restsBy_124 rfl (lv_at hl 2 rfl) ?_
          refine lv_iload_n hx hb dX10_restsBy_125 rfl (lv_at hl 0 rfl) ?_
          refine lv_iconst (v := 3) hx hb dX10_restsBy_126 (by decide) ?_
          have hz62 := (show (3 : Int32).toInt = 3 by decide)
          refine z_calliV (cells := 0) (slots := 0) (b := mm) (As := [.int K53, .int 3]) (rest := [.int w61, .int K53, .ref tn]) (ci := 10) (q0 := (RX10, TX10, 54)) ⟨hx, hb, hml, hown, hT⟩ (c_X10_of l hm_mm hm_dr hf_mm hf_dr hq_dr (by first | omega | decide | assumption) (by decide)) (cwV 2 hT (z_goodV (fun _ h => h) kw_1487 kw_1489 kw_51 kw_96 kw_1490) rfl rfl rfl (by decide +kernel) ⟨by decide, by decide⟩) z_mv hKK hK hw hA hm_mm hf_mm rfl rfl rfl hl.1 rfl (Nat.le_of_ble_eq_true rfl) dX10_restsBy_127 ⟨by decide, by decide⟩ (fun r63 u H locs hp hw => ?_)
          obtain ⟨rfl, hp⟩ := hp
          have hw : z_H D vwCl (z_A L sz) s.heap L f54 H locs := hw
          have hof_r63 : r63 = G55 (8 * K53.toNatClampNeg + 3) := hp
          have hh_r63 : 0 ≤ r63.toInt ∧ r63.toInt ≤ 23 := by rw [hof_r63]; exact (hq_dr _).2.2.2.1 (by omega)
          refine lv_iadd hx hb dX10_restsBy_130 ?_
          refine lv_topi (fun w64 e_w64 => ?_)
          have i_w64 : w64.toInt = ((100 * r60.toInt) + r63.toInt) := z_add e_w64 i_w61 rfl (by omega)
          refine z_iast hx hb hK hw 1 hm_tn hf_tn rfl (z_ix rfl (by omega)) dX10_restsBy_131 (fun H locs hw => ?_)
          obtain ⟨f66, e_f66⟩ : ∃ z, z = va_up f54 tn (.inl (cy 1, 12, .inl (upd G56 K53.toNatClampNeg w64))) := ⟨_, rfl⟩
          rw [← e_f66] at hw
          have hf_mm : f66 mm = .inr (10, [.int m0, .ref wd, .ref my, .ref ce, .ref mv, .ref ta, .int m6, .int m7, .int m8, .int m9, .int m10, .long m11, .int m12, .int m13, .int m14, .int m15, .ref li, .ref ha, .ref lw, .ref st, .ref fo, .ref dr, .int m22, .ref ik, .int WO16, .int MN17, .long XX12, .int IM18, .int UT19, .ref ro, .int RM9, .ref ct, .ref se, .ref th, .ref cn, .ref be, .int DN11, .ref du, .int DM10, .ref db, .int BP13, .int BG14, .int BH15, .ref pn, .ref wg, .ref wh, .ref tn, .ref he, .int m48, .ref tr, .ref fd, .ref po, .int m52, .int m53]) := (congrFun e_f66 mm).trans (z_up_ne (z_tne hf_mm hf_tn (m := 10) (n := 196) rfl rfl (by decide)) hf_mm)
          have hf_ha : f66 ha = .inl (cy 1, 30, .inl gha) := (congrFun e_f66 ha).trans (z_up_ne (z_tne hf_ha hf_tn (m := 340) (n := 196) rfl rfl (by decide)) hf_ha)
          have hf_dr : f66 dr = .inl (cy 1, 520, .inl G55) := (congrFun e_f66 dr).trans (z_up_ne (z_tne hf_dr hf_tn (m := 4260) (n := 196) rfl rfl (by decide)) hf_dr)
          have hf_ro : f66 ro = .inl (cy 1, 13, .inl G21) := (congrFun e_f66 ro).trans (z_up_ne (z_tne hf_ro hf_tn (m := 204) (n := 196) rfl rfl (by decide)) hf_ro)
          have hf_lw : f66 lw = .inl (cy 1, 25, .inl glw) := (congrFun e_f66 lw).trans (z_up_ne (z_tne hf_lw hf_tn (m := 300) (n := 196) rfl rfl (by decide)) hf_lw)
          have hf_st : f66 st = .inl (cy 1, 20, .inl gst) := (congrFun e_f66 st).trans (z_up_ne (z_tne hf_st hf_tn (m := 260) (n := 196) rfl rfl (by decide)) hf_st)
          have hf_ct : f66 ct = .inl (cy 1, 4, .inl G22) := (congrFun e_f66 ct).trans (z_up_ne (z_tne hf_ct hf_tn (m := 132) (n := 196) rfl rfl (by decide)) hf_ct)
          have hf_se : f66 se = .inl (cy 1, 36, .inl G23) := (congrFun e_f66 se).trans (z_up_ne (z_tne hf_se hf_tn (m := 388) (n := 196) rfl rfl (by decide)) hf_se)
          have hf_th : f66 th = .inl (cy 1, 36, .inl G24) := (congrFun e_f66 th).trans (z_up_ne (z_tne hf_th hf_tn (m := 388) (n := 196) rfl rfl (by decide)) hf_th)
          have hf_cn : f66 cn = .inl (cy 1, 36, .inl G25) := (congrFun e_f66 cn).trans (z_up_ne (z_tne hf_cn hf_tn (m := 388) (n := 196) rfl rfl (by decide)) hf_cn)
          have hf_db : f66 db = .inl (cy 1, 5, .inl G26) := (congrFun e_f66 db).trans (z_up_ne (z_tne hf_db hf_tn (m := 140) (n := 196) rfl rfl (by decide)) hf_db)
          have hf_be : f66 be = .inl (cy 1, 2574, .inl G27) := (congrFun e_f66 be).trans (z_up_ne (z_tne hf_be hf_tn (m := 20692) (n := 196) rfl rfl (by decide)) hf_be)
          have hf_du : f66 du = .inl (cy 1, 5200, .inl G28) := (congrFun e_f66 du).trans (z_up_ne (z_tne hf_du hf_tn (m := 41700) (n := 196) rfl rfl (by decide)) hf_du)
          have hf_fo : f66 fo = .inl (cy 1, 180, .inl gfo) := (congrFun e_f66 fo).trans (z_up_ne (z_tne hf_fo hf_tn (m := 1540) (n := 196) rfl rfl (by decide)) hf_fo)
          have hf_pn : f66 pn = .inl (cy 1, 5, .inl G29) := (congrFun e_f66 pn).trans (z_up_ne (z_tne hf_pn hf_tn (m := 140) (n := 196) rfl rfl (by decide)) hf_pn)
          have hf_wg : f66 wg = .inl (cy 1, 12, .inl G3) := (congrFun e_f66 wg).trans (z_up_ne ne_wg_tn hf_wg)
          have hf_wh : f66 wh = .inl (cy 1, 12, .inl G4) := (congrFun e_f66 wh).trans (z_up_ne ne_wh_tn hf_wh)
          have hf_tn : f66 tn = .inl (cy 1, 12, .inl (upd G56 K53.toNatClampNeg w64)) := (congrFun e_f66 tn).trans z_up_self
          have hfr : ∀ b ∈ L, b ≠ mm → b ≠ ro → b ≠ ct → b ≠ se → b ≠ th → b ≠ cn → b ≠ db → b ≠ be → b ≠ du → b ≠ dr → b ≠ pn → b ≠ wg → b ≠ wh → b ≠ tn → f66 b = f b := fun b hb h0 h1 h2 h3 h4 h5 h6 h7 h8 h9 h10 h11 h12 h13 => (congrFun e_f66 b).trans (z_up_ne h13 (hfr b hb h0 h1 h2 h3 h4 h5 h6 h7 h8 h9 h10 h11 h12 h13))
          obtain ⟨g65, e_g65⟩ : ∃ z, z = (upd G56 K53.toNatClampNeg w64) := ⟨_, rfl⟩
          rw [← e_g65] at hf_tn
          refine lv_aload_n hx hb dX10_restsBy_132 rfl (lv_at hl 2 rfl) ?_
          refine lv_iload_n hx hb dX10_restsBy_133 rfl (lv_at hl 0 rfl) ?_
          refine lv_aload_n hx hb dX10_restsBy_134 rfl (lv_at hl 2 rfl) ?_
          refine z_get (C := RX10) (T := TX10) (N := 54) (ci := 10) (v := .ref wg) hx hb hT zin_X10 hown hK hw hm_mm hf_mm rfl 44 (by decide) (hT _ kw_1212) rfl dX10_restsBy_135 ?_
          refine lv_iload_n hx hb dX10_restsBy_138 rfl (lv_at hl 0 rfl) ?_
          refine z_iald hx hb hK hw 1 hm_wg hf_wg rfl (z_ix rfl (by omega)) dX10_restsBy_139 ?_
          refine lv_topi (fun w67 e_w67 => ?_)
          have hv_w67 : 0 ≤ w67.toInt ∧ w67.toInt ≤ 3 := by rw [e_w67]; exact hq_wg _
          refine lv_aload_n hx hb dX10_restsBy_140 rfl (lv_at hl 2 rfl) ?_
          refine z_get (C := RX10) (T := TX10) (N := 54) (ci := 10) (v := .ref wh) hx hb hT zin_X10 hown hK hw hm_mm hf_mm rfl 45 (by decide) (hT _ kw_1213) rfl dX10_restsBy_141 ?_
          refine lv_iload_n hx hb dX10_restsBy_144 rfl (lv_at hl 0 rfl) ?_
          refine z_iald hx hb hK hw 1 hm_wh hf_wh rfl (z_ix rfl (by omega)) dX10_restsBy_145 ?_
          refine lv_topi (fun w68 e_w68 => ?_)
          have hv_w68 : 0 ≤ w68.toInt ∧ w68.toInt ≤ 23 := by rw [e_w68]; exact hq_wh _
          refine z_callvV (cells := 0) (slots := 0) (b := mm) (As := [.int K53, .int w67, .int w68]) (rest := []) (ci := 10) (q0 := (RX10, TX10, 54)) ⟨hx, hb, hml, hown, hT⟩ (c_X10_goesTo l hm_mm hm_dr hf_mm hf_dr hq_dr (by first | omega | decide | assumption) (by first | omega | decide | assumption) (by first | omega | decide | assumption)) (cwV 3 hT (z_goodV (fun _ h => h) kw_1527 kw_1529 kw_56 kw_96 kw_1530) rfl rfl rfl (by decide +kernel) ⟨by decide, by decide⟩) z_mv hKK hK hw hA hm_mm hf_mm rfl rfl rfl hl.1 rfl (Nat.le_of_ble_eq_true rfl) dX10_restsBy_146 ⟨by decide, by decide⟩ (fun u H locs hp hw => ?_)
          obtain ⟨L69, f70⟩ := u
          obtain ⟨hsb, hfm, ndr_71, ha_0, hq_dr, hp⟩ := hp
          have hsb : L = L69 := hsb
          subst hsb
          have hsb : ∀ b ∈ L, b ∈ L := fun _ h => h
          have hw : z_H D vwCl (z_A L sz) s.heap L f70 H locs := hw
          have hfr : ∀ b ∈ L, b ≠ mm → b ≠ ro → b ≠ ct → b ≠ se → b ≠ th → b ≠ cn → b ≠ db → b ≠ be → b ≠ du → b ≠ dr → b ≠ pn → b ≠ wg → b ≠ wh → b ≠ tn → f70 b = f b := fun b hb h0 h1 h2 h3 h4 h5 h6 h7 h8 h9 h10 h11 h12 h13 => (hfm b hb h9).trans (hfr b hb h0 h1 h2 h3 h4 h5 h6 h7 h8 h9 h10 h11 h12 h13)
          have hf_mm : f70 mm = .inr (10, [.int m0, .ref wd, .ref my, .ref ce, .ref mv, .ref ta, .int m6, .int m7, .int m8, .int m9, .int m10, .long m11, .int m12, .int m13, .int m14, .int m15, .ref li, .ref ha, .ref lw, .ref st, .ref fo, .ref dr, .int m22, .ref ik, .int WO16, .int MN17, .long XX12, .int IM18, .int UT19, .ref ro, .int RM9, .ref ct, .ref se, .ref th, .ref cn, .ref be, .int DN11, .ref du, .int DM10, .ref db, .int BP13, .int BG14, .int BH15, .ref pn, .ref wg, .ref wh, .ref tn, .ref he, .int m48, .ref tr, .ref fd, .ref po, .int m52, .int m53]) := (hfm mm hm_mm (z_tne hf_mm hf_dr (m := 10) (n := 4260) rfl rfl (by decide))).trans hf_mm
          have hf_ha : f70 ha = .inl (cy 1, 30, .inl gha) := (hfm ha hm_ha (z_tne hf_ha hf_dr (m := 340) (n := 4260) rfl rfl (by decide))).trans hf_ha
          have hf_ro : f70 ro = .inl (cy 1, 13, .inl G21) := (hfm ro hm_ro (z_tne hf_ro hf_dr (m := 204) (n := 4260) rfl rfl (by decide))).trans hf_ro
          have hf_lw : f70 lw = .inl (cy 1, 25, .inl glw) := (hfm lw hm_lw (z_tne hf_lw hf_dr (m := 300) (n := 4260) rfl rfl (by decide))).trans hf_lw
          have hf_st : f70 st = .inl (cy 1, 20, .inl gst) := (hfm st hm_st (z_tne hf_st hf_dr (m := 260) (n := 4260) rfl rfl (by decide))).trans hf_st
          have hf_ct : f70 ct = .inl (cy 1, 4, .inl G22) := (hfm ct hm_ct (z_tne hf_ct hf_dr (m := 132) (n := 4260) rfl rfl (by decide))).trans hf_ct
          have hf_se : f70 se = .inl (cy 1, 36, .inl G23) := (hfm se hm_se (z_tne hf_se hf_dr (m := 388) (n := 4260) rfl rfl (by decide))).trans hf_se
          have hf_th : f70 th = .inl (cy 1, 36, .inl G24) := (hfm th hm_th (z_tne hf_th hf_dr (m := 388) (n := 4260) rfl rfl (by decide))).trans hf_th
          have hf_cn : f70 cn = .inl (cy 1, 36, .inl G25) := (hfm cn hm_cn (z_tne hf_cn hf_dr (m := 388) (n := 4260) rfl rfl (by decide))).trans hf_cn
          have hf_db : f70 db = .inl (cy 1, 5, .inl G26) := (hfm db hm_db (z_tne hf_db hf_dr (m := 140) (n := 4260) rfl rfl (by decide))).trans hf_db
          have hf_be : f70 be = .inl (cy 1, 2574, .inl G27) := (hfm be hm_be (z_tne hf_be hf_dr (m := 20692) (n := 4260) rfl rfl (by decide))).trans hf_be
          have hf_du : f70 du = .inl (cy 1, 5200, .inl G28) := (hfm du hm_du (z_tne hf_du hf_dr (m := 41700) (n := 4260) rfl rfl (by decide))).trans hf_du
          have hf_fo : f70 fo = .inl (cy 1, 180, .inl gfo) := (hfm fo hm_fo (z_tne hf_fo hf_dr (m := 1540) (n := 4260) rfl rfl (by decide))).trans hf_fo
          have hf_pn : f70 pn = .inl (cy 1, 5, .inl G29) := (hfm pn hm_pn (z_tne hf_pn hf_dr (m := 140) (n := 4260) rfl rfl (by decide))).trans hf_pn
          have hf_wg : f70 wg = .inl (cy 1, 12, .inl G3) := (hfm wg hm_wg (z_tne hf_wg hf_dr (m := 196) (n := 4260) rfl rfl (by decide))).trans hf_wg
          have hf_wh : f70 wh = .inl (cy 1, 12, .inl G4) := (hfm wh hm_wh (z_tne hf_wh hf_dr (m := 196) (n := 4260) rfl rfl (by decide))).trans hf_wh
          have hf_tn : f70 tn = .inl (cy 1, 12, .inl g65) := (hfm tn hm_tn (z_tne hf_tn hf_dr (m := 196) (n := 4260) rfl rfl (by decide))).trans hf_tn
          have hf_dr : f70 dr = .inl (cy 1, 520, .inl ndr_71) := ha_0
          obtain ⟨k72, e_k72⟩ : ∃ z : Int32, z = K53 + 1 := ⟨_, rfl⟩
          refine lv_iinc (v := k72) (lv' := [(3, .int k72), (2, .int V30), (0, .ref mm), (1, .int nn)]) hx hb dX10_restsBy_149 hl (k := 0) rfl (by rw [e_k72]; rfl) (by decide) rfl (fun ls hl => ?_)
          have i_k72 : k72.toInt = (K53.toInt + 1) := z_add e_k72 rfl (by decide) (by omega)
          refine lv_goto (tgt := 100) hx hb dX10_restsBy_152 (by decide) ?_
          exact ih_100 _ (by omega) _ _ _ ⟨k72, g65, ndr_71, f70, rfl, (by first | decide | omega), (by first | decide | omega), hw, hf_mm, hf_ha, hf_dr, hf_ro, hf_lw, hf_st, hf_ct, hf_se, hf_th, hf_cn, hf_db, hf_be, hf_du, hf_fo, hf_pn, hf_wg, hf_wh, hf_tn, hfr, hq_dr, (lv_sub hl [0, 1, 2, 3] rfl)⟩
      · skip
        refine lv_aload_n hx hb dX10_restsBy_56 rfl (lv_at hl 2 rfl) ?_
        refine z_calliV (cells := 0) (slots := 0) (b := mm) (As := []) (rest := []) (ci := 10) (q0 := (RX10, TX10, 54)) ⟨hx, hb, hml, hown, hT⟩ (c_X10_restless l hm_mm hm_ha hm_dr hm_ro hm_lw hm_st hm_ct hm_se hm_th hm_cn hm_db hm_be hm_du hm_fo hm_pn hf_mm hf_ha hf_dr hf_ro hf_lw hf_st hf_ct hf_se hf_th hf_cn hf_db hf_be hf_du hf_fo hf_pn ne_se_th ne_se_cn ne_th_cn ne_db_pn hq_ha hq_dr hq_ro hq_lw hq_st hq_ct hq_be hq_du (by first | omega | decide | assumption) hea (by first | omega | decide | assumption) (by first | omega | decide | assumption)) (cwV 0 hT (z_goodV (fun _ h => h) kw_1644 kw_1646 kw_73 kw_96 kw_1647) rfl rfl rfl (by decide +kernel) ⟨by decide, by decide⟩) z_mv hKK hK hw hA hm_mm hf_mm rfl rfl rfl hl.1 rfl (Nat.le_of_ble_eq_true rfl) dX10_restsBy_57 ⟨by decide, by decide⟩ (fun r73 u H locs hp hw => ?_)
        obtain ⟨L74, f75⟩ := u
        obtain ⟨hsb, hfm, mn2_76, n2_77, d2_78, y2_79, bp2_80, bg2_81, bh2_82, x2_83, nro_84, nct_85, nse_86, nth_87, ncn_88, ndb_89, nbe_90, ndu_91, ndr_92, npn_93, ha_0, ha_1, ha_2, ha_3, ha_4, ha_5, ha_6, ha_7, ha_8, ha_9, ha_10, hq_ro, hq_ct, hq_be, hq_du, hq_dr, hp⟩ := hp
        have hsb : L = L74 := hsb
        subst hsb
        have hsb : ∀ b ∈ L, b ∈ L := fun _ h => h
        have hw : z_H D vwCl (z_A L sz) s.heap L f75 H locs := hw
        have hfr : ∀ b ∈ L, b ≠ mm → b ≠ ro → b ≠ ct → b ≠ se → b ≠ th → b ≠ cn → b ≠ db → b ≠ be → b ≠ du → b ≠ dr → b ≠ pn → b ≠ wg → b ≠ wh → b ≠ tn → f75 b = f b := fun b hb h0 h1 h2 h3 h4 h5 h6 h7 h8 h9 h10 h11 h12 h13 => (hfm b hb h0 h1 h2 h3 h4 h5 h6 h7 h8 h9 h10).trans (hfr b hb h0 h1 h2 h3 h4 h5 h6 h7 h8 h9 h10 h11 h12 h13)
        have hf_ha : f75 ha = .inl (cy 1, 30, .inl gha) := (hfm ha hm_ha (z_tne hf_ha hf_mm (m := 340) (n := 10) rfl rfl (by decide)) (z_tne hf_ha hf_ro (m := 340) (n := 204) rfl rfl (by decide)) (z_tne hf_ha hf_ct (m := 340) (n := 132) rfl rfl (by decide)) (z_tne hf_ha hf_se (m := 340) (n := 388) rfl rfl (by decide)) (z_tne hf_ha hf_th (m := 340) (n := 388) rfl rfl (by decide)) (z_tne hf_ha hf_cn (m := 340) (n := 388) rfl rfl (by decide)) (z_tne hf_ha hf_db (m := 340) (n := 140) rfl rfl (by decide)) (z_tne hf_ha hf_be (m := 340) (n := 20692) rfl rfl (by decide)) (z_tne hf_ha hf_du (m := 340) (n := 41700) rfl rfl (by decide)) (z_tne hf_ha hf_dr (m := 340) (n := 4260) rfl rfl (by decide)) (z_tne hf_ha hf_pn (m := 340) (n := 140) rfl rfl (by decide))).trans hf_ha
        have hf_lw : f75 lw = .inl (cy 1, 25, .inl glw) := (hfm lw hm_lw (z_tne hf_lw hf_mm (m := 300) (n := 10) rfl rfl (by decide)) (z_tne hf_lw hf_ro (m := 300) (n := 204) rfl rfl (by decide)) (z_tne hf_lw hf_ct (m := 300) (n := 132) rfl rfl (by decide)) (z_tne hf_lw hf_se (m := 300) (n := 388) rfl rfl (by decide)) (z_tne hf_lw hf_th (m := 300) (n := 388) rfl rfl (by decide)) (z_tne hf_lw hf_cn (m := 300) (n := 388) rfl rfl (by decide)) (z_tne hf_lw hf_db (m := 300) (n := 140) rfl rfl (by decide)) (z_tne hf_lw hf_be (m := 300) (n := 20692) rfl rfl (by decide)) (z_tne hf_lw hf_du (m := 300) (n := 41700) rfl rfl (by decide)) (z_tne hf_lw hf_dr (m := 300) (n := 4260) rfl rfl (by decide)) (z_tne hf_lw hf_pn (m := 300) (n := 140) rfl rfl (by decide))).trans hf_lw
        have hf_st : f75 st = .inl (cy 1, 20, .inl gst) := (hfm st hm_st (z_tne hf_st hf_mm (m := 260) (n := 10) rfl rfl (by decide)) (z_tne hf_st hf_ro (m := 260) (n := 204) rfl rfl (by decide)) (z_tne hf_st hf_ct (m := 260) (n := 132) rfl rfl (by decide)) (z_tne hf_st hf_se (m := 260) (n := 388) rfl rfl (by decide)) (z_tne hf_st hf_th (m := 260) (n := 388) rfl rfl (by decide)) (z_tne hf_st hf_cn (m := 260) (n := 388) rfl rfl (by decide)) (z_tne hf_st hf_db (m := 260) (n := 140) rfl rfl (by decide)) (z_tne hf_st hf_be (m := 260) (n := 20692) rfl rfl (by decide)) (z_tne hf_st hf_du (m := 260) (n := 41700) rfl rfl (by decide)) (z_tne hf_st hf_dr (m := 260) (n := 4260) rfl rfl (by decide)) (z_tne hf_st hf_pn (m := 260) (n := 140) rfl rfl (by decide))).trans hf_st
        have hf_fo : f75 fo = .inl (cy 1, 180, .inl gfo) := (hfm fo hm_fo (z_tne hf_fo hf_mm (m := 1540) (n := 10) rfl rfl (by decide)) (z_tne hf_fo hf_ro (m := 1540) (n := 204) rfl rfl (by decide)) (z_tne hf_fo hf_ct (m := 1540) (n := 132) rfl rfl (by decide)) (z_tne hf_fo hf_se (m := 1540) (n := 388) rfl rfl (by decide)) (z_tne hf_fo hf_th (m := 1540) (n := 388) rfl rfl (by decide)) (z_tne hf_fo hf_cn (m := 1540) (n := 388) rfl rfl (by decide)) (z_tne hf_fo hf_db (m := 1540) (n := 140) rfl rfl (by decide)) (z_tne hf_fo hf_be (m := 1540) (n := 20692) rfl rfl (by decide)) (z_tne hf_fo hf_du (m := 1540) (n := 41700) rfl rfl (by decide)) (z_tne hf_fo hf_dr (m := 1540) (n := 4260) rfl rfl (by decide)) (z_tne hf_fo hf_pn (m := 1540) (n := 140) rfl rfl (by decide))).trans hf_fo
        have hf_wg : f75 wg = .inl (cy 1, 12, .inl G3) := (hfm wg hm_wg (z_tne hf_wg hf_mm (m := 196) (n := 10) rfl rfl (by decide)) (z_tne hf_wg hf_ro (m := 196) (n := 204) rfl rfl (by decide)) (z_tne hf_wg hf_ct (m := 196) (n := 132) rfl rfl (by decide)) (z_tne hf_wg hf_se (m := 196) (n := 388) rfl rfl (by decide)) (z_tne hf_wg hf_th (m := 196) (n := 388) rfl rfl (by decide)) (z_tne hf_wg hf_cn (m := 196) (n := 388) rfl rfl (by decide)) (z_tne hf_wg hf_db (m := 196) (n := 140) rfl rfl (by decide)) (z_tne hf_wg hf_be (m := 196) (n := 20692) rfl rfl (by decide)) (z_tne hf_wg hf_du (m := 196) (n := 41700) rfl rfl (by decide)) (z_tne hf_wg hf_dr (m := 196) (n := 4260) rfl rfl (by decide)) (z_tne hf_wg hf_pn (m := 196) (n := 140) rfl rfl (by decide))).trans hf_wg
        have hf_wh : f75 wh = .inl (cy 1, 12, .inl G4) := (hfm wh hm_wh (z_tne hf_wh hf_mm (m := 196) (n := 10) rfl rfl (by decide)) (z_tne hf_wh hf_ro (m := 196) (n := 204) rfl rfl (by decide)) (z_tne hf_wh hf_ct (m := 196) (n := 132) rfl rfl (by decide)) (z_tne hf_wh hf_se (m := 196) (n := 388) rfl rfl (by decide)) (z_tne hf_wh hf_th (m := 196) (n := 388) rfl rfl (by decide)) (z_tne hf_wh hf_cn (m := 196) (n := 388) rfl rfl (by decide)) (z_tne hf_wh hf_db (m := 196) (n := 140) rfl rfl (by decide)) (z_tne hf_wh hf_be (m := 196) (n := 20692) rfl rfl (by decide)) (z_tne hf_wh hf_du (m := 196) (n := 41700) rfl rfl (by decide)) (z_tne hf_wh hf_dr (m := 196) (n := 4260) rfl rfl (by decide)) (z_tne hf_wh hf_pn (m := 196) (n := 140) rfl rfl (by decide))).trans hf_wh
        have hf_tn : f75 tn = .inl (cy 1, 12, .inl gtn) := (hfm tn hm_tn (z_tne hf_tn hf_mm (m := 196) (n := 10) rfl rfl (by decide)) (z_tne hf_tn hf_ro (m := 196) (n := 204) rfl rfl (by decide)) (z_tne hf_tn hf_ct (m := 196) (n := 132) rfl rfl (by decide)) (z_tne hf_tn hf_se (m := 196) (n := 388) rfl rfl (by decide)) (z_tne hf_tn hf_th (m := 196) (n := 388) rfl rfl (by decide)) (z_tne hf_tn hf_cn (m := 196) (n := 388) rfl rfl (by decide)) (z_tne hf_tn hf_db (m := 196) (n := 140) rfl rfl (by decide)) (z_tne hf_tn hf_be (m := 196) (n := 20692) rfl rfl (by decide)) (z_tne hf_tn hf_du (m := 196) (n := 41700) rfl rfl (by decide)) (z_tne hf_tn hf_dr (m := 196) (n := 4260) rfl rfl (by decide)) (z_tne hf_tn hf_pn (m := 196) (n := 140) rfl rfl (by decide))).trans hf_tn
        have hf_mm : f75 mm = .inr (10, [.int m0, .ref wd, .ref my, .ref ce, .ref mv, .ref ta, .int m6, .int m7, .int m8, .int m9, .int m10, .long m11, .int m12, .int m13, .int m14, .int m15, .ref li, .ref ha, .ref lw, .ref st, .ref fo, .ref dr, .int m22, .ref ik, .int (-1), .int mn2_76, .long x2_83, .int 0, .int 1000, .ref ro, .int n2_77, .ref ct, .ref se, .ref th, .ref cn, .ref be, .int y2_79, .ref du, .int d2_78, .ref db, .int bp2_80, .int bg2_81, .int bh2_82, .ref pn, .ref wg, .ref wh, .ref tn, .ref he, .int m48, .ref tr, .ref fd, .ref po, .int m52, .int m53]) := ha_0
        have hf_ro : f75 ro = .inl (cy 1, 13, .inl nro_84) := ha_1
        have hf_ct : f75 ct = .inl (cy 1, 4, .inl nct_85) := ha_2
        have hf_se : f75 se = .inl (cy 1, 36, .inl nse_86) := ha_3
        have hf_th : f75 th = .inl (cy 1, 36, .inl nth_87) := ha_4
        have hf_cn : f75 cn = .inl (cy 1, 36, .inl ncn_88) := ha_5
        have hf_db : f75 db = .inl (cy 1, 5, .inl ndb_89) := ha_6
        have hf_be : f75 be = .inl (cy 1, 2574, .inl nbe_90) := ha_7
        have hf_du : f75 du = .inl (cy 1, 5200, .inl ndu_91) := ha_8
        have hf_dr : f75 dr = .inl (cy 1, 520, .inl ndr_92) := ha_9
        have hf_pn : f75 pn = .inl (cy 1, 5, .inl npn_93) := ha_10
        have hq94 := hp
        refine lv_istore (lv' := [(4, .int r73), (3, .int K7), (2, .int V30), (0, .ref mm), (1, .int nn)]) hx hb dX10_restsBy_60 hl (by decide) rfl (fun ls hl => ?_)
        refine lv_iload hx hb dX10_restsBy_62 (lv_at hl 0 rfl) ?_
        refine lv_iconst (v := (-1)) hx hb dX10_restsBy_64 (by decide) ?_
        refine z_icmp_ne (tgt := 73) hx hb rfl (show ((-1) : Int32).toInt = (-1) by decide) dX10_restsBy_65 (by decide) (fun c95 => ?_) (fun c95 => ?_)
        · skip
          refine lv_iload_n hx hb dX10_restsBy_73 rfl (lv_at hl 1 rfl) ?_
          refine lv_iload_n hx hb dX10_restsBy_74 rfl (lv_at hl 4 rfl) ?_
          refine z_icmp_ge (tgt := 92) hx hb rfl rfl dX10_restsBy_75 (by decide) (fun c96 => ?_) (fun c96 => ?_)
          · skip
            obtain ⟨k97, e_k97⟩ : ∃ z : Int32, z = K7 + 1 := ⟨_, rfl⟩
            refine lv_iinc (v := k97) (lv' := [(3, .int k97), (4, .int r73), (2, .int V30), (0, .ref mm), (1, .int nn)]) hx hb dX10_restsBy_92 hl (k := 1) rfl (by rw [e_k97]; rfl) (by decide) rfl (fun ls hl => ?_)
            have i_k97 : k97.toInt = (K7.toInt + 1) := z_add e_k97 rfl (by decide) (by omega)
            refine lv_goto (tgt := 46) hx hb dX10_restsBy_95 (by decide) ?_
            exact ih_46 _ (by omega) _ _ _ ⟨k97, nro_84, nct_85, nse_86, nth_87, ncn_88, ndb_89, nbe_90, ndu_91, ndr_92, npn_93, n2_77, d2_78, y2_79, x2_83, bp2_80, bg2_81, bh2_82, (-1), mn2_76, 0, 1000, V30, f75, rfl, (by first | decide | omega), (by first | decide | omega), (by omega), (by omega), (by omega), hw, hf_mm, hf_ha, hf_dr, hf_ro, hf_lw, hf_st, hf_ct, hf_se, hf_th, hf_cn, hf_db, hf_be, hf_du, hf_fo, hf_pn, hf_wg, hf_wh, hf_tn, hfr, hq_ro, hq_ct, hq_be, hq_du, hq_dr, (lv_sub hl [0, 2, 3, 4] rfl)⟩
          · skip
            refine lv_aload_n hx hb dX10_restsBy_78 rfl (lv_at hl 3 rfl) ?_
            refine lv_iload hx hb dX10_restsBy_79 (lv_at hl 0 rfl) ?_
            refine lv_aload_n hx hb dX10_restsBy_81 rfl (lv_at hl 3 rfl) ?_
            refine z_get (C := RX10) (T := TX10) (N := 54) (ci := 10) (v := .int bg2_81) hx hb hT zin_X10 hown hK hw hm_mm hf_mm rfl 41 (by decide) (hT _ kw_1209) rfl dX10_restsBy_82 ?_
            refine lv_aload_n hx hb dX10_restsBy_85 rfl (lv_at hl 3 rfl) ?_
            refine z_get (C := RX10) (T := TX10) (N := 54) (ci := 10) (v := .int bh2_82) hx hb hT zin_X10 hown hK hw hm_mm hf_mm rfl 42 (by decide) (hT _ kw_1210) rfl dX10_restsBy_86 ?_
            refine z_callvV (cells := 0) (slots := 0) (b := mm) (As := [.int r73, .int bg2_81, .int bh2_82]) (rest := []) (ci := 10) (q0 := (RX10, TX10, 54)) ⟨hx, hb, hml, hown, hT⟩ (c_X10_goesTo l hm_mm hm_dr hf_mm hf_dr hq_dr (by first | omega | decide | assumption) (by first | omega | decide | assumption) (by first | omega | decide | assumption)) (cwV 3 hT (z_goodV (fun _ h => h) kw_1527 kw_1529 kw_56 kw_96 kw_1530) rfl rfl rfl (by decide +kernel) ⟨by decide, by decide⟩) z_mv hKK hK hw hA hm_mm hf_mm rfl rfl rfl hl.1 rfl (Nat.le_of_ble_eq_true rfl) dX10_restsBy_89 ⟨by decide, by decide⟩ (fun u H locs hp hw => ?_)
            obtain ⟨L98, f99⟩ := u
            obtain ⟨hsb, hfm, ndr_100, ha_0, hq_dr, hp⟩ := hp
            have hsb : L = L98 := hsb
            subst hsb
            have hsb : ∀ b ∈ L, b ∈ L := fun _ h => h
            have hw : z_H D vwCl (z_A L sz) s.heap L f99 H locs := hw
            have hfr : ∀ b ∈ L, b ≠ mm → b ≠ ro → b ≠ ct → b ≠ se → b ≠ th → b ≠ cn → b ≠ db → b ≠ be → b ≠ du → b ≠ dr → b ≠ pn → b ≠ wg → b ≠ wh → b ≠ tn → f99 b = f b := fun b hb h0 h1 h2 h3 h4 h5 h6 h7 h8 h9 h10 h11 h12 h13 => (hfm b hb h9).trans (hfr b hb h0 h1 h2 h3 h4 h5 h6 h7 h8 h9 h10 h11 h12 h13)
            have hf_mm : f99 mm = .inr (10, [.int m0, .ref wd, .ref my, .ref ce, .ref mv, .ref ta, .int m6, .int m7, .int m8, .int m9, .int m10, .long m11, .int m12, .int m13, .int m14, .int m15, .ref li, .ref ha, .ref lw, .ref st, .ref fo, .ref dr, .int m22, .ref ik, .int (-1), .int mn2_76, .long x2_83, .int 0, .int 1000, .ref ro, .int n2_77, .ref ct, .ref se, .ref th, .ref cn, .ref be, .int y2_79, .ref du, .int d2_78, .ref db, .int bp2_80, .int bg2_81, .int bh2_82, .ref pn, .ref wg, .ref wh, .ref tn, .ref he, .int m48, .ref tr, .ref fd, .ref po, .int m52, .int m53]) := (hfm mm hm_mm (z_tne hf_mm hf_dr (m := 10) (n := 4260) rfl rfl (by decide))).trans hf_mm
            have hf_ha : f99 ha = .inl (cy 1, 30, .inl gha) := (hfm ha hm_ha (z_tne hf_ha hf_dr (m := 340) (n := 4260) rfl rfl (by decide))).trans hf_ha
            have hf_ro : f99 ro = .inl (cy 1, 13, .inl nro_84) := (hfm ro hm_ro (z_tne hf_ro hf_dr (m := 204) (n := 4260) rfl rfl (by decide))).trans hf_ro
            have hf_lw : f99 lw = .inl (cy 1, 25, .inl glw) := (hfm lw hm_lw (z_tne hf_lw hf_dr (m := 300) (n := 4260) rfl rfl (by decide))).trans hf_lw
            have hf_st : f99 st = .inl (cy 1, 20, .inl gst) := (hfm st hm_st (z_tne hf_st hf_dr (m := 260) (n := 4260) rfl rfl (by decide))).trans hf_st
            have hf_ct : f99 ct = .inl (cy 1, 4, .inl nct_85) := (hfm ct hm_ct (z_tne hf_ct hf_dr (m := 132) (n := 4260) rfl rfl (by decide))).trans hf_ct
            have hf_se : f99 se = .inl (cy 1, 36, .inl nse_86) := (hfm se hm_se (z_tne hf_se hf_dr (m := 388) (n := 4260) rfl rfl (by decide))).trans hf_se
            have hf_th : f99 th = .inl (cy 1, 36, .inl nth_87) := (hfm th hm_th (z_tne hf_th hf_dr (m := 388) (n := 4260) rfl rfl (by decide))).trans hf_th
            have hf_cn : f99 cn = .inl (cy 1, 36, .inl ncn_88) := (hfm cn hm_cn (z_tne hf_cn hf_dr (m := 388) (n := 4260) rfl rfl (by decide))).trans hf_cn
            have hf_db : f99 db = .inl (cy 1, 5, .inl ndb_89) := (hfm db hm_db (z_tne hf_db hf_dr (m := 140) (n := 4260) rfl rfl (by decide))).trans hf_db
            have hf_be : f99 be = .inl (cy 1, 2574, .inl nbe_90) := (hfm be hm_be (z_tne hf_be hf_dr (m := 20692) (n := 4260) rfl rfl (by decide))).trans hf_be
            have hf_du : f99 du = .inl (cy 1, 5200, .inl ndu_91) := (hfm du hm_du (z_tne hf_du hf_dr (m := 41700) (n := 4260) rfl rfl (by decide))).trans hf_du
            have hf_fo : f99 fo = .inl (cy 1, 180, .inl gfo) := (hfm fo hm_fo (z_tne hf_fo hf_dr (m := 1540) (n := 4260) rfl rfl (by decide))).trans hf_fo
            have hf_pn : f99 pn = .inl (cy 1, 5, .inl npn_93) := (hfm pn hm_pn (z_tne hf_pn hf_dr (m := 140) (n := 4260) rfl rfl (by decide))).trans hf_pn
            have hf_wg : f99 wg = .inl (cy 1, 12, .inl G3) := (hfm wg hm_wg (z_tne hf_wg hf_dr (m := 196) (n := 4260) rfl rfl (by decide))).trans hf_wg
            have hf_wh : f99 wh = .inl (cy 1, 12, .inl G4) := (hfm wh hm_wh (z_tne hf_wh hf_dr (m := 196) (n := 4260) rfl rfl (by decide))).trans hf_wh
            have hf_tn : f99 tn = .inl (cy 1, 12, .inl gtn) := (hfm tn hm_tn (z_tne hf_tn hf_dr (m := 196) (n := 4260) rfl rfl (by decide))).trans hf_tn
            have hf_dr : f99 dr = .inl (cy 1, 520, .inl ndr_100) := ha_0
            obtain ⟨k101, e_k101⟩ : ∃ z : Int32, z = K7 + 1 := ⟨_, rfl⟩
            refine lv_iinc (v := k101) (lv' := [(3, .int k101), (4, .int r73), (2, .int V30), (0, .ref mm), (1, .int nn)]) hx hb dX10_restsBy_92 hl (k := 1) rfl (by rw [e_k101]; rfl) (by decide) rfl (fun ls hl => ?_)
            have i_k101 : k101.toInt = (K7.toInt + 1) := z_add e_k101 rfl (by decide) (by omega)
            refine lv_goto (tgt := 46) hx hb dX10_restsBy_95 (by decide) ?_
            exact ih_46 _ (by omega) _ _ _ ⟨k101, nro_84, nct_85, nse_86, nth_87, ncn_88, ndb_89, nbe_90, ndu_91, ndr_100, npn_93, n2_77, d2_78, y2_79, x2_83, bp2_80, bg2_81, bh2_82, (-1), mn2_76, 0, 1000, V30, f99, rfl, (by first | decide | omega), (by first | decide | omega), (by omega), (by omega), (by omega), hw, hf_mm, hf_ha, hf_dr, hf_ro, hf_lw, hf_st, hf_ct, hf_se, hf_th, hf_cn, hf_db, hf_be, hf_du, hf_fo, hf_pn, hf_wg, hf_wh, hf_tn, hfr, hq_ro, hq_ct, hq_be, hq_du, hq_dr, (lv_sub hl [0, 2, 3, 4] rfl)⟩
        · skip
          refine lv_iload_n hx hb dX10_restsBy_68 rfl (lv_at hl 1 rfl) ?_
          refine lv_istore_n (lv' := [(2, .int K7), (4, .int r73), (3, .int K7), (0, .ref mm), (1, .int nn)]) hx hb dX10_restsBy_69 rfl hl (by decide) rfl (fun ls hl => ?_)
          refine lv_goto (tgt := 92) hx hb dX10_restsBy_70 (by decide) ?_
          obtain ⟨k102, e_k102⟩ : ∃ z : Int32, z = K7 + 1 := ⟨_, rfl⟩
          refine lv_iinc (v := k102) (lv' := [(3, .int k102), (2, .int K7), (4, .int r73), (0, .ref mm), (1, .int nn)]) hx hb dX10_restsBy_92 hl (k := 2) rfl (by rw [e_k102]; rfl) (by decide) rfl (fun ls hl => ?_)
          have i_k102 : k102.toInt = (K7.toInt + 1) := z_add e_k102 rfl (by decide) (by omega)
          refine lv_goto (tgt := 46) hx hb dX10_restsBy_95 (by decide) ?_
          exact ih_46 _ (by omega) _ _ _ ⟨k102, nro_84, nct_85, nse_86, nth_87, ncn_88, ndb_89, nbe_90, ndu_91, ndr_92, npn_93, n2_77, d2_78, y2_79, x2_83, bp2_80, bg2_81, bh2_82, (-1), mn2_76, 0, 1000, K7, f75, rfl, (by first | decide | omega), (by first | decide | omega), (by omega), (by omega), (by omega), hw, hf_mm, hf_ha, hf_dr, hf_ro, hf_lw, hf_st, hf_ct, hf_se, hf_th, hf_cn, hf_db, hf_be, hf_du, hf_fo, hf_pn, hf_wg, hf_wh, hf_tn, hfr, hq_ro, hq_ct, hq_be, hq_du, hq_dr, (lv_sub hl [0, 1, 3, 4] rfl)⟩
  · skip
    refine lv_aload_n hx hb dX10_restsBy_12 rfl (lv_at hl 1 rfl) ?_
    refine z_get (C := RX10) (T := TX10) (N := 54) (ci := 10) (v := .ref wg) hx hb hT zin_X10 hown hK hw hm_mm hf_mm rfl 44 (by decide) (hT _ kw_1212) rfl dX10_restsBy_13 ?_
    refine lv_iload_n hx hb dX10_restsBy_16 rfl (lv_at hl 0 rfl) ?_
    refine lv_aload_n hx hb dX10_restsBy_17 rfl (lv_at hl 1 rfl) ?_
    refine lv_iload_n hx hb dX10_restsBy_18 rfl (lv_at hl 0 rfl) ?_
    refine lv_iconst (v := 1) hx hb dX10_restsBy_19 (by decide) ?_
    have hz103 := (show (1 : Int32).toInt = 1 by decide)
    refine z_calliV (cells := 0) (slots := 0) (b := mm) (As := [.int K1, .int 1]) (rest := [.int K1, .ref wg]) (ci := 10) (q0 := (RX10, TX10, 54)) ⟨hx, hb, hml, hown, hT⟩ (c_X10_of l hm_mm hm_dr hf_mm hf_dr hq_dr (by first | omega | decide | assumption) (by decide)) (cwV 2 hT (z_goodV (fun _ h => h) kw_1487 kw_1489 kw_51 kw_96 kw_1490) rfl rfl rfl (by decide +kernel) ⟨by decide, by decide⟩) z_mv hKK hK hw hA hm_mm hf_mm rfl rfl rfl hl.1 rfl (Nat.le_of_ble_eq_true rfl) dX10_restsBy_20 ⟨by decide, by decide⟩ (fun r104 u H locs hp hw => ?_)
    obtain ⟨rfl, hp⟩ := hp
    have hw : z_H D vwCl (z_A L sz) s.heap L f2 H locs := hw
    have hof_r104 : r104 = gdr (8 * K1.toNatClampNeg + 1) := hp
    have hh_r104 : 0 ≤ r104.toInt ∧ r104.toInt ≤ 3 := by rw [hof_r104]; exact (hq_dr _).2.1 (by omega)
    refine z_iast hx hb hK hw 1 hm_wg hf_wg rfl (z_ix rfl (by omega)) dX10_restsBy_23 (fun H locs hw => ?_)
    obtain ⟨f106, e_f106⟩ : ∃ z, z = va_up f2 wg (.inl (cy 1, 12, .inl (upd G3 K1.toNatClampNeg r104))) := ⟨_, rfl⟩
    rw [← e_f106] at hw
    have hf_mm : f106 mm = .inr (10, [.int m0, .ref wd, .ref my, .ref ce, .ref mv, .ref ta, .int m6, .int m7, .int m8, .int m9, .int m10, .long m11, .int m12, .int m13, .int m14, .int m15, .ref li, .ref ha, .ref lw, .ref st, .ref fo, .ref dr, .int m22, .ref ik, .int m24, .int m25, .long m26, .int m27, .int m28, .ref ro, .int m30, .ref ct, .ref se, .ref th, .ref cn, .ref be, .int m36, .ref du, .int m38, .ref db, .int m40, .int m41, .int m42, .ref pn, .ref wg, .ref wh, .ref tn, .ref he, .int m48, .ref tr, .ref fd, .ref po, .int m52, .int m53]) := (congrFun e_f106 mm).trans (z_up_ne (z_tne hf_mm hf_wg (m := 10) (n := 196) rfl rfl (by decide)) hf_mm)
    have hf_ha : f106 ha = .inl (cy 1, 30, .inl gha) := (congrFun e_f106 ha).trans (z_up_ne (z_tne hf_ha hf_wg (m := 340) (n := 196) rfl rfl (by decide)) hf_ha)
    have hf_dr : f106 dr = .inl (cy 1, 520, .inl gdr) := (congrFun e_f106 dr).trans (z_up_ne (z_tne hf_dr hf_wg (m := 4260) (n := 196) rfl rfl (by decide)) hf_dr)
    have hf_ro : f106 ro = .inl (cy 1, 13, .inl gro) := (congrFun e_f106 ro).trans (z_up_ne (z_tne hf_ro hf_wg (m := 204) (n := 196) rfl rfl (by decide)) hf_ro)
    have hf_lw : f106 lw = .inl (cy 1, 25, .inl glw) := (congrFun e_f106 lw).trans (z_up_ne (z_tne hf_lw hf_wg (m := 300) (n := 196) rfl rfl (by decide)) hf_lw)
    have hf_st : f106 st = .inl (cy 1, 20, .inl gst) := (congrFun e_f106 st).trans (z_up_ne (z_tne hf_st hf_wg (m := 260) (n := 196) rfl rfl (by decide)) hf_st)
    have hf_ct : f106 ct = .inl (cy 1, 4, .inl gct) := (congrFun e_f106 ct).trans (z_up_ne (z_tne hf_ct hf_wg (m := 132) (n := 196) rfl rfl (by decide)) hf_ct)
    have hf_se : f106 se = .inl (cy 1, 36, .inl gse) := (congrFun e_f106 se).trans (z_up_ne (z_tne hf_se hf_wg (m := 388) (n := 196) rfl rfl (by decide)) hf_se)
    have hf_th : f106 th = .inl (cy 1, 36, .inl gth) := (congrFun e_f106 th).trans (z_up_ne (z_tne hf_th hf_wg (m := 388) (n := 196) rfl rfl (by decide)) hf_th)
    have hf_cn : f106 cn = .inl (cy 1, 36, .inl gcn) := (congrFun e_f106 cn).trans (z_up_ne (z_tne hf_cn hf_wg (m := 388) (n := 196) rfl rfl (by decide)) hf_cn)
    have hf_db : f106 db = .inl (cy 1, 5, .inl gdb) := (congrFun e_f106 db).trans (z_up_ne (z_tne hf_db hf_wg (m := 140) (n := 196) rfl rfl (by decide)) hf_db)
    have hf_be : f106 be = .inl (cy 1, 2574, .inl gbe) := (congrFun e_f106 be).trans (z_up_ne (z_tne hf_be hf_wg (m := 20692) (n := 196) rfl rfl (by decide)) hf_be)
    have hf_du : f106 du = .inl (cy 1, 5200, .inl gdu) := (congrFun e_f106 du).trans (z_up_ne (z_tne hf_du hf_wg (m := 41700) (n := 196) rfl rfl (by decide)) hf_du)
    have hf_fo : f106 fo = .inl (cy 1, 180, .inl gfo) := (congrFun e_f106 fo).trans (z_up_ne (z_tne hf_fo hf_wg (m := 1540) (n := 196) rfl rfl (by decide)) hf_fo)
    have hf_pn : f106 pn = .inl (cy 1, 5, .inl gpn) := (congrFun e_f106 pn).trans (z_up_ne (z_tne hf_pn hf_wg (m := 140) (n := 196) rfl rfl (by decide)) hf_pn)
    have hf_wh : f106 wh = .inl (cy 1, 12, .inl G4) := (congrFun e_f106 wh).trans (z_up_ne (Ne.symm ne_wg_wh) hf_wh)
    have hf_tn : f106 tn = .inl (cy 1, 12, .inl gtn) := (congrFun e_f106 tn).trans (z_up_ne (Ne.symm ne_wg_tn) hf_tn)
    have hf_wg : f106 wg = .inl (cy 1, 12, .inl (upd G3 K1.toNatClampNeg r104)) := (congrFun e_f106 wg).trans z_up_self
    have hfr : ∀ b ∈ L, b ≠ mm → b ≠ ro → b ≠ ct → b ≠ se → b ≠ th → b ≠ cn → b ≠ db → b ≠ be → b ≠ du → b ≠ dr → b ≠ pn → b ≠ wg → b ≠ wh → b ≠ tn → f106 b = f b := fun b hb h0 h1 h2 h3 h4 h5 h6 h7 h8 h9 h10 h11 h12 h13 => (congrFun e_f106 b).trans (z_up_ne h11 (hfr b hb h0 h1 h2 h3 h4 h5 h6 h7 h8 h9 h10 h11 h12 h13))
    obtain ⟨g105, e_g105⟩ : ∃ z, z = (upd G3 K1.toNatClampNeg r104) := ⟨_, rfl⟩
    rw [← e_g105] at hf_wg
    have hq_wg : ∀ j : Nat, q_3 j (g105 j) := z_updQ hq_wg e_g105 (show 0 ≤ (r104 : Int32).toInt ∧ (r104 : Int32).toInt ≤ 3 by first | decide | omega)
    refine lv_aload_n hx hb dX10_restsBy_24 rfl (lv_at hl 1 rfl) ?_
    refine z_get (C := RX10) (T := TX10) (N := 54) (ci := 10) (v := .ref wh) hx hb hT zin_X10 hown hK hw hm_mm hf_mm rfl 45 (by decide) (hT _ kw_1213) rfl dX10_restsBy_25 ?_
    refine lv_iload_n hx hb dX10_restsBy_28 rfl (lv_at hl 0 rfl) ?_
    refine lv_aload_n hx hb dX10_restsBy_29 rfl (lv_at hl 1 rfl) ?_
    refine lv_iload_n hx hb dX10_restsBy_30 rfl (lv_at hl 0 rfl) ?_
    refine lv_iconst (v := 3) hx hb dX10_restsBy_31 (by decide) ?_
    have hz107 := (show (3 : Int32).toInt = 3 by decide)
    refine z_calliV (cells := 0) (slots := 0) (b := mm) (As := [.int K1, .int 3]) (rest := [.int K1, .ref wh]) (ci := 10) (q0 := (RX10, TX10, 54)) ⟨hx, hb, hml, hown, hT⟩ (c_X10_of l hm_mm hm_dr hf_mm hf_dr hq_dr (by first | omega | decide | assumption) (by decide)) (cwV 2 hT (z_goodV (fun _ h => h) kw_1487 kw_1489 kw_51 kw_96 kw_1490) rfl rfl rfl (by decide +kernel) ⟨by decide, by decide⟩) z_mv hKK hK hw hA hm_mm hf_mm rfl rfl rfl hl.1 rfl (Nat.le_of_ble_eq_true rfl) dX10_restsBy_32 ⟨by decide, by decide⟩ (fun r108 u H locs hp hw => ?_)
    obtain ⟨rfl, hp⟩ := hp
    have hw : z_H D vwCl (z_A L sz) s.heap L f106 H locs := hw
    have hof_r108 : r108 = gdr (8 * K1.toNatClampNeg + 3) := hp
    have hh_r108 : 0 ≤ r108.toInt ∧ r108.toInt ≤ 23 := by rw [hof_r108]; exact (hq_dr _).2.2.2.1 (by omega)
    refine z_iast hx hb hK hw 1 hm_wh hf_wh rfl (z_ix rfl (by omega)) dX10_restsBy_35 (fun H locs hw => ?_)
    obtain ⟨f110, e_f110⟩ : ∃ z, z = va_up f106 wh (.inl (cy 1, 12, .inl (upd G4 K1.toNatClampNeg r108))) := ⟨_, rfl⟩
    rw [← e_f110] at hw
    have hf_mm : f110 mm = .inr (10, [.int m0, .ref wd, .ref my, .ref ce, .ref mv, .ref ta, .int m6, .int m7, .int m8, .int m9, .int m10, .long m11, .int m12, .int m13, .int m14, .int m15, .ref li, .ref ha, .ref lw, .ref st, .ref fo, .ref dr, .int m22, .ref ik, .int m24, .int m25, .long m26, .int m27, .int m28, .ref ro, .int m30, .ref ct, .ref se, .ref th, .ref cn, .ref be, .int m36, .ref du, .int m38, .ref db, .int m40, .int m41, .int m42, .ref pn, .ref wg, .ref wh, .ref tn, .ref he, .int m48, .ref tr, .ref fd, .ref po, .int m52, .int m53]) := (congrFun e_f110 mm).trans (z_up_ne (z_tne hf_mm hf_wh (m := 10) (n := 196) rfl rfl (by decide)) hf_mm)
    have hf_ha : f110 ha = .inl (cy 1, 30, .inl gha) := (congrFun e_f110 ha).trans (z_up_ne (z_tne hf_ha hf_wh (m := 340) (n := 196) rfl rfl (by decide)) hf_ha)
    have hf_dr : f110 dr = .inl (cy 1, 520, .inl gdr) := (congrFun e_f110 dr).trans (z_up_ne (z_tne hf_dr hf_wh (m := 4260) (n := 196) rfl rfl (by decide)) hf_dr)
    have hf_ro : f110 ro = .inl (cy 1, 13, .inl gro) := (congrFun e_f110 ro).trans (z_up_ne (z_tne hf_ro hf_wh (m := 204) (n := 196) rfl rfl (by decide)) hf_ro)
    have hf_lw : f110 lw = .inl (cy 1, 25, .inl glw) := (congrFun e_f110 lw).trans (z_up_ne (z_tne hf_lw hf_wh (m := 300) (n := 196) rfl rfl (by decide)) hf_lw)
    have hf_st : f110 st = .inl (cy 1, 20, .inl gst) := (congrFun e_f110 st).trans (z_up_ne (z_tne hf_st hf_wh (m := 260) (n := 196) rfl rfl (by decide)) hf_st)
    have hf_ct : f110 ct = .inl (cy 1, 4, .inl gct) := (congrFun e_f110 ct).trans (z_up_ne (z_tne hf_ct hf_wh (m := 132) (n := 196) rfl rfl (by decide)) hf_ct)
    have hf_se : f110 se = .inl (cy 1, 36, .inl gse) := (congrFun e_f110 se).trans (z_up_ne (z_tne hf_se hf_wh (m := 388) (n := 196) rfl rfl (by decide)) hf_se)
    have hf_th : f110 th = .inl (cy 1, 36, .inl gth) := (congrFun e_f110 th).trans (z_up_ne (z_tne hf_th hf_wh (m := 388) (n := 196) rfl rfl (by decide)) hf_th)
    have hf_cn : f110 cn = .inl (cy 1, 36, .inl gcn) := (congrFun e_f110 cn).trans (z_up_ne (z_tne hf_cn hf_wh (m := 388) (n := 196) rfl rfl (by decide)) hf_cn)
    have hf_db : f110 db = .inl (cy 1, 5, .inl gdb) := (congrFun e_f110 db).trans (z_up_ne (z_tne hf_db hf_wh (m := 140) (n := 196) rfl rfl (by decide)) hf_db)
    have hf_be : f110 be = .inl (cy 1, 2574, .inl gbe) := (congrFun e_f110 be).trans (z_up_ne (z_tne hf_be hf_wh (m := 20692) (n := 196) rfl rfl (by decide)) hf_be)
    have hf_du : f110 du = .inl (cy 1, 5200, .inl gdu) := (congrFun e_f110 du).trans (z_up_ne (z_tne hf_du hf_wh (m := 41700) (n := 196) rfl rfl (by decide)) hf_du)
    have hf_fo : f110 fo = .inl (cy 1, 180, .inl gfo) := (congrFun e_f110 fo).trans (z_up_ne (z_tne hf_fo hf_wh (m := 1540) (n := 196) rfl rfl (by decide)) hf_fo)
    have hf_pn : f110 pn = .inl (cy 1, 5, .inl gpn) := (congrFun e_f110 pn).trans (z_up_ne (z_tne hf_pn hf_wh (m := 140) (n := 196) rfl rfl (by decide)) hf_pn)
    have hf_wg : f110 wg = .inl (cy 1, 12, .inl g105) := (congrFun e_f110 wg).trans (z_up_ne ne_wg_wh hf_wg)
    have hf_tn : f110 tn = .inl (cy 1, 12, .inl gtn) := (congrFun e_f110 tn).trans (z_up_ne (Ne.symm ne_wh_tn) hf_tn)
    have hf_wh : f110 wh = .inl (cy 1, 12, .inl (upd G4 K1.toNatClampNeg r108)) := (congrFun e_f110 wh).trans z_up_self
    have hfr : ∀ b ∈ L, b ≠ mm → b ≠ ro → b ≠ ct → b ≠ se → b ≠ th → b ≠ cn → b ≠ db → b ≠ be → b ≠ du → b ≠ dr → b ≠ pn → b ≠ wg → b ≠ wh → b ≠ tn → f110 b = f b := fun b hb h0 h1 h2 h3 h4 h5 h6 h7 h8 h9 h10 h11 h12 h13 => (congrFun e_f110 b).trans (z_up_ne h12 (hfr b hb h0 h1 h2 h3 h4 h5 h6 h7 h8 h9 h10 h11 h12 h13))
    obtain ⟨g109, e_g109⟩ : ∃ z, z = (upd G4 K1.toNatClampNeg r108) := ⟨_, rfl⟩
    rw [← e_g109] at hf_wh
    have hq_wh : ∀ j : Nat, q_23 j (g109 j) := z_updQ hq_wh e_g109 (show 0 ≤ (r108 : Int32).toInt ∧ (r108 : Int32).toInt ≤ 23 by first | decide | omega)
    obtain ⟨k111, e_k111⟩ : ∃ z : Int32, z = K1 + 1 := ⟨_, rfl⟩
    refine lv_iinc (v := k111) (lv' := [(2, .int k111), (0, .ref mm), (1, .int nn)]) hx hb dX10_restsBy_36 hl (k := 0) rfl (by rw [e_k111]; rfl) (by decide) rfl (fun ls hl => ?_)
    have i_k111 : k111.toInt = (K1.toInt + 1) := z_add e_k111 rfl (by decide) (by omega)
    refine lv_goto (tgt := 2) hx hb dX10_restsBy_39 (by decide) ?_
    exact ih_2 _ (by omega) _ _ _ ⟨k111, g105, g109, f110, rfl, (by first | decide | omega), (by first | decide | omega), hw, hf_mm, hf_ha, hf_dr, hf_ro, hf_lw, hf_st, hf_ct, hf_se, hf_th, hf_cn, hf_db, hf_be, hf_du, hf_fo, hf_pn, hf_wg, hf_wh, hf_tn, hfr, hq_wg, hq_wh, (lv_sub hl [0, 1, 2] rfl)⟩

set_option maxHeartbeats 2000000 in
set_option maxRecDepth 100000 in
theorem c_X10_rest (l : Launch) {D : va_G} {cy : Nat → ClassId} {L : List Nat} {f : Nat → va_E} {sz : Nat} {adK adV : Nat → Nat} {mm wd my ce mv ta li ha lw st fo dr ik ro ct se th cn be du db pn wg wh tn he tr fd po : Nat} {m0 m6 m7 m8 m9 m10 m12 m13 m14 m15 m22 m24 m25 m27 m28 m30 m36 m38 m40 m41 m42 m48 m52 m53 : Int32} {m11 m26 : Int64} {gli gha glw gst gfo gdr gro gct gse gth gcn gbe gdu gdb gpn : Nat → Int32}  (hm_mm : mm ∈ L) (hm_ha : ha ∈ L) (hm_dr : dr ∈ L) (hm_ro : ro ∈ L) (hm_lw : lw ∈ L) (hm_st : st ∈ L) (hm_ct : ct ∈ L) (hm_se : se ∈ L) (hm_th : th ∈ L) (hm_cn : cn ∈ L) (hm_db : db ∈ L) (hm_be : be ∈ L) (hm_du : du ∈ L) (hm_fo : fo ∈ L) (hm_li : li ∈ L) (hm_pn : pn ∈ L) (hf_mm : f mm = .inr (10, [.int m0, .ref wd, .ref my, .ref ce, .ref mv, .ref ta, .int m6, .int m7, .int m8, .int m9, .int m10, .long m11, .int m12, .int m13, .int m14, .int m15, .ref li, .ref ha, .ref lw, .ref st, .ref fo, .ref dr, .int m22, .ref ik, .int m24, .int m25, .long m26, .int m27, .int m28, .ref ro, .int m30, .ref ct, .ref se, .ref th, .ref cn, .ref be, .int m36, .ref du, .int m38, .ref db, .int m40, .int m41, .int m42, .ref pn, .ref wg, .ref wh, .ref tn, .ref he, .int m48, .ref tr, .ref fd, .ref po, .int m52, .int m53])) (hf_ha : f ha = .inl (cy 1, 30, .inl gha)) (hf_dr : f dr = .inl (cy 1, 520, .inl gdr)) (hf_ro : f ro = .inl (cy 1, 13, .inl gro)) (hf_lw : f lw = .inl (cy 1, 25, .inl glw)) (hf_st : f st = .inl (cy 1, 20, .inl gst)) (hf_ct : f ct = .inl (cy 1, 4, .inl gct)) (hf_se : f se = .inl (cy 1, 36, .inl gse)) (hf_th : f th = .inl (cy 1, 36, .inl gth)) (hf_cn : f cn = .inl (cy 1, 36, .inl gcn)) (hf_db : f db = .inl (cy 1, 5, .inl gdb)) (hf_be : f be = .inl (cy 1, 2574, .inl gbe)) (hf_du : f du = .inl (cy 1, 5200, .inl gdu)) (hf_fo : f fo = .inl (cy 1, 180, .inl gfo)) (hf_li : f li = .inl (cy 1, 5, .inl gli)) (hf_pn : f pn = .inl (cy 1, 5, .inl gpn)) (ne_se_th : se ≠ th) (ne_se_cn : se ≠ cn) (ne_th_cn : th ≠ cn) (ne_db_li : db ≠ li) (ne_db_pn : db ≠ pn) (ne_li_pn : li ≠ pn) (hq_ha : ∀ j : Nat, q_has j (gha j)) (hq_dr : ∀ j : Nat, q_drv j (gdr j)) (hq_ro : ∀ j : Nat, q_12 j (gro j)) (hq_lw : ∀ j : Nat, q_law j (glw j)) (hq_st : ∀ j : Nat, q_law j (gst j)) (hq_ct : ∀ j : Nat, q_law j (gct j)) (hq_be : ∀ j : Nat, q_be j (gbe j)) (hq_du : ∀ j : Nat, q_du j (gdu j)) (hxx : 0 ≤ m26.toInt ∧ m26.toInt < 2147483648) (hea : ∀ m : Nat, m < 5 → z_ea gha glw m) (hbg : 0 ≤ m41.toInt ∧ m41.toInt ≤ 3) (hbh : 0 ≤ m42.toInt ∧ m42.toInt ≤ 23) : Met l yX10_rest (z_ws yX10_rest cX10_rest 1 (some .int)) (z_R 8 0 0) (va_Pc [.ref mm] (z_Pre D vwCl (z_KK D cy adK adV) L f sz)) (z_Qi D vwCl (fun r u => L = u.1 ∧ (∀ b ∈ L, b ≠ mm → b ≠ ro → b ≠ ct → b ≠ se → b ≠ th → b ≠ cn → b ≠ db → b ≠ be → b ≠ du → b ≠ dr → b ≠ pn → u.2 b = f b) ∧ (∃ (o2 mn2 i2 u2 n2 d2 y2 bp2 bg2 bh2 : Int32) (x2 : Int64) (nro nct nse nth ncn ndb nbe ndu ndr npn : Nat → Int32), (u.2 mm = .inr (10, [.int 0, .ref wd, .ref my, .ref ce, .ref mv, .ref ta, .int m6, .int m7, .int m8, .int m9, .int m10, .long m11, .int m12, .int m13, .int m14, .int m15, .ref li, .ref ha, .ref lw, .ref st, .ref fo, .ref dr, .int m22, .ref ik, .int o2, .int mn2, .long x2, .int i2, .int u2, .ref ro, .int n2, .ref ct, .ref se, .ref th, .ref cn, .ref be, .int y2, .ref du, .int d2, .ref db, .int bp2, .int bg2, .int bh2, .ref pn, .ref wg, .ref wh, .ref tn, .ref he, .int m48, .ref tr, .ref fd, .ref po, .int m52, .int m53])) ∧ (u.2 ro = .inl (cy 1, 13, .inl nro)) ∧ (u.2 ct = .inl (cy 1, 4, .inl nct)) ∧ (u.2 se = .inl (cy 1, 36, .inl nse)) ∧ (u.2 th = .inl (cy 1, 36, .inl nth)) ∧ (u.2 cn = .inl (cy 1, 36, .inl ncn)) ∧ (u.2 db = .inl (cy 1, 5, .inl ndb)) ∧ (u.2 be = .inl (cy 1, 2574, .inl nbe)) ∧ (u.2 du = .inl (cy 1, 5200, .inl ndu)) ∧ (u.2 dr = .inl (cy 1, 520, .inl ndr)) ∧ (u.2 pn = .inl (cy 1, 5, .inl npn)) ∧ (∀ j : Nat, q_12 j (nro j)) ∧ (∀ j : Nat, q_law j (nct j)) ∧ (∀ j : Nat, q_be j (nbe j)) ∧ (∀ j : Nat, q_du j (ndu j)) ∧ (∀ j : Nat, q_drv j (ndr j)) ∧ ((0 ≤ x2.toInt ∧ x2.toInt < 2147483648) ∧ (0 ≤ bg2.toInt ∧ bg2.toInt ≤ 3) ∧ (0 ≤ bh2.toInt ∧ bh2.toInt ≤ 23)))) L sz) 0 0 (z_A L sz) := by
  refine z_met (cc := cX10_rest) (maxL := 1) (ret := (some .int)) (lv := [(0, .ref mm)]) (by decide) rfl (Nat.le_of_ble_eq_true rfl) rfl ?_
  intro p e s m below meth c ls hx hb hr hlk hml hown hnm hts hKK hA hw hl
  have hK := hKK.1.1
  have hown : s.vm.findClass RX10 = some m.cls := hown
  have hT : ∀ w ∈ lw_all, w.before ([.ref mm] : List Value).toArray s = true := fun w h => hts w (z_cons w h)
  have hsub : L = L := rfl
  have hfr : ∀ b ∈ L, b ≠ mm → b ≠ ro → b ≠ ct → b ≠ se → b ≠ th → b ≠ cn → b ≠ db → b ≠ be → b ≠ du → b ≠ dr → b ≠ pn → f b = f b := fun _ _ _ _ _ _ _ _ _ _ _ _ _ => rfl
  have hh0 := (hq_ha 0).1 rfl
  have hh1 := (hq_ha 1).2.1 rfl
  have hh2 := (hq_ha 2).2.2.1 rfl
  have hh3 := (hq_ha 3).2.2.2 rfl
  have hea0 : 2 ≤ (glw 3).toInt ∨ ((gha 3).toInt = 0 ∧ (gha 0).toInt = 0) := hea 0 (by decide)
  have hz_m2 : (-2 : Int32).toInt = -2 := by decide
  have hz_m1 : (-1 : Int32).toInt = -1 := by decide
  have hz_0 : (0 : Int32).toInt = 0 := by decide
  refine lv_aload_n hx hb dX10_rest_0 rfl (lv_at hl 0 rfl) ?_
  refine lv_iconst (v := 0) hx hb dX10_rest_1 (by decide) ?_
  refine z_put (C := RX10) (T := TX10) (N := 54) (ci := 10) (v := .int 0) (fs' := [.int 0, .ref wd, .ref my, .ref ce, .ref mv, .ref ta, .int m6, .int m7, .int m8, .int m9, .int m10, .long m11, .int m12, .int m13, .int m14, .int m15, .ref li, .ref ha, .ref lw, .ref st, .ref fo, .ref dr, .int m22, .ref ik, .int m24, .int m25, .long m26, .int m27, .int m28, .ref ro, .int m30, .ref ct, .ref se, .ref th, .ref cn, .ref be, .int m36, .ref du, .int m38, .ref db, .int m40, .int m41, .int m42, .ref pn, .ref wg, .ref wh, .ref tn, .ref he, .int m48, .ref tr, .ref fd, .ref po, .int m52, .int m53]) hx hb hT zin_X10 tyX10_ok nmX10 hown hK hw hm_mm hf_mm rfl 0 (by decide) (hT _ kw_1168) rfl rfl rfl (Nat.le_of_ble_eq_true rfl) rfl dX10_rest_2 (fun H locs hw => ?_)
  obtain ⟨f1, e_f1⟩ : ∃ z, z = va_up f mm (.inr (10, [.int 0, .ref wd, .ref my, .ref ce, .ref mv, .ref ta, .int m6, .int m7, .int m8, .int m9, .int m10, .long m11, .int m12, .int m13, .int m14, .int m15, .ref li, .ref ha, .ref lw, .ref st, .ref fo, .ref dr, .int m22, .ref ik, .int m24, .int m25, .long m26, .int m27, .int m28, .ref ro, .int m30, .ref ct, .ref se, .ref th, .ref cn, .ref be, .int m36, .ref du, .int m38, .ref db, .int m40, .int m41, .int m42, .ref pn, .ref wg, .ref wh, .ref tn, .ref he, .int m48, .ref tr, .ref fd, .ref po, .int m52, .int m53])) := ⟨_, rfl⟩
  rw [← e_f1] at hw
  have hf_ha : f1 ha = .inl (cy 1, 30, .inl gha) := (congrFun e_f1 ha).trans (z_up_ne (z_tne hf_ha hf_mm (m := 340) (n := 10) rfl rfl (by decide)) hf_ha)
  have hf_dr : f1 dr = .inl (cy 1, 520, .inl gdr) := (congrFun e_f1 dr).trans (z_up_ne (z_tne hf_dr hf_mm (m := 4260) (n := 10) rfl rfl (by decide)) hf_dr)
  have hf_ro : f1 ro = .inl (cy 1, 13, .inl gro) := (congrFun e_f1 ro).trans (z_up_ne (z_tne hf_ro hf_mm (m := 204) (n := 10) rfl rfl (by decide)) hf_ro)
  have hf_lw : f1 lw = .inl (cy 1, 25, .inl glw) := (congrFun e_f1 lw).trans (z_up_ne (z_tne hf_lw hf_mm (m := 300) (n := 10) rfl rfl (by decide)) hf_lw)
  have hf_st : f1 st = .inl (cy 1, 20, .inl gst) := (congrFun e_f1 st).trans (z_up_ne (z_tne hf_st hf_mm (m := 260) (n := 10) rfl rfl (by decide)) hf_st)
  have hf_ct : f1 ct = .inl (cy 1, 4, .inl gct) := (congrFun e_f1 ct).trans (z_up_ne (z_tne hf_ct hf_mm (m := 132) (n := 10) rfl rfl (by decide)) hf_ct)
  have hf_se : f1 se = .inl (cy 1, 36, .inl gse) := (congrFun e_f1 se).trans (z_up_ne (z_tne hf_se hf_mm (m := 388) (n := 10) rfl rfl (by decide)) hf_se)
  have hf_th : f1 th = .inl (cy 1, 36, .inl gth) := (congrFun e_f1 th).trans (z_up_ne (z_tne hf_th hf_mm (m := 388) (n := 10) rfl rfl (by decide)) hf_th)
  have hf_cn : f1 cn = .inl (cy 1, 36, .inl gcn) := (congrFun e_f1 cn).trans (z_up_ne (z_tne hf_cn hf_mm (m := 388) (n := 10) rfl rfl (by decide)) hf_cn)
  have hf_db : f1 db = .inl (cy 1, 5, .inl gdb) := (congrFun e_f1 db).trans (z_up_ne (z_tne hf_db hf_mm (m := 140) (n := 10) rfl rfl (by decide)) hf_db)
  have hf_be : f1 be = .inl (cy 1, 2574, .inl gbe) := (congrFun e_f1 be).trans (z_up_ne (z_tne hf_be hf_mm (m := 20692) (n := 10) rfl rfl (by decide)) hf_be)
  have hf_du : f1 du = .inl (cy 1, 5200, .inl gdu) := (congrFun e_f1 du).trans (z_up_ne (z_tne hf_du hf_mm (m := 41700) (n := 10) rfl rfl (by decide)) hf_du)
  have hf_fo : f1 fo = .inl (cy 1, 180, .inl gfo) := (congrFun e_f1 fo).trans (z_up_ne (z_tne hf_fo hf_mm (m := 1540) (n := 10) rfl rfl (by decide)) hf_fo)
  have hf_li : f1 li = .inl (cy 1, 5, .inl gli) := (congrFun e_f1 li).trans (z_up_ne (z_tne hf_li hf_mm (m := 140) (n := 10) rfl rfl (by decide)) hf_li)
  have hf_pn : f1 pn = .inl (cy 1, 5, .inl gpn) := (congrFun e_f1 pn).trans (z_up_ne (z_tne hf_pn hf_mm (m := 140) (n := 10) rfl rfl (by decide)) hf_pn)
  have hf_mm : f1 mm = .inr (10, [.int 0, .ref wd, .ref my, .ref ce, .ref mv, .ref ta, .int m6, .int m7, .int m8, .int m9, .int m10, .long m11, .int m12, .int m13, .int m14, .int m15, .ref li, .ref ha, .ref lw, .ref st, .ref fo, .ref dr, .int m22, .ref ik, .int m24, .int m25, .long m26, .int m27, .int m28, .ref ro, .int m30, .ref ct, .ref se, .ref th, .ref cn, .ref be, .int m36, .ref du, .int m38, .ref db, .int m40, .int m41, .int m42, .ref pn, .ref wg, .ref wh, .ref tn, .ref he, .int m48, .ref tr, .ref fd, .ref po, .int m52, .int m53]) := (congrFun e_f1 mm).trans z_up_self
  have hfr : ∀ b ∈ L, b ≠ mm → b ≠ ro → b ≠ ct → b ≠ se → b ≠ th → b ≠ cn → b ≠ db → b ≠ be → b ≠ du → b ≠ dr → b ≠ pn → f1 b = f b := fun b hb h0 h1 h2 h3 h4 h5 h6 h7 h8 h9 h10 => (congrFun e_f1 b).trans (z_up_ne h0 (hfr b hb h0 h1 h2 h3 h4 h5 h6 h7 h8 h9 h10))
  refine lv_aload_n hx hb dX10_rest_5 rfl (lv_at hl 0 rfl) ?_
  refine z_calliV (cells := 0) (slots := 0) (b := mm) (As := []) (rest := []) (ci := 10) (q0 := (RX10, TX10, 54)) ⟨hx, hb, hml, hown, hT⟩ (c_X10_isMoor l hm_mm hm_li hf_mm hf_li) (cwV 0 hT (z_goodV (fun _ h => h) kw_1507 kw_1509 kw_54 kw_96 kw_1510) rfl rfl rfl (by decide +kernel) ⟨by decide, by decide⟩) z_mv hKK hK hw hA hm_mm hf_mm rfl rfl rfl hl.1 rfl (Nat.le_of_ble_eq_true rfl) dX10_rest_6 ⟨by decide, by decide⟩ (fun r2 u H locs hp hw => ?_)
  obtain ⟨rfl, hp⟩ := hp
  have hw : z_H D vwCl (z_A L sz) s.heap L f1 H locs := hw
  rcases hp with ⟨rfl, h3⟩ | ⟨rfl, h3⟩
  · skip
    refine z_if_eq (tgt := 19) hx hb (show (1 : Int32).toInt = 1 by decide) dX10_rest_9 (by decide) (fun h => absurd h (by decide)) (fun _ => ?_)
    refine lv_aload_n hx hb dX10_rest_12 rfl (lv_at hl 0 rfl) ?_
    refine z_calliV (cells := 0) (slots := 0) (b := mm) (As := []) (rest := []) (ci := 10) (q0 := (RX10, TX10, 54)) ⟨hx, hb, hml, hown, hT⟩ (c_X10_restless l hm_mm hm_ha hm_dr hm_ro hm_lw hm_st hm_ct hm_se hm_th hm_cn hm_db hm_be hm_du hm_fo hm_pn hf_mm hf_ha hf_dr hf_ro hf_lw hf_st hf_ct hf_se hf_th hf_cn hf_db hf_be hf_du hf_fo hf_pn ne_se_th ne_se_cn ne_th_cn ne_db_pn hq_ha hq_dr hq_ro hq_lw hq_st hq_ct hq_be hq_du (by first | omega | decide | assumption) hea (by first | omega | decide | assumption) (by first | omega | decide | assumption)) (cwV 0 hT (z_goodV (fun _ h => h) kw_1644 kw_1646 kw_73 kw_96 kw_1647) rfl rfl rfl (by decide +kernel) ⟨by decide, by decide⟩) z_mv hKK hK hw hA hm_mm hf_mm rfl rfl rfl hl.1 rfl (Nat.le_of_ble_eq_true rfl) dX10_rest_13 ⟨by decide, by decide⟩ (fun r4 u H locs hp hw => ?_)
    obtain ⟨L5, f6⟩ := u
    obtain ⟨hsb, hfm, mn2_7, n2_8, d2_9, y2_10, bp2_11, bg2_12, bh2_13, x2_14, nro_15, nct_16, nse_17, nth_18, ncn_19, ndb_20, nbe_21, ndu_22, ndr_23, npn_24, ha_0, ha_1, ha_2, ha_3, ha_4, ha_5, ha_6, ha_7, ha_8, ha_9, ha_10, hq_ro, hq_ct, hq_be, hq_du, hq_dr, hp⟩ := hp
    have hsb : L = L5 := hsb
    subst hsb
    have hsb : ∀ b ∈ L, b ∈ L := fun _ h => h
    have hw : z_H D vwCl (z_A L sz) s.heap L f6 H locs := hw
    have hfr : ∀ b ∈ L, b ≠ mm → b ≠ ro → b ≠ ct → b ≠ se → b ≠ th → b ≠ cn → b ≠ db → b ≠ be → b ≠ du → b ≠ dr → b ≠ pn → f6 b = f b := fun b hb h0 h1 h2 h3 h4 h5 h6 h7 h8 h9 h10 => (hfm b hb h0 h1 h2 h3 h4 h5 h6 h7 h8 h9 h10).trans (hfr b hb h0 h1 h2 h3 h4 h5 h6 h7 h8 h9 h10)
    have hf_ha : f6 ha = .inl (cy 1, 30, .inl gha) := (hfm ha hm_ha (z_tne hf_ha hf_mm (m := 340) (n := 10) rfl rfl (by decide)) (z_tne hf_ha hf_ro (m := 340) (n := 204) rfl rfl (by decide)) (z_tne hf_ha hf_ct (m := 340) (n := 132) rfl rfl (by decide)) (z_tne hf_ha hf_se (m := 340) (n := 388) rfl rfl (by decide)) (z_tne hf_ha hf_th (m := 340) (n := 388) rfl rfl (by decide)) (z_tne hf_ha hf_cn (m := 340) (n := 388) rfl rfl (by decide)) (z_tne hf_ha hf_db (m := 340) (n := 140) rfl rfl (by decide)) (z_tne hf_ha hf_be (m := 340) (n := 20692) rfl rfl (by decide)) (z_tne hf_ha hf_du (m := 340) (n := 41700) rfl rfl (by decide)) (z_tne hf_ha hf_dr (m := 340) (n := 4260) rfl rfl (by decide)) (z_tne hf_ha hf_pn (m := 340) (n := 140) rfl rfl (by decide))).trans hf_ha
    have hf_lw : f6 lw = .inl (cy 1, 25, .inl glw) := (hfm lw hm_lw (z_tne hf_lw hf_mm (m := 300) (n := 10) rfl rfl (by decide)) (z_tne hf_lw hf_ro (m := 300) (n := 204) rfl rfl (by decide)) (z_tne hf_lw hf_ct (m := 300) (n := 132) rfl rfl (by decide)) (z_tne hf_lw hf_se (m := 300) (n := 388) rfl rfl (by decide)) (z_tne hf_lw hf_th (m := 300) (n := 388) rfl rfl (by decide)) (z_tne hf_lw hf_cn (m := 300) (n := 388) rfl rfl (by decide)) (z_tne hf_lw hf_db (m := 300) (n := 140) rfl rfl (by decide)) (z_tne hf_lw hf_be (m := 300) (n := 20692) rfl rfl (by decide)) (z_tne hf_lw hf_du (m := 300) (n := 41700) rfl rfl (by decide)) (z_tne hf_lw hf_dr (m := 300) (n := 4260) rfl rfl (by decide)) (z_tne hf_lw hf_pn (m := 300) (n := 140) rfl rfl (by decide))).trans hf_lw
    have hf_st : f6 st = .inl (cy 1, 20, .inl gst) := (hfm st hm_st (z_tne hf_st hf_mm (m := 260) (n := 10) rfl rfl (by decide)) (z_tne hf_st hf_ro (m := 260) (n := 204) rfl rfl (by decide)) (z_tne hf_st hf_ct (m := 260) (n := 132) rfl rfl (by decide)) (z_tne hf_st hf_se (m := 260) (n := 388) rfl rfl (by decide)) (z_tne hf_st hf_th (m := 260) (n := 388) rfl rfl (by decide)) (z_tne hf_st hf_cn (m := 260) (n := 388) rfl rfl (by decide)) (z_tne hf_st hf_db (m := 260) (n := 140) rfl rfl (by decide)) (z_tne hf_st hf_be (m := 260) (n := 20692) rfl rfl (by decide)) (z_tne hf_st hf_du (m := 260) (n := 41700) rfl rfl (by decide)) (z_tne hf_st hf_dr (m := 260) (n := 4260) rfl rfl (by decide)) (z_tne hf_st hf_pn (m := 260) (n := 140) rfl rfl (by decide))).trans hf_st
    have hf_fo : f6 fo = .inl (cy 1, 180, .inl gfo) := (hfm fo hm_fo (z_tne hf_fo hf_mm (m := 1540) (n := 10) rfl rfl (by decide)) (z_tne hf_fo hf_ro (m := 1540) (n := 204) rfl rfl (by decide)) (z_tne hf_fo hf_ct (m := 1540) (n := 132) rfl rfl (by decide)) (z_tne hf_fo hf_se (m := 1540) (n := 388) rfl rfl (by decide)) (z_tne hf_fo hf_th (m := 1540) (n := 388) rfl rfl (by decide)) (z_tne hf_fo hf_cn (m := 1540) (n := 388) rfl rfl (by decide)) (z_tne hf_fo hf_db (m := 1540) (n := 140) rfl rfl (by decide)) (z_tne hf_fo hf_be (m := 1540) (n := 20692) rfl rfl (by decide)) (z_tne hf_fo hf_du (m := 1540) (n := 41700) rfl rfl (by decide)) (z_tne hf_fo hf_dr (m := 1540) (n := 4260) rfl rfl (by decide)) (z_tne hf_fo hf_pn (m := 1540) (n := 140) rfl rfl (by decide))).trans hf_fo
    have hf_li : f6 li = .inl (cy 1, 5, .inl gli) := (hfm li hm_li (z_tne hf_li hf_mm (m := 140) (n := 10) rfl rfl (by decide)) (z_tne hf_li hf_ro (m := 140) (n := 204) rfl rfl (by decide)) (z_tne hf_li hf_ct (m := 140) (n := 132) rfl rfl (by decide)) (z_tne hf_li hf_se (m := 140) (n := 388) rfl rfl (by decide)) (z_tne hf_li hf_th (m := 140) (n := 388) rfl rfl (by decide)) (z_tne hf_li hf_cn (m := 140) (n := 388) rfl rfl (by decide)) (Ne.symm ne_db_li) (z_tne hf_li hf_be (m := 140) (n := 20692) rfl rfl (by decide)) (z_tne hf_li hf_du (m := 140) (n := 41700) rfl rfl (by decide)) (z_tne hf_li hf_dr (m := 140) (n := 4260) rfl rfl (by decide)) ne_li_pn).trans hf_li
    have hf_mm : f6 mm = .inr (10, [.int 0, .ref wd, .ref my, .ref ce, .ref mv, .ref ta, .int m6, .int m7, .int m8, .int m9, .int m10, .long m11, .int m12, .int m13, .int m14, .int m15, .ref li, .ref ha, .ref lw, .ref st, .ref fo, .ref dr, .int m22, .ref ik, .int (-1), .int mn2_7, .long x2_14, .int 0, .int 1000, .ref ro, .int n2_8, .ref ct, .ref se, .ref th, .ref cn, .ref be, .int y2_10, .ref du, .int d2_9, .ref db, .int bp2_11, .int bg2_12, .int bh2_13, .ref pn, .ref wg, .ref wh, .ref tn, .ref he, .int m48, .ref tr, .ref fd, .ref po, .int m52, .int m53]) := ha_0
    have hf_ro : f6 ro = .inl (cy 1, 13, .inl nro_15) := ha_1
    have hf_ct : f6 ct = .inl (cy 1, 4, .inl nct_16) := ha_2
    have hf_se : f6 se = .inl (cy 1, 36, .inl nse_17) := ha_3
    have hf_th : f6 th = .inl (cy 1, 36, .inl nth_18) := ha_4
    have hf_cn : f6 cn = .inl (cy 1, 36, .inl ncn_19) := ha_5
    have hf_db : f6 db = .inl (cy 1, 5, .inl ndb_20) := ha_6
    have hf_be : f6 be = .inl (cy 1, 2574, .inl nbe_21) := ha_7
    have hf_du : f6 du = .inl (cy 1, 5200, .inl ndu_22) := ha_8
    have hf_dr : f6 dr = .inl (cy 1, 520, .inl ndr_23) := ha_9
    have hf_pn : f6 pn = .inl (cy 1, 5, .inl npn_24) := ha_10
    have hq25 := hp
    refine lv_goto (tgt := 21) hx hb dX10_rest_16 (by decide) ?_
    exact z_iret hx hb hr hlk (by decide) (by decide) hw (⟨hsub, hfr, (-1), mn2_7, 0, 1000, n2_8, d2_9, y2_10, bp2_11, bg2_12, bh2_13, x2_14, nro_15, nct_16, nse_17, nth_18, ncn_19, ndb_20, nbe_21, ndu_22, ndr_23, npn_24, hf_mm, hf_ro, hf_ct, hf_se, hf_th, hf_cn, hf_db, hf_be, hf_du, hf_dr, hf_pn, hq_ro, hq_ct, hq_be, hq_du, hq_dr, by omega, by omega, by omega⟩) dX10_rest_21
  · skip
    refine z_if_eq (tgt := 19) hx hb (show (0 : Int32).toInt = 0 by decide) dX10_rest_9 (by decide) (fun _ => ?_) (fun h => absurd h (by decide))
    refine lv_bipush (v := (-2)) hx hb dX10_rest_19 (by decide) ?_
    exact z_iret hx hb hr hlk (by decide) (by decide) hw (⟨hsub, hfr, m24, m25, m27, m28, m30, m38, m36, m40, m41, m42, m26, gro, gct, gse, gth, gcn, gdb, gbe, gdu, gdr, gpn, hf_mm, hf_ro, hf_ct, hf_se, hf_th, hf_cn, hf_db, hf_be, hf_du, hf_dr, hf_pn, hq_ro, hq_ct, hq_be, hq_du, hq_dr, by omega, by omega, by omega⟩) dX10_rest_21

set_option maxHeartbeats 2000000 in
set_option maxRecDepth 100000 in
theorem c_X10_rests (l : Launch) {D : va_G} {cy : Nat → ClassId} {L : List Nat} {f : Nat → va_E} {sz : Nat} {adK adV : Nat → Nat} {mm wd my ce mv ta li ha lw st fo dr ik ro ct se th cn be du db pn wg wh tn he tr fd po : Nat} {m0 m6 m7 m8 m9 m10 m12 m13 m14 m15 m22 m24 m25 m27 m28 m30 m36 m38 m40 m41 m42 m48 m52 m53 : Int32} {m11 m26 : Int64} {gli gha glw gst gfo gdr gro gct gse gth gcn gbe gdu gdb gpn gwg gwh gtn : Nat → Int32}  {nn : Int32} (hm_mm : mm ∈ L) (hm_ha : ha ∈ L) (hm_dr : dr ∈ L) (hm_ro : ro ∈ L) (hm_lw : lw ∈ L) (hm_st : st ∈ L) (hm_ct : ct ∈ L) (hm_se : se ∈ L) (hm_th : th ∈ L) (hm_cn : cn ∈ L) (hm_db : db ∈ L) (hm_be : be ∈ L) (hm_du : du ∈ L) (hm_fo : fo ∈ L) (hm_li : li ∈ L) (hm_pn : pn ∈ L) (hm_wg : wg ∈ L) (hm_wh : wh ∈ L) (hm_tn : tn ∈ L) (hf_mm : f mm = .inr (10, [.int m0, .ref wd, .ref my, .ref ce, .ref mv, .ref ta, .int m6, .int m7, .int m8, .int m9, .int m10, .long m11, .int m12, .int m13, .int m14, .int m15, .ref li, .ref ha, .ref lw, .ref st, .ref fo, .ref dr, .int m22, .ref ik, .int m24, .int m25, .long m26, .int m27, .int m28, .ref ro, .int m30, .ref ct, .ref se, .ref th, .ref cn, .ref be, .int m36, .ref du, .int m38, .ref db, .int m40, .int m41, .int m42, .ref pn, .ref wg, .ref wh, .ref tn, .ref he, .int m48, .ref tr, .ref fd, .ref po, .int m52, .int m53])) (hf_ha : f ha = .inl (cy 1, 30, .inl gha)) (hf_dr : f dr = .inl (cy 1, 520, .inl gdr)) (hf_ro : f ro = .inl (cy 1, 13, .inl gro)) (hf_lw : f lw = .inl (cy 1, 25, .inl glw)) (hf_st : f st = .inl (cy 1, 20, .inl gst)) (hf_ct : f ct = .inl (cy 1, 4, .inl gct)) (hf_se : f se = .inl (cy 1, 36, .inl gse)) (hf_th : f th = .inl (cy 1, 36, .inl gth)) (hf_cn : f cn = .inl (cy 1, 36, .inl gcn)) (hf_db : f db = .inl (cy 1, 5, .inl gdb)) (hf_be : f be = .inl (cy 1, 2574, .inl gbe)) (hf_du : f du = .inl (cy 1, 5200, .inl gdu)) (hf_fo : f fo = .inl (cy 1, 180, .inl gfo)) (hf_li : f li = .inl (cy 1, 5, .inl gli)) (hf_pn : f pn = .inl (cy 1, 5, .inl gpn)) (hf_wg : f wg = .inl (cy 1, 12, .inl gwg)) (hf_wh : f wh = .inl (cy 1, 12, .inl gwh)) (hf_tn : f tn = .inl (cy 1, 12, .inl gtn)) (ne_se_th : se ≠ th) (ne_se_cn : se ≠ cn) (ne_th_cn : th ≠ cn) (ne_db_li : db ≠ li) (ne_db_pn : db ≠ pn) (ne_li_pn : li ≠ pn) (ne_wg_wh : wg ≠ wh) (ne_wg_tn : wg ≠ tn) (ne_wh_tn : wh ≠ tn) (hq_ha : ∀ j : Nat, q_has j (gha j)) (hq_dr : ∀ j : Nat, q_drv j (gdr j)) (hq_ro : ∀ j : Nat, q_12 j (gro j)) (hq_lw : ∀ j : Nat, q_law j (glw j)) (hq_st : ∀ j : Nat, q_law j (gst j)) (hq_ct : ∀ j : Nat, q_law j (gct j)) (hq_be : ∀ j : Nat, q_be j (gbe j)) (hq_du : ∀ j : Nat, q_du j (gdu j)) (hq_wg : ∀ j : Nat, q_3 j (gwg j)) (hq_wh : ∀ j : Nat, q_23 j (gwh j)) (hxx : 0 ≤ m26.toInt ∧ m26.toInt < 2147483648) (hea : ∀ m : Nat, m < 5 → z_ea gha glw m) (hbg : 0 ≤ m41.toInt ∧ m41.toInt ≤ 3) (hbh : 0 ≤ m42.toInt ∧ m42.toInt ≤ 23) : Met l yX10_rests (z_ws yX10_rests cX10_rests 2 (some .int)) (z_R 9 0 0) (va_Pc [.ref mm, .int nn] (z_Pre D vwCl (z_KK D cy adK adV) L f sz)) (z_Qi D vwCl (fun r u => L = u.1 ∧ (∀ b ∈ L, b ≠ mm → b ≠ ro → b ≠ ct → b ≠ se → b ≠ th → b ≠ cn → b ≠ db → b ≠ be → b ≠ du → b ≠ dr → b ≠ pn → b ≠ wg → b ≠ wh → b ≠ tn → u.2 b = f b) ∧ (∃ (o2 mn2 i2 u2 n2 d2 y2 bp2 bg2 bh2 : Int32) (x2 : Int64) (nro nct nse nth ncn ndb nbe ndu ndr npn nwg nwh ntn : Nat → Int32), (u.2 mm = .inr (10, [.int 0, .ref wd, .ref my, .ref ce, .ref mv, .ref ta, .int m6, .int m7, .int m8, .int m9, .int m10, .long m11, .int m12, .int m13, .int m14, .int m15, .ref li, .ref ha, .ref lw, .ref st, .ref fo, .ref dr, .int m22, .ref ik, .int o2, .int mn2, .long x2, .int i2, .int u2, .ref ro, .int n2, .ref ct, .ref se, .ref th, .ref cn, .ref be, .int y2, .ref du, .int d2, .ref db, .int bp2, .int bg2, .int bh2, .ref pn, .ref wg, .ref wh, .ref tn, .ref he, .int m48, .ref tr, .ref fd, .ref po, .int m52, .int m53])) ∧ (u.2 ro = .inl (cy 1, 13, .inl nro)) ∧ (u.2 ct = .inl (cy 1, 4, .inl nct)) ∧ (u.2 se = .inl (cy 1, 36, .inl nse)) ∧ (u.2 th = .inl (cy 1, 36, .inl nth)) ∧ (u.2 cn = .inl (cy 1, 36, .inl ncn)) ∧ (u.2 db = .inl (cy 1, 5, .inl ndb)) ∧ (u.2 be = .inl (cy 1, 2574, .inl nbe)) ∧ (u.2 du = .inl (cy 1, 5200, .inl ndu)) ∧ (u.2 dr = .inl (cy 1, 520, .inl ndr)) ∧ (u.2 pn = .inl (cy 1, 5, .inl npn)) ∧ (u.2 wg = .inl (cy 1, 12, .inl nwg)) ∧ (u.2 wh = .inl (cy 1, 12, .inl nwh)) ∧ (u.2 tn = .inl (cy 1, 12, .inl ntn)) ∧ (∀ j : Nat, q_12 j (nro j)) ∧ (∀ j : Nat, q_law j (nct j)) ∧ (∀ j : Nat, q_be j (nbe j)) ∧ (∀ j : Nat, q_du j (ndu j)) ∧ (∀ j : Nat, q_drv j (ndr j)) ∧ (∀ j : Nat, q_3 j (nwg j)) ∧ (∀ j : Nat, q_23 j (nwh j)) ∧ ((0 ≤ x2.toInt ∧ x2.toInt < 2147483648) ∧ (0 ≤ bg2.toInt ∧ bg2.toInt ≤ 3) ∧ (0 ≤ bh2.toInt ∧ bh2.toInt ≤ 23)))) L sz) 0 0 (z_A L sz) := by
  refine z_met (cc := cX10_rests) (maxL := 2) (ret := (some .int)) (lv := [(0, .ref mm), (1, .int nn)]) (by decide) rfl (Nat.le_of_ble_eq_true rfl) rfl ?_
  intro p e s m below meth c ls hx hb hr hlk hml hown hnm hts hKK hA hw hl
  have hK := hKK.1.1
  have hown : s.vm.findClass RX10 = some m.cls := hown
  have hT : ∀ w ∈ lw_all, w.before ([.ref mm, .int nn] : List Value).toArray s = true := fun w h => hts w (z_cons w h)
  have hsub : L = L := rfl
  have hfr : ∀ b ∈ L, b ≠ mm → b ≠ ro → b ≠ ct → b ≠ se → b ≠ th → b ≠ cn → b ≠ db → b ≠ be → b ≠ du → b ≠ dr → b ≠ pn → b ≠ wg → b ≠ wh → b ≠ tn → f b = f b := fun _ _ _ _ _ _ _ _ _ _ _ _ _ _ _ _ => rfl
  have hh0 := (hq_ha 0).1 rfl
  have hh1 := (hq_ha 1).2.1 rfl
  have hh2 := (hq_ha 2).2.2.1 rfl
  have hh3 := (hq_ha 3).2.2.2 rfl
  have hea0 : 2 ≤ (glw 3).toInt ∨ ((gha 3).toInt = 0 ∧ (gha 0).toInt = 0) := hea 0 (by decide)
  have hz_m2 : (-2 : Int32).toInt = -2 := by decide
  have hz_m1 : (-1 : Int32).toInt = -1 := by decide
  have hz_0 : (0 : Int32).toInt = 0 := by decide
  refine lv_aload_n hx hb dX10_rests_0 rfl (lv_at hl 0 rfl) ?_
  refine lv_iconst (v := 0) hx hb dX10_rests_1 (by decide) ?_
  refine z_put (C := RX10) (T := TX10) (N := 54) (ci := 10) (v := .int 0) (fs' := [.int 0, .ref wd, .ref my, .ref ce, .ref mv, .ref ta, .int m6, .int m7, .int m8, .int m9, .int m10, .long m11, .int m12, .int m13, .int m14, .int m15, .ref li, .ref ha, .ref lw, .ref st, .ref fo, .ref dr, .int m22, .ref ik, .int m24, .int m25, .long m26, .int m27, .int m28, .ref ro, .int m30, .ref ct, .ref se, .ref th, .ref cn, .ref be, .int m36, .ref du, .int m38, .ref db, .int m40, .int m41, .int m42, .ref pn, .ref wg, .ref wh, .ref tn, .ref he, .int m48, .ref tr, .ref fd, .ref po, .int m52, .int m53]) hx hb hT zin_X10 tyX10_ok nmX10 hown hK hw hm_mm hf_mm rfl 0 (by decide) (hT _ kw_1168) rfl rfl rfl (Nat.le_of_ble_eq_true rfl) rfl dX10_rests_2 (fun H locs hw => ?_)
  obtain ⟨f1, e_f1⟩ : ∃ z, z = va_up f mm (.inr (10, [.int 0, .ref wd, .ref my, .ref ce, .ref mv, .ref ta, .int m6, .int m7, .int m8, .int m9, .int m10, .long m11, .int m12, .int m13, .int m14, .int m15, .ref li, .ref ha, .ref lw, .ref st, .ref fo, .ref dr, .int m22, .ref ik, .int m24, .int m25, .long m26, .int m27, .int m28, .ref ro, .int m30, .ref ct, .ref se, .ref th, .ref cn, .ref be, .int m36, .ref du, .int m38, .ref db, .int m40, .int m41, .int m42, .ref pn, .ref wg, .ref wh, .ref tn, .ref he, .int m48, .ref tr, .ref fd, .ref po, .int m52, .int m53])) := ⟨_, rfl⟩
  rw [← e_f1] at hw
  have hf_ha : f1 ha = .inl (cy 1, 30, .inl gha) := (congrFun e_f1 ha).trans (z_up_ne (z_tne hf_ha hf_mm (m := 340) (n := 10) rfl rfl (by decide)) hf_ha)
  have hf_dr : f1 dr = .inl (cy 1, 520, .inl gdr) := (congrFun e_f1 dr).trans (z_up_ne (z_tne hf_dr hf_mm (m := 4260) (n := 10) rfl rfl (by decide)) hf_dr)
  have hf_ro : f1 ro = .inl (cy 1, 13, .inl gro) := (congrFun e_f1 ro).trans (z_up_ne (z_tne hf_ro hf_mm (m := 204) (n := 10) rfl rfl (by decide)) hf_ro)
  have hf_lw : f1 lw = .inl (cy 1, 25, .inl glw) := (congrFun e_f1 lw).trans (z_up_ne (z_tne hf_lw hf_mm (m := 300) (n := 10) rfl rfl (by decide)) hf_lw)
  have hf_st : f1 st = .inl (cy 1, 20, .inl gst) := (congrFun e_f1 st).trans (z_up_ne (z_tne hf_st hf_mm (m := 260) (n := 10) rfl rfl (by decide)) hf_st)
  have hf_ct : f1 ct = .inl (cy 1, 4, .inl gct) := (congrFun e_f1 ct).trans (z_up_ne (z_tne hf_ct hf_mm (m := 132) (n := 10) rfl rfl (by decide)) hf_ct)
  have hf_se : f1 se = .inl (cy 1, 36, .inl gse) := (congrFun e_f1 se).trans (z_up_ne (z_tne hf_se hf_mm (m := 388) (n := 10) rfl rfl (by decide)) hf_se)
  have hf_th : f1 th = .inl (cy 1, 36, .inl gth) := (congrFun e_f1 th).trans (z_up_ne (z_tne hf_th hf_mm (m := 388) (n := 10) rfl rfl (by decide)) hf_th)
  have hf_cn : f1 cn = .inl (cy 1, 36, .inl gcn) := (congrFun e_f1 cn).trans (z_up_ne (z_tne hf_cn hf_mm (m := 388) (n := 10) rfl rfl (by decide)) hf_cn)
  have hf_db : f1 db = .inl (cy 1, 5, .inl gdb) := (congrFun e_f1 db).trans (z_up_ne (z_tne hf_db hf_mm (m := 140) (n := 10) rfl rfl (by decide)) hf_db)
  have hf_be : f1 be = .inl (cy 1, 2574, .inl gbe) := (congrFun e_f1 be).trans (z_up_ne (z_tne hf_be hf_mm (m := 20692) (n := 10) rfl rfl (by decide)) hf_be)
  have hf_du : f1 du = .inl (cy 1, 5200, .inl gdu) := (congrFun e_f1 du).trans (z_up_ne (z_tne hf_du hf_mm (m := 41700) (n := 10) rfl rfl (by decide)) hf_du)
  have hf_fo : f1 fo = .inl (cy 1, 180, .inl gfo) := (congrFun e_f1 fo).trans (z_up_ne (z_tne hf_fo hf_mm (m := 1540) (n := 10) rfl rfl (by decide)) hf_fo)
  have hf_li : f1 li = .inl (cy 1, 5, .inl gli) := (congrFun e_f1 li).trans (z_up_ne (z_tne hf_li hf_mm (m := 140) (n := 10) rfl rfl (by decide)) hf_li)
  have hf_pn : f1 pn = .inl (cy 1, 5, .inl gpn) := (congrFun e_f1 pn).trans (z_up_ne (z_tne hf_pn hf_mm (m := 140) (n := 10) rfl rfl (by decide)) hf_pn)
  have hf_wg : f1 wg = .inl (cy 1, 12, .inl gwg) := (congrFun e_f1 wg).trans (z_up_ne (z_tne hf_wg hf_mm (m := 196) (n := 10) rfl rfl (by decide)) hf_wg)
  have hf_wh : f1 wh = .inl (cy 1, 12, .inl gwh) := (congrFun e_f1 wh).trans (z_up_ne (z_tne hf_wh hf_mm (m := 196) (n := 10) rfl rfl (by decide)) hf_wh)
  have hf_tn : f1 tn = .inl (cy 1, 12, .inl gtn) := (congrFun e_f1 tn).trans (z_up_ne (z_tne hf_tn hf_mm (m := 196) (n := 10) rfl rfl (by decide)) hf_tn)
  have hf_mm : f1 mm = .inr (10, [.int 0, .ref wd, .ref my, .ref ce, .ref mv, .ref ta, .int m6, .int m7, .int m8, .int m9, .int m10, .long m11, .int m12, .int m13, .int m14, .int m15, .ref li, .ref ha, .ref lw, .ref st, .ref fo, .ref dr, .int m22, .ref ik, .int m24, .int m25, .long m26, .int m27, .int m28, .ref ro, .int m30, .ref ct, .ref se, .ref th, .ref cn, .ref be, .int m36, .ref du, .int m38, .ref db, .int m40, .int m41, .int m42, .ref pn, .ref wg, .ref wh, .ref tn, .ref he, .int m48, .ref tr, .ref fd, .ref po, .int m52, .int m53]) := (congrFun e_f1 mm).trans z_up_self
  have hfr : ∀ b ∈ L, b ≠ mm → b ≠ ro → b ≠ ct → b ≠ se → b ≠ th → b ≠ cn → b ≠ db → b ≠ be → b ≠ du → b ≠ dr → b ≠ pn → b ≠ wg → b ≠ wh → b ≠ tn → f1 b = f b := fun b hb h0 h1 h2 h3 h4 h5 h6 h7 h8 h9 h10 h11 h12 h13 => (congrFun e_f1 b).trans (z_up_ne h0 (hfr b hb h0 h1 h2 h3 h4 h5 h6 h7 h8 h9 h10 h11 h12 h13))
  refine lv_aload_n hx hb dX10_rests_5 rfl (lv_at hl 0 rfl) ?_
  refine z_calliV (cells := 0) (slots := 0) (b := mm) (As := []) (rest := []) (ci := 10) (q0 := (RX10, TX10, 54)) ⟨hx, hb, hml, hown, hT⟩ (c_X10_isMoor l hm_mm hm_li hf_mm hf_li) (cwV 0 hT (z_goodV (fun _ h => h) kw_1507 kw_1509 kw_54 kw_96 kw_1510) rfl rfl rfl (by decide +kernel) ⟨by decide, by decide⟩) z_mv hKK hK hw hA hm_mm hf_mm rfl rfl rfl hl.1 rfl (Nat.le_of_ble_eq_true rfl) dX10_rests_6 ⟨by decide, by decide⟩ (fun r2 u H locs hp hw => ?_)
  obtain ⟨rfl, hp⟩ := hp
  have hw : z_H D vwCl (z_A L sz) s.heap L f1 H locs := hw
  rcases hp with ⟨rfl, h3⟩ | ⟨rfl, h3⟩
  · skip
    refine z_if_eq (tgt := 32) hx hb (show (1 : Int32).toInt = 1 by decide) dX10_rests_9 (by decide) (fun h => absurd h (by decide)) (fun _ => ?_)
    refine lv_iload_n hx hb dX10_rests_12 rfl (lv_at hl 1 rfl) ?_
    refine lv_i2l hx hb dX10_rests_13 rfl ?_
    refine lv_topl (fun w4 e_w4 => ?_)
    have i_w4 : w4.toInt = nn.toInt := z_i2l e_w4 rfl
    refine lv_lconst (v := 0) hx hb dX10_rests_14 (by decide) ?_
    refine lv_ldc2 (v := 30) hx hb hown (hT _ kw_1652) dX10_rests_15 ?_
    have hz5 := (show (0 : Int64).toInt = 0 by decide)
    have hz6 := (show (30 : Int64).toInt = 30 by decide)
    refine z_calliS (cells := 0) (slots := 0) (As := [.long w4, .long 0, .long 30]) (rest := []) ⟨hx, hb, hml, hown, hT⟩ (c_X10_in l ) (va_cwS 3 hT (z_goodS (fun _ h => h) kw_1339 kw_1340 kw_96 kw_1341) rfl rfl rfl (by decide +kernel) ⟨by decide, by decide⟩) z_mv hKK hw hA rfl hl.1 rfl (Nat.le_of_ble_eq_true rfl) dX10_rests_18 ⟨by decide, by decide⟩ (fun r7 u H locs hp hw => ?_)
    obtain ⟨rfl, hp⟩ := hp
    have hw : z_H D vwCl (z_A L sz) s.heap L f1 H locs := hw
    rcases hp with ⟨rfl, h8⟩ | ⟨rfl, h8⟩
    · skip
      refine z_if_eq (tgt := 32) hx hb (show (1 : Int32).toInt = 1 by decide) dX10_rests_21 (by decide) (fun h => absurd h (by decide)) (fun _ => ?_)
      refine lv_aload_n hx hb dX10_rests_24 rfl (lv_at hl 0 rfl) ?_
      refine lv_iload_n hx hb dX10_rests_25 rfl (lv_at hl 1 rfl) ?_
      refine z_calliV (cells := 0) (slots := 0) (b := mm) (As := [.int nn]) (rest := []) (ci := 10) (q0 := (RX10, TX10, 54)) ⟨hx, hb, hml, hown, hT⟩ (c_X10_restsBy l hm_mm hm_ha hm_dr hm_ro hm_lw hm_st hm_ct hm_se hm_th hm_cn hm_db hm_be hm_du hm_fo hm_pn hm_wg hm_wh hm_tn hf_mm hf_ha hf_dr hf_ro hf_lw hf_st hf_ct hf_se hf_th hf_cn hf_db hf_be hf_du hf_fo hf_pn hf_wg hf_wh hf_tn ne_se_th ne_se_cn ne_th_cn ne_db_pn ne_wg_wh ne_wg_tn ne_wh_tn hq_ha hq_dr hq_ro hq_lw hq_st hq_ct hq_be hq_du hq_wg hq_wh (by first | omega | decide | assumption) hea (by first | omega | decide | assumption) (by first | omega | decide | assumption) (by first | omega | decide | assumption)) (cwV 1 hT (z_goodV (fun _ h => h) kw_1653 kw_1655 kw_74 kw_96 kw_1656) rfl rfl rfl (by decide +kernel) ⟨by decide, by decide⟩) z_mv hKK hK hw hA hm_mm hf_mm rfl rfl rfl hl.1 rfl (Nat.le_of_ble_eq_true rfl) dX10_rests_26 ⟨by decide, by decide⟩ (fun r9 u H locs hp hw => ?_)
      obtain ⟨L10, f11⟩ := u
      obtain ⟨hsb, hfm, o2_12, mn2_13, i2_14, u2_15, n2_16, d2_17, y2_18, bp2_19, bg2_20, bh2_21, x2_22, nro_23, nct_24, nse_25, nth_26, ncn_27, ndb_28, nbe_29, ndu_30, ndr_31, npn_32, nwg_33, nwh_34, ntn_35, ha_0, ha_1, ha_2, ha_3, ha_4, ha_5, ha_6, ha_7, ha_8, ha_9, ha_10, ha_11, ha_12, ha_13, hq_ro, hq_ct, hq_be, hq_du, hq_dr, hq_wg, hq_wh, hp⟩ := hp
      have hsb : L = L10 := hsb
      subst hsb
      have hsb : ∀ b ∈ L, b ∈ L := fun _ h => h
      have hw : z_H D vwCl (z_A L sz) s.heap L f11 H locs := hw
      have hfr : ∀ b ∈ L, b ≠ mm → b ≠ ro → b ≠ ct → b ≠ se → b ≠ th → b ≠ cn → b ≠ db → b ≠ be → b ≠ du → b ≠ dr → b ≠ pn → b ≠ wg → b ≠ wh → b ≠ tn → f11 b = f b := fun b hb h0 h1 h2 h3 h4 h5 h6 h7 h8 h9 h10 h11 h12 h13 => (hfm b hb h0 h1 h2 h3 h4 h5 h6 h7 h8 h9 h10 h11 h12 h13).trans (hfr b hb h0 h1 h2 h3 h4 h5 h6 h7 h8 h9 h10 h11 h12 h13)
      have hf_ha : f11 ha = .inl (cy 1, 30, .inl gha) := (hfm ha hm_ha (z_tne hf_ha hf_mm (m := 340) (n := 10) rfl rfl (by decide)) (z_tne hf_ha hf_ro (m := 340) (n := 204) rfl rfl (by decide)) (z_tne hf_ha hf_ct (m := 340) (n := 132) rfl rfl (by decide)) (z_tne hf_ha hf_se (m := 340) (n := 388) rfl rfl (by decide)) (z_tne hf_ha hf_th (m := 340) (n := 388) rfl rfl (by decide)) (z_tne hf_ha hf_cn (m := 340) (n := 388) rfl rfl (by decide)) (z_tne hf_ha hf_db (m := 340) (n := 140) rfl rfl (by decide)) (z_tne hf_ha hf_be (m := 340) (n := 20692) rfl rfl (by decide)) (z_tne hf_ha hf_du (m := 340) (n := 41700) rfl rfl (by decide)) (z_tne hf_ha hf_dr (m := 340) (n := 4260) rfl rfl (by decide)) (z_tne hf_ha hf_pn (m := 340) (n := 140) rfl rfl (by decide)) (z_tne hf_ha hf_wg (m := 340) (n := 196) rfl rfl (by decide)) (z_tne hf_ha hf_wh (m := 340) (n := 196) rfl rfl (by decide)) (z_tne hf_ha hf_tn (m := 340) (n := 196) rfl rfl (by decide))).trans hf_ha
      have hf_lw : f11 lw = .inl (cy 1, 25, .inl glw) := (hfm lw hm_lw (z_tne hf_lw hf_mm (m := 300) (n := 10) rfl rfl (by decide)) (z_tne hf_lw hf_ro (m := 300) (n := 204) rfl rfl (by decide)) (z_tne hf_lw hf_ct (m := 300) (n := 132) rfl rfl (by decide)) (z_tne hf_lw hf_se (m := 300) (n := 388) rfl rfl (by decide)) (z_tne hf_lw hf_th (m := 300) (n := 388) rfl rfl (by decide)) (z_tne hf_lw hf_cn (m := 300) (n := 388) rfl rfl (by decide)) (z_tne hf_lw hf_db (m := 300) (n := 140) rfl rfl (by decide)) (z_tne hf_lw hf_be (m := 300) (n := 20692) rfl rfl (by decide)) (z_tne hf_lw hf_du (m := 300) (n := 41700) rfl rfl (by decide)) (z_tne hf_lw hf_dr (m := 300) (n := 4260) rfl rfl (by decide)) (z_tne hf_lw hf_pn (m := 300) (n := 140) rfl rfl (by decide)) (z_tne hf_lw hf_wg (m := 300) (n := 196) rfl rfl (by decide)) (z_tne hf_lw hf_wh (m := 300) (n := 196) rfl rfl (by decide)) (z_tne hf_lw hf_tn (m := 300) (n := 196) rfl rfl (by decide))).trans hf_lw
      have hf_st : f11 st = .inl (cy 1, 20, .inl gst) := (hfm st hm_st (z_tne hf_st hf_mm (m := 260) (n := 10) rfl rfl (by decide)) (z_tne hf_st hf_ro (m := 260) (n := 204) rfl rfl (by decide)) (z_tne hf_st hf_ct (m := 260) (n := 132) rfl rfl (by decide)) (z_tne hf_st hf_se (m := 260) (n := 388) rfl rfl (by decide)) (z_tne hf_st hf_th (m := 260) (n := 388) rfl rfl (by decide)) (z_tne hf_st hf_cn (m := 260) (n := 388) rfl rfl (by decide)) (z_tne hf_st hf_db (m := 260) (n := 140) rfl rfl (by decide)) (z_tne hf_st hf_be (m := 260) (n := 20692) rfl rfl (by decide)) (z_tne hf_st hf_du (m := 260) (n := 41700) rfl rfl (by decide)) (z_tne hf_st hf_dr (m := 260) (n := 4260) rfl rfl (by decide)) (z_tne hf_st hf_pn (m := 260) (n := 140) rfl rfl (by decide)) (z_tne hf_st hf_wg (m := 260) (n := 196) rfl rfl (by decide)) (z_tne hf_st hf_wh (m := 260) (n := 196) rfl rfl (by decide)) (z_tne hf_st hf_tn (m := 260) (n := 196) rfl rfl (by decide))).trans hf_st
      have hf_fo : f11 fo = .inl (cy 1, 180, .inl gfo) := (hfm fo hm_fo (z_tne hf_fo hf_mm (m := 1540) (n := 10) rfl rfl (by decide)) (z_tne hf_fo hf_ro (m := 1540) (n := 204) rfl rfl (by decide)) (z_tne hf_fo hf_ct (m := 1540) (n := 132) rfl rfl (by decide)) (z_tne hf_fo hf_se (m := 1540) (n := 388) rfl rfl (by decide)) (z_tne hf_fo hf_th (m := 1540) (n := 388) rfl rfl (by decide)) (z_tne hf_fo hf_cn (m := 1540) (n := 388) rfl rfl (by decide)) (z_tne hf_fo hf_db (m := 1540) (n := 140) rfl rfl (by decide)) (z_tne hf_fo hf_be (m := 1540) (n := 20692) rfl rfl (by decide)) (z_tne hf_fo hf_du (m := 1540) (n := 41700) rfl rfl (by decide)) (z_tne hf_fo hf_dr (m := 1540) (n := 4260) rfl rfl (by decide)) (z_tne hf_fo hf_pn (m := 1540) (n := 140) rfl rfl (by decide)) (z_tne hf_fo hf_wg (m := 1540) (n := 196) rfl rfl (by decide)) (z_tne hf_fo hf_wh (m := 1540) (n := 196) rfl rfl (by decide)) (z_tne hf_fo hf_tn (m := 1540) (n := 196) rfl rfl (by decide))).trans hf_fo
      have hf_li : f11 li = .inl (cy 1, 5, .inl gli) := (hfm li hm_li (z_tne hf_li hf_mm (m := 140) (n := 10) rfl rfl (by decide)) (z_tne hf_li hf_ro (m := 140) (n := 204) rfl rfl (by decide)) (z_tne hf_li hf_ct (m := 140) (n := 132) rfl rfl (by decide)) (z_tne hf_li hf_se (m := 140) (n := 388) rfl rfl (by decide)) (z_tne hf_li hf_th (m := 140) (n := 388) rfl rfl (by decide)) (z_tne hf_li hf_cn (m := 140) (n := 388) rfl rfl (by decide)) (Ne.symm ne_db_li) (z_tne hf_li hf_be (m := 140) (n := 20692) rfl rfl (by decide)) (z_tne hf_li hf_du (m := 140) (n := 41700) rfl rfl (by decide)) (z_tne hf_li hf_dr (m := 140) (n := 4260) rfl rfl (by decide)) ne_li_pn (z_tne hf_li hf_wg (m := 140) (n := 196) rfl rfl (by decide)) (z_tne hf_li hf_wh (m := 140) (n := 196) rfl rfl (by decide)) (z_tne hf_li hf_tn (m := 140) (n := 196) rfl rfl (by decide))).trans hf_li
      have hf_mm : f11 mm = .inr (10, [.int 0, .ref wd, .ref my, .ref ce, .ref mv, .ref ta, .int m6, .int m7, .int m8, .int m9, .int m10, .long m11, .int m12, .int m13, .int m14, .int m15, .ref li, .ref ha, .ref lw, .ref st, .ref fo, .ref dr, .int m22, .ref ik, .int o2_12, .int mn2_13, .long x2_22, .int i2_14, .int u2_15, .ref ro, .int n2_16, .ref ct, .ref se, .ref th, .ref cn, .ref be, .int y2_18, .ref du, .int d2_17, .ref db, .int bp2_19, .int bg2_20, .int bh2_21, .ref pn, .ref wg, .ref wh, .ref tn, .ref he, .int m48, .ref tr, .ref fd, .ref po, .int m52, .int m53]) := ha_0
      have hf_ro : f11 ro = .inl (cy 1, 13, .inl nro_23) := ha_1
      have hf_ct : f11 ct = .inl (cy 1, 4, .inl nct_24) := ha_2
      have hf_se : f11 se = .inl (cy 1, 36, .inl nse_25) := ha_3
      have hf_th : f11 th = .inl (cy 1, 36, .inl nth_26) := ha_4
      have hf_cn : f11 cn = .inl (cy 1, 36, .inl ncn_27) := ha_5
      have hf_db : f11 db = .inl (cy 1, 5, .inl ndb_28) := ha_6
      have hf_be : f11 be = .inl (cy 1, 2574, .inl nbe_29) := ha_7
      have hf_du : f11 du = .inl (cy 1, 5200, .inl ndu_30) := ha_8
      have hf_dr : f11 dr = .inl (cy 1, 520, .inl ndr_31) := ha_9
      have hf_pn : f11 pn = .inl (cy 1, 5, .inl npn_32) := ha_10
      have hf_wg : f11 wg = .inl (cy 1, 12, .inl nwg_33) := ha_11
      have hf_wh : f11 wh = .inl (cy 1, 12, .inl nwh_34) := ha_12
      have hf_tn : f11 tn = .inl (cy 1, 12, .inl ntn_35) := ha_13
      have hq36 := hp
      refine lv_goto (tgt := 34) hx hb dX10_rests_29 (by decide) ?_
      exact z_iret hx hb hr hlk (by decide) (by decide) hw (⟨hsub, hfr, o2_12, mn2_13, i2_14, u2_15, n2_16, d2_17, y2_18, bp2_19, bg2_20, bh2_21, x2_22, nro_23, nct_24, nse_25, nth_26, ncn_27, ndb_28, nbe_29, ndu_30, ndr_31, npn_32, nwg_33, nwh_34, ntn_35, hf_mm, hf_ro, hf_ct, hf_se, hf_th, hf_cn, hf_db, hf_be, hf_du, hf_dr, hf_pn, hf_wg, hf_wh, hf_tn, hq_ro, hq_ct, hq_be, hq_du, hq_dr, hq_wg, hq_wh, by omega, by omega, by omega⟩) dX10_rests_34
    · skip
      refine z_if_eq (tgt := 32) hx hb (show (0 : Int32).toInt = 0 by decide) dX10_rests_21 (by decide) (fun _ => ?_) (fun h => absurd h (by decide))
      refine lv_bipush (v := (-2)) hx hb dX10_rests_32 (by decide) ?_
      exact z_iret hx hb hr hlk (by decide) (by decide) hw (⟨hsub, hfr, m24, m25, m27, m28, m30, m38, m36, m40, m41, m42, m26, gro, gct, gse, gth, gcn, gdb, gbe, gdu, gdr, gpn, gwg, gwh, gtn, hf_mm, hf_ro, hf_ct, hf_se, hf_th, hf_cn, hf_db, hf_be, hf_du, hf_dr, hf_pn, hf_wg, hf_wh, hf_tn, hq_ro, hq_ct, hq_be, hq_du, hq_dr, hq_wg, hq_wh, by omega, by omega, by omega⟩) dX10_rests_34
  · skip
    refine z_if_eq (tgt := 32) hx hb (show (0 : Int32).toInt = 0 by decide) dX10_rests_9 (by decide) (fun _ => ?_) (fun h => absurd h (by decide))
    refine lv_bipush (v := (-2)) hx hb dX10_rests_32 (by decide) ?_
    exact z_iret hx hb hr hlk (by decide) (by decide) hw (⟨hsub, hfr, m24, m25, m27, m28, m30, m38, m36, m40, m41, m42, m26, gro, gct, gse, gth, gcn, gdb, gbe, gdu, gdr, gpn, gwg, gwh, gtn, hf_mm, hf_ro, hf_ct, hf_se, hf_th, hf_cn, hf_db, hf_be, hf_du, hf_dr, hf_pn, hf_wg, hf_wh, hf_tn, hq_ro, hq_ct, hq_be, hq_du, hq_dr, hq_wg, hq_wh, by omega, by omega, by omega⟩) dX10_rests_34

set_option maxHeartbeats 2000000 in
set_option maxRecDepth 100000 in
theorem c_X10_sent (l : Launch) {D : va_G} {cy : Nat → ClassId} {L : List Nat} {f : Nat → va_E} {sz : Nat} {adK adV : Nat → Nat} {mm wd my ce mv ta li ha lw st fo dr ik ro ct se th cn be du db pn wg wh tn he tr fd po : Nat} {m0 m6 m7 m8 m9 m10 m12 m13 m14 m15 m22 m24 m25 m27 m28 m30 m36 m38 m40 m41 m42 m48 m52 m53 : Int32} {m11 m26 : Int64} {gha glw gst gfo gdr gro gct gse gth gcn gbe gdu gdb gpn gwg gwh gtn : Nat → Int32}  {kk nn : Int32} (hm_mm : mm ∈ L) (hm_ha : ha ∈ L) (hm_dr : dr ∈ L) (hm_ro : ro ∈ L) (hm_lw : lw ∈ L) (hm_st : st ∈ L) (hm_ct : ct ∈ L) (hm_se : se ∈ L) (hm_th : th ∈ L) (hm_cn : cn ∈ L) (hm_db : db ∈ L) (hm_be : be ∈ L) (hm_du : du ∈ L) (hm_fo : fo ∈ L) (hm_pn : pn ∈ L) (hm_wg : wg ∈ L) (hm_wh : wh ∈ L) (hm_tn : tn ∈ L) (hf_mm : f mm = .inr (10, [.int m0, .ref wd, .ref my, .ref ce, .ref mv, .ref ta, .int m6, .int m7, .int m8, .int m9, .int m10, .long m11, .int m12, .int m13, .int m14, .int m15, .ref li, .ref ha, .ref lw, .ref st, .ref fo, .ref dr, .int m22, .ref ik, .int m24, .int m25, .long m26, .int m27, .int m28, .ref ro, .int m30, .ref ct, .ref se, .ref th, .ref cn, .ref be, .int m36, .ref du, .int m38, .ref db, .int m40, .int m41, .int m42, .ref pn, .ref wg, .ref wh, .ref tn, .ref he, .int m48, .ref tr, .ref fd, .ref po, .int m52, .int m53])) (hf_ha : f ha = .inl (cy 1, 30, .inl gha)) (hf_dr : f dr = .inl (cy 1, 520, .inl gdr)) (hf_ro : f ro = .inl (cy 1, 13, .inl gro)) (hf_lw : f lw = .inl (cy 1, 25, .inl glw)) (hf_st : f st = .inl (cy 1, 20, .inl gst)) (hf_ct : f ct = .inl (cy 1, 4, .inl gct)) (hf_se : f se = .inl (cy 1, 36, .inl gse)) (hf_th : f th = .inl (cy 1, 36, .inl gth)) (hf_cn : f cn = .inl (cy 1, 36, .inl gcn)) (hf_db : f db = .inl (cy 1, 5, .inl gdb)) (hf_be : f be = .inl (cy 1, 2574, .inl gbe)) (hf_du : f du = .inl (cy 1, 5200, .inl gdu)) (hf_fo : f fo = .inl (cy 1, 180, .inl gfo)) (hf_pn : f pn = .inl (cy 1, 5, .inl gpn)) (hf_wg : f wg = .inl (cy 1, 12, .inl gwg)) (hf_wh : f wh = .inl (cy 1, 12, .inl gwh)) (hf_tn : f tn = .inl (cy 1, 12, .inl gtn)) (ne_se_th : se ≠ th) (ne_se_cn : se ≠ cn) (ne_th_cn : th ≠ cn) (ne_db_pn : db ≠ pn) (ne_wg_wh : wg ≠ wh) (ne_wg_tn : wg ≠ tn) (ne_wh_tn : wh ≠ tn) (hq_ha : ∀ j : Nat, q_has j (gha j)) (hq_dr : ∀ j : Nat, q_drv j (gdr j)) (hq_ro : ∀ j : Nat, q_12 j (gro j)) (hq_lw : ∀ j : Nat, q_law j (glw j)) (hq_st : ∀ j : Nat, q_law j (gst j)) (hq_ct : ∀ j : Nat, q_law j (gct j)) (hq_be : ∀ j : Nat, q_be j (gbe j)) (hq_du : ∀ j : Nat, q_du j (gdu j)) (hq_wg : ∀ j : Nat, q_3 j (gwg j)) (hq_wh : ∀ j : Nat, q_23 j (gwh j)) (hxx : 0 ≤ m26.toInt ∧ m26.toInt < 2147483648) (hea : ∀ m : Nat, m < 5 → z_ea gha glw m) (hbg : 0 ≤ m41.toInt ∧ m41.toInt ≤ 3) (hbh : 0 ≤ m42.toInt ∧ m42.toInt ≤ 23) : Met l yX10_sent (z_ws yX10_sent cX10_sent 3 (some .int)) (z_R 9 0 0) (va_Pc [.ref mm, .int kk, .int nn] (z_Pre D vwCl (z_KK D cy adK adV) L f sz)) (z_Qi D vwCl (fun r u => L = u.1 ∧ (∀ b ∈ L, b ≠ mm → b ≠ ro → b ≠ ct → b ≠ se → b ≠ th → b ≠ cn → b ≠ db → b ≠ be → b ≠ du → b ≠ dr → b ≠ pn → b ≠ wg → b ≠ wh → b ≠ tn → u.2 b = f b) ∧ (∃ (o2 mn2 i2 u2 n2 d2 y2 bp2 bg2 bh2 : Int32) (x2 : Int64) (nro nct nse nth ncn ndb nbe ndu ndr npn nwg nwh ntn : Nat → Int32), (u.2 mm = .inr (10, [.int 0, .ref wd, .ref my, .ref ce, .ref mv, .ref ta, .int m6, .int m7, .int m8, .int m9, .int m10, .long m11, .int m12, .int m13, .int m14, .int m15, .ref li, .ref ha, .ref lw, .ref st, .ref fo, .ref dr, .int m22, .ref ik, .int o2, .int mn2, .long x2, .int i2, .int u2, .ref ro, .int n2, .ref ct, .ref se, .ref th, .ref cn, .ref be, .int y2, .ref du, .int d2, .ref db, .int bp2, .int bg2, .int bh2, .ref pn, .ref wg, .ref wh, .ref tn, .ref he, .int m48, .ref tr, .ref fd, .ref po, .int m52, .int m53])) ∧ (u.2 ro = .inl (cy 1, 13, .inl nro)) ∧ (u.2 ct = .inl (cy 1, 4, .inl nct)) ∧ (u.2 se = .inl (cy 1, 36, .inl nse)) ∧ (u.2 th = .inl (cy 1, 36, .inl nth)) ∧ (u.2 cn = .inl (cy 1, 36, .inl ncn)) ∧ (u.2 db = .inl (cy 1, 5, .inl ndb)) ∧ (u.2 be = .inl (cy 1, 2574, .inl nbe)) ∧ (u.2 du = .inl (cy 1, 5200, .inl ndu)) ∧ (u.2 dr = .inl (cy 1, 520, .inl ndr)) ∧ (u.2 pn = .inl (cy 1, 5, .inl npn)) ∧ (u.2 wg = .inl (cy 1, 12, .inl nwg)) ∧ (u.2 wh = .inl (cy 1, 12, .inl nwh)) ∧ (u.2 tn = .inl (cy 1, 12, .inl ntn)) ∧ (∀ j : Nat, q_12 j (nro j)) ∧ (∀ j : Nat, q_law j (nct j)) ∧ (∀ j : Nat, q_be j (nbe j)) ∧ (∀ j : Nat, q_du j (ndu j)) ∧ (∀ j : Nat, q_drv j (ndr j)) ∧ (∀ j : Nat, q_3 j (nwg j)) ∧ (∀ j : Nat, q_23 j (nwh j)) ∧ ((0 ≤ x2.toInt ∧ x2.toInt < 2147483648) ∧ (0 ≤ bg2.toInt ∧ bg2.toInt ≤ 3) ∧ (0 ≤ bh2.toInt ∧ bh2.toInt ≤ 23)))) L sz) 0 0 (z_A L sz) := by
  refine z_met (cc := cX10_sent) (maxL := 3) (ret := (some .int)) (lv := [(0, .ref mm), (1, .int kk), (2, .int nn)]) (by decide) rfl (Nat.le_of_ble_eq_true rfl) rfl ?_
  intro p e s m below meth c ls hx hb hr hlk hml hown hnm hts hKK hA hw hl
  have hK := hKK.1.1
  have hown : s.vm.findClass RX10 = some m.cls := hown
  have hT : ∀ w ∈ lw_all, w.before ([.ref mm, .int kk, .int nn] : List Value).toArray s = true := fun w h => hts w (z_cons w h)
  have hsub : L = L := rfl
  have hfr : ∀ b ∈ L, b ≠ mm → b ≠ ro → b ≠ ct → b ≠ se → b ≠ th → b ≠ cn → b ≠ db → b ≠ be → b ≠ du → b ≠ dr → b ≠ pn → b ≠ wg → b ≠ wh → b ≠ tn → f b = f b := fun _ _ _ _ _ _ _ _ _ _ _ _ _ _ _ _ => rfl
  have hh0 := (hq_ha 0).1 rfl
  have hh1 := (hq_ha 1).2.1 rfl
  have hh2 := (hq_ha 2).2.2.1 rfl
  have hh3 := (hq_ha 3).2.2.2 rfl
  have hea0 : 2 ≤ (glw 3).toInt ∨ ((gha 3).toInt = 0 ∧ (gha 0).toInt = 0) := hea 0 (by decide)
  have hz_m2 : (-2 : Int32).toInt = -2 := by decide
  have hz_m1 : (-1 : Int32).toInt = -1 := by decide
  have hz_0 : (0 : Int32).toInt = 0 := by decide
  refine lv_aload_n hx hb dX10_sent_0 rfl (lv_at hl 0 rfl) ?_
  refine lv_iconst (v := 0) hx hb dX10_sent_1 (by decide) ?_
  refine z_put (C := RX10) (T := TX10) (N := 54) (ci := 10) (v := .int 0) (fs' := [.int 0, .ref wd, .ref my, .ref ce, .ref mv, .ref ta, .int m6, .int m7, .int m8, .int m9, .int m10, .long m11, .int m12, .int m13, .int m14, .int m15, .ref li, .ref ha, .ref lw, .ref st, .ref fo, .ref dr, .int m22, .ref ik, .int m24, .int m25, .long m26, .int m27, .int m28, .ref ro, .int m30, .ref ct, .ref se, .ref th, .ref cn, .ref be, .int m36, .ref du, .int m38, .ref db, .int m40, .int m41, .int m42, .ref pn, .ref wg, .ref wh, .ref tn, .ref he, .int m48, .ref tr, .ref fd, .ref po, .int m52, .int m53]) hx hb hT zin_X10 tyX10_ok nmX10 hown hK hw hm_mm hf_mm rfl 0 (by decide) (hT _ kw_1168) rfl rfl rfl (Nat.le_of_ble_eq_true rfl) rfl dX10_sent_2 (fun H locs hw => ?_)
  obtain ⟨f1, e_f1⟩ : ∃ z, z = va_up f mm (.inr (10, [.int 0, .ref wd, .ref my, .ref ce, .ref mv, .ref ta, .int m6, .int m7, .int m8, .int m9, .int m10, .long m11, .int m12, .int m13, .int m14, .int m15, .ref li, .ref ha, .ref lw, .ref st, .ref fo, .ref dr, .int m22, .ref ik, .int m24, .int m25, .long m26, .int m27, .int m28, .ref ro, .int m30, .ref ct, .ref se, .ref th, .ref cn, .ref be, .int m36, .ref du, .int m38, .ref db, .int m40, .int m41, .int m42, .ref pn, .ref wg, .ref wh, .ref tn, .ref he, .int m48, .ref tr, .ref fd, .ref po, .int m52, .int m53])) := ⟨_, rfl⟩
  rw [← e_f1] at hw
  have hf_ha : f1 ha = .inl (cy 1, 30, .inl gha) := (congrFun e_f1 ha).trans (z_up_ne (z_tne hf_ha hf_mm (m := 340) (n := 10) rfl rfl (by decide)) hf_ha)
  have hf_dr : f1 dr = .inl (cy 1, 520, .inl gdr) := (congrFun e_f1 dr).trans (z_up_ne (z_tne hf_dr hf_mm (m := 4260) (n := 10) rfl rfl (by decide)) hf_dr)
  have hf_ro : f1 ro = .inl (cy 1, 13, .inl gro) := (congrFun e_f1 ro).trans (z_up_ne (z_tne hf_ro hf_mm (m := 204) (n := 10) rfl rfl (by decide)) hf_ro)
  have hf_lw : f1 lw = .inl (cy 1, 25, .inl glw) := (congrFun e_f1 lw).trans (z_up_ne (z_tne hf_lw hf_mm (m := 300) (n := 10) rfl rfl (by decide)) hf_lw)
  have hf_st : f1 st = .inl (cy 1, 20, .inl gst) := (congrFun e_f1 st).trans (z_up_ne (z_tne hf_st hf_mm (m := 260) (n := 10) rfl rfl (by decide)) hf_st)
  have hf_ct : f1 ct = .inl (cy 1, 4, .inl gct) := (congrFun e_f1 ct).trans (z_up_ne (z_tne hf_ct hf_mm (m := 132) (n := 10) rfl rfl (by decide)) hf_ct)
  have hf_se : f1 se = .inl (cy 1, 36, .inl gse) := (congrFun e_f1 se).trans (z_up_ne (z_tne hf_se hf_mm (m := 388) (n := 10) rfl rfl (by decide)) hf_se)
  have hf_th : f1 th = .inl (cy 1, 36, .inl gth) := (congrFun e_f1 th).trans (z_up_ne (z_tne hf_th hf_mm (m := 388) (n := 10) rfl rfl (by decide)) hf_th)
  have hf_cn : f1 cn = .inl (cy 1, 36, .inl gcn) := (congrFun e_f1 cn).trans (z_up_ne (z_tne hf_cn hf_mm (m := 388) (n := 10) rfl rfl (by decide)) hf_cn)
  have hf_db : f1 db = .inl (cy 1, 5, .inl gdb) := (congrFun e_f1 db).trans (z_up_ne (z_tne hf_db hf_mm (m := 140) (n := 10) rfl rfl (by decide)) hf_db)
  have hf_be : f1 be = .inl (cy 1, 2574, .inl gbe) := (congrFun e_f1 be).trans (z_up_ne (z_tne hf_be hf_mm (m := 20692) (n := 10) rfl rfl (by decide)) hf_be)
  have hf_du : f1 du = .inl (cy 1, 5200, .inl gdu) := (congrFun e_f1 du).trans (z_up_ne (z_tne hf_du hf_mm (m := 41700) (n := 10) rfl rfl (by decide)) hf_du)
  have hf_fo : f1 fo = .inl (cy 1, 180, .inl gfo) := (congrFun e_f1 fo).trans (z_up_ne (z_tne hf_fo hf_mm (m := 1540) (n := 10) rfl rfl (by decide)) hf_fo)
  have hf_pn : f1 pn = .inl (cy 1, 5, .inl gpn) := (congrFun e_f1 pn).trans (z_up_ne (z_tne hf_pn hf_mm (m := 140) (n := 10) rfl rfl (by decide)) hf_pn)
  have hf_wg : f1 wg = .inl (cy 1, 12, .inl gwg) := (congrFun e_f1 wg).trans (z_up_ne (z_tne hf_wg hf_mm (m := 196) (n := 10) rfl rfl (by decide)) hf_wg)
  have hf_wh : f1 wh = .inl (cy 1, 12, .inl gwh) := (congrFun e_f1 wh).trans (z_up_ne (z_tne hf_wh hf_mm (m := 196) (n := 10) rfl rfl (by decide)) hf_wh)
  have hf_tn : f1 tn = .inl (cy 1, 12, .inl gtn) := (congrFun e_f1 tn).trans (z_up_ne (z_tne hf_tn hf_mm (m := 196) (n := 10) rfl rfl (by decide)) hf_tn)
  have hf_mm : f1 mm = .inr (10, [.int 0, .ref wd, .ref my, .ref ce, .ref mv, .ref ta, .int m6, .int m7, .int m8, .int m9, .int m10, .long m11, .int m12, .int m13, .int m14, .int m15, .ref li, .ref ha, .ref lw, .ref st, .ref fo, .ref dr, .int m22, .ref ik, .int m24, .int m25, .long m26, .int m27, .int m28, .ref ro, .int m30, .ref ct, .ref se, .ref th, .ref cn, .ref be, .int m36, .ref du, .int m38, .ref db, .int m40, .int m41, .int m42, .ref pn, .ref wg, .ref wh, .ref tn, .ref he, .int m48, .ref tr, .ref fd, .ref po, .int m52, .int m53]) := (congrFun e_f1 mm).trans z_up_self
  have hfr : ∀ b ∈ L, b ≠ mm → b ≠ ro → b ≠ ct → b ≠ se → b ≠ th → b ≠ cn → b ≠ db → b ≠ be → b ≠ du → b ≠ dr → b ≠ pn → b ≠ wg → b ≠ wh → b ≠ tn → f1 b = f b := fun b hb h0 h1 h2 h3 h4 h5 h6 h7 h8 h9 h10 h11 h12 h13 => (congrFun e_f1 b).trans (z_up_ne h0 (hfr b hb h0 h1 h2 h3 h4 h5 h6 h7 h8 h9 h10 h11 h12 h13))
  refine lv_aload_n hx hb dX10_sent_5 rfl (lv_at hl 0 rfl) ?_
  refine lv_iload_n hx hb dX10_sent_6 rfl (lv_at hl 1 rfl) ?_
  refine z_calliV (cells := 0) (slots := 0) (b := mm) (As := [.int kk]) (rest := []) (ci := 10) (q0 := (RX10, TX10, 54)) ⟨hx, hb, hml, hown, hT⟩ (c_X10_isDrive l hm_mm hm_ha hf_mm hf_ha hq_ha) (cwV 1 hT (z_goodV (fun _ h => h) kw_1482 kw_1484 kw_50 kw_96 kw_1485) rfl rfl rfl (by decide +kernel) ⟨by decide, by decide⟩) z_mv hKK hK hw hA hm_mm hf_mm rfl rfl rfl hl.1 rfl (Nat.le_of_ble_eq_true rfl) dX10_sent_7 ⟨by decide, by decide⟩ (fun r2 u H locs hp hw => ?_)
  obtain ⟨rfl, hp⟩ := hp
  have hw : z_H D vwCl (z_A L sz) s.heap L f1 H locs := hw
  rcases hp with ⟨rfl, h3⟩ | ⟨rfl, h3⟩
  · skip
    refine z_if_eq (tgt := 25) hx hb (show (1 : Int32).toInt = 1 by decide) dX10_sent_10 (by decide) (fun h => absurd h (by decide)) (fun _ => ?_)
    refine lv_iload_n hx hb dX10_sent_13 rfl (lv_at hl 2 rfl) ?_
    refine lv_i2l hx hb dX10_sent_14 rfl ?_
    refine lv_topl (fun w4 e_w4 => ?_)
    have i_w4 : w4.toInt = nn.toInt := z_i2l e_w4 rfl
    refine lv_lconst (v := 0) hx hb dX10_sent_15 (by decide) ?_
    refine lv_ldc2 (v := 30) hx hb hown (hT _ kw_1652) dX10_sent_16 ?_
    have hz5 := (show (0 : Int64).toInt = 0 by decide)
    have hz6 := (show (30 : Int64).toInt = 30 by decide)
    refine z_calliS (cells := 0) (slots := 0) (As := [.long w4, .long 0, .long 30]) (rest := []) ⟨hx, hb, hml, hown, hT⟩ (c_X10_in l ) (va_cwS 3 hT (z_goodS (fun _ h => h) kw_1339 kw_1340 kw_96 kw_1341) rfl rfl rfl (by decide +kernel) ⟨by decide, by decide⟩) z_mv hKK hw hA rfl hl.1 rfl (Nat.le_of_ble_eq_true rfl) dX10_sent_19 ⟨by decide, by decide⟩ (fun r7 u H locs hp hw => ?_)
    obtain ⟨rfl, hp⟩ := hp
    have hw : z_H D vwCl (z_A L sz) s.heap L f1 H locs := hw
    rcases hp with ⟨rfl, h8⟩ | ⟨rfl, h8⟩
    · skip
      refine z_if_ne (tgt := 28) hx hb (show (1 : Int32).toInt = 1 by decide) dX10_sent_22 (by decide) (fun _ => ?_) (fun h => absurd h (by decide))
      refine lv_aload_n hx hb dX10_sent_28 rfl (lv_at hl 0 rfl) ?_
      refine lv_iload_n hx hb dX10_sent_29 rfl (lv_at hl 2 rfl) ?_
      refine z_calliV (cells := 0) (slots := 0) (b := mm) (As := [.int nn]) (rest := []) (ci := 10) (q0 := (RX10, TX10, 54)) ⟨hx, hb, hml, hown, hT⟩ (c_X10_restsBy l hm_mm hm_ha hm_dr hm_ro hm_lw hm_st hm_ct hm_se hm_th hm_cn hm_db hm_be hm_du hm_fo hm_pn hm_wg hm_wh hm_tn hf_mm hf_ha hf_dr hf_ro hf_lw hf_st hf_ct hf_se hf_th hf_cn hf_db hf_be hf_du hf_fo hf_pn hf_wg hf_wh hf_tn ne_se_th ne_se_cn ne_th_cn ne_db_pn ne_wg_wh ne_wg_tn ne_wh_tn hq_ha hq_dr hq_ro hq_lw hq_st hq_ct hq_be hq_du hq_wg hq_wh (by first | omega | decide | assumption) hea (by first | omega | decide | assumption) (by first | omega | decide | assumption) (by first | omega | decide | assumption)) (cwV 1 hT (z_goodV (fun _ h => h) kw_1653 kw_1655 kw_74 kw_96 kw_1656) rfl rfl rfl (by decide +kernel) ⟨by decide, by decide⟩) z_mv hKK hK hw hA hm_mm hf_mm rfl rfl rfl hl.1 rfl (Nat.le_of_ble_eq_true rfl) dX10_sent_30 ⟨by decide, by decide⟩ (fun r9 u H locs hp hw => ?_)
      obtain ⟨L10, f11⟩ := u
      obtain ⟨hsb, hfm, o2_12, mn2_13, i2_14, u2_15, n2_16, d2_17, y2_18, bp2_19, bg2_20, bh2_21, x2_22, nro_23, nct_24, nse_25, nth_26, ncn_27, ndb_28, nbe_29, ndu_30, ndr_31, npn_32, nwg_33, nwh_34, ntn_35, ha_0, ha_1, ha_2, ha_3, ha_4, ha_5, ha_6, ha_7, ha_8, ha_9, ha_10, ha_11, ha_12, ha_13, hq_ro, hq_ct, hq_be, hq_du, hq_dr, hq_wg, hq_wh, hp⟩ := hp
      have hsb : L = L10 := hsb
      subst hsb
      have hsb : ∀ b ∈ L, b ∈ L := fun _ h => h
      have hw : z_H D vwCl (z_A L sz) s.heap L f11 H locs := hw
      have hfr : ∀ b ∈ L, b ≠ mm → b ≠ ro → b ≠ ct → b ≠ se → b ≠ th → b ≠ cn → b ≠ db → b ≠ be → b ≠ du → b ≠ dr → b ≠ pn → b ≠ wg → b ≠ wh → b ≠ tn → f11 b = f b := fun b hb h0 h1 h2 h3 h4 h5 h6 h7 h8 h9 h10 h11 h12 h13 => (hfm b hb h0 h1 h2 h3 h4 h5 h6 h7 h8 h9 h10 h11 h12 h13).trans (hfr b hb h0 h1 h2 h3 h4 h5 h6 h7 h8 h9 h10 h11 h12 h13)
      have hf_ha : f11 ha = .inl (cy 1, 30, .inl gha) := (hfm ha hm_ha (z_tne hf_ha hf_mm (m := 340) (n := 10) rfl rfl (by decide)) (z_tne hf_ha hf_ro (m := 340) (n := 204) rfl rfl (by decide)) (z_tne hf_ha hf_ct (m := 340) (n := 132) rfl rfl (by decide)) (z_tne hf_ha hf_se (m := 340) (n := 388) rfl rfl (by decide)) (z_tne hf_ha hf_th (m := 340) (n := 388) rfl rfl (by decide)) (z_tne hf_ha hf_cn (m := 340) (n := 388) rfl rfl (by decide)) (z_tne hf_ha hf_db (m := 340) (n := 140) rfl rfl (by decide)) (z_tne hf_ha hf_be (m := 340) (n := 20692) rfl rfl (by decide)) (z_tne hf_ha hf_du (m := 340) (n := 41700) rfl rfl (by decide)) (z_tne hf_ha hf_dr (m := 340) (n := 4260) rfl rfl (by decide)) (z_tne hf_ha hf_pn (m := 340) (n := 140) rfl rfl (by decide)) (z_tne hf_ha hf_wg (m := 340) (n := 196) rfl rfl (by decide)) (z_tne hf_ha hf_wh (m := 340) (n := 196) rfl rfl (by decide)) (z_tne hf_ha hf_tn (m := 340) (n := 196) rfl rfl (by decide))).trans hf_ha
      have hf_lw : f11 lw = .inl (cy 1, 25, .inl glw) := (hfm lw hm_lw (z_tne hf_lw hf_mm (m := 300) (n := 10) rfl rfl (by decide)) (z_tne hf_lw hf_ro (m := 300) (n := 204) rfl rfl (by decide)) (z_tne hf_lw hf_ct (m := 300) (n := 132) rfl rfl (by decide)) (z_tne hf_lw hf_se (m := 300) (n := 388) rfl rfl (by decide)) (z_tne hf_lw hf_th (m := 300) (n := 388) rfl rfl (by decide)) (z_tne hf_lw hf_cn (m := 300) (n := 388) rfl rfl (by decide)) (z_tne hf_lw hf_db (m := 300) (n := 140) rfl rfl (by decide)) (z_tne hf_lw hf_be (m := 300) (n := 20692) rfl rfl (by decide)) (z_tne hf_lw hf_du (m := 300) (n := 41700) rfl rfl (by decide)) (z_tne hf_lw hf_dr (m := 300) (n := 4260) rfl rfl (by decide)) (z_tne hf_lw hf_pn (m := 300) (n := 140) rfl rfl (by decide)) (z_tne hf_lw hf_wg (m := 300) (n := 196) rfl rfl (by decide)) (z_tne hf_lw hf_wh (m := 300) (n := 196) rfl rfl (by decide)) (z_tne hf_lw hf_tn (m := 300) (n := 196) rfl rfl (by decide))).trans hf_lw
      have hf_st : f11 st = .inl (cy 1, 20, .inl gst) := (hfm st hm_st (z_tne hf_st hf_mm (m := 260) (n := 10) rfl rfl (by decide)) (z_tne hf_st hf_ro (m := 260) (n := 204) rfl rfl (by decide)) (z_tne hf_st hf_ct (m := 260) (n := 132) rfl rfl (by decide)) (z_tne hf_st hf_se (m := 260) (n := 388) rfl rfl (by decide)) (z_tne hf_st hf_th (m := 260) (n := 388) rfl rfl (by decide)) (z_tne hf_st hf_cn (m := 260) (n := 388) rfl rfl (by decide)) (z_tne hf_st hf_db (m := 260) (n := 140) rfl rfl (by decide)) (z_tne hf_st hf_be (m := 260) (n := 20692) rfl rfl (by decide)) (z_tne hf_st hf_du (m := 260) (n := 41700) rfl rfl (by decide)) (z_tne hf_st hf_dr (m := 260) (n := 4260) rfl rfl (by decide)) (z_tne hf_st hf_pn (m := 260) (n := 140) rfl rfl (by decide)) (z_tne hf_st hf_wg (m := 260) (n := 196) rfl rfl (by decide)) (z_tne hf_st hf_wh (m := 260) (n := 196) rfl rfl (by decide)) (z_tne hf_st hf_tn (m := 260) (n := 196) rfl rfl (by decide))).trans hf_st
      have hf_fo : f11 fo = .inl (cy 1, 180, .inl gfo) := (hfm fo hm_fo (z_tne hf_fo hf_mm (m := 1540) (n := 10) rfl rfl (by decide)) (z_tne hf_fo hf_ro (m := 1540) (n := 204) rfl rfl (by decide)) (z_tne hf_fo hf_ct (m := 1540) (n := 132) rfl rfl (by decide)) (z_tne hf_fo hf_se (m := 1540) (n := 388) rfl rfl (by decide)) (z_tne hf_fo hf_th (m := 1540) (n := 388) rfl rfl (by decide)) (z_tne hf_fo hf_cn (m := 1540) (n := 388) rfl rfl (by decide)) (z_tne hf_fo hf_db (m := 1540) (n := 140) rfl rfl (by decide)) (z_tne hf_fo hf_be (m := 1540) (n := 20692) rfl rfl (by decide)) (z_tne hf_fo hf_du (m := 1540) (n := 41700) rfl rfl (by decide)) (z_tne hf_fo hf_dr (m := 1540) (n := 4260) rfl rfl (by decide)) (z_tne hf_fo hf_pn (m := 1540) (n := 140) rfl rfl (by decide)) (z_tne hf_fo hf_wg (m := 1540) (n := 196) rfl rfl (by decide)) (z_tne hf_fo hf_wh (m := 1540) (n := 196) rfl rfl (by decide)) (z_tne hf_fo hf_tn (m := 1540) (n := 196) rfl rfl (by decide))).trans hf_fo
      have hf_mm : f11 mm = .inr (10, [.int 0, .ref wd, .ref my, .ref ce, .ref mv, .ref ta, .int m6, .int m7, .int m8, .int m9, .int m10, .long m11, .int m12, .int m13, .int m14, .int m15, .ref li, .ref ha, .ref lw, .ref st, .ref fo, .ref dr, .int m22, .ref ik, .int o2_12, .int mn2_13, .long x2_22, .int i2_14, .int u2_15, .ref ro, .int n2_16, .ref ct, .ref se, .ref th, .ref cn, .ref be, .int y2_18, .ref du, .int d2_17, .ref db, .int bp2_19, .int bg2_20, .int bh2_21, .ref pn, .ref wg, .ref wh, .ref tn, .ref he, .int m48, .ref tr, .ref fd, .ref po, .int m52, .int m53]) := ha_0
      have hf_ro : f11 ro = .inl (cy 1, 13, .inl nro_23) := ha_1
      have hf_ct : f11 ct = .inl (cy 1, 4, .inl nct_24) := ha_2
      have hf_se : f11 se = .inl (cy 1, 36, .inl nse_25) := ha_3
      have hf_th : f11 th = .inl (cy 1, 36, .inl nth_26) := ha_4
      have hf_cn : f11 cn = .inl (cy 1, 36, .inl ncn_27) := ha_5
      have hf_db : f11 db = .inl (cy 1, 5, .inl ndb_28) := ha_6
      have hf_be : f11 be = .inl (cy 1, 2574, .inl nbe_29) := ha_7
      have hf_du : f11 du = .inl (cy 1, 5200, .inl ndu_30) := ha_8
      have hf_dr : f11 dr = .inl (cy 1, 520, .inl ndr_31) := ha_9
      have hf_pn : f11 pn = .inl (cy 1, 5, .inl npn_32) := ha_10
      have hf_wg : f11 wg = .inl (cy 1, 12, .inl nwg_33) := ha_11
      have hf_wh : f11 wh = .inl (cy 1, 12, .inl nwh_34) := ha_12
      have hf_tn : f11 tn = .inl (cy 1, 12, .inl ntn_35) := ha_13
      have hq36 := hp
      refine lv_pop hx hb dX10_sent_33 rfl ?_
      refine lv_aload_n hx hb dX10_sent_34 rfl (lv_at hl 0 rfl) ?_
      refine z_get (C := RX10) (T := TX10) (N := 54) (ci := 10) (v := .ref tn) hx hb hT zin_X10 hown hK hw hm_mm hf_mm rfl 46 (by decide) (hT _ kw_1214) rfl dX10_sent_35 ?_
      refine lv_iload_n hx hb dX10_sent_38 rfl (lv_at hl 1 rfl) ?_
      refine z_iald hx hb hK hw 1 hm_tn hf_tn rfl (z_ix rfl (by omega)) dX10_sent_39 ?_
      refine lv_topi (fun w37 e_w37 => ?_)
      exact z_iret hx hb hr hlk (by decide) (by decide) hw (⟨hsub, hfr, o2_12, mn2_13, i2_14, u2_15, n2_16, d2_17, y2_18, bp2_19, bg2_20, bh2_21, x2_22, nro_23, nct_24, nse_25, nth_26, ncn_27, ndb_28, nbe_29, ndu_30, ndr_31, npn_32, nwg_33, nwh_34, ntn_35, hf_mm, hf_ro, hf_ct, hf_se, hf_th, hf_cn, hf_db, hf_be, hf_du, hf_dr, hf_pn, hf_wg, hf_wh, hf_tn, hq_ro, hq_ct, hq_be, hq_du, hq_dr, hq_wg, hq_wh, by omega, by omega, by omega⟩) dX10_sent_40
    · skip
      refine z_if_ne (tgt := 28) hx hb (show (0 : Int32).toInt = 0 by decide) dX10_sent_22 (by decide) (fun h => absurd h (by decide)) (fun _ => ?_)
      refine lv_bipush (v := (-2)) hx hb dX10_sent_25 (by decide) ?_
      exact z_iret hx hb hr hlk (by decide) (by decide) hw (⟨hsub, hfr, m24, m25, m27, m28, m30, m38, m36, m40, m41, m42, m26, gro, gct, gse, gth, gcn, gdb, gbe, gdu, gdr, gpn, gwg, gwh, gtn, hf_mm, hf_ro, hf_ct, hf_se, hf_th, hf_cn, hf_db, hf_be, hf_du, hf_dr, hf_pn, hf_wg, hf_wh, hf_tn, hq_ro, hq_ct, hq_be, hq_du, hq_dr, hq_wg, hq_wh, by omega, by omega, by omega⟩) dX10_sent_27
  · skip
    refine z_if_eq (tgt := 25) hx hb (show (0 : Int32).toInt = 0 by decide) dX10_sent_10 (by decide) (fun _ => ?_) (fun h => absurd h (by decide))
    refine lv_bipush (v := (-2)) hx hb dX10_sent_25 (by decide) ?_
    exact z_iret hx hb hr hlk (by decide) (by decide) hw (⟨hsub, hfr, m24, m25, m27, m28, m30, m38, m36, m40, m41, m42, m26, gro, gct, gse, gth, gcn, gdb, gbe, gdu, gdr, gpn, gwg, gwh, gtn, hf_mm, hf_ro, hf_ct, hf_se, hf_th, hf_cn, hf_db, hf_be, hf_du, hf_dr, hf_pn, hf_wg, hf_wh, hf_tn, hq_ro, hq_ct, hq_be, hq_du, hq_dr, hq_wg, hq_wh, by omega, by omega, by omega⟩) dX10_sent_27
