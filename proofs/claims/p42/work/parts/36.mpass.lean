set_option maxHeartbeats 2000000 in
set_option maxRecDepth 100000 in
theorem c_X10_begin (l : Launch) {D : va_G} {cy : Nat → ClassId} {L : List Nat} {f : Nat → va_E} {sz : Nat} {adK adV : Nat → Nat} {mm wd my ce mv ta li ha lw st fo dr ik ro ct se th cn be du db pn wg wh tn he tr fd po : Nat} {m0 m6 m7 m8 m9 m10 m12 m13 m14 m15 m22 m24 m25 m27 m28 m30 m36 m38 m40 m41 m42 m48 m52 m53 : Int32} {m11 m26 : Int64} {glw gst gct gse gth gcn gdb : Nat → Int32}  (hm_mm : mm ∈ L) (hm_lw : lw ∈ L) (hm_st : st ∈ L) (hm_ct : ct ∈ L) (hm_se : se ∈ L) (hm_th : th ∈ L) (hm_cn : cn ∈ L) (hm_db : db ∈ L) (hf_mm : f mm = .inr (10, [.int m0, .ref wd, .ref my, .ref ce, .ref mv, .ref ta, .int m6, .int m7, .int m8, .int m9, .int m10, .long m11, .int m12, .int m13, .int m14, .int m15, .ref li, .ref ha, .ref lw, .ref st, .ref fo, .ref dr, .int m22, .ref ik, .int m24, .int m25, .long m26, .int m27, .int m28, .ref ro, .int m30, .ref ct, .ref se, .ref th, .ref cn, .ref be, .int m36, .ref du, .int m38, .ref db, .int m40, .int m41, .int m42, .ref pn, .ref wg, .ref wh, .ref tn, .ref he, .int m48, .ref tr, .ref fd, .ref po, .int m52, .int m53])) (hf_lw : f lw = .inl (cy 1, 25, .inl glw)) (hf_st : f st = .inl (cy 1, 20, .inl gst)) (hf_ct : f ct = .inl (cy 1, 4, .inl gct)) (hf_se : f se = .inl (cy 1, 36, .inl gse)) (hf_th : f th = .inl (cy 1, 36, .inl gth)) (hf_cn : f cn = .inl (cy 1, 36, .inl gcn)) (hf_db : f db = .inl (cy 1, 5, .inl gdb)) (ne_se_th : se ≠ th) (ne_se_cn : se ≠ cn) (ne_th_cn : th ≠ cn) (hq_lw : ∀ j : Nat, q_law j (glw j)) (hq_st : ∀ j : Nat, q_law j (gst j)) (hq_ct : ∀ j : Nat, q_law j (gct j)) : Met l yX10_begin (z_ws yX10_begin cX10_begin 2 none) (z_R 1 0 0) (va_Pc [.ref mm] (z_Pre D vwCl (z_KK D cy adK adV) L f sz)) (z_Qv D vwCl (fun u => L = u.1 ∧ (∀ b ∈ L, b ≠ mm → b ≠ ct → b ≠ se → b ≠ th → b ≠ cn → b ≠ db → u.2 b = f b) ∧ (∃ (nct nse nth ncn ndb : Nat → Int32), (u.2 mm = .inr (10, [.int m0, .ref wd, .ref my, .ref ce, .ref mv, .ref ta, .int m6, .int m7, .int m8, .int m9, .int m10, .long m11, .int m12, .int m13, .int m14, .int m15, .ref li, .ref ha, .ref lw, .ref st, .ref fo, .ref dr, .int m22, .ref ik, .int m24, .int m25, .long m26, .int m27, .int m28, .ref ro, .int m30, .ref ct, .ref se, .ref th, .ref cn, .ref be, .int 0, .ref du, .int 0, .ref db, .int m40, .int m41, .int m42, .ref pn, .ref wg, .ref wh, .ref tn, .ref he, .int m48, .ref tr, .ref fd, .ref po, .int m52, .int m53])) ∧ (u.2 ct = .inl (cy 1, 4, .inl nct)) ∧ (u.2 se = .inl (cy 1, 36, .inl nse)) ∧ (u.2 th = .inl (cy 1, 36, .inl nth)) ∧ (u.2 cn = .inl (cy 1, 36, .inl ncn)) ∧ (u.2 db = .inl (cy 1, 5, .inl ndb)) ∧ (∀ j : Nat, q_law j (nct j)) ∧ (True))) L sz) 0 0 (z_A L sz) := by
  refine z_met (cc := cX10_begin) (maxL := 2) (ret := none) (lv := [(0, .ref mm)]) (by decide) rfl (Nat.le_of_ble_eq_true rfl) rfl ?_
  intro p e s m below meth c ls hx hb hr hlk hml hown hnm hts hKK hA hw hl
  have hK := hKK.1.1
  have hown : s.vm.findClass RX10 = some m.cls := hown
  have hT : ∀ w ∈ lw_all, w.before ([.ref mm] : List Value).toArray s = true := fun w h => hts w (z_cons w h)
  have hsub : L = L := rfl
  have hfr : ∀ b ∈ L, b ≠ mm → b ≠ ct → b ≠ se → b ≠ th → b ≠ cn → b ≠ db → f b = f b := fun _ _ _ _ _ _ _ _ => rfl
  refine lv_iconst (v := 0) hx hb dX10_begin_0 (by decide) ?_
  refine lv_istore_n (lv' := [(1, .int 0), (0, .ref mm)]) hx hb dX10_begin_1 rfl hl (by decide) rfl (fun ls hl => ?_)
  have hzk : (0 : Int32).toInt = 0 := by decide
  refine z_loop (fun n H locs ls => ∃ (K1 : Int32) (G3 : Nat → Int32) (f2 : Nat → va_E), (n = (4 - K1.toInt).toNat) ∧ (0 ≤ K1.toInt) ∧ (K1.toInt ≤ 4) ∧ (z_H D vwCl (z_A L sz) s.heap L f2 H locs) ∧ (f2 mm = .inr (10, [.int m0, .ref wd, .ref my, .ref ce, .ref mv, .ref ta, .int m6, .int m7, .int m8, .int m9, .int m10, .long m11, .int m12, .int m13, .int m14, .int m15, .ref li, .ref ha, .ref lw, .ref st, .ref fo, .ref dr, .int m22, .ref ik, .int m24, .int m25, .long m26, .int m27, .int m28, .ref ro, .int m30, .ref ct, .ref se, .ref th, .ref cn, .ref be, .int m36, .ref du, .int m38, .ref db, .int m40, .int m41, .int m42, .ref pn, .ref wg, .ref wh, .ref tn, .ref he, .int m48, .ref tr, .ref fd, .ref po, .int m52, .int m53])) ∧ (f2 lw = .inl (cy 1, 25, .inl glw)) ∧ (f2 st = .inl (cy 1, 20, .inl gst)) ∧ (f2 ct = .inl (cy 1, 4, .inl G3)) ∧ (f2 se = .inl (cy 1, 36, .inl gse)) ∧ (f2 th = .inl (cy 1, 36, .inl gth)) ∧ (f2 cn = .inl (cy 1, 36, .inl gcn)) ∧ (f2 db = .inl (cy 1, 5, .inl gdb)) ∧ (∀ b ∈ L, b ≠ mm → b ≠ ct → b ≠ se → b ≠ th → b ≠ cn → b ≠ db → f2 b = f b) ∧ (∀ j : Nat, q_law j (G3 j)) ∧ (lv_has ls 2 [(1, .int K1), (0, .ref mm)])) _ ⟨0, gct, f, rfl, (by first | decide | omega), (by first | decide | omega), hw, hf_mm, hf_lw, hf_st, hf_ct, hf_se, hf_th, hf_cn, hf_db, hfr, hq_ct, (lv_sub hl [0, 1] rfl)⟩ (fun n H locs ls hI ih_2 => ?_)
  obtain ⟨K1, G3, f2, hn, hk0, hk1, hw, hf_mm, hf_lw, hf_st, hf_ct, hf_se, hf_th, hf_cn, hf_db, hfr, hq_ct, hl⟩ := hI
  refine lv_iload_n hx hb dX10_begin_2 rfl (lv_at hl 0 rfl) ?_
  refine lv_iconst (v := 4) hx hb dX10_begin_3 (by decide) ?_
  refine z_icmp_ge (tgt := 39) hx hb rfl (show (4 : Int32).toInt = 4 by decide) dX10_begin_4 (by decide) (fun c4 => ?_) (fun c4 => ?_)
  · skip
    refine lv_iconst (v := 0) hx hb dX10_begin_39 (by decide) ?_
    refine lv_istore_n (lv' := [(1, .int 0), (0, .ref mm)]) hx hb dX10_begin_40 rfl hl (by decide) rfl (fun ls hl => ?_)
    have hzk : (0 : Int32).toInt = 0 := by decide
    refine z_loop (fun n H locs ls => ∃ (K5 : Int32) (G7 : Nat → Int32) (G8 : Nat → Int32) (G9 : Nat → Int32) (f6 : Nat → va_E), (n = (36 - K5.toInt).toNat) ∧ (0 ≤ K5.toInt) ∧ (K5.toInt ≤ 36) ∧ (z_H D vwCl (z_A L sz) s.heap L f6 H locs) ∧ (f6 mm = .inr (10, [.int m0, .ref wd, .ref my, .ref ce, .ref mv, .ref ta, .int m6, .int m7, .int m8, .int m9, .int m10, .long m11, .int m12, .int m13, .int m14, .int m15, .ref li, .ref ha, .ref lw, .ref st, .ref fo, .ref dr, .int m22, .ref ik, .int m24, .int m25, .long m26, .int m27, .int m28, .ref ro, .int m30, .ref ct, .ref se, .ref th, .ref cn, .ref be, .int m36, .ref du, .int m38, .ref db, .int m40, .int m41, .int m42, .ref pn, .ref wg, .ref wh, .ref tn, .ref he, .int m48, .ref tr, .ref fd, .ref po, .int m52, .int m53])) ∧ (f6 lw = .inl (cy 1, 25, .inl glw)) ∧ (f6 st = .inl (cy 1, 20, .inl gst)) ∧ (f6 ct = .inl (cy 1, 4, .inl G3)) ∧ (f6 se = .inl (cy 1, 36, .inl G7)) ∧ (f6 th = .inl (cy 1, 36, .inl G8)) ∧ (f6 cn = .inl (cy 1, 36, .inl G9)) ∧ (f6 db = .inl (cy 1, 5, .inl gdb)) ∧ (∀ b ∈ L, b ≠ mm → b ≠ ct → b ≠ se → b ≠ th → b ≠ cn → b ≠ db → f6 b = f b) ∧ (lv_has ls 2 [(1, .int K5), (0, .ref mm)])) _ ⟨0, gse, gth, gcn, f2, rfl, (by first | decide | omega), (by first | decide | omega), hw, hf_mm, hf_lw, hf_st, hf_ct, hf_se, hf_th, hf_cn, hf_db, hfr, (lv_sub hl [0, 1] rfl)⟩ (fun n H locs ls hI ih_41 => ?_)
    obtain ⟨K5, G7, G8, G9, f6, hn, hk0, hk1, hw, hf_mm, hf_lw, hf_st, hf_ct, hf_se, hf_th, hf_cn, hf_db, hfr, hl⟩ := hI
    refine lv_iload_n hx hb dX10_begin_41 rfl (lv_at hl 0 rfl) ?_
    refine lv_bipush (v := 36) hx hb dX10_begin_42 (by decide) ?_
    refine z_icmp_ge (tgt := 74) hx hb rfl (show (36 : Int32).toInt = 36 by decide) dX10_begin_44 (by decide) (fun c10 => ?_) (fun c10 => ?_)
    · skip
      refine lv_iconst (v := 0) hx hb dX10_begin_74 (by decide) ?_
      refine lv_istore_n (lv' := [(1, .int 0), (0, .ref mm)]) hx hb dX10_begin_75 rfl hl (by decide) rfl (fun ls hl => ?_)
      have hzk : (0 : Int32).toInt = 0 := by decide
      refine z_loop (fun n H locs ls => ∃ (K11 : Int32) (G13 : Nat → Int32) (f12 : Nat → va_E), (n = (5 - K11.toInt).toNat) ∧ (0 ≤ K11.toInt) ∧ (K11.toInt ≤ 5) ∧ (z_H D vwCl (z_A L sz) s.heap L f12 H locs) ∧ (f12 mm = .inr (10, [.int m0, .ref wd, .ref my, .ref ce, .ref mv, .ref ta, .int m6, .int m7, .int m8, .int m9, .int m10, .long m11, .int m12, .int m13, .int m14, .int m15, .ref li, .ref ha, .ref lw, .ref st, .ref fo, .ref dr, .int m22, .ref ik, .int m24, .int m25, .long m26, .int m27, .int m28, .ref ro, .int m30, .ref ct, .ref se, .ref th, .ref cn, .ref be, .int m36, .ref du, .int m38, .ref db, .int m40, .int m41, .int m42, .ref pn, .ref wg, .ref wh, .ref tn, .ref he, .int m48, .ref tr, .ref fd, .ref po, .int m52, .int m53])) ∧ (f12 lw = .inl (cy 1, 25, .inl glw)) ∧ (f12 st = .inl (cy 1, 20, .inl gst)) ∧ (f12 ct = .inl (cy 1, 4, .inl G3)) ∧ (f12 se = .inl (cy 1, 36, .inl G7)) ∧ (f12 th = .inl (cy 1, 36, .inl G8)) ∧ (f12 cn = .inl (cy 1, 36, .inl G9)) ∧ (f12 db = .inl (cy 1, 5, .inl G13)) ∧ (∀ b ∈ L, b ≠ mm → b ≠ ct → b ≠ se → b ≠ th → b ≠ cn → b ≠ db → f12 b = f b) ∧ (lv_has ls 2 [(1, .int K11), (0, .ref mm)])) _ ⟨0, gdb, f6, rfl, (by first | decide | omega), (by first | decide | omega), hw, hf_mm, hf_lw, hf_st, hf_ct, hf_se, hf_th, hf_cn, hf_db, hfr, (lv_sub hl [0, 1] rfl)⟩ (fun n H locs ls hI ih_76 => ?_)
      obtain ⟨K11, G13, f12, hn, hk0, hk1, hw, hf_mm, hf_lw, hf_st, hf_ct, hf_se, hf_th, hf_cn, hf_db, hfr, hl⟩ := hI
      refine lv_iload_n hx hb dX10_begin_76 rfl (lv_at hl 0 rfl) ?_
      refine lv_iconst (v := 5) hx hb dX10_begin_77 (by decide) ?_
      refine z_icmp_ge (tgt := 94) hx hb rfl (show (5 : Int32).toInt = 5 by decide) dX10_begin_78 (by decide) (fun c14 => ?_) (fun c14 => ?_)
      · skip
        refine lv_aload_n hx hb dX10_begin_94 rfl (lv_at hl 1 rfl) ?_
        refine lv_iconst (v := 0) hx hb dX10_begin_95 (by decide) ?_
        refine z_put (C := RX10) (T := TX10) (N := 54) (ci := 10) (v := .int 0) (fs' := [.int m0, .ref wd, .ref my, .ref ce, .ref mv, .ref ta, .int m6, .int m7, .int m8, .int m9, .int m10, .long m11, .int m12, .int m13, .int m14, .int m15, .ref li, .ref ha, .ref lw, .ref st, .ref fo, .ref dr, .int m22, .ref ik, .int m24, .int m25, .long m26, .int m27, .int m28, .ref ro, .int m30, .ref ct, .ref se, .ref th, .ref cn, .ref be, .int m36, .ref du, .int 0, .ref db, .int m40, .int m41, .int m42, .ref pn, .ref wg, .ref wh, .ref tn, .ref he, .int m48, .ref tr, .ref fd, .ref po, .int m52, .int m53]) hx hb hT zin_X10 tyX10_ok nmX10 hown hK hw hm_mm hf_mm rfl 38 (by decide) (hT _ kw_1206) rfl rfl rfl (Nat.le_of_ble_eq_true rfl) rfl dX10_begin_96 (fun H locs hw => ?_)
        obtain ⟨f15, e_f15⟩ : ∃ z, z = va_up f12 mm (.inr (10, [.int m0, .ref wd, .ref my, .ref ce, .ref mv, .ref ta, .int m6, .int m7, .int m8, .int m9, .int m10, .long m11, .int m12, .int m13, .int m14, .int m15, .ref li, .ref ha, .ref lw, .ref st, .ref fo, .ref dr, .int m22, .ref ik, .int m24, .int m25, .long m26, .int m27, .int m28, .ref ro, .int m30, .ref ct, .ref se, .ref th, .ref cn, .ref be, .int m36, .ref du, .int 0, .ref db, .int m40, .int m41, .int m42, .ref pn, .ref wg, .ref wh, .ref tn, .ref he, .int m48, .ref tr, .ref fd, .ref po, .int m52, .int m53])) := ⟨_, rfl⟩
        rw [← e_f15] at hw
        have hf_lw : f15 lw = .inl (cy 1, 25, .inl glw) := (congrFun e_f15 lw).trans (z_up_ne (z_tne hf_lw hf_mm (m := 300) (n := 10) rfl rfl (by decide)) hf_lw)
        have hf_st : f15 st = .inl (cy 1, 20, .inl gst) := (congrFun e_f15 st).trans (z_up_ne (z_tne hf_st hf_mm (m := 260) (n := 10) rfl rfl (by decide)) hf_st)
        have hf_ct : f15 ct = .inl (cy 1, 4, .inl G3) := (congrFun e_f15 ct).trans (z_up_ne (z_tne hf_ct hf_mm (m := 132) (n := 10) rfl rfl (by decide)) hf_ct)
        have hf_se : f15 se = .inl (cy 1, 36, .inl G7) := (congrFun e_f15 se).trans (z_up_ne (z_tne hf_se hf_mm (m := 388) (n := 10) rfl rfl (by decide)) hf_se)
        have hf_th : f15 th = .inl (cy 1, 36, .inl G8) := (congrFun e_f15 th).trans (z_up_ne (z_tne hf_th hf_mm (m := 388) (n := 10) rfl rfl (by decide)) hf_th)
        have hf_cn : f15 cn = .inl (cy 1, 36, .inl G9) := (congrFun e_f15 cn).trans (z_up_ne (z_tne hf_cn hf_mm (m := 388) (n := 10) rfl rfl (by decide)) hf_cn)
        have hf_db : f15 db = .inl (cy 1, 5, .inl G13) := (congrFun e_f15 db).trans (z_up_ne (z_tne hf_db hf_mm (m := 140) (n := 10) rfl rfl (by decide)) hf_db)
        have hf_mm : f15 mm = .inr (10, [.int m0, .ref wd, .ref my, .ref ce, .ref mv, .ref ta, .int m6, .int m7, .int m8, .int m9, .int m10, .long m11, .int m12, .int m13, .int m14, .int m15, .ref li, .ref ha, .ref lw, .ref st, .ref fo, .ref dr, .int m22, .ref ik, .int m24, .int m25, .long m26, .int m27, .int m28, .ref ro, .int m30, .ref ct, .ref se, .ref th, .ref cn, .ref be, .int m36, .ref du, .int 0, .ref db, .int m40, .int m41, .int m42, .ref pn, .ref wg, .ref wh, .ref tn, .ref he, .int m48, .ref tr, .ref fd, .ref po, .int m52, .int m53]) := (congrFun e_f15 mm).trans z_up_self
        have hfr : ∀ b ∈ L, b ≠ mm → b ≠ ct → b ≠ se → b ≠ th → b ≠ cn → b ≠ db → f15 b = f b := fun b hb h0 h1 h2 h3 h4 h5 => (congrFun e_f15 b).trans (z_up_ne h0 (hfr b hb h0 h1 h2 h3 h4 h5))
        refine lv_aload_n hx hb dX10_begin_99 rfl (lv_at hl 1 rfl) ?_
        refine lv_iconst (v := 0) hx hb dX10_begin_100 (by decide) ?_
        refine z_put (C := RX10) (T := TX10) (N := 54) (ci := 10) (v := .int 0) (fs' := [.int m0, .ref wd, .ref my, .ref ce, .ref mv, .ref ta, .int m6, .int m7, .int m8, .int m9, .int m10, .long m11, .int m12, .int m13, .int m14, .int m15, .ref li, .ref ha, .ref lw, .ref st, .ref fo, .ref dr, .int m22, .ref ik, .int m24, .int m25, .long m26, .int m27, .int m28, .ref ro, .int m30, .ref ct, .ref se, .ref th, .ref cn, .ref be, .int 0, .ref du, .int 0, .ref db, .int m40, .int m41, .int m42, .ref pn, .ref wg, .ref wh, .ref tn, .ref he, .int m48, .ref tr, .ref fd, .ref po, .int m52, .int m53]) hx hb hT zin_X10 tyX10_ok nmX10 hown hK hw hm_mm hf_mm rfl 36 (by decide) (hT _ kw_1204) rfl rfl rfl (Nat.le_of_ble_eq_true rfl) rfl dX10_begin_101 (fun H locs hw => ?_)
        obtain ⟨f16, e_f16⟩ : ∃ z, z = va_up f15 mm (.inr (10, [.int m0, .ref wd, .ref my, .ref ce, .ref mv, .ref ta, .int m6, .int m7, .int m8, .int m9, .int m10, .long m11, .int m12, .int m13, .int m14, .int m15, .ref li, .ref ha, .ref lw, .ref st, .ref fo, .ref dr, .int m22, .ref ik, .int m24, .int m25, .long m26, .int m27, .int m28, .ref ro, .int m30, .ref ct, .ref se, .ref th, .ref cn, .ref be, .int 0, .ref du, .int 0, .ref db, .int m40, .int m41, .int m42, .ref pn, .ref wg, .ref wh, .ref tn, .ref he, .int m48, .ref tr, .ref fd, .ref po, .int m52, .int m53])) := ⟨_, rfl⟩
        rw [← e_f16] at hw
        have hf_lw : f16 lw = .inl (cy 1, 25, .inl glw) := (congrFun e_f16 lw).trans (z_up_ne (z_tne hf_lw hf_mm (m := 300) (n := 10) rfl rfl (by decide)) hf_lw)
        have hf_st : f16 st = .inl (cy 1, 20, .inl gst) := (congrFun e_f16 st).trans (z_up_ne (z_tne hf_st hf_mm (m := 260) (n := 10) rfl rfl (by decide)) hf_st)
        have hf_ct : f16 ct = .inl (cy 1, 4, .inl G3) := (congrFun e_f16 ct).trans (z_up_ne (z_tne hf_ct hf_mm (m := 132) (n := 10) rfl rfl (by decide)) hf_ct)
        have hf_se : f16 se = .inl (cy 1, 36, .inl G7) := (congrFun e_f16 se).trans (z_up_ne (z_tne hf_se hf_mm (m := 388) (n := 10) rfl rfl (by decide)) hf_se)
        have hf_th : f16 th = .inl (cy 1, 36, .inl G8) := (congrFun e_f16 th).trans (z_up_ne (z_tne hf_th hf_mm (m := 388) (n := 10) rfl rfl (by decide)) hf_th)
        have hf_cn : f16 cn = .inl (cy 1, 36, .inl G9) := (congrFun e_f16 cn).trans (z_up_ne (z_tne hf_cn hf_mm (m := 388) (n := 10) rfl rfl (by decide)) hf_cn)
        have hf_db : f16 db = .inl (cy 1, 5, .inl G13) := (congrFun e_f16 db).trans (z_up_ne (z_tne hf_db hf_mm (m := 140) (n := 10) rfl rfl (by decide)) hf_db)
        have hf_mm : f16 mm = .inr (10, [.int m0, .ref wd, .ref my, .ref ce, .ref mv, .ref ta, .int m6, .int m7, .int m8, .int m9, .int m10, .long m11, .int m12, .int m13, .int m14, .int m15, .ref li, .ref ha, .ref lw, .ref st, .ref fo, .ref dr, .int m22, .ref ik, .int m24, .int m25, .long m26, .int m27, .int m28, .ref ro, .int m30, .ref ct, .ref se, .ref th, .ref cn, .ref be, .int 0, .ref du, .int 0, .ref db, .int m40, .int m41, .int m42, .ref pn, .ref wg, .ref wh, .ref tn, .ref he, .int m48, .ref tr, .ref fd, .ref po, .int m52, .int m53]) := (congrFun e_f16 mm).trans z_up_self
        have hfr : ∀ b ∈ L, b ≠ mm → b ≠ ct → b ≠ se → b ≠ th → b ≠ cn → b ≠ db → f16 b = f b := fun b hb h0 h1 h2 h3 h4 h5 => (congrFun e_f16 b).trans (z_up_ne h0 (hfr b hb h0 h1 h2 h3 h4 h5))
        exact z_vret hx hb hr hlk (by decide) (by decide) hw (⟨hsub, hfr, G3, G7, G8, G9, G13, hf_mm, hf_ct, hf_se, hf_th, hf_cn, hf_db, hq_ct, trivial⟩) dX10_begin_104
      · skip
        refine lv_aload_n hx hb dX10_begin_81 rfl (lv_at hl 1 rfl) ?_
        refine z_get (C := RX10) (T := TX10) (N := 54) (ci := 10) (v := .ref db) hx hb hT zin_X10 hown hK hw hm_mm hf_mm rfl 39 (by decide) (hT _ kw_1207) rfl dX10_begin_82 ?_
        refine lv_iload_n hx hb dX10_begin_85 rfl (lv_at hl 0 rfl) ?_
        refine lv_iconst (v := 0) hx hb dX10_begin_86 (by decide) ?_
        refine z_iast hx hb hK hw 1 hm_db hf_db rfl (z_ix rfl (by omega)) dX10_begin_87 (fun H locs hw => ?_)
        obtain ⟨f18, e_f18⟩ : ∃ z, z = va_up f12 db (.inl (cy 1, 5, .inl (upd G13 K11.toNatClampNeg 0))) := ⟨_, rfl⟩
        rw [← e_f18] at hw
        have hf_mm : f18 mm = .inr (10, [.int m0, .ref wd, .ref my, .ref ce, .ref mv, .ref ta, .int m6, .int m7, .int m8, .int m9, .int m10, .long m11, .int m12, .int m13, .int m14, .int m15, .ref li, .ref ha, .ref lw, .ref st, .ref fo, .ref dr, .int m22, .ref ik, .int m24, .int m25, .long m26, .int m27, .int m28, .ref ro, .int m30, .ref ct, .ref se, .ref th, .ref cn, .ref be, .int m36, .ref du, .int m38, .ref db, .int m40, .int m41, .int m42, .ref pn, .ref wg, .ref wh, .ref tn, .ref he, .int m48, .ref tr, .ref fd, .ref po, .int m52, .int m53]) := (congrFun e_f18 mm).trans (z_up_ne (z_tne hf_mm hf_db (m := 10) (n := 140) rfl rfl (by decide)) hf_mm)
        have hf_lw : f18 lw = .inl (cy 1, 25, .inl glw) := (congrFun e_f18 lw).trans (z_up_ne (z_tne hf_lw hf_db (m := 300) (n := 140) rfl rfl (by decide)) hf_lw)
        have hf_st : f18 st = .inl (cy 1, 20, .inl gst) := (congrFun e_f18 st).trans (z_up_ne (z_tne hf_st hf_db (m := 260) (n := 140) rfl rfl (by decide)) hf_st)
        have hf_ct : f18 ct = .inl (cy 1, 4, .inl G3) := (congrFun e_f18 ct).trans (z_up_ne (z_tne hf_ct hf_db (m := 132) (n := 140) rfl rfl (by decide)) hf_ct)
        have hf_se : f18 se = .inl (cy 1, 36, .inl G7) := (congrFun e_f18 se).trans (z_up_ne (z_tne hf_se hf_db (m := 388) (n := 140) rfl rfl (by decide)) hf_se)
        have hf_th : f18 th = .inl (cy 1, 36, .inl G8) := (congrFun e_f18 th).trans (z_up_ne (z_tne hf_th hf_db (m := 388) (n := 140) rfl rfl (by decide)) hf_th)
        have hf_cn : f18 cn = .inl (cy 1, 36, .inl G9) := (congrFun e_f18 cn).trans (z_up_ne (z_tne hf_cn hf_db (m := 388) (n := 140) rfl rfl (by decide)) hf_cn)
        have hf_db : f18 db = .inl (cy 1, 5, .inl (upd G13 K11.toNatClampNeg 0)) := (congrFun e_f18 db).trans z_up_self
        have hfr : ∀ b ∈ L, b ≠ mm → b ≠ ct → b ≠ se → b ≠ th → b ≠ cn → b ≠ db → f18 b = f b := fun b hb h0 h1 h2 h3 h4 h5 => (congrFun e_f18 b).trans (z_up_ne h5 (hfr b hb h0 h1 h2 h3 h4 h5))
        obtain ⟨g17, e_g17⟩ : ∃ z, z = (upd G13 K11.toNatClampNeg 0) := ⟨_, rfl⟩
        rw [← e_g17] at hf_db
        obtain ⟨k19, e_k19⟩ : ∃ z : Int32, z = K11 + 1 := ⟨_, rfl⟩
        refine lv_iinc (v := k19) (lv' := [(1, .int k19), (0, .ref mm)]) hx hb dX10_begin_88 hl (k := 0) rfl (by rw [e_k19]; rfl) (by decide) rfl (fun ls hl => ?_)
        have i_k19 : k19.toInt = (K11.toInt + 1) := z_add e_k19 rfl (by decide) (by omega)
        refine lv_goto (tgt := 76) hx hb dX10_begin_91 (by decide) ?_
        exact ih_76 _ (by omega) _ _ _ ⟨k19, g17, f18, rfl, (by first | decide | omega), (by first | decide | omega), hw, hf_mm, hf_lw, hf_st, hf_ct, hf_se, hf_th, hf_cn, hf_db, hfr, (lv_sub hl [0, 1] rfl)⟩
    · skip
      refine lv_aload_n hx hb dX10_begin_47 rfl (lv_at hl 1 rfl) ?_
      refine z_get (C := RX10) (T := TX10) (N := 54) (ci := 10) (v := .ref se) hx hb hT zin_X10 hown hK hw hm_mm hf_mm rfl 32 (by decide) (hT _ kw_1200) rfl dX10_begin_48 ?_
      refine lv_iload_n hx hb dX10_begin_51 rfl (lv_at hl 0 rfl) ?_
      refine lv_iconst (v := 0) hx hb dX10_begin_52 (by decide) ?_
      refine z_iast hx hb hK hw 1 hm_se hf_se rfl (z_ix rfl (by omega)) dX10_begin_53 (fun H locs hw => ?_)
      obtain ⟨f21, e_f21⟩ : ∃ z, z = va_up f6 se (.inl (cy 1, 36, .inl (upd G7 K5.toNatClampNeg 0))) := ⟨_, rfl⟩
      rw [← e_f21] at hw
      have hf_mm : f21 mm = .inr (10, [.int m0, .ref wd, .ref my, .ref ce, .ref mv, .ref ta, .int m6, .int m7, .int m8, .int m9, .int m10, .long m11, .int m12, .int m13, .int m14, .int m15, .ref li, .ref ha, .ref lw, .ref st, .ref fo, .ref dr, .int m22, .ref ik, .int m24, .int m25, .long m26, .int m27, .int m28, .ref ro, .int m30, .ref ct, .ref se, .ref th, .ref cn, .ref be, .int m36, .ref du, .int m38, .ref db, .int m40, .int m41, .int m42, .ref pn, .ref wg, .ref wh, .ref tn, .ref he, .int m48, .ref tr, .ref fd, .ref po, .int m52, .int m53]) := (congrFun e_f21 mm).trans (z_up_ne (z_tne hf_mm hf_se (m := 10) (n := 388) rfl rfl (by decide)) hf_mm)
      have hf_lw : f21 lw = .inl (cy 1, 25, .inl glw) := (congrFun e_f21 lw).trans (z_up_ne (z_tne hf_lw hf_se (m := 300) (n := 388) rfl rfl (by decide)) hf_lw)
      have hf_st : f21 st = .inl (cy 1, 20, .inl gst) := (congrFun e_f21 st).trans (z_up_ne (z_tne hf_st hf_se (m := 260) (n := 388) rfl rfl (by decide)) hf_st)
      have hf_ct : f21 ct = .inl (cy 1, 4, .inl G3) := (congrFun e_f21 ct).trans (z_up_ne (z_tne hf_ct hf_se (m := 132) (n := 388) rfl rfl (by decide)) hf_ct)
      have hf_th : f21 th = .inl (cy 1, 36, .inl G8) := (congrFun e_f21 th).trans (z_up_ne (Ne.symm ne_se_th) hf_th)
      have hf_cn : f21 cn = .inl (cy 1, 36, .inl G9) := (congrFun e_f21 cn).trans (z_up_ne (Ne.symm ne_se_cn) hf_cn)
      have hf_db : f21 db = .inl (cy 1, 5, .inl gdb) := (congrFun e_f21 db).trans (z_up_ne (z_tne hf_db hf_se (m := 140) (n := 388) rfl rfl (by decide)) hf_db)
      have hf_se : f21 se = .inl (cy 1, 36, .inl (upd G7 K5.toNatClampNeg 0)) := (congrFun e_f21 se).trans z_up_self
      have hfr : ∀ b ∈ L, b ≠ mm → b ≠ ct → b ≠ se → b ≠ th → b ≠ cn → b ≠ db → f21 b = f b := fun b hb h0 h1 h2 h3 h4 h5 => (congrFun e_f21 b).trans (z_up_ne h2 (hfr b hb h0 h1 h2 h3 h4 h5))
      obtain ⟨g20, e_g20⟩ : ∃ z, z = (upd G7 K5.toNatClampNeg 0) := ⟨_, rfl⟩
      rw [← e_g20] at hf_se
      refine lv_aload_n hx hb dX10_begin_54 rfl (lv_at hl 1 rfl) ?_
      refine z_get (C := RX10) (T := TX10) (N := 54) (ci := 10) (v := .ref th) hx hb hT zin_X10 hown hK hw hm_mm hf_mm rfl 33 (by decide) (hT _ kw_1201) rfl dX10_begin_55 ?_
      refine lv_iload_n hx hb dX10_begin_58 rfl (lv_at hl 0 rfl) ?_
      refine lv_iconst (v := 0) hx hb dX10_begin_59 (by decide) ?_
      refine z_iast hx hb hK hw 1 hm_th hf_th rfl (z_ix rfl (by omega)) dX10_begin_60 (fun H locs hw => ?_)
      obtain ⟨f23, e_f23⟩ : ∃ z, z = va_up f21 th (.inl (cy 1, 36, .inl (upd G8 K5.toNatClampNeg 0))) := ⟨_, rfl⟩
      rw [← e_f23] at hw
      have hf_mm : f23 mm = .inr (10, [.int m0, .ref wd, .ref my, .ref ce, .ref mv, .ref ta, .int m6, .int m7, .int m8, .int m9, .int m10, .long m11, .int m12, .int m13, .int m14, .int m15, .ref li, .ref ha, .ref lw, .ref st, .ref fo, .ref dr, .int m22, .ref ik, .int m24, .int m25, .long m26, .int m27, .int m28, .ref ro, .int m30, .ref ct, .ref se, .ref th, .ref cn, .ref be, .int m36, .ref du, .int m38, .ref db, .int m40, .int m41, .int m42, .ref pn, .ref wg, .ref wh, .ref tn, .ref he, .int m48, .ref tr, .ref fd, .ref po, .int m52, .int m53]) := (congrFun e_f23 mm).trans (z_up_ne (z_tne hf_mm hf_th (m := 10) (n := 388) rfl rfl (by decide)) hf_mm)
      have hf_lw : f23 lw = .inl (cy 1, 25, .inl glw) := (congrFun e_f23 lw).trans (z_up_ne (z_tne hf_lw hf_th (m := 300) (n := 388) rfl rfl (by decide)) hf_lw)
      have hf_st : f23 st = .inl (cy 1, 20, .inl gst) := (congrFun e_f23 st).trans (z_up_ne (z_tne hf_st hf_th (m := 260) (n := 388) rfl rfl (by decide)) hf_st)
      have hf_ct : f23 ct = .inl (cy 1, 4, .inl G3) := (congrFun e_f23 ct).trans (z_up_ne (z_tne hf_ct hf_th (m := 132) (n := 388) rfl rfl (by decide)) hf_ct)
      have hf_se : f23 se = .inl (cy 1, 36, .inl g20) := (congrFun e_f23 se).trans (z_up_ne ne_se_th hf_se)
      have hf_cn : f23 cn = .inl (cy 1, 36, .inl G9) := (congrFun e_f23 cn).trans (z_up_ne (Ne.symm ne_th_cn) hf_cn)
      have hf_db : f23 db = .inl (cy 1, 5, .inl gdb) := (congrFun e_f23 db).trans (z_up_ne (z_tne hf_db hf_th (m := 140) (n := 388) rfl rfl (by decide)) hf_db)
      have hf_th : f23 th = .inl (cy 1, 36, .inl (upd G8 K5.toNatClampNeg 0)) := (congrFun e_f23 th).trans z_up_self
      have hfr : ∀ b ∈ L, b ≠ mm → b ≠ ct → b ≠ se → b ≠ th → b ≠ cn → b ≠ db → f23 b = f b := fun b hb h0 h1 h2 h3 h4 h5 => (congrFun e_f23 b).trans (z_up_ne h3 (hfr b hb h0 h1 h2 h3 h4 h5))
      obtain ⟨g22, e_g22⟩ : ∃ z, z = (upd G8 K5.toNatClampNeg 0) := ⟨_, rfl⟩
      rw [← e_g22] at hf_th
      refine lv_aload_n hx hb dX10_begin_61 rfl (lv_at hl 1 rfl) ?_
      refine z_get (C := RX10) (T := TX10) (N := 54) (ci := 10) (v := .ref cn) hx hb hT zin_X10 hown hK hw hm_mm hf_mm rfl 34 (by decide) (hT _ kw_1202) rfl dX10_begin_62 ?_
      refine lv_iload_n hx hb dX10_begin_65 rfl (lv_at hl 0 rfl) ?_
      refine lv_iconst (v := 0) hx hb dX10_begin_66 (by decide) ?_
      refine z_iast hx hb hK hw 1 hm_cn hf_cn rfl (z_ix rfl (by omega)) dX10_begin_67 (fun H locs hw => ?_)
      obtain ⟨f25, e_f25⟩ : ∃ z, z = va_up f23 cn (.inl (cy 1, 36, .inl (upd G9 K5.toNatClampNeg 0))) := ⟨_, rfl⟩
      rw [← e_f25] at hw
      have hf_mm : f25 mm = .inr (10, [.int m0, .ref wd, .ref my, .ref ce, .ref mv, .ref ta, .int m6, .int m7, .int m8, .int m9, .int m10, .long m11, .int m12, .int m13, .int m14, .int m15, .ref li, .ref ha, .ref lw, .ref st, .ref fo, .ref dr, .int m22, .ref ik, .int m24, .int m25, .long m26, .int m27, .int m28, .ref ro, .int m30, .ref ct, .ref se, .ref th, .ref cn, .ref be, .int m36, .ref du, .int m38, .ref db, .int m40, .int m41, .int m42, .ref pn, .ref wg, .ref wh, .ref tn, .ref he, .int m48, .ref tr, .ref fd, .ref po, .int m52, .int m53]) := (congrFun e_f25 mm).trans (z_up_ne (z_tne hf_mm hf_cn (m := 10) (n := 388) rfl rfl (by decide)) hf_mm)
      have hf_lw : f25 lw = .inl (cy 1, 25, .inl glw) := (congrFun e_f25 lw).trans (z_up_ne (z_tne hf_lw hf_cn (m := 300) (n := 388) rfl rfl (by decide)) hf_lw)
      have hf_st : f25 st = .inl (cy 1, 20, .inl gst) := (congrFun e_f25 st).trans (z_up_ne (z_tne hf_st hf_cn (m := 260) (n := 388) rfl rfl (by decide)) hf_st)
      have hf_ct : f25 ct = .inl (cy 1, 4, .inl G3) := (congrFun e_f25 ct).trans (z_up_ne (z_tne hf_ct hf_cn (m := 132) (n := 388) rfl rfl (by decide)) hf_ct)
      have hf_se : f25 se = .inl (cy 1, 36, .inl g20) := (congrFun e_f25 se).trans (z_up_ne ne_se_cn hf_se)
      have hf_th : f25 th = .inl (cy 1, 36, .inl g22) := (congrFun e_f25 th).trans (z_up_ne ne_th_cn hf_th)
      have hf_db : f25 db = .inl (cy 1, 5, .inl gdb) := (congrFun e_f25 db).trans (z_up_ne (z_tne hf_db hf_cn (m := 140) (n := 388) rfl rfl (by decide)) hf_db)
      have hf_cn : f25 cn = .inl (cy 1, 36, .inl (upd G9 K5.toNatClampNeg 0)) := (congrFun e_f25 cn).trans z_up_self
      have hfr : ∀ b ∈ L, b ≠ mm → b ≠ ct → b ≠ se → b ≠ th → b ≠ cn → b ≠ db → f25 b = f b := fun b hb h0 h1 h2 h3 h4 h5 => (congrFun e_f25 b).trans (z_up_ne h4 (hfr b hb h0 h1 h2 h3 h4 h5))
      obtain ⟨g24, e_g24⟩ : ∃ z, z = (upd G9 K5.toNatClampNeg 0) := ⟨_, rfl⟩
      rw [← e_g24] at hf_cn
      obtain ⟨k26, e_k26⟩ : ∃ z : Int32, z = K5 + 1 := ⟨_, rfl⟩
      refine lv_iinc (v := k26) (lv' := [(1, .int k26), (0, .ref mm)]) hx hb dX10_begin_68 hl (k := 0) rfl (by rw [e_k26]; rfl) (by decide) rfl (fun ls hl => ?_)
      have i_k26 : k26.toInt = (K5.toInt + 1) := z_add e_k26 rfl (by decide) (by omega)
      refine lv_goto (tgt := 41) hx hb dX10_begin_71 (by decide) ?_
      exact ih_41 _ (by omega) _ _ _ ⟨k26, g20, g22, g24, f25, rfl, (by first | decide | omega), (by first | decide | omega), hw, hf_mm, hf_lw, hf_st, hf_ct, hf_se, hf_th, hf_cn, hf_db, hfr, (lv_sub hl [0, 1] rfl)⟩
  · skip
    refine lv_aload_n hx hb dX10_begin_7 rfl (lv_at hl 1 rfl) ?_
    refine z_get (C := RX10) (T := TX10) (N := 54) (ci := 10) (v := .ref ct) hx hb hT zin_X10 hown hK hw hm_mm hf_mm rfl 31 (by decide) (hT _ kw_1199) rfl dX10_begin_8 ?_
    refine lv_iload_n hx hb dX10_begin_11 rfl (lv_at hl 0 rfl) ?_
    refine lv_aload_n hx hb dX10_begin_12 rfl (lv_at hl 1 rfl) ?_
    refine z_get (C := RX10) (T := TX10) (N := 54) (ci := 10) (v := .ref st) hx hb hT zin_X10 hown hK hw hm_mm hf_mm rfl 19 (by decide) (hT _ kw_1187) rfl dX10_begin_13 ?_
    refine lv_aload_n hx hb dX10_begin_16 rfl (lv_at hl 1 rfl) ?_
    refine z_get (C := RX10) (T := TX10) (N := 54) (ci := 10) (v := .ref lw) hx hb hT zin_X10 hown hK hw hm_mm hf_mm rfl 18 (by decide) (hT _ kw_1186) rfl dX10_begin_17 ?_
    refine lv_iconst (v := 0) hx hb dX10_begin_20 (by decide) ?_
    refine z_iald hx hb hK hw 1 hm_lw hf_lw rfl (z_ix (show (0 : Int32).toInt = 0 by decide) (by decide)) dX10_begin_21 ?_
    refine lv_topi (fun w27 e_w27 => ?_)
    have hv_w27 : 0 ≤ w27.toInt ∧ w27.toInt ≤ 999 := by rw [e_w27]; exact hq_lw _
    refine lv_iconst (v := 1) hx hb dX10_begin_22 (by decide) ?_
    refine z_icmp_ne (tgt := 30) hx hb rfl (show (1 : Int32).toInt = 1 by decide) dX10_begin_23 (by decide) (fun c28 => ?_) (fun c28 => ?_)
    · skip
      refine lv_iload_n hx hb dX10_begin_30 rfl (lv_at hl 0 rfl) ?_
      refine z_iald hx hb hK hw 1 hm_st hf_st rfl (z_ix rfl (by omega)) dX10_begin_31 ?_
      refine lv_topi (fun w29 e_w29 => ?_)
      have hv_w29 : 0 ≤ w29.toInt ∧ w29.toInt ≤ 999 := by rw [e_w29]; exact hq_st _
      refine z_iast hx hb hK hw 1 hm_ct hf_ct rfl (z_ix rfl (by omega)) dX10_begin_32 (fun H locs hw => ?_)
      obtain ⟨f31, e_f31⟩ : ∃ z, z = va_up f2 ct (.inl (cy 1, 4, .inl (upd G3 K1.toNatClampNeg w29))) := ⟨_, rfl⟩
      rw [← e_f31] at hw
      have hf_mm : f31 mm = .inr (10, [.int m0, .ref wd, .ref my, .ref ce, .ref mv, .ref ta, .int m6, .int m7, .int m8, .int m9, .int m10, .long m11, .int m12, .int m13, .int m14, .int m15, .ref li, .ref ha, .ref lw, .ref st, .ref fo, .ref dr, .int m22, .ref ik, .int m24, .int m25, .long m26, .int m27, .int m28, .ref ro, .int m30, .ref ct, .ref se, .ref th, .ref cn, .ref be, .int m36, .ref du, .int m38, .ref db, .int m40, .int m41, .int m42, .ref pn, .ref wg, .ref wh, .ref tn, .ref he, .int m48, .ref tr, .ref fd, .ref po, .int m52, .int m53]) := (congrFun e_f31 mm).trans (z_up_ne (z_tne hf_mm hf_ct (m := 10) (n := 132) rfl rfl (by decide)) hf_mm)
      have hf_lw : f31 lw = .inl (cy 1, 25, .inl glw) := (congrFun e_f31 lw).trans (z_up_ne (z_tne hf_lw hf_ct (m := 300) (n := 132) rfl rfl (by decide)) hf_lw)
      have hf_st : f31 st = .inl (cy 1, 20, .inl gst) := (congrFun e_f31 st).trans (z_up_ne (z_tne hf_st hf_ct (m := 260) (n := 132) rfl rfl (by decide)) hf_st)
      have hf_se : f31 se = .inl (cy 1, 36, .inl gse) := (congrFun e_f31 se).trans (z_up_ne (z_tne hf_se hf_ct (m := 388) (n := 132) rfl rfl (by decide)) hf_se)
      have hf_th : f31 th = .inl (cy 1, 36, .inl gth) := (congrFun e_f31 th).trans (z_up_ne (z_tne hf_th hf_ct (m := 388) (n := 132) rfl rfl (by decide)) hf_th)
      have hf_cn : f31 cn = .inl (cy 1, 36, .inl gcn) := (congrFun e_f31 cn).trans (z_up_ne (z_tne hf_cn hf_ct (m := 388) (n := 132) rfl rfl (by decide)) hf_cn)
      have hf_db : f31 db = .inl (cy 1, 5, .inl gdb) := (congrFun e_f31 db).trans (z_up_ne (z_tne hf_db hf_ct (m := 140) (n := 132) rfl rfl (by decide)) hf_db)
      have hf_ct : f31 ct = .inl (cy 1, 4, .inl (upd G3 K1.toNatClampNeg w29)) := (congrFun e_f31 ct).trans z_up_self
      have hfr : ∀ b ∈ L, b ≠ mm → b ≠ ct → b ≠ se → b ≠ th → b ≠ cn → b ≠ db → f31 b = f b := fun b hb h0 h1 h2 h3 h4 h5 => (congrFun e_f31 b).trans (z_up_ne h1 (hfr b hb h0 h1 h2 h3 h4 h5))
      obtain ⟨g30, e_g30⟩ : ∃ z, z = (upd G3 K1.toNatClampNeg w29) := ⟨_, rfl⟩
      rw [← e_g30] at hf_ct
      have hq_ct : ∀ j : Nat, q_law j (g30 j) := z_updQ hq_ct e_g30 (show 0 ≤ (w29 : Int32).toInt ∧ (w29 : Int32).toInt ≤ 999 by first | decide | omega)
      obtain ⟨k32, e_k32⟩ : ∃ z : Int32, z = K1 + 1 := ⟨_, rfl⟩
      refine lv_iinc (v := k32) (lv' := [(1, .int k32), (0, .ref mm)]) hx hb dX10_begin_33 hl (k := 0) rfl (by rw [e_k32]; rfl) (by decide) rfl (fun ls hl => ?_)
      have i_k32 : k32.toInt = (K1.toInt + 1) := z_add e_k32 rfl (by decide) (by omega)
      refine lv_goto (tgt := 2) hx hb dX10_begin_36 (by decide) ?_
      exact ih_2 _ (by omega) _ _ _ ⟨k32, g30, f31, rfl, (by first | decide | omega), (by first | decide | omega), hw, hf_mm, hf_lw, hf_st, hf_ct, hf_se, hf_th, hf_cn, hf_db, hfr, hq_ct, (lv_sub hl [0, 1] rfl)⟩
    · skip
      refine lv_iconst (v := 0) hx hb dX10_begin_26 (by decide) ?_
      refine lv_goto (tgt := 31) hx hb dX10_begin_27 (by decide) ?_
      refine z_iald hx hb hK hw 1 hm_st hf_st rfl (z_ix (show (0 : Int32).toInt = 0 by decide) (by decide)) dX10_begin_31 ?_
      refine lv_topi (fun w33 e_w33 => ?_)
      have hv_w33 : 0 ≤ w33.toInt ∧ w33.toInt ≤ 999 := by rw [e_w33]; exact hq_st _
      refine z_iast hx hb hK hw 1 hm_ct hf_ct rfl (z_ix rfl (by omega)) dX10_begin_32 (fun H locs hw => ?_)
      obtain ⟨f35, e_f35⟩ : ∃ z, z = va_up f2 ct (.inl (cy 1, 4, .inl (upd G3 K1.toNatClampNeg w33))) := ⟨_, rfl⟩
      rw [← e_f35] at hw
      have hf_mm : f35 mm = .inr (10, [.int m0, .ref wd, .ref my, .ref ce, .ref mv, .ref ta, .int m6, .int m7, .int m8, .int m9, .int m10, .long m11, .int m12, .int m13, .int m14, .int m15, .ref li, .ref ha, .ref lw, .ref st, .ref fo, .ref dr, .int m22, .ref ik, .int m24, .int m25, .long m26, .int m27, .int m28, .ref ro, .int m30, .ref ct, .ref se, .ref th, .ref cn, .ref be, .int m36, .ref du, .int m38, .ref db, .int m40, .int m41, .int m42, .ref pn, .ref wg, .ref wh, .ref tn, .ref he, .int m48, .ref tr, .ref fd, .ref po, .int m52, .int m53]) := (congrFun e_f35 mm).trans (z_up_ne (z_tne hf_mm hf_ct (m := 10) (n := 132) rfl rfl (by decide)) hf_mm)
      have hf_lw : f35 lw = .inl (cy 1, 25, .inl glw) := (congrFun e_f35 lw).trans (z_up_ne (z_tne hf_lw hf_ct (m := 300) (n := 132) rfl rfl (by decide)) hf_lw)
      have hf_st : f35 st = .inl (cy 1, 20, .inl gst) := (congrFun e_f35 st).trans (z_up_ne (z_tne hf_st hf_ct (m := 260) (n := 132) rfl rfl (by decide)) hf_st)
      have hf_se : f35 se = .inl (cy 1, 36, .inl gse) := (congrFun e_f35 se).trans (z_up_ne (z_tne hf_se hf_ct (m := 388) (n := 132) rfl rfl (by decide)) hf_se)
      have hf_th : f35 th = .inl (cy 1, 36, .inl gth) := (congrFun e_f35 th).trans (z_up_ne (z_tne hf_th hf_ct (m := 388) (n := 132) rfl rfl (by decide)) hf_th)
      have hf_cn : f35 cn = .inl (cy 1, 36, .inl gcn) := (congrFun e_f35 cn).trans (z_up_ne (z_tne hf_cn hf_ct (m := 388) (n := 132) rfl rfl (by decide)) hf_cn)
      have hf_db : f35 db = .inl (cy 1, 5, .inl gdb) := (congrFun e_f35 db).trans (z_up_ne (z_tne hf_db hf_ct (m := 140) (n := 132) rfl rfl (by decide)) hf_db)
      have hf_ct : f35 ct = .inl (cy 1, 4, .inl (upd G3 K1.toNatClampNeg w33)) := (congrFun e_f35 ct).trans z_up_self
      have hfr : ∀ b ∈ L, b ≠ mm → b ≠ ct → b ≠ se → b ≠ th → b ≠ cn → b ≠ db → f35 b = f b := fun b hb h0 h1 h2 h3 h4 h5 => (congrFun e_f35 b).trans (z_up_ne h1 (hfr b hb h0 h1 h2 h3 h4 h5))
      obtain ⟨g34, e_g34⟩ : ∃ z, z = (upd G3 K1.toNatClampNeg w33) := ⟨_, rfl⟩
      rw [← e_g34] at hf_ct
      have hq_ct : ∀ j : Nat, q_law j (g34 j) := z_updQ hq_ct e_g34 (show 0 ≤ (w33 : Int32).toInt ∧ (w33 : Int32).toInt ≤ 999 by first | decide | omega)
      obtain ⟨k36, e_k36⟩ : ∃ z : Int32, z = K1 + 1 := ⟨_, rfl⟩
      refine lv_iinc (v := k36) (lv' := [(1, .int k36), (0, .ref mm)]) hx hb dX10_begin_33 hl (k := 0) rfl (by rw [e_k36]; rfl) (by decide) rfl (fun ls hl => ?_)
      have i_k36 : k36.toInt = (K1.toInt + 1) := z_add e_k36 rfl (by decide) (by omega)
      refine lv_goto (tgt := 2) hx hb dX10_begin_36 (by decide) ?_
      exact ih_2 _ (by omega) _ _ _ ⟨k36, g34, f35, rfl, (by first | decide | omega), (by first | decide | omega), hw, hf_mm, hf_lw, hf_st, hf_ct, hf_se, hf_th, hf_cn, hf_db, hfr, hq_ct, (lv_sub hl [0, 1] rfl)⟩

set_option maxHeartbeats 2000000 in
set_option maxRecDepth 100000 in
theorem c_X10_dawns (l : Launch) {D : va_G} {cy : Nat → ClassId} {L : List Nat} {f : Nat → va_E} {sz : Nat} {adK adV : Nat → Nat} {mm wd my ce mv ta li ha lw st fo dr ik ro ct se th cn be du db pn wg wh tn he tr fd po : Nat} {m0 m6 m7 m8 m9 m10 m12 m13 m14 m15 m22 m24 m25 m27 m28 m30 m36 m38 m40 m41 m42 m48 m52 m53 : Int32} {m11 m26 : Int64} {glw gct : Nat → Int32}  {dd : Int32} (hm_mm : mm ∈ L) (hm_lw : lw ∈ L) (hm_ct : ct ∈ L) (hf_mm : f mm = .inr (10, [.int m0, .ref wd, .ref my, .ref ce, .ref mv, .ref ta, .int m6, .int m7, .int m8, .int m9, .int m10, .long m11, .int m12, .int m13, .int m14, .int m15, .ref li, .ref ha, .ref lw, .ref st, .ref fo, .ref dr, .int m22, .ref ik, .int m24, .int m25, .long m26, .int m27, .int m28, .ref ro, .int m30, .ref ct, .ref se, .ref th, .ref cn, .ref be, .int m36, .ref du, .int m38, .ref db, .int m40, .int m41, .int m42, .ref pn, .ref wg, .ref wh, .ref tn, .ref he, .int m48, .ref tr, .ref fd, .ref po, .int m52, .int m53])) (hf_lw : f lw = .inl (cy 1, 25, .inl glw)) (hf_ct : f ct = .inl (cy 1, 4, .inl gct)) (hq_lw : ∀ j : Nat, q_law j (glw j)) (hq_ct : ∀ j : Nat, q_law j (gct j)) : Met l yX10_dawns (z_ws yX10_dawns cX10_dawns 3 none) (z_R 1 0 0) (va_Pc [.ref mm, .int dd] (z_Pre D vwCl (z_KK D cy adK adV) L f sz)) (z_Qv D vwCl (fun u => L = u.1 ∧ (∀ b ∈ L, b ≠ mm → b ≠ ct → u.2 b = f b) ∧ (∃ (nct : Nat → Int32), (u.2 mm = .inr (10, [.int m0, .ref wd, .ref my, .ref ce, .ref mv, .ref ta, .int m6, .int m7, .int m8, .int m9, .int m10, .long m11, .int m12, .int m13, .int m14, .int m15, .ref li, .ref ha, .ref lw, .ref st, .ref fo, .ref dr, .int m22, .ref ik, .int m24, .int m25, .long m26, .int m27, .int m28, .ref ro, .int m30, .ref ct, .ref se, .ref th, .ref cn, .ref be, .int dd, .ref du, .int m38, .ref db, .int m40, .int m41, .int m42, .ref pn, .ref wg, .ref wh, .ref tn, .ref he, .int m48, .ref tr, .ref fd, .ref po, .int m52, .int m53])) ∧ (u.2 ct = .inl (cy 1, 4, .inl nct)) ∧ (∀ j : Nat, q_law j (nct j)) ∧ (z_ph nct ≤ z_ph gct))) L sz) 0 0 (z_A L sz) := by
  refine z_met (cc := cX10_dawns) (maxL := 3) (ret := none) (lv := [(0, .ref mm), (1, .int dd)]) (by decide) rfl (Nat.le_of_ble_eq_true rfl) rfl ?_
  intro p e s m below meth c ls hx hb hr hlk hml hown hnm hts hKK hA hw hl
  have hK := hKK.1.1
  have hown : s.vm.findClass RX10 = some m.cls := hown
  have hT : ∀ w ∈ lw_all, w.before ([.ref mm, .int dd] : List Value).toArray s = true := fun w h => hts w (z_cons w h)
  have hsub : L = L := rfl
  have hfr : ∀ b ∈ L, b ≠ mm → b ≠ ct → f b = f b := fun _ _ _ _ => rfl
  refine lv_iload_n hx hb dX10_dawns_0 rfl (lv_at hl 1 rfl) ?_
  refine lv_aload_n hx hb dX10_dawns_1 rfl (lv_at hl 0 rfl) ?_
  refine z_get (C := RX10) (T := TX10) (N := 54) (ci := 10) (v := .int m36) hx hb hT zin_X10 hown hK hw hm_mm hf_mm rfl 36 (by decide) (hT _ kw_1204) rfl dX10_dawns_2 ?_
  refine z_icmp_le (tgt := 38) hx hb rfl rfl dX10_dawns_5 (by decide) (fun c1 => ?_) (fun c1 => ?_)
  · skip
    refine lv_aload_n hx hb dX10_dawns_38 rfl (lv_at hl 0 rfl) ?_
    refine lv_iload_n hx hb dX10_dawns_39 rfl (lv_at hl 1 rfl) ?_
    refine z_put (C := RX10) (T := TX10) (N := 54) (ci := 10) (v := .int dd) (fs' := [.int m0, .ref wd, .ref my, .ref ce, .ref mv, .ref ta, .int m6, .int m7, .int m8, .int m9, .int m10, .long m11, .int m12, .int m13, .int m14, .int m15, .ref li, .ref ha, .ref lw, .ref st, .ref fo, .ref dr, .int m22, .ref ik, .int m24, .int m25, .long m26, .int m27, .int m28, .ref ro, .int m30, .ref ct, .ref se, .ref th, .ref cn, .ref be, .int dd, .ref du, .int m38, .ref db, .int m40, .int m41, .int m42, .ref pn, .ref wg, .ref wh, .ref tn, .ref he, .int m48, .ref tr, .ref fd, .ref po, .int m52, .int m53]) hx hb hT zin_X10 tyX10_ok nmX10 hown hK hw hm_mm hf_mm rfl 36 (by decide) (hT _ kw_1204) rfl rfl rfl (Nat.le_of_ble_eq_true rfl) rfl dX10_dawns_40 (fun H locs hw => ?_)
    obtain ⟨f2, e_f2⟩ : ∃ z, z = va_up f mm (.inr (10, [.int m0, .ref wd, .ref my, .ref ce, .ref mv, .ref ta, .int m6, .int m7, .int m8, .int m9, .int m10, .long m11, .int m12, .int m13, .int m14, .int m15, .ref li, .ref ha, .ref lw, .ref st, .ref fo, .ref dr, .int m22, .ref ik, .int m24, .int m25, .long m26, .int m27, .int m28, .ref ro, .int m30, .ref ct, .ref se, .ref th, .ref cn, .ref be, .int dd, .ref du, .int m38, .ref db, .int m40, .int m41, .int m42, .ref pn, .ref wg, .ref wh, .ref tn, .ref he, .int m48, .ref tr, .ref fd, .ref po, .int m52, .int m53])) := ⟨_, rfl⟩
    rw [← e_f2] at hw
    have hf_lw : f2 lw = .inl (cy 1, 25, .inl glw) := (congrFun e_f2 lw).trans (z_up_ne (z_tne hf_lw hf_mm (m := 300) (n := 10) rfl rfl (by decide)) hf_lw)
    have hf_ct : f2 ct = .inl (cy 1, 4, .inl gct) := (congrFun e_f2 ct).trans (z_up_ne (z_tne hf_ct hf_mm (m := 132) (n := 10) rfl rfl (by decide)) hf_ct)
    have hf_mm : f2 mm = .inr (10, [.int m0, .ref wd, .ref my, .ref ce, .ref mv, .ref ta, .int m6, .int m7, .int m8, .int m9, .int m10, .long m11, .int m12, .int m13, .int m14, .int m15, .ref li, .ref ha, .ref lw, .ref st, .ref fo, .ref dr, .int m22, .ref ik, .int m24, .int m25, .long m26, .int m27, .int m28, .ref ro, .int m30, .ref ct, .ref se, .ref th, .ref cn, .ref be, .int dd, .ref du, .int m38, .ref db, .int m40, .int m41, .int m42, .ref pn, .ref wg, .ref wh, .ref tn, .ref he, .int m48, .ref tr, .ref fd, .ref po, .int m52, .int m53]) := (congrFun e_f2 mm).trans z_up_self
    have hfr : ∀ b ∈ L, b ≠ mm → b ≠ ct → f2 b = f b := fun b hb h0 h1 => (congrFun e_f2 b).trans (z_up_ne h0 (hfr b hb h0 h1))
    exact z_vret hx hb hr hlk (by decide) (by decide) hw (⟨hsub, hfr, gct, hf_mm, hf_ct, hq_ct, Int.le_refl _⟩) dX10_dawns_43
  · skip
    refine lv_aload_n hx hb dX10_dawns_8 rfl (lv_at hl 0 rfl) ?_
    refine z_get (C := RX10) (T := TX10) (N := 54) (ci := 10) (v := .ref lw) hx hb hT zin_X10 hown hK hw hm_mm hf_mm rfl 18 (by decide) (hT _ kw_1186) rfl dX10_dawns_9 ?_
    refine lv_iconst (v := 1) hx hb dX10_dawns_12 (by decide) ?_
    refine z_iald hx hb hK hw 1 hm_lw hf_lw rfl (z_ix (show (1 : Int32).toInt = 1 by decide) (by decide)) dX10_dawns_13 ?_
    refine lv_topi (fun w3 e_w3 => ?_)
    have hv_w3 : 0 ≤ w3.toInt ∧ w3.toInt ≤ 999 := by rw [e_w3]; exact hq_lw _
    refine lv_iconst (v := 1) hx hb dX10_dawns_14 (by decide) ?_
    refine z_icmp_ne (tgt := 38) hx hb rfl (show (1 : Int32).toInt = 1 by decide) dX10_dawns_15 (by decide) (fun c4 => ?_) (fun c4 => ?_)
    · skip
      refine lv_aload_n hx hb dX10_dawns_38 rfl (lv_at hl 0 rfl) ?_
      refine lv_iload_n hx hb dX10_dawns_39 rfl (lv_at hl 1 rfl) ?_
      refine z_put (C := RX10) (T := TX10) (N := 54) (ci := 10) (v := .int dd) (fs' := [.int m0, .ref wd, .ref my, .ref ce, .ref mv, .ref ta, .int m6, .int m7, .int m8, .int m9, .int m10, .long m11, .int m12, .int m13, .int m14, .int m15, .ref li, .ref ha, .ref lw, .ref st, .ref fo, .ref dr, .int m22, .ref ik, .int m24, .int m25, .long m26, .int m27, .int m28, .ref ro, .int m30, .ref ct, .ref se, .ref th, .ref cn, .ref be, .int dd, .ref du, .int m38, .ref db, .int m40, .int m41, .int m42, .ref pn, .ref wg, .ref wh, .ref tn, .ref he, .int m48, .ref tr, .ref fd, .ref po, .int m52, .int m53]) hx hb hT zin_X10 tyX10_ok nmX10 hown hK hw hm_mm hf_mm rfl 36 (by decide) (hT _ kw_1204) rfl rfl rfl (Nat.le_of_ble_eq_true rfl) rfl dX10_dawns_40 (fun H locs hw => ?_)
      obtain ⟨f5, e_f5⟩ : ∃ z, z = va_up f mm (.inr (10, [.int m0, .ref wd, .ref my, .ref ce, .ref mv, .ref ta, .int m6, .int m7, .int m8, .int m9, .int m10, .long m11, .int m12, .int m13, .int m14, .int m15, .ref li, .ref ha, .ref lw, .ref st, .ref fo, .ref dr, .int m22, .ref ik, .int m24, .int m25, .long m26, .int m27, .int m28, .ref ro, .int m30, .ref ct, .ref se, .ref th, .ref cn, .ref be, .int dd, .ref du, .int m38, .ref db, .int m40, .int m41, .int m42, .ref pn, .ref wg, .ref wh, .ref tn, .ref he, .int m48, .ref tr, .ref fd, .ref po, .int m52, .int m53])) := ⟨_, rfl⟩
      rw [← e_f5] at hw
      have hf_lw : f5 lw = .inl (cy 1, 25, .inl glw) := (congrFun e_f5 lw).trans (z_up_ne (z_tne hf_lw hf_mm (m := 300) (n := 10) rfl rfl (by decide)) hf_lw)
      have hf_ct : f5 ct = .inl (cy 1, 4, .inl gct) := (congrFun e_f5 ct).trans (z_up_ne (z_tne hf_ct hf_mm (m := 132) (n := 10) rfl rfl (by decide)) hf_ct)
      have hf_mm : f5 mm = .inr (10, [.int m0, .ref wd, .ref my, .ref ce, .ref mv, .ref ta, .int m6, .int m7, .int m8, .int m9, .int m10, .long m11, .int m12, .int m13, .int m14, .int m15, .ref li, .ref ha, .ref lw, .ref st, .ref fo, .ref dr, .int m22, .ref ik, .int m24, .int m25, .long m26, .int m27, .int m28, .ref ro, .int m30, .ref ct, .ref se, .ref th, .ref cn, .ref be, .int dd, .ref du, .int m38, .ref db, .int m40, .int m41, .int m42, .ref pn, .ref wg, .ref wh, .ref tn, .ref he, .int m48, .ref tr, .ref fd, .ref po, .int m52, .int m53]) := (congrFun e_f5 mm).trans z_up_self
      have hfr : ∀ b ∈ L, b ≠ mm → b ≠ ct → f5 b = f b := fun b hb h0 h1 => (congrFun e_f5 b).trans (z_up_ne h0 (hfr b hb h0 h1))
      exact z_vret hx hb hr hlk (by decide) (by decide) hw (⟨hsub, hfr, gct, hf_mm, hf_ct, hq_ct, Int.le_refl _⟩) dX10_dawns_43
    · skip
      refine lv_iconst (v := 0) hx hb dX10_dawns_18 (by decide) ?_
      refine lv_istore_n (lv' := [(2, .int 0), (0, .ref mm), (1, .int dd)]) hx hb dX10_dawns_19 rfl hl (by decide) rfl (fun ls hl => ?_)
      have hzk : (0 : Int32).toInt = 0 := by decide
      refine z_loop (fun n H locs ls => ∃ (K6 : Int32) (G8 : Nat → Int32) (f7 : Nat → va_E), (n = (4 - K6.toInt).toNat) ∧ (0 ≤ K6.toInt) ∧ (K6.toInt ≤ 4) ∧ (z_ph G8 ≤ z_ph gct) ∧ (z_H D vwCl (z_A L sz) s.heap L f7 H locs) ∧ (f7 mm = .inr (10, [.int m0, .ref wd, .ref my, .ref ce, .ref mv, .ref ta, .int m6, .int m7, .int m8, .int m9, .int m10, .long m11, .int m12, .int m13, .int m14, .int m15, .ref li, .ref ha, .ref lw, .ref st, .ref fo, .ref dr, .int m22, .ref ik, .int m24, .int m25, .long m26, .int m27, .int m28, .ref ro, .int m30, .ref ct, .ref se, .ref th, .ref cn, .ref be, .int m36, .ref du, .int m38, .ref db, .int m40, .int m41, .int m42, .ref pn, .ref wg, .ref wh, .ref tn, .ref he, .int m48, .ref tr, .ref fd, .ref po, .int m52, .int m53])) ∧ (f7 lw = .inl (cy 1, 25, .inl glw)) ∧ (f7 ct = .inl (cy 1, 4, .inl G8)) ∧ (∀ b ∈ L, b ≠ mm → b ≠ ct → f7 b = f b) ∧ (∀ j : Nat, q_law j (G8 j)) ∧ (lv_has ls 3 [(2, .int K6), (0, .ref mm), (1, .int dd)])) _ ⟨0, gct, f, rfl, (by first | decide | omega), (by first | decide | omega), (Int.le_refl _), hw, hf_mm, hf_lw, hf_ct, hfr, hq_ct, (lv_sub hl [0, 1, 2] rfl)⟩ (fun n H locs ls hI ih_20 => ?_)
      obtain ⟨K6, G8, f7, hn, hk0, hk1, hi0, hw, hf_mm, hf_lw, hf_ct, hfr, hq_ct, hl⟩ := hI
      refine lv_iload_n hx hb dX10_dawns_20 rfl (lv_at hl 0 rfl) ?_
      refine lv_iconst (v := 4) hx hb dX10_dawns_21 (by decide) ?_
      refine z_icmp_ge (tgt := 38) hx hb rfl (show (4 : Int32).toInt = 4 by decide) dX10_dawns_22 (by decide) (fun c9 => ?_) (fun c9 => ?_)
      · skip
        refine lv_aload_n hx hb dX10_dawns_38 rfl (lv_at hl 1 rfl) ?_
        refine lv_iload_n hx hb dX10_dawns_39 rfl (lv_at hl 2 rfl) ?_
        refine z_put (C := RX10) (T := TX10) (N := 54) (ci := 10) (v := .int dd) (fs' := [.int m0, .ref wd, .ref my, .ref ce, .ref mv, .ref ta, .int m6, .int m7, .int m8, .int m9, .int m10, .long m11, .int m12, .int m13, .int m14, .int m15, .ref li, .ref ha, .ref lw, .ref st, .ref fo, .ref dr, .int m22, .ref ik, .int m24, .int m25, .long m26, .int m27, .int m28, .ref ro, .int m30, .ref ct, .ref se, .ref th, .ref cn, .ref be, .int dd, .ref du, .int m38, .ref db, .int m40, .int m41, .int m42, .ref pn, .ref wg, .ref wh, .ref tn, .ref he, .int m48, .ref tr, .ref fd, .ref po, .int m52, .int m53]) hx hb hT zin_X10 tyX10_ok nmX10 hown hK hw hm_mm hf_mm rfl 36 (by decide) (hT _ kw_1204) rfl rfl rfl (Nat.le_of_ble_eq_true rfl) rfl dX10_dawns_40 (fun H locs hw => ?_)
        obtain ⟨f10, e_f10⟩ : ∃ z, z = va_up f7 mm (.inr (10, [.int m0, .ref wd, .ref my, .ref ce, .ref mv, .ref ta, .int m6, .int m7, .int m8, .int m9, .int m10, .long m11, .int m12, .int m13, .int m14, .int m15, .ref li, .ref ha, .ref lw, .ref st, .ref fo, .ref dr, .int m22, .ref ik, .int m24, .int m25, .long m26, .int m27, .int m28, .ref ro, .int m30, .ref ct, .ref se, .ref th, .ref cn, .ref be, .int dd, .ref du, .int m38, .ref db, .int m40, .int m41, .int m42, .ref pn, .ref wg, .ref wh, .ref tn, .ref he, .int m48, .ref tr, .ref fd, .ref po, .int m52, .int m53])) := ⟨_, rfl⟩
        rw [← e_f10] at hw
        have hf_lw : f10 lw = .inl (cy 1, 25, .inl glw) := (congrFun e_f10 lw).trans (z_up_ne (z_tne hf_lw hf_mm (m := 300) (n := 10) rfl rfl (by decide)) hf_lw)
        have hf_ct : f10 ct = .inl (cy 1, 4, .inl G8) := (congrFun e_f10 ct).trans (z_up_ne (z_tne hf_ct hf_mm (m := 132) (n := 10) rfl rfl (by decide)) hf_ct)
        have hf_mm : f10 mm = .inr (10, [.int m0, .ref wd, .ref my, .ref ce, .ref mv, .ref ta, .int m6, .int m7, .int m8, .int m9, .int m10, .long m11, .int m12, .int m13, .int m14, .int m15, .ref li, .ref ha, .ref lw, .ref st, .ref fo, .ref dr, .int m22, .ref ik, .int m24, .int m25, .long m26, .int m27, .int m28, .ref ro, .int m30, .ref ct, .ref se, .ref th, .ref cn, .ref be, .int dd, .ref du, .int m38, .ref db, .int m40, .int m41, .int m42, .ref pn, .ref wg, .ref wh, .ref tn, .ref he, .int m48, .ref tr, .ref fd, .ref po, .int m52, .int m53]) := (congrFun e_f10 mm).trans z_up_self
        have hfr : ∀ b ∈ L, b ≠ mm → b ≠ ct → f10 b = f b := fun b hb h0 h1 => (congrFun e_f10 b).trans (z_up_ne h0 (hfr b hb h0 h1))
        exact z_vret hx hb hr hlk (by decide) (by decide) hw (⟨hsub, hfr, G8, hf_mm, hf_ct, hq_ct, hi0⟩) dX10_dawns_43
      · skip
        refine lv_aload_n hx hb dX10_dawns_25 rfl (lv_at hl 1 rfl) ?_
        refine z_get (C := RX10) (T := TX10) (N := 54) (ci := 10) (v := .ref ct) hx hb hT zin_X10 hown hK hw hm_mm hf_mm rfl 31 (by decide) (hT _ kw_1199) rfl dX10_dawns_26 ?_
        refine lv_iload_n hx hb dX10_dawns_29 rfl (lv_at hl 0 rfl) ?_
        refine lv_iconst (v := 0) hx hb dX10_dawns_30 (by decide) ?_
        refine z_iast hx hb hK hw 1 hm_ct hf_ct rfl (z_ix rfl (by omega)) dX10_dawns_31 (fun H locs hw => ?_)
        obtain ⟨f12, e_f12⟩ : ∃ z, z = va_up f7 ct (.inl (cy 1, 4, .inl (upd G8 K6.toNatClampNeg 0))) := ⟨_, rfl⟩
        rw [← e_f12] at hw
        have hf_mm : f12 mm = .inr (10, [.int m0, .ref wd, .ref my, .ref ce, .ref mv, .ref ta, .int m6, .int m7, .int m8, .int m9, .int m10, .long m11, .int m12, .int m13, .int m14, .int m15, .ref li, .ref ha, .ref lw, .ref st, .ref fo, .ref dr, .int m22, .ref ik, .int m24, .int m25, .long m26, .int m27, .int m28, .ref ro, .int m30, .ref ct, .ref se, .ref th, .ref cn, .ref be, .int m36, .ref du, .int m38, .ref db, .int m40, .int m41, .int m42, .ref pn, .ref wg, .ref wh, .ref tn, .ref he, .int m48, .ref tr, .ref fd, .ref po, .int m52, .int m53]) := (congrFun e_f12 mm).trans (z_up_ne (z_tne hf_mm hf_ct (m := 10) (n := 132) rfl rfl (by decide)) hf_mm)
        have hf_lw : f12 lw = .inl (cy 1, 25, .inl glw) := (congrFun e_f12 lw).trans (z_up_ne (z_tne hf_lw hf_ct (m := 300) (n := 132) rfl rfl (by decide)) hf_lw)
        have hf_ct : f12 ct = .inl (cy 1, 4, .inl (upd G8 K6.toNatClampNeg 0)) := (congrFun e_f12 ct).trans z_up_self
        have hfr : ∀ b ∈ L, b ≠ mm → b ≠ ct → f12 b = f b := fun b hb h0 h1 => (congrFun e_f12 b).trans (z_up_ne h1 (hfr b hb h0 h1))
        obtain ⟨g11, e_g11⟩ : ∃ z, z = (upd G8 K6.toNatClampNeg 0) := ⟨_, rfl⟩
        rw [← e_g11] at hf_ct
        have hq_ct : ∀ j : Nat, q_law j (g11 j) := z_updQ hq_ct e_g11 (show 0 ≤ (0 : Int32).toInt ∧ (0 : Int32).toInt ≤ 999 by first | decide | omega)
        obtain ⟨k13, e_k13⟩ : ∃ z : Int32, z = K6 + 1 := ⟨_, rfl⟩
        refine lv_iinc (v := k13) (lv' := [(2, .int k13), (0, .ref mm), (1, .int dd)]) hx hb dX10_dawns_32 hl (k := 0) rfl (by rw [e_k13]; rfl) (by decide) rfl (fun ls hl => ?_)
        have i_k13 : k13.toInt = (K6.toInt + 1) := z_add e_k13 rfl (by decide) (by omega)
        refine lv_goto (tgt := 20) hx hb dX10_dawns_35 (by decide) ?_
        exact ih_20 _ (by omega) _ _ _ ⟨k13, g11, f12, rfl, (by first | decide | omega), (by first | decide | omega), (Int.le_trans (z_ph_0 e_g11 (by omega)) hi0), hw, hf_mm, hf_lw, hf_ct, hfr, hq_ct, (lv_sub hl [0, 1, 2] rfl)⟩

set_option maxHeartbeats 2000000 in
set_option maxRecDepth 100000 in
theorem c_X10_counterOf (l : Launch) {D : va_G} {cy : Nat → ClassId} {L : List Nat} {f : Nat → va_E} {sz : Nat} {adK adV : Nat → Nat} {mm wd my ce mv ta li ha lw st fo dr ik ro ct se th cn be du db pn wg wh tn he tr fd po : Nat} {m0 m6 m7 m8 m9 m10 m12 m13 m14 m15 m22 m24 m25 m27 m28 m30 m36 m38 m40 m41 m42 m48 m52 m53 : Int32} {m11 m26 : Int64} {glw : Nat → Int32}  {ga : Int32} (hm_mm : mm ∈ L) (hm_lw : lw ∈ L) (hf_mm : f mm = .inr (10, [.int m0, .ref wd, .ref my, .ref ce, .ref mv, .ref ta, .int m6, .int m7, .int m8, .int m9, .int m10, .long m11, .int m12, .int m13, .int m14, .int m15, .ref li, .ref ha, .ref lw, .ref st, .ref fo, .ref dr, .int m22, .ref ik, .int m24, .int m25, .long m26, .int m27, .int m28, .ref ro, .int m30, .ref ct, .ref se, .ref th, .ref cn, .ref be, .int m36, .ref du, .int m38, .ref db, .int m40, .int m41, .int m42, .ref pn, .ref wg, .ref wh, .ref tn, .ref he, .int m48, .ref tr, .ref fd, .ref po, .int m52, .int m53])) (hf_lw : f lw = .inl (cy 1, 25, .inl glw)) (hq_lw : ∀ j : Nat, q_law j (glw j)) (hga : 0 ≤ ga.toInt ∧ ga.toInt ≤ 3) : Met l yX10_counterOf (z_ws yX10_counterOf cX10_counterOf 2 (some .int)) (z_R 1 0 0) (va_Pc [.ref mm, .int ga] (z_Pre D vwCl (z_KK D cy adK adV) L f sz)) (z_Qi D vwCl (fun r u => u = (L, f) ∧ (0 ≤ r.toInt ∧ r.toInt ≤ 3)) L sz) 0 0 (z_A L sz) := by
  refine z_met (cc := cX10_counterOf) (maxL := 2) (ret := (some .int)) (lv := [(0, .ref mm), (1, .int ga)]) (by decide) rfl (Nat.le_of_ble_eq_true rfl) rfl ?_
  intro p e s m below meth c ls hx hb hr hlk hml hown hnm hts hKK hA hw hl
  have hK := hKK.1.1
  have hown : s.vm.findClass RX10 = some m.cls := hown
  have hT : ∀ w ∈ lw_all, w.before ([.ref mm, .int ga] : List Value).toArray s = true := fun w h => hts w (z_cons w h)
  refine lv_aload_n hx hb dX10_counterOf_0 rfl (lv_at hl 0 rfl) ?_
  refine z_get (C := RX10) (T := TX10) (N := 54) (ci := 10) (v := .ref lw) hx hb hT zin_X10 hown hK hw hm_mm hf_mm rfl 18 (by decide) (hT _ kw_1186) rfl dX10_counterOf_1 ?_
  refine lv_iconst (v := 0) hx hb dX10_counterOf_4 (by decide) ?_
  refine z_iald hx hb hK hw 1 hm_lw hf_lw rfl (z_ix (show (0 : Int32).toInt = 0 by decide) (by decide)) dX10_counterOf_5 ?_
  refine lv_topi (fun w1 e_w1 => ?_)
  have hv_w1 : 0 ≤ w1.toInt ∧ w1.toInt ≤ 999 := by rw [e_w1]; exact hq_lw _
  refine lv_iconst (v := 1) hx hb dX10_counterOf_6 (by decide) ?_
  refine z_icmp_ne (tgt := 14) hx hb rfl (show (1 : Int32).toInt = 1 by decide) dX10_counterOf_7 (by decide) (fun c2 => ?_) (fun c2 => ?_)
  · skip
    refine lv_iload_n hx hb dX10_counterOf_14 rfl (lv_at hl 1 rfl) ?_
    exact z_iret hx hb hr hlk (by decide) (by decide) hw (⟨rfl, by first | decide | omega⟩) dX10_counterOf_15
  · skip
    refine lv_iconst (v := 0) hx hb dX10_counterOf_10 (by decide) ?_
    refine lv_goto (tgt := 15) hx hb dX10_counterOf_11 (by decide) ?_
    exact z_iret hx hb hr hlk (by decide) (by decide) hw (⟨rfl, by first | decide | omega⟩) dX10_counterOf_15

set_option maxHeartbeats 2000000 in
set_option maxRecDepth 100000 in
theorem c_X10_passes (l : Launch) {D : va_G} {cy : Nat → ClassId} {L : List Nat} {f : Nat → va_E} {sz : Nat} {adK adV : Nat → Nat} {mm wd my ce mv ta li ha lw st fo dr ik ro ct se th cn be du db pn wg wh tn he tr fd po : Nat} {m0 m6 m7 m8 m9 m10 m12 m13 m14 m15 m22 m24 m25 m27 m28 m30 m36 m38 m40 m41 m42 m48 m52 m53 : Int32} {m11 m26 : Int64} {gha glw gfo gdr gct gse gth gcn gdu gdb : Nat → Int32}  {kk pl ti : Int32} {P : Int} (hm_mm : mm ∈ L) (hm_dr : dr ∈ L) (hm_lw : lw ∈ L) (hm_ha : ha ∈ L) (hm_th : th ∈ L) (hm_se : se ∈ L) (hm_fo : fo ∈ L) (hm_cn : cn ∈ L) (hm_ct : ct ∈ L) (hm_du : du ∈ L) (hm_db : db ∈ L) (hf_mm : f mm = .inr (10, [.int m0, .ref wd, .ref my, .ref ce, .ref mv, .ref ta, .int m6, .int m7, .int m8, .int m9, .int m10, .long m11, .int m12, .int m13, .int m14, .int m15, .ref li, .ref ha, .ref lw, .ref st, .ref fo, .ref dr, .int m22, .ref ik, .int m24, .int m25, .long m26, .int m27, .int m28, .ref ro, .int m30, .ref ct, .ref se, .ref th, .ref cn, .ref be, .int m36, .ref du, .int m38, .ref db, .int m40, .int m41, .int m42, .ref pn, .ref wg, .ref wh, .ref tn, .ref he, .int m48, .ref tr, .ref fd, .ref po, .int m52, .int m53])) (hf_dr : f dr = .inl (cy 1, 520, .inl gdr)) (hf_lw : f lw = .inl (cy 1, 25, .inl glw)) (hf_ha : f ha = .inl (cy 1, 30, .inl gha)) (hf_th : f th = .inl (cy 1, 36, .inl gth)) (hf_se : f se = .inl (cy 1, 36, .inl gse)) (hf_fo : f fo = .inl (cy 1, 180, .inl gfo)) (hf_cn : f cn = .inl (cy 1, 36, .inl gcn)) (hf_ct : f ct = .inl (cy 1, 4, .inl gct)) (hf_du : f du = .inl (cy 1, 5200, .inl gdu)) (hf_db : f db = .inl (cy 1, 5, .inl gdb)) (ne_th_se : th ≠ se) (ne_th_cn : th ≠ cn) (ne_se_cn : se ≠ cn) (hq_dr : ∀ j : Nat, q_drv j (gdr j)) (hq_lw : ∀ j : Nat, q_law j (glw j)) (hq_ha : ∀ j : Nat, q_has j (gha j)) (hq_ct : ∀ j : Nat, q_law j (gct j)) (hq_du : ∀ j : Nat, q_du j (gdu j)) (hkk : 0 ≤ kk.toInt ∧ kk.toInt ≤ 12) (hti : 0 ≤ ti.toInt ∧ ti.toInt ≤ 215) (hea3 : 2 ≤ (glw 3).toInt) (hP : 2 * m38.toInt + z_ph gct ≤ P ∧ P ≤ 2596 ∧ 0 ≤ m38.toInt) : Met l yX10_passes (z_ws yX10_passes cX10_passes 7 none) (z_R 2 0 0) (va_Pc [.ref mm, .int kk, .int pl, .int ti] (z_Pre D vwCl (z_KK D cy adK adV) L f sz)) (z_Qv D vwCl (fun u => L = u.1 ∧ (∀ b ∈ L, b ≠ mm → b ≠ th → b ≠ se → b ≠ cn → b ≠ ct → b ≠ du → b ≠ db → u.2 b = f b) ∧ (∃ (d2 : Int32) (nth nse ncn nct ndu ndb : Nat → Int32), (u.2 mm = .inr (10, [.int m0, .ref wd, .ref my, .ref ce, .ref mv, .ref ta, .int m6, .int m7, .int m8, .int m9, .int m10, .long m11, .int m12, .int m13, .int m14, .int m15, .ref li, .ref ha, .ref lw, .ref st, .ref fo, .ref dr, .int m22, .ref ik, .int m24, .int m25, .long m26, .int m27, .int m28, .ref ro, .int m30, .ref ct, .ref se, .ref th, .ref cn, .ref be, .int m36, .ref du, .int d2, .ref db, .int m40, .int m41, .int m42, .ref pn, .ref wg, .ref wh, .ref tn, .ref he, .int m48, .ref tr, .ref fd, .ref po, .int m52, .int m53])) ∧ (u.2 th = .inl (cy 1, 36, .inl nth)) ∧ (u.2 se = .inl (cy 1, 36, .inl nse)) ∧ (u.2 cn = .inl (cy 1, 36, .inl ncn)) ∧ (u.2 ct = .inl (cy 1, 4, .inl nct)) ∧ (u.2 du = .inl (cy 1, 5200, .inl ndu)) ∧ (u.2 db = .inl (cy 1, 5, .inl ndb)) ∧ (∀ j : Nat, q_law j (nct j)) ∧ (∀ j : Nat, q_du j (ndu j)) ∧ (2 * d2.toInt + z_ph nct ≤ P + 1 ∧ 0 ≤ d2.toInt))) L sz) 0 0 (z_A L sz) := by
  refine z_met (cc := cX10_passes) (maxL := 7) (ret := none) (lv := [(0, .ref mm), (1, .int kk), (2, .int pl), (3, .int ti)]) (by decide) rfl (Nat.le_of_ble_eq_true rfl) rfl ?_
  intro p e s m below meth c ls hx hb hr hlk hml hown hnm hts hKK hA hw hl
  have hK := hKK.1.1
  have hown : s.vm.findClass RX10 = some m.cls := hown
  have hT : ∀ w ∈ lw_all, w.before ([.ref mm, .int kk, .int pl, .int ti] : List Value).toArray s = true := fun w h => hts w (z_cons w h)
  have hsub : L = L := rfl
  have hfr : ∀ b ∈ L, b ≠ mm → b ≠ th → b ≠ se → b ≠ cn → b ≠ ct → b ≠ du → b ≠ db → f b = f b := fun _ _ _ _ _ _ _ _ _ => rfl
  have hph0 := z_phr gct
  refine lv_aload_n hx hb dX10_passes_0 rfl (lv_at hl 0 rfl) ?_
  refine lv_iload_n hx hb dX10_passes_1 rfl (lv_at hl 1 rfl) ?_
  refine lv_iconst (v := 1) hx hb dX10_passes_2 (by decide) ?_
  have hz1 := (show (1 : Int32).toInt = 1 by decide)
  refine z_calliV (cells := 0) (slots := 0) (b := mm) (As := [.int kk, .int 1]) (rest := []) (ci := 10) (q0 := (RX10, TX10, 54)) ⟨hx, hb, hml, hown, hT⟩ (c_X10_of l hm_mm hm_dr hf_mm hf_dr hq_dr (by first | omega | decide | assumption) (by decide)) (cwV 2 hT (z_goodV (fun _ h => h) kw_1487 kw_1489 kw_51 kw_96 kw_1490) rfl rfl rfl (by decide +kernel) ⟨by decide, by decide⟩) z_mv hKK hK hw hA hm_mm hf_mm rfl rfl rfl hl.1 rfl (Nat.le_of_ble_eq_true rfl) dX10_passes_3 ⟨by decide, by decide⟩ (fun r2 u H locs hp hw => ?_)
  obtain ⟨rfl, hp⟩ := hp
  have hw : z_H D vwCl (z_A L sz) s.heap L f H locs := hw
  have hof_r2 : r2 = gdr (8 * kk.toNatClampNeg + 1) := hp
  have hh_r2 : 0 ≤ r2.toInt ∧ r2.toInt ≤ 3 := by rw [hof_r2]; exact (hq_dr _).2.1 (by omega)
  refine lv_istore (lv' := [(4, .int r2), (0, .ref mm), (1, .int kk), (2, .int pl), (3, .int ti)]) hx hb dX10_passes_6 hl (by decide) rfl (fun ls hl => ?_)
  refine lv_iload_n hx hb dX10_passes_8 rfl (lv_at hl 4 rfl) ?_
  refine lv_bipush (v := 24) hx hb dX10_passes_9 (by decide) ?_
  refine lv_idiv hx hb dX10_passes_11 (by decide) ?_
  refine lv_topi (fun w3 e_w3 => ?_)
  have i_w3 : w3.toInt = ti.toInt / 24 := z_div e_w3 rfl (show (24 : Int32).toInt = 24 by decide) (by omega)
  refine lv_istore (lv' := [(5, .int w3), (4, .int r2), (0, .ref mm), (1, .int kk), (2, .int pl), (3, .int ti)]) hx hb dX10_passes_12 hl (by decide) rfl (fun ls hl => ?_)
  refine lv_aload_n hx hb dX10_passes_14 rfl (lv_at hl 2 rfl) ?_
  refine z_get (C := RX10) (T := TX10) (N := 54) (ci := 10) (v := .ref th) hx hb hT zin_X10 hown hK hw hm_mm hf_mm rfl 33 (by decide) (hT _ kw_1201) rfl dX10_passes_15 ?_
  refine lv_bipush (v := 9) hx hb dX10_passes_18 (by decide) ?_
  refine lv_iload hx hb dX10_passes_20 (lv_at hl 1 rfl) ?_
  refine lv_imul hx hb dX10_passes_22 ?_
  refine lv_topi (fun w4 e_w4 => ?_)
  have i_w4 : w4.toInt = (9 * r2.toInt) := z_mul e_w4 (show (9 : Int32).toInt = 9 by decide) rfl (by omega)
  refine lv_iload hx hb dX10_passes_23 (lv_at hl 0 rfl) ?_
  refine lv_iadd hx hb dX10_passes_25 ?_
  refine lv_topi (fun w5 e_w5 => ?_)
  have i_w5 : w5.toInt = ((9 * r2.toInt) + (ti.toInt / 24)) := z_add e_w5 i_w4 i_w3 (by omega)
  refine lv_dup2_11 hx hb dX10_passes_26 rfl rfl ?_
  refine z_iald hx hb hK hw 1 hm_th hf_th rfl (z_ix i_w5 (by omega)) dX10_passes_27 ?_
  refine lv_topi (fun w6 e_w6 => ?_)
  refine lv_iconst (v := 1) hx hb dX10_passes_28 (by decide) ?_
  refine lv_iadd hx hb dX10_passes_29 ?_
  refine lv_topi (fun w7 e_w7 => ?_)
  refine z_iast hx hb hK hw 1 hm_th hf_th rfl (z_ix i_w5 (by omega)) dX10_passes_30 (fun H locs hw => ?_)
  obtain ⟨f9, e_f9⟩ : ∃ z, z = va_up f th (.inl (cy 1, 36, .inl (upd gth w5.toNatClampNeg w7))) := ⟨_, rfl⟩
  rw [← e_f9] at hw
  have hf_mm : f9 mm = .inr (10, [.int m0, .ref wd, .ref my, .ref ce, .ref mv, .ref ta, .int m6, .int m7, .int m8, .int m9, .int m10, .long m11, .int m12, .int m13, .int m14, .int m15, .ref li, .ref ha, .ref lw, .ref st, .ref fo, .ref dr, .int m22, .ref ik, .int m24, .int m25, .long m26, .int m27, .int m28, .ref ro, .int m30, .ref ct, .ref se, .ref th, .ref cn, .ref be, .int m36, .ref du, .int m38, .ref db, .int m40, .int m41, .int m42, .ref pn, .ref wg, .ref wh, .ref tn, .ref he, .int m48, .ref tr, .ref fd, .ref po, .int m52, .int m53]) := (congrFun e_f9 mm).trans (z_up_ne (z_tne hf_mm hf_th (m := 10) (n := 388) rfl rfl (by decide)) hf_mm)
  have hf_dr : f9 dr = .inl (cy 1, 520, .inl gdr) := (congrFun e_f9 dr).trans (z_up_ne (z_tne hf_dr hf_th (m := 4260) (n := 388) rfl rfl (by decide)) hf_dr)
  have hf_lw : f9 lw = .inl (cy 1, 25, .inl glw) := (congrFun e_f9 lw).trans (z_up_ne (z_tne hf_lw hf_th (m := 300) (n := 388) rfl rfl (by decide)) hf_lw)
  have hf_ha : f9 ha = .inl (cy 1, 30, .inl gha) := (congrFun e_f9 ha).trans (z_up_ne (z_tne hf_ha hf_th (m := 340) (n := 388) rfl rfl (by decide)) hf_ha)
  have hf_se : f9 se = .inl (cy 1, 36, .inl gse) := (congrFun e_f9 se).trans (z_up_ne (Ne.symm ne_th_se) hf_se)
  have hf_fo : f9 fo = .inl (cy 1, 180, .inl gfo) := (congrFun e_f9 fo).trans (z_up_ne (z_tne hf_fo hf_th (m := 1540) (n := 388) rfl rfl (by decide)) hf_fo)
  have hf_cn : f9 cn = .inl (cy 1, 36, .inl gcn) := (congrFun e_f9 cn).trans (z_up_ne (Ne.symm ne_th_cn) hf_cn)
  have hf_ct : f9 ct = .inl (cy 1, 4, .inl gct) := (congrFun e_f9 ct).trans (z_up_ne (z_tne hf_ct hf_th (m := 132) (n := 388) rfl rfl (by decide)) hf_ct)
  have hf_du : f9 du = .inl (cy 1, 5200, .inl gdu) := (congrFun e_f9 du).trans (z_up_ne (z_tne hf_du hf_th (m := 41700) (n := 388) rfl rfl (by decide)) hf_du)
  have hf_db : f9 db = .inl (cy 1, 5, .inl gdb) := (congrFun e_f9 db).trans (z_up_ne (z_tne hf_db hf_th (m := 140) (n := 388) rfl rfl (by decide)) hf_db)
  have hf_th : f9 th = .inl (cy 1, 36, .inl (upd gth w5.toNatClampNeg w7)) := (congrFun e_f9 th).trans z_up_self
  have hfr : ∀ b ∈ L, b ≠ mm → b ≠ th → b ≠ se → b ≠ cn → b ≠ ct → b ≠ du → b ≠ db → f9 b = f b := fun b hb h0 h1 h2 h3 h4 h5 h6 => (congrFun e_f9 b).trans (z_up_ne h1 (hfr b hb h0 h1 h2 h3 h4 h5 h6))
  obtain ⟨g8, e_g8⟩ : ∃ z, z = (upd gth w5.toNatClampNeg w7) := ⟨_, rfl⟩
  rw [← e_g8] at hf_th
  refine lv_iload_n hx hb dX10_passes_31 rfl (lv_at hl 4 rfl) ?_
  refine lv_aload_n hx hb dX10_passes_32 rfl (lv_at hl 2 rfl) ?_
  refine lv_iload_n hx hb dX10_passes_33 rfl (lv_at hl 3 rfl) ?_
  refine lv_iconst (v := 4) hx hb dX10_passes_34 (by decide) ?_
  have hz10 := (show (4 : Int32).toInt = 4 by decide)
  refine z_calliV (cells := 0) (slots := 0) (b := mm) (As := [.int kk, .int 4]) (rest := [.int pl]) (ci := 10) (q0 := (RX10, TX10, 54)) ⟨hx, hb, hml, hown, hT⟩ (c_X10_of l hm_mm hm_dr hf_mm hf_dr hq_dr (by first | omega | decide | assumption) (by decide)) (cwV 2 hT (z_goodV (fun _ h => h) kw_1487 kw_1489 kw_51 kw_96 kw_1490) rfl rfl rfl (by decide +kernel) ⟨by decide, by decide⟩) z_mv hKK hK hw hA hm_mm hf_mm rfl rfl rfl hl.1 rfl (Nat.le_of_ble_eq_true rfl) dX10_passes_35 ⟨by decide, by decide⟩ (fun r11 u H locs hp hw => ?_)
  obtain ⟨rfl, hp⟩ := hp
  have hw : z_H D vwCl (z_A L sz) s.heap L f9 H locs := hw
  have hof_r11 : r11 = gdr (8 * kk.toNatClampNeg + 4) := hp
  have hh_r11 : 0 ≤ r11.toInt ∧ r11.toInt ≤ 99 := by rw [hof_r11]; exact (hq_dr _).2.2.2.2.1 (by omega)
  refine z_icmp_lt (tgt := 63) hx hb rfl rfl dX10_passes_38 (by decide) (fun c12 => ?_) (fun c12 => ?_)
  · skip
    refine lv_aload_n hx hb dX10_passes_63 rfl (lv_at hl 2 rfl) ?_
    refine z_get (C := RX10) (T := TX10) (N := 54) (ci := 10) (v := .ref se) hx hb hT zin_X10 hown hK hw hm_mm hf_mm rfl 32 (by decide) (hT _ kw_1200) rfl dX10_passes_64 ?_
    refine lv_bipush (v := 9) hx hb dX10_passes_67 (by decide) ?_
    refine lv_iload hx hb dX10_passes_69 (lv_at hl 1 rfl) ?_
    refine lv_imul hx hb dX10_passes_71 ?_
    refine lv_topi (fun w13 e_w13 => ?_)
    have i_w13 : w13.toInt = (9 * r2.toInt) := z_mul e_w13 (show (9 : Int32).toInt = 9 by decide) rfl (by omega)
    refine lv_iload hx hb dX10_passes_72 (lv_at hl 0 rfl) ?_
    refine lv_iadd hx hb dX10_passes_74 ?_
    refine lv_topi (fun w14 e_w14 => ?_)
    have i_w14 : w14.toInt = ((9 * r2.toInt) + (ti.toInt / 24)) := z_add e_w14 i_w13 i_w3 (by omega)
    refine lv_dup2_11 hx hb dX10_passes_75 rfl rfl ?_
    refine z_iald hx hb hK hw 1 hm_se hf_se rfl (z_ix i_w14 (by omega)) dX10_passes_76 ?_
    refine lv_topi (fun w15 e_w15 => ?_)
    refine lv_iconst (v := 1) hx hb dX10_passes_77 (by decide) ?_
    refine lv_iadd hx hb dX10_passes_78 ?_
    refine lv_topi (fun w16 e_w16 => ?_)
    refine z_iast hx hb hK hw 1 hm_se hf_se rfl (z_ix i_w14 (by omega)) dX10_passes_79 (fun H locs hw => ?_)
    obtain ⟨f18, e_f18⟩ : ∃ z, z = va_up f9 se (.inl (cy 1, 36, .inl (upd gse w14.toNatClampNeg w16))) := ⟨_, rfl⟩
    rw [← e_f18] at hw
    have hf_mm : f18 mm = .inr (10, [.int m0, .ref wd, .ref my, .ref ce, .ref mv, .ref ta, .int m6, .int m7, .int m8, .int m9, .int m10, .long m11, .int m12, .int m13, .int m14, .int m15, .ref li, .ref ha, .ref lw, .ref st, .ref fo, .ref dr, .int m22, .ref ik, .int m24, .int m25, .long m26, .int m27, .int m28, .ref ro, .int m30, .ref ct, .ref se, .ref th, .ref cn, .ref be, .int m36, .ref du, .int m38, .ref db, .int m40, .int m41, .int m42, .ref pn, .ref wg, .ref wh, .ref tn, .ref he, .int m48, .ref tr, .ref fd, .ref po, .int m52, .int m53]) := (congrFun e_f18 mm).trans (z_up_ne (z_tne hf_mm hf_se (m := 10) (n := 388) rfl rfl (by decide)) hf_mm)
    have hf_dr : f18 dr = .inl (cy 1, 520, .inl gdr) := (congrFun e_f18 dr).trans (z_up_ne (z_tne hf_dr hf_se (m := 4260) (n := 388) rfl rfl (by decide)) hf_dr)
    have hf_lw : f18 lw = .inl (cy 1, 25, .inl glw) := (congrFun e_f18 lw).trans (z_up_ne (z_tne hf_lw hf_se (m := 300) (n := 388) rfl rfl (by decide)) hf_lw)
    have hf_ha : f18 ha = .inl (cy 1, 30, .inl gha) := (congrFun e_f18 ha).trans (z_up_ne (z_tne hf_ha hf_se (m := 340) (n := 388) rfl rfl (by decide)) hf_ha)
    have hf_th : f18 th = .inl (cy 1, 36, .inl g8) := (congrFun e_f18 th).trans (z_up_ne ne_th_se hf_th)
    have hf_fo : f18 fo = .inl (cy 1, 180, .inl gfo) := (congrFun e_f18 fo).trans (z_up_ne (z_tne hf_fo hf_se (m := 1540) (n := 388) rfl rfl (by decide)) hf_fo)
    have hf_cn : f18 cn = .inl (cy 1, 36, .inl gcn) := (congrFun e_f18 cn).trans (z_up_ne (Ne.symm ne_se_cn) hf_cn)
    have hf_ct : f18 ct = .inl (cy 1, 4, .inl gct) := (congrFun e_f18 ct).trans (z_up_ne (z_tne hf_ct hf_se (m := 132) (n := 388) rfl rfl (by decide)) hf_ct)
    have hf_du : f18 du = .inl (cy 1, 5200, .inl gdu) := (congrFun e_f18 du).trans (z_up_ne (z_tne hf_du hf_se (m := 41700) (n := 388) rfl rfl (by decide)) hf_du)
    have hf_db : f18 db = .inl (cy 1, 5, .inl gdb) := (congrFun e_f18 db).trans (z_up_ne (z_tne hf_db hf_se (m := 140) (n := 388) rfl rfl (by decide)) hf_db)
    have hf_se : f18 se = .inl (cy 1, 36, .inl (upd gse w14.toNatClampNeg w16)) := (congrFun e_f18 se).trans z_up_self
    have hfr : ∀ b ∈ L, b ≠ mm → b ≠ th → b ≠ se → b ≠ cn → b ≠ ct → b ≠ du → b ≠ db → f18 b = f b := fun b hb h0 h1 h2 h3 h4 h5 h6 => (congrFun e_f18 b).trans (z_up_ne h2 (hfr b hb h0 h1 h2 h3 h4 h5 h6))
    obtain ⟨g17, e_g17⟩ : ∃ z, z = (upd gse w14.toNatClampNeg w16) := ⟨_, rfl⟩
    rw [← e_g17] at hf_se
    refine lv_aload_n hx hb dX10_passes_80 rfl (lv_at hl 2 rfl) ?_
    refine z_get (C := RX10) (T := TX10) (N := 54) (ci := 10) (v := .ref fo) hx hb hT zin_X10 hown hK hw hm_mm hf_mm rfl 20 (by decide) (hT _ kw_1188) rfl dX10_passes_81 ?_
    refine lv_bipush (v := 9) hx hb dX10_passes_84 (by decide) ?_
    refine lv_iload hx hb dX10_passes_86 (lv_at hl 1 rfl) ?_
    refine lv_imul hx hb dX10_passes_88 ?_
    refine lv_topi (fun w19 e_w19 => ?_)
    have i_w19 : w19.toInt = (9 * r2.toInt) := z_mul e_w19 (show (9 : Int32).toInt = 9 by decide) rfl (by omega)
    refine lv_iload hx hb dX10_passes_89 (lv_at hl 0 rfl) ?_
    refine lv_iadd hx hb dX10_passes_91 ?_
    refine lv_topi (fun w20 e_w20 => ?_)
    have i_w20 : w20.toInt = ((9 * r2.toInt) + (ti.toInt / 24)) := z_add e_w20 i_w19 i_w3 (by omega)
    refine z_iald hx hb hK hw 1 hm_fo hf_fo rfl (z_ix i_w20 (by omega)) dX10_passes_92 ?_
    refine lv_topi (fun w21 e_w21 => ?_)
    refine z_if_le (tgt := 127) hx hb rfl dX10_passes_93 (by decide) (fun c22 => ?_) (fun c22 => ?_)
    · skip
      refine lv_aload_n hx hb dX10_passes_127 rfl (lv_at hl 2 rfl) ?_
      refine z_get (C := RX10) (T := TX10) (N := 54) (ci := 10) (v := .ref cn) hx hb hT zin_X10 hown hK hw hm_mm hf_mm rfl 34 (by decide) (hT _ kw_1202) rfl dX10_passes_128 ?_
      refine lv_bipush (v := 9) hx hb dX10_passes_131 (by decide) ?_
      refine lv_iload hx hb dX10_passes_133 (lv_at hl 1 rfl) ?_
      refine lv_imul hx hb dX10_passes_135 ?_
      refine lv_topi (fun w23 e_w23 => ?_)
      have i_w23 : w23.toInt = (9 * r2.toInt) := z_mul e_w23 (show (9 : Int32).toInt = 9 by decide) rfl (by omega)
      refine lv_iload hx hb dX10_passes_136 (lv_at hl 0 rfl) ?_
      refine lv_iadd hx hb dX10_passes_138 ?_
      refine lv_topi (fun w24 e_w24 => ?_)
      have i_w24 : w24.toInt = ((9 * r2.toInt) + (ti.toInt / 24)) := z_add e_w24 i_w23 i_w3 (by omega)
      refine lv_dup2_11 hx hb dX10_passes_139 rfl rfl ?_
      refine z_iald hx hb hK hw 1 hm_cn hf_cn rfl (z_ix i_w24 (by omega)) dX10_passes_140 ?_
      refine lv_topi (fun w25 e_w25 => ?_)
      refine lv_iconst (v := 1) hx hb dX10_passes_141 (by decide) ?_
      refine lv_iadd hx hb dX10_passes_142 ?_
      refine lv_topi (fun w26 e_w26 => ?_)
      refine z_iast hx hb hK hw 1 hm_cn hf_cn rfl (z_ix i_w24 (by omega)) dX10_passes_143 (fun H locs hw => ?_)
      obtain ⟨f28, e_f28⟩ : ∃ z, z = va_up f18 cn (.inl (cy 1, 36, .inl (upd gcn w24.toNatClampNeg w26))) := ⟨_, rfl⟩
      rw [← e_f28] at hw
      have hf_mm : f28 mm = .inr (10, [.int m0, .ref wd, .ref my, .ref ce, .ref mv, .ref ta, .int m6, .int m7, .int m8, .int m9, .int m10, .long m11, .int m12, .int m13, .int m14, .int m15, .ref li, .ref ha, .ref lw, .ref st, .ref fo, .ref dr, .int m22, .ref ik, .int m24, .int m25, .long m26, .int m27, .int m28, .ref ro, .int m30, .ref ct, .ref se, .ref th, .ref cn, .ref be, .int m36, .ref du, .int m38, .ref db, .int m40, .int m41, .int m42, .ref pn, .ref wg, .ref wh, .ref tn, .ref he, .int m48, .ref tr, .ref fd, .ref po, .int m52, .int m53]) := (congrFun e_f28 mm).trans (z_up_ne (z_tne hf_mm hf_cn (m := 10) (n := 388) rfl rfl (by decide)) hf_mm)
      have hf_dr : f28 dr = .inl (cy 1, 520, .inl gdr) := (congrFun e_f28 dr).trans (z_up_ne (z_tne hf_dr hf_cn (m := 4260) (n := 388) rfl rfl (by decide)) hf_dr)
      have hf_lw : f28 lw = .inl (cy 1, 25, .inl glw) := (congrFun e_f28 lw).trans (z_up_ne (z_tne hf_lw hf_cn (m := 300) (n := 388) rfl rfl (by decide)) hf_lw)
      have hf_ha : f28 ha = .inl (cy 1, 30, .inl gha) := (congrFun e_f28 ha).trans (z_up_ne (z_tne hf_ha hf_cn (m := 340) (n := 388) rfl rfl (by decide)) hf_ha)
      have hf_th : f28 th = .inl (cy 1, 36, .inl g8) := (congrFun e_f28 th).trans (z_up_ne ne_th_cn hf_th)
      have hf_se : f28 se = .inl (cy 1, 36, .inl g17) := (congrFun e_f28 se).trans (z_up_ne ne_se_cn hf_se)
      have hf_fo : f28 fo = .inl (cy 1, 180, .inl gfo) := (congrFun e_f28 fo).trans (z_up_ne (z_tne hf_fo hf_cn (m := 1540) (n := 388) rfl rfl (by decide)) hf_fo)
      have hf_ct : f28 ct = .inl (cy 1, 4, .inl gct) := (congrFun e_f28 ct).trans (z_up_ne (z_tne hf_ct hf_cn (m := 132) (n := 388) rfl rfl (by decide)) hf_ct)
      have hf_du : f28 du = .inl (cy 1, 5200, .inl gdu) := (congrFun e_f28 du).trans (z_up_ne (z_tne hf_du hf_cn (m := 41700) (n := 388) rfl rfl (by decide)) hf_du)
      have hf_db : f28 db = .inl (cy 1, 5, .inl gdb) := (congrFun e_f28 db).trans (z_up_ne (z_tne hf_db hf_cn (m := 140) (n := 388) rfl rfl (by decide)) hf_db)
      have hf_cn : f28 cn = .inl (cy 1, 36, .inl (upd gcn w24.toNatClampNeg w26)) := (congrFun e_f28 cn).trans z_up_self
      have hfr : ∀ b ∈ L, b ≠ mm → b ≠ th → b ≠ se → b ≠ cn → b ≠ ct → b ≠ du → b ≠ db → f28 b = f b := fun b hb h0 h1 h2 h3 h4 h5 h6 => (congrFun e_f28 b).trans (z_up_ne h3 (hfr b hb h0 h1 h2 h3 h4 h5 h6))
      obtain ⟨g27, e_g27⟩ : ∃ z, z = (upd gcn w24.toNatClampNeg w26) := ⟨_, rfl⟩
      rw [← e_g27] at hf_cn
      refine lv_aload_n hx hb dX10_passes_144 rfl (lv_at hl 2 rfl) ?_
      refine lv_iload hx hb dX10_passes_145 (lv_at hl 1 rfl) ?_
      refine z_calliV (cells := 0) (slots := 0) (b := mm) (As := [.int r2]) (rest := []) (ci := 10) (q0 := (RX10, TX10, 54)) ⟨hx, hb, hml, hown, hT⟩ (c_X10_counterOf l hm_mm hm_lw hf_mm hf_lw hq_lw (by first | omega | decide | assumption)) (cwV 1 hT (z_goodV (fun _ h => h) kw_1579 kw_1581 kw_67 kw_96 kw_1582) rfl rfl rfl (by decide +kernel) ⟨by decide, by decide⟩) z_mv hKK hK hw hA hm_mm hf_mm rfl rfl rfl hl.1 rfl (Nat.le_of_ble_eq_true rfl) dX10_passes_147 ⟨by decide, by decide⟩ (fun r29 u H locs hp hw => ?_)
      obtain ⟨rfl, hp⟩ := hp
      have hw : z_H D vwCl (z_A L sz) s.heap L f28 H locs := hw
      have hq30 := hp
      refine lv_istore (lv' := [(6, .int r29), (5, .int w3), (4, .int r2), (0, .ref mm), (1, .int kk), (2, .int pl), (3, .int ti)]) hx hb dX10_passes_150 hl (by decide) rfl (fun ls hl => ?_)
      refine lv_aload_n hx hb dX10_passes_152 rfl (lv_at hl 3 rfl) ?_
      refine z_get (C := RX10) (T := TX10) (N := 54) (ci := 10) (v := .ref ct) hx hb hT zin_X10 hown hK hw hm_mm hf_mm rfl 31 (by decide) (hT _ kw_1199) rfl dX10_passes_153 ?_
      refine lv_iload hx hb dX10_passes_156 (lv_at hl 0 rfl) ?_
      refine lv_dup2_11 hx hb dX10_passes_158 rfl rfl ?_
      refine z_iald hx hb hK hw 1 hm_ct hf_ct rfl (z_ix rfl (by omega)) dX10_passes_159 ?_
      refine lv_topi (fun w31 e_w31 => ?_)
      have hv_w31 : 0 ≤ w31.toInt ∧ w31.toInt ≤ 999 := by rw [e_w31]; exact hq_ct _
      have hc0_ : w31.toInt = (gct r29.toNatClampNeg).toInt := by rw [e_w31]
      refine lv_iconst (v := 1) hx hb dX10_passes_160 (by decide) ?_
      refine lv_iadd hx hb dX10_passes_161 ?_
      refine lv_topi (fun w32 e_w32 => ?_)
      have i_w32 : w32.toInt = (w31.toInt + 1) := z_add e_w32 rfl (show (1 : Int32).toInt = 1 by decide) (by omega)
      refine z_iast hx hb hK hw 1 hm_ct hf_ct rfl (z_ix rfl (by omega)) dX10_passes_162 (fun H locs hw => ?_)
      obtain ⟨f34, e_f34⟩ : ∃ z, z = va_up f28 ct (.inl (cy 1, 4, .inl (upd gct r29.toNatClampNeg w32))) := ⟨_, rfl⟩
      rw [← e_f34] at hw
      have hf_mm : f34 mm = .inr (10, [.int m0, .ref wd, .ref my, .ref ce, .ref mv, .ref ta, .int m6, .int m7, .int m8, .int m9, .int m10, .long m11, .int m12, .int m13, .int m14, .int m15, .ref li, .ref ha, .ref lw, .ref st, .ref fo, .ref dr, .int m22, .ref ik, .int m24, .int m25, .long m26, .int m27, .int m28, .ref ro, .int m30, .ref ct, .ref se, .ref th, .ref cn, .ref be, .int m36, .ref du, .int m38, .ref db, .int m40, .int m41, .int m42, .ref pn, .ref wg, .ref wh, .ref tn, .ref he, .int m48, .ref tr, .ref fd, .ref po, .int m52, .int m53]) := (congrFun e_f34 mm).trans (z_up_ne (z_tne hf_mm hf_ct (m := 10) (n := 132) rfl rfl (by decide)) hf_mm)
      have hf_dr : f34 dr = .inl (cy 1, 520, .inl gdr) := (congrFun e_f34 dr).trans (z_up_ne (z_tne hf_dr hf_ct (m := 4260) (n := 132) rfl rfl (by decide)) hf_dr)
      have hf_lw : f34 lw = .inl (cy 1, 25, .inl glw) := (congrFun e_f34 lw).trans (z_up_ne (z_tne hf_lw hf_ct (m := 300) (n := 132) rfl rfl (by decide)) hf_lw)
      have hf_ha : f34 ha = .inl (cy 1, 30, .inl gha) := (congrFun e_f34 ha).trans (z_up_ne (z_tne hf_ha hf_ct (m := 340) (n := 132) rfl rfl (by decide)) hf_ha)
      have hf_th : f34 th = .inl (cy 1, 36, .inl g8) := (congrFun e_f34 th).trans (z_up_ne (z_tne hf_th hf_ct (m := 388) (n := 132) rfl rfl (by decide)) hf_th)
      have hf_se : f34 se = .inl (cy 1, 36, .inl g17) := (congrFun e_f34 se).trans (z_up_ne (z_tne hf_se hf_ct (m := 388) (n := 132) rfl rfl (by decide)) hf_se)
      have hf_fo : f34 fo = .inl (cy 1, 180, .inl gfo) := (congrFun e_f34 fo).trans (z_up_ne (z_tne hf_fo hf_ct (m := 1540) (n := 132) rfl rfl (by decide)) hf_fo)
      have hf_cn : f34 cn = .inl (cy 1, 36, .inl g27) := (congrFun e_f34 cn).trans (z_up_ne (z_tne hf_cn hf_ct (m := 388) (n := 132) rfl rfl (by decide)) hf_cn)
      have hf_du : f34 du = .inl (cy 1, 5200, .inl gdu) := (congrFun e_f34 du).trans (z_up_ne (z_tne hf_du hf_ct (m := 41700) (n := 132) rfl rfl (by decide)) hf_du)
      have hf_db : f34 db = .inl (cy 1, 5, .inl gdb) := (congrFun e_f34 db).trans (z_up_ne (z_tne hf_db hf_ct (m := 140) (n := 132) rfl rfl (by decide)) hf_db)
      have hf_ct : f34 ct = .inl (cy 1, 4, .inl (upd gct r29.toNatClampNeg w32)) := (congrFun e_f34 ct).trans z_up_self
      have hfr : ∀ b ∈ L, b ≠ mm → b ≠ th → b ≠ se → b ≠ cn → b ≠ ct → b ≠ du → b ≠ db → f34 b = f b := fun b hb h0 h1 h2 h3 h4 h5 h6 => (congrFun e_f34 b).trans (z_up_ne h4 (hfr b hb h0 h1 h2 h3 h4 h5 h6))
      obtain ⟨g33, e_g33⟩ : ∃ z, z = (upd gct r29.toNatClampNeg w32) := ⟨_, rfl⟩
      rw [← e_g33] at hf_ct
      refine lv_aload_n hx hb dX10_passes_163 rfl (lv_at hl 3 rfl) ?_
      refine z_get (C := RX10) (T := TX10) (N := 54) (ci := 10) (v := .ref ct) hx hb hT zin_X10 hown hK hw hm_mm hf_mm rfl 31 (by decide) (hT _ kw_1199) rfl dX10_passes_164 ?_
      refine lv_iload hx hb dX10_passes_167 (lv_at hl 0 rfl) ?_
      refine z_iald hx hb hK hw 1 hm_ct hf_ct rfl (z_ix rfl (by omega)) dX10_passes_169 ?_
      refine lv_topi (fun w35 e_w35 => ?_)
      have hc1_ : w35.toInt = w32.toInt := by rw [e_w35, show g33 r29.toNatClampNeg = w32 from z_upd_at e_g33]
      have hph1 := z_ph_inc e_g33 (by omega)
      refine lv_aload_n hx hb dX10_passes_170 rfl (lv_at hl 3 rfl) ?_
      refine z_get (C := RX10) (T := TX10) (N := 54) (ci := 10) (v := .ref lw) hx hb hT zin_X10 hown hK hw hm_mm hf_mm rfl 18 (by decide) (hT _ kw_1186) rfl dX10_passes_171 ?_
      refine lv_iconst (v := 3) hx hb dX10_passes_174 (by decide) ?_
      refine z_iald hx hb hK hw 1 hm_lw hf_lw rfl (z_ix (show (3 : Int32).toInt = 3 by decide) (by decide)) dX10_passes_175 ?_
      refine lv_topi (fun w36 e_w36 => ?_)
      have hv_w36 : 0 ≤ w36.toInt ∧ w36.toInt ≤ 999 := by rw [e_w36]; exact hq_lw _
      have he3_ : w36.toInt = (glw 3).toInt := by rw [e_w36]; rfl
      refine z_icmp_ge (tgt := 180) hx hb rfl rfl dX10_passes_176 (by decide) (fun c37 => ?_) (fun c37 => ?_)
      · skip
        refine lv_aload_n hx hb dX10_passes_180 rfl (lv_at hl 3 rfl) ?_
        refine z_get (C := RX10) (T := TX10) (N := 54) (ci := 10) (v := .ref ct) hx hb hT zin_X10 hown hK hw hm_mm hf_mm rfl 31 (by decide) (hT _ kw_1199) rfl dX10_passes_181 ?_
        refine lv_iload hx hb dX10_passes_184 (lv_at hl 0 rfl) ?_
        refine lv_iconst (v := 0) hx hb dX10_passes_186 (by decide) ?_
        refine z_iast hx hb hK hw 1 hm_ct hf_ct rfl (z_ix rfl (by omega)) dX10_passes_187 (fun H locs hw => ?_)
        obtain ⟨f39, e_f39⟩ : ∃ z, z = va_up f34 ct (.inl (cy 1, 4, .inl (upd g33 r29.toNatClampNeg 0))) := ⟨_, rfl⟩
        rw [← e_f39] at hw
        have hf_mm : f39 mm = .inr (10, [.int m0, .ref wd, .ref my, .ref ce, .ref mv, .ref ta, .int m6, .int m7, .int m8, .int m9, .int m10, .long m11, .int m12, .int m13, .int m14, .int m15, .ref li, .ref ha, .ref lw, .ref st, .ref fo, .ref dr, .int m22, .ref ik, .int m24, .int m25, .long m26, .int m27, .int m28, .ref ro, .int m30, .ref ct, .ref se, .ref th, .ref cn, .ref be, .int m36, .ref du, .int m38, .ref db, .int m40, .int m41, .int m42, .ref pn, .ref wg, .ref wh, .ref tn, .ref he, .int m48, .ref tr, .ref fd, .ref po, .int m52, .int m53]) := (congrFun e_f39 mm).trans (z_up_ne (z_tne hf_mm hf_ct (m := 10) (n := 132) rfl rfl (by decide)) hf_mm)
        have hf_dr : f39 dr = .inl (cy 1, 520, .inl gdr) := (congrFun e_f39 dr).trans (z_up_ne (z_tne hf_dr hf_ct (m := 4260) (n := 132) rfl rfl (by decide)) hf_dr)
        have hf_lw : f39 lw = .inl (cy 1, 25, .inl glw) := (congrFun e_f39 lw).trans (z_up_ne (z_tne hf_lw hf_ct (m := 300) (n := 132) rfl rfl (by decide)) hf_lw)
        have hf_ha : f39 ha = .inl (cy 1, 30, .inl gha) := (congrFun e_f39 ha).trans (z_up_ne (z_tne hf_ha hf_ct (m := 340) (n := 132) rfl rfl (by decide)) hf_ha)
        have hf_th : f39 th = .inl (cy 1, 36, .inl g8) := (congrFun e_f39 th).trans (z_up_ne (z_tne hf_th hf_ct (m := 388) (n := 132) rfl rfl (by decide)) hf_th)
        have hf_se : f39 se = .inl (cy 1, 36, .inl g17) := (congrFun e_f39 se).trans (z_up_ne (z_tne hf_se hf_ct (m := 388) (n := 132) rfl rfl (by decide)) hf_se)
        have hf_fo : f39 fo = .inl (cy 1, 180, .inl gfo) := (congrFun e_f39 fo).trans (z_up_ne (z_tne hf_fo hf_ct (m := 1540) (n := 132) rfl rfl (by decide)) hf_fo)
        have hf_cn : f39 cn = .inl (cy 1, 36, .inl g27) := (congrFun e_f39 cn).trans (z_up_ne (z_tne hf_cn hf_ct (m := 388) (n := 132) rfl rfl (by decide)) hf_cn)
        have hf_du : f39 du = .inl (cy 1, 5200, .inl gdu) := (congrFun e_f39 du).trans (z_up_ne (z_tne hf_du hf_ct (m := 41700) (n := 132) rfl rfl (by decide)) hf_du)
        have hf_db : f39 db = .inl (cy 1, 5, .inl gdb) := (congrFun e_f39 db).trans (z_up_ne (z_tne hf_db hf_ct (m := 140) (n := 132) rfl rfl (by decide)) hf_db)
        have hf_ct : f39 ct = .inl (cy 1, 4, .inl (upd g33 r29.toNatClampNeg 0)) := (congrFun e_f39 ct).trans z_up_self
        have hfr : ∀ b ∈ L, b ≠ mm → b ≠ th → b ≠ se → b ≠ cn → b ≠ ct → b ≠ du → b ≠ db → f39 b = f b := fun b hb h0 h1 h2 h3 h4 h5 h6 => (congrFun e_f39 b).trans (z_up_ne h4 (hfr b hb h0 h1 h2 h3 h4 h5 h6))
        obtain ⟨g38, e_g38⟩ : ∃ z, z = (upd g33 r29.toNatClampNeg 0) := ⟨_, rfl⟩
        rw [← e_g38] at hf_ct
        have hq_ct : ∀ j : Nat, q_law j (g38 j) := z_updQ2 hq_ct e_g33 e_g38 (show 0 ≤ (0 : Int32).toInt ∧ (0 : Int32).toInt ≤ 999 by decide)
        have hph2 := z_ph_due e_g33 e_g38 (by omega) (by omega) (by omega)
        refine lv_aload_n hx hb dX10_passes_188 rfl (lv_at hl 3 rfl) ?_
        refine z_get (C := RX10) (T := TX10) (N := 54) (ci := 10) (v := .ref du) hx hb hT zin_X10 hown hK hw hm_mm hf_mm rfl 37 (by decide) (hT _ kw_1205) rfl dX10_passes_189 ?_
        refine lv_iconst (v := 4) hx hb dX10_passes_192 (by decide) ?_
        refine lv_aload_n hx hb dX10_passes_193 rfl (lv_at hl 3 rfl) ?_
        refine z_get (C := RX10) (T := TX10) (N := 54) (ci := 10) (v := .int m38) hx hb hT zin_X10 hown hK hw hm_mm hf_mm rfl 38 (by decide) (hT _ kw_1206) rfl dX10_passes_194 ?_
        refine lv_imul hx hb dX10_passes_197 ?_
        refine lv_topi (fun w40 e_w40 => ?_)
        have i_w40 : w40.toInt = (4 * m38.toInt) := z_mul e_w40 (show (4 : Int32).toInt = 4 by decide) rfl (by omega)
        refine lv_iload_n hx hb dX10_passes_198 rfl (lv_at hl 6 rfl) ?_
        refine z_iast hx hb hK hw 1 hm_du hf_du rfl (z_ix i_w40 (by omega)) dX10_passes_199 (fun H locs hw => ?_)
        obtain ⟨f42, e_f42⟩ : ∃ z, z = va_up f39 du (.inl (cy 1, 5200, .inl (upd gdu w40.toNatClampNeg ti))) := ⟨_, rfl⟩
        rw [← e_f42] at hw
        have hf_mm : f42 mm = .inr (10, [.int m0, .ref wd, .ref my, .ref ce, .ref mv, .ref ta, .int m6, .int m7, .int m8, .int m9, .int m10, .long m11, .int m12, .int m13, .int m14, .int m15, .ref li, .ref ha, .ref lw, .ref st, .ref fo, .ref dr, .int m22, .ref ik, .int m24, .int m25, .long m26, .int m27, .int m28, .ref ro, .int m30, .ref ct, .ref se, .ref th, .ref cn, .ref be, .int m36, .ref du, .int m38, .ref db, .int m40, .int m41, .int m42, .ref pn, .ref wg, .ref wh, .ref tn, .ref he, .int m48, .ref tr, .ref fd, .ref po, .int m52, .int m53]) := (congrFun e_f42 mm).trans (z_up_ne (z_tne hf_mm hf_du (m := 10) (n := 41700) rfl rfl (by decide)) hf_mm)
        have hf_dr : f42 dr = .inl (cy 1, 520, .inl gdr) := (congrFun e_f42 dr).trans (z_up_ne (z_tne hf_dr hf_du (m := 4260) (n := 41700) rfl rfl (by decide)) hf_dr)
        have hf_lw : f42 lw = .inl (cy 1, 25, .inl glw) := (congrFun e_f42 lw).trans (z_up_ne (z_tne hf_lw hf_du (m := 300) (n := 41700) rfl rfl (by decide)) hf_lw)
        have hf_ha : f42 ha = .inl (cy 1, 30, .inl gha) := (congrFun e_f42 ha).trans (z_up_ne (z_tne hf_ha hf_du (m := 340) (n := 41700) rfl rfl (by decide)) hf_ha)
        have hf_th : f42 th = .inl (cy 1, 36, .inl g8) := (congrFun e_f42 th).trans (z_up_ne (z_tne hf_th hf_du (m := 388) (n := 41700) rfl rfl (by decide)) hf_th)
        have hf_se : f42 se = .inl (cy 1, 36, .inl g17) := (congrFun e_f42 se).trans (z_up_ne (z_tne hf_se hf_du (m := 388) (n := 41700) rfl rfl (by decide)) hf_se)
        have hf_fo : f42 fo = .inl (cy 1, 180, .inl gfo) := (congrFun e_f42 fo).trans (z_up_ne (z_tne hf_fo hf_du (m := 1540) (n := 41700) rfl rfl (by decide)) hf_fo)
        have hf_cn : f42 cn = .inl (cy 1, 36, .inl g27) := (congrFun e_f42 cn).trans (z_up_ne (z_tne hf_cn hf_du (m := 388) (n := 41700) rfl rfl (by decide)) hf_cn)
        have hf_ct : f42 ct = .inl (cy 1, 4, .inl g38) := (congrFun e_f42 ct).trans (z_up_ne (z_tne hf_ct hf_du (m := 132) (n := 41700) rfl rfl (by decide)) hf_ct)
        have hf_db : f42 db = .inl (cy 1, 5, .inl gdb) := (congrFun e_f42 db).trans (z_up_ne (z_tne hf_db hf_du (m := 140) (n := 41700) rfl rfl (by decide)) hf_db)
        have hf_du : f42 du = .inl (cy 1, 5200, .inl (upd gdu w40.toNatClampNeg ti)) := (congrFun e_f42 du).trans z_up_self
        have hfr : ∀ b ∈ L, b ≠ mm → b ≠ th → b ≠ se → b ≠ cn → b ≠ ct → b ≠ du → b ≠ db → f42 b = f b := fun b hb h0 h1 h2 h3 h4 h5 h6 => (congrFun e_f42 b).trans (z_up_ne h5 (hfr b hb h0 h1 h2 h3 h4 h5 h6))
        obtain ⟨g41, e_g41⟩ : ∃ z, z = (upd gdu w40.toNatClampNeg ti) := ⟨_, rfl⟩
        rw [← e_g41] at hf_du
        have hq_du : ∀ j : Nat, q_du j (g41 j) := z_updQ hq_du e_g41 (show q_du _ _ from fun h => absurd h (z_nmod4 i_w40 (k := 0) (by omega) (by decide)))
        refine lv_aload_n hx hb dX10_passes_200 rfl (lv_at hl 3 rfl) ?_
        refine z_get (C := RX10) (T := TX10) (N := 54) (ci := 10) (v := .ref du) hx hb hT zin_X10 hown hK hw hm_mm hf_mm rfl 37 (by decide) (hT _ kw_1205) rfl dX10_passes_201 ?_
        refine lv_iconst (v := 4) hx hb dX10_passes_204 (by decide) ?_
        refine lv_aload_n hx hb dX10_passes_205 rfl (lv_at hl 3 rfl) ?_
        refine z_get (C := RX10) (T := TX10) (N := 54) (ci := 10) (v := .int m38) hx hb hT zin_X10 hown hK hw hm_mm hf_mm rfl 38 (by decide) (hT _ kw_1206) rfl dX10_passes_206 ?_
        refine lv_imul hx hb dX10_passes_209 ?_
        refine lv_topi (fun w43 e_w43 => ?_)
        have i_w43 : w43.toInt = (4 * m38.toInt) := z_mul e_w43 (show (4 : Int32).toInt = 4 by decide) rfl (by omega)
        refine lv_iconst (v := 1) hx hb dX10_passes_210 (by decide) ?_
        refine lv_iadd hx hb dX10_passes_211 ?_
        refine lv_topi (fun w44 e_w44 => ?_)
        have i_w44 : w44.toInt = ((4 * m38.toInt) + 1) := z_add e_w44 i_w43 (show (1 : Int32).toInt = 1 by decide) (by omega)
        refine lv_iload hx hb dX10_passes_212 (lv_at hl 2 rfl) ?_
        refine z_iast hx hb hK hw 1 hm_du hf_du rfl (z_ix i_w44 (by omega)) dX10_passes_214 (fun H locs hw => ?_)
        obtain ⟨f46, e_f46⟩ : ∃ z, z = va_up f42 du (.inl (cy 1, 5200, .inl (upd g41 w44.toNatClampNeg r2))) := ⟨_, rfl⟩
        rw [← e_f46] at hw
        have hf_mm : f46 mm = .inr (10, [.int m0, .ref wd, .ref my, .ref ce, .ref mv, .ref ta, .int m6, .int m7, .int m8, .int m9, .int m10, .long m11, .int m12, .int m13, .int m14, .int m15, .ref li, .ref ha, .ref lw, .ref st, .ref fo, .ref dr, .int m22, .ref ik, .int m24, .int m25, .long m26, .int m27, .int m28, .ref ro, .int m30, .ref ct, .ref se, .ref th, .ref cn, .ref be, .int m36, .ref du, .int m38, .ref db, .int m40, .int m41, .int m42, .ref pn, .ref wg, .ref wh, .ref tn, .ref he, .int m48, .ref tr, .ref fd, .ref po, .int m52, .int m53]) := (congrFun e_f46 mm).trans (z_up_ne (z_tne hf_mm hf_du (m := 10) (n := 41700) rfl rfl (by decide)) hf_mm)
        have hf_dr : f46 dr = .inl (cy 1, 520, .inl gdr) := (congrFun e_f46 dr).trans (z_up_ne (z_tne hf_dr hf_du (m := 4260) (n := 41700) rfl rfl (by decide)) hf_dr)
        have hf_lw : f46 lw = .inl (cy 1, 25, .inl glw) := (congrFun e_f46 lw).trans (z_up_ne (z_tne hf_lw hf_du (m := 300) (n := 41700) rfl rfl (by decide)) hf_lw)
        have hf_ha : f46 ha = .inl (cy 1, 30, .inl gha) := (congrFun e_f46 ha).trans (z_up_ne (z_tne hf_ha hf_du (m := 340) (n := 41700) rfl rfl (by decide)) hf_ha)
        have hf_th : f46 th = .inl (cy 1, 36, .inl g8) := (congrFun e_f46 th).trans (z_up_ne (z_tne hf_th hf_du (m := 388) (n := 41700) rfl rfl (by decide)) hf_th)
        have hf_se : f46 se = .inl (cy 1, 36, .inl g17) := (congrFun e_f46 se).trans (z_up_ne (z_tne hf_se hf_du (m := 388) (n := 41700) rfl rfl (by decide)) hf_se)
        have hf_fo : f46 fo = .inl (cy 1, 180, .inl gfo) := (congrFun e_f46 fo).trans (z_up_ne (z_tne hf_fo hf_du (m := 1540) (n := 41700) rfl rfl (by decide)) hf_fo)
        have hf_cn : f46 cn = .inl (cy 1, 36, .inl g27) := (congrFun e_f46 cn).trans (z_up_ne (z_tne hf_cn hf_du (m := 388) (n := 41700) rfl rfl (by decide)) hf_cn)
        have hf_ct : f46 ct = .inl (cy 1, 4, .inl g38) := (congrFun e_f46 ct).trans (z_up_ne (z_tne hf_ct hf_du (m := 132) (n := 41700) rfl rfl (by decide)) hf_ct)
        have hf_db : f46 db = .inl (cy 1, 5, .inl gdb) := (congrFun e_f46 db).trans (z_up_ne (z_tne hf_db hf_du (m := 140) (n := 41700) rfl rfl (by decide)) hf_db)
        have hf_du : f46 du = .inl (cy 1, 5200, .inl (upd g41 w44.toNatClampNeg r2)) := (congrFun e_f46 du).trans z_up_self
        have hfr : ∀ b ∈ L, b ≠ mm → b ≠ th → b ≠ se → b ≠ cn → b ≠ ct → b ≠ du → b ≠ db → f46 b = f b := fun b hb h0 h1 h2 h3 h4 h5 h6 => (congrFun e_f46 b).trans (z_up_ne h5 (hfr b hb h0 h1 h2 h3 h4 h5 h6))
        obtain ⟨g45, e_g45⟩ : ∃ z, z = (upd g41 w44.toNatClampNeg r2) := ⟨_, rfl⟩
        rw [← e_g45] at hf_du
        have hq_du : ∀ j : Nat, q_du j (g45 j) := z_updQ hq_du e_g45 (show q_du _ _ from fun h => absurd h (z_nmod4 i_w44 (k := 1) (by omega) (by decide)))
        refine lv_aload_n hx hb dX10_passes_215 rfl (lv_at hl 3 rfl) ?_
        refine z_get (C := RX10) (T := TX10) (N := 54) (ci := 10) (v := .ref du) hx hb hT zin_X10 hown hK hw hm_mm hf_mm rfl 37 (by decide) (hT _ kw_1205) rfl dX10_passes_216 ?_
        refine lv_iconst (v := 4) hx hb dX10_passes_219 (by decide) ?_
        refine lv_aload_n hx hb dX10_passes_220 rfl (lv_at hl 3 rfl) ?_
        refine z_get (C := RX10) (T := TX10) (N := 54) (ci := 10) (v := .int m38) hx hb hT zin_X10 hown hK hw hm_mm hf_mm rfl 38 (by decide) (hT _ kw_1206) rfl dX10_passes_221 ?_
        refine lv_imul hx hb dX10_passes_224 ?_
        refine lv_topi (fun w47 e_w47 => ?_)
        have i_w47 : w47.toInt = (4 * m38.toInt) := z_mul e_w47 (show (4 : Int32).toInt = 4 by decide) rfl (by omega)
        refine lv_iconst (v := 2) hx hb dX10_passes_225 (by decide) ?_
        refine lv_iadd hx hb dX10_passes_226 ?_
        refine lv_topi (fun w48 e_w48 => ?_)
        have i_w48 : w48.toInt = ((4 * m38.toInt) + 2) := z_add e_w48 i_w47 (show (2 : Int32).toInt = 2 by decide) (by omega)
        refine lv_iload_n hx hb dX10_passes_227 rfl (lv_at hl 4 rfl) ?_
        refine z_iast hx hb hK hw 1 hm_du hf_du rfl (z_ix i_w48 (by omega)) dX10_passes_228 (fun H locs hw => ?_)
        obtain ⟨f50, e_f50⟩ : ∃ z, z = va_up f46 du (.inl (cy 1, 5200, .inl (upd g45 w48.toNatClampNeg kk))) := ⟨_, rfl⟩
        rw [← e_f50] at hw
        have hf_mm : f50 mm = .inr (10, [.int m0, .ref wd, .ref my, .ref ce, .ref mv, .ref ta, .int m6, .int m7, .int m8, .int m9, .int m10, .long m11, .int m12, .int m13, .int m14, .int m15, .ref li, .ref ha, .ref lw, .ref st, .ref fo, .ref dr, .int m22, .ref ik, .int m24, .int m25, .long m26, .int m27, .int m28, .ref ro, .int m30, .ref ct, .ref se, .ref th, .ref cn, .ref be, .int m36, .ref du, .int m38, .ref db, .int m40, .int m41, .int m42, .ref pn, .ref wg, .ref wh, .ref tn, .ref he, .int m48, .ref tr, .ref fd, .ref po, .int m52, .int m53]) := (congrFun e_f50 mm).trans (z_up_ne (z_tne hf_mm hf_du (m := 10) (n := 41700) rfl rfl (by decide)) hf_mm)
        have hf_dr : f50 dr = .inl (cy 1, 520, .inl gdr) := (congrFun e_f50 dr).trans (z_up_ne (z_tne hf_dr hf_du (m := 4260) (n := 41700) rfl rfl (by decide)) hf_dr)
        have hf_lw : f50 lw = .inl (cy 1, 25, .inl glw) := (congrFun e_f50 lw).trans (z_up_ne (z_tne hf_lw hf_du (m := 300) (n := 41700) rfl rfl (by decide)) hf_lw)
        have hf_ha : f50 ha = .inl (cy 1, 30, .inl gha) := (congrFun e_f50 ha).trans (z_up_ne (z_tne hf_ha hf_du (m := 340) (n := 41700) rfl rfl (by decide)) hf_ha)
        have hf_th : f50 th = .inl (cy 1, 36, .inl g8) := (congrFun e_f50 th).trans (z_up_ne (z_tne hf_th hf_du (m := 388) (n := 41700) rfl rfl (by decide)) hf_th)
        have hf_se : f50 se = .inl (cy 1, 36, .inl g17) := (congrFun e_f50 se).trans (z_up_ne (z_tne hf_se hf_du (m := 388) (n := 41700) rfl rfl (by decide)) hf_se)
        have hf_fo : f50 fo = .inl (cy 1, 180, .inl gfo) := (congrFun e_f50 fo).trans (z_up_ne (z_tne hf_fo hf_du (m := 1540) (n := 41700) rfl rfl (by decide)) hf_fo)
        have hf_cn : f50 cn = .inl (cy 1, 36, .inl g27) := (congrFun e_f50 cn).trans (z_up_ne (z_tne hf_cn hf_du (m := 388) (n := 41700) rfl rfl (by decide)) hf_cn)
        have hf_ct : f50 ct = .inl (cy 1, 4, .inl g38) := (congrFun e_f50 ct).trans (z_up_ne (z_tne hf_ct hf_du (m := 132) (n := 41700) rfl rfl (by decide)) hf_ct)
        have hf_db : f50 db = .inl (cy 1, 5, .inl gdb) := (congrFun e_f50 db).trans (z_up_ne (z_tne hf_db hf_du (m := 140) (n := 41700) rfl rfl (by decide)) hf_db)
        have hf_du : f50 du = .inl (cy 1, 5200, .inl (upd g45 w48.toNatClampNeg kk)) := (congrFun e_f50 du).trans z_up_self
        have hfr : ∀ b ∈ L, b ≠ mm → b ≠ th → b ≠ se → b ≠ cn → b ≠ ct → b ≠ du → b ≠ db → f50 b = f b := fun b hb h0 h1 h2 h3 h4 h5 h6 => (congrFun e_f50 b).trans (z_up_ne h5 (hfr b hb h0 h1 h2 h3 h4 h5 h6))
        obtain ⟨g49, e_g49⟩ : ∃ z, z = (upd g45 w48.toNatClampNeg kk) := ⟨_, rfl⟩
        rw [← e_g49] at hf_du
        have hq_du : ∀ j : Nat, q_du j (g49 j) := z_updQ hq_du e_g49 (show q_du _ _ from fun h => (show 0 ≤ (kk : Int32).toInt ∧ (kk : Int32).toInt ≤ 12 by first | decide | omega))
        refine lv_aload_n hx hb dX10_passes_229 rfl (lv_at hl 3 rfl) ?_
        refine z_get (C := RX10) (T := TX10) (N := 54) (ci := 10) (v := .ref du) hx hb hT zin_X10 hown hK hw hm_mm hf_mm rfl 37 (by decide) (hT _ kw_1205) rfl dX10_passes_230 ?_
        refine lv_iconst (v := 4) hx hb dX10_passes_233 (by decide) ?_
        refine lv_aload_n hx hb dX10_passes_234 rfl (lv_at hl 3 rfl) ?_
        refine z_get (C := RX10) (T := TX10) (N := 54) (ci := 10) (v := .int m38) hx hb hT zin_X10 hown hK hw hm_mm hf_mm rfl 38 (by decide) (hT _ kw_1206) rfl dX10_passes_235 ?_
        refine lv_imul hx hb dX10_passes_238 ?_
        refine lv_topi (fun w51 e_w51 => ?_)
        have i_w51 : w51.toInt = (4 * m38.toInt) := z_mul e_w51 (show (4 : Int32).toInt = 4 by decide) rfl (by omega)
        refine lv_iconst (v := 3) hx hb dX10_passes_239 (by decide) ?_
        refine lv_iadd hx hb dX10_passes_240 ?_
        refine lv_topi (fun w52 e_w52 => ?_)
        have i_w52 : w52.toInt = ((4 * m38.toInt) + 3) := z_add e_w52 i_w51 (show (3 : Int32).toInt = 3 by decide) (by omega)
        refine lv_iload_n hx hb dX10_passes_241 rfl (lv_at hl 5 rfl) ?_
        refine z_iast hx hb hK hw 1 hm_du hf_du rfl (z_ix i_w52 (by omega)) dX10_passes_242 (fun H locs hw => ?_)
        obtain ⟨f54, e_f54⟩ : ∃ z, z = va_up f50 du (.inl (cy 1, 5200, .inl (upd g49 w52.toNatClampNeg pl))) := ⟨_, rfl⟩
        rw [← e_f54] at hw
        have hf_mm : f54 mm = .inr (10, [.int m0, .ref wd, .ref my, .ref ce, .ref mv, .ref ta, .int m6, .int m7, .int m8, .int m9, .int m10, .long m11, .int m12, .int m13, .int m14, .int m15, .ref li, .ref ha, .ref lw, .ref st, .ref fo, .ref dr, .int m22, .ref ik, .int m24, .int m25, .long m26, .int m27, .int m28, .ref ro, .int m30, .ref ct, .ref se, .ref th, .ref cn, .ref be, .int m36, .ref du, .int m38, .ref db, .int m40, .int m41, .int m42, .ref pn, .ref wg, .ref wh, .ref tn, .ref he, .int m48, .ref tr, .ref fd, .ref po, .int m52, .int m53]) := (congrFun e_f54 mm).trans (z_up_ne (z_tne hf_mm hf_du (m := 10) (n := 41700) rfl rfl (by decide)) hf_mm)
        have hf_dr : f54 dr = .inl (cy 1, 520, .inl gdr) := (congrFun e_f54 dr).trans (z_up_ne (z_tne hf_dr hf_du (m := 4260) (n := 41700) rfl rfl (by decide)) hf_dr)
        have hf_lw : f54 lw = .inl (cy 1, 25, .inl glw) := (congrFun e_f54 lw).trans (z_up_ne (z_tne hf_lw hf_du (m := 300) (n := 41700) rfl rfl (by decide)) hf_lw)
        have hf_ha : f54 ha = .inl (cy 1, 30, .inl gha) := (congrFun e_f54 ha).trans (z_up_ne (z_tne hf_ha hf_du (m := 340) (n := 41700) rfl rfl (by decide)) hf_ha)
        have hf_th : f54 th = .inl (cy 1, 36, .inl g8) := (congrFun e_f54 th).trans (z_up_ne (z_tne hf_th hf_du (m := 388) (n := 41700) rfl rfl (by decide)) hf_th)
        have hf_se : f54 se = .inl (cy 1, 36, .inl g17) := (congrFun e_f54 se).trans (z_up_ne (z_tne hf_se hf_du (m := 388) (n := 41700) rfl rfl (by decide)) hf_se)
        have hf_fo : f54 fo = .inl (cy 1, 180, .inl gfo) := (congrFun e_f54 fo).trans (z_up_ne (z_tne hf_fo hf_du (m := 1540) (n := 41700) rfl rfl (by decide)) hf_fo)
        have hf_cn : f54 cn = .inl (cy 1, 36, .inl g27) := (congrFun e_f54 cn).trans (z_up_ne (z_tne hf_cn hf_du (m := 388) (n := 41700) rfl rfl (by decide)) hf_cn)
        have hf_ct : f54 ct = .inl (cy 1, 4, .inl g38) := (congrFun e_f54 ct).trans (z_up_ne (z_tne hf_ct hf_du (m := 132) (n := 41700) rfl rfl (by decide)) hf_ct)
        have hf_db : f54 db = .inl (cy 1, 5, .inl gdb) := (congrFun e_f54 db).trans (z_up_ne (z_tne hf_db hf_du (m := 140) (n := 41700) rfl rfl (by decide)) hf_db)
        have hf_du : f54 du = .inl (cy 1, 5200, .inl (upd g49 w52.toNatClampNeg pl)) := (congrFun e_f54 du).trans z_up_self
        have hfr : ∀ b ∈ L, b ≠ mm → b ≠ th → b ≠ se → b ≠ cn → b ≠ ct → b ≠ du → b ≠ db → f54 b = f b := fun b hb h0 h1 h2 h3 h4 h5 h6 => (congrFun e_f54 b).trans (z_up_ne h5 (hfr b hb h0 h1 h2 h3 h4 h5 h6))
        obtain ⟨g53, e_g53⟩ : ∃ z, z = (upd g49 w52.toNatClampNeg pl) := ⟨_, rfl⟩
        rw [← e_g53] at hf_du
        have hq_du : ∀ j : Nat, q_du j (g53 j) := z_updQ hq_du e_g53 (show q_du _ _ from fun h => absurd h (z_nmod4 i_w52 (k := 3) (by omega) (by decide)))
        refine lv_aload_n hx hb dX10_passes_243 rfl (lv_at hl 3 rfl) ?_
        refine lv_dup hx hb dX10_passes_244 rfl ?_
        refine z_get (C := RX10) (T := TX10) (N := 54) (ci := 10) (v := .int m38) hx hb hT zin_X10 hown hK hw hm_mm hf_mm rfl 38 (by decide) (hT _ kw_1206) rfl dX10_passes_245 ?_
        refine lv_iconst (v := 1) hx hb dX10_passes_248 (by decide) ?_
        refine lv_iadd hx hb dX10_passes_249 ?_
        refine lv_topi (fun w55 e_w55 => ?_)
        have i_w55 : w55.toInt = (m38.toInt + 1) := z_add e_w55 rfl (show (1 : Int32).toInt = 1 by decide) (by omega)
        refine z_put (C := RX10) (T := TX10) (N := 54) (ci := 10) (v := .int w55) (fs' := [.int m0, .ref wd, .ref my, .ref ce, .ref mv, .ref ta, .int m6, .int m7, .int m8, .int m9, .int m10, .long m11, .int m12, .int m13, .int m14, .int m15, .ref li, .ref ha, .ref lw, .ref st, .ref fo, .ref dr, .int m22, .ref ik, .int m24, .int m25, .long m26, .int m27, .int m28, .ref ro, .int m30, .ref ct, .ref se, .ref th, .ref cn, .ref be, .int m36, .ref du, .int w55, .ref db, .int m40, .int m41, .int m42, .ref pn, .ref wg, .ref wh, .ref tn, .ref he, .int m48, .ref tr, .ref fd, .ref po, .int m52, .int m53]) hx hb hT zin_X10 tyX10_ok nmX10 hown hK hw hm_mm hf_mm rfl 38 (by decide) (hT _ kw_1206) rfl rfl rfl (Nat.le_of_ble_eq_true rfl) rfl dX10_passes_250 (fun H locs hw => ?_)
        obtain ⟨f56, e_f56⟩ : ∃ z, z = va_up f54 mm (.inr (10, [.int m0, .ref wd, .ref my, .ref ce, .ref mv, .ref ta, .int m6, .int m7, .int m8, .int m9, .int m10, .long m11, .int m12, .int m13, .int m14, .int m15, .ref li, .ref ha, .ref lw, .ref st, .ref fo, .ref dr, .int m22, .ref ik, .int m24, .int m25, .long m26, .int m27, .int m28, .ref ro, .int m30, .ref ct, .ref se, .ref th, .ref cn, .ref be, .int m36, .ref du, .int w55, .ref db, .int m40, .int m41, .int m42, .ref pn, .ref wg, .ref wh, .ref tn, .ref he, .int m48, .ref tr, .ref fd, .ref po, .int m52, .int m53])) := ⟨_, rfl⟩
        rw [← e_f56] at hw
        have hf_dr : f56 dr = .inl (cy 1, 520, .inl gdr) := (congrFun e_f56 dr).trans (z_up_ne (z_tne hf_dr hf_mm (m := 4260) (n := 10) rfl rfl (by decide)) hf_dr)
        have hf_lw : f56 lw = .inl (cy 1, 25, .inl glw) := (congrFun e_f56 lw).trans (z_up_ne (z_tne hf_lw hf_mm (m := 300) (n := 10) rfl rfl (by decide)) hf_lw)
        have hf_ha : f56 ha = .inl (cy 1, 30, .inl gha) := (congrFun e_f56 ha).trans (z_up_ne (z_tne hf_ha hf_mm (m := 340) (n := 10) rfl rfl (by decide)) hf_ha)
        have hf_th : f56 th = .inl (cy 1, 36, .inl g8) := (congrFun e_f56 th).trans (z_up_ne (z_tne hf_th hf_mm (m := 388) (n := 10) rfl rfl (by decide)) hf_th)
        have hf_se : f56 se = .inl (cy 1, 36, .inl g17) := (congrFun e_f56 se).trans (z_up_ne (z_tne hf_se hf_mm (m := 388) (n := 10) rfl rfl (by decide)) hf_se)
        have hf_fo : f56 fo = .inl (cy 1, 180, .inl gfo) := (congrFun e_f56 fo).trans (z_up_ne (z_tne hf_fo hf_mm (m := 1540) (n := 10) rfl rfl (by decide)) hf_fo)
        have hf_cn : f56 cn = .inl (cy 1, 36, .inl g27) := (congrFun e_f56 cn).trans (z_up_ne (z_tne hf_cn hf_mm (m := 388) (n := 10) rfl rfl (by decide)) hf_cn)
        have hf_ct : f56 ct = .inl (cy 1, 4, .inl g38) := (congrFun e_f56 ct).trans (z_up_ne (z_tne hf_ct hf_mm (m := 132) (n := 10) rfl rfl (by decide)) hf_ct)
        have hf_du : f56 du = .inl (cy 1, 5200, .inl g53) := (congrFun e_f56 du).trans (z_up_ne (z_tne hf_du hf_mm (m := 41700) (n := 10) rfl rfl (by decide)) hf_du)
        have hf_db : f56 db = .inl (cy 1, 5, .inl gdb) := (congrFun e_f56 db).trans (z_up_ne (z_tne hf_db hf_mm (m := 140) (n := 10) rfl rfl (by decide)) hf_db)
        have hf_mm : f56 mm = .inr (10, [.int m0, .ref wd, .ref my, .ref ce, .ref mv, .ref ta, .int m6, .int m7, .int m8, .int m9, .int m10, .long m11, .int m12, .int m13, .int m14, .int m15, .ref li, .ref ha, .ref lw, .ref st, .ref fo, .ref dr, .int m22, .ref ik, .int m24, .int m25, .long m26, .int m27, .int m28, .ref ro, .int m30, .ref ct, .ref se, .ref th, .ref cn, .ref be, .int m36, .ref du, .int w55, .ref db, .int m40, .int m41, .int m42, .ref pn, .ref wg, .ref wh, .ref tn, .ref he, .int m48, .ref tr, .ref fd, .ref po, .int m52, .int m53]) := (congrFun e_f56 mm).trans z_up_self
        have hfr : ∀ b ∈ L, b ≠ mm → b ≠ th → b ≠ se → b ≠ cn → b ≠ ct → b ≠ du → b ≠ db → f56 b = f b := fun b hb h0 h1 h2 h3 h4 h5 h6 => (congrFun e_f56 b).trans (z_up_ne h0 (hfr b hb h0 h1 h2 h3 h4 h5 h6))
        refine lv_aload_n hx hb dX10_passes_253 rfl (lv_at hl 3 rfl) ?_
        refine z_get (C := RX10) (T := TX10) (N := 54) (ci := 10) (v := .ref db) hx hb hT zin_X10 hown hK hw hm_mm hf_mm rfl 39 (by decide) (hT _ kw_1207) rfl dX10_passes_254 ?_
        refine lv_aload_n hx hb dX10_passes_257 rfl (lv_at hl 3 rfl) ?_
        refine lv_iload_n hx hb dX10_passes_258 rfl (lv_at hl 4 rfl) ?_
        refine lv_bipush (v := 6) hx hb dX10_passes_259 (by decide) ?_
        have hz57 := (show (6 : Int32).toInt = 6 by decide)
        refine z_calliV (cells := 0) (slots := 0) (b := mm) (As := [.int kk, .int 6]) (rest := [.ref db]) (ci := 10) (q0 := (RX10, TX10, 54)) ⟨hx, hb, hml, hown, hT⟩ (c_X10_of l hm_mm hm_dr hf_mm hf_dr hq_dr (by first | omega | decide | assumption) (by decide)) (cwV 2 hT (z_goodV (fun _ h => h) kw_1487 kw_1489 kw_51 kw_96 kw_1490) rfl rfl rfl (by decide +kernel) ⟨by decide, by decide⟩) z_mv hKK hK hw hA hm_mm hf_mm rfl rfl rfl hl.1 rfl (Nat.le_of_ble_eq_true rfl) dX10_passes_261 ⟨by decide, by decide⟩ (fun r58 u H locs hp hw => ?_)
        obtain ⟨rfl, hp⟩ := hp
        have hw : z_H D vwCl (z_A L sz) s.heap L f56 H locs := hw
        have hof_r58 : r58 = gdr (8 * kk.toNatClampNeg + 6) := hp
        have hh_r58 : 0 ≤ r58.toInt ∧ r58.toInt ≤ 4 := by rw [hof_r58]; exact (hq_dr _).2.2.2.2.2.2.1 (by omega)
        refine lv_dup2_11 hx hb dX10_passes_264 rfl rfl ?_
        refine z_iald hx hb hK hw 1 hm_db hf_db rfl (z_ix rfl (by omega)) dX10_passes_265 ?_
        refine lv_topi (fun w59 e_w59 => ?_)
        refine lv_iconst (v := 1) hx hb dX10_passes_266 (by decide) ?_
        refine lv_iadd hx hb dX10_passes_267 ?_
        refine lv_topi (fun w60 e_w60 => ?_)
        refine z_iast hx hb hK hw 1 hm_db hf_db rfl (z_ix rfl (by omega)) dX10_passes_268 (fun H locs hw => ?_)
        obtain ⟨f62, e_f62⟩ : ∃ z, z = va_up f56 db (.inl (cy 1, 5, .inl (upd gdb r58.toNatClampNeg w60))) := ⟨_, rfl⟩
        rw [← e_f62] at hw
        have hf_mm : f62 mm = .inr (10, [.int m0, .ref wd, .ref my, .ref ce, .ref mv, .ref ta, .int m6, .int m7, .int m8, .int m9, .int m10, .long m11, .int m12, .int m13, .int m14, .int m15, .ref li, .ref ha, .ref lw, .ref st, .ref fo, .ref dr, .int m22, .ref ik, .int m24, .int m25, .long m26, .int m27, .int m28, .ref ro, .int m30, .ref ct, .ref se, .ref th, .ref cn, .ref be, .int m36, .ref du, .int w55, .ref db, .int m40, .int m41, .int m42, .ref pn, .ref wg, .ref wh, .ref tn, .ref he, .int m48, .ref tr, .ref fd, .ref po, .int m52, .int m53]) := (congrFun e_f62 mm).trans (z_up_ne (z_tne hf_mm hf_db (m := 10) (n := 140) rfl rfl (by decide)) hf_mm)
        have hf_dr : f62 dr = .inl (cy 1, 520, .inl gdr) := (congrFun e_f62 dr).trans (z_up_ne (z_tne hf_dr hf_db (m := 4260) (n := 140) rfl rfl (by decide)) hf_dr)
        have hf_lw : f62 lw = .inl (cy 1, 25, .inl glw) := (congrFun e_f62 lw).trans (z_up_ne (z_tne hf_lw hf_db (m := 300) (n := 140) rfl rfl (by decide)) hf_lw)
        have hf_ha : f62 ha = .inl (cy 1, 30, .inl gha) := (congrFun e_f62 ha).trans (z_up_ne (z_tne hf_ha hf_db (m := 340) (n := 140) rfl rfl (by decide)) hf_ha)
        have hf_th : f62 th = .inl (cy 1, 36, .inl g8) := (congrFun e_f62 th).trans (z_up_ne (z_tne hf_th hf_db (m := 388) (n := 140) rfl rfl (by decide)) hf_th)
        have hf_se : f62 se = .inl (cy 1, 36, .inl g17) := (congrFun e_f62 se).trans (z_up_ne (z_tne hf_se hf_db (m := 388) (n := 140) rfl rfl (by decide)) hf_se)
        have hf_fo : f62 fo = .inl (cy 1, 180, .inl gfo) := (congrFun e_f62 fo).trans (z_up_ne (z_tne hf_fo hf_db (m := 1540) (n := 140) rfl rfl (by decide)) hf_fo)
        have hf_cn : f62 cn = .inl (cy 1, 36, .inl g27) := (congrFun e_f62 cn).trans (z_up_ne (z_tne hf_cn hf_db (m := 388) (n := 140) rfl rfl (by decide)) hf_cn)
        have hf_ct : f62 ct = .inl (cy 1, 4, .inl g38) := (congrFun e_f62 ct).trans (z_up_ne (z_tne hf_ct hf_db (m := 132) (n := 140) rfl rfl (by decide)) hf_ct)
        have hf_du : f62 du = .inl (cy 1, 5200, .inl g53) := (congrFun e_f62 du).trans (z_up_ne (z_tne hf_du hf_db (m := 41700) (n := 140) rfl rfl (by decide)) hf_du)
        have hf_db : f62 db = .inl (cy 1, 5, .inl (upd gdb r58.toNatClampNeg w60)) := (congrFun e_f62 db).trans z_up_self
        have hfr : ∀ b ∈ L, b ≠ mm → b ≠ th → b ≠ se → b ≠ cn → b ≠ ct → b ≠ du → b ≠ db → f62 b = f b := fun b hb h0 h1 h2 h3 h4 h5 h6 => (congrFun e_f62 b).trans (z_up_ne h6 (hfr b hb h0 h1 h2 h3 h4 h5 h6))
        obtain ⟨g61, e_g61⟩ : ∃ z, z = (upd gdb r58.toNatClampNeg w60) := ⟨_, rfl⟩
        rw [← e_g61] at hf_db
        exact z_vret hx hb hr hlk (by decide) (by decide) hw (⟨hsub, hfr, w55, g8, g17, g27, g38, g53, g61, hf_mm, hf_th, hf_se, hf_cn, hf_ct, hf_du, hf_db, hq_ct, hq_du, by omega, by omega⟩) dX10_passes_269
      · skip
        have hq_ct : ∀ j : Nat, q_law j (g33 j) := z_updQ hq_ct e_g33 (show 0 ≤ (w32 : Int32).toInt ∧ (w32 : Int32).toInt ≤ 999 by omega)
        exact z_vret hx hb hr hlk (by decide) (by decide) hw (⟨hsub, hfr, m38, g8, g17, g27, g33, gdu, gdb, hf_mm, hf_th, hf_se, hf_cn, hf_ct, hf_du, hf_db, hq_ct, hq_du, by omega, by omega⟩) dX10_passes_179
    · skip
      refine lv_aload_n hx hb dX10_passes_96 rfl (lv_at hl 2 rfl) ?_
      refine z_get (C := RX10) (T := TX10) (N := 54) (ci := 10) (v := .ref se) hx hb hT zin_X10 hown hK hw hm_mm hf_mm rfl 32 (by decide) (hT _ kw_1200) rfl dX10_passes_97 ?_
      refine lv_bipush (v := 9) hx hb dX10_passes_100 (by decide) ?_
      refine lv_iload hx hb dX10_passes_102 (lv_at hl 1 rfl) ?_
      refine lv_imul hx hb dX10_passes_104 ?_
      refine lv_topi (fun w63 e_w63 => ?_)
      have i_w63 : w63.toInt = (9 * r2.toInt) := z_mul e_w63 (show (9 : Int32).toInt = 9 by decide) rfl (by omega)
      refine lv_iload hx hb dX10_passes_105 (lv_at hl 0 rfl) ?_
      refine lv_iadd hx hb dX10_passes_107 ?_
      refine lv_topi (fun w64 e_w64 => ?_)
      have i_w64 : w64.toInt = ((9 * r2.toInt) + (ti.toInt / 24)) := z_add e_w64 i_w63 i_w3 (by omega)
      refine z_iald hx hb hK hw 1 hm_se hf_se rfl (z_ix i_w64 (by omega)) dX10_passes_108 ?_
      refine lv_topi (fun w65 e_w65 => ?_)
      refine lv_aload_n hx hb dX10_passes_109 rfl (lv_at hl 2 rfl) ?_
      refine z_get (C := RX10) (T := TX10) (N := 54) (ci := 10) (v := .ref fo) hx hb hT zin_X10 hown hK hw hm_mm hf_mm rfl 20 (by decide) (hT _ kw_1188) rfl dX10_passes_110 ?_
      refine lv_bipush (v := 9) hx hb dX10_passes_113 (by decide) ?_
      refine lv_iload hx hb dX10_passes_115 (lv_at hl 1 rfl) ?_
      refine lv_imul hx hb dX10_passes_117 ?_
      refine lv_topi (fun w66 e_w66 => ?_)
      have i_w66 : w66.toInt = (9 * r2.toInt) := z_mul e_w66 (show (9 : Int32).toInt = 9 by decide) rfl (by omega)
      refine lv_iload hx hb dX10_passes_118 (lv_at hl 0 rfl) ?_
      refine lv_iadd hx hb dX10_passes_120 ?_
      refine lv_topi (fun w67 e_w67 => ?_)
      have i_w67 : w67.toInt = ((9 * r2.toInt) + (ti.toInt / 24)) := z_add e_w67 i_w66 i_w3 (by omega)
      refine z_iald hx hb hK hw 1 hm_fo hf_fo rfl (z_ix i_w67 (by omega)) dX10_passes_121 ?_
      refine lv_topi (fun w68 e_w68 => ?_)
      have hfe_ : w68.toInt = w21.toInt := by rw [e_w68, e_w21, z_ieq (x := w67) (y := w20) (by omega)]
      refine lv_irem hx hb dX10_passes_122 (z_ne0 rfl (by omega)) ?_
      refine lv_topi (fun w69 e_w69 => ?_)
      refine z_if_ne (tgt := 127) hx hb rfl dX10_passes_123 (by decide) (fun c70 => ?_) (fun c70 => ?_)
      · skip
        refine lv_aload_n hx hb dX10_passes_127 rfl (lv_at hl 2 rfl) ?_
        refine z_get (C := RX10) (T := TX10) (N := 54) (ci := 10) (v := .ref cn) hx hb hT zin_X10 hown hK hw hm_mm hf_mm rfl 34 (by decide) (hT _ kw_1202) rfl dX10_passes_128 ?_
        refine lv_bipush (v := 9) hx hb dX10_passes_131 (by decide) ?_
        refine lv_iload hx hb dX10_passes_133 (lv_at hl 1 rfl) ?_
        refine lv_imul hx hb dX10_passes_135 ?_
        refine lv_topi (fun w71 e_w71 => ?_)
        have i_w71 : w71.toInt = (9 * r2.toInt) := z_mul e_w71 (show (9 : Int32).toInt = 9 by decide) rfl (by omega)
        refine lv_iload hx hb dX10_passes_136 (lv_at hl 0 rfl) ?_
        refine lv_iadd hx hb dX10_passes_138 ?_
        refine lv_topi (fun w72 e_w72 => ?_)
        have i_w72 : w72.toInt = ((9 * r2.toInt) + (ti.toInt / 24)) := z_add e_w72 i_w71 i_w3 (by omega)
        refine lv_dup2_11 hx hb dX10_passes_139 rfl rfl ?_
        refine z_iald hx hb hK hw 1 hm_cn hf_cn rfl (z_ix i_w72 (by omega)) dX10_passes_140 ?_
        refine lv_topi (fun w73 e_w73 => ?_)
        refine lv_iconst (v := 1) hx hb dX10_passes_141 (by decide) ?_
        refine lv_iadd hx hb dX10_passes_142 ?_
        refine lv_topi (fun w74 e_w74 => ?_)
        refine z_iast hx hb hK hw 1 hm_cn hf_cn rfl (z_ix i_w72 (by omega)) dX10_passes_143 (fun H locs hw => ?_)
        obtain ⟨f76, e_f76⟩ : ∃ z, z = va_up f18 cn (.inl (cy 1, 36, .inl (upd gcn w72.toNatClampNeg w74))) := ⟨_, rfl⟩
        rw [← e_f76] at hw
        have hf_mm : f76 mm = .inr (10, [.int m0, .ref wd, .ref my, .ref ce, .ref mv, .ref ta, .int m6, .int m7, .int m8, .int m9, .int m10, .long m11, .int m12, .int m13, .int m14, .int m15, .ref li, .ref ha, .ref lw, .ref st, .ref fo, .ref dr, .int m22, .ref ik, .int m24, .int m25, .long m26, .int m27, .int m28, .ref ro, .int m30, .ref ct, .ref se, .ref th, .ref cn, .ref be, .int m36, .ref du, .int m38, .ref db, .int m40, .int m41, .int m42, .ref pn, .ref wg, .ref wh, .ref tn, .ref he, .int m48, .ref tr, .ref fd, .ref po, .int m52, .int m53]) := (congrFun e_f76 mm).trans (z_up_ne (z_tne hf_mm hf_cn (m := 10) (n := 388) rfl rfl (by decide)) hf_mm)
        have hf_dr : f76 dr = .inl (cy 1, 520, .inl gdr) := (congrFun e_f76 dr).trans (z_up_ne (z_tne hf_dr hf_cn (m := 4260) (n := 388) rfl rfl (by decide)) hf_dr)
        have hf_lw : f76 lw = .inl (cy 1, 25, .inl glw) := (congrFun e_f76 lw).trans (z_up_ne (z_tne hf_lw hf_cn (m := 300) (n := 388) rfl rfl (by decide)) hf_lw)
        have hf_ha : f76 ha = .inl (cy 1, 30, .inl gha) := (congrFun e_f76 ha).trans (z_up_ne (z_tne hf_ha hf_cn (m := 340) (n := 388) rfl rfl (by decide)) hf_ha)
        have hf_th : f76 th = .inl (cy 1, 36, .inl g8) := (congrFun e_f76 th).trans (z_up_ne ne_th_cn hf_th)
        have hf_se : f76 se = .inl (cy 1, 36, .inl g17) := (congrFun e_f76 se).trans (z_up_ne ne_se_cn hf_se)
        have hf_fo : f76 fo = .inl (cy 1, 180, .inl gfo) := (congrFun e_f76 fo).trans (z_up_ne (z_tne hf_fo hf_cn (m := 1540) (n := 388) rfl rfl (by decide)) hf_fo)
        have hf_ct : f76 ct = .inl (cy 1, 4, .inl gct) := (congrFun e_f76 ct).trans (z_up_ne (z_tne hf_ct hf_cn (m := 132) (n := 388) rfl rfl (by decide)) hf_ct)
        have hf_du : f76 du = .inl (cy 1, 5200, .inl gdu) := (congrFun e_f76 du).trans (z_up_ne (z_tne hf_du hf_cn (m := 41700) (n := 388) rfl rfl (by decide)) hf_du)
        have hf_db : f76 db = .inl (cy 1, 5, .inl gdb) := (congrFun e_f76 db).trans (z_up_ne (z_tne hf_db hf_cn (m := 140) (n := 388) rfl rfl (by decide)) hf_db)
        have hf_cn : f76 cn = .inl (cy 1, 36, .inl (upd gcn w72.toNatClampNeg w74)) := (congrFun e_f76 cn).trans z_up_self
        have hfr : ∀ b ∈ L, b ≠ mm → b ≠ th → b ≠ se → b ≠ cn → b ≠ ct → b ≠ du → b ≠ db → f76 b = f b := fun b hb h0 h1 h2 h3 h4 h5 h6 => (congrFun e_f76 b).trans (z_up_ne h3 (hfr b hb h0 h1 h2 h3 h4 h5 h6))
        obtain ⟨g75, e_g75⟩ : ∃ z, z = (upd gcn w72.toNatClampNeg w74) := ⟨_, rfl⟩
        rw [← e_g75] at hf_cn
        refine lv_aload_n hx hb dX10_passes_144 rfl (lv_at hl 2 rfl) ?_
        refine lv_iload hx hb dX10_passes_145 (lv_at hl 1 rfl) ?_
        refine z_calliV (cells := 0) (slots := 0) (b := mm) (As := [.int r2]) (rest := []) (ci := 10) (q0 := (RX10, TX10, 54)) ⟨hx, hb, hml, hown, hT⟩ (c_X10_counterOf l hm_mm hm_lw hf_mm hf_lw hq_lw (by first | omega | decide | assumption)) (cwV 1 hT (z_goodV (fun _ h => h) kw_1579 kw_1581 kw_67 kw_96 kw_1582) rfl rfl rfl (by decide +kernel) ⟨by decide, by decide⟩) z_mv hKK hK hw hA hm_mm hf_mm rfl rfl rfl hl.1 rfl (Nat.le_of_ble_eq_true rfl) dX10_passes_147 ⟨by decide, by decide⟩ (fun r77 u H locs hp hw => ?_)
        obtain ⟨rfl, hp⟩ := hp
        have hw : z_H D vwCl (z_A L sz) s.heap L f76 H locs := hw
        have hq78 := hp
        refine lv_istore (lv' := [(6, .int r77), (5, .int w3), (4, .int r2), (0, .ref mm), (1, .int kk), (2, .int pl), (3, .int ti)]) hx hb dX10_passes_150 hl (by decide) rfl (fun ls hl => ?_)
        refine lv_aload_n hx hb dX10_passes_152 rfl (lv_at hl 3 rfl) ?_
        refine z_get (C := RX10) (T := TX10) (N := 54) (ci := 10) (v := .ref ct) hx hb hT zin_X10 hown hK hw hm_mm hf_mm rfl 31 (by decide) (hT _ kw_1199) rfl dX10_passes_153 ?_
        refine lv_iload hx hb dX10_passes_156 (lv_at hl 0 rfl) ?_
        refine lv_dup2_11 hx hb dX10_passes_158 rfl rfl ?_
        refine z_iald hx hb hK hw 1 hm_ct hf_ct rfl (z_ix rfl (by omega)) dX10_passes_159 ?_
        refine lv_topi (fun w79 e_w79 => ?_)
        have hv_w79 : 0 ≤ w79.toInt ∧ w79.toInt ≤ 999 := by rw [e_w79]; exact hq_ct _
        have hc0_ : w79.toInt = (gct r77.toNatClampNeg).toInt := by rw [e_w79]
        refine lv_iconst (v := 1) hx hb dX10_passes_160 (by decide) ?_
        refine lv_iadd hx hb dX10_passes_161 ?_
        refine lv_topi (fun w80 e_w80 => ?_)
        have i_w80 : w80.toInt = (w79.toInt + 1) := z_add e_w80 rfl (show (1 : Int32).toInt = 1 by decide) (by omega)
        refine z_iast hx hb hK hw 1 hm_ct hf_ct rfl (z_ix rfl (by omega)) dX10_passes_162 (fun H locs hw => ?_)
        obtain ⟨f82, e_f82⟩ : ∃ z, z = va_up f76 ct (.inl (cy 1, 4, .inl (upd gct r77.toNatClampNeg w80))) := ⟨_, rfl⟩
        rw [← e_f82] at hw
        have hf_mm : f82 mm = .inr (10, [.int m0, .ref wd, .ref my, .ref ce, .ref mv, .ref ta, .int m6, .int m7, .int m8, .int m9, .int m10, .long m11, .int m12, .int m13, .int m14, .int m15, .ref li, .ref ha, .ref lw, .ref st, .ref fo, .ref dr, .int m22, .ref ik, .int m24, .int m25, .long m26, .int m27, .int m28, .ref ro, .int m30, .ref ct, .ref se, .ref th, .ref cn, .ref be, .int m36, .ref du, .int m38, .ref db, .int m40, .int m41, .int m42, .ref pn, .ref wg, .ref wh, .ref tn, .ref he, .int m48, .ref tr, .ref fd, .ref po, .int m52, .int m53]) := (congrFun e_f82 mm).trans (z_up_ne (z_tne hf_mm hf_ct (m := 10) (n := 132) rfl rfl (by decide)) hf_mm)
        have hf_dr : f82 dr = .inl (cy 1, 520, .inl gdr) := (congrFun e_f82 dr).trans (z_up_ne (z_tne hf_dr hf_ct (m := 4260) (n := 132) rfl rfl (by decide)) hf_dr)
        have hf_lw : f82 lw = .inl (cy 1, 25, .inl glw) := (congrFun e_f82 lw).trans (z_up_ne (z_tne hf_lw hf_ct (m := 300) (n := 132) rfl rfl (by decide)) hf_lw)
        have hf_ha : f82 ha = .inl (cy 1, 30, .inl gha) := (congrFun e_f82 ha).trans (z_up_ne (z_tne hf_ha hf_ct (m := 340) (n := 132) rfl rfl (by decide)) hf_ha)
        have hf_th : f82 th = .inl (cy 1, 36, .inl g8) := (congrFun e_f82 th).trans (z_up_ne (z_tne hf_th hf_ct (m := 388) (n := 132) rfl rfl (by decide)) hf_th)
        have hf_se : f82 se = .inl (cy 1, 36, .inl g17) := (congrFun e_f82 se).trans (z_up_ne (z_tne hf_se hf_ct (m := 388) (n := 132) rfl rfl (by decide)) hf_se)
        have hf_fo : f82 fo = .inl (cy 1, 180, .inl gfo) := (congrFun e_f82 fo).trans (z_up_ne (z_tne hf_fo hf_ct (m := 1540) (n := 132) rfl rfl (by decide)) hf_fo)
        have hf_cn : f82 cn = .inl (cy 1, 36, .inl g75) := (congrFun e_f82 cn).trans (z_up_ne (z_tne hf_cn hf_ct (m := 388) (n := 132) rfl rfl (by decide)) hf_cn)
        have hf_du : f82 du = .inl (cy 1, 5200, .inl gdu) := (congrFun e_f82 du).trans (z_up_ne (z_tne hf_du hf_ct (m := 41700) (n := 132) rfl rfl (by decide)) hf_du)
        have hf_db : f82 db = .inl (cy 1, 5, .inl gdb) := (congrFun e_f82 db).trans (z_up_ne (z_tne hf_db hf_ct (m := 140) (n := 132) rfl rfl (by decide)) hf_db)
        have hf_ct : f82 ct = .inl (cy 1, 4, .inl (upd gct r77.toNatClampNeg w80)) := (congrFun e_f82 ct).trans z_up_self
        have hfr : ∀ b ∈ L, b ≠ mm → b ≠ th → b ≠ se → b ≠ cn → b ≠ ct → b ≠ du → b ≠ db → f82 b = f b := fun b hb h0 h1 h2 h3 h4 h5 h6 => (congrFun e_f82 b).trans (z_up_ne h4 (hfr b hb h0 h1 h2 h3 h4 h5 h6))
        obtain ⟨g81, e_g81⟩ : ∃ z, z = (upd gct r77.toNatClampNeg w80) := ⟨_, rfl⟩
        rw [← e_g81] at hf_ct
        refine lv_aload_n hx hb dX10_passes_163 rfl (lv_at hl 3 rfl) ?_
        refine z_get (C := RX10) (T := TX10) (N := 54) (ci := 10) (v := .ref ct) hx hb hT zin_X10 hown hK hw hm_mm hf_mm rfl 31 (by decide) (hT _ kw_1199) rfl dX10_passes_164 ?_
        refine lv_iload hx hb dX10_passes_167 (lv_at hl 0 rfl) ?_
        refine z_iald hx hb hK hw 1 hm_ct hf_ct rfl (z_ix rfl (by omega)) dX10_passes_169 ?_
        refine lv_topi (fun w83 e_w83 => ?_)
        have hc1_ : w83.toInt = w80.toInt := by rw [e_w83, show g81 r77.toNatClampNeg = w80 from z_upd_at e_g81]
        have hph1 := z_ph_inc e_g81 (by omega)
        refine lv_aload_n hx hb dX10_passes_170 rfl (lv_at hl 3 rfl) ?_
        refine z_get (C := RX10) (T := TX10) (N := 54) (ci := 10) (v := .ref lw) hx hb hT zin_X10 hown hK hw hm_mm hf_mm rfl 18 (by decide) (hT _ kw_1186) rfl dX10_passes_171 ?_
        refine lv_iconst (v := 3) hx hb dX10_passes_174 (by decide) ?_
        refine z_iald hx hb hK hw 1 hm_lw hf_lw rfl (z_ix (show (3 : Int32).toInt = 3 by decide) (by decide)) dX10_passes_175 ?_
        refine lv_topi (fun w84 e_w84 => ?_)
        have hv_w84 : 0 ≤ w84.toInt ∧ w84.toInt ≤ 999 := by rw [e_w84]; exact hq_lw _
        have he3_ : w84.toInt = (glw 3).toInt := by rw [e_w84]; rfl
        refine z_icmp_ge (tgt := 180) hx hb rfl rfl dX10_passes_176 (by decide) (fun c85 => ?_) (fun c85 => ?_)
        · skip
          refine lv_aload_n hx hb dX10_passes_180 rfl (lv_at hl 3 rfl) ?_
          refine z_get (C := RX10) (T := TX10) (N := 54) (ci := 10) (v := .ref ct) hx hb hT zin_X10 hown hK hw hm_mm hf_mm rfl 31 (by decide) (hT _ kw_1199) rfl dX10_passes_181 ?_
          refine lv_iload hx hb dX10_passes_184 (lv_at hl 0 rfl) ?_
          refine lv_iconst (v := 0) hx hb dX10_passes_186 (by decide) ?_
          refine z_iast hx hb hK hw 1 hm_ct hf_ct rfl (z_ix rfl (by omega)) dX10_passes_187 (fun H locs hw => ?_)
          obtain ⟨f87, e_f87⟩ : ∃ z, z = va_up f82 ct (.inl (cy 1, 4, .inl (upd g81 r77.toNatClampNeg 0))) := ⟨_, rfl⟩
          rw [← e_f87] at hw
          have hf_mm : f87 mm = .inr (10, [.int m0, .ref wd, .ref my, .ref ce, .ref mv, .ref ta, .int m6, .int m7, .int m8, .int m9, .int m10, .long m11, .int m12, .int m13, .int m14, .int m15, .ref li, .ref ha, .ref lw, .ref st, .ref fo, .ref dr, .int m22, .ref ik, .int m24, .int m25, .long m26, .int m27, .int m28, .ref ro, .int m30, .ref ct, .ref se, .ref th, .ref cn, .ref be, .int m36, .ref du, .int m38, .ref db, .int m40, .int m41, .int m42, .ref pn, .ref wg, .ref wh, .ref tn, .ref he, .int m48, .ref tr, .ref fd, .ref po, .int m52, .int m53]) := (congrFun e_f87 mm).trans (z_up_ne (z_tne hf_mm hf_ct (m := 10) (n := 132) rfl rfl (by decide)) hf_mm)
          have hf_dr : f87 dr = .inl (cy 1, 520, .inl gdr) := (congrFun e_f87 dr).trans (z_up_ne (z_tne hf_dr hf_ct (m := 4260) (n := 132) rfl rfl (by decide)) hf_dr)
          have hf_lw : f87 lw = .inl (cy 1, 25, .inl glw) := (congrFun e_f87 lw).trans (z_up_ne (z_tne hf_lw hf_ct (m := 300) (n := 132) rfl rfl (by decide)) hf_lw)
          have hf_ha : f87 ha = .inl (cy 1, 30, .inl gha) := (congrFun e_f87 ha).trans (z_up_ne (z_tne hf_ha hf_ct (m := 340) (n := 132) rfl rfl (by decide)) hf_ha)
          have hf_th : f87 th = .inl (cy 1, 36, .inl g8) := (congrFun e_f87 th).trans (z_up_ne (z_tne hf_th hf_ct (m := 388) (n := 132) rfl rfl (by decide)) hf_th)
          have hf_se : f87 se = .inl (cy 1, 36, .inl g17) := (congrFun e_f87 se).trans (z_up_ne (z_tne hf_se hf_ct (m := 388) (n := 132) rfl rfl (by decide)) hf_se)
          have hf_fo : f87 fo = .inl (cy 1, 180, .inl gfo) := (congrFun e_f87 fo).trans (z_up_ne (z_tne hf_fo hf_ct (m := 1540) (n := 132) rfl rfl (by decide)) hf_fo)
          have hf_cn : f87 cn = .inl (cy 1, 36, .inl g75) := (congrFun e_f87 cn).trans (z_up_ne (z_tne hf_cn hf_ct (m := 388) (n := 132) rfl rfl (by decide)) hf_cn)
          have hf_du : f87 du = .inl (cy 1, 5200, .inl gdu) := (congrFun e_f87 du).trans (z_up_ne (z_tne hf_du hf_ct (m := 41700) (n := 132) rfl rfl (by decide)) hf_du)
          have hf_db : f87 db = .inl (cy 1, 5, .inl gdb) := (congrFun e_f87 db).trans (z_up_ne (z_tne hf_db hf_ct (m := 140) (n := 132) rfl rfl (by decide)) hf_db)
          have hf_ct : f87 ct = .inl (cy 1, 4, .inl (upd g81 r77.toNatClampNeg 0)) := (congrFun e_f87 ct).trans z_up_self
          have hfr : ∀ b ∈ L, b ≠ mm → b ≠ th → b ≠ se → b ≠ cn → b ≠ ct → b ≠ du → b ≠ db → f87 b = f b := fun b hb h0 h1 h2 h3 h4 h5 h6 => (congrFun e_f87 b).trans (z_up_ne h4 (hfr b hb h0 h1 h2 h3 h4 h5 h6))
          obtain ⟨g86, e_g86⟩ : ∃ z, z = (upd g81 r77.toNatClampNeg 0) := ⟨_, rfl⟩
          rw [← e_g86] at hf_ct
          have hq_ct : ∀ j : Nat, q_law j (g86 j) := z_updQ2 hq_ct e_g81 e_g86 (show 0 ≤ (0 : Int32).toInt ∧ (0 : Int32).toInt ≤ 999 by decide)
          have hph2 := z_ph_due e_g81 e_g86 (by omega) (by omega) (by omega)
          refine lv_aload_n hx hb dX10_passes_188 rfl (lv_at hl 3 rfl) ?_
          refine z_get (C := RX10) (T := TX10) (N := 54) (ci := 10) (v := .ref du) hx hb hT zin_X10 hown hK hw hm_mm hf_mm rfl 37 (by decide) (hT _ kw_1205) rfl dX10_passes_189 ?_
          refine lv_iconst (v := 4) hx hb dX10_passes_192 (by decide) ?_
          refine lv_aload_n hx hb dX10_passes_193 rfl (lv_at hl 3 rfl) ?_
          refine z_get (C := RX10) (T := TX10) (N := 54) (ci := 10) (v := .int m38) hx hb hT zin_X10 hown hK hw hm_mm hf_mm rfl 38 (by decide) (hT _ kw_1206) rfl dX10_passes_194 ?_
          refine lv_imul hx hb dX10_passes_197 ?_
          refine lv_topi (fun w88 e_w88 => ?_)
          have i_w88 : w88.toInt = (4 * m38.toInt) := z_mul e_w88 (show (4 : Int32).toInt = 4 by decide) rfl (by omega)
          refine lv_iload_n hx hb dX10_passes_198 rfl (lv_at hl 6 rfl) ?_
          refine z_iast hx hb hK hw 1 hm_du hf_du rfl (z_ix i_w88 (by omega)) dX10_passes_199 (fun H locs hw => ?_)
          obtain ⟨f90, e_f90⟩ : ∃ z, z = va_up f87 du (.inl (cy 1, 5200, .inl (upd gdu w88.toNatClampNeg ti))) := ⟨_, rfl⟩
          rw [← e_f90] at hw
          have hf_mm : f90 mm = .inr (10, [.int m0, .ref wd, .ref my, .ref ce, .ref mv, .ref ta, .int m6, .int m7, .int m8, .int m9, .int m10, .long m11, .int m12, .int m13, .int m14, .int m15, .ref li, .ref ha, .ref lw, .ref st, .ref fo, .ref dr, .int m22, .ref ik, .int m24, .int m25, .long m26, .int m27, .int m28, .ref ro, .int m30, .ref ct, .ref se, .ref th, .ref cn, .ref be, .int m36, .ref du, .int m38, .ref db, .int m40, .int m41, .int m42, .ref pn, .ref wg, .ref wh, .ref tn, .ref he, .int m48, .ref tr, .ref fd, .ref po, .int m52, .int m53]) := (congrFun e_f90 mm).trans (z_up_ne (z_tne hf_mm hf_du (m := 10) (n := 41700) rfl rfl (by decide)) hf_mm)
          have hf_dr : f90 dr = .inl (cy 1, 520, .inl gdr) := (congrFun e_f90 dr).trans (z_up_ne (z_tne hf_dr hf_du (m := 4260) (n := 41700) rfl rfl (by decide)) hf_dr)
          have hf_lw : f90 lw = .inl (cy 1, 25, .inl glw) := (congrFun e_f90 lw).trans (z_up_ne (z_tne hf_lw hf_du (m := 300) (n := 41700) rfl rfl (by decide)) hf_lw)
          have hf_ha : f90 ha = .inl (cy 1, 30, .inl gha) := (congrFun e_f90 ha).trans (z_up_ne (z_tne hf_ha hf_du (m := 340) (n := 41700) rfl rfl (by decide)) hf_ha)
          have hf_th : f90 th = .inl (cy 1, 36, .inl g8) := (congrFun e_f90 th).trans (z_up_ne (z_tne hf_th hf_du (m := 388) (n := 41700) rfl rfl (by decide)) hf_th)
          have hf_se : f90 se = .inl (cy 1, 36, .inl g17) := (congrFun e_f90 se).trans (z_up_ne (z_tne hf_se hf_du (m := 388) (n := 41700) rfl rfl (by decide)) hf_se)
          have hf_fo : f90 fo = .inl (cy 1, 180, .inl gfo) := (congrFun e_f90 fo).trans (z_up_ne (z_tne hf_fo hf_du (m := 1540) (n := 41700) rfl rfl (by decide)) hf_fo)
          have hf_cn : f90 cn = .inl (cy 1, 36, .inl g75) := (congrFun e_f90 cn).trans (z_up_ne (z_tne hf_cn hf_du (m := 388) (n := 41700) rfl rfl (by decide)) hf_cn)
          have hf_ct : f90 ct = .inl (cy 1, 4, .inl g86) := (congrFun e_f90 ct).trans (z_up_ne (z_tne hf_ct hf_du (m := 132) (n := 41700) rfl rfl (by decide)) hf_ct)
          have hf_db : f90 db = .inl (cy 1, 5, .inl gdb) := (congrFun e_f90 db).trans (z_up_ne (z_tne hf_db hf_du (m := 140) (n := 41700) rfl rfl (by decide)) hf_db)
          have hf_du : f90 du = .inl (cy 1, 5200, .inl (upd gdu w88.toNatClampNeg ti)) := (congrFun e_f90 du).trans z_up_self
          have hfr : ∀ b ∈ L, b ≠ mm → b ≠ th → b ≠ se → b ≠ cn → b ≠ ct → b ≠ du → b ≠ db → f90 b = f b := fun b hb h0 h1 h2 h3 h4 h5 h6 => (congrFun e_f90 b).trans (z_up_ne h5 (hfr b hb h0 h1 h2 h3 h4 h5 h6))
          obtain ⟨g89, e_g89⟩ : ∃ z, z = (upd gdu w88.toNatClampNeg ti) := ⟨_, rfl⟩
          rw [← e_g89] at hf_du
          have hq_du : ∀ j : Nat, q_du j (g89 j) := z_updQ hq_du e_g89 (show q_du _ _ from fun h => absurd h (z_nmod4 i_w88 (k := 0) (by omega) (by decide)))
          refine lv_aload_n hx hb dX10_passes_200 rfl (lv_at hl 3 rfl) ?_
          refine z_get (C := RX10) (T := TX10) (N := 54) (ci := 10) (v := .ref du) hx hb hT zin_X10 hown hK hw hm_mm hf_mm rfl 37 (by decide) (hT _ kw_1205) rfl dX10_passes_201 ?_
          refine lv_iconst (v := 4) hx hb dX10_passes_204 (by decide) ?_
          refine lv_aload_n hx hb dX10_passes_205 rfl (lv_at hl 3 rfl) ?_
          refine z_get (C := RX10) (T := TX10) (N := 54) (ci := 10) (v := .int m38) hx hb hT zin_X10 hown hK hw hm_mm hf_mm rfl 38 (by decide) (hT _ kw_1206) rfl dX10_passes_206 ?_
          refine lv_imul hx hb dX10_passes_209 ?_
          refine lv_topi (fun w91 e_w91 => ?_)
          have i_w91 : w91.toInt = (4 * m38.toInt) := z_mul e_w91 (show (4 : Int32).toInt = 4 by decide) rfl (by omega)
          refine lv_iconst (v := 1) hx hb dX10_passes_210 (by decide) ?_
          refine lv_iadd hx hb dX10_passes_211 ?_
          refine lv_topi (fun w92 e_w92 => ?_)
          have i_w92 : w92.toInt = ((4 * m38.toInt) + 1) := z_add e_w92 i_w91 (show (1 : Int32).toInt = 1 by decide) (by omega)
          refine lv_iload hx hb dX10_passes_212 (lv_at hl 2 rfl) ?_
          refine z_iast hx hb hK hw 1 hm_du hf_du rfl (z_ix i_w92 (by omega)) dX10_passes_214 (fun H locs hw => ?_)
          obtain ⟨f94, e_f94⟩ : ∃ z, z = va_up f90 du (.inl (cy 1, 5200, .inl (upd g89 w92.toNatClampNeg r2))) := ⟨_, rfl⟩
          rw [← e_f94] at hw
          have hf_mm : f94 mm = .inr (10, [.int m0, .ref wd, .ref my, .ref ce, .ref mv, .ref ta, .int m6, .int m7, .int m8, .int m9, .int m10, .long m11, .int m12, .int m13, .int m14, .int m15, .ref li, .ref ha, .ref lw, .ref st, .ref fo, .ref dr, .int m22, .ref ik, .int m24, .int m25, .long m26, .int m27, .int m28, .ref ro, .int m30, .ref ct, .ref se, .ref th, .ref cn, .ref be, .int m36, .ref du, .int m38, .ref db, .int m40, .int m41, .int m42, .ref pn, .ref wg, .ref wh, .ref tn, .ref he, .int m48, .ref tr, .ref fd, .ref po, .int m52, .int m53]) := (congrFun e_f94 mm).trans (z_up_ne (z_tne hf_mm hf_du (m := 10) (n := 41700) rfl rfl (by decide)) hf_mm)
          have hf_dr : f94 dr = .inl (cy 1, 520, .inl gdr) := (congrFun e_f94 dr).trans (z_up_ne (z_tne hf_dr hf_du (m := 4260) (n := 41700) rfl rfl (by decide)) hf_dr)
          have hf_lw : f94 lw = .inl (cy 1, 25, .inl glw) := (congrFun e_f94 lw).trans (z_up_ne (z_tne hf_lw hf_du (m := 300) (n := 41700) rfl rfl (by decide)) hf_lw)
          have hf_ha : f94 ha = .inl (cy 1, 30, .inl gha) := (congrFun e_f94 ha).trans (z_up_ne (z_tne hf_ha hf_du (m := 340) (n := 41700) rfl rfl (by decide)) hf_ha)
          have hf_th : f94 th = .inl (cy 1, 36, .inl g8) := (congrFun e_f94 th).trans (z_up_ne (z_tne hf_th hf_du (m := 388) (n := 41700) rfl rfl (by decide)) hf_th)
          have hf_se : f94 se = .inl (cy 1, 36, .inl g17) := (congrFun e_f94 se).trans (z_up_ne (z_tne hf_se hf_du (m := 388) (n := 41700) rfl rfl (by decide)) hf_se)
          have hf_fo : f94 fo = .inl (cy 1, 180, .inl gfo) := (congrFun e_f94 fo).trans (z_up_ne (z_tne hf_fo hf_du (m := 1540) (n := 41700) rfl rfl (by decide)) hf_fo)
          have hf_cn : f94 cn = .inl (cy 1, 36, .inl g75) := (congrFun e_f94 cn).trans (z_up_ne (z_tne hf_cn hf_du (m := 388) (n := 41700) rfl rfl (by decide)) hf_cn)
          have hf_ct : f94 ct = .inl (cy 1, 4, .inl g86) := (congrFun e_f94 ct).trans (z_up_ne (z_tne hf_ct hf_du (m := 132) (n := 41700) rfl rfl (by decide)) hf_ct)
          have hf_db : f94 db = .inl (cy 1, 5, .inl gdb) := (congrFun e_f94 db).trans (z_up_ne (z_tne hf_db hf_du (m := 140) (n := 41700) rfl rfl (by decide)) hf_db)
          have hf_du : f94 du = .inl (cy 1, 5200, .inl (upd g89 w92.toNatClampNeg r2)) := (congrFun e_f94 du).trans z_up_self
          have hfr : ∀ b ∈ L, b ≠ mm → b ≠ th → b ≠ se → b ≠ cn → b ≠ ct → b ≠ du → b ≠ db → f94 b = f b := fun b hb h0 h1 h2 h3 h4 h5 h6 => (congrFun e_f94 b).trans (z_up_ne h5 (hfr b hb h0 h1 h2 h3 h4 h5 h6))
          obtain ⟨g93, e_g93⟩ : ∃ z, z = (upd g89 w92.toNatClampNeg r2) := ⟨_, rfl⟩
          rw [← e_g93] at hf_du
          have hq_du : ∀ j : Nat, q_du j (g93 j) := z_updQ hq_du e_g93 (show q_du _ _ from fun h => absurd h (z_nmod4 i_w92 (k := 1) (by omega) (by decide)))
          refine lv_aload_n hx hb dX10_passes_215 rfl (lv_at hl 3 rfl) ?_
          refine z_get (C := RX10) (T := TX10) (N := 54) (ci := 10) (v := .ref du) hx hb hT zin_X10 hown hK hw hm_mm hf_mm rfl 37 (by decide) (hT _ kw_1205) rfl dX10_passes_216 ?_
          refine lv_iconst (v := 4) hx hb dX10_passes_219 (by decide) ?_
          refine lv_aload_n hx hb dX10_passes_220 rfl (lv_at hl 3 rfl) ?_
          refine z_get (C := RX10) (T := TX10) (N := 54) (ci := 10) (v := .int m38) hx hb hT zin_X10 hown hK hw hm_mm hf_mm rfl 38 (by decide) (hT _ kw_1206) rfl dX10_passes_221 ?_
          refine lv_imul hx hb dX10_passes_224 ?_
          refine lv_topi (fun w95 e_w95 => ?_)
          have i_w95 : w95.toInt = (4 * m38.toInt) := z_mul e_w95 (show (4 : Int32).toInt = 4 by decide) rfl (by omega)
          refine lv_iconst (v := 2) hx hb dX10_passes_225 (by decide) ?_
          refine lv_iadd hx hb dX10_passes_226 ?_
          refine lv_topi (fun w96 e_w96 => ?_)
          have i_w96 : w96.toInt = ((4 * m38.toInt) + 2) := z_add e_w96 i_w95 (show (2 : Int32).toInt = 2 by decide) (by omega)
          refine lv_iload_n hx hb dX10_passes_227 rfl (lv_at hl 4 rfl) ?_
          refine z_iast hx hb hK hw 1 hm_du hf_du rfl (z_ix i_w96 (by omega)) dX10_passes_228 (fun H locs hw => ?_)
          obtain ⟨f98, e_f98⟩ : ∃ z, z = va_up f94 du (.inl (cy 1, 5200, .inl (upd g93 w96.toNatClampNeg kk))) := ⟨_, rfl⟩
          rw [← e_f98] at hw
          have hf_mm : f98 mm = .inr (10, [.int m0, .ref wd, .ref my, .ref ce, .ref mv, .ref ta, .int m6, .int m7, .int m8, .int m9, .int m10, .long m11, .int m12, .int m13, .int m14, .int m15, .ref li, .ref ha, .ref lw, .ref st, .ref fo, .ref dr, .int m22, .ref ik, .int m24, .int m25, .long m26, .int m27, .int m28, .ref ro, .int m30, .ref ct, .ref se, .ref th, .ref cn, .ref be, .int m36, .ref du, .int m38, .ref db, .int m40, .int m41, .int m42, .ref pn, .ref wg, .ref wh, .ref tn, .ref he, .int m48, .ref tr, .ref fd, .ref po, .int m52, .int m53]) := (congrFun e_f98 mm).trans (z_up_ne (z_tne hf_mm hf_du (m := 10) (n := 41700) rfl rfl (by decide)) hf_mm)
          have hf_dr : f98 dr = .inl (cy 1, 520, .inl gdr) := (congrFun e_f98 dr).trans (z_up_ne (z_tne hf_dr hf_du (m := 4260) (n := 41700) rfl rfl (by decide)) hf_dr)
          have hf_lw : f98 lw = .inl (cy 1, 25, .inl glw) := (congrFun e_f98 lw).trans (z_up_ne (z_tne hf_lw hf_du (m := 300) (n := 41700) rfl rfl (by decide)) hf_lw)
          have hf_ha : f98 ha = .inl (cy 1, 30, .inl gha) := (congrFun e_f98 ha).trans (z_up_ne (z_tne hf_ha hf_du (m := 340) (n := 41700) rfl rfl (by decide)) hf_ha)
          have hf_th : f98 th = .inl (cy 1, 36, .inl g8) := (congrFun e_f98 th).trans (z_up_ne (z_tne hf_th hf_du (m := 388) (n := 41700) rfl rfl (by decide)) hf_th)
          have hf_se : f98 se = .inl (cy 1, 36, .inl g17) := (congrFun e_f98 se).trans (z_up_ne (z_tne hf_se hf_du (m := 388) (n := 41700) rfl rfl (by decide)) hf_se)
          have hf_fo : f98 fo = .inl (cy 1, 180, .inl gfo) := (congrFun e_f98 fo).trans (z_up_ne (z_tne hf_fo hf_du (m := 1540) (n := 41700) rfl rfl (by decide)) hf_fo)
          have hf_cn : f98 cn = .inl (cy 1, 36, .inl g75) := (congrFun e_f98 cn).trans (z_up_ne (z_tne hf_cn hf_du (m := 388) (n := 41700) rfl rfl (by decide)) hf_cn)
          have hf_ct : f98 ct = .inl (cy 1, 4, .inl g86) := (congrFun e_f98 ct).trans (z_up_ne (z_tne hf_ct hf_du (m := 132) (n := 41700) rfl rfl (by decide)) hf_ct)
          have hf_db : f98 db = .inl (cy 1, 5, .inl gdb) := (congrFun e_f98 db).trans (z_up_ne (z_tne hf_db hf_du (m := 140) (n := 41700) rfl rfl (by decide)) hf_db)
          have hf_du : f98 du = .inl (cy 1, 5200, .inl (upd g93 w96.toNatClampNeg kk)) := (congrFun e_f98 du).trans z_up_self
          have hfr : ∀ b ∈ L, b ≠ mm → b ≠ th → b ≠ se → b ≠ cn → b ≠ ct → b ≠ du → b ≠ db → f98 b = f b := fun b hb h0 h1 h2 h3 h4 h5 h6 => (congrFun e_f98 b).trans (z_up_ne h5 (hfr b hb h0 h1 h2 h3 h4 h5 h6))
          obtain ⟨g97, e_g97⟩ : ∃ z, z = (upd g93 w96.toNatClampNeg kk) := ⟨_, rfl⟩
          rw [← e_g97] at hf_du
          have hq_du : ∀ j : Nat, q_du j (g97 j) := z_updQ hq_du e_g97 (show q_du _ _ from fun h => (show 0 ≤ (kk : Int32).toInt ∧ (kk : Int32).toInt ≤ 12 by first | decide | omega))
          refine lv_aload_n hx hb dX10_passes_229 rfl (lv_at hl 3 rfl) ?_
          refine z_get (C := RX10) (T := TX10) (N := 54) (ci := 10) (v := .ref du) hx hb hT zin_X10 hown hK hw hm_mm hf_mm rfl 37 (by decide) (hT _ kw_1205) rfl dX10_passes_230 ?_
          refine lv_iconst (v := 4) hx hb dX10_passes_233 (by decide) ?_
          refine lv_aload_n hx hb dX10_passes_234 rfl (lv_at hl 3 rfl) ?_
          refine z_get (C := RX10) (T := TX10) (N := 54) (ci := 10) (v := .int m38) hx hb hT zin_X10 hown hK hw hm_mm hf_mm rfl 38 (by decide) (hT _ kw_1206) rfl dX10_passes_235 ?_
          refine lv_imul hx hb dX10_passes_238 ?_
          refine lv_topi (fun w99 e_w99 => ?_)
          have i_w99 : w99.toInt = (4 * m38.toInt) := z_mul e_w99 (show (4 : Int32).toInt = 4 by decide) rfl (by omega)
          refine lv_iconst (v := 3) hx hb dX10_passes_239 (by decide) ?_
          refine lv_iadd hx hb dX10_passes_240 ?_
          refine lv_topi (fun w100 e_w100 => ?_)
          have i_w100 : w100.toInt = ((4 * m38.toInt) + 3) := z_add e_w100 i_w99 (show (3 : Int32).toInt = 3 by decide) (by omega)
          refine lv_iload_n hx hb dX10_passes_241 rfl (lv_at hl 5 rfl) ?_
          refine z_iast hx hb hK hw 1 hm_du hf_du rfl (z_ix i_w100 (by omega)) dX10_passes_242 (fun H locs hw => ?_)
          obtain ⟨f102, e_f102⟩ : ∃ z, z = va_up f98 du (.inl (cy 1, 5200, .inl (upd g97 w100.toNatClampNeg pl))) := ⟨_, rfl⟩
          rw [← e_f102] at hw
          have hf_mm : f102 mm = .inr (10, [.int m0, .ref wd, .ref my, .ref ce, .ref mv, .ref ta, .int m6, .int m7, .int m8, .int m9, .int m10, .long m11, .int m12, .int m13, .int m14, .int m15, .ref li, .ref ha, .ref lw, .ref st, .ref fo, .ref dr, .int m22, .ref ik, .int m24, .int m25, .long m26, .int m27, .int m28, .ref ro, .int m30, .ref ct, .ref se, .ref th, .ref cn, .ref be, .int m36, .ref du, .int m38, .ref db, .int m40, .int m41, .int m42, .ref pn, .ref wg, .ref wh, .ref tn, .ref he, .int m48, .ref tr, .ref fd, .ref po, .int m52, .int m53]) := (congrFun e_f102 mm).trans (z_up_ne (z_tne hf_mm hf_du (m := 10) (n := 41700) rfl rfl (by decide)) hf_mm)
          have hf_dr : f102 dr = .inl (cy 1, 520, .inl gdr) := (congrFun e_f102 dr).trans (z_up_ne (z_tne hf_dr hf_du (m := 4260) (n := 41700) rfl rfl (by decide)) hf_dr)
          have hf_lw : f102 lw = .inl (cy 1, 25, .inl glw) := (congrFun e_f102 lw).trans (z_up_ne (z_tne hf_lw hf_du (m := 300) (n := 41700) rfl rfl (by decide)) hf_lw)
          have hf_ha : f102 ha = .inl (cy 1, 30, .inl gha) := (congrFun e_f102 ha).trans (z_up_ne (z_tne hf_ha hf_du (m := 340) (n := 41700) rfl rfl (by decide)) hf_ha)
          have hf_th : f102 th = .inl (cy 1, 36, .inl g8) := (congrFun e_f102 th).trans (z_up_ne (z_tne hf_th hf_du (m := 388) (n := 41700) rfl rfl (by decide)) hf_th)
          have hf_se : f102 se = .inl (cy 1, 36, .inl g17) := (congrFun e_f102 se).trans (z_up_ne (z_tne hf_se hf_du (m := 388) (n := 41700) rfl rfl (by decide)) hf_se)
          have hf_fo : f102 fo = .inl (cy 1, 180, .inl gfo) := (congrFun e_f102 fo).trans (z_up_ne (z_tne hf_fo hf_du (m := 1540) (n := 41700) rfl rfl (by decide)) hf_fo)
          have hf_cn : f102 cn = .inl (cy 1, 36, .inl g75) := (congrFun e_f102 cn).trans (z_up_ne (z_tne hf_cn hf_du (m := 388) (n := 41700) rfl rfl (by decide)) hf_cn)
          have hf_ct : f102 ct = .inl (cy 1, 4, .inl g86) := (congrFun e_f102 ct).trans (z_up_ne (z_tne hf_ct hf_du (m := 132) (n := 41700) rfl rfl (by decide)) hf_ct)
          have hf_db : f102 db = .inl (cy 1, 5, .inl gdb) := (congrFun e_f102 db).trans (z_up_ne (z_tne hf_db hf_du (m := 140) (n := 41700) rfl rfl (by decide)) hf_db)
          have hf_du : f102 du = .inl (cy 1, 5200, .inl (upd g97 w100.toNatClampNeg pl)) := (congrFun e_f102 du).trans z_up_self
          have hfr : ∀ b ∈ L, b ≠ mm → b ≠ th → b ≠ se → b ≠ cn → b ≠ ct → b ≠ du → b ≠ db → f102 b = f b := fun b hb h0 h1 h2 h3 h4 h5 h6 => (congrFun e_f102 b).trans (z_up_ne h5 (hfr b hb h0 h1 h2 h3 h4 h5 h6))
          obtain ⟨g101, e_g101⟩ : ∃ z, z = (upd g97 w100.toNatClampNeg pl) := ⟨_, rfl⟩
          rw [← e_g101] at hf_du
          have hq_du : ∀ j : Nat, q_du j (g101 j) := z_updQ hq_du e_g101 (show q_du _ _ from fun h => absurd h (z_nmod4 i_w100 (k := 3) (by omega) (by decide)))
          refine lv_aload_n hx hb dX10_passes_243 rfl (lv_at hl 3 rfl) ?_
          refine lv_dup hx hb dX10_passes_244 rfl ?_
          refine z_get (C := RX10) (T := TX10) (N := 54) (ci := 10) (v := .int m38) hx hb hT zin_X10 hown hK hw hm_mm hf_mm rfl 38 (by decide) (hT _ kw_1206) rfl dX10_passes_245 ?_
          refine lv_iconst (v := 1) hx hb dX10_passes_248 (by decide) ?_
          refine lv_iadd hx hb dX10_passes_249 ?_
          refine lv_topi (fun w103 e_w103 => ?_)
          have i_w103 : w103.toInt = (m38.toInt + 1) := z_add e_w103 rfl (show (1 : Int32).toInt = 1 by decide) (by omega)
          refine z_put (C := RX10) (T := TX10) (N := 54) (ci := 10) (v := .int w103) (fs' := [.int m0, .ref wd, .ref my, .ref ce, .ref mv, .ref ta, .int m6, .int m7, .int m8, .int m9, .int m10, .long m11, .int m12, .int m13, .int m14, .int m15, .ref li, .ref ha, .ref lw, .ref st, .ref fo, .ref dr, .int m22, .ref ik, .int m24, .int m25, .long m26, .int m27, .int m28, .ref ro, .int m30, .ref ct, .ref se, .ref th, .ref cn, .ref be, .int m36, .ref du, .int w103, .ref db, .int m40, .int m41, .int m42, .ref pn, .ref wg, .ref wh, .ref tn, .ref he, .int m48, .ref tr, .ref fd, .ref po, .int m52, .int m53]) hx hb hT zin_X10 tyX10_ok nmX10 hown hK hw hm_mm hf_mm rfl 38 (by decide) (hT _ kw_1206) rfl rfl rfl (Nat.le_of_ble_eq_true rfl) rfl dX10_passes_250 (fun H locs hw => ?_)
          obtain ⟨f104, e_f104⟩ : ∃ z, z = va_up f102 mm (.inr (10, [.int m0, .ref wd, .ref my, .ref ce, .ref mv, .ref ta, .int m6, .int m7, .int m8, .int m9, .int m10, .long m11, .int m12, .int m13, .int m14, .int m15, .ref li, .ref ha, .ref lw, .ref st, .ref fo, .ref dr, .int m22, .ref ik, .int m24, .int m25, .long m26, .int m27, .int m28, .ref ro, .int m30, .ref ct, .ref se, .ref th, .ref cn, .ref be, .int m36, .ref du, .int w103, .ref db, .int m40, .int m41, .int m42, .ref pn, .ref wg, .ref wh, .ref tn, .ref he, .int m48, .ref tr, .ref fd, .ref po, .int m52, .int m53])) := ⟨_, rfl⟩
          rw [← e_f104] at hw
          have hf_dr : f104 dr = .inl (cy 1, 520, .inl gdr) := (congrFun e_f104 dr).trans (z_up_ne (z_tne hf_dr hf_mm (m := 4260) (n := 10) rfl rfl (by decide)) hf_dr)
          have hf_lw : f104 lw = .inl (cy 1, 25, .inl glw) := (congrFun e_f104 lw).trans (z_up_ne (z_tne hf_lw hf_mm (m := 300) (n := 10) rfl rfl (by decide)) hf_lw)
          have hf_ha : f104 ha = .inl (cy 1, 30, .inl gha) := (congrFun e_f104 ha).trans (z_up_ne (z_tne hf_ha hf_mm (m := 340) (n := 10) rfl rfl (by decide)) hf_ha)
          have hf_th : f104 th = .inl (cy 1, 36, .inl g8) := (congrFun e_f104 th).trans (z_up_ne (z_tne hf_th hf_mm (m := 388) (n := 10) rfl rfl (by decide)) hf_th)
          have hf_se : f104 se = .inl (cy 1, 36, .inl g17) := (congrFun e_f104 se).trans (z_up_ne (z_tne hf_se hf_mm (m := 388) (n := 10) rfl rfl (by decide)) hf_se)
          have hf_fo : f104 fo = .inl (cy 1, 180, .inl gfo) := (congrFun e_f104 fo).trans (z_up_ne (z_tne hf_fo hf_mm (m := 1540) (n := 10) rfl rfl (by decide)) hf_fo)
          have hf_cn : f104 cn = .inl (cy 1, 36, .inl g75) := (congrFun e_f104 cn).trans (z_up_ne (z_tne hf_cn hf_mm (m := 388) (n := 10) rfl rfl (by decide)) hf_cn)
          have hf_ct : f104 ct = .inl (cy 1, 4, .inl g86) := (congrFun e_f104 ct).trans (z_up_ne (z_tne hf_ct hf_mm (m := 132) (n := 10) rfl rfl (by decide)) hf_ct)
          have hf_du : f104 du = .inl (cy 1, 5200, .inl g101) := (congrFun e_f104 du).trans (z_up_ne (z_tne hf_du hf_mm (m := 41700) (n := 10) rfl rfl (by decide)) hf_du)
          have hf_db : f104 db = .inl (cy 1, 5, .inl gdb) := (congrFun e_f104 db).trans (z_up_ne (z_tne hf_db hf_mm (m := 140) (n := 10) rfl rfl (by decide)) hf_db)
          have hf_mm : f104 mm = .inr (10, [.int m0, .ref wd, .ref my, .ref ce, .ref mv, .ref ta, .int m6, .int m7, .int m8, .int m9, .int m10, .long m11, .int m12, .int m13, .int m14, .int m15, .ref li, .ref ha, .ref lw, .ref st, .ref fo, .ref dr, .int m22, .ref ik, .int m24, .int m25, .long m26, .int m27, .int m28, .ref ro, .int m30, .ref ct, .ref se, .ref th, .ref cn, .ref be, .int m36, .ref du, .int w103, .ref db, .int m40, .int m41, .int m42, .ref pn, .ref wg, .ref wh, .ref tn, .ref he, .int m48, .ref tr, .ref fd, .ref po, .int m52, .int m53]) := (congrFun e_f104 mm).trans z_up_self
          have hfr : ∀ b ∈ L, b ≠ mm → b ≠ th → b ≠ se → b ≠ cn → b ≠ ct → b ≠ du → b ≠ db → f104 b = f b := fun b hb h0 h1 h2 h3 h4 h5 h6 => (congrFun e_f104 b).trans (z_up_ne h0 (hfr b hb h0 h1 h2 h3 h4 h5 h6))
          refine lv_aload_n hx hb dX10_passes_253 rfl (lv_at hl 3 rfl) ?_
          refine z_get (C := RX10) (T := TX10) (N := 54) (ci := 10) (v := .ref db) hx hb hT zin_X10 hown hK hw hm_mm hf_mm rfl 39 (by decide) (hT _ kw_1207) rfl dX10_passes_254 ?_
          refine lv_aload_n hx hb dX10_passes_257 rfl (lv_at hl 3 rfl) ?_
          refine lv_iload_n hx hb dX10_passes_258 rfl (lv_at hl 4 rfl) ?_
          refine lv_bipush (v := 6) hx hb dX10_passes_259 (by decide) ?_
          have hz105 := (show (6 : Int32).toInt = 6 by decide)
          refine z_calliV (cells := 0) (slots := 0) (b := mm) (As := [.int kk, .int 6]) (rest := [.ref db]) (ci := 10) (q0 := (RX10, TX10, 54)) ⟨hx, hb, hml, hown, hT⟩ (c_X10_of l hm_mm hm_dr hf_mm hf_dr hq_dr (by first | omega | decide | assumption) (by decide)) (cwV 2 hT (z_goodV (fun _ h => h) kw_1487 kw_1489 kw_51 kw_96 kw_1490) rfl rfl rfl (by decide +kernel) ⟨by decide, by decide⟩) z_mv hKK hK hw hA hm_mm hf_mm rfl rfl rfl hl.1 rfl (Nat.le_of_ble_eq_true rfl) dX10_passes_261 ⟨by decide, by decide⟩ (fun r106 u H locs hp hw => ?_)
          obtain ⟨rfl, hp⟩ := hp
          have hw : z_H D vwCl (z_A L sz) s.heap L f104 H locs := hw
          have hof_r106 : r106 = gdr (8 * kk.toNatClampNeg + 6) := hp
          have hh_r106 : 0 ≤ r106.toInt ∧ r106.toInt ≤ 4 := by rw [hof_r106]; exact (hq_dr _).2.2.2.2.2.2.1 (by omega)
          refine lv_dup2_11 hx hb dX10_passes_264 rfl rfl ?_
          refine z_iald hx hb hK hw 1 hm_db hf_db rfl (z_ix rfl (by omega)) dX10_passes_265 ?_
          refine lv_topi (fun w107 e_w107 => ?_)
          refine lv_iconst (v := 1) hx hb dX10_passes_266 (by decide) ?_
          refine lv_iadd hx hb dX10_passes_267 ?_
          refine lv_topi (fun w108 e_w108 => ?_)
          refine z_iast hx hb hK hw 1 hm_db hf_db rfl (z_ix rfl (by omega)) dX10_passes_268 (fun H locs hw => ?_)
          obtain ⟨f110, e_f110⟩ : ∃ z, z = va_up f104 db (.inl (cy 1, 5, .inl (upd gdb r106.toNatClampNeg w108))) := ⟨_, rfl⟩
          rw [← e_f110] at hw
          have hf_mm : f110 mm = .inr (10, [.int m0, .ref wd, .ref my, .ref ce, .ref mv, .ref ta, .int m6, .int m7, .int m8, .int m9, .int m10, .long m11, .int m12, .int m13, .int m14, .int m15, .ref li, .ref ha, .ref lw, .ref st, .ref fo, .ref dr, .int m22, .ref ik, .int m24, .int m25, .long m26, .int m27, .int m28, .ref ro, .int m30, .ref ct, .ref se, .ref th, .ref cn, .ref be, .int m36, .ref du, .int w103, .ref db, .int m40, .int m41, .int m42, .ref pn, .ref wg, .ref wh, .ref tn, .ref he, .int m48, .ref tr, .ref fd, .ref po, .int m52, .int m53]) := (congrFun e_f110 mm).trans (z_up_ne (z_tne hf_mm hf_db (m := 10) (n := 140) rfl rfl (by decide)) hf_mm)
          have hf_dr : f110 dr = .inl (cy 1, 520, .inl gdr) := (congrFun e_f110 dr).trans (z_up_ne (z_tne hf_dr hf_db (m := 4260) (n := 140) rfl rfl (by decide)) hf_dr)
          have hf_lw : f110 lw = .inl (cy 1, 25, .inl glw) := (congrFun e_f110 lw).trans (z_up_ne (z_tne hf_lw hf_db (m := 300) (n := 140) rfl rfl (by decide)) hf_lw)
          have hf_ha : f110 ha = .inl (cy 1, 30, .inl gha) := (congrFun e_f110 ha).trans (z_up_ne (z_tne hf_ha hf_db (m := 340) (n := 140) rfl rfl (by decide)) hf_ha)
          have hf_th : f110 th = .inl (cy 1, 36, .inl g8) := (congrFun e_f110 th).trans (z_up_ne (z_tne hf_th hf_db (m := 388) (n := 140) rfl rfl (by decide)) hf_th)
          have hf_se : f110 se = .inl (cy 1, 36, .inl g17) := (congrFun e_f110 se).trans (z_up_ne (z_tne hf_se hf_db (m := 388) (n := 140) rfl rfl (by decide)) hf_se)
          have hf_fo : f110 fo = .inl (cy 1, 180, .inl gfo) := (congrFun e_f110 fo).trans (z_up_ne (z_tne hf_fo hf_db (m := 1540) (n := 140) rfl rfl (by decide)) hf_fo)
          have hf_cn : f110 cn = .inl (cy 1, 36, .inl g75) := (congrFun e_f110 cn).trans (z_up_ne (z_tne hf_cn hf_db (m := 388) (n := 140) rfl rfl (by decide)) hf_cn)
          have hf_ct : f110 ct = .inl (cy 1, 4, .inl g86) := (congrFun e_f110 ct).trans (z_up_ne (z_tne hf_ct hf_db (m := 132) (n := 140) rfl rfl (by decide)) hf_ct)
          have hf_du : f110 du = .inl (cy 1, 5200, .inl g101) := (congrFun e_f110 du).trans (z_up_ne (z_tne hf_du hf_db (m := 41700) (n := 140) rfl rfl (by decide)) hf_du)
          have hf_db : f110 db = .inl (cy 1, 5, .inl (upd gdb r106.toNatClampNeg w108)) := (congrFun e_f110 db).trans z_up_self
          have hfr : ∀ b ∈ L, b ≠ mm → b ≠ th → b ≠ se → b ≠ cn → b ≠ ct → b ≠ du → b ≠ db → f110 b = f b := fun b hb h0 h1 h2 h3 h4 h5 h6 => (congrFun e_f110 b).trans (z_up_ne h6 (hfr b hb h0 h1 h2 h3 h4 h5 h6))
          obtain ⟨g109, e_g109⟩ : ∃ z, z = (upd gdb r106.toNatClampNeg w108) := ⟨_, rfl⟩
          rw [← e_g109] at hf_db
          exact z_vret hx hb hr hlk (by decide) (by decide) hw (⟨hsub, hfr, w103, g8, g17, g75, g86, g101, g109, hf_mm, hf_th, hf_se, hf_cn, hf_ct, hf_du, hf_db, hq_ct, hq_du, by omega, by omega⟩) dX10_passes_269
        · skip
          have hq_ct : ∀ j : Nat, q_law j (g81 j) := z_updQ hq_ct e_g81 (show 0 ≤ (w80 : Int32).toInt ∧ (w80 : Int32).toInt ≤ 999 by omega)
          exact z_vret hx hb hr hlk (by decide) (by decide) hw (⟨hsub, hfr, m38, g8, g17, g75, g81, gdu, gdb, hf_mm, hf_th, hf_se, hf_cn, hf_ct, hf_du, hf_db, hq_ct, hq_du, by omega, by omega⟩) dX10_passes_179
      · skip
        exact z_vret hx hb hr hlk (by decide) (by decide) hw (⟨hsub, hfr, m38, g8, g17, gcn, gct, gdu, gdb, hf_mm, hf_th, hf_se, hf_cn, hf_ct, hf_du, hf_db, hq_ct, hq_du, by omega, by omega⟩) dX10_passes_126
  · skip
    refine lv_aload_n hx hb dX10_passes_41 rfl (lv_at hl 2 rfl) ?_
    refine z_get (C := RX10) (T := TX10) (N := 54) (ci := 10) (v := .ref lw) hx hb hT zin_X10 hown hK hw hm_mm hf_mm rfl 18 (by decide) (hT _ kw_1186) rfl dX10_passes_42 ?_
    refine lv_iconst (v := 2) hx hb dX10_passes_45 (by decide) ?_
    refine z_iald hx hb hK hw 1 hm_lw hf_lw rfl (z_ix (show (2 : Int32).toInt = 2 by decide) (by decide)) dX10_passes_46 ?_
    refine lv_topi (fun w111 e_w111 => ?_)
    have hv_w111 : 0 ≤ w111.toInt ∧ w111.toInt ≤ 999 := by rw [e_w111]; exact hq_lw _
    refine lv_iconst (v := 1) hx hb dX10_passes_47 (by decide) ?_
    refine z_icmp_eq (tgt := 62) hx hb rfl (show (1 : Int32).toInt = 1 by decide) dX10_passes_48 (by decide) (fun c112 => ?_) (fun c112 => ?_)
    · skip
      exact z_vret hx hb hr hlk (by decide) (by decide) hw (⟨hsub, hfr, m38, g8, gse, gcn, gct, gdu, gdb, hf_mm, hf_th, hf_se, hf_cn, hf_ct, hf_du, hf_db, hq_ct, hq_du, by omega, by omega⟩) dX10_passes_62
    · skip
      refine lv_iload hx hb dX10_passes_51 (lv_at hl 0 rfl) ?_
      refine lv_aload_n hx hb dX10_passes_53 rfl (lv_at hl 2 rfl) ?_
      refine z_get (C := RX10) (T := TX10) (N := 54) (ci := 10) (v := .ref ha) hx hb hT zin_X10 hown hK hw hm_mm hf_mm rfl 17 (by decide) (hT _ kw_1185) rfl dX10_passes_54 ?_
      refine lv_iconst (v := 5) hx hb dX10_passes_57 (by decide) ?_
      refine z_iald hx hb hK hw 1 hm_ha hf_ha rfl (z_ix (show (5 : Int32).toInt = 5 by decide) (by decide)) dX10_passes_58 ?_
      refine lv_topi (fun w113 e_w113 => ?_)
      refine z_icmp_ge (tgt := 63) hx hb i_w3 rfl dX10_passes_59 (by decide) (fun c114 => ?_) (fun c114 => ?_)
      · skip
        refine lv_aload_n hx hb dX10_passes_63 rfl (lv_at hl 2 rfl) ?_
        refine z_get (C := RX10) (T := TX10) (N := 54) (ci := 10) (v := .ref se) hx hb hT zin_X10 hown hK hw hm_mm hf_mm rfl 32 (by decide) (hT _ kw_1200) rfl dX10_passes_64 ?_
        refine lv_bipush (v := 9) hx hb dX10_passes_67 (by decide) ?_
        refine lv_iload hx hb dX10_passes_69 (lv_at hl 1 rfl) ?_
        refine lv_imul hx hb dX10_passes_71 ?_
        refine lv_topi (fun w115 e_w115 => ?_)
        have i_w115 : w115.toInt = (9 * r2.toInt) := z_mul e_w115 (show (9 : Int32).toInt = 9 by decide) rfl (by omega)
        refine lv_iload hx hb dX10_passes_72 (lv_at hl 0 rfl) ?_
        refine lv_iadd hx hb dX10_passes_74 ?_
        refine lv_topi (fun w116 e_w116 => ?_)
        have i_w116 : w116.toInt = ((9 * r2.toInt) + (ti.toInt / 24)) := z_add e_w116 i_w115 i_w3 (by omega)
        refine lv_dup2_11 hx hb dX10_passes_75 rfl rfl ?_
        refine z_iald hx hb hK hw 1 hm_se hf_se rfl (z_ix i_w116 (by omega)) dX10_passes_76 ?_
        refine lv_topi (fun w117 e_w117 => ?_)
        refine lv_iconst (v := 1) hx hb dX10_passes_77 (by decide) ?_
        refine lv_iadd hx hb dX10_passes_78 ?_
        refine lv_topi (fun w118 e_w118 => ?_)
        refine z_iast hx hb hK hw 1 hm_se hf_se rfl (z_ix i_w116 (by omega)) dX10_passes_79 (fun H locs hw => ?_)
        obtain ⟨f120, e_f120⟩ : ∃ z, z = va_up f9 se (.inl (cy 1, 36, .inl (upd gse w116.toNatClampNeg w118))) := ⟨_, rfl⟩
        rw [← e_f120] at hw
        have hf_mm : f120 mm = .inr (10, [.int m0, .ref wd, .ref my, .ref ce, .ref mv, .ref ta, .int m6, .int m7, .int m8, .int m9, .int m10, .long m11, .int m12, .int m13, .int m14, .int m15, .ref li, .ref ha, .ref lw, .ref st, .ref fo, .ref dr, .int m22, .ref ik, .int m24, .int m25, .long m26, .int m27, .int m28, .ref ro, .int m30, .ref ct, .ref se, .ref th, .ref cn, .ref be, .int m36, .ref du, .int m38, .ref db, .int m40, .int m41, .int m42, .ref pn, .ref wg, .ref wh, .ref tn, .ref he, .int m48, .ref tr, .ref fd, .ref po, .int m52, .int m53]) := (congrFun e_f120 mm).trans (z_up_ne (z_tne hf_mm hf_se (m := 10) (n := 388) rfl rfl (by decide)) hf_mm)
        have hf_dr : f120 dr = .inl (cy 1, 520, .inl gdr) := (congrFun e_f120 dr).trans (z_up_ne (z_tne hf_dr hf_se (m := 4260) (n := 388) rfl rfl (by decide)) hf_dr)
        have hf_lw : f120 lw = .inl (cy 1, 25, .inl glw) := (congrFun e_f120 lw).trans (z_up_ne (z_tne hf_lw hf_se (m := 300) (n := 388) rfl rfl (by decide)) hf_lw)
        have hf_ha : f120 ha = .inl (cy 1, 30, .inl gha) := (congrFun e_f120 ha).trans (z_up_ne (z_tne hf_ha hf_se (m := 340) (n := 388) rfl rfl (by decide)) hf_ha)
        have hf_th : f120 th = .inl (cy 1, 36, .inl g8) := (congrFun e_f120 th).trans (z_up_ne ne_th_se hf_th)
        have hf_fo : f120 fo = .inl (cy 1, 180, .inl gfo) := (congrFun e_f120 fo).trans (z_up_ne (z_tne hf_fo hf_se (m := 1540) (n := 388) rfl rfl (by decide)) hf_fo)
        have hf_cn : f120 cn = .inl (cy 1, 36, .inl gcn) := (congrFun e_f120 cn).trans (z_up_ne (Ne.symm ne_se_cn) hf_cn)
        have hf_ct : f120 ct = .inl (cy 1, 4, .inl gct) := (congrFun e_f120 ct).trans (z_up_ne (z_tne hf_ct hf_se (m := 132) (n := 388) rfl rfl (by decide)) hf_ct)
        have hf_du : f120 du = .inl (cy 1, 5200, .inl gdu) := (congrFun e_f120 du).trans (z_up_ne (z_tne hf_du hf_se (m := 41700) (n := 388) rfl rfl (by decide)) hf_du)
        have hf_db : f120 db = .inl (cy 1, 5, .inl gdb) := (congrFun e_f120 db).trans (z_up_ne (z_tne hf_db hf_se (m := 140) (n := 388) rfl rfl (by decide)) hf_db)
        have hf_se : f120 se = .inl (cy 1, 36, .inl (upd gse w116.toNatClampNeg w118)) := (congrFun e_f120 se).trans z_up_self
        have hfr : ∀ b ∈ L, b ≠ mm → b ≠ th → b ≠ se → b ≠ cn → b ≠ ct → b ≠ du → b ≠ db → f120 b = f b := fun b hb h0 h1 h2 h3 h4 h5 h6 => (congrFun e_f120 b).trans (z_up_ne h2 (hfr b hb h0 h1 h2 h3 h4 h5 h6))
        obtain ⟨g119, e_g119⟩ : ∃ z, z = (upd gse w116.toNatClampNeg w118) := ⟨_, rfl⟩
        rw [← e_g119] at hf_se
        refine lv_aload_n hx hb dX10_passes_80 rfl (lv_at hl 2 rfl) ?_
        refine z_get (C := RX10) (T := TX10) (N := 54) (ci := 10) (v := .ref fo) hx hb hT zin_X10 hown hK hw hm_mm hf_mm rfl 20 (by decide) (hT _ kw_1188) rfl dX10_passes_81 ?_
        refine lv_bipush (v := 9) hx hb dX10_passes_84 (by decide) ?_
        refine lv_iload hx hb dX10_passes_86 (lv_at hl 1 rfl) ?_
        refine lv_imul hx hb dX10_passes_88 ?_
        refine lv_topi (fun w121 e_w121 => ?_)
        have i_w121 : w121.toInt = (9 * r2.toInt) := z_mul e_w121 (show (9 : Int32).toInt = 9 by decide) rfl (by omega)
        refine lv_iload hx hb dX10_passes_89 (lv_at hl 0 rfl) ?_
        refine lv_iadd hx hb dX10_passes_91 ?_
        refine lv_topi (fun w122 e_w122 => ?_)
        have i_w122 : w122.toInt = ((9 * r2.toInt) + (ti.toInt / 24)) := z_add e_w122 i_w121 i_w3 (by omega)
        refine z_iald hx hb hK hw 1 hm_fo hf_fo rfl (z_ix i_w122 (by omega)) dX10_passes_92 ?_
        refine lv_topi (fun w123 e_w123 => ?_)
        refine z_if_le (tgt := 127) hx hb rfl dX10_passes_93 (by decide) (fun c124 => ?_) (fun c124 => ?_)
        · skip
          refine lv_aload_n hx hb dX10_passes_127 rfl (lv_at hl 2 rfl) ?_
          refine z_get (C := RX10) (T := TX10) (N := 54) (ci := 10) (v := .ref cn) hx hb hT zin_X10 hown hK hw hm_mm hf_mm rfl 34 (by decide) (hT _ kw_1202) rfl dX10_passes_128 ?_
          refine lv_bipush (v := 9) hx hb dX10_passes_131 (by decide) ?_
          refine lv_iload hx hb dX10_passes_133 (lv_at hl 1 rfl) ?_
          refine lv_imul hx hb dX10_passes_135 ?_
          refine lv_topi (fun w125 e_w125 => ?_)
          have i_w125 : w125.toInt = (9 * r2.toInt) := z_mul e_w125 (show (9 : Int32).toInt = 9 by decide) rfl (by omega)
          refine lv_iload hx hb dX10_passes_136 (lv_at hl 0 rfl) ?_
          refine lv_iadd hx hb dX10_passes_138 ?_
          refine lv_topi (fun w126 e_w126 => ?_)
          have i_w126 : w126.toInt = ((9 * r2.toInt) + (ti.toInt / 24)) := z_add e_w126 i_w125 i_w3 (by omega)
          refine lv_dup2_11 hx hb dX10_passes_139 rfl rfl ?_
          refine z_iald hx hb hK hw 1 hm_cn hf_cn rfl (z_ix i_w126 (by omega)) dX10_passes_140 ?_
          refine lv_topi (fun w127 e_w127 => ?_)
          refine lv_iconst (v := 1) hx hb dX10_passes_141 (by decide) ?_
          refine lv_iadd hx hb dX10_passes_142 ?_
          refine lv_topi (fun w128 e_w128 => ?_)
          refine z_iast hx hb hK hw 1 hm_cn hf_cn rfl (z_ix i_w126 (by omega)) dX10_passes_143 (fun H locs hw => ?_)
          obtain ⟨f130, e_f130⟩ : ∃ z, z = va_up f120 cn (.inl (cy 1, 36, .inl (upd gcn w126.toNatClampNeg w128))) := ⟨_, rfl⟩
          rw [← e_f130] at hw
          have hf_mm : f130 mm = .inr (10, [.int m0, .ref wd, .ref my, .ref ce, .ref mv, .ref ta, .int m6, .int m7, .int m8, .int m9, .int m10, .long m11, .int m12, .int m13, .int m14, .int m15, .ref li, .ref ha, .ref lw, .ref st, .ref fo, .ref dr, .int m22, .ref ik, .int m24, .int m25, .long m26, .int m27, .int m28, .ref ro, .int m30, .ref ct, .ref se, .ref th, .ref cn, .ref be, .int m36, .ref du, .int m38, .ref db, .int m40, .int m41, .int m42, .ref pn, .ref wg, .ref wh, .ref tn, .ref he, .int m48, .ref tr, .ref fd, .ref po, .int m52, .int m53]) := (congrFun e_f130 mm).trans (z_up_ne (z_tne hf_mm hf_cn (m := 10) (n := 388) rfl rfl (by decide)) hf_mm)
          have hf_dr : f130 dr = .inl (cy 1, 520, .inl gdr) := (congrFun e_f130 dr).trans (z_up_ne (z_tne hf_dr hf_cn (m := 4260) (n := 388) rfl rfl (by decide)) hf_dr)
          have hf_lw : f130 lw = .inl (cy 1, 25, .inl glw) := (congrFun e_f130 lw).trans (z_up_ne (z_tne hf_lw hf_cn (m := 300) (n := 388) rfl rfl (by decide)) hf_lw)
          have hf_ha : f130 ha = .inl (cy 1, 30, .inl gha) := (congrFun e_f130 ha).trans (z_up_ne (z_tne hf_ha hf_cn (m := 340) (n := 388) rfl rfl (by decide)) hf_ha)
          have hf_th : f130 th = .inl (cy 1, 36, .inl g8) := (congrFun e_f130 th).trans (z_up_ne ne_th_cn hf_th)
          have hf_se : f130 se = .inl (cy 1, 36, .inl g119) := (congrFun e_f130 se).trans (z_up_ne ne_se_cn hf_se)
          have hf_fo : f130 fo = .inl (cy 1, 180, .inl gfo) := (congrFun e_f130 fo).trans (z_up_ne (z_tne hf_fo hf_cn (m := 1540) (n := 388) rfl rfl (by decide)) hf_fo)
          have hf_ct : f130 ct = .inl (cy 1, 4, .inl gct) := (congrFun e_f130 ct).trans (z_up_ne (z_tne hf_ct hf_cn (m := 132) (n := 388) rfl rfl (by decide)) hf_ct)
          have hf_du : f130 du = .inl (cy 1, 5200, .inl gdu) := (congrFun e_f130 du).trans (z_up_ne (z_tne hf_du hf_cn (m := 41700) (n := 388) rfl rfl (by decide)) hf_du)
          have hf_db : f130 db = .inl (cy 1, 5, .inl gdb) := (congrFun e_f130 db).trans (z_up_ne (z_tne hf_db hf_cn (m := 140) (n := 388) rfl rfl (by decide)) hf_db)
          have hf_cn : f130 cn = .inl (cy 1, 36, .inl (upd gcn w126.toNatClampNeg w128)) := (congrFun e_f130 cn).trans z_up_self
          have hfr : ∀ b ∈ L, b ≠ mm → b ≠ th → b ≠ se → b ≠ cn → b ≠ ct → b ≠ du → b ≠ db → f130 b = f b := fun b hb h0 h1 h2 h3 h4 h5 h6 => (congrFun e_f130 b).trans (z_up_ne h3 (hfr b hb h0 h1 h2 h3 h4 h5 h6))
          obtain ⟨g129, e_g129⟩ : ∃ z, z = (upd gcn w126.toNatClampNeg w128) := ⟨_, rfl⟩
          rw [← e_g129] at hf_cn
          refine lv_aload_n hx hb dX10_passes_144 rfl (lv_at hl 2 rfl) ?_
          refine lv_iload hx hb dX10_passes_145 (lv_at hl 1 rfl) ?_
          refine z_calliV (cells := 0) (slots := 0) (b := mm) (As := [.int r2]) (rest := []) (ci := 10) (q0 := (RX10, TX10, 54)) ⟨hx, hb, hml, hown, hT⟩ (c_X10_counterOf l hm_mm hm_lw hf_mm hf_lw hq_lw (by first | omega | decide | assumption)) (cwV 1 hT (z_goodV (fun _ h => h) kw_1579 kw_1581 kw_67 kw_96 kw_1582) rfl rfl rfl (by decide +kernel) ⟨by decide, by decide⟩) z_mv hKK hK hw hA hm_mm hf_mm rfl rfl rfl hl.1 rfl (Nat.le_of_ble_eq_true rfl) dX10_passes_147 ⟨by decide, by decide⟩ (fun r131 u H locs hp hw => ?_)
          obtain ⟨rfl, hp⟩ := hp
          have hw : z_H D vwCl (z_A L sz) s.heap L f130 H locs := hw
          have hq132 := hp
          refine lv_istore (lv' := [(6, .int r131), (5, .int w3), (4, .int r2), (0, .ref mm), (1, .int kk), (2, .int pl), (3, .int ti)]) hx hb dX10_passes_150 hl (by decide) rfl (fun ls hl => ?_)
          refine lv_aload_n hx hb dX10_passes_152 rfl (lv_at hl 3 rfl) ?_
          refine z_get (C := RX10) (T := TX10) (N := 54) (ci := 10) (v := .ref ct) hx hb hT zin_X10 hown hK hw hm_mm hf_mm rfl 31 (by decide) (hT _ kw_1199) rfl dX10_passes_153 ?_
          refine lv_iload hx hb dX10_passes_156 (lv_at hl 0 rfl) ?_
          refine lv_dup2_11 hx hb dX10_passes_158 rfl rfl ?_
          refine z_iald hx hb hK hw 1 hm_ct hf_ct rfl (z_ix rfl (by omega)) dX10_passes_159 ?_
          refine lv_topi (fun w133 e_w133 => ?_)
          have hv_w133 : 0 ≤ w133.toInt ∧ w133.toInt ≤ 999 := by rw [e_w133]; exact hq_ct _
          have hc0_ : w133.toInt = (gct r131.toNatClampNeg).toInt := by rw [e_w133]
          refine lv_iconst (v := 1) hx hb dX10_passes_160 (by decide) ?_
          refine lv_iadd hx hb dX10_passes_161 ?_
          refine lv_topi (fun w134 e_w134 => ?_)
          have i_w134 : w134.toInt = (w133.toInt + 1) := z_add e_w134 rfl (show (1 : Int32).toInt = 1 by decide) (by omega)
          refine z_iast hx hb hK hw 1 hm_ct hf_ct rfl (z_ix rfl (by omega)) dX10_passes_162 (fun H locs hw => ?_)
          obtain ⟨f136, e_f136⟩ : ∃ z, z = va_up f130 ct (.inl (cy 1, 4, .inl (upd gct r131.toNatClampNeg w134))) := ⟨_, rfl⟩
          rw [← e_f136] at hw
          have hf_mm : f136 mm = .inr (10, [.int m0, .ref wd, .ref my, .ref ce, .ref mv, .ref ta, .int m6, .int m7, .int m8, .int m9, .int m10, .long m11, .int m12, .int m13, .int m14, .int m15, .ref li, .ref ha, .ref lw, .ref st, .ref fo, .ref dr, .int m22, .ref ik, .int m24, .int m25, .long m26, .int m27, .int m28, .ref ro, .int m30, .ref ct, .ref se, .ref th, .ref cn, .ref be, .int m36, .ref du, .int m38, .ref db, .int m40, .int m41, .int m42, .ref pn, .ref wg, .ref wh, .ref tn, .ref he, .int m48, .ref tr, .ref fd, .ref po, .int m52, .int m53]) := (congrFun e_f136 mm).trans (z_up_ne (z_tne hf_mm hf_ct (m := 10) (n := 132) rfl rfl (by decide)) hf_mm)
          have hf_dr : f136 dr = .inl (cy 1, 520, .inl gdr) := (congrFun e_f136 dr).trans (z_up_ne (z_tne hf_dr hf_ct (m := 4260) (n := 132) rfl rfl (by decide)) hf_dr)
          have hf_lw : f136 lw = .inl (cy 1, 25, .inl glw) := (congrFun e_f136 lw).trans (z_up_ne (z_tne hf_lw hf_ct (m := 300) (n := 132) rfl rfl (by decide)) hf_lw)
          have hf_ha : f136 ha = .inl (cy 1, 30, .inl gha) := (congrFun e_f136 ha).trans (z_up_ne (z_tne hf_ha hf_ct (m := 340) (n := 132) rfl rfl (by decide)) hf_ha)
          have hf_th : f136 th = .inl (cy 1, 36, .inl g8) := (congrFun e_f136 th).trans (z_up_ne (z_tne hf_th hf_ct (m := 388) (n := 132) rfl rfl (by decide)) hf_th)
          have hf_se : f136 se = .inl (cy 1, 36, .inl g119) := (congrFun e_f136 se).trans (z_up_ne (z_tne hf_se hf_ct (m := 388) (n := 132) rfl rfl (by decide)) hf_se)
          have hf_fo : f136 fo = .inl (cy 1, 180, .inl gfo) := (congrFun e_f136 fo).trans (z_up_ne (z_tne hf_fo hf_ct (m := 1540) (n := 132) rfl rfl (by decide)) hf_fo)
          have hf_cn : f136 cn = .inl (cy 1, 36, .inl g129) := (congrFun e_f136 cn).trans (z_up_ne (z_tne hf_cn hf_ct (m := 388) (n := 132) rfl rfl (by decide)) hf_cn)
          have hf_du : f136 du = .inl (cy 1, 5200, .inl gdu) := (congrFun e_f136 du).trans (z_up_ne (z_tne hf_du hf_ct (m := 41700) (n := 132) rfl rfl (by decide)) hf_du)
          have hf_db : f136 db = .inl (cy 1, 5, .inl gdb) := (congrFun e_f136 db).trans (z_up_ne (z_tne hf_db hf_ct (m := 140) (n := 132) rfl rfl (by decide)) hf_db)
          have hf_ct : f136 ct = .inl (cy 1, 4, .inl (upd gct r131.toNatClampNeg w134)) := (congrFun e_f136 ct).trans z_up_self
          have hfr : ∀ b ∈ L, b ≠ mm → b ≠ th → b ≠ se → b ≠ cn → b ≠ ct → b ≠ du → b ≠ db → f136 b = f b := fun b hb h0 h1 h2 h3 h4 h5 h6 => (congrFun e_f136 b).trans (z_up_ne h4 (hfr b hb h0 h1 h2 h3 h4 h5 h6))
          obtain ⟨g135, e_g135⟩ : ∃ z, z = (upd gct r131.toNatClampNeg w134) := ⟨_, rfl⟩
          rw [← e_g135] at hf_ct
          refine lv_aload_n hx hb dX10_passes_163 rfl (lv_at hl 3 rfl) ?_
          refine z_get (C := RX10) (T := TX10) (N := 54) (ci := 10) (v := .ref ct) hx hb hT zin_X10 hown hK hw hm_mm hf_mm rfl 31 (by decide) (hT _ kw_1199) rfl dX10_passes_164 ?_
          refine lv_iload hx hb dX10_passes_167 (lv_at hl 0 rfl) ?_
          refine z_iald hx hb hK hw 1 hm_ct hf_ct rfl (z_ix rfl (by omega)) dX10_passes_169 ?_
          refine lv_topi (fun w137 e_w137 => ?_)
          have hc1_ : w137.toInt = w134.toInt := by rw [e_w137, show g135 r131.toNatClampNeg = w134 from z_upd_at e_g135]
          have hph1 := z_ph_inc e_g135 (by omega)
          refine lv_aload_n hx hb dX10_passes_170 rfl (lv_at hl 3 rfl) ?_
          refine z_get (C := RX10) (T := TX10) (N := 54) (ci := 10) (v := .ref lw) hx hb hT zin_X10 hown hK hw hm_mm hf_mm rfl 18 (by decide) (hT _ kw_1186) rfl dX10_passes_171 ?_
          refine lv_iconst (v := 3) hx hb dX10_passes_174 (by decide) ?_
          refine z_iald hx hb hK hw 1 hm_lw hf_lw rfl (z_ix (show (3 : Int32).toInt = 3 by decide) (by decide)) dX10_passes_175 ?_
          refine lv_topi (fun w138 e_w138 => ?_)
          have hv_w138 : 0 ≤ w138.toInt ∧ w138.toInt ≤ 999 := by rw [e_w138]; exact hq_lw _
          have he3_ : w138.toInt = (glw 3).toInt := by rw [e_w138]; rfl
          refine z_icmp_ge (tgt := 180) hx hb rfl rfl dX10_passes_176 (by decide) (fun c139 => ?_) (fun c139 => ?_)
          · skip
            refine lv_aload_n hx hb dX10_passes_180 rfl (lv_at hl 3 rfl) ?_
            refine z_get (C := RX10) (T := TX10) (N := 54) (ci := 10) (v := .ref ct) hx hb hT zin_X10 hown hK hw hm_mm hf_mm rfl 31 (by decide) (hT _ kw_1199) rfl dX10_passes_181 ?_
            refine lv_iload hx hb dX10_passes_184 (lv_at hl 0 rfl) ?_
            refine lv_iconst (v := 0) hx hb dX10_passes_186 (by decide) ?_
            refine z_iast hx hb hK hw 1 hm_ct hf_ct rfl (z_ix rfl (by omega)) dX10_passes_187 (fun H locs hw => ?_)
            obtain ⟨f141, e_f141⟩ : ∃ z, z = va_up f136 ct (.inl (cy 1, 4, .inl (upd g135 r131.toNatClampNeg 0))) := ⟨_, rfl⟩
            rw [← e_f141] at hw
            have hf_mm : f141 mm = .inr (10, [.int m0, .ref wd, .ref my, .ref ce, .ref mv, .ref ta, .int m6, .int m7, .int m8, .int m9, .int m10, .long m11, .int m12, .int m13, .int m14, .int m15, .ref li, .ref ha, .ref lw, .ref st, .ref fo, .ref dr, .int m22, .ref ik, .int m24, .int m25, .long m26, .int m27, .int m28, .ref ro, .int m30, .ref ct, .ref se, .ref th, .ref cn, .ref be, .int m36, .ref du, .int m38, .ref db, .int m40, .int m41, .int m42, .ref pn, .ref wg, .ref wh, .ref tn, .ref he, .int m48, .ref tr, .ref fd, .ref po, .int m52, .int m53]) := (congrFun e_f141 mm).trans (z_up_ne (z_tne hf_mm hf_ct (m := 10) (n := 132) rfl rfl (by decide)) hf_mm)
            have hf_dr : f141 dr = .inl (cy 1, 520, .inl gdr) := (congrFun e_f141 dr).trans (z_up_ne (z_tne hf_dr hf_ct (m := 4260) (n := 132) rfl rfl (by decide)) hf_dr)
            have hf_lw : f141 lw = .inl (cy 1, 25, .inl glw) := (congrFun e_f141 lw).trans (z_up_ne (z_tne hf_lw hf_ct (m := 300) (n := 132) rfl rfl (by decide)) hf_lw)
            have hf_ha : f141 ha = .inl (cy 1, 30, .inl gha) := (congrFun e_f141 ha).trans (z_up_ne (z_tne hf_ha hf_ct (m := 340) (n := 132) rfl rfl (by decide)) hf_ha)
            have hf_th : f141 th = .inl (cy 1, 36, .inl g8) := (congrFun e_f141 th).trans (z_up_ne (z_tne hf_th hf_ct (m := 388) (n := 132) rfl rfl (by decide)) hf_th)
            have hf_se : f141 se = .inl (cy 1, 36, .inl g119) := (congrFun e_f141 se).trans (z_up_ne (z_tne hf_se hf_ct (m := 388) (n := 132) rfl rfl (by decide)) hf_se)
            have hf_fo : f141 fo = .inl (cy 1, 180, .inl gfo) := (congrFun e_f141 fo).trans (z_up_ne (z_tne hf_fo hf_ct (m := 1540) (n := 132) rfl rfl (by decide)) hf_fo)
            have hf_cn : f141 cn = .inl (cy 1, 36, .inl g129) := (congrFun e_f141 cn).trans (z_up_ne (z_tne hf_cn hf_ct (m := 388) (n := 132) rfl rfl (by decide)) hf_cn)
            have hf_du : f141 du = .inl (cy 1, 5200, .inl gdu) := (congrFun e_f141 du).trans (z_up_ne (z_tne hf_du hf_ct (m := 41700) (n := 132) rfl rfl (by decide)) hf_du)
            have hf_db : f141 db = .inl (cy 1, 5, .inl gdb) := (congrFun e_f141 db).trans (z_up_ne (z_tne hf_db hf_ct (m := 140) (n := 132) rfl rfl (by decide)) hf_db)
            have hf_ct : f141 ct = .inl (cy 1, 4, .inl (upd g135 r131.toNatClampNeg 0)) := (congrFun e_f141 ct).trans z_up_self
            have hfr : ∀ b ∈ L, b ≠ mm → b ≠ th → b ≠ se → b ≠ cn → b ≠ ct → b ≠ du → b ≠ db → f141 b = f b := fun b hb h0 h1 h2 h3 h4 h5 h6 => (congrFun e_f141 b).trans (z_up_ne h4 (hfr b hb h0 h1 h2 h3 h4 h5 h6))
            obtain ⟨g140, e_g140⟩ : ∃ z, z = (upd g135 r131.toNatClampNeg 0) := ⟨_, rfl⟩
            rw [← e_g140] at hf_ct
            have hq_ct : ∀ j : Nat, q_law j (g140 j) := z_updQ2 hq_ct e_g135 e_g140 (show 0 ≤ (0 : Int32).toInt ∧ (0 : Int32).toInt ≤ 999 by decide)
            have hph2 := z_ph_due e_g135 e_g140 (by omega) (by omega) (by omega)
            refine lv_aload_n hx hb dX10_passes_188 rfl (lv_at hl 3 rfl) ?_
            refine z_get (C := RX10) (T := TX10) (N := 54) (ci := 10) (v := .ref du) hx hb hT zin_X10 hown hK hw hm_mm hf_mm rfl 37 (by decide) (hT _ kw_1205) rfl dX10_passes_189 ?_
            refine lv_iconst (v := 4) hx hb dX10_passes_192 (by decide) ?_
            refine lv_aload_n hx hb dX10_passes_193 rfl (lv_at hl 3 rfl) ?_
            refine z_get (C := RX10) (T := TX10) (N := 54) (ci := 10) (v := .int m38) hx hb hT zin_X10 hown hK hw hm_mm hf_mm rfl 38 (by decide) (hT _ kw_1206) rfl dX10_passes_194 ?_
            refine lv_imul hx hb dX10_passes_197 ?_
            refine lv_topi (fun w142 e_w142 => ?_)
            have i_w142 : w142.toInt = (4 * m38.toInt) := z_mul e_w142 (show (4 : Int32).toInt = 4 by decide) rfl (by omega)
            refine lv_iload_n hx hb dX10_passes_198 rfl (lv_at hl 6 rfl) ?_
            refine z_iast hx hb hK hw 1 hm_du hf_du rfl (z_ix i_w142 (by omega)) dX10_passes_199 (fun H locs hw => ?_)
            obtain ⟨f144, e_f144⟩ : ∃ z, z = va_up f141 du (.inl (cy 1, 5200, .inl (upd gdu w142.toNatClampNeg ti))) := ⟨_, rfl⟩
            rw [← e_f144] at hw
            have hf_mm : f144 mm = .inr (10, [.int m0, .ref wd, .ref my, .ref ce, .ref mv, .ref ta, .int m6, .int m7, .int m8, .int m9, .int m10, .long m11, .int m12, .int m13, .int m14, .int m15, .ref li, .ref ha, .ref lw, .ref st, .ref fo, .ref dr, .int m22, .ref ik, .int m24, .int m25, .long m26, .int m27, .int m28, .ref ro, .int m30, .ref ct, .ref se, .ref th, .ref cn, .ref be, .int m36, .ref du, .int m38, .ref db, .int m40, .int m41, .int m42, .ref pn, .ref wg, .ref wh, .ref tn, .ref he, .int m48, .ref tr, .ref fd, .ref po, .int m52, .int m53]) := (congrFun e_f144 mm).trans (z_up_ne (z_tne hf_mm hf_du (m := 10) (n := 41700) rfl rfl (by decide)) hf_mm)
            have hf_dr : f144 dr = .inl (cy 1, 520, .inl gdr) := (congrFun e_f144 dr).trans (z_up_ne (z_tne hf_dr hf_du (m := 4260) (n := 41700) rfl rfl (by decide)) hf_dr)
            have hf_lw : f144 lw = .inl (cy 1, 25, .inl glw) := (congrFun e_f144 lw).trans (z_up_ne (z_tne hf_lw hf_du (m := 300) (n := 41700) rfl rfl (by decide)) hf_lw)
            have hf_ha : f144 ha = .inl (cy 1, 30, .inl gha) := (congrFun e_f144 ha).trans (z_up_ne (z_tne hf_ha hf_du (m := 340) (n := 41700) rfl rfl (by decide)) hf_ha)
            have hf_th : f144 th = .inl (cy 1, 36, .inl g8) := (congrFun e_f144 th).trans (z_up_ne (z_tne hf_th hf_du (m := 388) (n := 41700) rfl rfl (by decide)) hf_th)
            have hf_se : f144 se = .inl (cy 1, 36, .inl g119) := (congrFun e_f144 se).trans (z_up_ne (z_tne hf_se hf_du (m := 388) (n := 41700) rfl rfl (by decide)) hf_se)
            have hf_fo : f144 fo = .inl (cy 1, 180, .inl gfo) := (congrFun e_f144 fo).trans (z_up_ne (z_tne hf_fo hf_du (m := 1540) (n := 41700) rfl rfl (by decide)) hf_fo)
            have hf_cn : f144 cn = .inl (cy 1, 36, .inl g129) := (congrFun e_f144 cn).trans (z_up_ne (z_tne hf_cn hf_du (m := 388) (n := 41700) rfl rfl (by decide)) hf_cn)
            have hf_ct : f144 ct = .inl (cy 1, 4, .inl g140) := (congrFun e_f144 ct).trans (z_up_ne (z_tne hf_ct hf_du (m := 132) (n := 41700) rfl rfl (by decide)) hf_ct)
            have hf_db : f144 db = .inl (cy 1, 5, .inl gdb) := (congrFun e_f144 db).trans (z_up_ne (z_tne hf_db hf_du (m := 140) (n := 41700) rfl rfl (by decide)) hf_db)
            have hf_du : f144 du = .inl (cy 1, 5200, .inl (upd gdu w142.toNatClampNeg ti)) := (congrFun e_f144 du).trans z_up_self
            have hfr : ∀ b ∈ L, b ≠ mm → b ≠ th → b ≠ se → b ≠ cn → b ≠ ct → b ≠ du → b ≠ db → f144 b = f b := fun b hb h0 h1 h2 h3 h4 h5 h6 => (congrFun e_f144 b).trans (z_up_ne h5 (hfr b hb h0 h1 h2 h3 h4 h5 h6))
            obtain ⟨g143, e_g143⟩ : ∃ z, z = (upd gdu w142.toNatClampNeg ti) := ⟨_, rfl⟩
            rw [← e_g143] at hf_du
            have hq_du : ∀ j : Nat, q_du j (g143 j) := z_updQ hq_du e_g143 (show q_du _ _ from fun h => absurd h (z_nmod4 i_w142 (k := 0) (by omega) (by decide)))
            refine lv_aload_n hx hb dX10_passes_200 rfl (lv_at hl 3 rfl) ?_
            refine z_get (C := RX10) (T := TX10) (N := 54) (ci := 10) (v := .ref du) hx hb hT zin_X10 hown hK hw hm_mm hf_mm rfl 37 (by decide) (hT _ kw_1205) rfl dX10_passes_201 ?_
            refine lv_iconst (v := 4) hx hb dX10_passes_204 (by decide) ?_
            refine lv_aload_n hx hb dX10_passes_205 rfl (lv_at hl 3 rfl) ?_
            refine z_get (C := RX10) (T := TX10) (N := 54) (ci := 10) (v := .int m38) hx hb hT zin_X10 hown hK hw hm_mm hf_mm rfl 38 (by decide) (hT _ kw_1206) rfl dX10_passes_206 ?_
            refine lv_imul hx hb dX10_passes_209 ?_
            refine lv_topi (fun w145 e_w145 => ?_)
            have i_w145 : w145.toInt = (4 * m38.toInt) := z_mul e_w145 (show (4 : Int32).toInt = 4 by decide) rfl (by omega)
            refine lv_iconst (v := 1) hx hb dX10_passes_210 (by decide) ?_
            refine lv_iadd hx hb dX10_passes_211 ?_
            refine lv_topi (fun w146 e_w146 => ?_)
            have i_w146 : w146.toInt = ((4 * m38.toInt) + 1) := z_add e_w146 i_w145 (show (1 : Int32).toInt = 1 by decide) (by omega)
            refine lv_iload hx hb dX10_passes_212 (lv_at hl 2 rfl) ?_
            refine z_iast hx hb hK hw 1 hm_du hf_du rfl (z_ix i_w146 (by omega)) dX10_passes_214 (fun H locs hw => ?_)
            obtain ⟨f148, e_f148⟩ : ∃ z, z = va_up f144 du (.inl (cy 1, 5200, .inl (upd g143 w146.toNatClampNeg r2))) := ⟨_, rfl⟩
            rw [← e_f148] at hw
            have hf_mm : f148 mm = .inr (10, [.int m0, .ref wd, .ref my, .ref ce, .ref mv, .ref ta, .int m6, .int m7, .int m8, .int m9, .int m10, .long m11, .int m12, .int m13, .int m14, .int m15, .ref li, .ref ha, .ref lw, .ref st, .ref fo, .ref dr, .int m22, .ref ik, .int m24, .int m25, .long m26, .int m27, .int m28, .ref ro, .int m30, .ref ct, .ref se, .ref th, .ref cn, .ref be, .int m36, .ref du, .int m38, .ref db, .int m40, .int m41, .int m42, .ref pn, .ref wg, .ref wh, .ref tn, .ref he, .int m48, .ref tr, .ref fd, .ref po, .int m52, .int m53]) := (congrFun e_f148 mm).trans (z_up_ne (z_tne hf_mm hf_du (m := 10) (n := 41700) rfl rfl (by decide)) hf_mm)
            have hf_dr : f148 dr = .inl (cy 1, 520, .inl gdr) := (congrFun e_f148 dr).trans (z_up_ne (z_tne hf_dr hf_du (m := 4260) (n := 41700) rfl rfl (by decide)) hf_dr)
            have hf_lw : f148 lw = .inl (cy 1, 25, .inl glw) := (congrFun e_f148 lw).trans (z_up_ne (z_tne hf_lw hf_du (m := 300) (n := 41700) rfl rfl (by decide)) hf_lw)
            have hf_ha : f148 ha = .inl (cy 1, 30, .inl gha) := (congrFun e_f148 ha).trans (z_up_ne (z_tne hf_ha hf_du (m := 340) (n := 41700) rfl rfl (by decide)) hf_ha)
            have hf_th : f148 th = .inl (cy 1, 36, .inl g8) := (congrFun e_f148 th).trans (z_up_ne (z_tne hf_th hf_du (m := 388) (n := 41700) rfl rfl (by decide)) hf_th)
            have hf_se : f148 se = .inl (cy 1, 36, .inl g119) := (congrFun e_f148 se).trans (z_up_ne (z_tne hf_se hf_du (m := 388) (n := 41700) rfl rfl (by decide)) hf_se)
            have hf_fo : f148 fo = .inl (cy 1, 180, .inl gfo) := (congrFun e_f148 fo).trans (z_up_ne (z_tne hf_fo hf_du (m := 1540) (n := 41700) rfl rfl (by decide)) hf_fo)
            have hf_cn : f148 cn = .inl (cy 1, 36, .inl g129) := (congrFun e_f148 cn).trans (z_up_ne (z_tne hf_cn hf_du (m := 388) (n := 41700) rfl rfl (by decide)) hf_cn)
            have hf_ct : f148 ct = .inl (cy 1, 4, .inl g140) := (congrFun e_f148 ct).trans (z_up_ne (z_tne hf_ct hf_du (m := 132) (n := 41700) rfl rfl (by decide)) hf_ct)
            have hf_db : f148 db = .inl (cy 1, 5, .inl gdb) := (congrFun e_f148 db).trans (z_up_ne (z_tne hf_db hf_du (m := 140) (n := 41700) rfl rfl (by decide)) hf_db)
            have hf_du : f148 du = .inl (cy 1, 5200, .inl (upd g143 w146.toNatClampNeg r2)) := (congrFun e_f148 du).trans z_up_self
            have hfr : ∀ b ∈ L, b ≠ mm → b ≠ th → b ≠ se → b ≠ cn → b ≠ ct → b ≠ du → b ≠ db → f148 b = f b := fun b hb h0 h1 h2 h3 h4 h5 h6 => (congrFun e_f148 b).trans (z_up_ne h5 (hfr b hb h0 h1 h2 h3 h4 h5 h6))
            obtain ⟨g147, e_g147⟩ : ∃ z, z = (upd g143 w146.toNatClampNeg r2) := ⟨_, rfl⟩
            rw [← e_g147] at hf_du
            have hq_du : ∀ j : Nat, q_du j (g147 j) := z_updQ hq_du e_g147 (show q_du _ _ from fun h => absurd h (z_nmod4 i_w146 (k := 1) (by omega) (by decide)))
            refine lv_aload_n hx hb dX10_passes_215 rfl (lv_at hl 3 rfl) ?_
            refine z_get (C := RX10) (T := TX10) (N := 54) (ci := 10) (v := .ref du) hx hb hT zin_X10 hown hK hw hm_mm hf_mm rfl 37 (by decide) (hT _ kw_1205) rfl dX10_passes_216 ?_
            refine lv_iconst (v := 4) hx hb dX10_passes_219 (by decide) ?_
            refine lv_aload_n hx hb dX10_passes_220 rfl (lv_at hl 3 rfl) ?_
            refine z_get (C := RX10) (T := TX10) (N := 54) (ci := 10) (v := .int m38) hx hb hT zin_X10 hown hK hw hm_mm hf_mm rfl 38 (by decide) (hT _ kw_1206) rfl dX10_passes_221 ?_
            refine lv_imul hx hb dX10_passes_224 ?_
            refine lv_topi (fun w149 e_w149 => ?_)
            have i_w149 : w149.toInt = (4 * m38.toInt) := z_mul e_w149 (show (4 : Int32).toInt = 4 by decide) rfl (by omega)
            refine lv_iconst (v := 2) hx hb dX10_passes_225 (by decide) ?_
            refine lv_iadd hx hb dX10_passes_226 ?_
            refine lv_topi (fun w150 e_w150 => ?_)
            have i_w150 : w150.toInt = ((4 * m38.toInt) + 2) := z_add e_w150 i_w149 (show (2 : Int32).toInt = 2 by decide) (by omega)
            refine lv_iload_n hx hb dX10_passes_227 rfl (lv_at hl 4 rfl) ?_
            refine z_iast hx hb hK hw 1 hm_du hf_du rfl (z_ix i_w150 (by omega)) dX10_passes_228 (fun H locs hw => ?_)
            obtain ⟨f152, e_f152⟩ : ∃ z, z = va_up f148 du (.inl (cy 1, 5200, .inl (upd g147 w150.toNatClampNeg kk))) := ⟨_, rfl⟩
            rw [← e_f152] at hw
            have hf_mm : f152 mm = .inr (10, [.int m0, .ref wd, .ref my, .ref ce, .ref mv, .ref ta, .int m6, .int m7, .int m8, .int m9, .int m10, .long m11, .int m12, .int m13, .int m14, .int m15, .ref li, .ref ha, .ref lw, .ref st, .ref fo, .ref dr, .int m22, .ref ik, .int m24, .int m25, .long m26, .int m27, .int m28, .ref ro, .int m30, .ref ct, .ref se, .ref th, .ref cn, .ref be, .int m36, .ref du, .int m38, .ref db, .int m40, .int m41, .int m42, .ref pn, .ref wg, .ref wh, .ref tn, .ref he, .int m48, .ref tr, .ref fd, .ref po, .int m52, .int m53]) := (congrFun e_f152 mm).trans (z_up_ne (z_tne hf_mm hf_du (m := 10) (n := 41700) rfl rfl (by decide)) hf_mm)
            have hf_dr : f152 dr = .inl (cy 1, 520, .inl gdr) := (congrFun e_f152 dr).trans (z_up_ne (z_tne hf_dr hf_du (m := 4260) (n := 41700) rfl rfl (by decide)) hf_dr)
            have hf_lw : f152 lw = .inl (cy 1, 25, .inl glw) := (congrFun e_f152 lw).trans (z_up_ne (z_tne hf_lw hf_du (m := 300) (n := 41700) rfl rfl (by decide)) hf_lw)
            have hf_ha : f152 ha = .inl (cy 1, 30, .inl gha) := (congrFun e_f152 ha).trans (z_up_ne (z_tne hf_ha hf_du (m := 340) (n := 41700) rfl rfl (by decide)) hf_ha)
            have hf_th : f152 th = .inl (cy 1, 36, .inl g8) := (congrFun e_f152 th).trans (z_up_ne (z_tne hf_th hf_du (m := 388) (n := 41700) rfl rfl (by decide)) hf_th)
            have hf_se : f152 se = .inl (cy 1, 36, .inl g119) := (congrFun e_f152 se).trans (z_up_ne (z_tne hf_se hf_du (m := 388) (n := 41700) rfl rfl (by decide)) hf_se)
            have hf_fo : f152 fo = .inl (cy 1, 180, .inl gfo) := (congrFun e_f152 fo).trans (z_up_ne (z_tne hf_fo hf_du (m := 1540) (n := 41700) rfl rfl (by decide)) hf_fo)
            have hf_cn : f152 cn = .inl (cy 1, 36, .inl g129) := (congrFun e_f152 cn).trans (z_up_ne (z_tne hf_cn hf_du (m := 388) (n := 41700) rfl rfl (by decide)) hf_cn)
            have hf_ct : f152 ct = .inl (cy 1, 4, .inl g140) := (congrFun e_f152 ct).trans (z_up_ne (z_tne hf_ct hf_du (m := 132) (n := 41700) rfl rfl (by decide)) hf_ct)
            have hf_db : f152 db = .inl (cy 1, 5, .inl gdb) := (congrFun e_f152 db).trans (z_up_ne (z_tne hf_db hf_du (m := 140) (n := 41700) rfl rfl (by decide)) hf_db)
            have hf_du : f152 du = .inl (cy 1, 5200, .inl (upd g147 w150.toNatClampNeg kk)) := (congrFun e_f152 du).trans z_up_self
            have hfr : ∀ b ∈ L, b ≠ mm → b ≠ th → b ≠ se → b ≠ cn → b ≠ ct → b ≠ du → b ≠ db → f152 b = f b := fun b hb h0 h1 h2 h3 h4 h5 h6 => (congrFun e_f152 b).trans (z_up_ne h5 (hfr b hb h0 h1 h2 h3 h4 h5 h6))
            obtain ⟨g151, e_g151⟩ : ∃ z, z = (upd g147 w150.toNatClampNeg kk) := ⟨_, rfl⟩
            rw [← e_g151] at hf_du
            have hq_du : ∀ j : Nat, q_du j (g151 j) := z_updQ hq_du e_g151 (show q_du _ _ from fun h => (show 0 ≤ (kk : Int32).toInt ∧ (kk : Int32).toInt ≤ 12 by first | decide | omega))
            refine lv_aload_n hx hb dX10_passes_229 rfl (lv_at hl 3 rfl) ?_
            refine z_get (C := RX10) (T := TX10) (N := 54) (ci := 10) (v := .ref du) hx hb hT zin_X10 hown hK hw hm_mm hf_mm rfl 37 (by decide) (hT _ kw_1205) rfl dX10_passes_230 ?_
            refine lv_iconst (v := 4) hx hb dX10_passes_233 (by decide) ?_
            refine lv_aload_n hx hb dX10_passes_234 rfl (lv_at hl 3 rfl) ?_
            refine z_get (C := RX10) (T := TX10) (N := 54) (ci := 10) (v := .int m38) hx hb hT zin_X10 hown hK hw hm_mm hf_mm rfl 38 (by decide) (hT _ kw_1206) rfl dX10_passes_235 ?_
            refine lv_imul hx hb dX10_passes_238 ?_
            refine lv_topi (fun w153 e_w153 => ?_)
            have i_w153 : w153.toInt = (4 * m38.toInt) := z_mul e_w153 (show (4 : Int32).toInt = 4 by decide) rfl (by omega)
            refine lv_iconst (v := 3) hx hb dX10_passes_239 (by decide) ?_
            refine lv_iadd hx hb dX10_passes_240 ?_
            refine lv_topi (fun w154 e_w154 => ?_)
            have i_w154 : w154.toInt = ((4 * m38.toInt) + 3) := z_add e_w154 i_w153 (show (3 : Int32).toInt = 3 by decide) (by omega)
            refine lv_iload_n hx hb dX10_passes_241 rfl (lv_at hl 5 rfl) ?_
            refine z_iast hx hb hK hw 1 hm_du hf_du rfl (z_ix i_w154 (by omega)) dX10_passes_242 (fun H locs hw => ?_)
            obtain ⟨f156, e_f156⟩ : ∃ z, z = va_up f152 du (.inl (cy 1, 5200, .inl (upd g151 w154.toNatClampNeg pl))) := ⟨_, rfl⟩
            rw [← e_f156] at hw
            have hf_mm : f156 mm = .inr (10, [.int m0, .ref wd, .ref my, .ref ce, .ref mv, .ref ta, .int m6, .int m7, .int m8, .int m9, .int m10, .long m11, .int m12, .int m13, .int m14, .int m15, .ref li, .ref ha, .ref lw, .ref st, .ref fo, .ref dr, .int m22, .ref ik, .int m24, .int m25, .long m26, .int m27, .int m28, .ref ro, .int m30, .ref ct, .ref se, .ref th, .ref cn, .ref be, .int m36, .ref du, .int m38, .ref db, .int m40, .int m41, .int m42, .ref pn, .ref wg, .ref wh, .ref tn, .ref he, .int m48, .ref tr, .ref fd, .ref po, .int m52, .int m53]) := (congrFun e_f156 mm).trans (z_up_ne (z_tne hf_mm hf_du (m := 10) (n := 41700) rfl rfl (by decide)) hf_mm)
            have hf_dr : f156 dr = .inl (cy 1, 520, .inl gdr) := (congrFun e_f156 dr).trans (z_up_ne (z_tne hf_dr hf_du (m := 4260) (n := 41700) rfl rfl (by decide)) hf_dr)
            have hf_lw : f156 lw = .inl (cy 1, 25, .inl glw) := (congrFun e_f156 lw).trans (z_up_ne (z_tne hf_lw hf_du (m := 300) (n := 41700) rfl rfl (by decide)) hf_lw)
            have hf_ha : f156 ha = .inl (cy 1, 30, .inl gha) := (congrFun e_f156 ha).trans (z_up_ne (z_tne hf_ha hf_du (m := 340) (n := 41700) rfl rfl (by decide)) hf_ha)
            have hf_th : f156 th = .inl (cy 1, 36, .inl g8) := (congrFun e_f156 th).trans (z_up_ne (z_tne hf_th hf_du (m := 388) (n := 41700) rfl rfl (by decide)) hf_th)
            have hf_se : f156 se = .inl (cy 1, 36, .inl g119) := (congrFun e_f156 se).trans (z_up_ne (z_tne hf_se hf_du (m := 388) (n := 41700) rfl rfl (by decide)) hf_se)
            have hf_fo : f156 fo = .inl (cy 1, 180, .inl gfo) := (congrFun e_f156 fo).trans (z_up_ne (z_tne hf_fo hf_du (m := 1540) (n := 41700) rfl rfl (by decide)) hf_fo)
            have hf_cn : f156 cn = .inl (cy 1, 36, .inl g129) := (congrFun e_f156 cn).trans (z_up_ne (z_tne hf_cn hf_du (m := 388) (n := 41700) rfl rfl (by decide)) hf_cn)
            have hf_ct : f156 ct = .inl (cy 1, 4, .inl g140) := (congrFun e_f156 ct).trans (z_up_ne (z_tne hf_ct hf_du (m := 132) (n := 41700) rfl rfl (by decide)) hf_ct)
            have hf_db : f156 db = .inl (cy 1, 5, .inl gdb) := (congrFun e_f156 db).trans (z_up_ne (z_tne hf_db hf_du (m := 140) (n := 41700) rfl rfl (by decide)) hf_db)
            have hf_du : f156 du = .inl (cy 1, 5200, .inl (upd g151 w154.toNatClampNeg pl)) := (congrFun e_f156 du).trans z_up_self
            have hfr : ∀ b ∈ L, b ≠ mm → b ≠ th → b ≠ se → b ≠ cn → b ≠ ct → b ≠ du → b ≠ db → f156 b = f b := fun b hb h0 h1 h2 h3 h4 h5 h6 => (congrFun e_f156 b).trans (z_up_ne h5 (hfr b hb h0 h1 h2 h3 h4 h5 h6))
            obtain ⟨g155, e_g155⟩ : ∃ z, z = (upd g151 w154.toNatClampNeg pl) := ⟨_, rfl⟩
            rw [← e_g155] at hf_du
            have hq_du : ∀ j : Nat, q_du j (g155 j) := z_updQ hq_du e_g155 (show q_du _ _ from fun h => absurd h (z_nmod4 i_w154 (k := 3) (by omega) (by decide)))
            refine lv_aload_n hx hb dX10_passes_243 rfl (lv_at hl 3 rfl) ?_
            refine lv_dup hx hb dX10_passes_244 rfl ?_
            refine z_get (C := RX10) (T := TX10) (N := 54) (ci := 10) (v := .int m38) hx hb hT zin_X10 hown hK hw hm_mm hf_mm rfl 38 (by decide) (hT _ kw_1206) rfl dX10_passes_245 ?_
            refine lv_iconst (v := 1) hx hb dX10_passes_248 (by decide) ?_
            refine lv_iadd hx hb dX10_passes_249 ?_
            refine lv_topi (fun w157 e_w157 => ?_)
            have i_w157 : w157.toInt = (m38.toInt + 1) := z_add e_w157 rfl (show (1 : Int32).toInt = 1 by decide) (by omega)
            refine z_put (C := RX10) (T := TX10) (N := 54) (ci := 10) (v := .int w157) (fs' := [.int m0, .ref wd, .ref my, .ref ce, .ref mv, .ref ta, .int m6, .int m7, .int m8, .int m9, .int m10, .long m11, .int m12, .int m13, .int m14, .int m15, .ref li, .ref ha, .ref lw, .ref st, .ref fo, .ref dr, .int m22, .ref ik, .int m24, .int m25, .long m26, .int m27, .int m28, .ref ro, .int m30, .ref ct, .ref se, .ref th, .ref cn, .ref be, .int m36, .ref du, .int w157, .ref db, .int m40, .int m41, .int m42, .ref pn, .ref wg, .ref wh, .ref tn, .ref he, .int m48, .ref tr, .ref fd, .ref po, .int m52, .int m53]) hx hb hT zin_X10 tyX10_ok nmX10 hown hK hw hm_mm hf_mm rfl 38 (by decide) (hT _ kw_1206) rfl rfl rfl (Nat.le_of_ble_eq_true rfl) rfl dX10_passes_250 (fun H locs hw => ?_)
            obtain ⟨f158, e_f158⟩ : ∃ z, z = va_up f156 mm (.inr (10, [.int m0, .ref wd, .ref my, .ref ce, .ref mv, .ref ta, .int m6, .int m7, .int m8, .int m9, .int m10, .long m11, .int m12, .int m13, .int m14, .int m15, .ref li, .ref ha, .ref lw, .ref st, .ref fo, .ref dr, .int m22, .ref ik, .int m24, .int m25, .long m26, .int m27, .int m28, .ref ro, .int m30, .ref ct, .ref se, .ref th, .ref cn, .ref be, .int m36, .ref du, .int w157, .ref db, .int m40, .int m41, .int m42, .ref pn, .ref wg, .ref wh, .ref tn, .ref he, .int m48, .ref tr, .ref fd, .ref po, .int m52, .int m53])) := ⟨_, rfl⟩
            rw [← e_f158] at hw
            have hf_dr : f158 dr = .inl (cy 1, 520, .inl gdr) := (congrFun e_f158 dr).trans (z_up_ne (z_tne hf_dr hf_mm (m := 4260) (n := 10) rfl rfl (by decide)) hf_dr)
            have hf_lw : f158 lw = .inl (cy 1, 25, .inl glw) := (congrFun e_f158 lw).trans (z_up_ne (z_tne hf_lw hf_mm (m := 300) (n := 10) rfl rfl (by decide)) hf_lw)
            have hf_ha : f158 ha = .inl (cy 1, 30, .inl gha) := (congrFun e_f158 ha).trans (z_up_ne (z_tne hf_ha hf_mm (m := 340) (n := 10) rfl rfl (by decide)) hf_ha)
            have hf_th : f158 th = .inl (cy 1, 36, .inl g8) := (congrFun e_f158 th).trans (z_up_ne (z_tne hf_th hf_mm (m := 388) (n := 10) rfl rfl (by decide)) hf_th)
            have hf_se : f158 se = .inl (cy 1, 36, .inl g119) := (congrFun e_f158 se).trans (z_up_ne (z_tne hf_se hf_mm (m := 388) (n := 10) rfl rfl (by decide)) hf_se)
            have hf_fo : f158 fo = .inl (cy 1, 180, .inl gfo) := (congrFun e_f158 fo).trans (z_up_ne (z_tne hf_fo hf_mm (m := 1540) (n := 10) rfl rfl (by decide)) hf_fo)
            have hf_cn : f158 cn = .inl (cy 1, 36, .inl g129) := (congrFun e_f158 cn).trans (z_up_ne (z_tne hf_cn hf_mm (m := 388) (n := 10) rfl rfl (by decide)) hf_cn)
            have hf_ct : f158 ct = .inl (cy 1, 4, .inl g140) := (congrFun e_f158 ct).trans (z_up_ne (z_tne hf_ct hf_mm (m := 132) (n := 10) rfl rfl (by decide)) hf_ct)
            have hf_du : f158 du = .inl (cy 1, 5200, .inl g155) := (congrFun e_f158 du).trans (z_up_ne (z_tne hf_du hf_mm (m := 41700) (n := 10) rfl rfl (by decide)) hf_du)
            have hf_db : f158 db = .inl (cy 1, 5, .inl gdb) := (congrFun e_f158 db).trans (z_up_ne (z_tne hf_db hf_mm (m := 140) (n := 10) rfl rfl (by decide)) hf_db)
            have hf_mm : f158 mm = .inr (10, [.int m0, .ref wd, .ref my, .ref ce, .ref mv, .ref ta, .int m6, .int m7, .int m8, .int m9, .int m10, .long m11, .int m12, .int m13, .int m14, .int m15, .ref li, .ref ha, .ref lw, .ref st, .ref fo, .ref dr, .int m22, .ref ik, .int m24, .int m25, .long m26, .int m27, .int m28, .ref ro, .int m30, .ref ct, .ref se, .ref th, .ref cn, .ref be, .int m36, .ref du, .int w157, .ref db, .int m40, .int m41, .int m42, .ref pn, .ref wg, .ref wh, .ref tn, .ref he, .int m48, .ref tr, .ref fd, .ref po, .int m52, .int m53]) := (congrFun e_f158 mm).trans z_up_self
            have hfr : ∀ b ∈ L, b ≠ mm → b ≠ th → b ≠ se → b ≠ cn → b ≠ ct → b ≠ du → b ≠ db → f158 b = f b := fun b hb h0 h1 h2 h3 h4 h5 h6 => (congrFun e_f158 b).trans (z_up_ne h0 (hfr b hb h0 h1 h2 h3 h4 h5 h6))
            refine lv_aload_n hx hb dX10_passes_253 rfl (lv_at hl 3 rfl) ?_
            refine z_get (C := RX10) (T := TX10) (N := 54) (ci := 10) (v := .ref db) hx hb hT zin_X10 hown hK hw hm_mm hf_mm rfl 39 (by decide) (hT _ kw_1207) rfl dX10_passes_254 ?_
            refine lv_aload_n hx hb dX10_passes_257 rfl (lv_at hl 3 rfl) ?_
            refine lv_iload_n hx hb dX10_passes_258 rfl (lv_at hl 4 rfl) ?_
            refine lv_bipush (v := 6) hx hb dX10_passes_259 (by decide) ?_
            have hz159 := (show (6 : Int32).toInt = 6 by decide)
            refine z_calliV (cells := 0) (slots := 0) (b := mm) (As := [.int kk, .int 6]) (rest := [.ref db]) (ci := 10) (q0 := (RX10, TX10, 54)) ⟨hx, hb, hml, hown, hT⟩ (c_X10_of l hm_mm hm_dr hf_mm hf_dr hq_dr (by first | omega | decide | assumption) (by decide)) (cwV 2 hT (z_goodV (fun _ h => h) kw_1487 kw_1489 kw_51 kw_96 kw_1490) rfl rfl rfl (by decide +kernel) ⟨by decide, by decide⟩) z_mv hKK hK hw hA hm_mm hf_mm rfl rfl rfl hl.1 rfl (Nat.le_of_ble_eq_true rfl) dX10_passes_261 ⟨by decide, by decide⟩ (fun r160 u H locs hp hw => ?_)
            obtain ⟨rfl, hp⟩ := hp
            have hw : z_H D vwCl (z_A L sz) s.heap L f158 H locs := hw
            have hof_r160 : r160 = gdr (8 * kk.toNatClampNeg + 6) := hp
            have hh_r160 : 0 ≤ r160.toInt ∧ r160.toInt ≤ 4 := by rw [hof_r160]; exact (hq_dr _).2.2.2.2.2.2.1 (by omega)
            refine lv_dup2_11 hx hb dX10_passes_264 rfl rfl ?_
            refine z_iald hx hb hK hw 1 hm_db hf_db rfl (z_ix rfl (by omega)) dX10_passes_265 ?_
            refine lv_topi (fun w161 e_w161 => ?_)
            refine lv_iconst (v := 1) hx hb dX10_passes_266 (by decide) ?_
            refine lv_iadd hx hb dX10_passes_267 ?_
            refine lv_topi (fun w162 e_w162 => ?_)
            refine z_iast hx hb hK hw 1 hm_db hf_db rfl (z_ix rfl (by omega)) dX10_passes_268 (fun H locs hw => ?_)
            obtain ⟨f164, e_f164⟩ : ∃ z, z = va_up f158 db (.inl (cy 1, 5, .inl (upd gdb r160.toNatClampNeg w162))) := ⟨_, rfl⟩
            rw [← e_f164] at hw
            have hf_mm : f164 mm = .inr (10, [.int m0, .ref wd, .ref my, .ref ce, .ref mv, .ref ta, .int m6, .int m7, .int m8, .int m9, .int m10, .long m11, .int m12, .int m13, .int m14, .int m15, .ref li, .ref ha, .ref lw, .ref st, .ref fo, .ref dr, .int m22, .ref ik, .int m24, .int m25, .long m26, .int m27, .int m28, .ref ro, .int m30, .ref ct, .ref se, .ref th, .ref cn, .ref be, .int m36, .ref du, .int w157, .ref db, .int m40, .int m41, .int m42, .ref pn, .ref wg, .ref wh, .ref tn, .ref he, .int m48, .ref tr, .ref fd, .ref po, .int m52, .int m53]) := (congrFun e_f164 mm).trans (z_up_ne (z_tne hf_mm hf_db (m := 10) (n := 140) rfl rfl (by decide)) hf_mm)
            have hf_dr : f164 dr = .inl (cy 1, 520, .inl gdr) := (congrFun e_f164 dr).trans (z_up_ne (z_tne hf_dr hf_db (m := 4260) (n := 140) rfl rfl (by decide)) hf_dr)
            have hf_lw : f164 lw = .inl (cy 1, 25, .inl glw) := (congrFun e_f164 lw).trans (z_up_ne (z_tne hf_lw hf_db (m := 300) (n := 140) rfl rfl (by decide)) hf_lw)
            have hf_ha : f164 ha = .inl (cy 1, 30, .inl gha) := (congrFun e_f164 ha).trans (z_up_ne (z_tne hf_ha hf_db (m := 340) (n := 140) rfl rfl (by decide)) hf_ha)
            have hf_th : f164 th = .inl (cy 1, 36, .inl g8) := (congrFun e_f164 th).trans (z_up_ne (z_tne hf_th hf_db (m := 388) (n := 140) rfl rfl (by decide)) hf_th)
            have hf_se : f164 se = .inl (cy 1, 36, .inl g119) := (congrFun e_f164 se).trans (z_up_ne (z_tne hf_se hf_db (m := 388) (n := 140) rfl rfl (by decide)) hf_se)
            have hf_fo : f164 fo = .inl (cy 1, 180, .inl gfo) := (congrFun e_f164 fo).trans (z_up_ne (z_tne hf_fo hf_db (m := 1540) (n := 140) rfl rfl (by decide)) hf_fo)
            have hf_cn : f164 cn = .inl (cy 1, 36, .inl g129) := (congrFun e_f164 cn).trans (z_up_ne (z_tne hf_cn hf_db (m := 388) (n := 140) rfl rfl (by decide)) hf_cn)
            have hf_ct : f164 ct = .inl (cy 1, 4, .inl g140) := (congrFun e_f164 ct).trans (z_up_ne (z_tne hf_ct hf_db (m := 132) (n := 140) rfl rfl (by decide)) hf_ct)
            have hf_du : f164 du = .inl (cy 1, 5200, .inl g155) := (congrFun e_f164 du).trans (z_up_ne (z_tne hf_du hf_db (m := 41700) (n := 140) rfl rfl (by decide)) hf_du)
            have hf_db : f164 db = .inl (cy 1, 5, .inl (upd gdb r160.toNatClampNeg w162)) := (congrFun e_f164 db).trans z_up_self
            have hfr : ∀ b ∈ L, b ≠ mm → b ≠ th → b ≠ se → b ≠ cn → b ≠ ct → b ≠ du → b ≠ db → f164 b = f b := fun b hb h0 h1 h2 h3 h4 h5 h6 => (congrFun e_f164 b).trans (z_up_ne h6 (hfr b hb h0 h1 h2 h3 h4 h5 h6))
            obtain ⟨g163, e_g163⟩ : ∃ z, z = (upd gdb r160.toNatClampNeg w162) := ⟨_, rfl⟩
            rw [← e_g163] at hf_db
            exact z_vret hx hb hr hlk (by decide) (by decide) hw (⟨hsub, hfr, w157, g8, g119, g129, g140, g155, g163, hf_mm, hf_th, hf_se, hf_cn, hf_ct, hf_du, hf_db, hq_ct, hq_du, by omega, by omega⟩) dX10_passes_269
          · skip
            have hq_ct : ∀ j : Nat, q_law j (g135 j) := z_updQ hq_ct e_g135 (show 0 ≤ (w134 : Int32).toInt ∧ (w134 : Int32).toInt ≤ 999 by omega)
            exact z_vret hx hb hr hlk (by decide) (by decide) hw (⟨hsub, hfr, m38, g8, g119, g129, g135, gdu, gdb, hf_mm, hf_th, hf_se, hf_cn, hf_ct, hf_du, hf_db, hq_ct, hq_du, by omega, by omega⟩) dX10_passes_179
        · skip
          refine lv_aload_n hx hb dX10_passes_96 rfl (lv_at hl 2 rfl) ?_
          refine z_get (C := RX10) (T := TX10) (N := 54) (ci := 10) (v := .ref se) hx hb hT zin_X10 hown hK hw hm_mm hf_mm rfl 32 (by decide) (hT _ kw_1200) rfl dX10_passes_97 ?_
          refine lv_bipush (v := 9) hx hb dX10_passes_100 (by decide) ?_
          refine lv_iload hx hb dX10_passes_102 (lv_at hl 1 rfl) ?_
          refine lv_imul hx hb dX10_passes_104 ?_
          refine lv_topi (fun w165 e_w165 => ?_)
          have i_w165 : w165.toInt = (9 * r2.toInt) := z_mul e_w165 (show (9 : Int32).toInt = 9 by decide) rfl (by omega)
          refine lv_iload hx hb dX10_passes_105 (lv_at hl 0 rfl) ?_
          refine lv_iadd hx hb dX10_passes_107 ?_
          refine lv_topi (fun w166 e_w166 => ?_)
          have i_w166 : w166.toInt = ((9 * r2.toInt) + (ti.toInt / 24)) := z_add e_w166 i_w165 i_w3 (by omega)
          refine z_iald hx hb hK hw 1 hm_se hf_se rfl (z_ix i_w166 (by omega)) dX10_passes_108 ?_
          refine lv_topi (fun w167 e_w167 => ?_)
          refine lv_aload_n hx hb dX10_passes_109 rfl (lv_at hl 2 rfl) ?_
          refine z_get (C := RX10) (T := TX10) (N := 54) (ci := 10) (v := .ref fo) hx hb hT zin_X10 hown hK hw hm_mm hf_mm rfl 20 (by decide) (hT _ kw_1188) rfl dX10_passes_110 ?_
          refine lv_bipush (v := 9) hx hb dX10_passes_113 (by decide) ?_
          refine lv_iload hx hb dX10_passes_115 (lv_at hl 1 rfl) ?_
          refine lv_imul hx hb dX10_passes_117 ?_
          refine lv_topi (fun w168 e_w168 => ?_)
          have i_w168 : w168.toInt = (9 * r2.toInt) := z_mul e_w168 (show (9 : Int32).toInt = 9 by decide) rfl (by omega)
          refine lv_iload hx hb dX10_passes_118 (lv_at hl 0 rfl) ?_
          refine lv_iadd hx hb dX10_passes_120 ?_
          refine lv_topi (fun w169 e_w169 => ?_)
          have i_w169 : w169.toInt = ((9 * r2.toInt) + (ti.toInt / 24)) := z_add e_w169 i_w168 i_w3 (by omega)
          refine z_iald hx hb hK hw 1 hm_fo hf_fo rfl (z_ix i_w169 (by omega)) dX10_passes_121 ?_
          refine lv_topi (fun w170 e_w170 => ?_)
          have hfe_ : w170.toInt = w123.toInt := by rw [e_w170, e_w123, z_ieq (x := w169) (y := w122) (by omega)]
          refine lv_irem hx hb dX10_passes_122 (z_ne0 rfl (by omega)) ?_
          refine lv_topi (fun w171 e_w171 => ?_)
          refine z_if_ne (tgt := 127) hx hb rfl dX10_passes_123 (by decide) (fun c172 => ?_) (fun c172 => ?_)
          · skip
            refine lv_aload_n hx hb dX10_passes_127 rfl (lv_at hl 2 rfl) ?_
            refine z_get (C := RX10) (T := TX10) (N := 54) (ci := 10) (v := .ref cn) hx hb hT zin_X10 hown hK hw hm_mm hf_mm rfl 34 (by decide) (hT _ kw_1202) rfl dX10_passes_128 ?_
            refine lv_bipush (v := 9) hx hb dX10_passes_131 (by decide) ?_
            refine lv_iload hx hb dX10_passes_133 (lv_at hl 1 rfl) ?_
            refine lv_imul hx hb dX10_passes_135 ?_
            refine lv_topi (fun w173 e_w173 => ?_)
            have i_w173 : w173.toInt = (9 * r2.toInt) := z_mul e_w173 (show (9 : Int32).toInt = 9 by decide) rfl (by omega)
            refine lv_iload hx hb dX10_passes_136 (lv_at hl 0 rfl) ?_
            refine lv_iadd hx hb dX10_passes_138 ?_
            refine lv_topi (fun w174 e_w174 => ?_)
            have i_w174 : w174.toInt = ((9 * r2.toInt) + (ti.toInt / 24)) := z_add e_w174 i_w173 i_w3 (by omega)
            refine lv_dup2_11 hx hb dX10_passes_139 rfl rfl ?_
            refine z_iald hx hb hK hw 1 hm_cn hf_cn rfl (z_ix i_w174 (by omega)) dX10_passes_140 ?_
            refine lv_topi (fun w175 e_w175 => ?_)
            refine lv_iconst (v := 1) hx hb dX10_passes_141 (by decide) ?_
            refine lv_iadd hx hb dX10_passes_142 ?_
            refine lv_topi (fun w176 e_w176 => ?_)
            refine z_iast hx hb hK hw 1 hm_cn hf_cn rfl (z_ix i_w174 (by omega)) dX10_passes_143 (fun H locs hw => ?_)
            obtain ⟨f178, e_f178⟩ : ∃ z, z = va_up f120 cn (.inl (cy 1, 36, .inl (upd gcn w174.toNatClampNeg w176))) := ⟨_, rfl⟩
            rw [← e_f178] at hw
            have hf_mm : f178 mm = .inr (10, [.int m0, .ref wd, .ref my, .ref ce, .ref mv, .ref ta, .int m6, .int m7, .int m8, .int m9, .int m10, .long m11, .int m12, .int m13, .int m14, .int m15, .ref li, .ref ha, .ref lw, .ref st, .ref fo, .ref dr, .int m22, .ref ik, .int m24, .int m25, .long m26, .int m27, .int m28, .ref ro, .int m30, .ref ct, .ref se, .ref th, .ref cn, .ref be, .int m36, .ref du, .int m38, .ref db, .int m40, .int m41, .int m42, .ref pn, .ref wg, .ref wh, .ref tn, .ref he, .int m48, .ref tr, .ref fd, .ref po, .int m52, .int m53]) := (congrFun e_f178 mm).trans (z_up_ne (z_tne hf_mm hf_cn (m := 10) (n := 388) rfl rfl (by decide)) hf_mm)
            have hf_dr : f178 dr = .inl (cy 1, 520, .inl gdr) := (congrFun e_f178 dr).trans (z_up_ne (z_tne hf_dr hf_cn (m := 4260) (n := 388) rfl rfl (by decide)) hf_dr)
            have hf_lw : f178 lw = .inl (cy 1, 25, .inl glw) := (congrFun e_f178 lw).trans (z_up_ne (z_tne hf_lw hf_cn (m := 300) (n := 388) rfl rfl (by decide)) hf_lw)
            have hf_ha : f178 ha = .inl (cy 1, 30, .inl gha) := (congrFun e_f178 ha).trans (z_up_ne (z_tne hf_ha hf_cn (m := 340) (n := 388) rfl rfl (by decide)) hf_ha)
            have hf_th : f178 th = .inl (cy 1, 36, .inl g8) := (congrFun e_f178 th).trans (z_up_ne ne_th_cn hf_th)
            have hf_se : f178 se = .inl (cy 1, 36, .inl g119) := (congrFun e_f178 se).trans (z_up_ne ne_se_cn hf_se)
            have hf_fo : f178 fo = .inl (cy 1, 180, .inl gfo) := (congrFun e_f178 fo).trans (z_up_ne (z_tne hf_fo hf_cn (m := 1540) (n := 388) rfl rfl (by decide)) hf_fo)
            have hf_ct : f178 ct = .inl (cy 1, 4, .inl gct) := (congrFun e_f178 ct).trans (z_up_ne (z_tne hf_ct hf_cn (m := 132) (n := 388) rfl rfl (by decide)) hf_ct)
            have hf_du : f178 du = .inl (cy 1, 5200, .inl gdu) := (congrFun e_f178 du).trans (z_up_ne (z_tne hf_du hf_cn (m := 41700) (n := 388) rfl rfl (by decide)) hf_du)
            have hf_db : f178 db = .inl (cy 1, 5, .inl gdb) := (congrFun e_f178 db).trans (z_up_ne (z_tne hf_db hf_cn (m := 140) (n := 388) rfl rfl (by decide)) hf_db)
            have hf_cn : f178 cn = .inl (cy 1, 36, .inl (upd gcn w174.toNatClampNeg w176)) := (congrFun e_f178 cn).trans z_up_self
            have hfr : ∀ b ∈ L, b ≠ mm → b ≠ th → b ≠ se → b ≠ cn → b ≠ ct → b ≠ du → b ≠ db → f178 b = f b := fun b hb h0 h1 h2 h3 h4 h5 h6 => (congrFun e_f178 b).trans (z_up_ne h3 (hfr b hb h0 h1 h2 h3 h4 h5 h6))
            obtain ⟨g177, e_g177⟩ : ∃ z, z = (upd gcn w174.toNatClampNeg w176) := ⟨_, rfl⟩
            rw [← e_g177] at hf_cn
            refine lv_aload_n hx hb dX10_passes_144 rfl (lv_at hl 2 rfl) ?_
            refine lv_iload hx hb dX10_passes_145 (lv_at hl 1 rfl) ?_
            refine z_calliV (cells := 0) (slots := 0) (b := mm) (As := [.int r2]) (rest := []) (ci := 10) (q0 := (RX10, TX10, 54)) ⟨hx, hb, hml, hown, hT⟩ (c_X10_counterOf l hm_mm hm_lw hf_mm hf_lw hq_lw (by first | omega | decide | assumption)) (cwV 1 hT (z_goodV (fun _ h => h) kw_1579 kw_1581 kw_67 kw_96 kw_1582) rfl rfl rfl (by decide +kernel) ⟨by decide, by decide⟩) z_mv hKK hK hw hA hm_mm hf_mm rfl rfl rfl hl.1 rfl (Nat.le_of_ble_eq_true rfl) dX10_passes_147 ⟨by decide, by decide⟩ (fun r179 u H locs hp hw => ?_)
            obtain ⟨rfl, hp⟩ := hp
            have hw : z_H D vwCl (z_A L sz) s.heap L f178 H locs := hw
            have hq180 := hp
            refine lv_istore (lv' := [(6, .int r179), (5, .int w3), (4, .int r2), (0, .ref mm), (1, .int kk), (2, .int pl), (3, .int ti)]) hx hb dX10_passes_150 hl (by decide) rfl (fun ls hl => ?_)
            refine lv_aload_n hx hb dX10_passes_152 rfl (lv_at hl 3 rfl) ?_
            refine z_get (C := RX10) (T := TX10) (N := 54) (ci := 10) (v := .ref ct) hx hb hT zin_X10 hown hK hw hm_mm hf_mm rfl 31 (by decide) (hT _ kw_1199) rfl dX10_passes_153 ?_
            refine lv_iload hx hb dX10_passes_156 (lv_at hl 0 rfl) ?_
            refine lv_dup2_11 hx hb dX10_passes_158 rfl rfl ?_
            refine z_iald hx hb hK hw 1 hm_ct hf_ct rfl (z_ix rfl (by omega)) dX10_passes_159 ?_
            refine lv_topi (fun w181 e_w181 => ?_)
            have hv_w181 : 0 ≤ w181.toInt ∧ w181.toInt ≤ 999 := by rw [e_w181]; exact hq_ct _
            have hc0_ : w181.toInt = (gct r179.toNatClampNeg).toInt := by rw [e_w181]
            refine lv_iconst (v := 1) hx hb dX10_passes_160 (by decide) ?_
            refine lv_iadd hx hb dX10_passes_161 ?_
            refine lv_topi (fun w182 e_w182 => ?_)
            have i_w182 : w182.toInt = (w181.toInt + 1) := z_add e_w182 rfl (show (1 : Int32).toInt = 1 by decide) (by omega)
            refine z_iast hx hb hK hw 1 hm_ct hf_ct rfl (z_ix rfl (by omega)) dX10_passes_162 (fun H locs hw => ?_)
            obtain ⟨f184, e_f184⟩ : ∃ z, z = va_up f178 ct (.inl (cy 1, 4, .inl (upd gct r179.toNatClampNeg w182))) := ⟨_, rfl⟩
            rw [← e_f184] at hw
            have hf_mm : f184 mm = .inr (10, [.int m0, .ref wd, .ref my, .ref ce, .ref mv, .ref ta, .int m6, .int m7, .int m8, .int m9, .int m10, .long m11, .int m12, .int m13, .int m14, .int m15, .ref li, .ref ha, .ref lw, .ref st, .ref fo, .ref dr, .int m22, .ref ik, .int m24, .int m25, .long m26, .int m27, .int m28, .ref ro, .int m30, .ref ct, .ref se, .ref th, .ref cn, .ref be, .int m36, .ref du, .int m38, .ref db, .int m40, .int m41, .int m42, .ref pn, .ref wg, .ref wh, .ref tn, .ref he, .int m48, .ref tr, .ref fd, .ref po, .int m52, .int m53]) := (congrFun e_f184 mm).trans (z_up_ne (z_tne hf_mm hf_ct (m := 10) (n := 132) rfl rfl (by decide)) hf_mm)
            have hf_dr : f184 dr = .inl (cy 1, 520, .inl gdr) := (congrFun e_f184 dr).trans (z_up_ne (z_tne hf_dr hf_ct (m := 4260) (n := 132) rfl rfl (by decide)) hf_dr)
            have hf_lw : f184 lw = .inl (cy 1, 25, .inl glw) := (congrFun e_f184 lw).trans (z_up_ne (z_tne hf_lw hf_ct (m := 300) (n := 132) rfl rfl (by decide)) hf_lw)
            have hf_ha : f184 ha = .inl (cy 1, 30, .inl gha) := (congrFun e_f184 ha).trans (z_up_ne (z_tne hf_ha hf_ct (m := 340) (n := 132) rfl rfl (by decide)) hf_ha)
            have hf_th : f184 th = .inl (cy 1, 36, .inl g8) := (congrFun e_f184 th).trans (z_up_ne (z_tne hf_th hf_ct (m := 388) (n := 132) rfl rfl (by decide)) hf_th)
            have hf_se : f184 se = .inl (cy 1, 36, .inl g119) := (congrFun e_f184 se).trans (z_up_ne (z_tne hf_se hf_ct (m := 388) (n := 132) rfl rfl (by decide)) hf_se)
            have hf_fo : f184 fo = .inl (cy 1, 180, .inl gfo) := (congrFun e_f184 fo).trans (z_up_ne (z_tne hf_fo hf_ct (m := 1540) (n := 132) rfl rfl (by decide)) hf_fo)
            have hf_cn : f184 cn = .inl (cy 1, 36, .inl g177) := (congrFun e_f184 cn).trans (z_up_ne (z_tne hf_cn hf_ct (m := 388) (n := 132) rfl rfl (by decide)) hf_cn)
            have hf_du : f184 du = .inl (cy 1, 5200, .inl gdu) := (congrFun e_f184 du).trans (z_up_ne (z_tne hf_du hf_ct (m := 41700) (n := 132) rfl rfl (by decide)) hf_du)
            have hf_db : f184 db = .inl (cy 1, 5, .inl gdb) := (congrFun e_f184 db).trans (z_up_ne (z_tne hf_db hf_ct (m := 140) (n := 132) rfl rfl (by decide)) hf_db)
            have hf_ct : f184 ct = .inl (cy 1, 4, .inl (upd gct r179.toNatClampNeg w182)) := (congrFun e_f184 ct).trans z_up_self
            have hfr : ∀ b ∈ L, b ≠ mm → b ≠ th → b ≠ se → b ≠ cn → b ≠ ct → b ≠ du → b ≠ db → f184 b = f b := fun b hb h0 h1 h2 h3 h4 h5 h6 => (congrFun e_f184 b).trans (z_up_ne h4 (hfr b hb h0 h1 h2 h3 h4 h5 h6))
            obtain ⟨g183, e_g183⟩ : ∃ z, z = (upd gct r179.toNatClampNeg w182) := ⟨_, rfl⟩
            rw [← e_g183] at hf_ct
            refine lv_aload_n hx hb dX10_passes_163 rfl (lv_at hl 3 rfl) ?_
            refine z_get (C := RX10) (T := TX10) (N := 54) (ci := 10) (v := .ref ct) hx hb hT zin_X10 hown hK hw hm_mm hf_mm rfl 31 (by decide) (hT _ kw_1199) rfl dX10_passes_164 ?_
            refine lv_iload hx hb dX10_passes_167 (lv_at hl 0 rfl) ?_
            refine z_iald hx hb hK hw 1 hm_ct hf_ct rfl (z_ix rfl (by omega)) dX10_passes_169 ?_
            refine lv_topi (fun w185 e_w185 => ?_)
            have hc1_ : w185.toInt = w182.toInt := by rw [e_w185, show g183 r179.toNatClampNeg = w182 from z_upd_at e_g183]
            have hph1 := z_ph_inc e_g183 (by omega)
            refine lv_aload_n hx hb dX10_passes_170 rfl (lv_at hl 3 rfl) ?_
            refine z_get (C := RX10) (T := TX10) (N := 54) (ci := 10) (v := .ref lw) hx hb hT zin_X10 hown hK hw hm_mm hf_mm rfl 18 (by decide) (hT _ kw_1186) rfl dX10_passes_171 ?_
            refine lv_iconst (v := 3) hx hb dX10_passes_174 (by decide) ?_
            refine z_iald hx hb hK hw 1 hm_lw hf_lw rfl (z_ix (show (3 : Int32).toInt = 3 by decide) (by decide)) dX10_passes_175 ?_
            refine lv_topi (fun w186 e_w186 => ?_)
            have hv_w186 : 0 ≤ w186.toInt ∧ w186.toInt ≤ 999 := by rw [e_w186]; exact hq_lw _
            have he3_ : w186.toInt = (glw 3).toInt := by rw [e_w186]; rfl
            refine z_icmp_ge (tgt := 180) hx hb rfl rfl dX10_passes_176 (by decide) (fun c187 => ?_) (fun c187 => ?_)
            · skip
              refine lv_aload_n hx hb dX10_passes_180 rfl (lv_at hl 3 rfl) ?_
              refine z_get (C := RX10) (T := TX10) (N := 54) (ci := 10) (v := .ref ct) hx hb hT zin_X10 hown hK hw hm_mm hf_mm rfl 31 (by decide) (hT _ kw_1199) rfl dX10_passes_181 ?_
              refine lv_iload hx hb dX10_passes_184 (lv_at hl 0 rfl) ?_
              refine lv_iconst (v := 0) hx hb dX10_passes_186 (by decide) ?_
              refine z_iast hx hb hK hw 1 hm_ct hf_ct rfl (z_ix rfl (by omega)) dX10_passes_187 (fun H locs hw => ?_)
              obtain ⟨f189, e_f189⟩ : ∃ z, z = va_up f184 ct (.inl (cy 1, 4, .inl (upd g183 r179.toNatClampNeg 0))) := ⟨_, rfl⟩
              rw [← e_f189] at hw
              have hf_mm : f189 mm = .inr (10, [.int m0, .ref wd, .ref my, .ref ce, .ref mv, .ref ta, .int m6, .int m7, .int m8, .int m9, .int m10, .long m11, .int m12, .int m13, .int m14, .int m15, .ref li, .ref ha, .ref lw, .ref st, .ref fo, .ref dr, .int m22, .ref ik, .int m24, .int m25, .long m26, .int m27, .int m28, .ref ro, .int m30, .ref ct, .ref se, .ref th, .ref cn, .ref be, .int m36, .ref du, .int m38, .ref db, .int m40, .int m41, .int m42, .ref pn, .ref wg, .ref wh, .ref tn, .ref he, .int m48, .ref tr, .ref fd, .ref po, .int m52, .int m53]) := (congrFun e_f189 mm).trans (z_up_ne (z_tne hf_mm hf_ct (m := 10) (n := 132) rfl rfl (by decide)) hf_mm)
              have hf_dr : f189 dr = .inl (cy 1, 520, .inl gdr) := (congrFun e_f189 dr).trans (z_up_ne (z_tne hf_dr hf_ct (m := 4260) (n := 132) rfl rfl (by decide)) hf_dr)
              have hf_lw : f189 lw = .inl (cy 1, 25, .inl glw) := (congrFun e_f189 lw).trans (z_up_ne (z_tne hf_lw hf_ct (m := 300) (n := 132) rfl rfl (by decide)) hf_lw)
              have hf_ha : f189 ha = .inl (cy 1, 30, .inl gha) := (congrFun e_f189 ha).trans (z_up_ne (z_tne hf_ha hf_ct (m := 340) (n := 132) rfl rfl (by decide)) hf_ha)
              have hf_th : f189 th = .inl (cy 1, 36, .inl g8) := (congrFun e_f189 th).trans (z_up_ne (z_tne hf_th hf_ct (m := 388) (n := 132) rfl rfl (by decide)) hf_th)
              have hf_se : f189 se = .inl (cy 1, 36, .inl g119) := (congrFun e_f189 se).trans (z_up_ne (z_tne hf_se hf_ct (m := 388) (n := 132) rfl rfl (by decide)) hf_se)
              have hf_fo : f189 fo = .inl (cy 1, 180, .inl gfo) := (congrFun e_f189 fo).trans (z_up_ne (z_tne hf_fo hf_ct (m := 1540) (n := 132) rfl rfl (by decide)) hf_fo)
              have hf_cn : f189 cn = .inl (cy 1, 36, .inl g177) := (congrFun e_f189 cn).trans (z_up_ne (z_tne hf_cn hf_ct (m := 388) (n := 132) rfl rfl (by decide)) hf_cn)
              have hf_du : f189 du = .inl (cy 1, 5200, .inl gdu) := (congrFun e_f189 du).trans (z_up_ne (z_tne hf_du hf_ct (m := 41700) (n := 132) rfl rfl (by decide)) hf_du)
              have hf_db : f189 db = .inl (cy 1, 5, .inl gdb) := (congrFun e_f189 db).trans (z_up_ne (z_tne hf_db hf_ct (m := 140) (n := 132) rfl rfl (by decide)) hf_db)
              have hf_ct : f189 ct = .inl (cy 1, 4, .inl (upd g183 r179.toNatClampNeg 0)) := (congrFun e_f189 ct).trans z_up_self
              have hfr : ∀ b ∈ L, b ≠ mm → b ≠ th → b ≠ se → b ≠ cn → b ≠ ct → b ≠ du → b ≠ db → f189 b = f b := fun b hb h0 h1 h2 h3 h4 h5 h6 => (congrFun e_f189 b).trans (z_up_ne h4 (hfr b hb h0 h1 h2 h3 h4 h5 h6))
              obtain ⟨g188, e_g188⟩ : ∃ z, z = (upd g183 r179.toNatClampNeg 0) := ⟨_, rfl⟩
              rw [← e_g188] at hf_ct
              have hq_ct : ∀ j : Nat, q_law j (g188 j) := z_updQ2 hq_ct e_g183 e_g188 (show 0 ≤ (0 : Int32).toInt ∧ (0 : Int32).toInt ≤ 999 by decide)
              have hph2 := z_ph_due e_g183 e_g188 (by omega) (by omega) (by omega)
              refine lv_aload_n hx hb dX10_passes_188 rfl (lv_at hl 3 rfl) ?_
              refine z_get (C := RX10) (T := TX10) (N := 54) (ci := 10) (v := .ref du) hx hb hT zin_X10 hown hK hw hm_mm hf_mm rfl 37 (by decide) (hT _ kw_1205) rfl dX10_passes_189 ?_
              refine lv_iconst (v := 4) hx hb dX10_passes_192 (by decide) ?_
              refine lv_aload_n hx hb dX10_passes_193 rfl (lv_at hl 3 rfl) ?_
              refine z_get (C := RX10) (T := TX10) (N := 54) (ci := 10) (v := .int m38) hx hb hT zin_X10 hown hK hw hm_mm hf_mm rfl 38 (by decide) (hT _ kw_1206) rfl dX10_passes_194 ?_
              refine lv_imul hx hb dX10_passes_197 ?_
              refine lv_topi (fun w190 e_w190 => ?_)
              have i_w190 : w190.toInt = (4 * m38.toInt) := z_mul e_w190 (show (4 : Int32).toInt = 4 by decide) rfl (by omega)
              refine lv_iload_n hx hb dX10_passes_198 rfl (lv_at hl 6 rfl) ?_
              refine z_iast hx hb hK hw 1 hm_du hf_du rfl (z_ix i_w190 (by omega)) dX10_passes_199 (fun H locs hw => ?_)
              obtain ⟨f192, e_f192⟩ : ∃ z, z = va_up f189 du (.inl (cy 1, 5200, .inl (upd gdu w190.toNatClampNeg ti))) := ⟨_, rfl⟩
              rw [← e_f192] at hw
              have hf_mm : f192 mm = .inr (10, [.int m0, .ref wd, .ref my, .ref ce, .ref mv, .ref ta, .int m6, .int m7, .int m8, .int m9, .int m10, .long m11, .int m12, .int m13, .int m14, .int m15, .ref li, .ref ha, .ref lw, .ref st, .ref fo, .ref dr, .int m22, .ref ik, .int m24, .int m25, .long m26, .int m27, .int m28, .ref ro, .int m30, .ref ct, .ref se, .ref th, .ref cn, .ref be, .int m36, .ref du, .int m38, .ref db, .int m40, .int m41, .int m42, .ref pn, .ref wg, .ref wh, .ref tn, .ref he, .int m48, .ref tr, .ref fd, .ref po, .int m52, .int m53]) := (congrFun e_f192 mm).trans (z_up_ne (z_tne hf_mm hf_du (m := 10) (n := 41700) rfl rfl (by decide)) hf_mm)
              have hf_dr : f192 dr = .inl (cy 1, 520, .inl gdr) := (congrFun e_f192 dr).trans (z_up_ne (z_tne hf_dr hf_du (m := 4260) (n := 41700) rfl rfl (by decide)) hf_dr)
              have hf_lw : f192 lw = .inl (cy 1, 25, .inl glw) := (congrFun e_f192 lw).trans (z_up_ne (z_tne hf_lw hf_du (m := 300) (n := 41700) rfl rfl (by decide)) hf_lw)
              have hf_ha : f192 ha = .inl (cy 1, 30, .inl gha) := (congrFun e_f192 ha).trans (z_up_ne (z_tne hf_ha hf_du (m := 340) (n := 41700) rfl rfl (by decide)) hf_ha)
              have hf_th : f192 th = .inl (cy 1, 36, .inl g8) := (congrFun e_f192 th).trans (z_up_ne (z_tne hf_th hf_du (m := 388) (n := 41700) rfl rfl (by decide)) hf_th)
              have hf_se : f192 se = .inl (cy 1, 36, .inl g119) := (congrFun e_f192 se).trans (z_up_ne (z_tne hf_se hf_du (m := 388) (n := 41700) rfl rfl (by decide)) hf_se)
              have hf_fo : f192 fo = .inl (cy 1, 180, .inl gfo) := (congrFun e_f192 fo).trans (z_up_ne (z_tne hf_fo hf_du (m := 1540) (n := 41700) rfl rfl (by decide)) hf_fo)
              have hf_cn : f192 cn = .inl (cy 1, 36, .inl g177) := (congrFun e_f192 cn).trans (z_up_ne (z_tne hf_cn hf_du (m := 388) (n := 41700) rfl rfl (by decide)) hf_cn)
              have hf_ct : f192 ct = .inl (cy 1, 4, .inl g188) := (congrFun e_f192 ct).trans (z_up_ne (z_tne hf_ct hf_du (m := 132) (n := 41700) rfl rfl (by decide)) hf_ct)
              have hf_db : f192 db = .inl (cy 1, 5, .inl gdb) := (congrFun e_f192 db).trans (z_up_ne (z_tne hf_db hf_du (m := 140) (n := 41700) rfl rfl (by decide)) hf_db)
              have hf_du : f192 du = .inl (cy 1, 5200, .inl (upd gdu w190.toNatClampNeg ti)) := (congrFun e_f192 du).trans z_up_self
              have hfr : ∀ b ∈ L, b ≠ mm → b ≠ th → b ≠ se → b ≠ cn → b ≠ ct → b ≠ du → b ≠ db → f192 b = f b := fun b hb h0 h1 h2 h3 h4 h5 h6 => (congrFun e_f192 b).trans (z_up_ne h5 (hfr b hb h0 h1 h2 h3 h4 h5 h6))
              obtain ⟨g191, e_g191⟩ : ∃ z, z = (upd gdu w190.toNatClampNeg ti) := ⟨_, rfl⟩
              rw [← e_g191] at hf_du
              have hq_du : ∀ j : Nat, q_du j (g191 j) := z_updQ hq_du e_g191 (show q_du _ _ from fun h => absurd h (z_nmod4 i_w190 (k := 0) (by omega) (by decide)))
              refine lv_aload_n hx hb dX10_passes_200 rfl (lv_at hl 3 rfl) ?_
              refine z_get (C := RX10) (T := TX10) (N := 54) (ci := 10) (v := .ref du) hx hb hT zin_X10 hown hK hw hm_mm hf_mm rfl 37 (by decide) (hT _ kw_1205) rfl dX10_passes_201 ?_
              refine lv_iconst (v := 4) hx hb dX10_passes_204 (by decide) ?_
              refine lv_aload_n hx hb dX10_passes_205 rfl (lv_at hl 3 rfl) ?_
              refine z_get (C := RX10) (T := TX10) (N := 54) (ci := 10) (v := .int m38) hx hb hT zin_X10 hown hK hw hm_mm hf_mm rfl 38 (by decide) (hT _ kw_1206) rfl dX10_passes_206 ?_
              refine lv_imul hx hb dX10_passes_209 ?_
              refine lv_topi (fun w193 e_w193 => ?_)
              have i_w193 : w193.toInt = (4 * m38.toInt) := z_mul e_w193 (show (4 : Int32).toInt = 4 by decide) rfl (by omega)
              refine lv_iconst (v := 1) hx hb dX10_passes_210 (by decide) ?_
              refine lv_iadd hx hb dX10_passes_211 ?_
              refine lv_topi (fun w194 e_w194 => ?_)
              have i_w194 : w194.toInt = ((4 * m38.toInt) + 1) := z_add e_w194 i_w193 (show (1 : Int32).toInt = 1 by decide) (by omega)
              refine lv_iload hx hb dX10_passes_212 (lv_at hl 2 rfl) ?_
              refine z_iast hx hb hK hw 1 hm_du hf_du rfl (z_ix i_w194 (by omega)) dX10_passes_214 (fun H locs hw => ?_)
              obtain ⟨f196, e_f196⟩ : ∃ z, z = va_up f192 du (.inl (cy 1, 5200, .inl (upd g191 w194.toNatClampNeg r2))) := ⟨_, rfl⟩
              rw [← e_f196] at hw
              have hf_mm : f196 mm = .inr (10, [.int m0, .ref wd, .ref my, .ref ce, .ref mv, .ref ta, .int m6, .int m7, .int m8, .int m9, .int m10, .long m11, .int m12, .int m13, .int m14, .int m15, .ref li, .ref ha, .ref lw, .ref st, .ref fo, .ref dr, .int m22, .ref ik, .int m24, .int m25, .long m26, .int m27, .int m28, .ref ro, .int m30, .ref ct, .ref se, .ref th, .ref cn, .ref be, .int m36, .ref du, .int m38, .ref db, .int m40, .int m41, .int m42, .ref pn, .ref wg, .ref wh, .ref tn, .ref he, .int m48, .ref tr, .ref fd, .ref po, .int m52, .int m53]) := (congrFun e_f196 mm).trans (z_up_ne (z_tne hf_mm hf_du (m := 10) (n := 41700) rfl rfl (by decide)) hf_mm)
              have hf_dr : f196 dr = .inl (cy 1, 520, .inl gdr) := (congrFun e_f196 dr).trans (z_up_ne (z_tne hf_dr hf_du (m := 4260) (n := 41700) rfl rfl (by decide)) hf_dr)
              have hf_lw : f196 lw = .inl (cy 1, 25, .inl glw) := (congrFun e_f196 lw).trans (z_up_ne (z_tne hf_lw hf_du (m := 300) (n := 41700) rfl rfl (by decide)) hf_lw)
              have hf_ha : f196 ha = .inl (cy 1, 30, .inl gha) := (congrFun e_f196 ha).trans (z_up_ne (z_tne hf_ha hf_du (m := 340) (n := 41700) rfl rfl (by decide)) hf_ha)
              have hf_th : f196 th = .inl (cy 1, 36, .inl g8) := (congrFun e_f196 th).trans (z_up_ne (z_tne hf_th hf_du (m := 388) (n := 41700) rfl rfl (by decide)) hf_th)
              have hf_se : f196 se = .inl (cy 1, 36, .inl g119) := (congrFun e_f196 se).trans (z_up_ne (z_tne hf_se hf_du (m := 388) (n := 41700) rfl rfl (by decide)) hf_se)
              have hf_fo : f196 fo = .inl (cy 1, 180, .inl gfo) := (congrFun e_f196 fo).trans (z_up_ne (z_tne hf_fo hf_du (m := 1540) (n := 41700) rfl rfl (by decide)) hf_fo)
              have hf_cn : f196 cn = .inl (cy 1, 36, .inl g177) := (congrFun e_f196 cn).trans (z_up_ne (z_tne hf_cn hf_du (m := 388) (n := 41700) rfl rfl (by decide)) hf_cn)
              have hf_ct : f196 ct = .inl (cy 1, 4, .inl g188) := (congrFun e_f196 ct).trans (z_up_ne (z_tne hf_ct hf_du (m := 132) (n := 41700) rfl rfl (by decide)) hf_ct)
              have hf_db : f196 db = .inl (cy 1, 5, .inl gdb) := (congrFun e_f196 db).trans (z_up_ne (z_tne hf_db hf_du (m := 140) (n := 41700) rfl rfl (by decide)) hf_db)
              have hf_du : f196 du = .inl (cy 1, 5200, .inl (upd g191 w194.toNatClampNeg r2)) := (congrFun e_f196 du).trans z_up_self
              have hfr : ∀ b ∈ L, b ≠ mm → b ≠ th → b ≠ se → b ≠ cn → b ≠ ct → b ≠ du → b ≠ db → f196 b = f b := fun b hb h0 h1 h2 h3 h4 h5 h6 => (congrFun e_f196 b).trans (z_up_ne h5 (hfr b hb h0 h1 h2 h3 h4 h5 h6))
              obtain ⟨g195, e_g195⟩ : ∃ z, z = (upd g191 w194.toNatClampNeg r2) := ⟨_, rfl⟩
              rw [← e_g195] at hf_du
              have hq_du : ∀ j : Nat, q_du j (g195 j) := z_updQ hq_du e_g195 (show q_du _ _ from fun h => absurd h (z_nmod4 i_w194 (k := 1) (by omega) (by decide)))
              refine lv_aload_n hx hb dX10_passes_215 rfl (lv_at hl 3 rfl) ?_
              refine z_get (C := RX10) (T := TX10) (N := 54) (ci := 10) (v := .ref du) hx hb hT zin_X10 hown hK hw hm_mm hf_mm rfl 37 (by decide) (hT _ kw_1205) rfl dX10_passes_216 ?_
              refine lv_iconst (v := 4) hx hb dX10_passes_219 (by decide) ?_
              refine lv_aload_n hx hb dX10_passes_220 rfl (lv_at hl 3 rfl) ?_
              refine z_get (C := RX10) (T := TX10) (N := 54) (ci := 10) (v := .int m38) hx hb hT zin_X10 hown hK hw hm_mm hf_mm rfl 38 (by decide) (hT _ kw_1206) rfl dX10_passes_221 ?_
              refine lv_imul hx hb dX10_passes_224 ?_
              refine lv_topi (fun w197 e_w197 => ?_)
              have i_w197 : w197.toInt = (4 * m38.toInt) := z_mul e_w197 (show (4 : Int32).toInt = 4 by decide) rfl (by omega)
              refine lv_iconst (v := 2) hx hb dX10_passes_225 (by decide) ?_
              refine lv_iadd hx hb dX10_passes_226 ?_
              refine lv_topi (fun w198 e_w198 => ?_)
              have i_w198 : w198.toInt = ((4 * m38.toInt) + 2) := z_add e_w198 i_w197 (show (2 : Int32).toInt = 2 by decide) (by omega)
              refine lv_iload_n hx hb dX10_passes_227 rfl (lv_at hl 4 rfl) ?_
              refine z_iast hx hb hK hw 1 hm_du hf_du rfl (z_ix i_w198 (by omega)) dX10_passes_228 (fun H locs hw => ?_)
              obtain ⟨f200, e_f200⟩ : ∃ z, z = va_up f196 du (.inl (cy 1, 5200, .inl (upd g195 w198.toNatClampNeg kk))) := ⟨_, rfl⟩
              rw [← e_f200] at hw
              have hf_mm : f200 mm = .inr (10, [.int m0, .ref wd, .ref my, .ref ce, .ref mv, .ref ta, .int m6, .int m7, .int m8, .int m9, .int m10, .long m11, .int m12, .int m13, .int m14, .int m15, .ref li, .ref ha, .ref lw, .ref st, .ref fo, .ref dr, .int m22, .ref ik, .int m24, .int m25, .long m26, .int m27, .int m28, .ref ro, .int m30, .ref ct, .ref se, .ref th, .ref cn, .ref be, .int m36, .ref du, .int m38, .ref db, .int m40, .int m41, .int m42, .ref pn, .ref wg, .ref wh, .ref tn, .ref he, .int m48, .ref tr, .ref fd, .ref po, .int m52, .int m53]) := (congrFun e_f200 mm).trans (z_up_ne (z_tne hf_mm hf_du (m := 10) (n := 41700) rfl rfl (by decide)) hf_mm)
              have hf_dr : f200 dr = .inl (cy 1, 520, .inl gdr) := (congrFun e_f200 dr).trans (z_up_ne (z_tne hf_dr hf_du (m := 4260) (n := 41700) rfl rfl (by decide)) hf_dr)
              have hf_lw : f200 lw = .inl (cy 1, 25, .inl glw) := (congrFun e_f200 lw).trans (z_up_ne (z_tne hf_lw hf_du (m := 300) (n := 41700) rfl rfl (by decide)) hf_lw)
              have hf_ha : f200 ha = .inl (cy 1, 30, .inl gha) := (congrFun e_f200 ha).trans (z_up_ne (z_tne hf_ha hf_du (m := 340) (n := 41700) rfl rfl (by decide)) hf_ha)
              have hf_th : f200 th = .inl (cy 1, 36, .inl g8) := (congrFun e_f200 th).trans (z_up_ne (z_tne hf_th hf_du (m := 388) (n := 41700) rfl rfl (by decide)) hf_th)
              have hf_se : f200 se = .inl (cy 1, 36, .inl g119) := (congrFun e_f200 se).trans (z_up_ne (z_tne hf_se hf_du (m := 388) (n := 41700) rfl rfl (by decide)) hf_se)
              have hf_fo : f200 fo = .inl (cy 1, 180, .inl gfo) := (congrFun e_f200 fo).trans (z_up_ne (z_tne hf_fo hf_du (m := 1540) (n := 41700) rfl rfl (by decide)) hf_fo)
              have hf_cn : f200 cn = .inl (cy 1, 36, .inl g177) := (congrFun e_f200 cn).trans (z_up_ne (z_tne hf_cn hf_du (m := 388) (n := 41700) rfl rfl (by decide)) hf_cn)
              have hf_ct : f200 ct = .inl (cy 1, 4, .inl g188) := (congrFun e_f200 ct).trans (z_up_ne (z_tne hf_ct hf_du (m := 132) (n := 41700) rfl rfl (by decide)) hf_ct)
              have hf_db : f200 db = .inl (cy 1, 5, .inl gdb) := (congrFun e_f200 db).trans (z_up_ne (z_tne hf_db hf_du (m := 140) (n := 41700) rfl rfl (by decide)) hf_db)
              have hf_du : f200 du = .inl (cy 1, 5200, .inl (upd g195 w198.toNatClampNeg kk)) := (congrFun e_f200 du).trans z_up_self
              have hfr : ∀ b ∈ L, b ≠ mm → b ≠ th → b ≠ se → b ≠ cn → b ≠ ct → b ≠ du → b ≠ db → f200 b = f b := fun b hb h0 h1 h2 h3 h4 h5 h6 => (congrFun e_f200 b).trans (z_up_ne h5 (hfr b hb h0 h1 h2 h3 h4 h5 h6))
              obtain ⟨g199, e_g199⟩ : ∃ z, z = (upd g195 w198.toNatClampNeg kk) := ⟨_, rfl⟩
              rw [← e_g199] at hf_du
              have hq_du : ∀ j : Nat, q_du j (g199 j) := z_updQ hq_du e_g199 (show q_du _ _ from fun h => (show 0 ≤ (kk : Int32).toInt ∧ (kk : Int32).toInt ≤ 12 by first | decide | omega))
              refine lv_aload_n hx hb dX10_passes_229 rfl (lv_at hl 3 rfl) ?_
              refine z_get (C := RX10) (T := TX10) (N := 54) (ci := 10) (v := .ref du) hx hb hT zin_X10 hown hK hw hm_mm hf_mm rfl 37 (by decide) (hT _ kw_1205) rfl dX10_passes_230 ?_
              refine lv_iconst (v := 4) hx hb dX10_passes_233 (by decide) ?_
              refine lv_aload_n hx hb dX10_passes_234 rfl (lv_at hl 3 rfl) ?_
              refine z_get (C := RX10) (T := TX10) (N := 54) (ci := 10) (v := .int m38) hx hb hT zin_X10 hown hK hw hm_mm hf_mm rfl 38 (by decide) (hT _ kw_1206) rfl dX10_passes_235 ?_
              refine lv_imul hx hb dX10_passes_238 ?_
              refine lv_topi (fun w201 e_w201 => ?_)
              have i_w201 : w201.toInt = (4 * m38.toInt) := z_mul e_w201 (show (4 : Int32).toInt = 4 by decide) rfl (by omega)
              refine lv_iconst (v := 3) hx hb dX10_passes_239 (by decide) ?_
              refine lv_iadd hx hb dX10_passes_240 ?_
              refine lv_topi (fun w202 e_w202 => ?_)
              have i_w202 : w202.toInt = ((4 * m38.toInt) + 3) := z_add e_w202 i_w201 (show (3 : Int32).toInt = 3 by decide) (by omega)
              refine lv_iload_n hx hb dX10_passes_241 rfl (lv_at hl 5 rfl) ?_
              refine z_iast hx hb hK hw 1 hm_du hf_du rfl (z_ix i_w202 (by omega)) dX10_passes_242 (fun H locs hw => ?_)
              obtain ⟨f204, e_f204⟩ : ∃ z, z = va_up f200 du (.inl (cy 1, 5200, .inl (upd g199 w202.toNatClampNeg pl))) := ⟨_, rfl⟩
              rw [← e_f204] at hw
              have hf_mm : f204 mm = .inr (10, [.int m0, .ref wd, .ref my, .ref ce, .ref mv, .ref ta, .int m6, .int m7, .int m8, .int m9, .int m10, .long m11, .int m12, .int m13, .int m14, .int m15, .ref li, .ref ha, .ref lw, .ref st, .ref fo, .ref dr, .int m22, .ref ik, .int m24, .int m25, .long m26, .int m27, .int m28, .ref ro, .int m30, .ref ct, .ref se, .ref th, .ref cn, .ref be, .int m36, .ref du, .int m38, .ref db, .int m40, .int m41, .int m42, .ref pn, .ref wg, .ref wh, .ref tn, .ref he, .int m48, .ref tr, .ref fd, .ref po, .int m52, .int m53]) := (congrFun e_f204 mm).trans (z_up_ne (z_tne hf_mm hf_du (m := 10) (n := 41700) rfl rfl (by decide)) hf_mm)
              have hf_dr : f204 dr = .inl (cy 1, 520, .inl gdr) := (congrFun e_f204 dr).trans (z_up_ne (z_tne hf_dr hf_du (m := 4260) (n := 41700) rfl rfl (by decide)) hf_dr)
              have hf_lw : f204 lw = .inl (cy 1, 25, .inl glw) := (congrFun e_f204 lw).trans (z_up_ne (z_tne hf_lw hf_du (m := 300) (n := 41700) rfl rfl (by decide)) hf_lw)
              have hf_ha : f204 ha = .inl (cy 1, 30, .inl gha) := (congrFun e_f204 ha).trans (z_up_ne (z_tne hf_ha hf_du (m := 340) (n := 41700) rfl rfl (by decide)) hf_ha)
              have hf_th : f204 th = .inl (cy 1, 36, .inl g8) := (congrFun e_f204 th).trans (z_up_ne (z_tne hf_th hf_du (m := 388) (n := 41700) rfl rfl (by decide)) hf_th)
              have hf_se : f204 se = .inl (cy 1, 36, .inl g119) := (congrFun e_f204 se).trans (z_up_ne (z_tne hf_se hf_du (m := 388) (n := 41700) rfl rfl (by decide)) hf_se)
              have hf_fo : f204 fo = .inl (cy 1, 180, .inl gfo) := (congrFun e_f204 fo).trans (z_up_ne (z_tne hf_fo hf_du (m := 1540) (n := 41700) rfl rfl (by decide)) hf_fo)
              have hf_cn : f204 cn = .inl (cy 1, 36, .inl g177) := (congrFun e_f204 cn).trans (z_up_ne (z_tne hf_cn hf_du (m := 388) (n := 41700) rfl rfl (by decide)) hf_cn)
              have hf_ct : f204 ct = .inl (cy 1, 4, .inl g188) := (congrFun e_f204 ct).trans (z_up_ne (z_tne hf_ct hf_du (m := 132) (n := 41700) rfl rfl (by decide)) hf_ct)
              have hf_db : f204 db = .inl (cy 1, 5, .inl gdb) := (congrFun e_f204 db).trans (z_up_ne (z_tne hf_db hf_du (m := 140) (n := 41700) rfl rfl (by decide)) hf_db)
              have hf_du : f204 du = .inl (cy 1, 5200, .inl (upd g199 w202.toNatClampNeg pl)) := (congrFun e_f204 du).trans z_up_self
              have hfr : ∀ b ∈ L, b ≠ mm → b ≠ th → b ≠ se → b ≠ cn → b ≠ ct → b ≠ du → b ≠ db → f204 b = f b := fun b hb h0 h1 h2 h3 h4 h5 h6 => (congrFun e_f204 b).trans (z_up_ne h5 (hfr b hb h0 h1 h2 h3 h4 h5 h6))
              obtain ⟨g203, e_g203⟩ : ∃ z, z = (upd g199 w202.toNatClampNeg pl) := ⟨_, rfl⟩
              rw [← e_g203] at hf_du
              have hq_du : ∀ j : Nat, q_du j (g203 j) := z_updQ hq_du e_g203 (show q_du _ _ from fun h => absurd h (z_nmod4 i_w202 (k := 3) (by omega) (by decide)))
              refine lv_aload_n hx hb dX10_passes_243 rfl (lv_at hl 3 rfl) ?_
              refine lv_dup hx hb dX10_passes_244 rfl ?_
              refine z_get (C := RX10) (T := TX10) (N := 54) (ci := 10) (v := .int m38) hx hb hT zin_X10 hown hK hw hm_mm hf_mm rfl 38 (by decide) (hT _ kw_1206) rfl dX10_passes_245 ?_
              refine lv_iconst (v := 1) hx hb dX10_passes_248 (by decide) ?_
              refine lv_iadd hx hb dX10_passes_249 ?_
              refine lv_topi (fun w205 e_w205 => ?_)
              have i_w205 : w205.toInt = (m38.toInt + 1) := z_add e_w205 rfl (show (1 : Int32).toInt = 1 by decide) (by omega)
              refine z_put (C := RX10) (T := TX10) (N := 54) (ci := 10) (v := .int w205) (fs' := [.int m0, .ref wd, .ref my, .ref ce, .ref mv, .ref ta, .int m6, .int m7, .int m8, .int m9, .int m10, .long m11, .int m12, .int m13, .int m14, .int m15, .ref li, .ref ha, .ref lw, .ref st, .ref fo, .ref dr, .int m22, .ref ik, .int m24, .int m25, .long m26, .int m27, .int m28, .ref ro, .int m30, .ref ct, .ref se, .ref th, .ref cn, .ref be, .int m36, .ref du, .int w205, .ref db, .int m40, .int m41, .int m42, .ref pn, .ref wg, .ref wh, .ref tn, .ref he, .int m48, .ref tr, .ref fd, .ref po, .int m52, .int m53]) hx hb hT zin_X10 tyX10_ok nmX10 hown hK hw hm_mm hf_mm rfl 38 (by decide) (hT _ kw_1206) rfl rfl rfl (Nat.le_of_ble_eq_true rfl) rfl dX10_passes_250 (fun H locs hw => ?_)
              obtain ⟨f206, e_f206⟩ : ∃ z, z = va_up f204 mm (.inr (10, [.int m0, .ref wd, .ref my, .ref ce, .ref mv, .ref ta, .int m6, .int m7, .int m8, .int m9, .int m10, .long m11, .int m12, .int m13, .int m14, .int m15, .ref li, .ref ha, .ref lw, .ref st, .ref fo, .ref dr, .int m22, .ref ik, .int m24, .int m25, .long m26, .int m27, .int m28, .ref ro, .int m30, .ref ct, .ref se, .ref th, .ref cn, .ref be, .int m36, .ref du, .int w205, .ref db, .int m40, .int m41, .int m42, .ref pn, .ref wg, .ref wh, .ref tn, .ref he, .int m48, .ref tr, .ref fd, .ref po, .int m52, .int m53])) := ⟨_, rfl⟩
              rw [← e_f206] at hw
              have hf_dr : f206 dr = .inl (cy 1, 520, .inl gdr) := (congrFun e_f206 dr).trans (z_up_ne (z_tne hf_dr hf_mm (m := 4260) (n := 10) rfl rfl (by decide)) hf_dr)
              have hf_lw : f206 lw = .inl (cy 1, 25, .inl glw) := (congrFun e_f206 lw).trans (z_up_ne (z_tne hf_lw hf_mm (m := 300) (n := 10) rfl rfl (by decide)) hf_lw)
              have hf_ha : f206 ha = .inl (cy 1, 30, .inl gha) := (congrFun e_f206 ha).trans (z_up_ne (z_tne hf_ha hf_mm (m := 340) (n := 10) rfl rfl (by decide)) hf_ha)
              have hf_th : f206 th = .inl (cy 1, 36, .inl g8) := (congrFun e_f206 th).trans (z_up_ne (z_tne hf_th hf_mm (m := 388) (n := 10) rfl rfl (by decide)) hf_th)
              have hf_se : f206 se = .inl (cy 1, 36, .inl g119) := (congrFun e_f206 se).trans (z_up_ne (z_tne hf_se hf_mm (m := 388) (n := 10) rfl rfl (by decide)) hf_se)
              have hf_fo : f206 fo = .inl (cy 1, 180, .inl gfo) := (congrFun e_f206 fo).trans (z_up_ne (z_tne hf_fo hf_mm (m := 1540) (n := 10) rfl rfl (by decide)) hf_fo)
              have hf_cn : f206 cn = .inl (cy 1, 36, .inl g177) := (congrFun e_f206 cn).trans (z_up_ne (z_tne hf_cn hf_mm (m := 388) (n := 10) rfl rfl (by decide)) hf_cn)
              have hf_ct : f206 ct = .inl (cy 1, 4, .inl g188) := (congrFun e_f206 ct).trans (z_up_ne (z_tne hf_ct hf_mm (m := 132) (n := 10) rfl rfl (by decide)) hf_ct)
              have hf_du : f206 du = .inl (cy 1, 5200, .inl g203) := (congrFun e_f206 du).trans (z_up_ne (z_tne hf_du hf_mm (m := 41700) (n := 10) rfl rfl (by decide)) hf_du)
              have hf_db : f206 db = .inl (cy 1, 5, .inl gdb) := (congrFun e_f206 db).trans (z_up_ne (z_tne hf_db hf_mm (m := 140) (n := 10) rfl rfl (by decide)) hf_db)
              have hf_mm : f206 mm = .inr (10, [.int m0, .ref wd, .ref my, .ref ce, .ref mv, .ref ta, .int m6, .int m7, .int m8, .int m9, .int m10, .long m11, .int m12, .int m13, .int m14, .int m15, .ref li, .ref ha, .ref lw, .ref st, .ref fo, .ref dr, .int m22, .ref ik, .int m24, .int m25, .long m26, .int m27, .int m28, .ref ro, .int m30, .ref ct, .ref se, .ref th, .ref cn, .ref be, .int m36, .ref du, .int w205, .ref db, .int m40, .int m41, .int m42, .ref pn, .ref wg, .ref wh, .ref tn, .ref he, .int m48, .ref tr, .ref fd, .ref po, .int m52, .int m53]) := (congrFun e_f206 mm).trans z_up_self
              have hfr : ∀ b ∈ L, b ≠ mm → b ≠ th → b ≠ se → b ≠ cn → b ≠ ct → b ≠ du → b ≠ db → f206 b = f b := fun b hb h0 h1 h2 h3 h4 h5 h6 => (congrFun e_f206 b).trans (z_up_ne h0 (hfr b hb h0 h1 h2 h3 h4 h5 h6))
              refine lv_aload_n hx hb dX10_passes_253 rfl (lv_at hl 3 rfl) ?_
              refine z_get (C := RX10) (T := TX10) (N := 54) (ci := 10) (v := .ref db) hx hb hT zin_X10 hown hK hw hm_mm hf_mm rfl 39 (by decide) (hT _ kw_1207) rfl dX10_passes_254 ?_
              refine lv_aload_n hx hb dX10_passes_257 rfl (lv_at hl 3 rfl) ?_
              refine lv_iload_n hx hb dX10_passes_258 rfl (lv_at hl 4 rfl) ?_
              refine lv_bipush (v := 6) hx hb dX10_passes_259 (by decide) ?_
              have hz207 := (show (6 : Int32).toInt = 6 by decide)
              refine z_calliV (cells := 0) (slots := 0) (b := mm) (As := [.int kk, .int 6]) (rest := [.ref db]) (ci := 10) (q0 := (RX10, TX10, 54)) ⟨hx, hb, hml, hown, hT⟩ (c_X10_of l hm_mm hm_dr hf_mm hf_dr hq_dr (by first | omega | decide | assumption) (by decide)) (cwV 2 hT (z_goodV (fun _ h => h) kw_1487 kw_1489 kw_51 kw_96 kw_1490) rfl rfl rfl (by decide +kernel) ⟨by decide, by decide⟩) z_mv hKK hK hw hA hm_mm hf_mm rfl rfl rfl hl.1 rfl (Nat.le_of_ble_eq_true rfl) dX10_passes_261 ⟨by decide, by decide⟩ (fun r208 u H locs hp hw => ?_)
              obtain ⟨rfl, hp⟩ := hp
              have hw : z_H D vwCl (z_A L sz) s.heap L f206 H locs := hw
              have hof_r208 : r208 = gdr (8 * kk.toNatClampNeg + 6) := hp
              have hh_r208 : 0 ≤ r208.toInt ∧ r208.toInt ≤ 4 := by rw [hof_r208]; exact (hq_dr _).2.2.2.2.2.2.1 (by omega)
              refine lv_dup2_11 hx hb dX10_passes_264 rfl rfl ?_
              refine z_iald hx hb hK hw 1 hm_db hf_db rfl (z_ix rfl (by omega)) dX10_passes_265 ?_
              refine lv_topi (fun w209 e_w209 => ?_)
              refine lv_iconst (v := 1) hx hb dX10_passes_266 (by decide) ?_
              refine lv_iadd hx hb dX10_passes_267 ?_
              refine lv_topi (fun w210 e_w210 => ?_)
              refine z_iast hx hb hK hw 1 hm_db hf_db rfl (z_ix rfl (by omega)) dX10_passes_268 (fun H locs hw => ?_)
              obtain ⟨f212, e_f212⟩ : ∃ z, z = va_up f206 db (.inl (cy 1, 5, .inl (upd gdb r208.toNatClampNeg w210))) := ⟨_, rfl⟩
              rw [← e_f212] at hw
              have hf_mm : f212 mm = .inr (10, [.int m0, .ref wd, .ref my, .ref ce, .ref mv, .ref ta, .int m6, .int m7, .int m8, .int m9, .int m10, .long m11, .int m12, .int m13, .int m14, .int m15, .ref li, .ref ha, .ref lw, .ref st, .ref fo, .ref dr, .int m22, .ref ik, .int m24, .int m25, .long m26, .int m27, .int m28, .ref ro, .int m30, .ref ct, .ref se, .ref th, .ref cn, .ref be, .int m36, .ref du, .int w205, .ref db, .int m40, .int m41, .int m42, .ref pn, .ref wg, .ref wh, .ref tn, .ref he, .int m48, .ref tr, .ref fd, .ref po, .int m52, .int m53]) := (congrFun e_f212 mm).trans (z_up_ne (z_tne hf_mm hf_db (m := 10) (n := 140) rfl rfl (by decide)) hf_mm)
              have hf_dr : f212 dr = .inl (cy 1, 520, .inl gdr) := (congrFun e_f212 dr).trans (z_up_ne (z_tne hf_dr hf_db (m := 4260) (n := 140) rfl rfl (by decide)) hf_dr)
              have hf_lw : f212 lw = .inl (cy 1, 25, .inl glw) := (congrFun e_f212 lw).trans (z_up_ne (z_tne hf_lw hf_db (m := 300) (n := 140) rfl rfl (by decide)) hf_lw)
              have hf_ha : f212 ha = .inl (cy 1, 30, .inl gha) := (congrFun e_f212 ha).trans (z_up_ne (z_tne hf_ha hf_db (m := 340) (n := 140) rfl rfl (by decide)) hf_ha)
              have hf_th : f212 th = .inl (cy 1, 36, .inl g8) := (congrFun e_f212 th).trans (z_up_ne (z_tne hf_th hf_db (m := 388) (n := 140) rfl rfl (by decide)) hf_th)
              have hf_se : f212 se = .inl (cy 1, 36, .inl g119) := (congrFun e_f212 se).trans (z_up_ne (z_tne hf_se hf_db (m := 388) (n := 140) rfl rfl (by decide)) hf_se)
              have hf_fo : f212 fo = .inl (cy 1, 180, .inl gfo) := (congrFun e_f212 fo).trans (z_up_ne (z_tne hf_fo hf_db (m := 1540) (n := 140) rfl rfl (by decide)) hf_fo)
              have hf_cn : f212 cn = .inl (cy 1, 36, .inl g177) := (congrFun e_f212 cn).trans (z_up_ne (z_tne hf_cn hf_db (m := 388) (n := 140) rfl rfl (by decide)) hf_cn)
              have hf_ct : f212 ct = .inl (cy 1, 4, .inl g188) := (congrFun e_f212 ct).trans (z_up_ne (z_tne hf_ct hf_db (m := 132) (n := 140) rfl rfl (by decide)) hf_ct)
              have hf_du : f212 du = .inl (cy 1, 5200, .inl g203) := (congrFun e_f212 du).trans (z_up_ne (z_tne hf_du hf_db (m := 41700) (n := 140) rfl rfl (by decide)) hf_du)
              have hf_db : f212 db = .inl (cy 1, 5, .inl (upd gdb r208.toNatClampNeg w210)) := (congrFun e_f212 db).trans z_up_self
              have hfr : ∀ b ∈ L, b ≠ mm → b ≠ th → b ≠ se → b ≠ cn → b ≠ ct → b ≠ du → b ≠ db → f212 b = f b := fun b hb h0 h1 h2 h3 h4 h5 h6 => (congrFun e_f212 b).trans (z_up_ne h6 (hfr b hb h0 h1 h2 h3 h4 h5 h6))
              obtain ⟨g211, e_g211⟩ : ∃ z, z = (upd gdb r208.toNatClampNeg w210) := ⟨_, rfl⟩
              rw [← e_g211] at hf_db
              exact z_vret hx hb hr hlk (by decide) (by decide) hw (⟨hsub, hfr, w205, g8, g119, g177, g188, g203, g211, hf_mm, hf_th, hf_se, hf_cn, hf_ct, hf_du, hf_db, hq_ct, hq_du, by omega, by omega⟩) dX10_passes_269
            · skip
              have hq_ct : ∀ j : Nat, q_law j (g183 j) := z_updQ hq_ct e_g183 (show 0 ≤ (w182 : Int32).toInt ∧ (w182 : Int32).toInt ≤ 999 by omega)
              exact z_vret hx hb hr hlk (by decide) (by decide) hw (⟨hsub, hfr, m38, g8, g119, g177, g183, gdu, gdb, hf_mm, hf_th, hf_se, hf_cn, hf_ct, hf_du, hf_db, hq_ct, hq_du, by omega, by omega⟩) dX10_passes_179
          · skip
            exact z_vret hx hb hr hlk (by decide) (by decide) hw (⟨hsub, hfr, m38, g8, g119, gcn, gct, gdu, gdb, hf_mm, hf_th, hf_se, hf_cn, hf_ct, hf_du, hf_db, hq_ct, hq_du, by omega, by omega⟩) dX10_passes_126
      · skip
        exact z_vret hx hb hr hlk (by decide) (by decide) hw (⟨hsub, hfr, m38, g8, gse, gcn, gct, gdu, gdb, hf_mm, hf_th, hf_se, hf_cn, hf_ct, hf_du, hf_db, hq_ct, hq_du, by omega, by omega⟩) dX10_passes_62

set_option maxHeartbeats 2000000 in
set_option maxRecDepth 100000 in
theorem c_X10_drawn (l : Launch) {D : va_G} {cy : Nat → ClassId} {L : List Nat} {f : Nat → va_E} {sz : Nat} {adK adV : Nat → Nat} {mm wd my ce mv ta li ha lw st fo dr ik ro ct se th cn be du db pn wg wh tn he tr fd po : Nat} {m0 m6 m7 m8 m9 m10 m12 m13 m14 m15 m22 m24 m25 m27 m28 m30 m36 m38 m40 m41 m42 m48 m52 m53 : Int32} {m11 m26 : Int64}   {nn : Int32} (hm_mm : mm ∈ L) (hf_mm : f mm = .inr (10, [.int m0, .ref wd, .ref my, .ref ce, .ref mv, .ref ta, .int m6, .int m7, .int m8, .int m9, .int m10, .long m11, .int m12, .int m13, .int m14, .int m15, .ref li, .ref ha, .ref lw, .ref st, .ref fo, .ref dr, .int m22, .ref ik, .int m24, .int m25, .long m26, .int m27, .int m28, .ref ro, .int m30, .ref ct, .ref se, .ref th, .ref cn, .ref be, .int m36, .ref du, .int m38, .ref db, .int m40, .int m41, .int m42, .ref pn, .ref wg, .ref wh, .ref tn, .ref he, .int m48, .ref tr, .ref fd, .ref po, .int m52, .int m53])) (hxx : 0 ≤ m26.toInt ∧ m26.toInt < 2147483648) (hnn : 1 ≤ nn.toInt ∧ nn.toInt ≤ 2574) : Met l yX10_drawn (z_ws yX10_drawn cX10_drawn 2 (some .int)) (z_R 1 0 0) (va_Pc [.ref mm, .int nn] (z_Pre D vwCl (z_KK D cy adK adV) L f sz)) (z_Qi D vwCl (fun r u => L = u.1 ∧ (∀ b ∈ L, b ≠ mm → u.2 b = f b) ∧ (∃ (x2 : Int64), (u.2 mm = .inr (10, [.int m0, .ref wd, .ref my, .ref ce, .ref mv, .ref ta, .int m6, .int m7, .int m8, .int m9, .int m10, .long m11, .int m12, .int m13, .int m14, .int m15, .ref li, .ref ha, .ref lw, .ref st, .ref fo, .ref dr, .int m22, .ref ik, .int m24, .int m25, .long x2, .int m27, .int m28, .ref ro, .int m30, .ref ct, .ref se, .ref th, .ref cn, .ref be, .int m36, .ref du, .int m38, .ref db, .int m40, .int m41, .int m42, .ref pn, .ref wg, .ref wh, .ref tn, .ref he, .int m48, .ref tr, .ref fd, .ref po, .int m52, .int m53])) ∧ ((0 ≤ x2.toInt ∧ x2.toInt < 2147483648) ∧ 0 ≤ r.toInt ∧ r.toInt < nn.toInt))) L sz) 0 0 (z_A L sz) := by
  refine z_met (cc := cX10_drawn) (maxL := 2) (ret := (some .int)) (lv := [(0, .ref mm), (1, .int nn)]) (by decide) rfl (Nat.le_of_ble_eq_true rfl) rfl ?_
  intro p e s m below meth c ls hx hb hr hlk hml hown hnm hts hKK hA hw hl
  have hK := hKK.1.1
  have hown : s.vm.findClass RX10 = some m.cls := hown
  have hT : ∀ w ∈ lw_all, w.before ([.ref mm, .int nn] : List Value).toArray s = true := fun w h => hts w (z_cons w h)
  have hsub : L = L := rfl
  have hfr : ∀ b ∈ L, b ≠ mm → f b = f b := fun _ _ _ => rfl
  refine lv_aload_n hx hb dX10_drawn_0 rfl (lv_at hl 0 rfl) ?_
  refine lv_ldc2 (v := 1103515245) hx hb hown (hT _ kw_1567) dX10_drawn_1 ?_
  refine lv_aload_n hx hb dX10_drawn_4 rfl (lv_at hl 0 rfl) ?_
  refine z_get (C := RX10) (T := TX10) (N := 54) (ci := 10) (v := .long m26) hx hb hT zin_X10 hown hK hw hm_mm hf_mm rfl 26 (by decide) (hT _ kw_1194) rfl dX10_drawn_5 ?_
  refine lv_lmul hx hb dX10_drawn_8 ?_
  refine lv_topl (fun w1 e_w1 => ?_)
  have i_w1 : w1.toInt = (1103515245 * m26.toInt) := z_lmulI e_w1 (show (1103515245 : Int64).toInt = 1103515245 by decide) rfl (by omega)
  refine lv_ldc2 (v := 12345) hx hb hown (hT _ kw_1568) dX10_drawn_9 ?_
  refine lv_ladd hx hb dX10_drawn_12 ?_
  refine lv_topl (fun w2 e_w2 => ?_)
  have i_w2 : w2.toInt = ((1103515245 * m26.toInt) + 12345) := z_laddI e_w2 i_w1 (show (12345 : Int64).toInt = 12345 by decide) (by omega)
  refine lv_ldc2 (v := 2147483648) hx hb hown (hT _ kw_1569) dX10_drawn_13 ?_
  refine lv_lrem hx hb dX10_drawn_16 (by decide) ?_
  refine lv_topl (fun w3 e_w3 => ?_)
  have i_w3 : w3.toInt = (((1103515245 * m26.toInt) + 12345) % 2147483648) := z_lrmI e_w3 i_w2 (show (2147483648 : Int64).toInt = 2147483648 by decide) (by omega)
  have hrA := Int.emod_nonneg (((1103515245 * m26.toInt) + 12345)) (b := 2147483648) (by decide)
  have hrB := Int.emod_lt_of_pos (((1103515245 * m26.toInt) + 12345)) (b := 2147483648) (by decide)
  refine z_put (C := RX10) (T := TX10) (N := 54) (ci := 10) (v := .long w3) (fs' := [.int m0, .ref wd, .ref my, .ref ce, .ref mv, .ref ta, .int m6, .int m7, .int m8, .int m9, .int m10, .long m11, .int m12, .int m13, .int m14, .int m15, .ref li, .ref ha, .ref lw, .ref st, .ref fo, .ref dr, .int m22, .ref ik, .int m24, .int m25, .long w3, .int m27, .int m28, .ref ro, .int m30, .ref ct, .ref se, .ref th, .ref cn, .ref be, .int m36, .ref du, .int m38, .ref db, .int m40, .int m41, .int m42, .ref pn, .ref wg, .ref wh, .ref tn, .ref he, .int m48, .ref tr, .ref fd, .ref po, .int m52, .int m53]) hx hb hT zin_X10 tyX10_ok nmX10 hown hK hw hm_mm hf_mm rfl 26 (by decide) (hT _ kw_1194) rfl rfl rfl (Nat.le_of_ble_eq_true rfl) rfl dX10_drawn_17 (fun H locs hw => ?_)
  obtain ⟨f4, e_f4⟩ : ∃ z, z = va_up f mm (.inr (10, [.int m0, .ref wd, .ref my, .ref ce, .ref mv, .ref ta, .int m6, .int m7, .int m8, .int m9, .int m10, .long m11, .int m12, .int m13, .int m14, .int m15, .ref li, .ref ha, .ref lw, .ref st, .ref fo, .ref dr, .int m22, .ref ik, .int m24, .int m25, .long w3, .int m27, .int m28, .ref ro, .int m30, .ref ct, .ref se, .ref th, .ref cn, .ref be, .int m36, .ref du, .int m38, .ref db, .int m40, .int m41, .int m42, .ref pn, .ref wg, .ref wh, .ref tn, .ref he, .int m48, .ref tr, .ref fd, .ref po, .int m52, .int m53])) := ⟨_, rfl⟩
  rw [← e_f4] at hw
  have hf_mm : f4 mm = .inr (10, [.int m0, .ref wd, .ref my, .ref ce, .ref mv, .ref ta, .int m6, .int m7, .int m8, .int m9, .int m10, .long m11, .int m12, .int m13, .int m14, .int m15, .ref li, .ref ha, .ref lw, .ref st, .ref fo, .ref dr, .int m22, .ref ik, .int m24, .int m25, .long w3, .int m27, .int m28, .ref ro, .int m30, .ref ct, .ref se, .ref th, .ref cn, .ref be, .int m36, .ref du, .int m38, .ref db, .int m40, .int m41, .int m42, .ref pn, .ref wg, .ref wh, .ref tn, .ref he, .int m48, .ref tr, .ref fd, .ref po, .int m52, .int m53]) := (congrFun e_f4 mm).trans z_up_self
  have hfr : ∀ b ∈ L, b ≠ mm → f4 b = f b := fun b hb h0 => (congrFun e_f4 b).trans (z_up_ne h0 (hfr b hb h0))
  refine lv_aload_n hx hb dX10_drawn_20 rfl (lv_at hl 0 rfl) ?_
  refine z_get (C := RX10) (T := TX10) (N := 54) (ci := 10) (v := .long w3) hx hb hT zin_X10 hown hK hw hm_mm hf_mm rfl 26 (by decide) (hT _ kw_1194) rfl dX10_drawn_21 ?_
  refine lv_ldc2 (v := 65536) hx hb hown (hT _ kw_1570) dX10_drawn_24 ?_
  refine lv_ldiv hx hb dX10_drawn_27 (by decide) ?_
  refine lv_topl (fun w5 e_w5 => ?_)
  have i_w5 : w5.toInt = ((((1103515245 * m26.toInt) + 12345) % 2147483648) / 65536) := z_ldivI e_w5 i_w3 (show (65536 : Int64).toInt = 65536 by decide) (by omega)
  refine lv_iload_n hx hb dX10_drawn_28 rfl (lv_at hl 1 rfl) ?_
  refine lv_i2l hx hb dX10_drawn_29 rfl ?_
  refine lv_topl (fun w6 e_w6 => ?_)
  have i_w6 : w6.toInt = nn.toInt := z_i2l e_w6 rfl
  refine lv_lrem hx hb dX10_drawn_30 (z_lne0 i_w6 (by omega)) ?_
  refine lv_topl (fun w7 e_w7 => ?_)
  have i_w7 : w7.toInt = (((((1103515245 * m26.toInt) + 12345) % 2147483648) / 65536) % nn.toInt) := z_lrmI e_w7 i_w5 i_w6 (by omega)
  have hrC := Int.emod_nonneg (((((1103515245 * m26.toInt) + 12345) % 2147483648) / 65536)) (b := nn.toInt) (by omega)
  have hrD := Int.emod_lt_of_pos (((((1103515245 * m26.toInt) + 12345) % 2147483648) / 65536)) (b := nn.toInt) (by omega)
  refine lv_l2i hx hb dX10_drawn_31 rfl ?_
  refine lv_topi (fun w8 e_w8 => ?_)
  have i_w8 : w8.toInt = (((((1103515245 * m26.toInt) + 12345) % 2147483648) / 65536) % nn.toInt) := z_l2iI e_w8 i_w7 (by omega)
  exact z_iret hx hb hr hlk (by decide) (by decide) hw (⟨hsub, hfr, w3, hf_mm, by omega, by omega, by omega⟩) dX10_drawn_32

set_option maxHeartbeats 2000000 in
set_option maxRecDepth 100000 in
theorem c_X10_mixes (l : Launch) {D : va_G} {cy : Nat → ClassId} {L : List Nat} {f : Nat → va_E} {sz : Nat} {adK adV : Nat → Nat} {mm wd my ce mv ta li ha lw st fo dr ik ro ct se th cn be du db pn wg wh tn he tr fd po : Nat} {m0 m6 m7 m8 m9 m10 m12 m13 m14 m15 m22 m24 m25 m27 m28 m30 m36 m38 m40 m41 m42 m48 m52 m53 : Int32} {m11 m26 : Int64} {gbe : Nat → Int32}  {nn : Int32} (hm_mm : mm ∈ L) (hm_be : be ∈ L) (hf_mm : f mm = .inr (10, [.int m0, .ref wd, .ref my, .ref ce, .ref mv, .ref ta, .int m6, .int m7, .int m8, .int m9, .int m10, .long m11, .int m12, .int m13, .int m14, .int m15, .ref li, .ref ha, .ref lw, .ref st, .ref fo, .ref dr, .int m22, .ref ik, .int m24, .int m25, .long m26, .int m27, .int m28, .ref ro, .int m30, .ref ct, .ref se, .ref th, .ref cn, .ref be, .int m36, .ref du, .int m38, .ref db, .int m40, .int m41, .int m42, .ref pn, .ref wg, .ref wh, .ref tn, .ref he, .int m48, .ref tr, .ref fd, .ref po, .int m52, .int m53])) (hf_be : f be = .inl (cy 1, 2574, .inl gbe)) (hq_be : ∀ j : Nat, q_be j (gbe j)) (hxx : 0 ≤ m26.toInt ∧ m26.toInt < 2147483648) (hnn : 0 ≤ nn.toInt ∧ nn.toInt ≤ 2574) : Met l yX10_mixes (z_ws yX10_mixes cX10_mixes 5 none) (z_R 2 0 0) (va_Pc [.ref mm, .int nn] (z_Pre D vwCl (z_KK D cy adK adV) L f sz)) (z_Qv D vwCl (fun u => L = u.1 ∧ (∀ b ∈ L, b ≠ mm → b ≠ be → u.2 b = f b) ∧ (∃ (x2 : Int64) (nbe : Nat → Int32), (u.2 mm = .inr (10, [.int m0, .ref wd, .ref my, .ref ce, .ref mv, .ref ta, .int m6, .int m7, .int m8, .int m9, .int m10, .long m11, .int m12, .int m13, .int m14, .int m15, .ref li, .ref ha, .ref lw, .ref st, .ref fo, .ref dr, .int m22, .ref ik, .int m24, .int m25, .long x2, .int m27, .int m28, .ref ro, .int m30, .ref ct, .ref se, .ref th, .ref cn, .ref be, .int m36, .ref du, .int m38, .ref db, .int m40, .int m41, .int m42, .ref pn, .ref wg, .ref wh, .ref tn, .ref he, .int m48, .ref tr, .ref fd, .ref po, .int m52, .int m53])) ∧ (u.2 be = .inl (cy 1, 2574, .inl nbe)) ∧ (∀ j : Nat, q_be j (nbe j)) ∧ (0 ≤ x2.toInt ∧ x2.toInt < 2147483648))) L sz) 0 0 (z_A L sz) := by
  refine z_met (cc := cX10_mixes) (maxL := 5) (ret := none) (lv := [(0, .ref mm), (1, .int nn)]) (by decide) rfl (Nat.le_of_ble_eq_true rfl) rfl ?_
  intro p e s m below meth c ls hx hb hr hlk hml hown hnm hts hKK hA hw hl
  have hK := hKK.1.1
  have hown : s.vm.findClass RX10 = some m.cls := hown
  have hT : ∀ w ∈ lw_all, w.before ([.ref mm, .int nn] : List Value).toArray s = true := fun w h => hts w (z_cons w h)
  have hsub : L = L := rfl
  have hfr : ∀ b ∈ L, b ≠ mm → b ≠ be → f b = f b := fun _ _ _ _ => rfl
  refine lv_iload_n hx hb dX10_mixes_0 rfl (lv_at hl 1 rfl) ?_
  refine lv_iconst (v := 1) hx hb dX10_mixes_1 (by decide) ?_
  refine lv_isub hx hb dX10_mixes_2 ?_
  refine lv_topi (fun w1 e_w1 => ?_)
  have i_w1 : w1.toInt = (nn.toInt - 1) := z_subI e_w1 rfl (show (1 : Int32).toInt = 1 by decide) (by omega)
  refine lv_istore_n (lv' := [(2, .int w1), (0, .ref mm), (1, .int nn)]) hx hb dX10_mixes_3 rfl hl (by decide) rfl (fun ls hl => ?_)
  refine z_loop (fun n H locs ls => ∃ (K2 : Int32) (G5 : Nat → Int32) (XX4 : Int64) (f3 : Nat → va_E), (n = (K2.toInt - (-1)).toNat) ∧ (-1 ≤ K2.toInt) ∧ (K2.toInt ≤ 2573) ∧ (0 ≤ XX4.toInt ∧ XX4.toInt < 2147483648) ∧ (z_H D vwCl (z_A L sz) s.heap L f3 H locs) ∧ (f3 mm = .inr (10, [.int m0, .ref wd, .ref my, .ref ce, .ref mv, .ref ta, .int m6, .int m7, .int m8, .int m9, .int m10, .long m11, .int m12, .int m13, .int m14, .int m15, .ref li, .ref ha, .ref lw, .ref st, .ref fo, .ref dr, .int m22, .ref ik, .int m24, .int m25, .long XX4, .int m27, .int m28, .ref ro, .int m30, .ref ct, .ref se, .ref th, .ref cn, .ref be, .int m36, .ref du, .int m38, .ref db, .int m40, .int m41, .int m42, .ref pn, .ref wg, .ref wh, .ref tn, .ref he, .int m48, .ref tr, .ref fd, .ref po, .int m52, .int m53])) ∧ (f3 be = .inl (cy 1, 2574, .inl G5)) ∧ (∀ b ∈ L, b ≠ mm → b ≠ be → f3 b = f b) ∧ (∀ j : Nat, q_be j (G5 j)) ∧ (lv_has ls 5 [(2, .int K2), (0, .ref mm), (1, .int nn)])) _ ⟨w1, gbe, m26, f, rfl, (by first | decide | omega), (by first | decide | omega), (by omega), hw, hf_mm, hf_be, hfr, hq_be, (lv_sub hl [0, 1, 2] rfl)⟩ (fun n H locs ls hI ih_4 => ?_)
  obtain ⟨K2, G5, XX4, f3, hn, hk0, hk1, hi0, hw, hf_mm, hf_be, hfr, hq_be, hl⟩ := hI
  refine lv_iload_n hx hb dX10_mixes_4 rfl (lv_at hl 0 rfl) ?_
  refine z_if_le (tgt := 50) hx hb rfl dX10_mixes_5 (by decide) (fun c6 => ?_) (fun c6 => ?_)
  · skip
    exact z_vret hx hb hr hlk (by decide) (by decide) hw (⟨hsub, hfr, XX4, G5, hf_mm, hf_be, hq_be, by omega⟩) dX10_mixes_50
  · skip
    refine lv_aload_n hx hb dX10_mixes_8 rfl (lv_at hl 1 rfl) ?_
    refine lv_iload_n hx hb dX10_mixes_9 rfl (lv_at hl 0 rfl) ?_
    refine lv_iconst (v := 1) hx hb dX10_mixes_10 (by decide) ?_
    refine lv_iadd hx hb dX10_mixes_11 ?_
    refine lv_topi (fun w7 e_w7 => ?_)
    have i_w7 : w7.toInt = (K2.toInt + 1) := z_add e_w7 rfl (show (1 : Int32).toInt = 1 by decide) (by omega)
    refine z_calliV (cells := 0) (slots := 0) (b := mm) (As := [.int w7]) (rest := []) (ci := 10) (q0 := (RX10, TX10, 54)) ⟨hx, hb, hml, hown, hT⟩ (c_X10_drawn l hm_mm hf_mm (by first | omega | decide | assumption) (by first | omega | decide | assumption)) (cwV 1 hT (z_goodV (fun _ h => h) kw_1563 kw_1565 kw_64 kw_96 kw_1566) rfl rfl rfl (by decide +kernel) ⟨by decide, by decide⟩) z_mv hKK hK hw hA hm_mm hf_mm rfl rfl rfl hl.1 rfl (Nat.le_of_ble_eq_true rfl) dX10_mixes_12 ⟨by decide, by decide⟩ (fun r8 u H locs hp hw => ?_)
    obtain ⟨L9, f10⟩ := u
    obtain ⟨hsb, hfm, x2_11, ha_0, hp⟩ := hp
    have hsb : L = L9 := hsb
    subst hsb
    have hsb : ∀ b ∈ L, b ∈ L := fun _ h => h
    have hw : z_H D vwCl (z_A L sz) s.heap L f10 H locs := hw
    have hfr : ∀ b ∈ L, b ≠ mm → b ≠ be → f10 b = f b := fun b hb h0 h1 => (hfm b hb h0).trans (hfr b hb h0 h1)
    have hf_be : f10 be = .inl (cy 1, 2574, .inl G5) := (hfm be hm_be (z_tne hf_be hf_mm (m := 20692) (n := 10) rfl rfl (by decide))).trans hf_be
    have hf_mm : f10 mm = .inr (10, [.int m0, .ref wd, .ref my, .ref ce, .ref mv, .ref ta, .int m6, .int m7, .int m8, .int m9, .int m10, .long m11, .int m12, .int m13, .int m14, .int m15, .ref li, .ref ha, .ref lw, .ref st, .ref fo, .ref dr, .int m22, .ref ik, .int m24, .int m25, .long x2_11, .int m27, .int m28, .ref ro, .int m30, .ref ct, .ref se, .ref th, .ref cn, .ref be, .int m36, .ref du, .int m38, .ref db, .int m40, .int m41, .int m42, .ref pn, .ref wg, .ref wh, .ref tn, .ref he, .int m48, .ref tr, .ref fd, .ref po, .int m52, .int m53]) := ha_0
    have hq12 := hp
    refine lv_istore_n (lv' := [(3, .int r8), (2, .int K2), (0, .ref mm), (1, .int nn)]) hx hb dX10_mixes_15 rfl hl (by decide) rfl (fun ls hl => ?_)
    refine lv_aload_n hx hb dX10_mixes_16 rfl (lv_at hl 2 rfl) ?_
    refine z_get (C := RX10) (T := TX10) (N := 54) (ci := 10) (v := .ref be) hx hb hT zin_X10 hown hK hw hm_mm hf_mm rfl 35 (by decide) (hT _ kw_1203) rfl dX10_mixes_17 ?_
    refine lv_iload_n hx hb dX10_mixes_20 rfl (lv_at hl 1 rfl) ?_
    refine z_iald hx hb hK hw 1 hm_be hf_be rfl (z_ix rfl (by omega)) dX10_mixes_21 ?_
    refine lv_topi (fun w13 e_w13 => ?_)
    have hv_w13 : 0 ≤ w13.toInt ∧ w13.toInt ≤ 2599 := by rw [e_w13]; exact hq_be _
    refine lv_istore (lv' := [(4, .int w13), (3, .int r8), (2, .int K2), (0, .ref mm), (1, .int nn)]) hx hb dX10_mixes_22 hl (by decide) rfl (fun ls hl => ?_)
    refine lv_aload_n hx hb dX10_mixes_24 rfl (lv_at hl 3 rfl) ?_
    refine z_get (C := RX10) (T := TX10) (N := 54) (ci := 10) (v := .ref be) hx hb hT zin_X10 hown hK hw hm_mm hf_mm rfl 35 (by decide) (hT _ kw_1203) rfl dX10_mixes_25 ?_
    refine lv_iload_n hx hb dX10_mixes_28 rfl (lv_at hl 2 rfl) ?_
    refine lv_aload_n hx hb dX10_mixes_29 rfl (lv_at hl 3 rfl) ?_
    refine z_get (C := RX10) (T := TX10) (N := 54) (ci := 10) (v := .ref be) hx hb hT zin_X10 hown hK hw hm_mm hf_mm rfl 35 (by decide) (hT _ kw_1203) rfl dX10_mixes_30 ?_
    refine lv_iload_n hx hb dX10_mixes_33 rfl (lv_at hl 1 rfl) ?_
    refine z_iald hx hb hK hw 1 hm_be hf_be rfl (z_ix rfl (by omega)) dX10_mixes_34 ?_
    refine lv_topi (fun w14 e_w14 => ?_)
    have hv_w14 : 0 ≤ w14.toInt ∧ w14.toInt ≤ 2599 := by rw [e_w14]; exact hq_be _
    refine z_iast hx hb hK hw 1 hm_be hf_be rfl (z_ix rfl (by omega)) dX10_mixes_35 (fun H locs hw => ?_)
    obtain ⟨f16, e_f16⟩ : ∃ z, z = va_up f10 be (.inl (cy 1, 2574, .inl (upd G5 K2.toNatClampNeg w14))) := ⟨_, rfl⟩
    rw [← e_f16] at hw
    have hf_mm : f16 mm = .inr (10, [.int m0, .ref wd, .ref my, .ref ce, .ref mv, .ref ta, .int m6, .int m7, .int m8, .int m9, .int m10, .long m11, .int m12, .int m13, .int m14, .int m15, .ref li, .ref ha, .ref lw, .ref st, .ref fo, .ref dr, .int m22, .ref ik, .int m24, .int m25, .long x2_11, .int m27, .int m28, .ref ro, .int m30, .ref ct, .ref se, .ref th, .ref cn, .ref be, .int m36, .ref du, .int m38, .ref db, .int m40, .int m41, .int m42, .ref pn, .ref wg, .ref wh, .ref tn, .ref he, .int m48, .ref tr, .ref fd, .ref po, .int m52, .int m53]) := (congrFun e_f16 mm).trans (z_up_ne (z_tne hf_mm hf_be (m := 10) (n := 20692) rfl rfl (by decide)) hf_mm)
    have hf_be : f16 be = .inl (cy 1, 2574, .inl (upd G5 K2.toNatClampNeg w14)) := (congrFun e_f16 be).trans z_up_self
    have hfr : ∀ b ∈ L, b ≠ mm → b ≠ be → f16 b = f b := fun b hb h0 h1 => (congrFun e_f16 b).trans (z_up_ne h1 (hfr b hb h0 h1))
    obtain ⟨g15, e_g15⟩ : ∃ z, z = (upd G5 K2.toNatClampNeg w14) := ⟨_, rfl⟩
    rw [← e_g15] at hf_be
    have hq_be : ∀ j : Nat, q_be j (g15 j) := z_updQ hq_be e_g15 (show 0 ≤ (w14 : Int32).toInt ∧ (w14 : Int32).toInt ≤ 2599 by first | decide | omega)
    refine lv_aload_n hx hb dX10_mixes_36 rfl (lv_at hl 3 rfl) ?_
    refine z_get (C := RX10) (T := TX10) (N := 54) (ci := 10) (v := .ref be) hx hb hT zin_X10 hown hK hw hm_mm hf_mm rfl 35 (by decide) (hT _ kw_1203) rfl dX10_mixes_37 ?_
    refine lv_iload_n hx hb dX10_mixes_40 rfl (lv_at hl 1 rfl) ?_
    refine lv_iload hx hb dX10_mixes_41 (lv_at hl 0 rfl) ?_
    refine z_iast hx hb hK hw 1 hm_be hf_be rfl (z_ix rfl (by omega)) dX10_mixes_43 (fun H locs hw => ?_)
    obtain ⟨f18, e_f18⟩ : ∃ z, z = va_up f16 be (.inl (cy 1, 2574, .inl (upd g15 r8.toNatClampNeg w13))) := ⟨_, rfl⟩
    rw [← e_f18] at hw
    have hf_mm : f18 mm = .inr (10, [.int m0, .ref wd, .ref my, .ref ce, .ref mv, .ref ta, .int m6, .int m7, .int m8, .int m9, .int m10, .long m11, .int m12, .int m13, .int m14, .int m15, .ref li, .ref ha, .ref lw, .ref st, .ref fo, .ref dr, .int m22, .ref ik, .int m24, .int m25, .long x2_11, .int m27, .int m28, .ref ro, .int m30, .ref ct, .ref se, .ref th, .ref cn, .ref be, .int m36, .ref du, .int m38, .ref db, .int m40, .int m41, .int m42, .ref pn, .ref wg, .ref wh, .ref tn, .ref he, .int m48, .ref tr, .ref fd, .ref po, .int m52, .int m53]) := (congrFun e_f18 mm).trans (z_up_ne (z_tne hf_mm hf_be (m := 10) (n := 20692) rfl rfl (by decide)) hf_mm)
    have hf_be : f18 be = .inl (cy 1, 2574, .inl (upd g15 r8.toNatClampNeg w13)) := (congrFun e_f18 be).trans z_up_self
    have hfr : ∀ b ∈ L, b ≠ mm → b ≠ be → f18 b = f b := fun b hb h0 h1 => (congrFun e_f18 b).trans (z_up_ne h1 (hfr b hb h0 h1))
    obtain ⟨g17, e_g17⟩ : ∃ z, z = (upd g15 r8.toNatClampNeg w13) := ⟨_, rfl⟩
    rw [← e_g17] at hf_be
    have hq_be : ∀ j : Nat, q_be j (g17 j) := z_updQ hq_be e_g17 (show 0 ≤ (w13 : Int32).toInt ∧ (w13 : Int32).toInt ≤ 2599 by first | decide | omega)
    obtain ⟨k19, e_k19⟩ : ∃ z : Int32, z = K2 + (-1) := ⟨_, rfl⟩
    refine lv_iinc (v := k19) (lv' := [(2, .int k19), (4, .int w13), (3, .int r8), (0, .ref mm), (1, .int nn)]) hx hb dX10_mixes_44 hl (k := 2) rfl (by rw [e_k19]; rfl) (by decide) rfl (fun ls hl => ?_)
    have i_k19 : k19.toInt = (K2.toInt + (-1)) := z_add e_k19 rfl (by decide) (by omega)
    refine lv_goto (tgt := 4) hx hb dX10_mixes_47 (by decide) ?_
    exact ih_4 _ (by omega) _ _ _ ⟨k19, g17, x2_11, f18, rfl, (by first | decide | omega), (by first | decide | omega), (by omega), hw, hf_mm, hf_be, hfr, hq_be, (lv_sub hl [0, 3, 4] rfl)⟩
