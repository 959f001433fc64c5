set_option maxHeartbeats 2000000 in
set_option maxRecDepth 100000 in
theorem c_X10_clears (l : Launch) {D : va_G} {cy : Nat → ClassId} {L : List Nat} {f : Nat → va_E} {sz : Nat} {adK adV : Nat → Nat} {mm wd my ce mv ta li ha lw st fo dr ik ro ct se th cn be du db pn wg wh tn he tr fd po : Nat} {m0 m6 m7 m8 m9 m10 m12 m13 m14 m15 m22 m24 m25 m27 m28 m30 m36 m38 m40 m41 m42 m48 m52 m53 : Int32} {m11 m26 : Int64} {gli gha glw gst gfo : Nat → Int32}  {hz lz : Nat → Int32} (hm_mm : mm ∈ L) (hm_li : li ∈ L) (hm_ha : ha ∈ L) (hm_lw : lw ∈ L) (hm_st : st ∈ L) (hm_fo : fo ∈ L) (hf_mm : f mm = .inr (10, [.int m0, .ref wd, .ref my, .ref ce, .ref mv, .ref ta, .int m6, .int m7, .int m8, .int m9, .int m10, .long m11, .int m12, .int m13, .int m14, .int m15, .ref li, .ref ha, .ref lw, .ref st, .ref fo, .ref dr, .int m22, .ref ik, .int m24, .int m25, .long m26, .int m27, .int m28, .ref ro, .int m30, .ref ct, .ref se, .ref th, .ref cn, .ref be, .int m36, .ref du, .int m38, .ref db, .int m40, .int m41, .int m42, .ref pn, .ref wg, .ref wh, .ref tn, .ref he, .int m48, .ref tr, .ref fd, .ref po, .int m52, .int m53])) (hf_li : f li = .inl (cy 1, 5, .inl gli)) (hf_ha : f ha = .inl (cy 1, 30, .inl gha)) (hf_lw : f lw = .inl (cy 1, 25, .inl glw)) (hf_st : f st = .inl (cy 1, 20, .inl gst)) (hf_fo : f fo = .inl (cy 1, 180, .inl gfo)) (hq_ha : ∀ j : Nat, (q_hasR hz) j (gha j)) (hq_lw : ∀ j : Nat, (q_lawR lz) j (glw j)) (hq_st : ∀ j : Nat, q_law j (gst j)) : Met l yX10_clears (z_ws yX10_clears cX10_clears 2 none) (z_R 1 0 0) (va_Pc [.ref mm] (z_Pre D vwCl (z_KK D cy adK adV) L f sz)) (z_Qv D vwCl (fun u => L = u.1 ∧ (∀ b ∈ L, b ≠ mm → b ≠ li → b ≠ ha → b ≠ lw → b ≠ st → b ≠ fo → u.2 b = f b) ∧ (∃ (nli nha nlw nst nfo : Nat → Int32), (u.2 mm = .inr (10, [.int m0, .ref wd, .ref my, .ref ce, .ref mv, .ref ta, .int m6, .int m7, .int m8, .int m9, .int m10, .long m11, .int m12, .int m13, .int m14, .int m15, .ref li, .ref ha, .ref lw, .ref st, .ref fo, .ref dr, .int 0, .ref ik, .int m24, .int m25, .long m26, .int m27, .int m28, .ref ro, .int m30, .ref ct, .ref se, .ref th, .ref cn, .ref be, .int m36, .ref du, .int m38, .ref db, .int m40, .int m41, .int m42, .ref pn, .ref wg, .ref wh, .ref tn, .ref he, .int m48, .ref tr, .ref fd, .ref po, .int m52, .int m53])) ∧ (u.2 li = .inl (cy 1, 5, .inl nli)) ∧ (u.2 ha = .inl (cy 1, 30, .inl nha)) ∧ (u.2 lw = .inl (cy 1, 25, .inl nlw)) ∧ (u.2 st = .inl (cy 1, 20, .inl nst)) ∧ (u.2 fo = .inl (cy 1, 180, .inl nfo)) ∧ (∀ j : Nat, (q_hasR hz) j (nha j)) ∧ (∀ j : Nat, (q_lawR lz) j (nlw j)) ∧ (∀ j : Nat, q_law j (nst j)) ∧ ((nli 4).toInt = 0 ∧ (nha 27).toInt = 0 ∧ (nha 24).toInt = 0))) L sz) 0 0 (z_A L sz) := by
  refine z_met (cc := cX10_clears) (maxL := 2) (ret := none) (lv := [(0, .ref mm)]) (by decide) rfl (Nat.le_of_ble_eq_true rfl) rfl ?_
  intro p e s m below meth c ls hx hb hr hlk hml hown hnm hts hKK hA hw hl
  have hK := hKK.1.1
  have hown : s.vm.findClass RX10 = some m.cls := hown
  have hT : ∀ w ∈ lw_all, w.before ([.ref mm] : List Value).toArray s = true := fun w h => hts w (z_cons w h)
  have hsub : L = L := rfl
  have hfr : ∀ b ∈ L, b ≠ mm → b ≠ li → b ≠ ha → b ≠ lw → b ≠ st → b ≠ fo → f b = f b := fun _ _ _ _ _ _ _ _ => rfl
  have hz_0 : (0 : Int32).toInt = 0 := by decide
  refine lv_aload_n hx hb dX10_clears_0 rfl (lv_at hl 0 rfl) ?_
  refine z_get (C := RX10) (T := TX10) (N := 54) (ci := 10) (v := .ref li) hx hb hT zin_X10 hown hK hw hm_mm hf_mm rfl 16 (by decide) (hT _ kw_1184) rfl dX10_clears_1 ?_
  refine lv_iconst (v := 4) hx hb dX10_clears_4 (by decide) ?_
  refine lv_iconst (v := 0) hx hb dX10_clears_5 (by decide) ?_
  refine z_iast hx hb hK hw 1 hm_li hf_li rfl (z_ix (show (4 : Int32).toInt = 4 by decide) (by decide)) dX10_clears_6 (fun H locs hw => ?_)
  obtain ⟨f2, e_f2⟩ : ∃ z, z = va_up f li (.inl (cy 1, 5, .inl (upd gli (4 : Int32).toNatClampNeg 0))) := ⟨_, rfl⟩
  rw [← e_f2] at hw
  have hf_mm : f2 mm = .inr (10, [.int m0, .ref wd, .ref my, .ref ce, .ref mv, .ref ta, .int m6, .int m7, .int m8, .int m9, .int m10, .long m11, .int m12, .int m13, .int m14, .int m15, .ref li, .ref ha, .ref lw, .ref st, .ref fo, .ref dr, .int m22, .ref ik, .int m24, .int m25, .long m26, .int m27, .int m28, .ref ro, .int m30, .ref ct, .ref se, .ref th, .ref cn, .ref be, .int m36, .ref du, .int m38, .ref db, .int m40, .int m41, .int m42, .ref pn, .ref wg, .ref wh, .ref tn, .ref he, .int m48, .ref tr, .ref fd, .ref po, .int m52, .int m53]) := (congrFun e_f2 mm).trans (z_up_ne (z_tne hf_mm hf_li (m := 10) (n := 140) rfl rfl (by decide)) hf_mm)
  have hf_ha : f2 ha = .inl (cy 1, 30, .inl gha) := (congrFun e_f2 ha).trans (z_up_ne (z_tne hf_ha hf_li (m := 340) (n := 140) rfl rfl (by decide)) hf_ha)
  have hf_lw : f2 lw = .inl (cy 1, 25, .inl glw) := (congrFun e_f2 lw).trans (z_up_ne (z_tne hf_lw hf_li (m := 300) (n := 140) rfl rfl (by decide)) hf_lw)
  have hf_st : f2 st = .inl (cy 1, 20, .inl gst) := (congrFun e_f2 st).trans (z_up_ne (z_tne hf_st hf_li (m := 260) (n := 140) rfl rfl (by decide)) hf_st)
  have hf_fo : f2 fo = .inl (cy 1, 180, .inl gfo) := (congrFun e_f2 fo).trans (z_up_ne (z_tne hf_fo hf_li (m := 1540) (n := 140) rfl rfl (by decide)) hf_fo)
  have hf_li : f2 li = .inl (cy 1, 5, .inl (upd gli (4 : Int32).toNatClampNeg 0)) := (congrFun e_f2 li).trans z_up_self
  have hfr : ∀ b ∈ L, b ≠ mm → b ≠ li → b ≠ ha → b ≠ lw → b ≠ st → b ≠ fo → f2 b = f b := fun b hb h0 h1 h2 h3 h4 h5 => (congrFun e_f2 b).trans (z_up_ne h1 (hfr b hb h0 h1 h2 h3 h4 h5))
  obtain ⟨g1, e_g1⟩ : ∃ z, z = (upd gli (4 : Int32).toNatClampNeg 0) := ⟨_, rfl⟩
  rw [← e_g1] at hf_li
  refine lv_iconst (v := 0) hx hb dX10_clears_7 (by decide) ?_
  refine lv_istore_n (lv' := [(1, .int 0), (0, .ref mm)]) hx hb dX10_clears_8 rfl hl (by decide) rfl (fun ls hl => ?_)
  have hzk : (0 : Int32).toInt = 0 := by decide
  refine z_loop (fun n H locs ls => ∃ (K3 : Int32) (G5 : Nat → Int32) (f4 : Nat → va_E), (n = (6 - K3.toInt).toNat) ∧ (0 ≤ K3.toInt) ∧ (K3.toInt ≤ 6) ∧ (∀ j : Nat, 24 ≤ j → (j : Int) < 24 + K3.toInt → j ≠ 26 → (G5 j).toInt = 0) ∧ (z_H D vwCl (z_A L sz) s.heap L f4 H locs) ∧ (f4 mm = .inr (10, [.int m0, .ref wd, .ref my, .ref ce, .ref mv, .ref ta, .int m6, .int m7, .int m8, .int m9, .int m10, .long m11, .int m12, .int m13, .int m14, .int m15, .ref li, .ref ha, .ref lw, .ref st, .ref fo, .ref dr, .int m22, .ref ik, .int m24, .int m25, .long m26, .int m27, .int m28, .ref ro, .int m30, .ref ct, .ref se, .ref th, .ref cn, .ref be, .int m36, .ref du, .int m38, .ref db, .int m40, .int m41, .int m42, .ref pn, .ref wg, .ref wh, .ref tn, .ref he, .int m48, .ref tr, .ref fd, .ref po, .int m52, .int m53])) ∧ (f4 li = .inl (cy 1, 5, .inl g1)) ∧ (f4 ha = .inl (cy 1, 30, .inl G5)) ∧ (f4 lw = .inl (cy 1, 25, .inl glw)) ∧ (f4 st = .inl (cy 1, 20, .inl gst)) ∧ (f4 fo = .inl (cy 1, 180, .inl gfo)) ∧ (∀ b ∈ L, b ≠ mm → b ≠ li → b ≠ ha → b ≠ lw → b ≠ st → b ≠ fo → f4 b = f b) ∧ (∀ j : Nat, (q_hasR hz) j (G5 j)) ∧ (lv_has ls 2 [(1, .int K3), (0, .ref mm)])) _ ⟨0, gha, f2, rfl, (by first | decide | omega), (by first | decide | omega), (fun j h1 h2 _ => absurd h2 (by omega)), hw, hf_mm, hf_li, hf_ha, hf_lw, hf_st, hf_fo, hfr, hq_ha, (lv_sub hl [0, 1] rfl)⟩ (fun n H locs ls hI ih_9 => ?_)
  obtain ⟨K3, G5, f4, hn, hk0, hk1, hi0, hw, hf_mm, hf_li, hf_ha, hf_lw, hf_st, hf_fo, hfr, hq_ha, hl⟩ := hI
  refine lv_iload_n hx hb dX10_clears_9 rfl (lv_at hl 0 rfl) ?_
  refine lv_bipush (v := 6) hx hb dX10_clears_10 (by decide) ?_
  refine z_icmp_ge (tgt := 40) hx hb rfl (show (6 : Int32).toInt = 6 by decide) dX10_clears_12 (by decide) (fun c6 => ?_) (fun c6 => ?_)
  · skip
    have hcl := hi0
    refine lv_iconst (v := 0) hx hb dX10_clears_40 (by decide) ?_
    refine lv_istore_n (lv' := [(1, .int 0), (0, .ref mm)]) hx hb dX10_clears_41 rfl hl (by decide) rfl (fun ls hl => ?_)
    have hzk : (0 : Int32).toInt = 0 := by decide
    refine z_loop (fun n H locs ls => ∃ (K7 : Int32) (G9 : Nat → Int32) (f8 : Nat → va_E), (n = (5 - K7.toInt).toNat) ∧ (0 ≤ K7.toInt) ∧ (K7.toInt ≤ 5) ∧ (z_H D vwCl (z_A L sz) s.heap L f8 H locs) ∧ (f8 mm = .inr (10, [.int m0, .ref wd, .ref my, .ref ce, .ref mv, .ref ta, .int m6, .int m7, .int m8, .int m9, .int m10, .long m11, .int m12, .int m13, .int m14, .int m15, .ref li, .ref ha, .ref lw, .ref st, .ref fo, .ref dr, .int m22, .ref ik, .int m24, .int m25, .long m26, .int m27, .int m28, .ref ro, .int m30, .ref ct, .ref se, .ref th, .ref cn, .ref be, .int m36, .ref du, .int m38, .ref db, .int m40, .int m41, .int m42, .ref pn, .ref wg, .ref wh, .ref tn, .ref he, .int m48, .ref tr, .ref fd, .ref po, .int m52, .int m53])) ∧ (f8 li = .inl (cy 1, 5, .inl g1)) ∧ (f8 ha = .inl (cy 1, 30, .inl G5)) ∧ (f8 lw = .inl (cy 1, 25, .inl G9)) ∧ (f8 st = .inl (cy 1, 20, .inl gst)) ∧ (f8 fo = .inl (cy 1, 180, .inl gfo)) ∧ (∀ b ∈ L, b ≠ mm → b ≠ li → b ≠ ha → b ≠ lw → b ≠ st → b ≠ fo → f8 b = f b) ∧ (∀ j : Nat, (q_lawR lz) j (G9 j)) ∧ (lv_has ls 2 [(1, .int K7), (0, .ref mm)])) _ ⟨0, glw, f4, rfl, (by first | decide | omega), (by first | decide | omega), hw, hf_mm, hf_li, hf_ha, hf_lw, hf_st, hf_fo, hfr, hq_lw, (lv_sub hl [0, 1] rfl)⟩ (fun n H locs ls hI ih_42 => ?_)
    obtain ⟨K7, G9, f8, hn, hk0, hk1, hw, hf_mm, hf_li, hf_ha, hf_lw, hf_st, hf_fo, hfr, hq_lw, hl⟩ := hI
    refine lv_iload_n hx hb dX10_clears_42 rfl (lv_at hl 0 rfl) ?_
    refine lv_iconst (v := 5) hx hb dX10_clears_43 (by decide) ?_
    refine z_icmp_ge (tgt := 63) hx hb rfl (show (5 : Int32).toInt = 5 by decide) dX10_clears_44 (by decide) (fun c10 => ?_) (fun c10 => ?_)
    · skip
      refine lv_iconst (v := 0) hx hb dX10_clears_63 (by decide) ?_
      refine lv_istore_n (lv' := [(1, .int 0), (0, .ref mm)]) hx hb dX10_clears_64 rfl hl (by decide) rfl (fun ls hl => ?_)
      have hzk : (0 : Int32).toInt = 0 := by decide
      refine z_loop (fun n H locs ls => ∃ (K11 : Int32) (G13 : Nat → Int32) (f12 : Nat → va_E), (n = (4 - K11.toInt).toNat) ∧ (0 ≤ K11.toInt) ∧ (K11.toInt ≤ 4) ∧ (z_H D vwCl (z_A L sz) s.heap L f12 H locs) ∧ (f12 mm = .inr (10, [.int m0, .ref wd, .ref my, .ref ce, .ref mv, .ref ta, .int m6, .int m7, .int m8, .int m9, .int m10, .long m11, .int m12, .int m13, .int m14, .int m15, .ref li, .ref ha, .ref lw, .ref st, .ref fo, .ref dr, .int m22, .ref ik, .int m24, .int m25, .long m26, .int m27, .int m28, .ref ro, .int m30, .ref ct, .ref se, .ref th, .ref cn, .ref be, .int m36, .ref du, .int m38, .ref db, .int m40, .int m41, .int m42, .ref pn, .ref wg, .ref wh, .ref tn, .ref he, .int m48, .ref tr, .ref fd, .ref po, .int m52, .int m53])) ∧ (f12 li = .inl (cy 1, 5, .inl g1)) ∧ (f12 ha = .inl (cy 1, 30, .inl G5)) ∧ (f12 lw = .inl (cy 1, 25, .inl G9)) ∧ (f12 st = .inl (cy 1, 20, .inl G13)) ∧ (f12 fo = .inl (cy 1, 180, .inl gfo)) ∧ (∀ b ∈ L, b ≠ mm → b ≠ li → b ≠ ha → b ≠ lw → b ≠ st → b ≠ fo → f12 b = f b) ∧ (∀ j : Nat, q_law j (G13 j)) ∧ (lv_has ls 2 [(1, .int K11), (0, .ref mm)])) _ ⟨0, gst, f8, rfl, (by first | decide | omega), (by first | decide | omega), hw, hf_mm, hf_li, hf_ha, hf_lw, hf_st, hf_fo, hfr, hq_st, (lv_sub hl [0, 1] rfl)⟩ (fun n H locs ls hI ih_65 => ?_)
      obtain ⟨K11, G13, f12, hn, hk0, hk1, hw, hf_mm, hf_li, hf_ha, hf_lw, hf_st, hf_fo, hfr, hq_st, hl⟩ := hI
      refine lv_iload_n hx hb dX10_clears_65 rfl (lv_at hl 0 rfl) ?_
      refine lv_iconst (v := 4) hx hb dX10_clears_66 (by decide) ?_
      refine z_icmp_ge (tgt := 86) hx hb rfl (show (4 : Int32).toInt = 4 by decide) dX10_clears_67 (by decide) (fun c14 => ?_) (fun c14 => ?_)
      · skip
        refine lv_iconst (v := 0) hx hb dX10_clears_86 (by decide) ?_
        refine lv_istore_n (lv' := [(1, .int 0), (0, .ref mm)]) hx hb dX10_clears_87 rfl hl (by decide) rfl (fun ls hl => ?_)
        have hzk : (0 : Int32).toInt = 0 := by decide
        refine z_loop (fun n H locs ls => ∃ (K15 : Int32) (G17 : Nat → Int32) (f16 : Nat → va_E), (n = (36 - K15.toInt).toNat) ∧ (0 ≤ K15.toInt) ∧ (K15.toInt ≤ 36) ∧ (z_H D vwCl (z_A L sz) s.heap L f16 H locs) ∧ (f16 mm = .inr (10, [.int m0, .ref wd, .ref my, .ref ce, .ref mv, .ref ta, .int m6, .int m7, .int m8, .int m9, .int m10, .long m11, .int m12, .int m13, .int m14, .int m15, .ref li, .ref ha, .ref lw, .ref st, .ref fo, .ref dr, .int m22, .ref ik, .int m24, .int m25, .long m26, .int m27, .int m28, .ref ro, .int m30, .ref ct, .ref se, .ref th, .ref cn, .ref be, .int m36, .ref du, .int m38, .ref db, .int m40, .int m41, .int m42, .ref pn, .ref wg, .ref wh, .ref tn, .ref he, .int m48, .ref tr, .ref fd, .ref po, .int m52, .int m53])) ∧ (f16 li = .inl (cy 1, 5, .inl g1)) ∧ (f16 ha = .inl (cy 1, 30, .inl G5)) ∧ (f16 lw = .inl (cy 1, 25, .inl G9)) ∧ (f16 st = .inl (cy 1, 20, .inl G13)) ∧ (f16 fo = .inl (cy 1, 180, .inl G17)) ∧ (∀ b ∈ L, b ≠ mm → b ≠ li → b ≠ ha → b ≠ lw → b ≠ st → b ≠ fo → f16 b = f b) ∧ (lv_has ls 2 [(1, .int K15), (0, .ref mm)])) _ ⟨0, gfo, f12, rfl, (by first | decide | omega), (by first | decide | omega), hw, hf_mm, hf_li, hf_ha, hf_lw, hf_st, hf_fo, hfr, (lv_sub hl [0, 1] rfl)⟩ (fun n H locs ls hI ih_88 => ?_)
        obtain ⟨K15, G17, f16, hn, hk0, hk1, hw, hf_mm, hf_li, hf_ha, hf_lw, hf_st, hf_fo, hfr, hl⟩ := hI
        refine lv_iload_n hx hb dX10_clears_88 rfl (lv_at hl 0 rfl) ?_
        refine lv_bipush (v := 36) hx hb dX10_clears_89 (by decide) ?_
        refine z_icmp_ge (tgt := 111) hx hb rfl (show (36 : Int32).toInt = 36 by decide) dX10_clears_91 (by decide) (fun c18 => ?_) (fun c18 => ?_)
        · skip
          refine lv_aload_n hx hb dX10_clears_111 rfl (lv_at hl 1 rfl) ?_
          refine lv_iconst (v := 0) hx hb dX10_clears_112 (by decide) ?_
          refine z_put (C := RX10) (T := TX10) (N := 54) (ci := 10) (v := .int 0) (fs' := [.int m0, .ref wd, .ref my, .ref ce, .ref mv, .ref ta, .int m6, .int m7, .int m8, .int m9, .int m10, .long m11, .int m12, .int m13, .int m14, .int m15, .ref li, .ref ha, .ref lw, .ref st, .ref fo, .ref dr, .int 0, .ref ik, .int m24, .int m25, .long m26, .int m27, .int m28, .ref ro, .int m30, .ref ct, .ref se, .ref th, .ref cn, .ref be, .int m36, .ref du, .int m38, .ref db, .int m40, .int m41, .int m42, .ref pn, .ref wg, .ref wh, .ref tn, .ref he, .int m48, .ref tr, .ref fd, .ref po, .int m52, .int m53]) hx hb hT zin_X10 tyX10_ok nmX10 hown hK hw hm_mm hf_mm rfl 22 (by decide) (hT _ kw_1190) rfl rfl rfl (Nat.le_of_ble_eq_true rfl) rfl dX10_clears_113 (fun H locs hw => ?_)
          obtain ⟨f19, e_f19⟩ : ∃ z, z = va_up f16 mm (.inr (10, [.int m0, .ref wd, .ref my, .ref ce, .ref mv, .ref ta, .int m6, .int m7, .int m8, .int m9, .int m10, .long m11, .int m12, .int m13, .int m14, .int m15, .ref li, .ref ha, .ref lw, .ref st, .ref fo, .ref dr, .int 0, .ref ik, .int m24, .int m25, .long m26, .int m27, .int m28, .ref ro, .int m30, .ref ct, .ref se, .ref th, .ref cn, .ref be, .int m36, .ref du, .int m38, .ref db, .int m40, .int m41, .int m42, .ref pn, .ref wg, .ref wh, .ref tn, .ref he, .int m48, .ref tr, .ref fd, .ref po, .int m52, .int m53])) := ⟨_, rfl⟩
          rw [← e_f19] at hw
          have hf_li : f19 li = .inl (cy 1, 5, .inl g1) := (congrFun e_f19 li).trans (z_up_ne (z_tne hf_li hf_mm (m := 140) (n := 10) rfl rfl (by decide)) hf_li)
          have hf_ha : f19 ha = .inl (cy 1, 30, .inl G5) := (congrFun e_f19 ha).trans (z_up_ne (z_tne hf_ha hf_mm (m := 340) (n := 10) rfl rfl (by decide)) hf_ha)
          have hf_lw : f19 lw = .inl (cy 1, 25, .inl G9) := (congrFun e_f19 lw).trans (z_up_ne (z_tne hf_lw hf_mm (m := 300) (n := 10) rfl rfl (by decide)) hf_lw)
          have hf_st : f19 st = .inl (cy 1, 20, .inl G13) := (congrFun e_f19 st).trans (z_up_ne (z_tne hf_st hf_mm (m := 260) (n := 10) rfl rfl (by decide)) hf_st)
          have hf_fo : f19 fo = .inl (cy 1, 180, .inl G17) := (congrFun e_f19 fo).trans (z_up_ne (z_tne hf_fo hf_mm (m := 1540) (n := 10) rfl rfl (by decide)) hf_fo)
          have hf_mm : f19 mm = .inr (10, [.int m0, .ref wd, .ref my, .ref ce, .ref mv, .ref ta, .int m6, .int m7, .int m8, .int m9, .int m10, .long m11, .int m12, .int m13, .int m14, .int m15, .ref li, .ref ha, .ref lw, .ref st, .ref fo, .ref dr, .int 0, .ref ik, .int m24, .int m25, .long m26, .int m27, .int m28, .ref ro, .int m30, .ref ct, .ref se, .ref th, .ref cn, .ref be, .int m36, .ref du, .int m38, .ref db, .int m40, .int m41, .int m42, .ref pn, .ref wg, .ref wh, .ref tn, .ref he, .int m48, .ref tr, .ref fd, .ref po, .int m52, .int m53]) := (congrFun e_f19 mm).trans z_up_self
          have hfr : ∀ b ∈ L, b ≠ mm → b ≠ li → b ≠ ha → b ≠ lw → b ≠ st → b ≠ fo → f19 b = f b := fun b hb h0 h1 h2 h3 h4 h5 => (congrFun e_f19 b).trans (z_up_ne h0 (hfr b hb h0 h1 h2 h3 h4 h5))
          exact z_vret hx hb hr hlk (by decide) (by decide) hw (⟨hsub, hfr, g1, G5, G9, G13, G17, hf_mm, hf_li, hf_ha, hf_lw, hf_st, hf_fo, hq_ha, hq_lw, hq_st, by rw [show g1 4 = 0 from z_upd_at e_g1]; decide, hcl 27 (by decide) (by omega) (by decide), hcl 24 (by decide) (by omega) (by decide)⟩) dX10_clears_116
        · skip
          refine lv_aload_n hx hb dX10_clears_94 rfl (lv_at hl 1 rfl) ?_
          refine z_get (C := RX10) (T := TX10) (N := 54) (ci := 10) (v := .ref fo) hx hb hT zin_X10 hown hK hw hm_mm hf_mm rfl 20 (by decide) (hT _ kw_1188) rfl dX10_clears_95 ?_
          refine lv_sipush (v := 144) hx hb dX10_clears_98 (by decide) ?_
          refine lv_iload_n hx hb dX10_clears_101 rfl (lv_at hl 0 rfl) ?_
          refine lv_iadd hx hb dX10_clears_102 ?_
          refine lv_topi (fun w20 e_w20 => ?_)
          have i_w20 : w20.toInt = (144 + K15.toInt) := z_add e_w20 (show (144 : Int32).toInt = 144 by decide) rfl (by omega)
          refine lv_iconst (v := 0) hx hb dX10_clears_103 (by decide) ?_
          refine z_iast hx hb hK hw 1 hm_fo hf_fo rfl (z_ix i_w20 (by omega)) dX10_clears_104 (fun H locs hw => ?_)
          obtain ⟨f22, e_f22⟩ : ∃ z, z = va_up f16 fo (.inl (cy 1, 180, .inl (upd G17 w20.toNatClampNeg 0))) := ⟨_, rfl⟩
          rw [← e_f22] at hw
          have hf_mm : f22 mm = .inr (10, [.int m0, .ref wd, .ref my, .ref ce, .ref mv, .ref ta, .int m6, .int m7, .int m8, .int m9, .int m10, .long m11, .int m12, .int m13, .int m14, .int m15, .ref li, .ref ha, .ref lw, .ref st, .ref fo, .ref dr, .int m22, .ref ik, .int m24, .int m25, .long m26, .int m27, .int m28, .ref ro, .int m30, .ref ct, .ref se, .ref th, .ref cn, .ref be, .int m36, .ref du, .int m38, .ref db, .int m40, .int m41, .int m42, .ref pn, .ref wg, .ref wh, .ref tn, .ref he, .int m48, .ref tr, .ref fd, .ref po, .int m52, .int m53]) := (congrFun e_f22 mm).trans (z_up_ne (z_tne hf_mm hf_fo (m := 10) (n := 1540) rfl rfl (by decide)) hf_mm)
          have hf_li : f22 li = .inl (cy 1, 5, .inl g1) := (congrFun e_f22 li).trans (z_up_ne (z_tne hf_li hf_fo (m := 140) (n := 1540) rfl rfl (by decide)) hf_li)
          have hf_ha : f22 ha = .inl (cy 1, 30, .inl G5) := (congrFun e_f22 ha).trans (z_up_ne (z_tne hf_ha hf_fo (m := 340) (n := 1540) rfl rfl (by decide)) hf_ha)
          have hf_lw : f22 lw = .inl (cy 1, 25, .inl G9) := (congrFun e_f22 lw).trans (z_up_ne (z_tne hf_lw hf_fo (m := 300) (n := 1540) rfl rfl (by decide)) hf_lw)
          have hf_st : f22 st = .inl (cy 1, 20, .inl G13) := (congrFun e_f22 st).trans (z_up_ne (z_tne hf_st hf_fo (m := 260) (n := 1540) rfl rfl (by decide)) hf_st)
          have hf_fo : f22 fo = .inl (cy 1, 180, .inl (upd G17 w20.toNatClampNeg 0)) := (congrFun e_f22 fo).trans z_up_self
          have hfr : ∀ b ∈ L, b ≠ mm → b ≠ li → b ≠ ha → b ≠ lw → b ≠ st → b ≠ fo → f22 b = f b := fun b hb h0 h1 h2 h3 h4 h5 => (congrFun e_f22 b).trans (z_up_ne h5 (hfr b hb h0 h1 h2 h3 h4 h5))
          obtain ⟨g21, e_g21⟩ : ∃ z, z = (upd G17 w20.toNatClampNeg 0) := ⟨_, rfl⟩
          rw [← e_g21] at hf_fo
          obtain ⟨k23, e_k23⟩ : ∃ z : Int32, z = K15 + 1 := ⟨_, rfl⟩
          refine lv_iinc (v := k23) (lv' := [(1, .int k23), (0, .ref mm)]) hx hb dX10_clears_105 hl (k := 0) rfl (by rw [e_k23]; rfl) (by decide) rfl (fun ls hl => ?_)
          have i_k23 : k23.toInt = (K15.toInt + 1) := z_add e_k23 rfl (by decide) (by omega)
          refine lv_goto (tgt := 88) hx hb dX10_clears_108 (by decide) ?_
          exact ih_88 _ (by omega) _ _ _ ⟨k23, g21, f22, rfl, (by first | decide | omega), (by first | decide | omega), hw, hf_mm, hf_li, hf_ha, hf_lw, hf_st, hf_fo, hfr, (lv_sub hl [0, 1] rfl)⟩
      · skip
        refine lv_aload_n hx hb dX10_clears_70 rfl (lv_at hl 1 rfl) ?_
        refine z_get (C := RX10) (T := TX10) (N := 54) (ci := 10) (v := .ref st) hx hb hT zin_X10 hown hK hw hm_mm hf_mm rfl 19 (by decide) (hT _ kw_1187) rfl dX10_clears_71 ?_
        refine lv_bipush (v := 16) hx hb dX10_clears_74 (by decide) ?_
        refine lv_iload_n hx hb dX10_clears_76 rfl (lv_at hl 0 rfl) ?_
        refine lv_iadd hx hb dX10_clears_77 ?_
        refine lv_topi (fun w24 e_w24 => ?_)
        have i_w24 : w24.toInt = (16 + K11.toInt) := z_add e_w24 (show (16 : Int32).toInt = 16 by decide) rfl (by omega)
        refine lv_iconst (v := 0) hx hb dX10_clears_78 (by decide) ?_
        refine z_iast hx hb hK hw 1 hm_st hf_st rfl (z_ix i_w24 (by omega)) dX10_clears_79 (fun H locs hw => ?_)
        obtain ⟨f26, e_f26⟩ : ∃ z, z = va_up f12 st (.inl (cy 1, 20, .inl (upd G13 w24.toNatClampNeg 0))) := ⟨_, rfl⟩
        rw [← e_f26] at hw
        have hf_mm : f26 mm = .inr (10, [.int m0, .ref wd, .ref my, .ref ce, .ref mv, .ref ta, .int m6, .int m7, .int m8, .int m9, .int m10, .long m11, .int m12, .int m13, .int m14, .int m15, .ref li, .ref ha, .ref lw, .ref st, .ref fo, .ref dr, .int m22, .ref ik, .int m24, .int m25, .long m26, .int m27, .int m28, .ref ro, .int m30, .ref ct, .ref se, .ref th, .ref cn, .ref be, .int m36, .ref du, .int m38, .ref db, .int m40, .int m41, .int m42, .ref pn, .ref wg, .ref wh, .ref tn, .ref he, .int m48, .ref tr, .ref fd, .ref po, .int m52, .int m53]) := (congrFun e_f26 mm).trans (z_up_ne (z_tne hf_mm hf_st (m := 10) (n := 260) rfl rfl (by decide)) hf_mm)
        have hf_li : f26 li = .inl (cy 1, 5, .inl g1) := (congrFun e_f26 li).trans (z_up_ne (z_tne hf_li hf_st (m := 140) (n := 260) rfl rfl (by decide)) hf_li)
        have hf_ha : f26 ha = .inl (cy 1, 30, .inl G5) := (congrFun e_f26 ha).trans (z_up_ne (z_tne hf_ha hf_st (m := 340) (n := 260) rfl rfl (by decide)) hf_ha)
        have hf_lw : f26 lw = .inl (cy 1, 25, .inl G9) := (congrFun e_f26 lw).trans (z_up_ne (z_tne hf_lw hf_st (m := 300) (n := 260) rfl rfl (by decide)) hf_lw)
        have hf_fo : f26 fo = .inl (cy 1, 180, .inl gfo) := (congrFun e_f26 fo).trans (z_up_ne (z_tne hf_fo hf_st (m := 1540) (n := 260) rfl rfl (by decide)) hf_fo)
        have hf_st : f26 st = .inl (cy 1, 20, .inl (upd G13 w24.toNatClampNeg 0)) := (congrFun e_f26 st).trans z_up_self
        have hfr : ∀ b ∈ L, b ≠ mm → b ≠ li → b ≠ ha → b ≠ lw → b ≠ st → b ≠ fo → f26 b = f b := fun b hb h0 h1 h2 h3 h4 h5 => (congrFun e_f26 b).trans (z_up_ne h4 (hfr b hb h0 h1 h2 h3 h4 h5))
        obtain ⟨g25, e_g25⟩ : ∃ z, z = (upd G13 w24.toNatClampNeg 0) := ⟨_, rfl⟩
        rw [← e_g25] at hf_st
        have hq_st : ∀ j : Nat, q_law j (g25 j) := z_updQ hq_st e_g25 (show 0 ≤ (0 : Int32).toInt ∧ (0 : Int32).toInt ≤ 999 by first | decide | omega)
        obtain ⟨k27, e_k27⟩ : ∃ z : Int32, z = K11 + 1 := ⟨_, rfl⟩
        refine lv_iinc (v := k27) (lv' := [(1, .int k27), (0, .ref mm)]) hx hb dX10_clears_80 hl (k := 0) rfl (by rw [e_k27]; rfl) (by decide) rfl (fun ls hl => ?_)
        have i_k27 : k27.toInt = (K11.toInt + 1) := z_add e_k27 rfl (by decide) (by omega)
        refine lv_goto (tgt := 65) hx hb dX10_clears_83 (by decide) ?_
        exact ih_65 _ (by omega) _ _ _ ⟨k27, g25, f26, rfl, (by first | decide | omega), (by first | decide | omega), hw, hf_mm, hf_li, hf_ha, hf_lw, hf_st, hf_fo, hfr, hq_st, (lv_sub hl [0, 1] rfl)⟩
    · skip
      refine lv_aload_n hx hb dX10_clears_47 rfl (lv_at hl 1 rfl) ?_
      refine z_get (C := RX10) (T := TX10) (N := 54) (ci := 10) (v := .ref lw) hx hb hT zin_X10 hown hK hw hm_mm hf_mm rfl 18 (by decide) (hT _ kw_1186) rfl dX10_clears_48 ?_
      refine lv_bipush (v := 20) hx hb dX10_clears_51 (by decide) ?_
      refine lv_iload_n hx hb dX10_clears_53 rfl (lv_at hl 0 rfl) ?_
      refine lv_iadd hx hb dX10_clears_54 ?_
      refine lv_topi (fun w28 e_w28 => ?_)
      have i_w28 : w28.toInt = (20 + K7.toInt) := z_add e_w28 (show (20 : Int32).toInt = 20 by decide) rfl (by omega)
      refine lv_iconst (v := 0) hx hb dX10_clears_55 (by decide) ?_
      refine z_iast hx hb hK hw 1 hm_lw hf_lw rfl (z_ix i_w28 (by omega)) dX10_clears_56 (fun H locs hw => ?_)
      obtain ⟨f30, e_f30⟩ : ∃ z, z = va_up f8 lw (.inl (cy 1, 25, .inl (upd G9 w28.toNatClampNeg 0))) := ⟨_, rfl⟩
      rw [← e_f30] at hw
      have hf_mm : f30 mm = .inr (10, [.int m0, .ref wd, .ref my, .ref ce, .ref mv, .ref ta, .int m6, .int m7, .int m8, .int m9, .int m10, .long m11, .int m12, .int m13, .int m14, .int m15, .ref li, .ref ha, .ref lw, .ref st, .ref fo, .ref dr, .int m22, .ref ik, .int m24, .int m25, .long m26, .int m27, .int m28, .ref ro, .int m30, .ref ct, .ref se, .ref th, .ref cn, .ref be, .int m36, .ref du, .int m38, .ref db, .int m40, .int m41, .int m42, .ref pn, .ref wg, .ref wh, .ref tn, .ref he, .int m48, .ref tr, .ref fd, .ref po, .int m52, .int m53]) := (congrFun e_f30 mm).trans (z_up_ne (z_tne hf_mm hf_lw (m := 10) (n := 300) rfl rfl (by decide)) hf_mm)
      have hf_li : f30 li = .inl (cy 1, 5, .inl g1) := (congrFun e_f30 li).trans (z_up_ne (z_tne hf_li hf_lw (m := 140) (n := 300) rfl rfl (by decide)) hf_li)
      have hf_ha : f30 ha = .inl (cy 1, 30, .inl G5) := (congrFun e_f30 ha).trans (z_up_ne (z_tne hf_ha hf_lw (m := 340) (n := 300) rfl rfl (by decide)) hf_ha)
      have hf_st : f30 st = .inl (cy 1, 20, .inl gst) := (congrFun e_f30 st).trans (z_up_ne (z_tne hf_st hf_lw (m := 260) (n := 300) rfl rfl (by decide)) hf_st)
      have hf_fo : f30 fo = .inl (cy 1, 180, .inl gfo) := (congrFun e_f30 fo).trans (z_up_ne (z_tne hf_fo hf_lw (m := 1540) (n := 300) rfl rfl (by decide)) hf_fo)
      have hf_lw : f30 lw = .inl (cy 1, 25, .inl (upd G9 w28.toNatClampNeg 0)) := (congrFun e_f30 lw).trans z_up_self
      have hfr : ∀ b ∈ L, b ≠ mm → b ≠ li → b ≠ ha → b ≠ lw → b ≠ st → b ≠ fo → f30 b = f b := fun b hb h0 h1 h2 h3 h4 h5 => (congrFun e_f30 b).trans (z_up_ne h3 (hfr b hb h0 h1 h2 h3 h4 h5))
      obtain ⟨g29, e_g29⟩ : ∃ z, z = (upd G9 w28.toNatClampNeg 0) := ⟨_, rfl⟩
      rw [← e_g29] at hf_lw
      have hq_lw : ∀ j : Nat, (q_lawR lz) j (g29 j) := z_updQ hq_lw e_g29 (show q_lawR _ _ _ from ⟨(show 0 ≤ (0 : Int32).toInt ∧ (0 : Int32).toInt ≤ 999 by first | decide | omega), fun h => absurd h (z_nlt i_w28 (by omega))⟩)
      obtain ⟨k31, e_k31⟩ : ∃ z : Int32, z = K7 + 1 := ⟨_, rfl⟩
      refine lv_iinc (v := k31) (lv' := [(1, .int k31), (0, .ref mm)]) hx hb dX10_clears_57 hl (k := 0) rfl (by rw [e_k31]; rfl) (by decide) rfl (fun ls hl => ?_)
      have i_k31 : k31.toInt = (K7.toInt + 1) := z_add e_k31 rfl (by decide) (by omega)
      refine lv_goto (tgt := 42) hx hb dX10_clears_60 (by decide) ?_
      exact ih_42 _ (by omega) _ _ _ ⟨k31, g29, f30, rfl, (by first | decide | omega), (by first | decide | omega), hw, hf_mm, hf_li, hf_ha, hf_lw, hf_st, hf_fo, hfr, hq_lw, (lv_sub hl [0, 1] rfl)⟩
  · skip
    refine lv_aload_n hx hb dX10_clears_15 rfl (lv_at hl 1 rfl) ?_
    refine z_get (C := RX10) (T := TX10) (N := 54) (ci := 10) (v := .ref ha) hx hb hT zin_X10 hown hK hw hm_mm hf_mm rfl 17 (by decide) (hT _ kw_1185) rfl dX10_clears_16 ?_
    refine lv_bipush (v := 24) hx hb dX10_clears_19 (by decide) ?_
    refine lv_iload_n hx hb dX10_clears_21 rfl (lv_at hl 0 rfl) ?_
    refine lv_iadd hx hb dX10_clears_22 ?_
    refine lv_topi (fun w32 e_w32 => ?_)
    have i_w32 : w32.toInt = (24 + K3.toInt) := z_add e_w32 (show (24 : Int32).toInt = 24 by decide) rfl (by omega)
    refine lv_iload_n hx hb dX10_clears_23 rfl (lv_at hl 0 rfl) ?_
    refine lv_iconst (v := 2) hx hb dX10_clears_24 (by decide) ?_
    refine z_icmp_ne (tgt := 32) hx hb rfl (show (2 : Int32).toInt = 2 by decide) dX10_clears_25 (by decide) (fun c33 => ?_) (fun c33 => ?_)
    · skip
      refine lv_iconst (v := 0) hx hb dX10_clears_32 (by decide) ?_
      refine z_iast hx hb hK hw 1 hm_ha hf_ha rfl (z_ix i_w32 (by omega)) dX10_clears_33 (fun H locs hw => ?_)
      obtain ⟨f35, e_f35⟩ : ∃ z, z = va_up f4 ha (.inl (cy 1, 30, .inl (upd G5 w32.toNatClampNeg 0))) := ⟨_, rfl⟩
      rw [← e_f35] at hw
      have hf_mm : f35 mm = .inr (10, [.int m0, .ref wd, .ref my, .ref ce, .ref mv, .ref ta, .int m6, .int m7, .int m8, .int m9, .int m10, .long m11, .int m12, .int m13, .int m14, .int m15, .ref li, .ref ha, .ref lw, .ref st, .ref fo, .ref dr, .int m22, .ref ik, .int m24, .int m25, .long m26, .int m27, .int m28, .ref ro, .int m30, .ref ct, .ref se, .ref th, .ref cn, .ref be, .int m36, .ref du, .int m38, .ref db, .int m40, .int m41, .int m42, .ref pn, .ref wg, .ref wh, .ref tn, .ref he, .int m48, .ref tr, .ref fd, .ref po, .int m52, .int m53]) := (congrFun e_f35 mm).trans (z_up_ne (z_tne hf_mm hf_ha (m := 10) (n := 340) rfl rfl (by decide)) hf_mm)
      have hf_li : f35 li = .inl (cy 1, 5, .inl g1) := (congrFun e_f35 li).trans (z_up_ne (z_tne hf_li hf_ha (m := 140) (n := 340) rfl rfl (by decide)) hf_li)
      have hf_lw : f35 lw = .inl (cy 1, 25, .inl glw) := (congrFun e_f35 lw).trans (z_up_ne (z_tne hf_lw hf_ha (m := 300) (n := 340) rfl rfl (by decide)) hf_lw)
      have hf_st : f35 st = .inl (cy 1, 20, .inl gst) := (congrFun e_f35 st).trans (z_up_ne (z_tne hf_st hf_ha (m := 260) (n := 340) rfl rfl (by decide)) hf_st)
      have hf_fo : f35 fo = .inl (cy 1, 180, .inl gfo) := (congrFun e_f35 fo).trans (z_up_ne (z_tne hf_fo hf_ha (m := 1540) (n := 340) rfl rfl (by decide)) hf_fo)
      have hf_ha : f35 ha = .inl (cy 1, 30, .inl (upd G5 w32.toNatClampNeg 0)) := (congrFun e_f35 ha).trans z_up_self
      have hfr : ∀ b ∈ L, b ≠ mm → b ≠ li → b ≠ ha → b ≠ lw → b ≠ st → b ≠ fo → f35 b = f b := fun b hb h0 h1 h2 h3 h4 h5 => (congrFun e_f35 b).trans (z_up_ne h2 (hfr b hb h0 h1 h2 h3 h4 h5))
      obtain ⟨g34, e_g34⟩ : ∃ z, z = (upd G5 w32.toNatClampNeg 0) := ⟨_, rfl⟩
      rw [← e_g34] at hf_ha
      have hq_ha : ∀ j : Nat, (q_hasR hz) j (g34 j) := z_updQ hq_ha e_g34 (show q_hasR _ _ _ from ⟨z_has01 (by decide), fun h => absurd h (z_nlt i_w32 (by omega))⟩)
      obtain ⟨k36, e_k36⟩ : ∃ z : Int32, z = K3 + 1 := ⟨_, rfl⟩
      refine lv_iinc (v := k36) (lv' := [(1, .int k36), (0, .ref mm)]) hx hb dX10_clears_34 hl (k := 0) rfl (by rw [e_k36]; rfl) (by decide) rfl (fun ls hl => ?_)
      have i_k36 : k36.toInt = (K3.toInt + 1) := z_add e_k36 rfl (by decide) (by omega)
      refine lv_goto (tgt := 9) hx hb dX10_clears_37 (by decide) ?_
      exact ih_9 _ (by omega) _ _ _ ⟨k36, g34, f35, rfl, (by first | decide | omega), (by first | decide | omega), (z_clrH hk0 i_k36 i_w32 e_g34 hi0 (by first | (left; omega) | (right; decide))), hw, hf_mm, hf_li, hf_ha, hf_lw, hf_st, hf_fo, hfr, hq_ha, (lv_sub hl [0, 1] rfl)⟩
    · skip
      refine lv_iconst (v := 1) hx hb dX10_clears_28 (by decide) ?_
      refine lv_goto (tgt := 33) hx hb dX10_clears_29 (by decide) ?_
      refine z_iast hx hb hK hw 1 hm_ha hf_ha rfl (z_ix i_w32 (by omega)) dX10_clears_33 (fun H locs hw => ?_)
      obtain ⟨f38, e_f38⟩ : ∃ z, z = va_up f4 ha (.inl (cy 1, 30, .inl (upd G5 w32.toNatClampNeg 1))) := ⟨_, rfl⟩
      rw [← e_f38] at hw
      have hf_mm : f38 mm = .inr (10, [.int m0, .ref wd, .ref my, .ref ce, .ref mv, .ref ta, .int m6, .int m7, .int m8, .int m9, .int m10, .long m11, .int m12, .int m13, .int m14, .int m15, .ref li, .ref ha, .ref lw, .ref st, .ref fo, .ref dr, .int m22, .ref ik, .int m24, .int m25, .long m26, .int m27, .int m28, .ref ro, .int m30, .ref ct, .ref se, .ref th, .ref cn, .ref be, .int m36, .ref du, .int m38, .ref db, .int m40, .int m41, .int m42, .ref pn, .ref wg, .ref wh, .ref tn, .ref he, .int m48, .ref tr, .ref fd, .ref po, .int m52, .int m53]) := (congrFun e_f38 mm).trans (z_up_ne (z_tne hf_mm hf_ha (m := 10) (n := 340) rfl rfl (by decide)) hf_mm)
      have hf_li : f38 li = .inl (cy 1, 5, .inl g1) := (congrFun e_f38 li).trans (z_up_ne (z_tne hf_li hf_ha (m := 140) (n := 340) rfl rfl (by decide)) hf_li)
      have hf_lw : f38 lw = .inl (cy 1, 25, .inl glw) := (congrFun e_f38 lw).trans (z_up_ne (z_tne hf_lw hf_ha (m := 300) (n := 340) rfl rfl (by decide)) hf_lw)
      have hf_st : f38 st = .inl (cy 1, 20, .inl gst) := (congrFun e_f38 st).trans (z_up_ne (z_tne hf_st hf_ha (m := 260) (n := 340) rfl rfl (by decide)) hf_st)
      have hf_fo : f38 fo = .inl (cy 1, 180, .inl gfo) := (congrFun e_f38 fo).trans (z_up_ne (z_tne hf_fo hf_ha (m := 1540) (n := 340) rfl rfl (by decide)) hf_fo)
      have hf_ha : f38 ha = .inl (cy 1, 30, .inl (upd G5 w32.toNatClampNeg 1)) := (congrFun e_f38 ha).trans z_up_self
      have hfr : ∀ b ∈ L, b ≠ mm → b ≠ li → b ≠ ha → b ≠ lw → b ≠ st → b ≠ fo → f38 b = f b := fun b hb h0 h1 h2 h3 h4 h5 => (congrFun e_f38 b).trans (z_up_ne h2 (hfr b hb h0 h1 h2 h3 h4 h5))
      obtain ⟨g37, e_g37⟩ : ∃ z, z = (upd G5 w32.toNatClampNeg 1) := ⟨_, rfl⟩
      rw [← e_g37] at hf_ha
      have hq_ha : ∀ j : Nat, (q_hasR hz) j (g37 j) := z_updQ hq_ha e_g37 (show q_hasR _ _ _ from ⟨z_has01 (by decide), fun h => absurd h (z_nlt i_w32 (by omega))⟩)
      obtain ⟨k39, e_k39⟩ : ∃ z : Int32, z = K3 + 1 := ⟨_, rfl⟩
      refine lv_iinc (v := k39) (lv' := [(1, .int k39), (0, .ref mm)]) hx hb dX10_clears_34 hl (k := 0) rfl (by rw [e_k39]; rfl) (by decide) rfl (fun ls hl => ?_)
      have i_k39 : k39.toInt = (K3.toInt + 1) := z_add e_k39 rfl (by decide) (by omega)
      refine lv_goto (tgt := 9) hx hb dX10_clears_37 (by decide) ?_
      exact ih_9 _ (by omega) _ _ _ ⟨k39, g37, f38, rfl, (by first | decide | omega), (by first | decide | omega), (z_clrH hk0 i_k39 i_w32 e_g37 hi0 (by first | (left; omega) | (right; decide))), hw, hf_mm, hf_li, hf_ha, hf_lw, hf_st, hf_fo, hfr, hq_ha, (lv_sub hl [0, 1] rfl)⟩

set_option maxHeartbeats 2000000 in
set_option maxRecDepth 100000 in
theorem c_X10_copyRow_1 (l : Launch) {D : va_G} {cy : Nat → ClassId} {L : List Nat} {f : Nat → va_E} {sz : Nat} {adK adV : Nat → Nat} {rw : Nat} {aa bb : Int32} {g : Nat → Int32} (hm_rw : rw ∈ L) (hf_rw : f rw = .inl (cy 1, 5, .inl g)) (haa : 0 ≤ aa.toInt ∧ aa.toInt ≤ 4) (hbb : 0 ≤ bb.toInt ∧ bb.toInt ≤ 4) : Met l yX10_copyRow (z_ws yX10_copyRow cX10_copyRow 5 none) (z_R 1 0 0) (va_Pc [.ref rw, .int 1, .int aa, .int bb] (z_Pre D vwCl (z_KK D cy adK adV) L f sz)) (z_Qv D vwCl (fun u => L = u.1 ∧ (∀ b ∈ L, b ≠ rw → u.2 b = f b) ∧ (∃ (g2 : Nat → Int32), (u.2 rw = .inl (cy 1, 5, .inl g2)) ∧ (z_cpr 1 aa.toInt bb.toInt g g2))) L sz) 0 0 (z_A L sz) := by
  refine z_met (cc := cX10_copyRow) (maxL := 5) (ret := none) (lv := [(0, .ref rw), (1, .int 1), (2, .int aa), (3, .int bb)]) (by decide) rfl (Nat.le_of_ble_eq_true rfl) rfl ?_
  intro p e s m below meth c ls hx hb hr hlk hml hown hnm hts hKK hA hw hl
  have hK := hKK.1.1
  have hown : s.vm.findClass RX10 = some m.cls := hown
  have hT : ∀ w ∈ lw_all, w.before ([.ref rw, .int 1, .int aa, .int bb] : List Value).toArray s = true := fun w h => hts w (z_cons w h)
  have hsub : L = L := rfl
  have hfr : ∀ b ∈ L, b ≠ rw → f b = f b := fun _ _ _ => rfl
  refine lv_iconst (v := 0) hx hb dX10_copyRow_0 (by decide) ?_
  refine lv_istore (lv' := [(4, .int 0), (0, .ref rw), (1, .int 1), (2, .int aa), (3, .int bb)]) hx hb dX10_copyRow_1 hl (by decide) rfl (fun ls hl => ?_)
  have hzk : (0 : Int32).toInt = 0 := by decide
  refine z_loop (fun n H locs ls => ∃ (K1 : Int32) (G3 : Nat → Int32) (f2 : Nat → va_E), (n = (1 - K1.toInt).toNat) ∧ (0 ≤ K1.toInt) ∧ (K1.toInt ≤ 1) ∧ (z_cpk 1 aa.toInt bb.toInt K1.toInt g G3) ∧ (z_H D vwCl (z_A L sz) s.heap L f2 H locs) ∧ (f2 rw = .inl (cy 1, 5, .inl G3)) ∧ (∀ b ∈ L, b ≠ rw → f2 b = f b) ∧ (lv_has ls 5 [(4, .int K1), (0, .ref rw), (1, .int 1), (2, .int aa), (3, .int bb)])) _ ⟨0, g, f, rfl, (by first | decide | omega), (by first | decide | omega), z_cpk0, hw, hf_rw, hfr, (lv_sub hl [0, 1, 2, 3, 4] rfl)⟩ (fun n H locs ls hI ih_3 => ?_)
  obtain ⟨K1, G3, f2, hn, hk0, hk1, hi0, hw, hf_rw, hfr, hl⟩ := hI
  refine lv_iload hx hb dX10_copyRow_3 (lv_at hl 0 rfl) ?_
  refine lv_iload_n hx hb dX10_copyRow_5 rfl (lv_at hl 2 rfl) ?_
  refine z_icmp_ge (tgt := 31) hx hb rfl (show (1 : Int32).toInt = 1 by decide) dX10_copyRow_6 (by decide) (fun c4 => ?_) (fun c4 => ?_)
  · skip
    exact z_vret hx hb hr hlk (by decide) (by decide) hw (⟨hsub, hfr, _, hf_rw, z_cprK hi0 (by omega)⟩) dX10_copyRow_31
  · skip
    refine lv_aload_n hx hb dX10_copyRow_9 rfl (lv_at hl 1 rfl) ?_
    refine lv_iload_n hx hb dX10_copyRow_10 rfl (lv_at hl 2 rfl) ?_
    refine lv_iload_n hx hb dX10_copyRow_11 rfl (lv_at hl 4 rfl) ?_
    refine lv_imul hx hb dX10_copyRow_12 ?_
    refine lv_topi (fun w5 e_w5 => ?_)
    have i_w5 : w5.toInt = (1 * bb.toInt) := z_mul e_w5 (show (1 : Int32).toInt = 1 by decide) rfl (by omega)
    refine lv_iload hx hb dX10_copyRow_13 (lv_at hl 0 rfl) ?_
    refine lv_iadd hx hb dX10_copyRow_15 ?_
    refine lv_topi (fun w6 e_w6 => ?_)
    have i_w6 : w6.toInt = ((1 * bb.toInt) + K1.toInt) := z_add e_w6 i_w5 rfl (by omega)
    refine lv_aload_n hx hb dX10_copyRow_16 rfl (lv_at hl 1 rfl) ?_
    refine lv_iload_n hx hb dX10_copyRow_17 rfl (lv_at hl 2 rfl) ?_
    refine lv_iload_n hx hb dX10_copyRow_18 rfl (lv_at hl 3 rfl) ?_
    refine lv_imul hx hb dX10_copyRow_19 ?_
    refine lv_topi (fun w7 e_w7 => ?_)
    have i_w7 : w7.toInt = (1 * aa.toInt) := z_mul e_w7 (show (1 : Int32).toInt = 1 by decide) rfl (by omega)
    refine lv_iload hx hb dX10_copyRow_20 (lv_at hl 0 rfl) ?_
    refine lv_iadd hx hb dX10_copyRow_22 ?_
    refine lv_topi (fun w8 e_w8 => ?_)
    have i_w8 : w8.toInt = ((1 * aa.toInt) + K1.toInt) := z_add e_w8 i_w7 rfl (by omega)
    refine z_iald hx hb hK hw 1 hm_rw hf_rw rfl (z_ix i_w8 (by omega)) dX10_copyRow_23 ?_
    refine lv_topi (fun w9 e_w9 => ?_)
    refine z_iast hx hb hK hw 1 hm_rw hf_rw rfl (z_ix i_w6 (by omega)) dX10_copyRow_24 (fun H locs hw => ?_)
    obtain ⟨f11, e_f11⟩ : ∃ z, z = va_up f2 rw (.inl (cy 1, 5, .inl (upd G3 w6.toNatClampNeg w9))) := ⟨_, rfl⟩
    rw [← e_f11] at hw
    have hf_rw : f11 rw = .inl (cy 1, 5, .inl (upd G3 w6.toNatClampNeg w9)) := (congrFun e_f11 rw).trans z_up_self
    have hfr : ∀ b ∈ L, b ≠ rw → f11 b = f b := fun b hb h0 => (congrFun e_f11 b).trans (z_up_ne h0 (hfr b hb h0))
    obtain ⟨g10, e_g10⟩ : ∃ z, z = (upd G3 w6.toNatClampNeg w9) := ⟨_, rfl⟩
    rw [← e_g10] at hf_rw
    obtain ⟨k12, e_k12⟩ : ∃ z : Int32, z = K1 + 1 := ⟨_, rfl⟩
    refine lv_iinc (v := k12) (lv' := [(4, .int k12), (0, .ref rw), (1, .int 1), (2, .int aa), (3, .int bb)]) hx hb dX10_copyRow_25 hl (k := 0) rfl (by rw [e_k12]; rfl) (by decide) rfl (fun ls hl => ?_)
    have i_k12 : k12.toInt = (K1.toInt + 1) := z_add e_k12 rfl (by decide) (by omega)
    refine lv_goto (tgt := 3) hx hb dX10_copyRow_28 (by decide) ?_
    exact ih_3 _ (by omega) _ _ _ ⟨k12, g10, f11, rfl, (by first | decide | omega), (by first | decide | omega), (z_cpkS hi0 hk0 i_k12 i_w6 i_w8 (by omega) (by omega) e_g10 e_w9 (by omega)), hw, hf_rw, hfr, (lv_sub hl [0, 1, 2, 3, 4] rfl)⟩

set_option maxHeartbeats 2000000 in
set_option maxRecDepth 100000 in
theorem c_X10_copyRow_6 (l : Launch) {D : va_G} {cy : Nat → ClassId} {L : List Nat} {f : Nat → va_E} {sz : Nat} {adK adV : Nat → Nat} {rw : Nat} {aa bb : Int32} {g : Nat → Int32} (hm_rw : rw ∈ L) (hf_rw : f rw = .inl (cy 1, 30, .inl g)) (haa : 0 ≤ aa.toInt ∧ aa.toInt ≤ 4) (hbb : 0 ≤ bb.toInt ∧ bb.toInt ≤ 4) : Met l yX10_copyRow (z_ws yX10_copyRow cX10_copyRow 5 none) (z_R 1 0 0) (va_Pc [.ref rw, .int 6, .int aa, .int bb] (z_Pre D vwCl (z_KK D cy adK adV) L f sz)) (z_Qv D vwCl (fun u => L = u.1 ∧ (∀ b ∈ L, b ≠ rw → u.2 b = f b) ∧ (∃ (g2 : Nat → Int32), (u.2 rw = .inl (cy 1, 30, .inl g2)) ∧ (z_cpr 6 aa.toInt bb.toInt g g2))) L sz) 0 0 (z_A L sz) := by
  refine z_met (cc := cX10_copyRow) (maxL := 5) (ret := none) (lv := [(0, .ref rw), (1, .int 6), (2, .int aa), (3, .int bb)]) (by decide) rfl (Nat.le_of_ble_eq_true rfl) rfl ?_
  intro p e s m below meth c ls hx hb hr hlk hml hown hnm hts hKK hA hw hl
  have hK := hKK.1.1
  have hown : s.vm.findClass RX10 = some m.cls := hown
  have hT : ∀ w ∈ lw_all, w.before ([.ref rw, .int 6, .int aa, .int bb] : List Value).toArray s = true := fun w h => hts w (z_cons w h)
  have hsub : L = L := rfl
  have hfr : ∀ b ∈ L, b ≠ rw → f b = f b := fun _ _ _ => rfl
  refine lv_iconst (v := 0) hx hb dX10_copyRow_0 (by decide) ?_
  refine lv_istore (lv' := [(4, .int 0), (0, .ref rw), (1, .int 6), (2, .int aa), (3, .int bb)]) hx hb dX10_copyRow_1 hl (by decide) rfl (fun ls hl => ?_)
  have hzk : (0 : Int32).toInt = 0 := by decide
  refine z_loop (fun n H locs ls => ∃ (K1 : Int32) (G3 : Nat → Int32) (f2 : Nat → va_E), (n = (6 - K1.toInt).toNat) ∧ (0 ≤ K1.toInt) ∧ (K1.toInt ≤ 6) ∧ (z_cpk 6 aa.toInt bb.toInt K1.toInt g G3) ∧ (z_H D vwCl (z_A L sz) s.heap L f2 H locs) ∧ (f2 rw = .inl (cy 1, 30, .inl G3)) ∧ (∀ b ∈ L, b ≠ rw → f2 b = f b) ∧ (lv_has ls 5 [(4, .int K1), (0, .ref rw), (1, .int 6), (2, .int aa), (3, .int bb)])) _ ⟨0, g, f, rfl, (by first | decide | omega), (by first | decide | omega), z_cpk0, hw, hf_rw, hfr, (lv_sub hl [0, 1, 2, 3, 4] rfl)⟩ (fun n H locs ls hI ih_3 => ?_)
  obtain ⟨K1, G3, f2, hn, hk0, hk1, hi0, hw, hf_rw, hfr, hl⟩ := hI
  refine lv_iload hx hb dX10_copyRow_3 (lv_at hl 0 rfl) ?_
  refine lv_iload_n hx hb dX10_copyRow_5 rfl (lv_at hl 2 rfl) ?_
  refine z_icmp_ge (tgt := 31) hx hb rfl (show (6 : Int32).toInt = 6 by decide) dX10_copyRow_6 (by decide) (fun c4 => ?_) (fun c4 => ?_)
  · skip
    exact z_vret hx hb hr hlk (by decide) (by decide) hw (⟨hsub, hfr, _, hf_rw, z_cprK hi0 (by omega)⟩) dX10_copyRow_31
  · skip
    refine lv_aload_n hx hb dX10_copyRow_9 rfl (lv_at hl 1 rfl) ?_
    refine lv_iload_n hx hb dX10_copyRow_10 rfl (lv_at hl 2 rfl) ?_
    refine lv_iload_n hx hb dX10_copyRow_11 rfl (lv_at hl 4 rfl) ?_
    refine lv_imul hx hb dX10_copyRow_12 ?_
    refine lv_topi (fun w5 e_w5 => ?_)
    have i_w5 : w5.toInt = (6 * bb.toInt) := z_mul e_w5 (show (6 : Int32).toInt = 6 by decide) rfl (by omega)
    refine lv_iload hx hb dX10_copyRow_13 (lv_at hl 0 rfl) ?_
    refine lv_iadd hx hb dX10_copyRow_15 ?_
    refine lv_topi (fun w6 e_w6 => ?_)
    have i_w6 : w6.toInt = ((6 * bb.toInt) + K1.toInt) := z_add e_w6 i_w5 rfl (by omega)
    refine lv_aload_n hx hb dX10_copyRow_16 rfl (lv_at hl 1 rfl) ?_
    refine lv_iload_n hx hb dX10_copyRow_17 rfl (lv_at hl 2 rfl) ?_
    refine lv_iload_n hx hb dX10_copyRow_18 rfl (lv_at hl 3 rfl) ?_
    refine lv_imul hx hb dX10_copyRow_19 ?_
    refine lv_topi (fun w7 e_w7 => ?_)
    have i_w7 : w7.toInt = (6 * aa.toInt) := z_mul e_w7 (show (6 : Int32).toInt = 6 by decide) rfl (by omega)
    refine lv_iload hx hb dX10_copyRow_20 (lv_at hl 0 rfl) ?_
    refine lv_iadd hx hb dX10_copyRow_22 ?_
    refine lv_topi (fun w8 e_w8 => ?_)
    have i_w8 : w8.toInt = ((6 * aa.toInt) + K1.toInt) := z_add e_w8 i_w7 rfl (by omega)
    refine z_iald hx hb hK hw 1 hm_rw hf_rw rfl (z_ix i_w8 (by omega)) dX10_copyRow_23 ?_
    refine lv_topi (fun w9 e_w9 => ?_)
    refine z_iast hx hb hK hw 1 hm_rw hf_rw rfl (z_ix i_w6 (by omega)) dX10_copyRow_24 (fun H locs hw => ?_)
    obtain ⟨f11, e_f11⟩ : ∃ z, z = va_up f2 rw (.inl (cy 1, 30, .inl (upd G3 w6.toNatClampNeg w9))) := ⟨_, rfl⟩
    rw [← e_f11] at hw
    have hf_rw : f11 rw = .inl (cy 1, 30, .inl (upd G3 w6.toNatClampNeg w9)) := (congrFun e_f11 rw).trans z_up_self
    have hfr : ∀ b ∈ L, b ≠ rw → f11 b = f b := fun b hb h0 => (congrFun e_f11 b).trans (z_up_ne h0 (hfr b hb h0))
    obtain ⟨g10, e_g10⟩ : ∃ z, z = (upd G3 w6.toNatClampNeg w9) := ⟨_, rfl⟩
    rw [← e_g10] at hf_rw
    obtain ⟨k12, e_k12⟩ : ∃ z : Int32, z = K1 + 1 := ⟨_, rfl⟩
    refine lv_iinc (v := k12) (lv' := [(4, .int k12), (0, .ref rw), (1, .int 6), (2, .int aa), (3, .int bb)]) hx hb dX10_copyRow_25 hl (k := 0) rfl (by rw [e_k12]; rfl) (by decide) rfl (fun ls hl => ?_)
    have i_k12 : k12.toInt = (K1.toInt + 1) := z_add e_k12 rfl (by decide) (by omega)
    refine lv_goto (tgt := 3) hx hb dX10_copyRow_28 (by decide) ?_
    exact ih_3 _ (by omega) _ _ _ ⟨k12, g10, f11, rfl, (by first | decide | omega), (by first | decide | omega), (z_cpkS hi0 hk0 i_k12 i_w6 i_w8 (by omega) (by omega) e_g10 e_w9 (by omega)), hw, hf_rw, hfr, (lv_sub hl [0, 1, 2, 3, 4] rfl)⟩

set_option maxHeartbeats 2000000 in
set_option maxRecDepth 100000 in
theorem c_X10_copyRow_5 (l : Launch) {D : va_G} {cy : Nat → ClassId} {L : List Nat} {f : Nat → va_E} {sz : Nat} {adK adV : Nat → Nat} {rw : Nat} {aa bb : Int32} {g : Nat → Int32} (hm_rw : rw ∈ L) (hf_rw : f rw = .inl (cy 1, 25, .inl g)) (haa : 0 ≤ aa.toInt ∧ aa.toInt ≤ 4) (hbb : 0 ≤ bb.toInt ∧ bb.toInt ≤ 4) : Met l yX10_copyRow (z_ws yX10_copyRow cX10_copyRow 5 none) (z_R 1 0 0) (va_Pc [.ref rw, .int 5, .int aa, .int bb] (z_Pre D vwCl (z_KK D cy adK adV) L f sz)) (z_Qv D vwCl (fun u => L = u.1 ∧ (∀ b ∈ L, b ≠ rw → u.2 b = f b) ∧ (∃ (g2 : Nat → Int32), (u.2 rw = .inl (cy 1, 25, .inl g2)) ∧ (z_cpr 5 aa.toInt bb.toInt g g2))) L sz) 0 0 (z_A L sz) := by
  refine z_met (cc := cX10_copyRow) (maxL := 5) (ret := none) (lv := [(0, .ref rw), (1, .int 5), (2, .int aa), (3, .int bb)]) (by decide) rfl (Nat.le_of_ble_eq_true rfl) rfl ?_
  intro p e s m below meth c ls hx hb hr hlk hml hown hnm hts hKK hA hw hl
  have hK := hKK.1.1
  have hown : s.vm.findClass RX10 = some m.cls := hown
  have hT : ∀ w ∈ lw_all, w.before ([.ref rw, .int 5, .int aa, .int bb] : List Value).toArray s = true := fun w h => hts w (z_cons w h)
  have hsub : L = L := rfl
  have hfr : ∀ b ∈ L, b ≠ rw → f b = f b := fun _ _ _ => rfl
  refine lv_iconst (v := 0) hx hb dX10_copyRow_0 (by decide) ?_
  refine lv_istore (lv' := [(4, .int 0), (0, .ref rw), (1, .int 5), (2, .int aa), (3, .int bb)]) hx hb dX10_copyRow_1 hl (by decide) rfl (fun ls hl => ?_)
  have hzk : (0 : Int32).toInt = 0 := by decide
  refine z_loop (fun n H locs ls => ∃ (K1 : Int32) (G3 : Nat → Int32) (f2 : Nat → va_E), (n = (5 - K1.toInt).toNat) ∧ (0 ≤ K1.toInt) ∧ (K1.toInt ≤ 5) ∧ (z_cpk 5 aa.toInt bb.toInt K1.toInt g G3) ∧ (z_H D vwCl (z_A L sz) s.heap L f2 H locs) ∧ (f2 rw = .inl (cy 1, 25, .inl G3)) ∧ (∀ b ∈ L, b ≠ rw → f2 b = f b) ∧ (lv_has ls 5 [(4, .int K1), (0, .ref rw), (1, .int 5), (2, .int aa), (3, .int bb)])) _ ⟨0, g, f, rfl, (by first | decide | omega), (by first | decide | omega), z_cpk0, hw, hf_rw, hfr, (lv_sub hl [0, 1, 2, 3, 4] rfl)⟩ (fun n H locs ls hI ih_3 => ?_)
  obtain ⟨K1, G3, f2, hn, hk0, hk1, hi0, hw, hf_rw, hfr, hl⟩ := hI
  refine lv_iload hx hb dX10_copyRow_3 (lv_at hl 0 rfl) ?_
  refine lv_iload_n hx hb dX10_copyRow_5 rfl (lv_at hl 2 rfl) ?_
  refine z_icmp_ge (tgt := 31) hx hb rfl (show (5 : Int32).toInt = 5 by decide) dX10_copyRow_6 (by decide) (fun c4 => ?_) (fun c4 => ?_)
  · skip
    exact z_vret hx hb hr hlk (by decide) (by decide) hw (⟨hsub, hfr, _, hf_rw, z_cprK hi0 (by omega)⟩) dX10_copyRow_31
  · skip
    refine lv_aload_n hx hb dX10_copyRow_9 rfl (lv_at hl 1 rfl) ?_
    refine lv_iload_n hx hb dX10_copyRow_10 rfl (lv_at hl 2 rfl) ?_
    refine lv_iload_n hx hb dX10_copyRow_11 rfl (lv_at hl 4 rfl) ?_
    refine lv_imul hx hb dX10_copyRow_12 ?_
    refine lv_topi (fun w5 e_w5 => ?_)
    have i_w5 : w5.toInt = (5 * bb.toInt) := z_mul e_w5 (show (5 : Int32).toInt = 5 by decide) rfl (by omega)
    refine lv_iload hx hb dX10_copyRow_13 (lv_at hl 0 rfl) ?_
    refine lv_iadd hx hb dX10_copyRow_15 ?_
    refine lv_topi (fun w6 e_w6 => ?_)
    have i_w6 : w6.toInt = ((5 * bb.toInt) + K1.toInt) := z_add e_w6 i_w5 rfl (by omega)
    refine lv_aload_n hx hb dX10_copyRow_16 rfl (lv_at hl 1 rfl) ?_
    refine lv_iload_n hx hb dX10_copyRow_17 rfl (lv_at hl 2 rfl) ?_
    refine lv_iload_n hx hb dX10_copyRow_18 rfl (lv_at hl 3 rfl) ?_
    refine lv_imul hx hb dX10_copyRow_19 ?_
    refine lv_topi (fun w7 e_w7 => ?_)
    have i_w7 : w7.toInt = (5 * aa.toInt) := z_mul e_w7 (show (5 : Int32).toInt = 5 by decide) rfl (by omega)
    refine lv_iload hx hb dX10_copyRow_20 (lv_at hl 0 rfl) ?_
    refine lv_iadd hx hb dX10_copyRow_22 ?_
    refine lv_topi (fun w8 e_w8 => ?_)
    have i_w8 : w8.toInt = ((5 * aa.toInt) + K1.toInt) := z_add e_w8 i_w7 rfl (by omega)
    refine z_iald hx hb hK hw 1 hm_rw hf_rw rfl (z_ix i_w8 (by omega)) dX10_copyRow_23 ?_
    refine lv_topi (fun w9 e_w9 => ?_)
    refine z_iast hx hb hK hw 1 hm_rw hf_rw rfl (z_ix i_w6 (by omega)) dX10_copyRow_24 (fun H locs hw => ?_)
    obtain ⟨f11, e_f11⟩ : ∃ z, z = va_up f2 rw (.inl (cy 1, 25, .inl (upd G3 w6.toNatClampNeg w9))) := ⟨_, rfl⟩
    rw [← e_f11] at hw
    have hf_rw : f11 rw = .inl (cy 1, 25, .inl (upd G3 w6.toNatClampNeg w9)) := (congrFun e_f11 rw).trans z_up_self
    have hfr : ∀ b ∈ L, b ≠ rw → f11 b = f b := fun b hb h0 => (congrFun e_f11 b).trans (z_up_ne h0 (hfr b hb h0))
    obtain ⟨g10, e_g10⟩ : ∃ z, z = (upd G3 w6.toNatClampNeg w9) := ⟨_, rfl⟩
    rw [← e_g10] at hf_rw
    obtain ⟨k12, e_k12⟩ : ∃ z : Int32, z = K1 + 1 := ⟨_, rfl⟩
    refine lv_iinc (v := k12) (lv' := [(4, .int k12), (0, .ref rw), (1, .int 5), (2, .int aa), (3, .int bb)]) hx hb dX10_copyRow_25 hl (k := 0) rfl (by rw [e_k12]; rfl) (by decide) rfl (fun ls hl => ?_)
    have i_k12 : k12.toInt = (K1.toInt + 1) := z_add e_k12 rfl (by decide) (by omega)
    refine lv_goto (tgt := 3) hx hb dX10_copyRow_28 (by decide) ?_
    exact ih_3 _ (by omega) _ _ _ ⟨k12, g10, f11, rfl, (by first | decide | omega), (by first | decide | omega), (z_cpkS hi0 hk0 i_k12 i_w6 i_w8 (by omega) (by omega) e_g10 e_w9 (by omega)), hw, hf_rw, hfr, (lv_sub hl [0, 1, 2, 3, 4] rfl)⟩

set_option maxHeartbeats 2000000 in
set_option maxRecDepth 100000 in
theorem c_X10_copyRow_4 (l : Launch) {D : va_G} {cy : Nat → ClassId} {L : List Nat} {f : Nat → va_E} {sz : Nat} {adK adV : Nat → Nat} {rw : Nat} {aa bb : Int32} {g : Nat → Int32} (hm_rw : rw ∈ L) (hf_rw : f rw = .inl (cy 1, 20, .inl g)) (haa : 0 ≤ aa.toInt ∧ aa.toInt ≤ 4) (hbb : 0 ≤ bb.toInt ∧ bb.toInt ≤ 4) : Met l yX10_copyRow (z_ws yX10_copyRow cX10_copyRow 5 none) (z_R 1 0 0) (va_Pc [.ref rw, .int 4, .int aa, .int bb] (z_Pre D vwCl (z_KK D cy adK adV) L f sz)) (z_Qv D vwCl (fun u => L = u.1 ∧ (∀ b ∈ L, b ≠ rw → u.2 b = f b) ∧ (∃ (g2 : Nat → Int32), (u.2 rw = .inl (cy 1, 20, .inl g2)) ∧ (z_cpr 4 aa.toInt bb.toInt g g2))) L sz) 0 0 (z_A L sz) := by
  refine z_met (cc := cX10_copyRow) (maxL := 5) (ret := none) (lv := [(0, .ref rw), (1, .int 4), (2, .int aa), (3, .int bb)]) (by decide) rfl (Nat.le_of_ble_eq_true rfl) rfl ?_
  intro p e s m below meth c ls hx hb hr hlk hml hown hnm hts hKK hA hw hl
  have hK := hKK.1.1
  have hown : s.vm.findClass RX10 = some m.cls := hown
  have hT : ∀ w ∈ lw_all, w.before ([.ref rw, .int 4, .int aa, .int bb] : List Value).toArray s = true := fun w h => hts w (z_cons w h)
  have hsub : L = L := rfl
  have hfr : ∀ b ∈ L, b ≠ rw → f b = f b := fun _ _ _ => rfl
  refine lv_iconst (v := 0) hx hb dX10_copyRow_0 (by decide) ?_
  refine lv_istore (lv' := [(4, .int 0), (0, .ref rw), (1, .int 4), (2, .int aa), (3, .int bb)]) hx hb dX10_copyRow_1 hl (by decide) rfl (fun ls hl => ?_)
  have hzk : (0 : Int32).toInt = 0 := by decide
  refine z_loop (fun n H locs ls => ∃ (K1 : Int32) (G3 : Nat → Int32) (f2 : Nat → va_E), (n = (4 - K1.toInt).toNat) ∧ (0 ≤ K1.toInt) ∧ (K1.toInt ≤ 4) ∧ (z_cpk 4 aa.toInt bb.toInt K1.toInt g G3) ∧ (z_H D vwCl (z_A L sz) s.heap L f2 H locs) ∧ (f2 rw = .inl (cy 1, 20, .inl G3)) ∧ (∀ b ∈ L, b ≠ rw → f2 b = f b) ∧ (lv_has ls 5 [(4, .int K1), (0, .ref rw), (1, .int 4), (2, .int aa), (3, .int bb)])) _ ⟨0, g, f, rfl, (by first | decide | omega), (by first | decide | omega), z_cpk0, hw, hf_rw, hfr, (lv_sub hl [0, 1, 2, 3, 4] rfl)⟩ (fun n H locs ls hI ih_3 => ?_)
  obtain ⟨K1, G3, f2, hn, hk0, hk1, hi0, hw, hf_rw, hfr, hl⟩ := hI
  refine lv_iload hx hb dX10_copyRow_3 (lv_at hl 0 rfl) ?_
  refine lv_iload_n hx hb dX10_copyRow_5 rfl (lv_at hl 2 rfl) ?_
  refine z_icmp_ge (tgt := 31) hx hb rfl (show (4 : Int32).toInt = 4 by decide) dX10_copyRow_6 (by decide) (fun c4 => ?_) (fun c4 => ?_)
  · skip
    exact z_vret hx hb hr hlk (by decide) (by decide) hw (⟨hsub, hfr, _, hf_rw, z_cprK hi0 (by omega)⟩) dX10_copyRow_31
  · skip
    refine lv_aload_n hx hb dX10_copyRow_9 rfl (lv_at hl 1 rfl) ?_
    refine lv_iload_n hx hb dX10_copyRow_10 rfl (lv_at hl 2 rfl) ?_
    refine lv_iload_n hx hb dX10_copyRow_11 rfl (lv_at hl 4 rfl) ?_
    refine lv_imul hx hb dX10_copyRow_12 ?_
    refine lv_topi (fun w5 e_w5 => ?_)
    have i_w5 : w5.toInt = (4 * bb.toInt) := z_mul e_w5 (show (4 : Int32).toInt = 4 by decide) rfl (by omega)
    refine lv_iload hx hb dX10_copyRow_13 (lv_at hl 0 rfl) ?_
    refine lv_iadd hx hb dX10_copyRow_15 ?_
    refine lv_topi (fun w6 e_w6 => ?_)
    have i_w6 : w6.toInt = ((4 * bb.toInt) + K1.toInt) := z_add e_w6 i_w5 rfl (by omega)
    refine lv_aload_n hx hb dX10_copyRow_16 rfl (lv_at hl 1 rfl) ?_
    refine lv_iload_n hx hb dX10_copyRow_17 rfl (lv_at hl 2 rfl) ?_
    refine lv_iload_n hx hb dX10_copyRow_18 rfl (lv_at hl 3 rfl) ?_
    refine lv_imul hx hb dX10_copyRow_19 ?_
    refine lv_topi (fun w7 e_w7 => ?_)
    have i_w7 : w7.toInt = (4 * aa.toInt) := z_mul e_w7 (show (4 : Int32).toInt = 4 by decide) rfl (by omega)
    refine lv_iload hx hb dX10_copyRow_20 (lv_at hl 0 rfl) ?_
    refine lv_iadd hx hb dX10_copyRow_22 ?_
    refine lv_topi (fun w8 e_w8 => ?_)
    have i_w8 : w8.toInt = ((4 * aa.toInt) + K1.toInt) := z_add e_w8 i_w7 rfl (by omega)
    refine z_iald hx hb hK hw 1 hm_rw hf_rw rfl (z_ix i_w8 (by omega)) dX10_copyRow_23 ?_
    refine lv_topi (fun w9 e_w9 => ?_)
    refine z_iast hx hb hK hw 1 hm_rw hf_rw rfl (z_ix i_w6 (by omega)) dX10_copyRow_24 (fun H locs hw => ?_)
    obtain ⟨f11, e_f11⟩ : ∃ z, z = va_up f2 rw (.inl (cy 1, 20, .inl (upd G3 w6.toNatClampNeg w9))) := ⟨_, rfl⟩
    rw [← e_f11] at hw
    have hf_rw : f11 rw = .inl (cy 1, 20, .inl (upd G3 w6.toNatClampNeg w9)) := (congrFun e_f11 rw).trans z_up_self
    have hfr : ∀ b ∈ L, b ≠ rw → f11 b = f b := fun b hb h0 => (congrFun e_f11 b).trans (z_up_ne h0 (hfr b hb h0))
    obtain ⟨g10, e_g10⟩ : ∃ z, z = (upd G3 w6.toNatClampNeg w9) := ⟨_, rfl⟩
    rw [← e_g10] at hf_rw
    obtain ⟨k12, e_k12⟩ : ∃ z : Int32, z = K1 + 1 := ⟨_, rfl⟩
    refine lv_iinc (v := k12) (lv' := [(4, .int k12), (0, .ref rw), (1, .int 4), (2, .int aa), (3, .int bb)]) hx hb dX10_copyRow_25 hl (k := 0) rfl (by rw [e_k12]; rfl) (by decide) rfl (fun ls hl => ?_)
    have i_k12 : k12.toInt = (K1.toInt + 1) := z_add e_k12 rfl (by decide) (by omega)
    refine lv_goto (tgt := 3) hx hb dX10_copyRow_28 (by decide) ?_
    exact ih_3 _ (by omega) _ _ _ ⟨k12, g10, f11, rfl, (by first | decide | omega), (by first | decide | omega), (z_cpkS hi0 hk0 i_k12 i_w6 i_w8 (by omega) (by omega) e_g10 e_w9 (by omega)), hw, hf_rw, hfr, (lv_sub hl [0, 1, 2, 3, 4] rfl)⟩

set_option maxHeartbeats 2000000 in
set_option maxRecDepth 100000 in
theorem c_X10_copyRow_36 (l : Launch) {D : va_G} {cy : Nat → ClassId} {L : List Nat} {f : Nat → va_E} {sz : Nat} {adK adV : Nat → Nat} {rw : Nat} {aa bb : Int32} {g : Nat → Int32} (hm_rw : rw ∈ L) (hf_rw : f rw = .inl (cy 1, 180, .inl g)) (haa : 0 ≤ aa.toInt ∧ aa.toInt ≤ 4) (hbb : 0 ≤ bb.toInt ∧ bb.toInt ≤ 4) : Met l yX10_copyRow (z_ws yX10_copyRow cX10_copyRow 5 none) (z_R 1 0 0) (va_Pc [.ref rw, .int 36, .int aa, .int bb] (z_Pre D vwCl (z_KK D cy adK adV) L f sz)) (z_Qv D vwCl (fun u => L = u.1 ∧ (∀ b ∈ L, b ≠ rw → u.2 b = f b) ∧ (∃ (g2 : Nat → Int32), (u.2 rw = .inl (cy 1, 180, .inl g2)) ∧ (z_cpr 36 aa.toInt bb.toInt g g2))) L sz) 0 0 (z_A L sz) := by
  refine z_met (cc := cX10_copyRow) (maxL := 5) (ret := none) (lv := [(0, .ref rw), (1, .int 36), (2, .int aa), (3, .int bb)]) (by decide) rfl (Nat.le_of_ble_eq_true rfl) rfl ?_
  intro p e s m below meth c ls hx hb hr hlk hml hown hnm hts hKK hA hw hl
  have hK := hKK.1.1
  have hown : s.vm.findClass RX10 = some m.cls := hown
  have hT : ∀ w ∈ lw_all, w.before ([.ref rw, .int 36, .int aa, .int bb] : List Value).toArray s = true := fun w h => hts w (z_cons w h)
  have hsub : L = L := rfl
  have hfr : ∀ b ∈ L, b ≠ rw → f b = f b := fun _ _ _ => rfl
  refine lv_iconst (v := 0) hx hb dX10_copyRow_0 (by decide) ?_
  refine lv_istore (lv' := [(4, .int 0), (0, .ref rw), (1, .int 36), (2, .int aa), (3, .int bb)]) hx hb dX10_copyRow_1 hl (by decide) rfl (fun ls hl => ?_)
  have hzk : (0 : Int32).toInt = 0 := by decide
  refine z_loop (fun n H locs ls => ∃ (K1 : Int32) (G3 : Nat → Int32) (f2 : Nat → va_E), (n = (36 - K1.toInt).toNat) ∧ (0 ≤ K1.toInt) ∧ (K1.toInt ≤ 36) ∧ (z_cpk 36 aa.toInt bb.toInt K1.toInt g G3) ∧ (z_H D vwCl (z_A L sz) s.heap L f2 H locs) ∧ (f2 rw = .inl (cy 1, 180, .inl G3)) ∧ (∀ b ∈ L, b ≠ rw → f2 b = f b) ∧ (lv_has ls 5 [(4, .int K1), (0, .ref rw), (1, .int 36), (2, .int aa), (3, .int bb)])) _ ⟨0, g, f, rfl, (by first | decide | omega), (by first | decide | omega), z_cpk0, hw, hf_rw, hfr, (lv_sub hl [0, 1, 2, 3, 4] rfl)⟩ (fun n H locs ls hI ih_3 => ?_)
  obtain ⟨K1, G3, f2, hn, hk0, hk1, hi0, hw, hf_rw, hfr, hl⟩ := hI
  refine lv_iload hx hb dX10_copyRow_3 (lv_at hl 0 rfl) ?_
  refine lv_iload_n hx hb dX10_copyRow_5 rfl (lv_at hl 2 rfl) ?_
  refine z_icmp_ge (tgt := 31) hx hb rfl (show (36 : Int32).toInt = 36 by decide) dX10_copyRow_6 (by decide) (fun c4 => ?_) (fun c4 => ?_)
  · skip
    exact z_vret hx hb hr hlk (by decide) (by decide) hw (⟨hsub, hfr, _, hf_rw, z_cprK hi0 (by omega)⟩) dX10_copyRow_31
  · skip
    refine lv_aload_n hx hb dX10_copyRow_9 rfl (lv_at hl 1 rfl) ?_
    refine lv_iload_n hx hb dX10_copyRow_10 rfl (lv_at hl 2 rfl) ?_
    refine lv_iload_n hx hb dX10_copyRow_11 rfl (lv_at hl 4 rfl) ?_
    refine lv_imul hx hb dX10_copyRow_12 ?_
    refine lv_topi (fun w5 e_w5 => ?_)
    have i_w5 : w5.toInt = (36 * bb.toInt) := z_mul e_w5 (show (36 : Int32).toInt = 36 by decide) rfl (by omega)
    refine lv_iload hx hb dX10_copyRow_13 (lv_at hl 0 rfl) ?_
    refine lv_iadd hx hb dX10_copyRow_15 ?_
    refine lv_topi (fun w6 e_w6 => ?_)
    have i_w6 : w6.toInt = ((36 * bb.toInt) + K1.toInt) := z_add e_w6 i_w5 rfl (by omega)
    refine lv_aload_n hx hb dX10_copyRow_16 rfl (lv_at hl 1 rfl) ?_
    refine lv_iload_n hx hb dX10_copyRow_17 rfl (lv_at hl 2 rfl) ?_
    refine lv_iload_n hx hb dX10_copyRow_18 rfl (lv_at hl 3 rfl) ?_
    refine lv_imul hx hb dX10_copyRow_19 ?_
    refine lv_topi (fun w7 e_w7 => ?_)
    have i_w7 : w7.toInt = (36 * aa.toInt) := z_mul e_w7 (show (36 : Int32).toInt = 36 by decide) rfl (by omega)
    refine lv_iload hx hb dX10_copyRow_20 (lv_at hl 0 rfl) ?_
    refine lv_iadd hx hb dX10_copyRow_22 ?_
    refine lv_topi (fun w8 e_w8 => ?_)
    have i_w8 : w8.toInt = ((36 * aa.toInt) + K1.toInt) := z_add e_w8 i_w7 rfl (by omega)
    refine z_iald hx hb hK hw 1 hm_rw hf_rw rfl (z_ix i_w8 (by omega)) dX10_copyRow_23 ?_
    refine lv_topi (fun w9 e_w9 => ?_)
    refine z_iast hx hb hK hw 1 hm_rw hf_rw rfl (z_ix i_w6 (by omega)) dX10_copyRow_24 (fun H locs hw => ?_)
    obtain ⟨f11, e_f11⟩ : ∃ z, z = va_up f2 rw (.inl (cy 1, 180, .inl (upd G3 w6.toNatClampNeg w9))) := ⟨_, rfl⟩
    rw [← e_f11] at hw
    have hf_rw : f11 rw = .inl (cy 1, 180, .inl (upd G3 w6.toNatClampNeg w9)) := (congrFun e_f11 rw).trans z_up_self
    have hfr : ∀ b ∈ L, b ≠ rw → f11 b = f b := fun b hb h0 => (congrFun e_f11 b).trans (z_up_ne h0 (hfr b hb h0))
    obtain ⟨g10, e_g10⟩ : ∃ z, z = (upd G3 w6.toNatClampNeg w9) := ⟨_, rfl⟩
    rw [← e_g10] at hf_rw
    obtain ⟨k12, e_k12⟩ : ∃ z : Int32, z = K1 + 1 := ⟨_, rfl⟩
    refine lv_iinc (v := k12) (lv' := [(4, .int k12), (0, .ref rw), (1, .int 36), (2, .int aa), (3, .int bb)]) hx hb dX10_copyRow_25 hl (k := 0) rfl (by rw [e_k12]; rfl) (by decide) rfl (fun ls hl => ?_)
    have i_k12 : k12.toInt = (K1.toInt + 1) := z_add e_k12 rfl (by decide) (by omega)
    refine lv_goto (tgt := 3) hx hb dX10_copyRow_28 (by decide) ?_
    exact ih_3 _ (by omega) _ _ _ ⟨k12, g10, f11, rfl, (by first | decide | omega), (by first | decide | omega), (z_cpkS hi0 hk0 i_k12 i_w6 i_w8 (by omega) (by omega) e_g10 e_w9 (by omega)), hw, hf_rw, hfr, (lv_sub hl [0, 1, 2, 3, 4] rfl)⟩

set_option maxHeartbeats 2000000 in
set_option maxRecDepth 100000 in
theorem c_X10_copyRow_104 (l : Launch) {D : va_G} {cy : Nat → ClassId} {L : List Nat} {f : Nat → va_E} {sz : Nat} {adK adV : Nat → Nat} {rw : Nat} {aa bb : Int32} {g : Nat → Int32} (hm_rw : rw ∈ L) (hf_rw : f rw = .inl (cy 1, 520, .inl g)) (haa : 0 ≤ aa.toInt ∧ aa.toInt ≤ 4) (hbb : 0 ≤ bb.toInt ∧ bb.toInt ≤ 4) : Met l yX10_copyRow (z_ws yX10_copyRow cX10_copyRow 5 none) (z_R 1 0 0) (va_Pc [.ref rw, .int 104, .int aa, .int bb] (z_Pre D vwCl (z_KK D cy adK adV) L f sz)) (z_Qv D vwCl (fun u => L = u.1 ∧ (∀ b ∈ L, b ≠ rw → u.2 b = f b) ∧ (∃ (g2 : Nat → Int32), (u.2 rw = .inl (cy 1, 520, .inl g2)) ∧ (z_cpr 104 aa.toInt bb.toInt g g2))) L sz) 0 0 (z_A L sz) := by
  refine z_met (cc := cX10_copyRow) (maxL := 5) (ret := none) (lv := [(0, .ref rw), (1, .int 104), (2, .int aa), (3, .int bb)]) (by decide) rfl (Nat.le_of_ble_eq_true rfl) rfl ?_
  intro p e s m below meth c ls hx hb hr hlk hml hown hnm hts hKK hA hw hl
  have hK := hKK.1.1
  have hown : s.vm.findClass RX10 = some m.cls := hown
  have hT : ∀ w ∈ lw_all, w.before ([.ref rw, .int 104, .int aa, .int bb] : List Value).toArray s = true := fun w h => hts w (z_cons w h)
  have hsub : L = L := rfl
  have hfr : ∀ b ∈ L, b ≠ rw → f b = f b := fun _ _ _ => rfl
  refine lv_iconst (v := 0) hx hb dX10_copyRow_0 (by decide) ?_
  refine lv_istore (lv' := [(4, .int 0), (0, .ref rw), (1, .int 104), (2, .int aa), (3, .int bb)]) hx hb dX10_copyRow_1 hl (by decide) rfl (fun ls hl => ?_)
  have hzk : (0 : Int32).toInt = 0 := by decide
  refine z_loop (fun n H locs ls => ∃ (K1 : Int32) (G3 : Nat → Int32) (f2 : Nat → va_E), (n = (104 - K1.toInt).toNat) ∧ (0 ≤ K1.toInt) ∧ (K1.toInt ≤ 104) ∧ (z_cpk 104 aa.toInt bb.toInt K1.toInt g G3) ∧ (z_H D vwCl (z_A L sz) s.heap L f2 H locs) ∧ (f2 rw = .inl (cy 1, 520, .inl G3)) ∧ (∀ b ∈ L, b ≠ rw → f2 b = f b) ∧ (lv_has ls 5 [(4, .int K1), (0, .ref rw), (1, .int 104), (2, .int aa), (3, .int bb)])) _ ⟨0, g, f, rfl, (by first | decide | omega), (by first | decide | omega), z_cpk0, hw, hf_rw, hfr, (lv_sub hl [0, 1, 2, 3, 4] rfl)⟩ (fun n H locs ls hI ih_3 => ?_)
  obtain ⟨K1, G3, f2, hn, hk0, hk1, hi0, hw, hf_rw, hfr, hl⟩ := hI
  refine lv_iload hx hb dX10_copyRow_3 (lv_at hl 0 rfl) ?_
  refine lv_iload_n hx hb dX10_copyRow_5 rfl (lv_at hl 2 rfl) ?_
  refine z_icmp_ge (tgt := 31) hx hb rfl (show (104 : Int32).toInt = 104 by decide) dX10_copyRow_6 (by decide) (fun c4 => ?_) (fun c4 => ?_)
  · skip
    exact z_vret hx hb hr hlk (by decide) (by decide) hw (⟨hsub, hfr, _, hf_rw, z_cprK hi0 (by omega)⟩) dX10_copyRow_31
  · skip
    refine lv_aload_n hx hb dX10_copyRow_9 rfl (lv_at hl 1 rfl) ?_
    refine lv_iload_n hx hb dX10_copyRow_10 rfl (lv_at hl 2 rfl) ?_
    refine lv_iload_n hx hb dX10_copyRow_11 rfl (lv_at hl 4 rfl) ?_
    refine lv_imul hx hb dX10_copyRow_12 ?_
    refine lv_topi (fun w5 e_w5 => ?_)
    have i_w5 : w5.toInt = (104 * bb.toInt) := z_mul e_w5 (show (104 : Int32).toInt = 104 by decide) rfl (by omega)
    refine lv_iload hx hb dX10_copyRow_13 (lv_at hl 0 rfl) ?_
    refine lv_iadd hx hb dX10_copyRow_15 ?_
    refine lv_topi (fun w6 e_w6 => ?_)
    have i_w6 : w6.toInt = ((104 * bb.toInt) + K1.toInt) := z_add e_w6 i_w5 rfl (by omega)
    refine lv_aload_n hx hb dX10_copyRow_16 rfl (lv_at hl 1 rfl) ?_
    refine lv_iload_n hx hb dX10_copyRow_17 rfl (lv_at hl 2 rfl) ?_
    refine lv_iload_n hx hb dX10_copyRow_18 rfl (lv_at hl 3 rfl) ?_
    refine lv_imul hx hb dX10_copyRow_19 ?_
    refine lv_topi (fun w7 e_w7 => ?_)
    have i_w7 : w7.toInt = (104 * aa.toInt) := z_mul e_w7 (show (104 : Int32).toInt = 104 by decide) rfl (by omega)
    refine lv_iload hx hb dX10_copyRow_20 (lv_at hl 0 rfl) ?_
    refine lv_iadd hx hb dX10_copyRow_22 ?_
    refine lv_topi (fun w8 e_w8 => ?_)
    have i_w8 : w8.toInt = ((104 * aa.toInt) + K1.toInt) := z_add e_w8 i_w7 rfl (by omega)
    refine z_iald hx hb hK hw 1 hm_rw hf_rw rfl (z_ix i_w8 (by omega)) dX10_copyRow_23 ?_
    refine lv_topi (fun w9 e_w9 => ?_)
    refine z_iast hx hb hK hw 1 hm_rw hf_rw rfl (z_ix i_w6 (by omega)) dX10_copyRow_24 (fun H locs hw => ?_)
    obtain ⟨f11, e_f11⟩ : ∃ z, z = va_up f2 rw (.inl (cy 1, 520, .inl (upd G3 w6.toNatClampNeg w9))) := ⟨_, rfl⟩
    rw [← e_f11] at hw
    have hf_rw : f11 rw = .inl (cy 1, 520, .inl (upd G3 w6.toNatClampNeg w9)) := (congrFun e_f11 rw).trans z_up_self
    have hfr : ∀ b ∈ L, b ≠ rw → f11 b = f b := fun b hb h0 => (congrFun e_f11 b).trans (z_up_ne h0 (hfr b hb h0))
    obtain ⟨g10, e_g10⟩ : ∃ z, z = (upd G3 w6.toNatClampNeg w9) := ⟨_, rfl⟩
    rw [← e_g10] at hf_rw
    obtain ⟨k12, e_k12⟩ : ∃ z : Int32, z = K1 + 1 := ⟨_, rfl⟩
    refine lv_iinc (v := k12) (lv' := [(4, .int k12), (0, .ref rw), (1, .int 104), (2, .int aa), (3, .int bb)]) hx hb dX10_copyRow_25 hl (k := 0) rfl (by rw [e_k12]; rfl) (by decide) rfl (fun ls hl => ?_)
    have i_k12 : k12.toInt = (K1.toInt + 1) := z_add e_k12 rfl (by decide) (by omega)
    refine lv_goto (tgt := 3) hx hb dX10_copyRow_28 (by decide) ?_
    exact ih_3 _ (by omega) _ _ _ ⟨k12, g10, f11, rfl, (by first | decide | omega), (by first | decide | omega), (z_cpkS hi0 hk0 i_k12 i_w6 i_w8 (by omega) (by omega) e_g10 e_w9 (by omega)), hw, hf_rw, hfr, (lv_sub hl [0, 1, 2, 3, 4] rfl)⟩

set_option maxHeartbeats 2000000 in
set_option maxRecDepth 100000 in
theorem c_X10_copyMoor (l : Launch) {D : va_G} {cy : Nat → ClassId} {L : List Nat} {f : Nat → va_E} {sz : Nat} {adK adV : Nat → Nat} {mm wd my ce mv ta li ha lw st fo dr ik ro ct se th cn be du db pn wg wh tn he tr fd po : Nat} {m0 m6 m7 m8 m9 m10 m12 m13 m14 m15 m22 m24 m25 m27 m28 m30 m36 m38 m40 m41 m42 m48 m52 m53 : Int32} {m11 m26 : Int64} {gli gha glw gst gfo gdr : Nat → Int32}  {aa bb : Int32} (hm_mm : mm ∈ L) (hm_li : li ∈ L) (hm_ha : ha ∈ L) (hm_lw : lw ∈ L) (hm_st : st ∈ L) (hm_fo : fo ∈ L) (hm_dr : dr ∈ L) (hf_mm : f mm = .inr (10, [.int m0, .ref wd, .ref my, .ref ce, .ref mv, .ref ta, .int m6, .int m7, .int m8, .int m9, .int m10, .long m11, .int m12, .int m13, .int m14, .int m15, .ref li, .ref ha, .ref lw, .ref st, .ref fo, .ref dr, .int m22, .ref ik, .int m24, .int m25, .long m26, .int m27, .int m28, .ref ro, .int m30, .ref ct, .ref se, .ref th, .ref cn, .ref be, .int m36, .ref du, .int m38, .ref db, .int m40, .int m41, .int m42, .ref pn, .ref wg, .ref wh, .ref tn, .ref he, .int m48, .ref tr, .ref fd, .ref po, .int m52, .int m53])) (hf_li : f li = .inl (cy 1, 5, .inl gli)) (hf_ha : f ha = .inl (cy 1, 30, .inl gha)) (hf_lw : f lw = .inl (cy 1, 25, .inl glw)) (hf_st : f st = .inl (cy 1, 20, .inl gst)) (hf_fo : f fo = .inl (cy 1, 180, .inl gfo)) (hf_dr : f dr = .inl (cy 1, 520, .inl gdr)) (hq_ha : ∀ j : Nat, q_has j (gha j)) (hq_lw : ∀ j : Nat, q_law j (glw j)) (hq_st : ∀ j : Nat, q_law j (gst j)) (hq_dr : ∀ j : Nat, q_drv j (gdr j)) (haa : 0 ≤ aa.toInt ∧ aa.toInt ≤ 4) (hbb : 0 ≤ bb.toInt ∧ bb.toInt ≤ 4) (hea : ∀ m : Nat, m < 5 → z_ea gha glw m) : Met l yX10_copyMoor (z_ws yX10_copyMoor cX10_copyMoor 3 none) (z_R 2 0 0) (va_Pc [.ref mm, .int aa, .int bb] (z_Pre D vwCl (z_KK D cy adK adV) L f sz)) (z_Qv D vwCl (fun u => L = u.1 ∧ (∀ b ∈ L, b ≠ li → b ≠ ha → b ≠ lw → b ≠ st → b ≠ fo → b ≠ dr → u.2 b = f b) ∧ (∃ (nli nha nlw nst nfo ndr : Nat → Int32), (u.2 li = .inl (cy 1, 5, .inl nli)) ∧ (u.2 ha = .inl (cy 1, 30, .inl nha)) ∧ (u.2 lw = .inl (cy 1, 25, .inl nlw)) ∧ (u.2 st = .inl (cy 1, 20, .inl nst)) ∧ (u.2 fo = .inl (cy 1, 180, .inl nfo)) ∧ (u.2 dr = .inl (cy 1, 520, .inl ndr)) ∧ (∀ j : Nat, q_has j (nha j)) ∧ (∀ j : Nat, q_law j (nlw j)) ∧ (∀ j : Nat, q_law j (nst j)) ∧ (∀ j : Nat, q_drv j (ndr j)) ∧ (∀ m : Nat, m < 5 → z_ea nha nlw m))) L sz) 0 0 (z_A L sz) := by
  refine z_met (cc := cX10_copyMoor) (maxL := 3) (ret := none) (lv := [(0, .ref mm), (1, .int aa), (2, .int bb)]) (by decide) rfl (Nat.le_of_ble_eq_true rfl) rfl ?_
  intro p e s m below meth c ls hx hb hr hlk hml hown hnm hts hKK hA hw hl
  have hK := hKK.1.1
  have hown : s.vm.findClass RX10 = some m.cls := hown
  have hT : ∀ w ∈ lw_all, w.before ([.ref mm, .int aa, .int bb] : List Value).toArray s = true := fun w h => hts w (z_cons w h)
  have hsub : L = L := rfl
  have hfr : ∀ b ∈ L, b ≠ li → b ≠ ha → b ≠ lw → b ≠ st → b ≠ fo → b ≠ dr → f b = f b := fun _ _ _ _ _ _ _ _ => rfl
  refine lv_aload_n hx hb dX10_copyMoor_0 rfl (lv_at hl 0 rfl) ?_
  refine z_get (C := RX10) (T := TX10) (N := 54) (ci := 10) (v := .ref li) hx hb hT zin_X10 hown hK hw hm_mm hf_mm rfl 16 (by decide) (hT _ kw_1184) rfl dX10_copyMoor_1 ?_
  refine lv_iconst (v := 1) hx hb dX10_copyMoor_4 (by decide) ?_
  refine lv_iload_n hx hb dX10_copyMoor_5 rfl (lv_at hl 1 rfl) ?_
  refine lv_iload_n hx hb dX10_copyMoor_6 rfl (lv_at hl 2 rfl) ?_
  have hz1 := (show (1 : Int32).toInt = 1 by decide)
  refine z_callvS (cells := 0) (slots := 0) (As := [.ref li, .int 1, .int aa, .int bb]) (rest := []) ⟨hx, hb, hml, hown, hT⟩ (c_X10_copyRow_1 l hm_li hf_li (by first | omega | decide | assumption) (by first | omega | decide | assumption)) (va_cwS 4 hT (z_goodS (fun _ h => h) kw_1475 kw_1476 kw_96 kw_1477) rfl rfl rfl (by decide +kernel) ⟨by decide, by decide⟩) z_mv hKK hw hA rfl hl.1 rfl (Nat.le_of_ble_eq_true rfl) dX10_copyMoor_7 ⟨by decide, by decide⟩ (fun u H locs hp hw => ?_)
  obtain ⟨L2, f3⟩ := u
  obtain ⟨hsb, hfm, g2_4, ha_0, hp⟩ := hp
  have hsb : L = L2 := hsb
  subst hsb
  have hsb : ∀ b ∈ L, b ∈ L := fun _ h => h
  have hw : z_H D vwCl (z_A L sz) s.heap L f3 H locs := hw
  have hfr : ∀ b ∈ L, b ≠ li → b ≠ ha → b ≠ lw → b ≠ st → b ≠ fo → b ≠ dr → f3 b = f b := fun b hb h0 h1 h2 h3 h4 h5 => (hfm b hb h0).trans (hfr b hb h0 h1 h2 h3 h4 h5)
  have hf_mm : f3 mm = .inr (10, [.int m0, .ref wd, .ref my, .ref ce, .ref mv, .ref ta, .int m6, .int m7, .int m8, .int m9, .int m10, .long m11, .int m12, .int m13, .int m14, .int m15, .ref li, .ref ha, .ref lw, .ref st, .ref fo, .ref dr, .int m22, .ref ik, .int m24, .int m25, .long m26, .int m27, .int m28, .ref ro, .int m30, .ref ct, .ref se, .ref th, .ref cn, .ref be, .int m36, .ref du, .int m38, .ref db, .int m40, .int m41, .int m42, .ref pn, .ref wg, .ref wh, .ref tn, .ref he, .int m48, .ref tr, .ref fd, .ref po, .int m52, .int m53]) := (hfm mm hm_mm (z_tne hf_mm hf_li (m := 10) (n := 140) rfl rfl (by decide))).trans hf_mm
  have hf_ha : f3 ha = .inl (cy 1, 30, .inl gha) := (hfm ha hm_ha (z_tne hf_ha hf_li (m := 340) (n := 140) rfl rfl (by decide))).trans hf_ha
  have hf_lw : f3 lw = .inl (cy 1, 25, .inl glw) := (hfm lw hm_lw (z_tne hf_lw hf_li (m := 300) (n := 140) rfl rfl (by decide))).trans hf_lw
  have hf_st : f3 st = .inl (cy 1, 20, .inl gst) := (hfm st hm_st (z_tne hf_st hf_li (m := 260) (n := 140) rfl rfl (by decide))).trans hf_st
  have hf_fo : f3 fo = .inl (cy 1, 180, .inl gfo) := (hfm fo hm_fo (z_tne hf_fo hf_li (m := 1540) (n := 140) rfl rfl (by decide))).trans hf_fo
  have hf_dr : f3 dr = .inl (cy 1, 520, .inl gdr) := (hfm dr hm_dr (z_tne hf_dr hf_li (m := 4260) (n := 140) rfl rfl (by decide))).trans hf_dr
  have hf_li : f3 li = .inl (cy 1, 5, .inl g2_4) := ha_0
  have hcp_li := hp
  refine lv_aload_n hx hb dX10_copyMoor_10 rfl (lv_at hl 0 rfl) ?_
  refine z_get (C := RX10) (T := TX10) (N := 54) (ci := 10) (v := .ref ha) hx hb hT zin_X10 hown hK hw hm_mm hf_mm rfl 17 (by decide) (hT _ kw_1185) rfl dX10_copyMoor_11 ?_
  refine lv_bipush (v := 6) hx hb dX10_copyMoor_14 (by decide) ?_
  refine lv_iload_n hx hb dX10_copyMoor_16 rfl (lv_at hl 1 rfl) ?_
  refine lv_iload_n hx hb dX10_copyMoor_17 rfl (lv_at hl 2 rfl) ?_
  have hz5 := (show (6 : Int32).toInt = 6 by decide)
  refine z_callvS (cells := 0) (slots := 0) (As := [.ref ha, .int 6, .int aa, .int bb]) (rest := []) ⟨hx, hb, hml, hown, hT⟩ (c_X10_copyRow_6 l hm_ha hf_ha (by first | omega | decide | assumption) (by first | omega | decide | assumption)) (va_cwS 4 hT (z_goodS (fun _ h => h) kw_1475 kw_1476 kw_96 kw_1477) rfl rfl rfl (by decide +kernel) ⟨by decide, by decide⟩) z_mv hKK hw hA rfl hl.1 rfl (Nat.le_of_ble_eq_true rfl) dX10_copyMoor_18 ⟨by decide, by decide⟩ (fun u H locs hp hw => ?_)
  obtain ⟨L6, f7⟩ := u
  obtain ⟨hsb, hfm, g2_8, ha_0, hp⟩ := hp
  have hsb : L = L6 := hsb
  subst hsb
  have hsb : ∀ b ∈ L, b ∈ L := fun _ h => h
  have hw : z_H D vwCl (z_A L sz) s.heap L f7 H locs := hw
  have hfr : ∀ b ∈ L, b ≠ li → b ≠ ha → b ≠ lw → b ≠ st → b ≠ fo → b ≠ dr → f7 b = f b := fun b hb h0 h1 h2 h3 h4 h5 => (hfm b hb h1).trans (hfr b hb h0 h1 h2 h3 h4 h5)
  have hf_mm : f7 mm = .inr (10, [.int m0, .ref wd, .ref my, .ref ce, .ref mv, .ref ta, .int m6, .int m7, .int m8, .int m9, .int m10, .long m11, .int m12, .int m13, .int m14, .int m15, .ref li, .ref ha, .ref lw, .ref st, .ref fo, .ref dr, .int m22, .ref ik, .int m24, .int m25, .long m26, .int m27, .int m28, .ref ro, .int m30, .ref ct, .ref se, .ref th, .ref cn, .ref be, .int m36, .ref du, .int m38, .ref db, .int m40, .int m41, .int m42, .ref pn, .ref wg, .ref wh, .ref tn, .ref he, .int m48, .ref tr, .ref fd, .ref po, .int m52, .int m53]) := (hfm mm hm_mm (z_tne hf_mm hf_ha (m := 10) (n := 340) rfl rfl (by decide))).trans hf_mm
  have hf_li : f7 li = .inl (cy 1, 5, .inl g2_4) := (hfm li hm_li (z_tne hf_li hf_ha (m := 140) (n := 340) rfl rfl (by decide))).trans hf_li
  have hf_lw : f7 lw = .inl (cy 1, 25, .inl glw) := (hfm lw hm_lw (z_tne hf_lw hf_ha (m := 300) (n := 340) rfl rfl (by decide))).trans hf_lw
  have hf_st : f7 st = .inl (cy 1, 20, .inl gst) := (hfm st hm_st (z_tne hf_st hf_ha (m := 260) (n := 340) rfl rfl (by decide))).trans hf_st
  have hf_fo : f7 fo = .inl (cy 1, 180, .inl gfo) := (hfm fo hm_fo (z_tne hf_fo hf_ha (m := 1540) (n := 340) rfl rfl (by decide))).trans hf_fo
  have hf_dr : f7 dr = .inl (cy 1, 520, .inl gdr) := (hfm dr hm_dr (z_tne hf_dr hf_ha (m := 4260) (n := 340) rfl rfl (by decide))).trans hf_dr
  have hf_ha : f7 ha = .inl (cy 1, 30, .inl g2_8) := ha_0
  have hcp_ha := hp
  have hq_ha : ∀ j : Nat, q_has j (g2_8 j) := z_cpr_has hp (by omega) (by omega) hq_ha
  refine lv_aload_n hx hb dX10_copyMoor_21 rfl (lv_at hl 0 rfl) ?_
  refine z_get (C := RX10) (T := TX10) (N := 54) (ci := 10) (v := .ref lw) hx hb hT zin_X10 hown hK hw hm_mm hf_mm rfl 18 (by decide) (hT _ kw_1186) rfl dX10_copyMoor_22 ?_
  refine lv_iconst (v := 5) hx hb dX10_copyMoor_25 (by decide) ?_
  refine lv_iload_n hx hb dX10_copyMoor_26 rfl (lv_at hl 1 rfl) ?_
  refine lv_iload_n hx hb dX10_copyMoor_27 rfl (lv_at hl 2 rfl) ?_
  have hz9 := (show (5 : Int32).toInt = 5 by decide)
  refine z_callvS (cells := 0) (slots := 0) (As := [.ref lw, .int 5, .int aa, .int bb]) (rest := []) ⟨hx, hb, hml, hown, hT⟩ (c_X10_copyRow_5 l hm_lw hf_lw (by first | omega | decide | assumption) (by first | omega | decide | assumption)) (va_cwS 4 hT (z_goodS (fun _ h => h) kw_1475 kw_1476 kw_96 kw_1477) rfl rfl rfl (by decide +kernel) ⟨by decide, by decide⟩) z_mv hKK hw hA rfl hl.1 rfl (Nat.le_of_ble_eq_true rfl) dX10_copyMoor_28 ⟨by decide, by decide⟩ (fun u H locs hp hw => ?_)
  obtain ⟨L10, f11⟩ := u
  obtain ⟨hsb, hfm, g2_12, ha_0, hp⟩ := hp
  have hsb : L = L10 := hsb
  subst hsb
  have hsb : ∀ b ∈ L, b ∈ L := fun _ h => h
  have hw : z_H D vwCl (z_A L sz) s.heap L f11 H locs := hw
  have hfr : ∀ b ∈ L, b ≠ li → b ≠ ha → b ≠ lw → b ≠ st → b ≠ fo → b ≠ dr → f11 b = f b := fun b hb h0 h1 h2 h3 h4 h5 => (hfm b hb h2).trans (hfr b hb h0 h1 h2 h3 h4 h5)
  have hf_mm : f11 mm = .inr (10, [.int m0, .ref wd, .ref my, .ref ce, .ref mv, .ref ta, .int m6, .int m7, .int m8, .int m9, .int m10, .long m11, .int m12, .int m13, .int m14, .int m15, .ref li, .ref ha, .ref lw, .ref st, .ref fo, .ref dr, .int m22, .ref ik, .int m24, .int m25, .long m26, .int m27, .int m28, .ref ro, .int m30, .ref ct, .ref se, .ref th, .ref cn, .ref be, .int m36, .ref du, .int m38, .ref db, .int m40, .int m41, .int m42, .ref pn, .ref wg, .ref wh, .ref tn, .ref he, .int m48, .ref tr, .ref fd, .ref po, .int m52, .int m53]) := (hfm mm hm_mm (z_tne hf_mm hf_lw (m := 10) (n := 300) rfl rfl (by decide))).trans hf_mm
  have hf_li : f11 li = .inl (cy 1, 5, .inl g2_4) := (hfm li hm_li (z_tne hf_li hf_lw (m := 140) (n := 300) rfl rfl (by decide))).trans hf_li
  have hf_ha : f11 ha = .inl (cy 1, 30, .inl g2_8) := (hfm ha hm_ha (z_tne hf_ha hf_lw (m := 340) (n := 300) rfl rfl (by decide))).trans hf_ha
  have hf_st : f11 st = .inl (cy 1, 20, .inl gst) := (hfm st hm_st (z_tne hf_st hf_lw (m := 260) (n := 300) rfl rfl (by decide))).trans hf_st
  have hf_fo : f11 fo = .inl (cy 1, 180, .inl gfo) := (hfm fo hm_fo (z_tne hf_fo hf_lw (m := 1540) (n := 300) rfl rfl (by decide))).trans hf_fo
  have hf_dr : f11 dr = .inl (cy 1, 520, .inl gdr) := (hfm dr hm_dr (z_tne hf_dr hf_lw (m := 4260) (n := 300) rfl rfl (by decide))).trans hf_dr
  have hf_lw : f11 lw = .inl (cy 1, 25, .inl g2_12) := ha_0
  have hcp_lw := hp
  have hq_lw : ∀ j : Nat, q_law j (g2_12 j) := z_cprC (P := fun x : Int32 => 0 ≤ x.toInt ∧ x.toInt ≤ 999) hp hq_lw
  refine lv_aload_n hx hb dX10_copyMoor_31 rfl (lv_at hl 0 rfl) ?_
  refine z_get (C := RX10) (T := TX10) (N := 54) (ci := 10) (v := .ref st) hx hb hT zin_X10 hown hK hw hm_mm hf_mm rfl 19 (by decide) (hT _ kw_1187) rfl dX10_copyMoor_32 ?_
  refine lv_iconst (v := 4) hx hb dX10_copyMoor_35 (by decide) ?_
  refine lv_iload_n hx hb dX10_copyMoor_36 rfl (lv_at hl 1 rfl) ?_
  refine lv_iload_n hx hb dX10_copyMoor_37 rfl (lv_at hl 2 rfl) ?_
  have hz13 := (show (4 : Int32).toInt = 4 by decide)
  refine z_callvS (cells := 0) (slots := 0) (As := [.ref st, .int 4, .int aa, .int bb]) (rest := []) ⟨hx, hb, hml, hown, hT⟩ (c_X10_copyRow_4 l hm_st hf_st (by first | omega | decide | assumption) (by first | omega | decide | assumption)) (va_cwS 4 hT (z_goodS (fun _ h => h) kw_1475 kw_1476 kw_96 kw_1477) rfl rfl rfl (by decide +kernel) ⟨by decide, by decide⟩) z_mv hKK hw hA rfl hl.1 rfl (Nat.le_of_ble_eq_true rfl) dX10_copyMoor_38 ⟨by decide, by decide⟩ (fun u H locs hp hw => ?_)
  obtain ⟨L14, f15⟩ := u
  obtain ⟨hsb, hfm, g2_16, ha_0, hp⟩ := hp
  have hsb : L = L14 := hsb
  subst hsb
  have hsb : ∀ b ∈ L, b ∈ L := fun _ h => h
  have hw : z_H D vwCl (z_A L sz) s.heap L f15 H locs := hw
  have hfr : ∀ b ∈ L, b ≠ li → b ≠ ha → b ≠ lw → b ≠ st → b ≠ fo → b ≠ dr → f15 b = f b := fun b hb h0 h1 h2 h3 h4 h5 => (hfm b hb h3).trans (hfr b hb h0 h1 h2 h3 h4 h5)
  have hf_mm : f15 mm = .inr (10, [.int m0, .ref wd, .ref my, .ref ce, .ref mv, .ref ta, .int m6, .int m7, .int m8, .int m9, .int m10, .long m11, .int m12, .int m13, .int m14, .int m15, .ref li, .ref ha, .ref lw, .ref st, .ref fo, .ref dr, .int m22, .ref ik, .int m24, .int m25, .long m26, .int m27, .int m28, .ref ro, .int m30, .ref ct, .ref se, .ref th, .ref cn, .ref be, .int m36, .ref du, .int m38, .ref db, .int m40, .int m41, .int m42, .ref pn, .ref wg, .ref wh, .ref tn, .ref he, .int m48, .ref tr, .ref fd, .ref po, .int m52, .int m53]) := (hfm mm hm_mm (z_tne hf_mm hf_st (m := 10) (n := 260) rfl rfl (by decide))).trans hf_mm
  have hf_li : f15 li = .inl (cy 1, 5, .inl g2_4) := (hfm li hm_li (z_tne hf_li hf_st (m := 140) (n := 260) rfl rfl (by decide))).trans hf_li
  have hf_ha : f15 ha = .inl (cy 1, 30, .inl g2_8) := (hfm ha hm_ha (z_tne hf_ha hf_st (m := 340) (n := 260) rfl rfl (by decide))).trans hf_ha
  have hf_lw : f15 lw = .inl (cy 1, 25, .inl g2_12) := (hfm lw hm_lw (z_tne hf_lw hf_st (m := 300) (n := 260) rfl rfl (by decide))).trans hf_lw
  have hf_fo : f15 fo = .inl (cy 1, 180, .inl gfo) := (hfm fo hm_fo (z_tne hf_fo hf_st (m := 1540) (n := 260) rfl rfl (by decide))).trans hf_fo
  have hf_dr : f15 dr = .inl (cy 1, 520, .inl gdr) := (hfm dr hm_dr (z_tne hf_dr hf_st (m := 4260) (n := 260) rfl rfl (by decide))).trans hf_dr
  have hf_st : f15 st = .inl (cy 1, 20, .inl g2_16) := ha_0
  have hcp_st := hp
  have hq_st : ∀ j : Nat, q_law j (g2_16 j) := z_cprC (P := fun x : Int32 => 0 ≤ x.toInt ∧ x.toInt ≤ 999) hp hq_st
  refine lv_aload_n hx hb dX10_copyMoor_41 rfl (lv_at hl 0 rfl) ?_
  refine z_get (C := RX10) (T := TX10) (N := 54) (ci := 10) (v := .ref fo) hx hb hT zin_X10 hown hK hw hm_mm hf_mm rfl 20 (by decide) (hT _ kw_1188) rfl dX10_copyMoor_42 ?_
  refine lv_bipush (v := 36) hx hb dX10_copyMoor_45 (by decide) ?_
  refine lv_iload_n hx hb dX10_copyMoor_47 rfl (lv_at hl 1 rfl) ?_
  refine lv_iload_n hx hb dX10_copyMoor_48 rfl (lv_at hl 2 rfl) ?_
  have hz17 := (show (36 : Int32).toInt = 36 by decide)
  refine z_callvS (cells := 0) (slots := 0) (As := [.ref fo, .int 36, .int aa, .int bb]) (rest := []) ⟨hx, hb, hml, hown, hT⟩ (c_X10_copyRow_36 l hm_fo hf_fo (by first | omega | decide | assumption) (by first | omega | decide | assumption)) (va_cwS 4 hT (z_goodS (fun _ h => h) kw_1475 kw_1476 kw_96 kw_1477) rfl rfl rfl (by decide +kernel) ⟨by decide, by decide⟩) z_mv hKK hw hA rfl hl.1 rfl (Nat.le_of_ble_eq_true rfl) dX10_copyMoor_49 ⟨by decide, by decide⟩ (fun u H locs hp hw => ?_)
  obtain ⟨L18, f19⟩ := u
  obtain ⟨hsb, hfm, g2_20, ha_0, hp⟩ := hp
  have hsb : L = L18 := hsb
  subst hsb
  have hsb : ∀ b ∈ L, b ∈ L := fun _ h => h
  have hw : z_H D vwCl (z_A L sz) s.heap L f19 H locs := hw
  have hfr : ∀ b ∈ L, b ≠ li → b ≠ ha → b ≠ lw → b ≠ st → b ≠ fo → b ≠ dr → f19 b = f b := fun b hb h0 h1 h2 h3 h4 h5 => (hfm b hb h4).trans (hfr b hb h0 h1 h2 h3 h4 h5)
  have hf_mm : f19 mm = .inr (10, [.int m0, .ref wd, .ref my, .ref ce, .ref mv, .ref ta, .int m6, .int m7, .int m8, .int m9, .int m10, .long m11, .int m12, .int m13, .int m14, .int m15, .ref li, .ref ha, .ref lw, .ref st, .ref fo, .ref dr, .int m22, .ref ik, .int m24, .int m25, .long m26, .int m27, .int m28, .ref ro, .int m30, .ref ct, .ref se, .ref th, .ref cn, .ref be, .int m36, .ref du, .int m38, .ref db, .int m40, .int m41, .int m42, .ref pn, .ref wg, .ref wh, .ref tn, .ref he, .int m48, .ref tr, .ref fd, .ref po, .int m52, .int m53]) := (hfm mm hm_mm (z_tne hf_mm hf_fo (m := 10) (n := 1540) rfl rfl (by decide))).trans hf_mm
  have hf_li : f19 li = .inl (cy 1, 5, .inl g2_4) := (hfm li hm_li (z_tne hf_li hf_fo (m := 140) (n := 1540) rfl rfl (by decide))).trans hf_li
  have hf_ha : f19 ha = .inl (cy 1, 30, .inl g2_8) := (hfm ha hm_ha (z_tne hf_ha hf_fo (m := 340) (n := 1540) rfl rfl (by decide))).trans hf_ha
  have hf_lw : f19 lw = .inl (cy 1, 25, .inl g2_12) := (hfm lw hm_lw (z_tne hf_lw hf_fo (m := 300) (n := 1540) rfl rfl (by decide))).trans hf_lw
  have hf_st : f19 st = .inl (cy 1, 20, .inl g2_16) := (hfm st hm_st (z_tne hf_st hf_fo (m := 260) (n := 1540) rfl rfl (by decide))).trans hf_st
  have hf_dr : f19 dr = .inl (cy 1, 520, .inl gdr) := (hfm dr hm_dr (z_tne hf_dr hf_fo (m := 4260) (n := 1540) rfl rfl (by decide))).trans hf_dr
  have hf_fo : f19 fo = .inl (cy 1, 180, .inl g2_20) := ha_0
  have hcp_fo := hp
  refine lv_aload_n hx hb dX10_copyMoor_52 rfl (lv_at hl 0 rfl) ?_
  refine z_get (C := RX10) (T := TX10) (N := 54) (ci := 10) (v := .ref dr) hx hb hT zin_X10 hown hK hw hm_mm hf_mm rfl 21 (by decide) (hT _ kw_1189) rfl dX10_copyMoor_53 ?_
  refine lv_bipush (v := 104) hx hb dX10_copyMoor_56 (by decide) ?_
  refine lv_iload_n hx hb dX10_copyMoor_58 rfl (lv_at hl 1 rfl) ?_
  refine lv_iload_n hx hb dX10_copyMoor_59 rfl (lv_at hl 2 rfl) ?_
  have hz21 := (show (104 : Int32).toInt = 104 by decide)
  refine z_callvS (cells := 0) (slots := 0) (As := [.ref dr, .int 104, .int aa, .int bb]) (rest := []) ⟨hx, hb, hml, hown, hT⟩ (c_X10_copyRow_104 l hm_dr hf_dr (by first | omega | decide | assumption) (by first | omega | decide | assumption)) (va_cwS 4 hT (z_goodS (fun _ h => h) kw_1475 kw_1476 kw_96 kw_1477) rfl rfl rfl (by decide +kernel) ⟨by decide, by decide⟩) z_mv hKK hw hA rfl hl.1 rfl (Nat.le_of_ble_eq_true rfl) dX10_copyMoor_60 ⟨by decide, by decide⟩ (fun u H locs hp hw => ?_)
  obtain ⟨L22, f23⟩ := u
  obtain ⟨hsb, hfm, g2_24, ha_0, hp⟩ := hp
  have hsb : L = L22 := hsb
  subst hsb
  have hsb : ∀ b ∈ L, b ∈ L := fun _ h => h
  have hw : z_H D vwCl (z_A L sz) s.heap L f23 H locs := hw
  have hfr : ∀ b ∈ L, b ≠ li → b ≠ ha → b ≠ lw → b ≠ st → b ≠ fo → b ≠ dr → f23 b = f b := fun b hb h0 h1 h2 h3 h4 h5 => (hfm b hb h5).trans (hfr b hb h0 h1 h2 h3 h4 h5)
  have hf_mm : f23 mm = .inr (10, [.int m0, .ref wd, .ref my, .ref ce, .ref mv, .ref ta, .int m6, .int m7, .int m8, .int m9, .int m10, .long m11, .int m12, .int m13, .int m14, .int m15, .ref li, .ref ha, .ref lw, .ref st, .ref fo, .ref dr, .int m22, .ref ik, .int m24, .int m25, .long m26, .int m27, .int m28, .ref ro, .int m30, .ref ct, .ref se, .ref th, .ref cn, .ref be, .int m36, .ref du, .int m38, .ref db, .int m40, .int m41, .int m42, .ref pn, .ref wg, .ref wh, .ref tn, .ref he, .int m48, .ref tr, .ref fd, .ref po, .int m52, .int m53]) := (hfm mm hm_mm (z_tne hf_mm hf_dr (m := 10) (n := 4260) rfl rfl (by decide))).trans hf_mm
  have hf_li : f23 li = .inl (cy 1, 5, .inl g2_4) := (hfm li hm_li (z_tne hf_li hf_dr (m := 140) (n := 4260) rfl rfl (by decide))).trans hf_li
  have hf_ha : f23 ha = .inl (cy 1, 30, .inl g2_8) := (hfm ha hm_ha (z_tne hf_ha hf_dr (m := 340) (n := 4260) rfl rfl (by decide))).trans hf_ha
  have hf_lw : f23 lw = .inl (cy 1, 25, .inl g2_12) := (hfm lw hm_lw (z_tne hf_lw hf_dr (m := 300) (n := 4260) rfl rfl (by decide))).trans hf_lw
  have hf_st : f23 st = .inl (cy 1, 20, .inl g2_16) := (hfm st hm_st (z_tne hf_st hf_dr (m := 260) (n := 4260) rfl rfl (by decide))).trans hf_st
  have hf_fo : f23 fo = .inl (cy 1, 180, .inl g2_20) := (hfm fo hm_fo (z_tne hf_fo hf_dr (m := 1540) (n := 4260) rfl rfl (by decide))).trans hf_fo
  have hf_dr : f23 dr = .inl (cy 1, 520, .inl g2_24) := ha_0
  have hcp_dr := hp
  have hq_dr : ∀ j : Nat, q_drv j (g2_24 j) := z_cpr_drv hp (by omega) (by omega) hq_dr
  exact z_vret hx hb hr hlk (by decide) (by decide) hw (⟨hsub, hfr, g2_4, g2_8, g2_12, g2_16, g2_20, g2_24, hf_li, hf_ha, hf_lw, hf_st, hf_fo, hf_dr, hq_ha, hq_lw, hq_st, hq_dr, z_ea_cpr hea (by omega) (by omega) hcp_ha hcp_lw⟩) dX10_copyMoor_63
