set_option maxHeartbeats 2000000 in
set_option maxRecDepth 100000 in
theorem c_X10_takes (l : Launch) {D : va_G} {cy : Nat → ClassId} {L : List Nat} {f : Nat → va_E} {sz : Nat} {adK adV : Nat → Nat} {mm wd my ce mv ta li ha lw st fo dr ik ro ct se th cn be du db pn wg wh tn he tr fd po : Nat} {m0 m6 m7 m8 m9 m10 m12 m13 m14 m15 m22 m24 m25 m27 m28 m30 m36 m38 m40 m41 m42 m48 m52 m53 : Int32} {m11 m26 : Int64} {gta : Nat → Int32}  {ww : Int64} (hm_mm : mm ∈ L) (hm_ta : ta ∈ L) (hf_mm : f mm = .inr (10, [.int m0, .ref wd, .ref my, .ref ce, .ref mv, .ref ta, .int m6, .int m7, .int m8, .int m9, .int m10, .long m11, .int m12, .int m13, .int m14, .int m15, .ref li, .ref ha, .ref lw, .ref st, .ref fo, .ref dr, .int m22, .ref ik, .int m24, .int m25, .long m26, .int m27, .int m28, .ref ro, .int m30, .ref ct, .ref se, .ref th, .ref cn, .ref be, .int m36, .ref du, .int m38, .ref db, .int m40, .int m41, .int m42, .ref pn, .ref wg, .ref wh, .ref tn, .ref he, .int m48, .ref tr, .ref fd, .ref po, .int m52, .int m53])) (hf_ta : f ta = .inl (cy 0, 1600, .inl gta)) (htp : 0 ≤ m6.toInt ∧ m6.toInt ≤ 1600) (hat : 0 ≤ m7.toInt ∧ m7.toInt ≤ m6.toInt) : Met l yX10_takes (z_ws yX10_takes cX10_takes 3 (some .boolean)) (z_R 3 0 0) (va_Pc [.ref mm, .long ww] (z_Pre D vwCl (z_KK D cy adK adV) L f sz)) (z_Qi D vwCl (fun r u => L = u.1 ∧ (∀ b ∈ L, b ≠ mm → u.2 b = f b) ∧ (∃ (a2 k2 p2 v2 : Int32) (w2 : Int64), (u.2 mm = .inr (10, [.int m0, .ref wd, .ref my, .ref ce, .ref mv, .ref ta, .int m6, .int a2, .int k2, .int p2, .int v2, .long w2, .int m12, .int m13, .int m14, .int m15, .ref li, .ref ha, .ref lw, .ref st, .ref fo, .ref dr, .int m22, .ref ik, .int m24, .int m25, .long m26, .int m27, .int m28, .ref ro, .int m30, .ref ct, .ref se, .ref th, .ref cn, .ref be, .int m36, .ref du, .int m38, .ref db, .int m40, .int m41, .int m42, .ref pn, .ref wg, .ref wh, .ref tn, .ref he, .int m48, .ref tr, .ref fd, .ref po, .int m52, .int m53])) ∧ (((r = 1 ∧ m12.toInt = 0 ∧ (k2.toInt ≠ 3 ∨ m7.toInt < a2.toInt)) ∨ (r = 0 ∧ a2.toInt = m7.toInt ∧ k2.toInt = m8.toInt)) ∧ (0 ≤ a2.toInt ∧ a2.toInt ≤ m6.toInt) ∧ m7.toInt ≤ a2.toInt))) L sz) 0 0 (z_A L sz) := by
  refine z_met (cc := cX10_takes) (maxL := 3) (ret := (some .boolean)) (lv := [(0, .ref mm), (1, .long ww)]) (by decide) rfl (Nat.le_of_ble_eq_true rfl) rfl ?_
  intro p e s m below meth c ls hx hb hr hlk hml hown hnm hts hKK hA hw hl
  have hK := hKK.1.1
  have hown : s.vm.findClass RX10 = some m.cls := hown
  have hT : ∀ w ∈ lw_all, w.before ([.ref mm, .long ww] : List Value).toArray s = true := fun w h => hts w (z_cons w h)
  have hsub : L = L := rfl
  have hfr : ∀ b ∈ L, b ≠ mm → f b = f b := fun _ _ _ => rfl
  refine lv_aload_n hx hb dX10_takes_0 rfl (lv_at hl 0 rfl) ?_
  refine lv_lload_n hx hb dX10_takes_1 rfl (lv_at hl 1 rfl) ?_
  refine z_calliV (cells := 0) (slots := 0) (b := mm) (As := [.long ww]) (rest := []) (ci := 10) (q0 := (RX10, TX10, 54)) ⟨hx, hb, hml, hown, hT⟩ (c_X10_is l hm_mm hf_mm) (cwV 1 hT (z_goodV (fun _ h => h) kw_1407 kw_1409 kw_39 kw_96 kw_1410) rfl rfl rfl (by decide +kernel) ⟨by decide, by decide⟩) z_mv hKK hK hw hA hm_mm hf_mm rfl rfl rfl hl.1 rfl (Nat.le_of_ble_eq_true rfl) dX10_takes_2 ⟨by decide, by decide⟩ (fun r1 u H locs hp hw => ?_)
  obtain ⟨rfl, hp⟩ := hp
  have hw : z_H D vwCl (z_A L sz) s.heap L f H locs := hw
  rcases hp with ⟨rfl, h2⟩ | ⟨rfl, h2⟩
  · skip
    refine z_if_ne (tgt := 10) hx hb (show (1 : Int32).toInt = 1 by decide) dX10_takes_5 (by decide) (fun _ => ?_) (fun h => absurd h (by decide))
    refine lv_aload_n hx hb dX10_takes_10 rfl (lv_at hl 0 rfl) ?_
    refine z_callvV (cells := 0) (slots := 0) (b := mm) (As := []) (rest := []) (ci := 10) (q0 := (RX10, TX10, 54)) ⟨hx, hb, hml, hown, hT⟩ (c_X10_next l hm_mm hm_ta hf_mm hf_ta (by first | omega | decide | assumption) (by first | omega | decide | assumption)) (cwV 0 hT (z_goodV (fun _ h => h) kw_1381 kw_1383 kw_34 kw_96 kw_1384) rfl rfl rfl (by decide +kernel) ⟨by decide, by decide⟩) z_mv hKK hK hw hA hm_mm hf_mm rfl rfl rfl hl.1 rfl (Nat.le_of_ble_eq_true rfl) dX10_takes_11 ⟨by decide, by decide⟩ (fun u H locs hp hw => ?_)
    obtain ⟨L3, f4⟩ := u
    obtain ⟨hsb, hfm, a2_5, k2_6, p2_7, v2_8, w2_9, ha_0, hp⟩ := hp
    have hsb : L = L3 := hsb
    subst hsb
    have hsb : ∀ b ∈ L, b ∈ L := fun _ h => h
    have hw : z_H D vwCl (z_A L sz) s.heap L f4 H locs := hw
    have hfr : ∀ b ∈ L, b ≠ mm → f4 b = f b := fun b hb h0 => (hfm b hb h0).trans (hfr b hb h0)
    have hf_ta : f4 ta = .inl (cy 0, 1600, .inl gta) := (hfm ta hm_ta (z_tne hf_ta hf_mm (m := 12900) (n := 10) rfl rfl (by decide))).trans hf_ta
    have hf_mm : f4 mm = .inr (10, [.int m0, .ref wd, .ref my, .ref ce, .ref mv, .ref ta, .int m6, .int a2_5, .int k2_6, .int p2_7, .int v2_8, .long w2_9, .int m12, .int m13, .int m14, .int m15, .ref li, .ref ha, .ref lw, .ref st, .ref fo, .ref dr, .int m22, .ref ik, .int m24, .int m25, .long m26, .int m27, .int m28, .ref ro, .int m30, .ref ct, .ref se, .ref th, .ref cn, .ref be, .int m36, .ref du, .int m38, .ref db, .int m40, .int m41, .int m42, .ref pn, .ref wg, .ref wh, .ref tn, .ref he, .int m48, .ref tr, .ref fd, .ref po, .int m52, .int m53]) := ha_0
    refine lv_iconst (v := 1) hx hb dX10_takes_14 (by decide) ?_
    exact z_zret hx hb hr rfl hlk (by decide) (by decide) hw (⟨hsub, hfr, a2_5, k2_6, p2_7, v2_8, w2_9, hf_mm, Or.inl ⟨rfl, by omega, by omega⟩, by omega, by omega⟩) dX10_takes_15
  · skip
    refine z_if_ne (tgt := 10) hx hb (show (0 : Int32).toInt = 0 by decide) dX10_takes_5 (by decide) (fun h => absurd h (by decide)) (fun _ => ?_)
    refine lv_iconst (v := 0) hx hb dX10_takes_8 (by decide) ?_
    exact z_zret hx hb hr rfl hlk (by decide) (by decide) hw (⟨hsub, hfr, m7, m8, m9, m10, m11, hf_mm, Or.inr ⟨rfl, by omega, by omega⟩, by omega, by omega⟩) dX10_takes_9

set_option maxHeartbeats 2000000 in
set_option maxRecDepth 100000 in
theorem c_X10_asks (l : Launch) {D : va_G} {cy : Nat → ClassId} {L : List Nat} {f : Nat → va_E} {sz : Nat} {adK adV : Nat → Nat} {mm wd my ce mv ta li ha lw st fo dr ik ro ct se th cn be du db pn wg wh tn he tr fd po : Nat} {m0 m6 m7 m8 m9 m10 m12 m13 m14 m15 m22 m24 m25 m27 m28 m30 m36 m38 m40 m41 m42 m48 m52 m53 : Int32} {m11 m26 : Int64} {gta : Nat → Int32}  {ww : Int64} (hm_mm : mm ∈ L) (hm_ta : ta ∈ L) (hf_mm : f mm = .inr (10, [.int m0, .ref wd, .ref my, .ref ce, .ref mv, .ref ta, .int m6, .int m7, .int m8, .int m9, .int m10, .long m11, .int m12, .int m13, .int m14, .int m15, .ref li, .ref ha, .ref lw, .ref st, .ref fo, .ref dr, .int m22, .ref ik, .int m24, .int m25, .long m26, .int m27, .int m28, .ref ro, .int m30, .ref ct, .ref se, .ref th, .ref cn, .ref be, .int m36, .ref du, .int m38, .ref db, .int m40, .int m41, .int m42, .ref pn, .ref wg, .ref wh, .ref tn, .ref he, .int m48, .ref tr, .ref fd, .ref po, .int m52, .int m53])) (hf_ta : f ta = .inl (cy 0, 1600, .inl gta)) (htp : 0 ≤ m6.toInt ∧ m6.toInt ≤ 1600) (hat : 0 ≤ m7.toInt ∧ m7.toInt ≤ m6.toInt) : Met l yX10_asks (z_ws yX10_asks cX10_asks 3 none) (z_R 4 0 0) (va_Pc [.ref mm, .long ww] (z_Pre D vwCl (z_KK D cy adK adV) L f sz)) (z_Qv D vwCl (fun u => L = u.1 ∧ (∀ b ∈ L, b ≠ mm → u.2 b = f b) ∧ (∃ (a2 k2 p2 v2 b2 q2 : Int32) (w2 : Int64), (u.2 mm = .inr (10, [.int m0, .ref wd, .ref my, .ref ce, .ref mv, .ref ta, .int m6, .int a2, .int k2, .int p2, .int v2, .long w2, .int b2, .int q2, .int m14, .int m15, .ref li, .ref ha, .ref lw, .ref st, .ref fo, .ref dr, .int m22, .ref ik, .int m24, .int m25, .long m26, .int m27, .int m28, .ref ro, .int m30, .ref ct, .ref se, .ref th, .ref cn, .ref be, .int m36, .ref du, .int m38, .ref db, .int m40, .int m41, .int m42, .ref pn, .ref wg, .ref wh, .ref tn, .ref he, .int m48, .ref tr, .ref fd, .ref po, .int m52, .int m53])) ∧ ((0 ≤ a2.toInt ∧ a2.toInt ≤ m6.toInt) ∧ m7.toInt ≤ a2.toInt ∧ (b2.toInt ≠ 0 ∨ m12.toInt = 0) ∧ ((a2.toInt = m7.toInt ∧ k2.toInt = m8.toInt) ∨ k2.toInt ≠ 3 ∨ m7.toInt < a2.toInt) ∧ (b2.toInt ≠ 0 ∨ k2.toInt ≠ 3 ∨ m7.toInt < a2.toInt)))) L sz) 0 0 (z_A L sz) := by
  refine z_met (cc := cX10_asks) (maxL := 3) (ret := none) (lv := [(0, .ref mm), (1, .long ww)]) (by decide) rfl (Nat.le_of_ble_eq_true rfl) rfl ?_
  intro p e s m below meth c ls hx hb hr hlk hml hown hnm hts hKK hA hw hl
  have hK := hKK.1.1
  have hown : s.vm.findClass RX10 = some m.cls := hown
  have hT : ∀ w ∈ lw_all, w.before ([.ref mm, .long ww] : List Value).toArray s = true := fun w h => hts w (z_cons w h)
  have hsub : L = L := rfl
  have hfr : ∀ b ∈ L, b ≠ mm → f b = f b := fun _ _ _ => rfl
  refine lv_aload_n hx hb dX10_asks_0 rfl (lv_at hl 0 rfl) ?_
  refine lv_lload_n hx hb dX10_asks_1 rfl (lv_at hl 1 rfl) ?_
  refine z_calliV (cells := 0) (slots := 0) (b := mm) (As := [.long ww]) (rest := []) (ci := 10) (q0 := (RX10, TX10, 54)) ⟨hx, hb, hml, hown, hT⟩ (c_X10_takes l hm_mm hm_ta hf_mm hf_ta (by first | omega | decide | assumption) (by first | omega | decide | assumption)) (cwV 1 hT (z_goodV (fun _ h => h) kw_1403 kw_1405 kw_38 kw_96 kw_1406) rfl rfl rfl (by decide +kernel) ⟨by decide, by decide⟩) z_mv hKK hK hw hA hm_mm hf_mm rfl rfl rfl hl.1 rfl (Nat.le_of_ble_eq_true rfl) dX10_asks_2 ⟨by decide, by decide⟩ (fun r1 u H locs hp hw => ?_)
  obtain ⟨L2, f3⟩ := u
  obtain ⟨hsb, hfm, a2_4, k2_5, p2_6, v2_7, w2_8, ha_0, hp⟩ := hp
  have hsb : L = L2 := hsb
  subst hsb
  have hsb : ∀ b ∈ L, b ∈ L := fun _ h => h
  have hw : z_H D vwCl (z_A L sz) s.heap L f3 H locs := hw
  have hfr : ∀ b ∈ L, b ≠ mm → f3 b = f b := fun b hb h0 => (hfm b hb h0).trans (hfr b hb h0)
  have hf_ta : f3 ta = .inl (cy 0, 1600, .inl gta) := (hfm ta hm_ta (z_tne hf_ta hf_mm (m := 12900) (n := 10) rfl rfl (by decide))).trans hf_ta
  have hf_mm : f3 mm = .inr (10, [.int m0, .ref wd, .ref my, .ref ce, .ref mv, .ref ta, .int m6, .int a2_4, .int k2_5, .int p2_6, .int v2_7, .long w2_8, .int m12, .int m13, .int m14, .int m15, .ref li, .ref ha, .ref lw, .ref st, .ref fo, .ref dr, .int m22, .ref ik, .int m24, .int m25, .long m26, .int m27, .int m28, .ref ro, .int m30, .ref ct, .ref se, .ref th, .ref cn, .ref be, .int m36, .ref du, .int m38, .ref db, .int m40, .int m41, .int m42, .ref pn, .ref wg, .ref wh, .ref tn, .ref he, .int m48, .ref tr, .ref fd, .ref po, .int m52, .int m53]) := ha_0
  have hq9 := hp.2
  have hp := hp.1
  rcases hp with ⟨rfl, h10⟩ | ⟨rfl, h10⟩
  · skip
    refine z_if_ne (tgt := 13) hx hb (show (1 : Int32).toInt = 1 by decide) dX10_asks_5 (by decide) (fun _ => ?_) (fun h => absurd h (by decide))
    exact z_vret hx hb hr hlk (by decide) (by decide) hw (⟨hsub, hfr, a2_4, k2_5, p2_6, v2_7, m12, m13, w2_8, hf_mm, by omega, by omega, by omega, by omega, by omega⟩) dX10_asks_13
  · skip
    refine z_if_ne (tgt := 13) hx hb (show (0 : Int32).toInt = 0 by decide) dX10_asks_5 (by decide) (fun h => absurd h (by decide)) (fun _ => ?_)
    refine lv_aload_n hx hb dX10_asks_8 rfl (lv_at hl 0 rfl) ?_
    refine lv_iconst (v := 1) hx hb dX10_asks_9 (by decide) ?_
    have hz11 := (show (1 : Int32).toInt = 1 by decide)
    refine z_callvV (cells := 0) (slots := 0) (b := mm) (As := [.int 1]) (rest := []) (ci := 10) (q0 := (RX10, TX10, 54)) ⟨hx, hb, hml, hown, hT⟩ (c_X10_fails l hm_mm hf_mm (by first | omega | decide | assumption)) (cwV 1 hT (z_goodV (fun _ h => h) kw_1411 kw_1413 kw_40 kw_96 kw_1414) rfl rfl rfl (by decide +kernel) ⟨by decide, by decide⟩) z_mv hKK hK hw hA hm_mm hf_mm rfl rfl rfl hl.1 rfl (Nat.le_of_ble_eq_true rfl) dX10_asks_10 ⟨by decide, by decide⟩ (fun u H locs hp hw => ?_)
    obtain ⟨L12, f13⟩ := u
    obtain ⟨hsb, hfm, b2_14, p2_15, ha_0, hp⟩ := hp
    have hsb : L = L12 := hsb
    subst hsb
    have hsb : ∀ b ∈ L, b ∈ L := fun _ h => h
    have hw : z_H D vwCl (z_A L sz) s.heap L f13 H locs := hw
    have hfr : ∀ b ∈ L, b ≠ mm → f13 b = f b := fun b hb h0 => (hfm b hb h0).trans (hfr b hb h0)
    have hf_ta : f13 ta = .inl (cy 0, 1600, .inl gta) := (hfm ta hm_ta (z_tne hf_ta hf_mm (m := 12900) (n := 10) rfl rfl (by decide))).trans hf_ta
    have hf_mm : f13 mm = .inr (10, [.int m0, .ref wd, .ref my, .ref ce, .ref mv, .ref ta, .int m6, .int a2_4, .int k2_5, .int p2_6, .int v2_7, .long w2_8, .int b2_14, .int p2_15, .int m14, .int m15, .ref li, .ref ha, .ref lw, .ref st, .ref fo, .ref dr, .int m22, .ref ik, .int m24, .int m25, .long m26, .int m27, .int m28, .ref ro, .int m30, .ref ct, .ref se, .ref th, .ref cn, .ref be, .int m36, .ref du, .int m38, .ref db, .int m40, .int m41, .int m42, .ref pn, .ref wg, .ref wh, .ref tn, .ref he, .int m48, .ref tr, .ref fd, .ref po, .int m52, .int m53]) := ha_0
    have hq16 := hp
    exact z_vret hx hb hr hlk (by decide) (by decide) hw (⟨hsub, hfr, a2_4, k2_5, p2_6, v2_7, b2_14, p2_15, w2_8, hf_mm, by omega, by omega, by omega, by omega, by omega⟩) dX10_asks_13

set_option maxHeartbeats 2000000 in
set_option maxRecDepth 100000 in
theorem c_X10_number (l : Launch) {D : va_G} {cy : Nat → ClassId} {L : List Nat} {f : Nat → va_E} {sz : Nat} {adK adV : Nat → Nat} {mm wd my ce mv ta li ha lw st fo dr ik ro ct se th cn be du db pn wg wh tn he tr fd po : Nat} {m0 m6 m7 m8 m9 m10 m12 m13 m14 m15 m22 m24 m25 m27 m28 m30 m36 m38 m40 m41 m42 m48 m52 m53 : Int32} {m11 m26 : Int64} {gta : Nat → Int32}  {lo hi : Int32} (hm_mm : mm ∈ L) (hm_ta : ta ∈ L) (hf_mm : f mm = .inr (10, [.int m0, .ref wd, .ref my, .ref ce, .ref mv, .ref ta, .int m6, .int m7, .int m8, .int m9, .int m10, .long m11, .int m12, .int m13, .int m14, .int m15, .ref li, .ref ha, .ref lw, .ref st, .ref fo, .ref dr, .int m22, .ref ik, .int m24, .int m25, .long m26, .int m27, .int m28, .ref ro, .int m30, .ref ct, .ref se, .ref th, .ref cn, .ref be, .int m36, .ref du, .int m38, .ref db, .int m40, .int m41, .int m42, .ref pn, .ref wg, .ref wh, .ref tn, .ref he, .int m48, .ref tr, .ref fd, .ref po, .int m52, .int m53])) (hf_ta : f ta = .inl (cy 0, 1600, .inl gta)) (htp : 0 ≤ m6.toInt ∧ m6.toInt ≤ 1600) (hat : 0 ≤ m7.toInt ∧ m7.toInt ≤ m6.toInt) : Met l yX10_number (z_ws yX10_number cX10_number 4 (some .int)) (z_R 3 0 0) (va_Pc [.ref mm, .int lo, .int hi] (z_Pre D vwCl (z_KK D cy adK adV) L f sz)) (z_Qi D vwCl (fun r u => L = u.1 ∧ (∀ b ∈ L, b ≠ mm → u.2 b = f b) ∧ (∃ (a2 k2 p2 v2 b2 q2 : Int32) (w2 : Int64), (u.2 mm = .inr (10, [.int m0, .ref wd, .ref my, .ref ce, .ref mv, .ref ta, .int m6, .int a2, .int k2, .int p2, .int v2, .long w2, .int b2, .int q2, .int m14, .int m15, .ref li, .ref ha, .ref lw, .ref st, .ref fo, .ref dr, .int m22, .ref ik, .int m24, .int m25, .long m26, .int m27, .int m28, .ref ro, .int m30, .ref ct, .ref se, .ref th, .ref cn, .ref be, .int m36, .ref du, .int m38, .ref db, .int m40, .int m41, .int m42, .ref pn, .ref wg, .ref wh, .ref tn, .ref he, .int m48, .ref tr, .ref fd, .ref po, .int m52, .int m53])) ∧ ((0 ≤ a2.toInt ∧ a2.toInt ≤ m6.toInt) ∧ m7.toInt ≤ a2.toInt ∧ (b2.toInt ≠ 0 ∨ m12.toInt = 0) ∧ ((a2.toInt = m7.toInt ∧ k2.toInt = m8.toInt) ∨ k2.toInt ≠ 3 ∨ m7.toInt < a2.toInt) ∧ (b2.toInt ≠ 0 ∨ k2.toInt ≠ 3 ∨ m7.toInt < a2.toInt) ∧ (r.toInt = lo.toInt ∨ (lo.toInt ≤ r.toInt ∧ r.toInt ≤ hi.toInt))))) L sz) 0 0 (z_A L sz) := by
  refine z_met (cc := cX10_number) (maxL := 4) (ret := (some .int)) (lv := [(0, .ref mm), (1, .int lo), (2, .int hi)]) (by decide) rfl (Nat.le_of_ble_eq_true rfl) rfl ?_
  intro p e s m below meth c ls hx hb hr hlk hml hown hnm hts hKK hA hw hl
  have hK := hKK.1.1
  have hown : s.vm.findClass RX10 = some m.cls := hown
  have hT : ∀ w ∈ lw_all, w.before ([.ref mm, .int lo, .int hi] : List Value).toArray s = true := fun w h => hts w (z_cons w h)
  have hsub : L = L := rfl
  have hfr : ∀ b ∈ L, b ≠ mm → f b = f b := fun _ _ _ => rfl
  refine lv_aload_n hx hb dX10_number_0 rfl (lv_at hl 0 rfl) ?_
  refine z_get (C := RX10) (T := TX10) (N := 54) (ci := 10) (v := .int m12) hx hb hT zin_X10 hown hK hw hm_mm hf_mm rfl 12 (by decide) (hT _ kw_1180) rfl dX10_number_1 ?_
  refine z_if_eq (tgt := 9) hx hb rfl dX10_number_4 (by decide) (fun c1 => ?_) (fun c1 => ?_)
  · skip
    refine lv_aload_n hx hb dX10_number_9 rfl (lv_at hl 0 rfl) ?_
    refine z_get (C := RX10) (T := TX10) (N := 54) (ci := 10) (v := .int m8) hx hb hT zin_X10 hown hK hw hm_mm hf_mm rfl 8 (by decide) (hT _ kw_1176) rfl dX10_number_10 ?_
    refine lv_iconst (v := 2) hx hb dX10_number_13 (by decide) ?_
    refine z_icmp_eq (tgt := 24) hx hb rfl (show (2 : Int32).toInt = 2 by decide) dX10_number_14 (by decide) (fun c2 => ?_) (fun c2 => ?_)
    · skip
      refine lv_aload_n hx hb dX10_number_24 rfl (lv_at hl 0 rfl) ?_
      refine z_get (C := RX10) (T := TX10) (N := 54) (ci := 10) (v := .int m10) hx hb hT zin_X10 hown hK hw hm_mm hf_mm rfl 10 (by decide) (hT _ kw_1178) rfl dX10_number_25 ?_
      refine lv_i2l hx hb dX10_number_28 rfl ?_
      refine lv_topl (fun w3 e_w3 => ?_)
      have i_w3 : w3.toInt = m10.toInt := z_i2l e_w3 rfl
      refine lv_iload_n hx hb dX10_number_29 rfl (lv_at hl 1 rfl) ?_
      refine lv_i2l hx hb dX10_number_30 rfl ?_
      refine lv_topl (fun w4 e_w4 => ?_)
      have i_w4 : w4.toInt = lo.toInt := z_i2l e_w4 rfl
      refine lv_iload_n hx hb dX10_number_31 rfl (lv_at hl 2 rfl) ?_
      refine lv_i2l hx hb dX10_number_32 rfl ?_
      refine lv_topl (fun w5 e_w5 => ?_)
      have i_w5 : w5.toInt = hi.toInt := z_i2l e_w5 rfl
      refine z_calliS (cells := 0) (slots := 0) (As := [.long w3, .long w4, .long w5]) (rest := []) ⟨hx, hb, hml, hown, hT⟩ (c_X10_in l ) (va_cwS 3 hT (z_goodS (fun _ h => h) kw_1339 kw_1340 kw_96 kw_1341) rfl rfl rfl (by decide +kernel) ⟨by decide, by decide⟩) z_mv hKK hw hA rfl hl.1 rfl (Nat.le_of_ble_eq_true rfl) dX10_number_33 ⟨by decide, by decide⟩ (fun r6 u H locs hp hw => ?_)
      obtain ⟨rfl, hp⟩ := hp
      have hw : z_H D vwCl (z_A L sz) s.heap L f H locs := hw
      rcases hp with ⟨rfl, h7⟩ | ⟨rfl, h7⟩
      · skip
        refine z_if_ne (tgt := 46) hx hb (show (1 : Int32).toInt = 1 by decide) dX10_number_36 (by decide) (fun _ => ?_) (fun h => absurd h (by decide))
        refine lv_aload_n hx hb dX10_number_46 rfl (lv_at hl 0 rfl) ?_
        refine z_get (C := RX10) (T := TX10) (N := 54) (ci := 10) (v := .int m10) hx hb hT zin_X10 hown hK hw hm_mm hf_mm rfl 10 (by decide) (hT _ kw_1178) rfl dX10_number_47 ?_
        refine lv_istore_n (lv' := [(3, .int m10), (0, .ref mm), (1, .int lo), (2, .int hi)]) hx hb dX10_number_50 rfl hl (by decide) rfl (fun ls hl => ?_)
        refine lv_aload_n hx hb dX10_number_51 rfl (lv_at hl 1 rfl) ?_
        refine z_callvV (cells := 0) (slots := 0) (b := mm) (As := []) (rest := []) (ci := 10) (q0 := (RX10, TX10, 54)) ⟨hx, hb, hml, hown, hT⟩ (c_X10_next l hm_mm hm_ta hf_mm hf_ta (by first | omega | decide | assumption) (by first | omega | decide | assumption)) (cwV 0 hT (z_goodV (fun _ h => h) kw_1381 kw_1383 kw_34 kw_96 kw_1384) rfl rfl rfl (by decide +kernel) ⟨by decide, by decide⟩) z_mv hKK hK hw hA hm_mm hf_mm rfl rfl rfl hl.1 rfl (Nat.le_of_ble_eq_true rfl) dX10_number_52 ⟨by decide, by decide⟩ (fun u H locs hp hw => ?_)
        obtain ⟨L8, f9⟩ := u
        obtain ⟨hsb, hfm, a2_10, k2_11, p2_12, v2_13, w2_14, ha_0, hp⟩ := hp
        have hsb : L = L8 := hsb
        subst hsb
        have hsb : ∀ b ∈ L, b ∈ L := fun _ h => h
        have hw : z_H D vwCl (z_A L sz) s.heap L f9 H locs := hw
        have hfr : ∀ b ∈ L, b ≠ mm → f9 b = f b := fun b hb h0 => (hfm b hb h0).trans (hfr b hb h0)
        have hf_ta : f9 ta = .inl (cy 0, 1600, .inl gta) := (hfm ta hm_ta (z_tne hf_ta hf_mm (m := 12900) (n := 10) rfl rfl (by decide))).trans hf_ta
        have hf_mm : f9 mm = .inr (10, [.int m0, .ref wd, .ref my, .ref ce, .ref mv, .ref ta, .int m6, .int a2_10, .int k2_11, .int p2_12, .int v2_13, .long w2_14, .int m12, .int m13, .int m14, .int m15, .ref li, .ref ha, .ref lw, .ref st, .ref fo, .ref dr, .int m22, .ref ik, .int m24, .int m25, .long m26, .int m27, .int m28, .ref ro, .int m30, .ref ct, .ref se, .ref th, .ref cn, .ref be, .int m36, .ref du, .int m38, .ref db, .int m40, .int m41, .int m42, .ref pn, .ref wg, .ref wh, .ref tn, .ref he, .int m48, .ref tr, .ref fd, .ref po, .int m52, .int m53]) := ha_0
        have hq15 := hp
        refine lv_iload_n hx hb dX10_number_55 rfl (lv_at hl 0 rfl) ?_
        exact z_iret hx hb hr hlk (by decide) (by decide) hw (⟨hsub, hfr, a2_10, k2_11, p2_12, v2_13, m12, m13, w2_14, hf_mm, by omega, by omega, by omega, by omega, by omega, by omega⟩) dX10_number_56
      · skip
        refine z_if_ne (tgt := 46) hx hb (show (0 : Int32).toInt = 0 by decide) dX10_number_36 (by decide) (fun h => absurd h (by decide)) (fun _ => ?_)
        refine lv_aload_n hx hb dX10_number_39 rfl (lv_at hl 0 rfl) ?_
        refine lv_iconst (v := 2) hx hb dX10_number_40 (by decide) ?_
        have hz16 := (show (2 : Int32).toInt = 2 by decide)
        refine z_callvV (cells := 0) (slots := 0) (b := mm) (As := [.int 2]) (rest := []) (ci := 10) (q0 := (RX10, TX10, 54)) ⟨hx, hb, hml, hown, hT⟩ (c_X10_fails l hm_mm hf_mm (by first | omega | decide | assumption)) (cwV 1 hT (z_goodV (fun _ h => h) kw_1411 kw_1413 kw_40 kw_96 kw_1414) rfl rfl rfl (by decide +kernel) ⟨by decide, by decide⟩) z_mv hKK hK hw hA hm_mm hf_mm rfl rfl rfl hl.1 rfl (Nat.le_of_ble_eq_true rfl) dX10_number_41 ⟨by decide, by decide⟩ (fun u H locs hp hw => ?_)
        obtain ⟨L17, f18⟩ := u
        obtain ⟨hsb, hfm, b2_19, p2_20, ha_0, hp⟩ := hp
        have hsb : L = L17 := hsb
        subst hsb
        have hsb : ∀ b ∈ L, b ∈ L := fun _ h => h
        have hw : z_H D vwCl (z_A L sz) s.heap L f18 H locs := hw
        have hfr : ∀ b ∈ L, b ≠ mm → f18 b = f b := fun b hb h0 => (hfm b hb h0).trans (hfr b hb h0)
        have hf_ta : f18 ta = .inl (cy 0, 1600, .inl gta) := (hfm ta hm_ta (z_tne hf_ta hf_mm (m := 12900) (n := 10) rfl rfl (by decide))).trans hf_ta
        have hf_mm : f18 mm = .inr (10, [.int m0, .ref wd, .ref my, .ref ce, .ref mv, .ref ta, .int m6, .int m7, .int m8, .int m9, .int m10, .long m11, .int b2_19, .int p2_20, .int m14, .int m15, .ref li, .ref ha, .ref lw, .ref st, .ref fo, .ref dr, .int m22, .ref ik, .int m24, .int m25, .long m26, .int m27, .int m28, .ref ro, .int m30, .ref ct, .ref se, .ref th, .ref cn, .ref be, .int m36, .ref du, .int m38, .ref db, .int m40, .int m41, .int m42, .ref pn, .ref wg, .ref wh, .ref tn, .ref he, .int m48, .ref tr, .ref fd, .ref po, .int m52, .int m53]) := ha_0
        have hq21 := hp
        refine lv_iload_n hx hb dX10_number_44 rfl (lv_at hl 1 rfl) ?_
        exact z_iret hx hb hr hlk (by decide) (by decide) hw (⟨hsub, hfr, m7, m8, m9, m10, b2_19, p2_20, m11, hf_mm, by omega, by omega, by omega, by omega, by omega, by omega⟩) dX10_number_45
    · skip
      refine lv_aload_n hx hb dX10_number_17 rfl (lv_at hl 0 rfl) ?_
      refine lv_iconst (v := 1) hx hb dX10_number_18 (by decide) ?_
      have hz22 := (show (1 : Int32).toInt = 1 by decide)
      refine z_callvV (cells := 0) (slots := 0) (b := mm) (As := [.int 1]) (rest := []) (ci := 10) (q0 := (RX10, TX10, 54)) ⟨hx, hb, hml, hown, hT⟩ (c_X10_fails l hm_mm hf_mm (by first | omega | decide | assumption)) (cwV 1 hT (z_goodV (fun _ h => h) kw_1411 kw_1413 kw_40 kw_96 kw_1414) rfl rfl rfl (by decide +kernel) ⟨by decide, by decide⟩) z_mv hKK hK hw hA hm_mm hf_mm rfl rfl rfl hl.1 rfl (Nat.le_of_ble_eq_true rfl) dX10_number_19 ⟨by decide, by decide⟩ (fun u H locs hp hw => ?_)
      obtain ⟨L23, f24⟩ := u
      obtain ⟨hsb, hfm, b2_25, p2_26, ha_0, hp⟩ := hp
      have hsb : L = L23 := hsb
      subst hsb
      have hsb : ∀ b ∈ L, b ∈ L := fun _ h => h
      have hw : z_H D vwCl (z_A L sz) s.heap L f24 H locs := hw
      have hfr : ∀ b ∈ L, b ≠ mm → f24 b = f b := fun b hb h0 => (hfm b hb h0).trans (hfr b hb h0)
      have hf_ta : f24 ta = .inl (cy 0, 1600, .inl gta) := (hfm ta hm_ta (z_tne hf_ta hf_mm (m := 12900) (n := 10) rfl rfl (by decide))).trans hf_ta
      have hf_mm : f24 mm = .inr (10, [.int m0, .ref wd, .ref my, .ref ce, .ref mv, .ref ta, .int m6, .int m7, .int m8, .int m9, .int m10, .long m11, .int b2_25, .int p2_26, .int m14, .int m15, .ref li, .ref ha, .ref lw, .ref st, .ref fo, .ref dr, .int m22, .ref ik, .int m24, .int m25, .long m26, .int m27, .int m28, .ref ro, .int m30, .ref ct, .ref se, .ref th, .ref cn, .ref be, .int m36, .ref du, .int m38, .ref db, .int m40, .int m41, .int m42, .ref pn, .ref wg, .ref wh, .ref tn, .ref he, .int m48, .ref tr, .ref fd, .ref po, .int m52, .int m53]) := ha_0
      have hq27 := hp
      refine lv_iload_n hx hb dX10_number_22 rfl (lv_at hl 1 rfl) ?_
      exact z_iret hx hb hr hlk (by decide) (by decide) hw (⟨hsub, hfr, m7, m8, m9, m10, b2_25, p2_26, m11, hf_mm, by omega, by omega, by omega, by omega, by omega, by omega⟩) dX10_number_23
  · skip
    refine lv_iload_n hx hb dX10_number_7 rfl (lv_at hl 1 rfl) ?_
    exact z_iret hx hb hr hlk (by decide) (by decide) hw (⟨hsub, hfr, m7, m8, m9, m10, m12, m13, m11, hf_mm, by omega, by omega, by omega, by omega, by omega, by omega⟩) dX10_number_8

set_option maxHeartbeats 2000000 in
set_option maxRecDepth 100000 in
theorem c_X10_number_ (l : Launch) {D : va_G} {cy : Nat → ClassId} {L : List Nat} {f : Nat → va_E} {sz : Nat} {adK adV : Nat → Nat} {mm wd my ce mv ta li ha lw st fo dr ik ro ct se th cn be du db pn wg wh tn he tr fd po : Nat} {m0 m6 m7 m8 m9 m10 m12 m13 m14 m15 m22 m24 m25 m27 m28 m30 m36 m38 m40 m41 m42 m48 m52 m53 : Int32} {m11 m26 : Int64} {gta : Nat → Int32}  {lo hi : Int32} {ww : Int64} (hm_mm : mm ∈ L) (hm_ta : ta ∈ L) (hf_mm : f mm = .inr (10, [.int m0, .ref wd, .ref my, .ref ce, .ref mv, .ref ta, .int m6, .int m7, .int m8, .int m9, .int m10, .long m11, .int m12, .int m13, .int m14, .int m15, .ref li, .ref ha, .ref lw, .ref st, .ref fo, .ref dr, .int m22, .ref ik, .int m24, .int m25, .long m26, .int m27, .int m28, .ref ro, .int m30, .ref ct, .ref se, .ref th, .ref cn, .ref be, .int m36, .ref du, .int m38, .ref db, .int m40, .int m41, .int m42, .ref pn, .ref wg, .ref wh, .ref tn, .ref he, .int m48, .ref tr, .ref fd, .ref po, .int m52, .int m53])) (hf_ta : f ta = .inl (cy 0, 1600, .inl gta)) (htp : 0 ≤ m6.toInt ∧ m6.toInt ≤ 1600) (hat : 0 ≤ m7.toInt ∧ m7.toInt ≤ m6.toInt) : Met l yX10_number_ (z_ws yX10_number_ cX10_number_ 5 (some .int)) (z_R 5 0 0) (va_Pc [.ref mm, .long ww, .int lo, .int hi] (z_Pre D vwCl (z_KK D cy adK adV) L f sz)) (z_Qi D vwCl (fun r u => L = u.1 ∧ (∀ b ∈ L, b ≠ mm → u.2 b = f b) ∧ (∃ (a2 k2 p2 v2 b2 q2 : Int32) (w2 : Int64), (u.2 mm = .inr (10, [.int m0, .ref wd, .ref my, .ref ce, .ref mv, .ref ta, .int m6, .int a2, .int k2, .int p2, .int v2, .long w2, .int b2, .int q2, .int m14, .int m15, .ref li, .ref ha, .ref lw, .ref st, .ref fo, .ref dr, .int m22, .ref ik, .int m24, .int m25, .long m26, .int m27, .int m28, .ref ro, .int m30, .ref ct, .ref se, .ref th, .ref cn, .ref be, .int m36, .ref du, .int m38, .ref db, .int m40, .int m41, .int m42, .ref pn, .ref wg, .ref wh, .ref tn, .ref he, .int m48, .ref tr, .ref fd, .ref po, .int m52, .int m53])) ∧ ((0 ≤ a2.toInt ∧ a2.toInt ≤ m6.toInt) ∧ m7.toInt ≤ a2.toInt ∧ (b2.toInt ≠ 0 ∨ m12.toInt = 0) ∧ ((a2.toInt = m7.toInt ∧ k2.toInt = m8.toInt) ∨ k2.toInt ≠ 3 ∨ m7.toInt < a2.toInt) ∧ (b2.toInt ≠ 0 ∨ k2.toInt ≠ 3 ∨ m7.toInt < a2.toInt) ∧ (r.toInt = lo.toInt ∨ (lo.toInt ≤ r.toInt ∧ r.toInt ≤ hi.toInt))))) L sz) 0 0 (z_A L sz) := by
  refine z_met (cc := cX10_number_) (maxL := 5) (ret := (some .int)) (lv := [(0, .ref mm), (1, .long ww), (3, .int lo), (4, .int hi)]) (by decide) rfl (Nat.le_of_ble_eq_true rfl) rfl ?_
  intro p e s m below meth c ls hx hb hr hlk hml hown hnm hts hKK hA hw hl
  have hK := hKK.1.1
  have hown : s.vm.findClass RX10 = some m.cls := hown
  have hT : ∀ w ∈ lw_all, w.before ([.ref mm, .long ww, .int lo, .int hi] : List Value).toArray s = true := fun w h => hts w (z_cons w h)
  have hsub : L = L := rfl
  have hfr : ∀ b ∈ L, b ≠ mm → f b = f b := fun _ _ _ => rfl
  refine lv_aload_n hx hb dX10_number__0 rfl (lv_at hl 0 rfl) ?_
  refine lv_lload_n hx hb dX10_number__1 rfl (lv_at hl 1 rfl) ?_
  refine z_callvV (cells := 0) (slots := 0) (b := mm) (As := [.long ww]) (rest := []) (ci := 10) (q0 := (RX10, TX10, 54)) ⟨hx, hb, hml, hown, hT⟩ (c_X10_asks l hm_mm hm_ta hf_mm hf_ta (by first | omega | decide | assumption) (by first | omega | decide | assumption)) (cwV 1 hT (z_goodV (fun _ h => h) kw_1399 kw_1401 kw_37 kw_96 kw_1402) rfl rfl rfl (by decide +kernel) ⟨by decide, by decide⟩) z_mv hKK hK hw hA hm_mm hf_mm rfl rfl rfl hl.1 rfl (Nat.le_of_ble_eq_true rfl) dX10_number__2 ⟨by decide, by decide⟩ (fun u H locs hp hw => ?_)
  obtain ⟨L1, f2⟩ := u
  obtain ⟨hsb, hfm, a2_3, k2_4, p2_5, v2_6, b2_7, q2_8, w2_9, ha_0, hp⟩ := hp
  have hsb : L = L1 := hsb
  subst hsb
  have hsb : ∀ b ∈ L, b ∈ L := fun _ h => h
  have hw : z_H D vwCl (z_A L sz) s.heap L f2 H locs := hw
  have hfr : ∀ b ∈ L, b ≠ mm → f2 b = f b := fun b hb h0 => (hfm b hb h0).trans (hfr b hb h0)
  have hf_ta : f2 ta = .inl (cy 0, 1600, .inl gta) := (hfm ta hm_ta (z_tne hf_ta hf_mm (m := 12900) (n := 10) rfl rfl (by decide))).trans hf_ta
  have hf_mm : f2 mm = .inr (10, [.int m0, .ref wd, .ref my, .ref ce, .ref mv, .ref ta, .int m6, .int a2_3, .int k2_4, .int p2_5, .int v2_6, .long w2_9, .int b2_7, .int q2_8, .int m14, .int m15, .ref li, .ref ha, .ref lw, .ref st, .ref fo, .ref dr, .int m22, .ref ik, .int m24, .int m25, .long m26, .int m27, .int m28, .ref ro, .int m30, .ref ct, .ref se, .ref th, .ref cn, .ref be, .int m36, .ref du, .int m38, .ref db, .int m40, .int m41, .int m42, .ref pn, .ref wg, .ref wh, .ref tn, .ref he, .int m48, .ref tr, .ref fd, .ref po, .int m52, .int m53]) := ha_0
  have hq10 := hp
  refine lv_aload_n hx hb dX10_number__5 rfl (lv_at hl 0 rfl) ?_
  refine lv_iload_n hx hb dX10_number__6 rfl (lv_at hl 2 rfl) ?_
  refine lv_iload hx hb dX10_number__7 (lv_at hl 3 rfl) ?_
  refine z_calliV (cells := 0) (slots := 0) (b := mm) (As := [.int lo, .int hi]) (rest := []) (ci := 10) (q0 := (RX10, TX10, 54)) ⟨hx, hb, hml, hown, hT⟩ (c_X10_number l hm_mm hm_ta hf_mm hf_ta (by first | omega | decide | assumption) (by first | omega | decide | assumption)) (cwV 2 hT (z_goodV (fun _ h => h) kw_1420 kw_1422 kw_42 kw_96 kw_1423) rfl rfl rfl (by decide +kernel) ⟨by decide, by decide⟩) z_mv hKK hK hw hA hm_mm hf_mm rfl rfl rfl hl.1 rfl (Nat.le_of_ble_eq_true rfl) dX10_number__9 ⟨by decide, by decide⟩ (fun r11 u H locs hp hw => ?_)
  obtain ⟨L12, f13⟩ := u
  obtain ⟨hsb, hfm, a2_14, k2_15, p2_16, v2_17, b2_18, q2_19, w2_20, ha_0, hp⟩ := hp
  have hsb : L = L12 := hsb
  subst hsb
  have hsb : ∀ b ∈ L, b ∈ L := fun _ h => h
  have hw : z_H D vwCl (z_A L sz) s.heap L f13 H locs := hw
  have hfr : ∀ b ∈ L, b ≠ mm → f13 b = f b := fun b hb h0 => (hfm b hb h0).trans (hfr b hb h0)
  have hf_ta : f13 ta = .inl (cy 0, 1600, .inl gta) := (hfm ta hm_ta (z_tne hf_ta hf_mm (m := 12900) (n := 10) rfl rfl (by decide))).trans hf_ta
  have hf_mm : f13 mm = .inr (10, [.int m0, .ref wd, .ref my, .ref ce, .ref mv, .ref ta, .int m6, .int a2_14, .int k2_15, .int p2_16, .int v2_17, .long w2_20, .int b2_18, .int q2_19, .int m14, .int m15, .ref li, .ref ha, .ref lw, .ref st, .ref fo, .ref dr, .int m22, .ref ik, .int m24, .int m25, .long m26, .int m27, .int m28, .ref ro, .int m30, .ref ct, .ref se, .ref th, .ref cn, .ref be, .int m36, .ref du, .int m38, .ref db, .int m40, .int m41, .int m42, .ref pn, .ref wg, .ref wh, .ref tn, .ref he, .int m48, .ref tr, .ref fd, .ref po, .int m52, .int m53]) := ha_0
  have hq21 := hp
  exact z_iret hx hb hr hlk (by decide) (by decide) hw (⟨hsub, hfr, a2_14, k2_15, p2_16, v2_17, b2_18, q2_19, w2_20, hf_mm, by omega, by omega, by omega, by omega, by omega, by omega⟩) dX10_number__12

set_option maxHeartbeats 2000000 in
set_option maxRecDepth 100000 in
theorem c_X10_ends (l : Launch) {D : va_G} {cy : Nat → ClassId} {L : List Nat} {f : Nat → va_E} {sz : Nat} {adK adV : Nat → Nat} {mm wd my ce mv ta li ha lw st fo dr ik ro ct se th cn be du db pn wg wh tn he tr fd po : Nat} {m0 m6 m7 m8 m9 m10 m12 m13 m14 m15 m22 m24 m25 m27 m28 m30 m36 m38 m40 m41 m42 m48 m52 m53 : Int32} {m11 m26 : Int64} {gta : Nat → Int32}  (hm_mm : mm ∈ L) (hm_ta : ta ∈ L) (hf_mm : f mm = .inr (10, [.int m0, .ref wd, .ref my, .ref ce, .ref mv, .ref ta, .int m6, .int m7, .int m8, .int m9, .int m10, .long m11, .int m12, .int m13, .int m14, .int m15, .ref li, .ref ha, .ref lw, .ref st, .ref fo, .ref dr, .int m22, .ref ik, .int m24, .int m25, .long m26, .int m27, .int m28, .ref ro, .int m30, .ref ct, .ref se, .ref th, .ref cn, .ref be, .int m36, .ref du, .int m38, .ref db, .int m40, .int m41, .int m42, .ref pn, .ref wg, .ref wh, .ref tn, .ref he, .int m48, .ref tr, .ref fd, .ref po, .int m52, .int m53])) (hf_ta : f ta = .inl (cy 0, 1600, .inl gta)) (htp : 0 ≤ m6.toInt ∧ m6.toInt ≤ 1600) (hat : 0 ≤ m7.toInt ∧ m7.toInt ≤ m6.toInt) : Met l yX10_ends (z_ws yX10_ends cX10_ends 1 none) (z_R 3 0 0) (va_Pc [.ref mm] (z_Pre D vwCl (z_KK D cy adK adV) L f sz)) (z_Qv D vwCl (fun u => L = u.1 ∧ (∀ b ∈ L, b ≠ mm → u.2 b = f b) ∧ (∃ (a2 k2 p2 v2 b2 q2 : Int32) (w2 : Int64), (u.2 mm = .inr (10, [.int m0, .ref wd, .ref my, .ref ce, .ref mv, .ref ta, .int m6, .int a2, .int k2, .int p2, .int v2, .long w2, .int b2, .int q2, .int m14, .int m15, .ref li, .ref ha, .ref lw, .ref st, .ref fo, .ref dr, .int m22, .ref ik, .int m24, .int m25, .long m26, .int m27, .int m28, .ref ro, .int m30, .ref ct, .ref se, .ref th, .ref cn, .ref be, .int m36, .ref du, .int m38, .ref db, .int m40, .int m41, .int m42, .ref pn, .ref wg, .ref wh, .ref tn, .ref he, .int m48, .ref tr, .ref fd, .ref po, .int m52, .int m53])) ∧ ((0 ≤ a2.toInt ∧ a2.toInt ≤ m6.toInt) ∧ m7.toInt ≤ a2.toInt ∧ (b2.toInt ≠ 0 ∨ m12.toInt = 0) ∧ (b2.toInt ≠ 0 ∨ m8.toInt = 3)))) L sz) 0 0 (z_A L sz) := by
  refine z_met (cc := cX10_ends) (maxL := 1) (ret := none) (lv := [(0, .ref mm)]) (by decide) rfl (Nat.le_of_ble_eq_true rfl) rfl ?_
  intro p e s m below meth c ls hx hb hr hlk hml hown hnm hts hKK hA hw hl
  have hK := hKK.1.1
  have hown : s.vm.findClass RX10 = some m.cls := hown
  have hT : ∀ w ∈ lw_all, w.before ([.ref mm] : List Value).toArray s = true := fun w h => hts w (z_cons w h)
  have hsub : L = L := rfl
  have hfr : ∀ b ∈ L, b ≠ mm → f b = f b := fun _ _ _ => rfl
  refine lv_aload_n hx hb dX10_ends_0 rfl (lv_at hl 0 rfl) ?_
  refine z_get (C := RX10) (T := TX10) (N := 54) (ci := 10) (v := .int m8) hx hb hT zin_X10 hown hK hw hm_mm hf_mm rfl 8 (by decide) (hT _ kw_1176) rfl dX10_ends_1 ?_
  refine lv_iconst (v := 3) hx hb dX10_ends_4 (by decide) ?_
  refine z_icmp_eq (tgt := 13) hx hb rfl (show (3 : Int32).toInt = 3 by decide) dX10_ends_5 (by decide) (fun c1 => ?_) (fun c1 => ?_)
  · skip
    refine lv_aload_n hx hb dX10_ends_13 rfl (lv_at hl 0 rfl) ?_
    refine z_get (C := RX10) (T := TX10) (N := 54) (ci := 10) (v := .int m12) hx hb hT zin_X10 hown hK hw hm_mm hf_mm rfl 12 (by decide) (hT _ kw_1180) rfl dX10_ends_14 ?_
    refine z_if_ne (tgt := 24) hx hb rfl dX10_ends_17 (by decide) (fun c2 => ?_) (fun c2 => ?_)
    · skip
      exact z_vret hx hb hr hlk (by decide) (by decide) hw (⟨hsub, hfr, m7, m8, m9, m10, m12, m13, m11, hf_mm, by omega, by omega, by omega, by omega⟩) dX10_ends_24
    · skip
      refine lv_aload_n hx hb dX10_ends_20 rfl (lv_at hl 0 rfl) ?_
      refine z_callvV (cells := 0) (slots := 0) (b := mm) (As := []) (rest := []) (ci := 10) (q0 := (RX10, TX10, 54)) ⟨hx, hb, hml, hown, hT⟩ (c_X10_next l hm_mm hm_ta hf_mm hf_ta (by first | omega | decide | assumption) (by first | omega | decide | assumption)) (cwV 0 hT (z_goodV (fun _ h => h) kw_1381 kw_1383 kw_34 kw_96 kw_1384) rfl rfl rfl (by decide +kernel) ⟨by decide, by decide⟩) z_mv hKK hK hw hA hm_mm hf_mm rfl rfl rfl hl.1 rfl (Nat.le_of_ble_eq_true rfl) dX10_ends_21 ⟨by decide, by decide⟩ (fun u H locs hp hw => ?_)
      obtain ⟨L3, f4⟩ := u
      obtain ⟨hsb, hfm, a2_5, k2_6, p2_7, v2_8, w2_9, ha_0, hp⟩ := hp
      have hsb : L = L3 := hsb
      subst hsb
      have hsb : ∀ b ∈ L, b ∈ L := fun _ h => h
      have hw : z_H D vwCl (z_A L sz) s.heap L f4 H locs := hw
      have hfr : ∀ b ∈ L, b ≠ mm → f4 b = f b := fun b hb h0 => (hfm b hb h0).trans (hfr b hb h0)
      have hf_ta : f4 ta = .inl (cy 0, 1600, .inl gta) := (hfm ta hm_ta (z_tne hf_ta hf_mm (m := 12900) (n := 10) rfl rfl (by decide))).trans hf_ta
      have hf_mm : f4 mm = .inr (10, [.int m0, .ref wd, .ref my, .ref ce, .ref mv, .ref ta, .int m6, .int a2_5, .int k2_6, .int p2_7, .int v2_8, .long w2_9, .int m12, .int m13, .int m14, .int m15, .ref li, .ref ha, .ref lw, .ref st, .ref fo, .ref dr, .int m22, .ref ik, .int m24, .int m25, .long m26, .int m27, .int m28, .ref ro, .int m30, .ref ct, .ref se, .ref th, .ref cn, .ref be, .int m36, .ref du, .int m38, .ref db, .int m40, .int m41, .int m42, .ref pn, .ref wg, .ref wh, .ref tn, .ref he, .int m48, .ref tr, .ref fd, .ref po, .int m52, .int m53]) := ha_0
      have hq10 := hp
      exact z_vret hx hb hr hlk (by decide) (by decide) hw (⟨hsub, hfr, a2_5, k2_6, p2_7, v2_8, m12, m13, w2_9, hf_mm, by omega, by omega, by omega, by omega⟩) dX10_ends_24
  · skip
    refine lv_aload_n hx hb dX10_ends_8 rfl (lv_at hl 0 rfl) ?_
    refine lv_iconst (v := 1) hx hb dX10_ends_9 (by decide) ?_
    have hz11 := (show (1 : Int32).toInt = 1 by decide)
    refine z_callvV (cells := 0) (slots := 0) (b := mm) (As := [.int 1]) (rest := []) (ci := 10) (q0 := (RX10, TX10, 54)) ⟨hx, hb, hml, hown, hT⟩ (c_X10_fails l hm_mm hf_mm (by first | omega | decide | assumption)) (cwV 1 hT (z_goodV (fun _ h => h) kw_1411 kw_1413 kw_40 kw_96 kw_1414) rfl rfl rfl (by decide +kernel) ⟨by decide, by decide⟩) z_mv hKK hK hw hA hm_mm hf_mm rfl rfl rfl hl.1 rfl (Nat.le_of_ble_eq_true rfl) dX10_ends_10 ⟨by decide, by decide⟩ (fun u H locs hp hw => ?_)
    obtain ⟨L12, f13⟩ := u
    obtain ⟨hsb, hfm, b2_14, p2_15, ha_0, hp⟩ := hp
    have hsb : L = L12 := hsb
    subst hsb
    have hsb : ∀ b ∈ L, b ∈ L := fun _ h => h
    have hw : z_H D vwCl (z_A L sz) s.heap L f13 H locs := hw
    have hfr : ∀ b ∈ L, b ≠ mm → f13 b = f b := fun b hb h0 => (hfm b hb h0).trans (hfr b hb h0)
    have hf_ta : f13 ta = .inl (cy 0, 1600, .inl gta) := (hfm ta hm_ta (z_tne hf_ta hf_mm (m := 12900) (n := 10) rfl rfl (by decide))).trans hf_ta
    have hf_mm : f13 mm = .inr (10, [.int m0, .ref wd, .ref my, .ref ce, .ref mv, .ref ta, .int m6, .int m7, .int m8, .int m9, .int m10, .long m11, .int b2_14, .int p2_15, .int m14, .int m15, .ref li, .ref ha, .ref lw, .ref st, .ref fo, .ref dr, .int m22, .ref ik, .int m24, .int m25, .long m26, .int m27, .int m28, .ref ro, .int m30, .ref ct, .ref se, .ref th, .ref cn, .ref be, .int m36, .ref du, .int m38, .ref db, .int m40, .int m41, .int m42, .ref pn, .ref wg, .ref wh, .ref tn, .ref he, .int m48, .ref tr, .ref fd, .ref po, .int m52, .int m53]) := ha_0
    have hq16 := hp
    refine lv_aload_n hx hb dX10_ends_13 rfl (lv_at hl 0 rfl) ?_
    refine z_get (C := RX10) (T := TX10) (N := 54) (ci := 10) (v := .int b2_14) hx hb hT zin_X10 hown hK hw hm_mm hf_mm rfl 12 (by decide) (hT _ kw_1180) rfl dX10_ends_14 ?_
    refine z_if_ne (tgt := 24) hx hb rfl dX10_ends_17 (by decide) (fun c17 => ?_) (fun c17 => ?_)
    · skip
      exact z_vret hx hb hr hlk (by decide) (by decide) hw (⟨hsub, hfr, m7, m8, m9, m10, b2_14, p2_15, m11, hf_mm, by omega, by omega, by omega, by omega⟩) dX10_ends_24
    · skip
      refine lv_aload_n hx hb dX10_ends_20 rfl (lv_at hl 0 rfl) ?_
      refine z_callvV (cells := 0) (slots := 0) (b := mm) (As := []) (rest := []) (ci := 10) (q0 := (RX10, TX10, 54)) ⟨hx, hb, hml, hown, hT⟩ (c_X10_next l hm_mm hm_ta hf_mm hf_ta (by first | omega | decide | assumption) (by first | omega | decide | assumption)) (cwV 0 hT (z_goodV (fun _ h => h) kw_1381 kw_1383 kw_34 kw_96 kw_1384) rfl rfl rfl (by decide +kernel) ⟨by decide, by decide⟩) z_mv hKK hK hw hA hm_mm hf_mm rfl rfl rfl hl.1 rfl (Nat.le_of_ble_eq_true rfl) dX10_ends_21 ⟨by decide, by decide⟩ (fun u H locs hp hw => ?_)
      obtain ⟨L18, f19⟩ := u
      obtain ⟨hsb, hfm, a2_20, k2_21, p2_22, v2_23, w2_24, ha_0, hp⟩ := hp
      have hsb : L = L18 := hsb
      subst hsb
      have hsb : ∀ b ∈ L, b ∈ L := fun _ h => h
      have hw : z_H D vwCl (z_A L sz) s.heap L f19 H locs := hw
      have hfr : ∀ b ∈ L, b ≠ mm → f19 b = f b := fun b hb h0 => (hfm b hb h0).trans (hfr b hb h0)
      have hf_ta : f19 ta = .inl (cy 0, 1600, .inl gta) := (hfm ta hm_ta (z_tne hf_ta hf_mm (m := 12900) (n := 10) rfl rfl (by decide))).trans hf_ta
      have hf_mm : f19 mm = .inr (10, [.int m0, .ref wd, .ref my, .ref ce, .ref mv, .ref ta, .int m6, .int a2_20, .int k2_21, .int p2_22, .int v2_23, .long w2_24, .int b2_14, .int p2_15, .int m14, .int m15, .ref li, .ref ha, .ref lw, .ref st, .ref fo, .ref dr, .int m22, .ref ik, .int m24, .int m25, .long m26, .int m27, .int m28, .ref ro, .int m30, .ref ct, .ref se, .ref th, .ref cn, .ref be, .int m36, .ref du, .int m38, .ref db, .int m40, .int m41, .int m42, .ref pn, .ref wg, .ref wh, .ref tn, .ref he, .int m48, .ref tr, .ref fd, .ref po, .int m52, .int m53]) := ha_0
      have hq25 := hp
      exact z_vret hx hb hr hlk (by decide) (by decide) hw (⟨hsub, hfr, a2_20, k2_21, p2_22, v2_23, b2_14, p2_15, w2_24, hf_mm, by omega, by omega, by omega, by omega⟩) dX10_ends_24

set_option maxHeartbeats 2000000 in
set_option maxRecDepth 100000 in
theorem c_X10_begins (l : Launch) {D : va_G} {cy : Nat → ClassId} {L : List Nat} {f : Nat → va_E} {sz : Nat} {adK adV : Nat → Nat} {mm wd my ce mv ta li ha lw st fo dr ik ro ct se th cn be du db pn wg wh tn he tr fd po : Nat} {m0 m6 m7 m8 m9 m10 m12 m13 m14 m15 m22 m24 m25 m27 m28 m30 m36 m38 m40 m41 m42 m48 m52 m53 : Int32} {m11 m26 : Int64} {gta : Nat → Int32}  (hm_mm : mm ∈ L) (hm_ta : ta ∈ L) (hf_mm : f mm = .inr (10, [.int m0, .ref wd, .ref my, .ref ce, .ref mv, .ref ta, .int m6, .int m7, .int m8, .int m9, .int m10, .long m11, .int m12, .int m13, .int m14, .int m15, .ref li, .ref ha, .ref lw, .ref st, .ref fo, .ref dr, .int m22, .ref ik, .int m24, .int m25, .long m26, .int m27, .int m28, .ref ro, .int m30, .ref ct, .ref se, .ref th, .ref cn, .ref be, .int m36, .ref du, .int m38, .ref db, .int m40, .int m41, .int m42, .ref pn, .ref wg, .ref wh, .ref tn, .ref he, .int m48, .ref tr, .ref fd, .ref po, .int m52, .int m53])) (hf_ta : f ta = .inl (cy 0, 1600, .inl gta)) (htp : 0 ≤ m6.toInt ∧ m6.toInt ≤ 1600) : Met l yX10_begins (z_ws yX10_begins cX10_begins 1 none) (z_R 3 0 0) (va_Pc [.ref mm] (z_Pre D vwCl (z_KK D cy adK adV) L f sz)) (z_Qv D vwCl (fun u => L = u.1 ∧ (∀ b ∈ L, b ≠ mm → u.2 b = f b) ∧ (∃ (a2 k2 p2 v2 : Int32) (w2 : Int64), (u.2 mm = .inr (10, [.int m0, .ref wd, .ref my, .ref ce, .ref mv, .ref ta, .int m6, .int a2, .int k2, .int p2, .int v2, .long w2, .int 0, .int (-1), .int m14, .int m15, .ref li, .ref ha, .ref lw, .ref st, .ref fo, .ref dr, .int m22, .ref ik, .int m24, .int m25, .long m26, .int m27, .int m28, .ref ro, .int m30, .ref ct, .ref se, .ref th, .ref cn, .ref be, .int m36, .ref du, .int m38, .ref db, .int m40, .int m41, .int m42, .ref pn, .ref wg, .ref wh, .ref tn, .ref he, .int m48, .ref tr, .ref fd, .ref po, .int m52, .int m53])) ∧ (0 ≤ a2.toInt ∧ a2.toInt ≤ m6.toInt))) L sz) 0 0 (z_A L sz) := by
  refine z_met (cc := cX10_begins) (maxL := 1) (ret := none) (lv := [(0, .ref mm)]) (by decide) rfl (Nat.le_of_ble_eq_true rfl) rfl ?_
  intro p e s m below meth c ls hx hb hr hlk hml hown hnm hts hKK hA hw hl
  have hK := hKK.1.1
  have hown : s.vm.findClass RX10 = some m.cls := hown
  have hT : ∀ w ∈ lw_all, w.before ([.ref mm] : List Value).toArray s = true := fun w h => hts w (z_cons w h)
  have hsub : L = L := rfl
  have hfr : ∀ b ∈ L, b ≠ mm → f b = f b := fun _ _ _ => rfl
  have hz_0 : (0 : Int32).toInt = 0 := by decide
  refine lv_aload_n hx hb dX10_begins_0 rfl (lv_at hl 0 rfl) ?_
  refine lv_iconst (v := 0) hx hb dX10_begins_1 (by decide) ?_
  refine z_put (C := RX10) (T := TX10) (N := 54) (ci := 10) (v := .int 0) (fs' := [.int m0, .ref wd, .ref my, .ref ce, .ref mv, .ref ta, .int m6, .int m7, .int m8, .int m9, .int m10, .long m11, .int 0, .int m13, .int m14, .int m15, .ref li, .ref ha, .ref lw, .ref st, .ref fo, .ref dr, .int m22, .ref ik, .int m24, .int m25, .long m26, .int m27, .int m28, .ref ro, .int m30, .ref ct, .ref se, .ref th, .ref cn, .ref be, .int m36, .ref du, .int m38, .ref db, .int m40, .int m41, .int m42, .ref pn, .ref wg, .ref wh, .ref tn, .ref he, .int m48, .ref tr, .ref fd, .ref po, .int m52, .int m53]) hx hb hT zin_X10 tyX10_ok nmX10 hown hK hw hm_mm hf_mm rfl 12 (by decide) (hT _ kw_1180) rfl rfl rfl (Nat.le_of_ble_eq_true rfl) rfl dX10_begins_2 (fun H locs hw => ?_)
  obtain ⟨f1, e_f1⟩ : ∃ z, z = va_up f mm (.inr (10, [.int m0, .ref wd, .ref my, .ref ce, .ref mv, .ref ta, .int m6, .int m7, .int m8, .int m9, .int m10, .long m11, .int 0, .int m13, .int m14, .int m15, .ref li, .ref ha, .ref lw, .ref st, .ref fo, .ref dr, .int m22, .ref ik, .int m24, .int m25, .long m26, .int m27, .int m28, .ref ro, .int m30, .ref ct, .ref se, .ref th, .ref cn, .ref be, .int m36, .ref du, .int m38, .ref db, .int m40, .int m41, .int m42, .ref pn, .ref wg, .ref wh, .ref tn, .ref he, .int m48, .ref tr, .ref fd, .ref po, .int m52, .int m53])) := ⟨_, rfl⟩
  rw [← e_f1] at hw
  have hf_ta : f1 ta = .inl (cy 0, 1600, .inl gta) := (congrFun e_f1 ta).trans (z_up_ne (z_tne hf_ta hf_mm (m := 12900) (n := 10) rfl rfl (by decide)) hf_ta)
  have hf_mm : f1 mm = .inr (10, [.int m0, .ref wd, .ref my, .ref ce, .ref mv, .ref ta, .int m6, .int m7, .int m8, .int m9, .int m10, .long m11, .int 0, .int m13, .int m14, .int m15, .ref li, .ref ha, .ref lw, .ref st, .ref fo, .ref dr, .int m22, .ref ik, .int m24, .int m25, .long m26, .int m27, .int m28, .ref ro, .int m30, .ref ct, .ref se, .ref th, .ref cn, .ref be, .int m36, .ref du, .int m38, .ref db, .int m40, .int m41, .int m42, .ref pn, .ref wg, .ref wh, .ref tn, .ref he, .int m48, .ref tr, .ref fd, .ref po, .int m52, .int m53]) := (congrFun e_f1 mm).trans z_up_self
  have hfr : ∀ b ∈ L, b ≠ mm → f1 b = f b := fun b hb h0 => (congrFun e_f1 b).trans (z_up_ne h0 (hfr b hb h0))
  refine lv_aload_n hx hb dX10_begins_5 rfl (lv_at hl 0 rfl) ?_
  refine lv_iconst (v := (-1)) hx hb dX10_begins_6 (by decide) ?_
  refine z_put (C := RX10) (T := TX10) (N := 54) (ci := 10) (v := .int (-1)) (fs' := [.int m0, .ref wd, .ref my, .ref ce, .ref mv, .ref ta, .int m6, .int m7, .int m8, .int m9, .int m10, .long m11, .int 0, .int (-1), .int m14, .int m15, .ref li, .ref ha, .ref lw, .ref st, .ref fo, .ref dr, .int m22, .ref ik, .int m24, .int m25, .long m26, .int m27, .int m28, .ref ro, .int m30, .ref ct, .ref se, .ref th, .ref cn, .ref be, .int m36, .ref du, .int m38, .ref db, .int m40, .int m41, .int m42, .ref pn, .ref wg, .ref wh, .ref tn, .ref he, .int m48, .ref tr, .ref fd, .ref po, .int m52, .int m53]) hx hb hT zin_X10 tyX10_ok nmX10 hown hK hw hm_mm hf_mm rfl 13 (by decide) (hT _ kw_1181) rfl rfl rfl (Nat.le_of_ble_eq_true rfl) rfl dX10_begins_7 (fun H locs hw => ?_)
  obtain ⟨f2, e_f2⟩ : ∃ z, z = va_up f1 mm (.inr (10, [.int m0, .ref wd, .ref my, .ref ce, .ref mv, .ref ta, .int m6, .int m7, .int m8, .int m9, .int m10, .long m11, .int 0, .int (-1), .int m14, .int m15, .ref li, .ref ha, .ref lw, .ref st, .ref fo, .ref dr, .int m22, .ref ik, .int m24, .int m25, .long m26, .int m27, .int m28, .ref ro, .int m30, .ref ct, .ref se, .ref th, .ref cn, .ref be, .int m36, .ref du, .int m38, .ref db, .int m40, .int m41, .int m42, .ref pn, .ref wg, .ref wh, .ref tn, .ref he, .int m48, .ref tr, .ref fd, .ref po, .int m52, .int m53])) := ⟨_, rfl⟩
  rw [← e_f2] at hw
  have hf_ta : f2 ta = .inl (cy 0, 1600, .inl gta) := (congrFun e_f2 ta).trans (z_up_ne (z_tne hf_ta hf_mm (m := 12900) (n := 10) rfl rfl (by decide)) hf_ta)
  have hf_mm : f2 mm = .inr (10, [.int m0, .ref wd, .ref my, .ref ce, .ref mv, .ref ta, .int m6, .int m7, .int m8, .int m9, .int m10, .long m11, .int 0, .int (-1), .int m14, .int m15, .ref li, .ref ha, .ref lw, .ref st, .ref fo, .ref dr, .int m22, .ref ik, .int m24, .int m25, .long m26, .int m27, .int m28, .ref ro, .int m30, .ref ct, .ref se, .ref th, .ref cn, .ref be, .int m36, .ref du, .int m38, .ref db, .int m40, .int m41, .int m42, .ref pn, .ref wg, .ref wh, .ref tn, .ref he, .int m48, .ref tr, .ref fd, .ref po, .int m52, .int m53]) := (congrFun e_f2 mm).trans z_up_self
  have hfr : ∀ b ∈ L, b ≠ mm → f2 b = f b := fun b hb h0 => (congrFun e_f2 b).trans (z_up_ne h0 (hfr b hb h0))
  refine lv_aload_n hx hb dX10_begins_10 rfl (lv_at hl 0 rfl) ?_
  refine lv_iconst (v := 0) hx hb dX10_begins_11 (by decide) ?_
  refine z_put (C := RX10) (T := TX10) (N := 54) (ci := 10) (v := .int 0) (fs' := [.int m0, .ref wd, .ref my, .ref ce, .ref mv, .ref ta, .int m6, .int 0, .int m8, .int m9, .int m10, .long m11, .int 0, .int (-1), .int m14, .int m15, .ref li, .ref ha, .ref lw, .ref st, .ref fo, .ref dr, .int m22, .ref ik, .int m24, .int m25, .long m26, .int m27, .int m28, .ref ro, .int m30, .ref ct, .ref se, .ref th, .ref cn, .ref be, .int m36, .ref du, .int m38, .ref db, .int m40, .int m41, .int m42, .ref pn, .ref wg, .ref wh, .ref tn, .ref he, .int m48, .ref tr, .ref fd, .ref po, .int m52, .int m53]) hx hb hT zin_X10 tyX10_ok nmX10 hown hK hw hm_mm hf_mm rfl 7 (by decide) (hT _ kw_1175) rfl rfl rfl (Nat.le_of_ble_eq_true rfl) rfl dX10_begins_12 (fun H locs hw => ?_)
  obtain ⟨f3, e_f3⟩ : ∃ z, z = va_up f2 mm (.inr (10, [.int m0, .ref wd, .ref my, .ref ce, .ref mv, .ref ta, .int m6, .int 0, .int m8, .int m9, .int m10, .long m11, .int 0, .int (-1), .int m14, .int m15, .ref li, .ref ha, .ref lw, .ref st, .ref fo, .ref dr, .int m22, .ref ik, .int m24, .int m25, .long m26, .int m27, .int m28, .ref ro, .int m30, .ref ct, .ref se, .ref th, .ref cn, .ref be, .int m36, .ref du, .int m38, .ref db, .int m40, .int m41, .int m42, .ref pn, .ref wg, .ref wh, .ref tn, .ref he, .int m48, .ref tr, .ref fd, .ref po, .int m52, .int m53])) := ⟨_, rfl⟩
  rw [← e_f3] at hw
  have hf_ta : f3 ta = .inl (cy 0, 1600, .inl gta) := (congrFun e_f3 ta).trans (z_up_ne (z_tne hf_ta hf_mm (m := 12900) (n := 10) rfl rfl (by decide)) hf_ta)
  have hf_mm : f3 mm = .inr (10, [.int m0, .ref wd, .ref my, .ref ce, .ref mv, .ref ta, .int m6, .int 0, .int m8, .int m9, .int m10, .long m11, .int 0, .int (-1), .int m14, .int m15, .ref li, .ref ha, .ref lw, .ref st, .ref fo, .ref dr, .int m22, .ref ik, .int m24, .int m25, .long m26, .int m27, .int m28, .ref ro, .int m30, .ref ct, .ref se, .ref th, .ref cn, .ref be, .int m36, .ref du, .int m38, .ref db, .int m40, .int m41, .int m42, .ref pn, .ref wg, .ref wh, .ref tn, .ref he, .int m48, .ref tr, .ref fd, .ref po, .int m52, .int m53]) := (congrFun e_f3 mm).trans z_up_self
  have hfr : ∀ b ∈ L, b ≠ mm → f3 b = f b := fun b hb h0 => (congrFun e_f3 b).trans (z_up_ne h0 (hfr b hb h0))
  refine lv_aload_n hx hb dX10_begins_15 rfl (lv_at hl 0 rfl) ?_
  refine z_callvV (cells := 0) (slots := 0) (b := mm) (As := []) (rest := []) (ci := 10) (q0 := (RX10, TX10, 54)) ⟨hx, hb, hml, hown, hT⟩ (c_X10_next l hm_mm hm_ta hf_mm hf_ta (by first | omega | decide | assumption) (by first | omega | decide | assumption)) (cwV 0 hT (z_goodV (fun _ h => h) kw_1381 kw_1383 kw_34 kw_96 kw_1384) rfl rfl rfl (by decide +kernel) ⟨by decide, by decide⟩) z_mv hKK hK hw hA hm_mm hf_mm rfl rfl rfl hl.1 rfl (Nat.le_of_ble_eq_true rfl) dX10_begins_16 ⟨by decide, by decide⟩ (fun u H locs hp hw => ?_)
  obtain ⟨L4, f5⟩ := u
  obtain ⟨hsb, hfm, a2_6, k2_7, p2_8, v2_9, w2_10, ha_0, hp⟩ := hp
  have hsb : L = L4 := hsb
  subst hsb
  have hsb : ∀ b ∈ L, b ∈ L := fun _ h => h
  have hw : z_H D vwCl (z_A L sz) s.heap L f5 H locs := hw
  have hfr : ∀ b ∈ L, b ≠ mm → f5 b = f b := fun b hb h0 => (hfm b hb h0).trans (hfr b hb h0)
  have hf_ta : f5 ta = .inl (cy 0, 1600, .inl gta) := (hfm ta hm_ta (z_tne hf_ta hf_mm (m := 12900) (n := 10) rfl rfl (by decide))).trans hf_ta
  have hf_mm : f5 mm = .inr (10, [.int m0, .ref wd, .ref my, .ref ce, .ref mv, .ref ta, .int m6, .int a2_6, .int k2_7, .int p2_8, .int v2_9, .long w2_10, .int 0, .int (-1), .int m14, .int m15, .ref li, .ref ha, .ref lw, .ref st, .ref fo, .ref dr, .int m22, .ref ik, .int m24, .int m25, .long m26, .int m27, .int m28, .ref ro, .int m30, .ref ct, .ref se, .ref th, .ref cn, .ref be, .int m36, .ref du, .int m38, .ref db, .int m40, .int m41, .int m42, .ref pn, .ref wg, .ref wh, .ref tn, .ref he, .int m48, .ref tr, .ref fd, .ref po, .int m52, .int m53]) := ha_0
  exact z_vret hx hb hr hlk (by decide) (by decide) hw (⟨hsub, hfr, a2_6, k2_7, p2_8, v2_9, w2_10, hf_mm, by omega⟩) dX10_begins_19

set_option maxHeartbeats 2000000 in
set_option maxRecDepth 100000 in
theorem c_X10_isOver (l : Launch) {D : va_G} {cy : Nat → ClassId} {L : List Nat} {f : Nat → va_E} {sz : Nat} {adK adV : Nat → Nat} {mm wd my ce mv ta li ha lw st fo dr ik ro ct se th cn be du db pn wg wh tn he tr fd po : Nat} {m0 m6 m7 m8 m9 m10 m12 m13 m14 m15 m22 m24 m25 m27 m28 m30 m36 m38 m40 m41 m42 m48 m52 m53 : Int32} {m11 m26 : Int64}   (hm_mm : mm ∈ L) (hf_mm : f mm = .inr (10, [.int m0, .ref wd, .ref my, .ref ce, .ref mv, .ref ta, .int m6, .int m7, .int m8, .int m9, .int m10, .long m11, .int m12, .int m13, .int m14, .int m15, .ref li, .ref ha, .ref lw, .ref st, .ref fo, .ref dr, .int m22, .ref ik, .int m24, .int m25, .long m26, .int m27, .int m28, .ref ro, .int m30, .ref ct, .ref se, .ref th, .ref cn, .ref be, .int m36, .ref du, .int m38, .ref db, .int m40, .int m41, .int m42, .ref pn, .ref wg, .ref wh, .ref tn, .ref he, .int m48, .ref tr, .ref fd, .ref po, .int m52, .int m53])) : Met l yX10_isOver (z_ws yX10_isOver cX10_isOver 1 none) (z_R 1 0 0) (va_Pc [.ref mm] (z_Pre D vwCl (z_KK D cy adK adV) L f sz)) (z_Qv D vwCl (fun u => L = u.1 ∧ (∀ b ∈ L, b ≠ mm → u.2 b = f b) ∧ (∃ (f2 p2 : Int32), (u.2 mm = .inr (10, [.int m0, .ref wd, .ref my, .ref ce, .ref mv, .ref ta, .int 0, .int m7, .int m8, .int m9, .int m10, .long m11, .int m12, .int m13, .int f2, .int p2, .ref li, .ref ha, .ref lw, .ref st, .ref fo, .ref dr, .int m22, .ref ik, .int m24, .int m25, .long m26, .int m27, .int m28, .ref ro, .int m30, .ref ct, .ref se, .ref th, .ref cn, .ref be, .int m36, .ref du, .int m38, .ref db, .int m40, .int m41, .int m42, .ref pn, .ref wg, .ref wh, .ref tn, .ref he, .int m48, .ref tr, .ref fd, .ref po, .int m52, .int m53])) ∧ (f2 = m12))) L sz) 0 0 (z_A L sz) := by
  refine z_met (cc := cX10_isOver) (maxL := 1) (ret := none) (lv := [(0, .ref mm)]) (by decide) rfl (Nat.le_of_ble_eq_true rfl) rfl ?_
  intro p e s m below meth c ls hx hb hr hlk hml hown hnm hts hKK hA hw hl
  have hK := hKK.1.1
  have hown : s.vm.findClass RX10 = some m.cls := hown
  have hT : ∀ w ∈ lw_all, w.before ([.ref mm] : List Value).toArray s = true := fun w h => hts w (z_cons w h)
  have hsub : L = L := rfl
  have hfr : ∀ b ∈ L, b ≠ mm → f b = f b := fun _ _ _ => rfl
  refine lv_aload_n hx hb dX10_isOver_0 rfl (lv_at hl 0 rfl) ?_
  refine lv_iconst (v := 0) hx hb dX10_isOver_1 (by decide) ?_
  refine z_put (C := RX10) (T := TX10) (N := 54) (ci := 10) (v := .int 0) (fs' := [.int m0, .ref wd, .ref my, .ref ce, .ref mv, .ref ta, .int 0, .int m7, .int m8, .int m9, .int m10, .long m11, .int m12, .int m13, .int m14, .int m15, .ref li, .ref ha, .ref lw, .ref st, .ref fo, .ref dr, .int m22, .ref ik, .int m24, .int m25, .long m26, .int m27, .int m28, .ref ro, .int m30, .ref ct, .ref se, .ref th, .ref cn, .ref be, .int m36, .ref du, .int m38, .ref db, .int m40, .int m41, .int m42, .ref pn, .ref wg, .ref wh, .ref tn, .ref he, .int m48, .ref tr, .ref fd, .ref po, .int m52, .int m53]) hx hb hT zin_X10 tyX10_ok nmX10 hown hK hw hm_mm hf_mm rfl 6 (by decide) (hT _ kw_1174) rfl rfl rfl (Nat.le_of_ble_eq_true rfl) rfl dX10_isOver_2 (fun H locs hw => ?_)
  obtain ⟨f1, e_f1⟩ : ∃ z, z = va_up f mm (.inr (10, [.int m0, .ref wd, .ref my, .ref ce, .ref mv, .ref ta, .int 0, .int m7, .int m8, .int m9, .int m10, .long m11, .int m12, .int m13, .int m14, .int m15, .ref li, .ref ha, .ref lw, .ref st, .ref fo, .ref dr, .int m22, .ref ik, .int m24, .int m25, .long m26, .int m27, .int m28, .ref ro, .int m30, .ref ct, .ref se, .ref th, .ref cn, .ref be, .int m36, .ref du, .int m38, .ref db, .int m40, .int m41, .int m42, .ref pn, .ref wg, .ref wh, .ref tn, .ref he, .int m48, .ref tr, .ref fd, .ref po, .int m52, .int m53])) := ⟨_, rfl⟩
  rw [← e_f1] at hw
  have hf_mm : f1 mm = .inr (10, [.int m0, .ref wd, .ref my, .ref ce, .ref mv, .ref ta, .int 0, .int m7, .int m8, .int m9, .int m10, .long m11, .int m12, .int m13, .int m14, .int m15, .ref li, .ref ha, .ref lw, .ref st, .ref fo, .ref dr, .int m22, .ref ik, .int m24, .int m25, .long m26, .int m27, .int m28, .ref ro, .int m30, .ref ct, .ref se, .ref th, .ref cn, .ref be, .int m36, .ref du, .int m38, .ref db, .int m40, .int m41, .int m42, .ref pn, .ref wg, .ref wh, .ref tn, .ref he, .int m48, .ref tr, .ref fd, .ref po, .int m52, .int m53]) := (congrFun e_f1 mm).trans z_up_self
  have hfr : ∀ b ∈ L, b ≠ mm → f1 b = f b := fun b hb h0 => (congrFun e_f1 b).trans (z_up_ne h0 (hfr b hb h0))
  refine lv_aload_n hx hb dX10_isOver_5 rfl (lv_at hl 0 rfl) ?_
  refine lv_aload_n hx hb dX10_isOver_6 rfl (lv_at hl 0 rfl) ?_
  refine z_get (C := RX10) (T := TX10) (N := 54) (ci := 10) (v := .int m12) hx hb hT zin_X10 hown hK hw hm_mm hf_mm rfl 12 (by decide) (hT _ kw_1180) rfl dX10_isOver_7 ?_
  refine z_put (C := RX10) (T := TX10) (N := 54) (ci := 10) (v := .int m12) (fs' := [.int m0, .ref wd, .ref my, .ref ce, .ref mv, .ref ta, .int 0, .int m7, .int m8, .int m9, .int m10, .long m11, .int m12, .int m13, .int m12, .int m15, .ref li, .ref ha, .ref lw, .ref st, .ref fo, .ref dr, .int m22, .ref ik, .int m24, .int m25, .long m26, .int m27, .int m28, .ref ro, .int m30, .ref ct, .ref se, .ref th, .ref cn, .ref be, .int m36, .ref du, .int m38, .ref db, .int m40, .int m41, .int m42, .ref pn, .ref wg, .ref wh, .ref tn, .ref he, .int m48, .ref tr, .ref fd, .ref po, .int m52, .int m53]) hx hb hT zin_X10 tyX10_ok nmX10 hown hK hw hm_mm hf_mm rfl 14 (by decide) (hT _ kw_1182) rfl rfl rfl (Nat.le_of_ble_eq_true rfl) rfl dX10_isOver_10 (fun H locs hw => ?_)
  obtain ⟨f2, e_f2⟩ : ∃ z, z = va_up f1 mm (.inr (10, [.int m0, .ref wd, .ref my, .ref ce, .ref mv, .ref ta, .int 0, .int m7, .int m8, .int m9, .int m10, .long m11, .int m12, .int m13, .int m12, .int m15, .ref li, .ref ha, .ref lw, .ref st, .ref fo, .ref dr, .int m22, .ref ik, .int m24, .int m25, .long m26, .int m27, .int m28, .ref ro, .int m30, .ref ct, .ref se, .ref th, .ref cn, .ref be, .int m36, .ref du, .int m38, .ref db, .int m40, .int m41, .int m42, .ref pn, .ref wg, .ref wh, .ref tn, .ref he, .int m48, .ref tr, .ref fd, .ref po, .int m52, .int m53])) := ⟨_, rfl⟩
  rw [← e_f2] at hw
  have hf_mm : f2 mm = .inr (10, [.int m0, .ref wd, .ref my, .ref ce, .ref mv, .ref ta, .int 0, .int m7, .int m8, .int m9, .int m10, .long m11, .int m12, .int m13, .int m12, .int m15, .ref li, .ref ha, .ref lw, .ref st, .ref fo, .ref dr, .int m22, .ref ik, .int m24, .int m25, .long m26, .int m27, .int m28, .ref ro, .int m30, .ref ct, .ref se, .ref th, .ref cn, .ref be, .int m36, .ref du, .int m38, .ref db, .int m40, .int m41, .int m42, .ref pn, .ref wg, .ref wh, .ref tn, .ref he, .int m48, .ref tr, .ref fd, .ref po, .int m52, .int m53]) := (congrFun e_f2 mm).trans z_up_self
  have hfr : ∀ b ∈ L, b ≠ mm → f2 b = f b := fun b hb h0 => (congrFun e_f2 b).trans (z_up_ne h0 (hfr b hb h0))
  refine lv_aload_n hx hb dX10_isOver_13 rfl (lv_at hl 0 rfl) ?_
  refine lv_aload_n hx hb dX10_isOver_14 rfl (lv_at hl 0 rfl) ?_
  refine z_get (C := RX10) (T := TX10) (N := 54) (ci := 10) (v := .int m12) hx hb hT zin_X10 hown hK hw hm_mm hf_mm rfl 12 (by decide) (hT _ kw_1180) rfl dX10_isOver_15 ?_
  refine z_if_ne (tgt := 25) hx hb rfl dX10_isOver_18 (by decide) (fun c3 => ?_) (fun c3 => ?_)
  · skip
    refine lv_aload_n hx hb dX10_isOver_25 rfl (lv_at hl 0 rfl) ?_
    refine z_get (C := RX10) (T := TX10) (N := 54) (ci := 10) (v := .int m13) hx hb hT zin_X10 hown hK hw hm_mm hf_mm rfl 13 (by decide) (hT _ kw_1181) rfl dX10_isOver_26 ?_
    refine z_put (C := RX10) (T := TX10) (N := 54) (ci := 10) (v := .int m13) (fs' := [.int m0, .ref wd, .ref my, .ref ce, .ref mv, .ref ta, .int 0, .int m7, .int m8, .int m9, .int m10, .long m11, .int m12, .int m13, .int m12, .int m13, .ref li, .ref ha, .ref lw, .ref st, .ref fo, .ref dr, .int m22, .ref ik, .int m24, .int m25, .long m26, .int m27, .int m28, .ref ro, .int m30, .ref ct, .ref se, .ref th, .ref cn, .ref be, .int m36, .ref du, .int m38, .ref db, .int m40, .int m41, .int m42, .ref pn, .ref wg, .ref wh, .ref tn, .ref he, .int m48, .ref tr, .ref fd, .ref po, .int m52, .int m53]) hx hb hT zin_X10 tyX10_ok nmX10 hown hK hw hm_mm hf_mm rfl 15 (by decide) (hT _ kw_1183) rfl rfl rfl (Nat.le_of_ble_eq_true rfl) rfl dX10_isOver_29 (fun H locs hw => ?_)
    obtain ⟨f4, e_f4⟩ : ∃ z, z = va_up f2 mm (.inr (10, [.int m0, .ref wd, .ref my, .ref ce, .ref mv, .ref ta, .int 0, .int m7, .int m8, .int m9, .int m10, .long m11, .int m12, .int m13, .int m12, .int m13, .ref li, .ref ha, .ref lw, .ref st, .ref fo, .ref dr, .int m22, .ref ik, .int m24, .int m25, .long m26, .int m27, .int m28, .ref ro, .int m30, .ref ct, .ref se, .ref th, .ref cn, .ref be, .int m36, .ref du, .int m38, .ref db, .int m40, .int m41, .int m42, .ref pn, .ref wg, .ref wh, .ref tn, .ref he, .int m48, .ref tr, .ref fd, .ref po, .int m52, .int m53])) := ⟨_, rfl⟩
    rw [← e_f4] at hw
    have hf_mm : f4 mm = .inr (10, [.int m0, .ref wd, .ref my, .ref ce, .ref mv, .ref ta, .int 0, .int m7, .int m8, .int m9, .int m10, .long m11, .int m12, .int m13, .int m12, .int m13, .ref li, .ref ha, .ref lw, .ref st, .ref fo, .ref dr, .int m22, .ref ik, .int m24, .int m25, .long m26, .int m27, .int m28, .ref ro, .int m30, .ref ct, .ref se, .ref th, .ref cn, .ref be, .int m36, .ref du, .int m38, .ref db, .int m40, .int m41, .int m42, .ref pn, .ref wg, .ref wh, .ref tn, .ref he, .int m48, .ref tr, .ref fd, .ref po, .int m52, .int m53]) := (congrFun e_f4 mm).trans z_up_self
    have hfr : ∀ b ∈ L, b ≠ mm → f4 b = f b := fun b hb h0 => (congrFun e_f4 b).trans (z_up_ne h0 (hfr b hb h0))
    exact z_vret hx hb hr hlk (by decide) (by decide) hw (⟨hsub, hfr, m12, m13, hf_mm, rfl⟩) dX10_isOver_32
  · skip
    refine lv_iconst (v := (-1)) hx hb dX10_isOver_21 (by decide) ?_
    refine lv_goto (tgt := 29) hx hb dX10_isOver_22 (by decide) ?_
    refine z_put (C := RX10) (T := TX10) (N := 54) (ci := 10) (v := .int (-1)) (fs' := [.int m0, .ref wd, .ref my, .ref ce, .ref mv, .ref ta, .int 0, .int m7, .int m8, .int m9, .int m10, .long m11, .int m12, .int m13, .int m12, .int (-1), .ref li, .ref ha, .ref lw, .ref st, .ref fo, .ref dr, .int m22, .ref ik, .int m24, .int m25, .long m26, .int m27, .int m28, .ref ro, .int m30, .ref ct, .ref se, .ref th, .ref cn, .ref be, .int m36, .ref du, .int m38, .ref db, .int m40, .int m41, .int m42, .ref pn, .ref wg, .ref wh, .ref tn, .ref he, .int m48, .ref tr, .ref fd, .ref po, .int m52, .int m53]) hx hb hT zin_X10 tyX10_ok nmX10 hown hK hw hm_mm hf_mm rfl 15 (by decide) (hT _ kw_1183) rfl rfl rfl (Nat.le_of_ble_eq_true rfl) rfl dX10_isOver_29 (fun H locs hw => ?_)
    obtain ⟨f5, e_f5⟩ : ∃ z, z = va_up f2 mm (.inr (10, [.int m0, .ref wd, .ref my, .ref ce, .ref mv, .ref ta, .int 0, .int m7, .int m8, .int m9, .int m10, .long m11, .int m12, .int m13, .int m12, .int (-1), .ref li, .ref ha, .ref lw, .ref st, .ref fo, .ref dr, .int m22, .ref ik, .int m24, .int m25, .long m26, .int m27, .int m28, .ref ro, .int m30, .ref ct, .ref se, .ref th, .ref cn, .ref be, .int m36, .ref du, .int m38, .ref db, .int m40, .int m41, .int m42, .ref pn, .ref wg, .ref wh, .ref tn, .ref he, .int m48, .ref tr, .ref fd, .ref po, .int m52, .int m53])) := ⟨_, rfl⟩
    rw [← e_f5] at hw
    have hf_mm : f5 mm = .inr (10, [.int m0, .ref wd, .ref my, .ref ce, .ref mv, .ref ta, .int 0, .int m7, .int m8, .int m9, .int m10, .long m11, .int m12, .int m13, .int m12, .int (-1), .ref li, .ref ha, .ref lw, .ref st, .ref fo, .ref dr, .int m22, .ref ik, .int m24, .int m25, .long m26, .int m27, .int m28, .ref ro, .int m30, .ref ct, .ref se, .ref th, .ref cn, .ref be, .int m36, .ref du, .int m38, .ref db, .int m40, .int m41, .int m42, .ref pn, .ref wg, .ref wh, .ref tn, .ref he, .int m48, .ref tr, .ref fd, .ref po, .int m52, .int m53]) := (congrFun e_f5 mm).trans z_up_self
    have hfr : ∀ b ∈ L, b ≠ mm → f5 b = f b := fun b hb h0 => (congrFun e_f5 b).trans (z_up_ne h0 (hfr b hb h0))
    exact z_vret hx hb hr hlk (by decide) (by decide) hw (⟨hsub, hfr, m12, (-1), hf_mm, rfl⟩) dX10_isOver_32

set_option maxHeartbeats 2000000 in
set_option maxRecDepth 100000 in
theorem c_X10_hasRead (l : Launch) {D : va_G} {cy : Nat → ClassId} {L : List Nat} {f : Nat → va_E} {sz : Nat} {adK adV : Nat → Nat} {mm wd my ce mv ta li ha lw st fo dr ik ro ct se th cn be du db pn wg wh tn he tr fd po : Nat} {m0 m6 m7 m8 m9 m10 m12 m13 m14 m15 m22 m24 m25 m27 m28 m30 m36 m38 m40 m41 m42 m48 m52 m53 : Int32} {m11 m26 : Int64} {gha : Nat → Int32}  {wt : Int32} {hz : Nat → Int32} (hm_mm : mm ∈ L) (hm_ha : ha ∈ L) (hf_mm : f mm = .inr (10, [.int m0, .ref wd, .ref my, .ref ce, .ref mv, .ref ta, .int m6, .int m7, .int m8, .int m9, .int m10, .long m11, .int m12, .int m13, .int m14, .int m15, .ref li, .ref ha, .ref lw, .ref st, .ref fo, .ref dr, .int m22, .ref ik, .int m24, .int m25, .long m26, .int m27, .int m28, .ref ro, .int m30, .ref ct, .ref se, .ref th, .ref cn, .ref be, .int m36, .ref du, .int m38, .ref db, .int m40, .int m41, .int m42, .ref pn, .ref wg, .ref wh, .ref tn, .ref he, .int m48, .ref tr, .ref fd, .ref po, .int m52, .int m53])) (hf_ha : f ha = .inl (cy 1, 30, .inl gha)) (hq_ha : ∀ j : Nat, (q_hasR hz) j (gha j)) (hwt : 0 ≤ wt.toInt ∧ wt.toInt ≤ 5) : Met l yX10_hasRead (z_ws yX10_hasRead cX10_hasRead 2 (some .int)) (z_R 1 0 0) (va_Pc [.ref mm, .int wt] (z_Pre D vwCl (z_KK D cy adK adV) L f sz)) (z_Qi D vwCl (fun r u => u = (L, f) ∧ (r = gha (24 + wt.toNatClampNeg))) L sz) 0 0 (z_A L sz) := by
  refine z_met (cc := cX10_hasRead) (maxL := 2) (ret := (some .int)) (lv := [(0, .ref mm), (1, .int wt)]) (by decide) rfl (Nat.le_of_ble_eq_true rfl) rfl ?_
  intro p e s m below meth c ls hx hb hr hlk hml hown hnm hts hKK hA hw hl
  have hK := hKK.1.1
  have hown : s.vm.findClass RX10 = some m.cls := hown
  have hT : ∀ w ∈ lw_all, w.before ([.ref mm, .int wt] : List Value).toArray s = true := fun w h => hts w (z_cons w h)
  refine lv_aload_n hx hb dX10_hasRead_0 rfl (lv_at hl 0 rfl) ?_
  refine z_get (C := RX10) (T := TX10) (N := 54) (ci := 10) (v := .ref ha) hx hb hT zin_X10 hown hK hw hm_mm hf_mm rfl 17 (by decide) (hT _ kw_1185) rfl dX10_hasRead_1 ?_
  refine lv_bipush (v := 24) hx hb dX10_hasRead_4 (by decide) ?_
  refine lv_iload_n hx hb dX10_hasRead_6 rfl (lv_at hl 1 rfl) ?_
  refine lv_iadd hx hb dX10_hasRead_7 ?_
  refine lv_topi (fun w1 e_w1 => ?_)
  have i_w1 : w1.toInt = (24 + wt.toInt) := z_add e_w1 (show (24 : Int32).toInt = 24 by decide) rfl (by omega)
  refine z_iald hx hb hK hw 1 hm_ha hf_ha rfl (z_ix i_w1 (by omega)) dX10_hasRead_8 ?_
  refine lv_topi (fun w2 e_w2 => ?_)
  exact z_iret hx hb hr hlk (by decide) (by decide) hw (⟨rfl, by rw [e_w2]; exact congrArg gha (z_idx i_w1 (by omega))⟩) dX10_hasRead_9

set_option maxHeartbeats 2000000 in
set_option maxRecDepth 100000 in
theorem c_X10_lawLine (l : Launch) {D : va_G} {cy : Nat → ClassId} {L : List Nat} {f : Nat → va_E} {sz : Nat} {adK adV : Nat → Nat} {mm wd my ce mv ta li ha lw st fo dr ik ro ct se th cn be du db pn wg wh tn he tr fd po : Nat} {m0 m6 m7 m8 m9 m10 m12 m13 m14 m15 m22 m24 m25 m27 m28 m30 m36 m38 m40 m41 m42 m48 m52 m53 : Int32} {m11 m26 : Int64} {gta glw : Nat → Int32}  {lz : Nat → Int32} (hm_mm : mm ∈ L) (hm_ta : ta ∈ L) (hm_lw : lw ∈ L) (hf_mm : f mm = .inr (10, [.int m0, .ref wd, .ref my, .ref ce, .ref mv, .ref ta, .int m6, .int m7, .int m8, .int m9, .int m10, .long m11, .int m12, .int m13, .int m14, .int m15, .ref li, .ref ha, .ref lw, .ref st, .ref fo, .ref dr, .int m22, .ref ik, .int m24, .int m25, .long m26, .int m27, .int m28, .ref ro, .int m30, .ref ct, .ref se, .ref th, .ref cn, .ref be, .int m36, .ref du, .int m38, .ref db, .int m40, .int m41, .int m42, .ref pn, .ref wg, .ref wh, .ref tn, .ref he, .int m48, .ref tr, .ref fd, .ref po, .int m52, .int m53])) (hf_ta : f ta = .inl (cy 0, 1600, .inl gta)) (hf_lw : f lw = .inl (cy 1, 25, .inl glw)) (hq_lw : ∀ j : Nat, (q_lawR lz) j (glw j)) (htp : 0 ≤ m6.toInt ∧ m6.toInt ≤ 1600) (hat : 0 ≤ m7.toInt ∧ m7.toInt ≤ m6.toInt) : Met l yX10_lawLine (z_ws yX10_lawLine cX10_lawLine 2 none) (z_R 3 0 0) (va_Pc [.ref mm] (z_Pre D vwCl (z_KK D cy adK adV) L f sz)) (z_Qv D vwCl (fun u => L = u.1 ∧ (∀ b ∈ L, b ≠ mm → b ≠ lw → u.2 b = f b) ∧ (∃ (a2 k2 p2 v2 b2 q2 : Int32) (w2 : Int64) (nlw : Nat → Int32), (u.2 mm = .inr (10, [.int m0, .ref wd, .ref my, .ref ce, .ref mv, .ref ta, .int m6, .int a2, .int k2, .int p2, .int v2, .long w2, .int b2, .int q2, .int m14, .int m15, .ref li, .ref ha, .ref lw, .ref st, .ref fo, .ref dr, .int m22, .ref ik, .int m24, .int m25, .long m26, .int m27, .int m28, .ref ro, .int m30, .ref ct, .ref se, .ref th, .ref cn, .ref be, .int m36, .ref du, .int m38, .ref db, .int m40, .int m41, .int m42, .ref pn, .ref wg, .ref wh, .ref tn, .ref he, .int m48, .ref tr, .ref fd, .ref po, .int m52, .int m53])) ∧ (u.2 lw = .inl (cy 1, 25, .inl nlw)) ∧ (∀ j : Nat, (q_lawR lz) j (nlw j)) ∧ ((0 ≤ a2.toInt ∧ a2.toInt ≤ m6.toInt) ∧ m7.toInt ≤ a2.toInt ∧ (b2.toInt ≠ 0 ∨ m12.toInt = 0) ∧ ((a2.toInt = m7.toInt ∧ k2.toInt = m8.toInt) ∨ k2.toInt ≠ 3 ∨ m7.toInt < a2.toInt) ∧ nlw 23 = glw 23))) L sz) 0 0 (z_A L sz) := by
  refine z_met (cc := cX10_lawLine) (maxL := 2) (ret := none) (lv := [(0, .ref mm)]) (by decide) rfl (Nat.le_of_ble_eq_true rfl) rfl ?_
  intro p e s m below meth c ls hx hb hr hlk hml hown hnm hts hKK hA hw hl
  have hK := hKK.1.1
  have hown : s.vm.findClass RX10 = some m.cls := hown
  have hT : ∀ w ∈ lw_all, w.before ([.ref mm] : List Value).toArray s = true := fun w h => hts w (z_cons w h)
  have hsub : L = L := rfl
  have hfr : ∀ b ∈ L, b ≠ mm → b ≠ lw → f b = f b := fun _ _ _ _ => rfl
  refine lv_aload_n hx hb dX10_lawLine_0 rfl (lv_at hl 0 rfl) ?_
  refine lv_ldc2 (v := 138961) hx hb hown (hT _ kw_1415) dX10_lawLine_1 ?_
  have hz1 := (show (138961 : Int64).toInt = 138961 by decide)
  refine z_calliV (cells := 0) (slots := 0) (b := mm) (As := [.long 138961]) (rest := []) (ci := 10) (q0 := (RX10, TX10, 54)) ⟨hx, hb, hml, hown, hT⟩ (c_X10_is l hm_mm hf_mm) (cwV 1 hT (z_goodV (fun _ h => h) kw_1407 kw_1409 kw_39 kw_96 kw_1410) rfl rfl rfl (by decide +kernel) ⟨by decide, by decide⟩) z_mv hKK hK hw hA hm_mm hf_mm rfl rfl rfl hl.1 rfl (Nat.le_of_ble_eq_true rfl) dX10_lawLine_4 ⟨by decide, by decide⟩ (fun r2 u H locs hp hw => ?_)
  obtain ⟨rfl, hp⟩ := hp
  have hw : z_H D vwCl (z_A L sz) s.heap L f H locs := hw
  rcases hp with ⟨rfl, h3⟩ | ⟨rfl, h3⟩
  · skip
    refine z_if_eq (tgt := 14) hx hb (show (1 : Int32).toInt = 1 by decide) dX10_lawLine_7 (by decide) (fun h => absurd h (by decide)) (fun _ => ?_)
    refine lv_iconst (v := 0) hx hb dX10_lawLine_10 (by decide) ?_
    refine lv_goto (tgt := 85) hx hb dX10_lawLine_11 (by decide) ?_
    refine lv_istore_n (lv' := [(1, .int 0), (0, .ref mm)]) hx hb dX10_lawLine_85 rfl hl (by decide) rfl (fun ls hl => ?_)
    refine lv_iload_n hx hb dX10_lawLine_86 rfl (lv_at hl 0 rfl) ?_
    refine lv_iconst (v := (-1)) hx hb dX10_lawLine_87 (by decide) ?_
    refine z_icmp_ne (tgt := 96) hx hb (show (0 : Int32).toInt = 0 by decide) (show ((-1) : Int32).toInt = (-1) by decide) dX10_lawLine_88 (by decide) (fun _ => ?_) (fun h => absurd h (by decide))
    refine lv_aload_n hx hb dX10_lawLine_96 rfl (lv_at hl 1 rfl) ?_
    refine z_get (C := RX10) (T := TX10) (N := 54) (ci := 10) (v := .int m12) hx hb hT zin_X10 hown hK hw hm_mm hf_mm rfl 12 (by decide) (hT _ kw_1180) rfl dX10_lawLine_97 ?_
    refine z_if_eq (tgt := 104) hx hb rfl dX10_lawLine_100 (by decide) (fun c4 => ?_) (fun c4 => ?_)
    · skip
      refine lv_aload_n hx hb dX10_lawLine_104 rfl (lv_at hl 1 rfl) ?_
      refine z_callvV (cells := 0) (slots := 0) (b := mm) (As := []) (rest := []) (ci := 10) (q0 := (RX10, TX10, 54)) ⟨hx, hb, hml, hown, hT⟩ (c_X10_next l hm_mm hm_ta hf_mm hf_ta (by first | omega | decide | assumption) (by first | omega | decide | assumption)) (cwV 0 hT (z_goodV (fun _ h => h) kw_1381 kw_1383 kw_34 kw_96 kw_1384) rfl rfl rfl (by decide +kernel) ⟨by decide, by decide⟩) z_mv hKK hK hw hA hm_mm hf_mm rfl rfl rfl hl.1 rfl (Nat.le_of_ble_eq_true rfl) dX10_lawLine_105 ⟨by decide, by decide⟩ (fun u H locs hp hw => ?_)
      obtain ⟨L5, f6⟩ := u
      obtain ⟨hsb, hfm, a2_7, k2_8, p2_9, v2_10, w2_11, ha_0, hp⟩ := hp
      have hsb : L = L5 := hsb
      subst hsb
      have hsb : ∀ b ∈ L, b ∈ L := fun _ h => h
      have hw : z_H D vwCl (z_A L sz) s.heap L f6 H locs := hw
      have hfr : ∀ b ∈ L, b ≠ mm → b ≠ lw → f6 b = f b := fun b hb h0 h1 => (hfm b hb h0).trans (hfr b hb h0 h1)
      have hf_ta : f6 ta = .inl (cy 0, 1600, .inl gta) := (hfm ta hm_ta (z_tne hf_ta hf_mm (m := 12900) (n := 10) rfl rfl (by decide))).trans hf_ta
      have hf_lw : f6 lw = .inl (cy 1, 25, .inl glw) := (hfm lw hm_lw (z_tne hf_lw hf_mm (m := 300) (n := 10) rfl rfl (by decide))).trans hf_lw
      have hf_mm : f6 mm = .inr (10, [.int m0, .ref wd, .ref my, .ref ce, .ref mv, .ref ta, .int m6, .int a2_7, .int k2_8, .int p2_9, .int v2_10, .long w2_11, .int m12, .int m13, .int m14, .int m15, .ref li, .ref ha, .ref lw, .ref st, .ref fo, .ref dr, .int m22, .ref ik, .int m24, .int m25, .long m26, .int m27, .int m28, .ref ro, .int m30, .ref ct, .ref se, .ref th, .ref cn, .ref be, .int m36, .ref du, .int m38, .ref db, .int m40, .int m41, .int m42, .ref pn, .ref wg, .ref wh, .ref tn, .ref he, .int m48, .ref tr, .ref fd, .ref po, .int m52, .int m53]) := ha_0
      have hq12 := hp
      refine lv_aload_n hx hb dX10_lawLine_108 rfl (lv_at hl 1 rfl) ?_
      refine z_get (C := RX10) (T := TX10) (N := 54) (ci := 10) (v := .ref lw) hx hb hT zin_X10 hown hK hw hm_mm hf_mm rfl 18 (by decide) (hT _ kw_1186) rfl dX10_lawLine_109 ?_
      refine lv_bipush (v := 20) hx hb dX10_lawLine_112 (by decide) ?_
      refine lv_iload_n hx hb dX10_lawLine_114 rfl (lv_at hl 0 rfl) ?_
      refine lv_iconst (v := 2) hx hb dX10_lawLine_115 (by decide) ?_
      refine lv_idiv hx hb dX10_lawLine_116 (by decide) ?_
      refine lv_topi (fun w13 e_w13 => ?_)
      have i_w13 : w13.toInt = 0 / 2 := z_div e_w13 (show (0 : Int32).toInt = 0 by decide) (show (2 : Int32).toInt = 2 by decide) (by omega)
      refine lv_iadd hx hb dX10_lawLine_117 ?_
      refine lv_topi (fun w14 e_w14 => ?_)
      have i_w14 : w14.toInt = (20 + (0 / 2)) := z_add e_w14 (show (20 : Int32).toInt = 20 by decide) i_w13 (by omega)
      refine lv_iload_n hx hb dX10_lawLine_118 rfl (lv_at hl 0 rfl) ?_
      refine lv_iconst (v := 2) hx hb dX10_lawLine_119 (by decide) ?_
      refine lv_irem hx hb dX10_lawLine_120 (by decide) ?_
      refine lv_topi (fun w15 e_w15 => ?_)
      have i_w15 : w15.toInt = (0 % 2) := z_remI e_w15 (show (0 : Int32).toInt = 0 by decide) (show (2 : Int32).toInt = 2 by decide) (by omega)
      refine z_iast hx hb hK hw 1 hm_lw hf_lw rfl (z_ix i_w14 (by omega)) dX10_lawLine_121 (fun H locs hw => ?_)
      obtain ⟨f17, e_f17⟩ : ∃ z, z = va_up f6 lw (.inl (cy 1, 25, .inl (upd glw w14.toNatClampNeg w15))) := ⟨_, rfl⟩
      rw [← e_f17] at hw
      have hf_mm : f17 mm = .inr (10, [.int m0, .ref wd, .ref my, .ref ce, .ref mv, .ref ta, .int m6, .int a2_7, .int k2_8, .int p2_9, .int v2_10, .long w2_11, .int m12, .int m13, .int m14, .int m15, .ref li, .ref ha, .ref lw, .ref st, .ref fo, .ref dr, .int m22, .ref ik, .int m24, .int m25, .long m26, .int m27, .int m28, .ref ro, .int m30, .ref ct, .ref se, .ref th, .ref cn, .ref be, .int m36, .ref du, .int m38, .ref db, .int m40, .int m41, .int m42, .ref pn, .ref wg, .ref wh, .ref tn, .ref he, .int m48, .ref tr, .ref fd, .ref po, .int m52, .int m53]) := (congrFun e_f17 mm).trans (z_up_ne (z_tne hf_mm hf_lw (m := 10) (n := 300) rfl rfl (by decide)) hf_mm)
      have hf_ta : f17 ta = .inl (cy 0, 1600, .inl gta) := (congrFun e_f17 ta).trans (z_up_ne (z_tne hf_ta hf_lw (m := 12900) (n := 300) rfl rfl (by decide)) hf_ta)
      have hf_lw : f17 lw = .inl (cy 1, 25, .inl (upd glw w14.toNatClampNeg w15)) := (congrFun e_f17 lw).trans z_up_self
      have hfr : ∀ b ∈ L, b ≠ mm → b ≠ lw → f17 b = f b := fun b hb h0 h1 => (congrFun e_f17 b).trans (z_up_ne h1 (hfr b hb h0 h1))
      obtain ⟨g16, e_g16⟩ : ∃ z, z = (upd glw w14.toNatClampNeg w15) := ⟨_, rfl⟩
      rw [← e_g16] at hf_lw
      have hq_lw : ∀ j : Nat, (q_lawR lz) j (g16 j) := z_updQ hq_lw e_g16 (show q_lawR _ _ _ from ⟨(show 0 ≤ (w15).toInt ∧ (w15).toInt ≤ 999 by first | decide | omega), fun h => absurd h (z_nlt i_w14 (by omega))⟩)
      exact z_vret hx hb hr hlk (by decide) (by decide) hw (⟨hsub, hfr, a2_7, k2_8, p2_9, v2_10, m12, m13, w2_11, g16, hf_mm, hf_lw, hq_lw, by omega, by omega, by omega, by omega, z_upd_ne e_g16 (z_nix i_w14 (by omega))⟩) dX10_lawLine_122
    · skip
      exact z_vret hx hb hr hlk (by decide) (by decide) hw (⟨hsub, hfr, m7, m8, m9, m10, m12, m13, m11, glw, hf_mm, hf_lw, hq_lw, by omega, by omega, by omega, by omega, rfl⟩) dX10_lawLine_103
  · skip
    refine z_if_eq (tgt := 14) hx hb (show (0 : Int32).toInt = 0 by decide) dX10_lawLine_7 (by decide) (fun _ => ?_) (fun h => absurd h (by decide))
    refine lv_aload_n hx hb dX10_lawLine_14 rfl (lv_at hl 0 rfl) ?_
    refine lv_ldc2 (v := 1065) hx hb hown (hT _ kw_1455) dX10_lawLine_15 ?_
    have hz18 := (show (1065 : Int64).toInt = 1065 by decide)
    refine z_calliV (cells := 0) (slots := 0) (b := mm) (As := [.long 1065]) (rest := []) (ci := 10) (q0 := (RX10, TX10, 54)) ⟨hx, hb, hml, hown, hT⟩ (c_X10_is l hm_mm hf_mm) (cwV 1 hT (z_goodV (fun _ h => h) kw_1407 kw_1409 kw_39 kw_96 kw_1410) rfl rfl rfl (by decide +kernel) ⟨by decide, by decide⟩) z_mv hKK hK hw hA hm_mm hf_mm rfl rfl rfl hl.1 rfl (Nat.le_of_ble_eq_true rfl) dX10_lawLine_18 ⟨by decide, by decide⟩ (fun r19 u H locs hp hw => ?_)
    obtain ⟨rfl, hp⟩ := hp
    have hw : z_H D vwCl (z_A L sz) s.heap L f H locs := hw
    rcases hp with ⟨rfl, h20⟩ | ⟨rfl, h20⟩
    · skip
      refine z_if_eq (tgt := 28) hx hb (show (1 : Int32).toInt = 1 by decide) dX10_lawLine_21 (by decide) (fun h => absurd h (by decide)) (fun _ => ?_)
      refine lv_iconst (v := 1) hx hb dX10_lawLine_24 (by decide) ?_
      refine lv_goto (tgt := 85) hx hb dX10_lawLine_25 (by decide) ?_
      refine lv_istore_n (lv' := [(1, .int 1), (0, .ref mm)]) hx hb dX10_lawLine_85 rfl hl (by decide) rfl (fun ls hl => ?_)
      refine lv_iload_n hx hb dX10_lawLine_86 rfl (lv_at hl 0 rfl) ?_
      refine lv_iconst (v := (-1)) hx hb dX10_lawLine_87 (by decide) ?_
      refine z_icmp_ne (tgt := 96) hx hb (show (1 : Int32).toInt = 1 by decide) (show ((-1) : Int32).toInt = (-1) by decide) dX10_lawLine_88 (by decide) (fun _ => ?_) (fun h => absurd h (by decide))
      refine lv_aload_n hx hb dX10_lawLine_96 rfl (lv_at hl 1 rfl) ?_
      refine z_get (C := RX10) (T := TX10) (N := 54) (ci := 10) (v := .int m12) hx hb hT zin_X10 hown hK hw hm_mm hf_mm rfl 12 (by decide) (hT _ kw_1180) rfl dX10_lawLine_97 ?_
      refine z_if_eq (tgt := 104) hx hb rfl dX10_lawLine_100 (by decide) (fun c21 => ?_) (fun c21 => ?_)
      · skip
        refine lv_aload_n hx hb dX10_lawLine_104 rfl (lv_at hl 1 rfl) ?_
        refine z_callvV (cells := 0) (slots := 0) (b := mm) (As := []) (rest := []) (ci := 10) (q0 := (RX10, TX10, 54)) ⟨hx, hb, hml, hown, hT⟩ (c_X10_next l hm_mm hm_ta hf_mm hf_ta (by first | omega | decide | assumption) (by first | omega | decide | assumption)) (cwV 0 hT (z_goodV (fun _ h => h) kw_1381 kw_1383 kw_34 kw_96 kw_1384) rfl rfl rfl (by decide +kernel) ⟨by decide, by decide⟩) z_mv hKK hK hw hA hm_mm hf_mm rfl rfl rfl hl.1 rfl (Nat.le_of_ble_eq_true rfl) dX10_lawLine_105 ⟨by decide, by decide⟩ (fun u H locs hp hw => ?_)
        obtain ⟨L22, f23⟩ := u
        obtain ⟨hsb, hfm, a2_24, k2_25, p2_26, v2_27, w2_28, ha_0, hp⟩ := hp
        have hsb : L = L22 := hsb
        subst hsb
        have hsb : ∀ b ∈ L, b ∈ L := fun _ h => h
        have hw : z_H D vwCl (z_A L sz) s.heap L f23 H locs := hw
        have hfr : ∀ b ∈ L, b ≠ mm → b ≠ lw → f23 b = f b := fun b hb h0 h1 => (hfm b hb h0).trans (hfr b hb h0 h1)
        have hf_ta : f23 ta = .inl (cy 0, 1600, .inl gta) := (hfm ta hm_ta (z_tne hf_ta hf_mm (m := 12900) (n := 10) rfl rfl (by decide))).trans hf_ta
        have hf_lw : f23 lw = .inl (cy 1, 25, .inl glw) := (hfm lw hm_lw (z_tne hf_lw hf_mm (m := 300) (n := 10) rfl rfl (by decide))).trans hf_lw
        have hf_mm : f23 mm = .inr (10, [.int m0, .ref wd, .ref my, .ref ce, .ref mv, .ref ta, .int m6, .int a2_24, .int k2_25, .int p2_26, .int v2_27, .long w2_28, .int m12, .int m13, .int m14, .int m15, .ref li, .ref ha, .ref lw, .ref st, .ref fo, .ref dr, .int m22, .ref ik, .int m24, .int m25, .long m26, .int m27, .int m28, .ref ro, .int m30, .ref ct, .ref se, .ref th, .ref cn, .ref be, .int m36, .ref du, .int m38, .ref db, .int m40, .int m41, .int m42, .ref pn, .ref wg, .ref wh, .ref tn, .ref he, .int m48, .ref tr, .ref fd, .ref po, .int m52, .int m53]) := ha_0
        have hq29 := hp
        refine lv_aload_n hx hb dX10_lawLine_108 rfl (lv_at hl 1 rfl) ?_
        refine z_get (C := RX10) (T := TX10) (N := 54) (ci := 10) (v := .ref lw) hx hb hT zin_X10 hown hK hw hm_mm hf_mm rfl 18 (by decide) (hT _ kw_1186) rfl dX10_lawLine_109 ?_
        refine lv_bipush (v := 20) hx hb dX10_lawLine_112 (by decide) ?_
        refine lv_iload_n hx hb dX10_lawLine_114 rfl (lv_at hl 0 rfl) ?_
        refine lv_iconst (v := 2) hx hb dX10_lawLine_115 (by decide) ?_
        refine lv_idiv hx hb dX10_lawLine_116 (by decide) ?_
        refine lv_topi (fun w30 e_w30 => ?_)
        have i_w30 : w30.toInt = 1 / 2 := z_div e_w30 (show (1 : Int32).toInt = 1 by decide) (show (2 : Int32).toInt = 2 by decide) (by omega)
        refine lv_iadd hx hb dX10_lawLine_117 ?_
        refine lv_topi (fun w31 e_w31 => ?_)
        have i_w31 : w31.toInt = (20 + (1 / 2)) := z_add e_w31 (show (20 : Int32).toInt = 20 by decide) i_w30 (by omega)
        refine lv_iload_n hx hb dX10_lawLine_118 rfl (lv_at hl 0 rfl) ?_
        refine lv_iconst (v := 2) hx hb dX10_lawLine_119 (by decide) ?_
        refine lv_irem hx hb dX10_lawLine_120 (by decide) ?_
        refine lv_topi (fun w32 e_w32 => ?_)
        have i_w32 : w32.toInt = (1 % 2) := z_remI e_w32 (show (1 : Int32).toInt = 1 by decide) (show (2 : Int32).toInt = 2 by decide) (by omega)
        refine z_iast hx hb hK hw 1 hm_lw hf_lw rfl (z_ix i_w31 (by omega)) dX10_lawLine_121 (fun H locs hw => ?_)
        obtain ⟨f34, e_f34⟩ : ∃ z, z = va_up f23 lw (.inl (cy 1, 25, .inl (upd glw w31.toNatClampNeg w32))) := ⟨_, rfl⟩
        rw [← e_f34] at hw
        have hf_mm : f34 mm = .inr (10, [.int m0, .ref wd, .ref my, .ref ce, .ref mv, .ref ta, .int m6, .int a2_24, .int k2_25, .int p2_26, .int v2_27, .long w2_28, .int m12, .int m13, .int m14, .int m15, .ref li, .ref ha, .ref lw, .ref st, .ref fo, .ref dr, .int m22, .ref ik, .int m24, .int m25, .long m26, .int m27, .int m28, .ref ro, .int m30, .ref ct, .ref se, .ref th, .ref cn, .ref be, .int m36, .ref du, .int m38, .ref db, .int m40, .int m41, .int m42, .ref pn, .ref wg, .ref wh, .ref tn, .ref he, .int m48, .ref tr, .ref fd, .ref po, .int m52, .int m53]) := (congrFun e_f34 mm).trans (z_up_ne (z_tne hf_mm hf_lw (m := 10) (n := 300) rfl rfl (by decide)) hf_mm)
        have hf_ta : f34 ta = .inl (cy 0, 1600, .inl gta) := (congrFun e_f34 ta).trans (z_up_ne (z_tne hf_ta hf_lw (m := 12900) (n := 300) rfl rfl (by decide)) hf_ta)
        have hf_lw : f34 lw = .inl (cy 1, 25, .inl (upd glw w31.toNatClampNeg w32)) := (congrFun e_f34 lw).trans z_up_self
        have hfr : ∀ b ∈ L, b ≠ mm → b ≠ lw → f34 b = f b := fun b hb h0 h1 => (congrFun e_f34 b).trans (z_up_ne h1 (hfr b hb h0 h1))
        obtain ⟨g33, e_g33⟩ : ∃ z, z = (upd glw w31.toNatClampNeg w32) := ⟨_, rfl⟩
        rw [← e_g33] at hf_lw
        have hq_lw : ∀ j : Nat, (q_lawR lz) j (g33 j) := z_updQ hq_lw e_g33 (show q_lawR _ _ _ from ⟨(show 0 ≤ (w32).toInt ∧ (w32).toInt ≤ 999 by first | decide | omega), fun h => absurd h (z_nlt i_w31 (by omega))⟩)
        exact z_vret hx hb hr hlk (by decide) (by decide) hw (⟨hsub, hfr, a2_24, k2_25, p2_26, v2_27, m12, m13, w2_28, g33, hf_mm, hf_lw, hq_lw, by omega, by omega, by omega, by omega, z_upd_ne e_g33 (z_nix i_w31 (by omega))⟩) dX10_lawLine_122
      · skip
        exact z_vret hx hb hr hlk (by decide) (by decide) hw (⟨hsub, hfr, m7, m8, m9, m10, m12, m13, m11, glw, hf_mm, hf_lw, hq_lw, by omega, by omega, by omega, by omega, rfl⟩) dX10_lawLine_103
    · skip
      refine z_if_eq (tgt := 28) hx hb (show (0 : Int32).toInt = 0 by decide) dX10_lawLine_21 (by decide) (fun _ => ?_) (fun h => absurd h (by decide))
      refine lv_aload_n hx hb dX10_lawLine_28 rfl (lv_at hl 0 rfl) ?_
      refine lv_ldc2 (v := 220309) hx hb hown (hT _ kw_1456) dX10_lawLine_29 ?_
      have hz35 := (show (220309 : Int64).toInt = 220309 by decide)
      refine z_calliV (cells := 0) (slots := 0) (b := mm) (As := [.long 220309]) (rest := []) (ci := 10) (q0 := (RX10, TX10, 54)) ⟨hx, hb, hml, hown, hT⟩ (c_X10_is l hm_mm hf_mm) (cwV 1 hT (z_goodV (fun _ h => h) kw_1407 kw_1409 kw_39 kw_96 kw_1410) rfl rfl rfl (by decide +kernel) ⟨by decide, by decide⟩) z_mv hKK hK hw hA hm_mm hf_mm rfl rfl rfl hl.1 rfl (Nat.le_of_ble_eq_true rfl) dX10_lawLine_32 ⟨by decide, by decide⟩ (fun r36 u H locs hp hw => ?_)
      obtain ⟨rfl, hp⟩ := hp
      have hw : z_H D vwCl (z_A L sz) s.heap L f H locs := hw
      rcases hp with ⟨rfl, h37⟩ | ⟨rfl, h37⟩
      · skip
        refine z_if_eq (tgt := 42) hx hb (show (1 : Int32).toInt = 1 by decide) dX10_lawLine_35 (by decide) (fun h => absurd h (by decide)) (fun _ => ?_)
        refine lv_iconst (v := 2) hx hb dX10_lawLine_38 (by decide) ?_
        refine lv_goto (tgt := 85) hx hb dX10_lawLine_39 (by decide) ?_
        refine lv_istore_n (lv' := [(1, .int 2), (0, .ref mm)]) hx hb dX10_lawLine_85 rfl hl (by decide) rfl (fun ls hl => ?_)
        refine lv_iload_n hx hb dX10_lawLine_86 rfl (lv_at hl 0 rfl) ?_
        refine lv_iconst (v := (-1)) hx hb dX10_lawLine_87 (by decide) ?_
        refine z_icmp_ne (tgt := 96) hx hb (show (2 : Int32).toInt = 2 by decide) (show ((-1) : Int32).toInt = (-1) by decide) dX10_lawLine_88 (by decide) (fun _ => ?_) (fun h => absurd h (by decide))
        refine lv_aload_n hx hb dX10_lawLine_96 rfl (lv_at hl 1 rfl) ?_
        refine z_get (C := RX10) (T := TX10) (N := 54) (ci := 10) (v := .int m12) hx hb hT zin_X10 hown hK hw hm_mm hf_mm rfl 12 (by decide) (hT _ kw_1180) rfl dX10_lawLine_97 ?_
        refine z_if_eq (tgt := 104) hx hb rfl dX10_lawLine_100 (by decide) (fun c38 => ?_) (fun c38 => ?_)
        · skip
          refine lv_aload_n hx hb dX10_lawLine_104 rfl (lv_at hl 1 rfl) ?_
          refine z_callvV (cells := 0) (slots := 0) (b := mm) (As := []) (rest := []) (ci := 10) (q0 := (RX10, TX10, 54)) ⟨hx, hb, hml, hown, hT⟩ (c_X10_next l hm_mm hm_ta hf_mm hf_ta (by first | omega | decide | assumption) (by first | omega | decide | assumption)) (cwV 0 hT (z_goodV (fun _ h => h) kw_1381 kw_1383 kw_34 kw_96 kw_1384) rfl rfl rfl (by decide +kernel) ⟨by decide, by decide⟩) z_mv hKK hK hw hA hm_mm hf_mm rfl rfl rfl hl.1 rfl (Nat.le_of_ble_eq_true rfl) dX10_lawLine_105 ⟨by decide, by decide⟩ (fun u H locs hp hw => ?_)
          obtain ⟨L39, f40⟩ := u
          obtain ⟨hsb, hfm, a2_41, k2_42, p2_43, v2_44, w2_45, ha_0, hp⟩ := hp
          have hsb : L = L39 := hsb
          subst hsb
          have hsb : ∀ b ∈ L, b ∈ L := fun _ h => h
          have hw : z_H D vwCl (z_A L sz) s.heap L f40 H locs := hw
          have hfr : ∀ b ∈ L, b ≠ mm → b ≠ lw → f40 b = f b := fun b hb h0 h1 => (hfm b hb h0).trans (hfr b hb h0 h1)
          have hf_ta : f40 ta = .inl (cy 0, 1600, .inl gta) := (hfm ta hm_ta (z_tne hf_ta hf_mm (m := 12900) (n := 10) rfl rfl (by decide))).trans hf_ta
          have hf_lw : f40 lw = .inl (cy 1, 25, .inl glw) := (hfm lw hm_lw (z_tne hf_lw hf_mm (m := 300) (n := 10) rfl rfl (by decide))).trans hf_lw
          have hf_mm : f40 mm = .inr (10, [.int m0, .ref wd, .ref my, .ref ce, .ref mv, .ref ta, .int m6, .int a2_41, .int k2_42, .int p2_43, .int v2_44, .long w2_45, .int m12, .int m13, .int m14, .int m15, .ref li, .ref ha, .ref lw, .ref st, .ref fo, .ref dr, .int m22, .ref ik, .int m24, .int m25, .long m26, .int m27, .int m28, .ref ro, .int m30, .ref ct, .ref se, .ref th, .ref cn, .ref be, .int m36, .ref du, .int m38, .ref db, .int m40, .int m41, .int m42, .ref pn, .ref wg, .ref wh, .ref tn, .ref he, .int m48, .ref tr, .ref fd, .ref po, .int m52, .int m53]) := ha_0
          have hq46 := hp
          refine lv_aload_n hx hb dX10_lawLine_108 rfl (lv_at hl 1 rfl) ?_
          refine z_get (C := RX10) (T := TX10) (N := 54) (ci := 10) (v := .ref lw) hx hb hT zin_X10 hown hK hw hm_mm hf_mm rfl 18 (by decide) (hT _ kw_1186) rfl dX10_lawLine_109 ?_
          refine lv_bipush (v := 20) hx hb dX10_lawLine_112 (by decide) ?_
          refine lv_iload_n hx hb dX10_lawLine_114 rfl (lv_at hl 0 rfl) ?_
          refine lv_iconst (v := 2) hx hb dX10_lawLine_115 (by decide) ?_
          refine lv_idiv hx hb dX10_lawLine_116 (by decide) ?_
          refine lv_topi (fun w47 e_w47 => ?_)
          have i_w47 : w47.toInt = 2 / 2 := z_div e_w47 (show (2 : Int32).toInt = 2 by decide) (show (2 : Int32).toInt = 2 by decide) (by omega)
          refine lv_iadd hx hb dX10_lawLine_117 ?_
          refine lv_topi (fun w48 e_w48 => ?_)
          have i_w48 : w48.toInt = (20 + (2 / 2)) := z_add e_w48 (show (20 : Int32).toInt = 20 by decide) i_w47 (by omega)
          refine lv_iload_n hx hb dX10_lawLine_118 rfl (lv_at hl 0 rfl) ?_
          refine lv_iconst (v := 2) hx hb dX10_lawLine_119 (by decide) ?_
          refine lv_irem hx hb dX10_lawLine_120 (by decide) ?_
          refine lv_topi (fun w49 e_w49 => ?_)
          have i_w49 : w49.toInt = (2 % 2) := z_remI e_w49 (show (2 : Int32).toInt = 2 by decide) (show (2 : Int32).toInt = 2 by decide) (by omega)
          refine z_iast hx hb hK hw 1 hm_lw hf_lw rfl (z_ix i_w48 (by omega)) dX10_lawLine_121 (fun H locs hw => ?_)
          obtain ⟨f51, e_f51⟩ : ∃ z, z = va_up f40 lw (.inl (cy 1, 25, .inl (upd glw w48.toNatClampNeg w49))) := ⟨_, rfl⟩
          rw [← e_f51] at hw
          have hf_mm : f51 mm = .inr (10, [.int m0, .ref wd, .ref my, .ref ce, .ref mv, .ref ta, .int m6, .int a2_41, .int k2_42, .int p2_43, .int v2_44, .long w2_45, .int m12, .int m13, .int m14, .int m15, .ref li, .ref ha, .ref lw, .ref st, .ref fo, .ref dr, .int m22, .ref ik, .int m24, .int m25, .long m26, .int m27, .int m28, .ref ro, .int m30, .ref ct, .ref se, .ref th, .ref cn, .ref be, .int m36, .ref du, .int m38, .ref db, .int m40, .int m41, .int m42, .ref pn, .ref wg, .ref wh, .ref tn, .ref he, .int m48, .ref tr, .ref fd, .ref po, .int m52, .int m53]) := (congrFun e_f51 mm).trans (z_up_ne (z_tne hf_mm hf_lw (m := 10) (n := 300) rfl rfl (by decide)) hf_mm)
          have hf_ta : f51 ta = .inl (cy 0, 1600, .inl gta) := (congrFun e_f51 ta).trans (z_up_ne (z_tne hf_ta hf_lw (m := 12900) (n := 300) rfl rfl (by decide)) hf_ta)
          have hf_lw : f51 lw = .inl (cy 1, 25, .inl (upd glw w48.toNatClampNeg w49)) := (congrFun e_f51 lw).trans z_up_self
          have hfr : ∀ b ∈ L, b ≠ mm → b ≠ lw → f51 b = f b := fun b hb h0 h1 => (congrFun e_f51 b).trans (z_up_ne h1 (hfr b hb h0 h1))
          obtain ⟨g50, e_g50⟩ : ∃ z, z = (upd glw w48.toNatClampNeg w49) := ⟨_, rfl⟩
          rw [← e_g50] at hf_lw
          have hq_lw : ∀ j : Nat, (q_lawR lz) j (g50 j) := z_updQ hq_lw e_g50 (show q_lawR _ _ _ from ⟨(show 0 ≤ (w49).toInt ∧ (w49).toInt ≤ 999 by first | decide | omega), fun h => absurd h (z_nlt i_w48 (by omega))⟩)
          exact z_vret hx hb hr hlk (by decide) (by decide) hw (⟨hsub, hfr, a2_41, k2_42, p2_43, v2_44, m12, m13, w2_45, g50, hf_mm, hf_lw, hq_lw, by omega, by omega, by omega, by omega, z_upd_ne e_g50 (z_nix i_w48 (by omega))⟩) dX10_lawLine_122
        · skip
          exact z_vret hx hb hr hlk (by decide) (by decide) hw (⟨hsub, hfr, m7, m8, m9, m10, m12, m13, m11, glw, hf_mm, hf_lw, hq_lw, by omega, by omega, by omega, by omega, rfl⟩) dX10_lawLine_103
      · skip
        refine z_if_eq (tgt := 42) hx hb (show (0 : Int32).toInt = 0 by decide) dX10_lawLine_35 (by decide) (fun _ => ?_) (fun h => absurd h (by decide))
        refine lv_aload_n hx hb dX10_lawLine_42 rfl (lv_at hl 0 rfl) ?_
        refine lv_ldc2 (v := 1834209) hx hb hown (hT _ kw_1457) dX10_lawLine_43 ?_
        have hz52 := (show (1834209 : Int64).toInt = 1834209 by decide)
        refine z_calliV (cells := 0) (slots := 0) (b := mm) (As := [.long 1834209]) (rest := []) (ci := 10) (q0 := (RX10, TX10, 54)) ⟨hx, hb, hml, hown, hT⟩ (c_X10_is l hm_mm hf_mm) (cwV 1 hT (z_goodV (fun _ h => h) kw_1407 kw_1409 kw_39 kw_96 kw_1410) rfl rfl rfl (by decide +kernel) ⟨by decide, by decide⟩) z_mv hKK hK hw hA hm_mm hf_mm rfl rfl rfl hl.1 rfl (Nat.le_of_ble_eq_true rfl) dX10_lawLine_46 ⟨by decide, by decide⟩ (fun r53 u H locs hp hw => ?_)
        obtain ⟨rfl, hp⟩ := hp
        have hw : z_H D vwCl (z_A L sz) s.heap L f H locs := hw
        rcases hp with ⟨rfl, h54⟩ | ⟨rfl, h54⟩
        · skip
          refine z_if_eq (tgt := 56) hx hb (show (1 : Int32).toInt = 1 by decide) dX10_lawLine_49 (by decide) (fun h => absurd h (by decide)) (fun _ => ?_)
          refine lv_iconst (v := 3) hx hb dX10_lawLine_52 (by decide) ?_
          refine lv_goto (tgt := 85) hx hb dX10_lawLine_53 (by decide) ?_
          refine lv_istore_n (lv' := [(1, .int 3), (0, .ref mm)]) hx hb dX10_lawLine_85 rfl hl (by decide) rfl (fun ls hl => ?_)
          refine lv_iload_n hx hb dX10_lawLine_86 rfl (lv_at hl 0 rfl) ?_
          refine lv_iconst (v := (-1)) hx hb dX10_lawLine_87 (by decide) ?_
          refine z_icmp_ne (tgt := 96) hx hb (show (3 : Int32).toInt = 3 by decide) (show ((-1) : Int32).toInt = (-1) by decide) dX10_lawLine_88 (by decide) (fun _ => ?_) (fun h => absurd h (by decide))
          refine lv_aload_n hx hb dX10_lawLine_96 rfl (lv_at hl 1 rfl) ?_
          refine z_get (C := RX10) (T := TX10) (N := 54) (ci := 10) (v := .int m12) hx hb hT zin_X10 hown hK hw hm_mm hf_mm rfl 12 (by decide) (hT _ kw_1180) rfl dX10_lawLine_97 ?_
          refine z_if_eq (tgt := 104) hx hb rfl dX10_lawLine_100 (by decide) (fun c55 => ?_) (fun c55 => ?_)
          · skip
            refine lv_aload_n hx hb dX10_lawLine_104 rfl (lv_at hl 1 rfl) ?_
            refine z_callvV (cells := 0) (slots := 0) (b := mm) (As := []) (rest := []) (ci := 10) (q0 := (RX10, TX10, 54)) ⟨hx, hb, hml, hown, hT⟩ (c_X10_next l hm_mm hm_ta hf_mm hf_ta (by first | omega | decide | assumption) (by first | omega | decide | assumption)) (cwV 0 hT (z_goodV (fun _ h => h) kw_1381 kw_1383 kw_34 kw_96 kw_1384) rfl rfl rfl (by decide +kernel) ⟨by decide, by decide⟩) z_mv hKK hK hw hA hm_mm hf_mm rfl rfl rfl hl.1 rfl (Nat.le_of_ble_eq_true rfl) dX10_lawLine_105 ⟨by decide, by decide⟩ (fun u H locs hp hw => ?_)
            obtain ⟨L56, f57⟩ := u
            obtain ⟨hsb, hfm, a2_58, k2_59, p2_60, v2_61, w2_62, ha_0, hp⟩ := hp
            have hsb : L = L56 := hsb
            subst hsb
            have hsb : ∀ b ∈ L, b ∈ L := fun _ h => h
            have hw : z_H D vwCl (z_A L sz) s.heap L f57 H locs := hw
            have hfr : ∀ b ∈ L, b ≠ mm → b ≠ lw → f57 b = f b := fun b hb h0 h1 => (hfm b hb h0).trans (hfr b hb h0 h1)
            have hf_ta : f57 ta = .inl (cy 0, 1600, .inl gta) := (hfm ta hm_ta (z_tne hf_ta hf_mm (m := 12900) (n := 10) rfl rfl (by decide))).trans hf_ta
            have hf_lw : f57 lw = .inl (cy 1, 25, .inl glw) := (hfm lw hm_lw (z_tne hf_lw hf_mm (m := 300) (n := 10) rfl rfl (by decide))).trans hf_lw
            have hf_mm : f57 mm = .inr (10, [.int m0, .ref wd, .ref my, .ref ce, .ref mv, .ref ta, .int m6, .int a2_58, .int k2_59, .int p2_60, .int v2_61, .long w2_62, .int m12, .int m13, .int m14, .int m15, .ref li, .ref ha, .ref lw, .ref st, .ref fo, .ref dr, .int m22, .ref ik, .int m24, .int m25, .long m26, .int m27, .int m28, .ref ro, .int m30, .ref ct, .ref se, .ref th, .ref cn, .ref be, .int m36, .ref du, .int m38, .ref db, .int m40, .int m41, .int m42, .ref pn, .ref wg, .ref wh, .ref tn, .ref he, .int m48, .ref tr, .ref fd, .ref po, .int m52, .int m53]) := ha_0
            have hq63 := hp
            refine lv_aload_n hx hb dX10_lawLine_108 rfl (lv_at hl 1 rfl) ?_
            refine z_get (C := RX10) (T := TX10) (N := 54) (ci := 10) (v := .ref lw) hx hb hT zin_X10 hown hK hw hm_mm hf_mm rfl 18 (by decide) (hT _ kw_1186) rfl dX10_lawLine_109 ?_
            refine lv_bipush (v := 20) hx hb dX10_lawLine_112 (by decide) ?_
            refine lv_iload_n hx hb dX10_lawLine_114 rfl (lv_at hl 0 rfl) ?_
            refine lv_iconst (v := 2) hx hb dX10_lawLine_115 (by decide) ?_
            refine lv_idiv hx hb dX10_lawLine_116 (by decide) ?_
            refine lv_topi (fun w64 e_w64 => ?_)
            have i_w64 : w64.toInt = 3 / 2 := z_div e_w64 (show (3 : Int32).toInt = 3 by decide) (show (2 : Int32).toInt = 2 by decide) (by omega)
            refine lv_iadd hx hb dX10_lawLine_117 ?_
            refine lv_topi (fun w65 e_w65 => ?_)
            have i_w65 : w65.toInt = (20 + (3 / 2)) := z_add e_w65 (show (20 : Int32).toInt = 20 by decide) i_w64 (by omega)
            refine lv_iload_n hx hb dX10_lawLine_118 rfl (lv_at hl 0 rfl) ?_
            refine lv_iconst (v := 2) hx hb dX10_lawLine_119 (by decide) ?_
            refine lv_irem hx hb dX10_lawLine_120 (by decide) ?_
            refine lv_topi (fun w66 e_w66 => ?_)
            have i_w66 : w66.toInt = (3 % 2) := z_remI e_w66 (show (3 : Int32).toInt = 3 by decide) (show (2 : Int32).toInt = 2 by decide) (by omega)
            refine z_iast hx hb hK hw 1 hm_lw hf_lw rfl (z_ix i_w65 (by omega)) dX10_lawLine_121 (fun H locs hw => ?_)
            obtain ⟨f68, e_f68⟩ : ∃ z, z = va_up f57 lw (.inl (cy 1, 25, .inl (upd glw w65.toNatClampNeg w66))) := ⟨_, rfl⟩
            rw [← e_f68] at hw
            have hf_mm : f68 mm = .inr (10, [.int m0, .ref wd, .ref my, .ref ce, .ref mv, .ref ta, .int m6, .int a2_58, .int k2_59, .int p2_60, .int v2_61, .long w2_62, .int m12, .int m13, .int m14, .int m15, .ref li, .ref ha, .ref lw, .ref st, .ref fo, .ref dr, .int m22, .ref ik, .int m24, .int m25, .long m26, .int m27, .int m28, .ref ro, .int m30, .ref ct, .ref se, .ref th, .ref cn, .ref be, .int m36, .ref du, .int m38, .ref db, .int m40, .int m41, .int m42, .ref pn, .ref wg, .ref wh, .ref tn, .ref he, .int m48, .ref tr, .ref fd, .ref po, .int m52, .int m53]) := (congrFun e_f68 mm).trans (z_up_ne (z_tne hf_mm hf_lw (m := 10) (n := 300) rfl rfl (by decide)) hf_mm)
            have hf_ta : f68 ta = .inl (cy 0, 1600, .inl gta) := (congrFun e_f68 ta).trans (z_up_ne (z_tne hf_ta hf_lw (m := 12900) (n := 300) rfl rfl (by decide)) hf_ta)
            have hf_lw : f68 lw = .inl (cy 1, 25, .inl (upd glw w65.toNatClampNeg w66)) := (congrFun e_f68 lw).trans z_up_self
            have hfr : ∀ b ∈ L, b ≠ mm → b ≠ lw → f68 b = f b := fun b hb h0 h1 => (congrFun e_f68 b).trans (z_up_ne h1 (hfr b hb h0 h1))
            obtain ⟨g67, e_g67⟩ : ∃ z, z = (upd glw w65.toNatClampNeg w66) := ⟨_, rfl⟩
            rw [← e_g67] at hf_lw
            have hq_lw : ∀ j : Nat, (q_lawR lz) j (g67 j) := z_updQ hq_lw e_g67 (show q_lawR _ _ _ from ⟨(show 0 ≤ (w66).toInt ∧ (w66).toInt ≤ 999 by first | decide | omega), fun h => absurd h (z_nlt i_w65 (by omega))⟩)
            exact z_vret hx hb hr hlk (by decide) (by decide) hw (⟨hsub, hfr, a2_58, k2_59, p2_60, v2_61, m12, m13, w2_62, g67, hf_mm, hf_lw, hq_lw, by omega, by omega, by omega, by omega, z_upd_ne e_g67 (z_nix i_w65 (by omega))⟩) dX10_lawLine_122
          · skip
            exact z_vret hx hb hr hlk (by decide) (by decide) hw (⟨hsub, hfr, m7, m8, m9, m10, m12, m13, m11, glw, hf_mm, hf_lw, hq_lw, by omega, by omega, by omega, by omega, rfl⟩) dX10_lawLine_103
        · skip
          refine z_if_eq (tgt := 56) hx hb (show (0 : Int32).toInt = 0 by decide) dX10_lawLine_49 (by decide) (fun _ => ?_) (fun h => absurd h (by decide))
          refine lv_aload_n hx hb dX10_lawLine_56 rfl (lv_at hl 0 rfl) ?_
          refine lv_ldc2 (v := 1905275) hx hb hown (hT _ kw_1458) dX10_lawLine_57 ?_
          have hz69 := (show (1905275 : Int64).toInt = 1905275 by decide)
          refine z_calliV (cells := 0) (slots := 0) (b := mm) (As := [.long 1905275]) (rest := []) (ci := 10) (q0 := (RX10, TX10, 54)) ⟨hx, hb, hml, hown, hT⟩ (c_X10_is l hm_mm hf_mm) (cwV 1 hT (z_goodV (fun _ h => h) kw_1407 kw_1409 kw_39 kw_96 kw_1410) rfl rfl rfl (by decide +kernel) ⟨by decide, by decide⟩) z_mv hKK hK hw hA hm_mm hf_mm rfl rfl rfl hl.1 rfl (Nat.le_of_ble_eq_true rfl) dX10_lawLine_60 ⟨by decide, by decide⟩ (fun r70 u H locs hp hw => ?_)
          obtain ⟨rfl, hp⟩ := hp
          have hw : z_H D vwCl (z_A L sz) s.heap L f H locs := hw
          rcases hp with ⟨rfl, h71⟩ | ⟨rfl, h71⟩
          · skip
            refine z_if_eq (tgt := 70) hx hb (show (1 : Int32).toInt = 1 by decide) dX10_lawLine_63 (by decide) (fun h => absurd h (by decide)) (fun _ => ?_)
            refine lv_iconst (v := 4) hx hb dX10_lawLine_66 (by decide) ?_
            refine lv_goto (tgt := 85) hx hb dX10_lawLine_67 (by decide) ?_
            refine lv_istore_n (lv' := [(1, .int 4), (0, .ref mm)]) hx hb dX10_lawLine_85 rfl hl (by decide) rfl (fun ls hl => ?_)
            refine lv_iload_n hx hb dX10_lawLine_86 rfl (lv_at hl 0 rfl) ?_
            refine lv_iconst (v := (-1)) hx hb dX10_lawLine_87 (by decide) ?_
            refine z_icmp_ne (tgt := 96) hx hb (show (4 : Int32).toInt = 4 by decide) (show ((-1) : Int32).toInt = (-1) by decide) dX10_lawLine_88 (by decide) (fun _ => ?_) (fun h => absurd h (by decide))
            refine lv_aload_n hx hb dX10_lawLine_96 rfl (lv_at hl 1 rfl) ?_
            refine z_get (C := RX10) (T := TX10) (N := 54) (ci := 10) (v := .int m12) hx hb hT zin_X10 hown hK hw hm_mm hf_mm rfl 12 (by decide) (hT _ kw_1180) rfl dX10_lawLine_97 ?_
            refine z_if_eq (tgt := 104) hx hb rfl dX10_lawLine_100 (by decide) (fun c72 => ?_) (fun c72 => ?_)
            · skip
              refine lv_aload_n hx hb dX10_lawLine_104 rfl (lv_at hl 1 rfl) ?_
              refine z_callvV (cells := 0) (slots := 0) (b := mm) (As := []) (rest := []) (ci := 10) (q0 := (RX10, TX10, 54)) ⟨hx, hb, hml, hown, hT⟩ (c_X10_next l hm_mm hm_ta hf_mm hf_ta (by first | omega | decide | assumption) (by first | omega | decide | assumption)) (cwV 0 hT (z_goodV (fun _ h => h) kw_1381 kw_1383 kw_34 kw_96 kw_1384) rfl rfl rfl (by decide +kernel) ⟨by decide, by decide⟩) z_mv hKK hK hw hA hm_mm hf_mm rfl rfl rfl hl.1 rfl (Nat.le_of_ble_eq_true rfl) dX10_lawLine_105 ⟨by decide, by decide⟩ (fun u H locs hp hw => ?_)
              obtain ⟨L73, f74⟩ := u
              obtain ⟨hsb, hfm, a2_75, k2_76, p2_77, v2_78, w2_79, ha_0, hp⟩ := hp
              have hsb : L = L73 := hsb
              subst hsb
              have hsb : ∀ b ∈ L, b ∈ L := fun _ h => h
              have hw : z_H D vwCl (z_A L sz) s.heap L f74 H locs := hw
              have hfr : ∀ b ∈ L, b ≠ mm → b ≠ lw → f74 b = f b := fun b hb h0 h1 => (hfm b hb h0).trans (hfr b hb h0 h1)
              have hf_ta : f74 ta = .inl (cy 0, 1600, .inl gta) := (hfm ta hm_ta (z_tne hf_ta hf_mm (m := 12900) (n := 10) rfl rfl (by decide))).trans hf_ta
              have hf_lw : f74 lw = .inl (cy 1, 25, .inl glw) := (hfm lw hm_lw (z_tne hf_lw hf_mm (m := 300) (n := 10) rfl rfl (by decide))).trans hf_lw
              have hf_mm : f74 mm = .inr (10, [.int m0, .ref wd, .ref my, .ref ce, .ref mv, .ref ta, .int m6, .int a2_75, .int k2_76, .int p2_77, .int v2_78, .long w2_79, .int m12, .int m13, .int m14, .int m15, .ref li, .ref ha, .ref lw, .ref st, .ref fo, .ref dr, .int m22, .ref ik, .int m24, .int m25, .long m26, .int m27, .int m28, .ref ro, .int m30, .ref ct, .ref se, .ref th, .ref cn, .ref be, .int m36, .ref du, .int m38, .ref db, .int m40, .int m41, .int m42, .ref pn, .ref wg, .ref wh, .ref tn, .ref he, .int m48, .ref tr, .ref fd, .ref po, .int m52, .int m53]) := ha_0
              have hq80 := hp
              refine lv_aload_n hx hb dX10_lawLine_108 rfl (lv_at hl 1 rfl) ?_
              refine z_get (C := RX10) (T := TX10) (N := 54) (ci := 10) (v := .ref lw) hx hb hT zin_X10 hown hK hw hm_mm hf_mm rfl 18 (by decide) (hT _ kw_1186) rfl dX10_lawLine_109 ?_
              refine lv_bipush (v := 20) hx hb dX10_lawLine_112 (by decide) ?_
              refine lv_iload_n hx hb dX10_lawLine_114 rfl (lv_at hl 0 rfl) ?_
              refine lv_iconst (v := 2) hx hb dX10_lawLine_115 (by decide) ?_
              refine lv_idiv hx hb dX10_lawLine_116 (by decide) ?_
              refine lv_topi (fun w81 e_w81 => ?_)
              have i_w81 : w81.toInt = 4 / 2 := z_div e_w81 (show (4 : Int32).toInt = 4 by decide) (show (2 : Int32).toInt = 2 by decide) (by omega)
              refine lv_iadd hx hb dX10_lawLine_117 ?_
              refine lv_topi (fun w82 e_w82 => ?_)
              have i_w82 : w82.toInt = (20 + (4 / 2)) := z_add e_w82 (show (20 : Int32).toInt = 20 by decide) i_w81 (by omega)
              refine lv_iload_n hx hb dX10_lawLine_118 rfl (lv_at hl 0 rfl) ?_
              refine lv_iconst (v := 2) hx hb dX10_lawLine_119 (by decide) ?_
              refine lv_irem hx hb dX10_lawLine_120 (by decide) ?_
              refine lv_topi (fun w83 e_w83 => ?_)
              have i_w83 : w83.toInt = (4 % 2) := z_remI e_w83 (show (4 : Int32).toInt = 4 by decide) (show (2 : Int32).toInt = 2 by decide) (by omega)
              refine z_iast hx hb hK hw 1 hm_lw hf_lw rfl (z_ix i_w82 (by omega)) dX10_lawLine_121 (fun H locs hw => ?_)
              obtain ⟨f85, e_f85⟩ : ∃ z, z = va_up f74 lw (.inl (cy 1, 25, .inl (upd glw w82.toNatClampNeg w83))) := ⟨_, rfl⟩
              rw [← e_f85] at hw
              have hf_mm : f85 mm = .inr (10, [.int m0, .ref wd, .ref my, .ref ce, .ref mv, .ref ta, .int m6, .int a2_75, .int k2_76, .int p2_77, .int v2_78, .long w2_79, .int m12, .int m13, .int m14, .int m15, .ref li, .ref ha, .ref lw, .ref st, .ref fo, .ref dr, .int m22, .ref ik, .int m24, .int m25, .long m26, .int m27, .int m28, .ref ro, .int m30, .ref ct, .ref se, .ref th, .ref cn, .ref be, .int m36, .ref du, .int m38, .ref db, .int m40, .int m41, .int m42, .ref pn, .ref wg, .ref wh, .ref tn, .ref he, .int m48, .ref tr, .ref fd, .ref po, .int m52, .int m53]) := (congrFun e_f85 mm).trans (z_up_ne (z_tne hf_mm hf_lw (m := 10) (n := 300) rfl rfl (by decide)) hf_mm)
              have hf_ta : f85 ta = .inl (cy 0, 1600, .inl gta) := (congrFun e_f85 ta).trans (z_up_ne (z_tne hf_ta hf_lw (m := 12900) (n := 300) rfl rfl (by decide)) hf_ta)
              have hf_lw : f85 lw = .inl (cy 1, 25, .inl (upd glw w82.toNatClampNeg w83)) := (congrFun e_f85 lw).trans z_up_self
              have hfr : ∀ b ∈ L, b ≠ mm → b ≠ lw → f85 b = f b := fun b hb h0 h1 => (congrFun e_f85 b).trans (z_up_ne h1 (hfr b hb h0 h1))
              obtain ⟨g84, e_g84⟩ : ∃ z, z = (upd glw w82.toNatClampNeg w83) := ⟨_, rfl⟩
              rw [← e_g84] at hf_lw
              have hq_lw : ∀ j : Nat, (q_lawR lz) j (g84 j) := z_updQ hq_lw e_g84 (show q_lawR _ _ _ from ⟨(show 0 ≤ (w83).toInt ∧ (w83).toInt ≤ 999 by first | decide | omega), fun h => absurd h (z_nlt i_w82 (by omega))⟩)
              exact z_vret hx hb hr hlk (by decide) (by decide) hw (⟨hsub, hfr, a2_75, k2_76, p2_77, v2_78, m12, m13, w2_79, g84, hf_mm, hf_lw, hq_lw, by omega, by omega, by omega, by omega, z_upd_ne e_g84 (z_nix i_w82 (by omega))⟩) dX10_lawLine_122
            · skip
              exact z_vret hx hb hr hlk (by decide) (by decide) hw (⟨hsub, hfr, m7, m8, m9, m10, m12, m13, m11, glw, hf_mm, hf_lw, hq_lw, by omega, by omega, by omega, by omega, rfl⟩) dX10_lawLine_103
          · skip
            refine z_if_eq (tgt := 70) hx hb (show (0 : Int32).toInt = 0 by decide) dX10_lawLine_63 (by decide) (fun _ => ?_) (fun h => absurd h (by decide))
            refine lv_aload_n hx hb dX10_lawLine_70 rfl (lv_at hl 0 rfl) ?_
            refine lv_ldc2 (v := 316189) hx hb hown (hT _ kw_1459) dX10_lawLine_71 ?_
            have hz86 := (show (316189 : Int64).toInt = 316189 by decide)
            refine z_calliV (cells := 0) (slots := 0) (b := mm) (As := [.long 316189]) (rest := []) (ci := 10) (q0 := (RX10, TX10, 54)) ⟨hx, hb, hml, hown, hT⟩ (c_X10_is l hm_mm hf_mm) (cwV 1 hT (z_goodV (fun _ h => h) kw_1407 kw_1409 kw_39 kw_96 kw_1410) rfl rfl rfl (by decide +kernel) ⟨by decide, by decide⟩) z_mv hKK hK hw hA hm_mm hf_mm rfl rfl rfl hl.1 rfl (Nat.le_of_ble_eq_true rfl) dX10_lawLine_74 ⟨by decide, by decide⟩ (fun r87 u H locs hp hw => ?_)
            obtain ⟨rfl, hp⟩ := hp
            have hw : z_H D vwCl (z_A L sz) s.heap L f H locs := hw
            rcases hp with ⟨rfl, h88⟩ | ⟨rfl, h88⟩
            · skip
              refine z_if_eq (tgt := 84) hx hb (show (1 : Int32).toInt = 1 by decide) dX10_lawLine_77 (by decide) (fun h => absurd h (by decide)) (fun _ => ?_)
              refine lv_iconst (v := 5) hx hb dX10_lawLine_80 (by decide) ?_
              refine lv_goto (tgt := 85) hx hb dX10_lawLine_81 (by decide) ?_
              refine lv_istore_n (lv' := [(1, .int 5), (0, .ref mm)]) hx hb dX10_lawLine_85 rfl hl (by decide) rfl (fun ls hl => ?_)
              refine lv_iload_n hx hb dX10_lawLine_86 rfl (lv_at hl 0 rfl) ?_
              refine lv_iconst (v := (-1)) hx hb dX10_lawLine_87 (by decide) ?_
              refine z_icmp_ne (tgt := 96) hx hb (show (5 : Int32).toInt = 5 by decide) (show ((-1) : Int32).toInt = (-1) by decide) dX10_lawLine_88 (by decide) (fun _ => ?_) (fun h => absurd h (by decide))
              refine lv_aload_n hx hb dX10_lawLine_96 rfl (lv_at hl 1 rfl) ?_
              refine z_get (C := RX10) (T := TX10) (N := 54) (ci := 10) (v := .int m12) hx hb hT zin_X10 hown hK hw hm_mm hf_mm rfl 12 (by decide) (hT _ kw_1180) rfl dX10_lawLine_97 ?_
              refine z_if_eq (tgt := 104) hx hb rfl dX10_lawLine_100 (by decide) (fun c89 => ?_) (fun c89 => ?_)
              · skip
                refine lv_aload_n hx hb dX10_lawLine_104 rfl (lv_at hl 1 rfl) ?_
                refine z_callvV (cells := 0) (slots := 0) (b := mm) (As := []) (rest := []) (ci := 10) (q0 := (RX10, TX10, 54)) ⟨hx, hb, hml, hown, hT⟩ (c_X10_next l hm_mm hm_ta hf_mm hf_ta (by first | omega | decide | assumption) (by first | omega | decide | assumption)) (cwV 0 hT (z_goodV (fun _ h => h) kw_1381 kw_1383 kw_34 kw_96 kw_1384) rfl rfl rfl (by decide +kernel) ⟨by decide, by decide⟩) z_mv hKK hK hw hA hm_mm hf_mm rfl rfl rfl hl.1 rfl (Nat.le_of_ble_eq_true rfl) dX10_lawLine_105 ⟨by decide, by decide⟩ (fun u H locs hp hw => ?_)
                obtain ⟨L90, f91⟩ := u
                obtain ⟨hsb, hfm, a2_92, k2_93, p2_94, v2_95, w2_96, ha_0, hp⟩ := hp
                have hsb : L = L90 := hsb
                subst hsb
                have hsb : ∀ b ∈ L, b ∈ L := fun _ h => h
                have hw : z_H D vwCl (z_A L sz) s.heap L f91 H locs := hw
                have hfr : ∀ b ∈ L, b ≠ mm → b ≠ lw → f91 b = f b := fun b hb h0 h1 => (hfm b hb h0).trans (hfr b hb h0 h1)
                have hf_ta : f91 ta = .inl (cy 0, 1600, .inl gta) := (hfm ta hm_ta (z_tne hf_ta hf_mm (m := 12900) (n := 10) rfl rfl (by decide))).trans hf_ta
                have hf_lw : f91 lw = .inl (cy 1, 25, .inl glw) := (hfm lw hm_lw (z_tne hf_lw hf_mm (m := 300) (n := 10) rfl rfl (by decide))).trans hf_lw
                have hf_mm : f91 mm = .inr (10, [.int m0, .ref wd, .ref my, .ref ce, .ref mv, .ref ta, .int m6, .int a2_92, .int k2_93, .int p2_94, .int v2_95, .long w2_96, .int m12, .int m13, .int m14, .int m15, .ref li, .ref ha, .ref lw, .ref st, .ref fo, .ref dr, .int m22, .ref ik, .int m24, .int m25, .long m26, .int m27, .int m28, .ref ro, .int m30, .ref ct, .ref se, .ref th, .ref cn, .ref be, .int m36, .ref du, .int m38, .ref db, .int m40, .int m41, .int m42, .ref pn, .ref wg, .ref wh, .ref tn, .ref he, .int m48, .ref tr, .ref fd, .ref po, .int m52, .int m53]) := ha_0
                have hq97 := hp
                refine lv_aload_n hx hb dX10_lawLine_108 rfl (lv_at hl 1 rfl) ?_
                refine z_get (C := RX10) (T := TX10) (N := 54) (ci := 10) (v := .ref lw) hx hb hT zin_X10 hown hK hw hm_mm hf_mm rfl 18 (by decide) (hT _ kw_1186) rfl dX10_lawLine_109 ?_
                refine lv_bipush (v := 20) hx hb dX10_lawLine_112 (by decide) ?_
                refine lv_iload_n hx hb dX10_lawLine_114 rfl (lv_at hl 0 rfl) ?_
                refine lv_iconst (v := 2) hx hb dX10_lawLine_115 (by decide) ?_
                refine lv_idiv hx hb dX10_lawLine_116 (by decide) ?_
                refine lv_topi (fun w98 e_w98 => ?_)
                have i_w98 : w98.toInt = 5 / 2 := z_div e_w98 (show (5 : Int32).toInt = 5 by decide) (show (2 : Int32).toInt = 2 by decide) (by omega)
                refine lv_iadd hx hb dX10_lawLine_117 ?_
                refine lv_topi (fun w99 e_w99 => ?_)
                have i_w99 : w99.toInt = (20 + (5 / 2)) := z_add e_w99 (show (20 : Int32).toInt = 20 by decide) i_w98 (by omega)
                refine lv_iload_n hx hb dX10_lawLine_118 rfl (lv_at hl 0 rfl) ?_
                refine lv_iconst (v := 2) hx hb dX10_lawLine_119 (by decide) ?_
                refine lv_irem hx hb dX10_lawLine_120 (by decide) ?_
                refine lv_topi (fun w100 e_w100 => ?_)
                have i_w100 : w100.toInt = (5 % 2) := z_remI e_w100 (show (5 : Int32).toInt = 5 by decide) (show (2 : Int32).toInt = 2 by decide) (by omega)
                refine z_iast hx hb hK hw 1 hm_lw hf_lw rfl (z_ix i_w99 (by omega)) dX10_lawLine_121 (fun H locs hw => ?_)
                obtain ⟨f102, e_f102⟩ : ∃ z, z = va_up f91 lw (.inl (cy 1, 25, .inl (upd glw w99.toNatClampNeg w100))) := ⟨_, rfl⟩
                rw [← e_f102] at hw
                have hf_mm : f102 mm = .inr (10, [.int m0, .ref wd, .ref my, .ref ce, .ref mv, .ref ta, .int m6, .int a2_92, .int k2_93, .int p2_94, .int v2_95, .long w2_96, .int m12, .int m13, .int m14, .int m15, .ref li, .ref ha, .ref lw, .ref st, .ref fo, .ref dr, .int m22, .ref ik, .int m24, .int m25, .long m26, .int m27, .int m28, .ref ro, .int m30, .ref ct, .ref se, .ref th, .ref cn, .ref be, .int m36, .ref du, .int m38, .ref db, .int m40, .int m41, .int m42, .ref pn, .ref wg, .ref wh, .ref tn, .ref he, .int m48, .ref tr, .ref fd, .ref po, .int m52, .int m53]) := (congrFun e_f102 mm).trans (z_up_ne (z_tne hf_mm hf_lw (m := 10) (n := 300) rfl rfl (by decide)) hf_mm)
                have hf_ta : f102 ta = .inl (cy 0, 1600, .inl gta) := (congrFun e_f102 ta).trans (z_up_ne (z_tne hf_ta hf_lw (m := 12900) (n := 300) rfl rfl (by decide)) hf_ta)
                have hf_lw : f102 lw = .inl (cy 1, 25, .inl (upd glw w99.toNatClampNeg w100)) := (congrFun e_f102 lw).trans z_up_self
                have hfr : ∀ b ∈ L, b ≠ mm → b ≠ lw → f102 b = f b := fun b hb h0 h1 => (congrFun e_f102 b).trans (z_up_ne h1 (hfr b hb h0 h1))
                obtain ⟨g101, e_g101⟩ : ∃ z, z = (upd glw w99.toNatClampNeg w100) := ⟨_, rfl⟩
                rw [← e_g101] at hf_lw
                have hq_lw : ∀ j : Nat, (q_lawR lz) j (g101 j) := z_updQ hq_lw e_g101 (show q_lawR _ _ _ from ⟨(show 0 ≤ (w100).toInt ∧ (w100).toInt ≤ 999 by first | decide | omega), fun h => absurd h (z_nlt i_w99 (by omega))⟩)
                exact z_vret hx hb hr hlk (by decide) (by decide) hw (⟨hsub, hfr, a2_92, k2_93, p2_94, v2_95, m12, m13, w2_96, g101, hf_mm, hf_lw, hq_lw, by omega, by omega, by omega, by omega, z_upd_ne e_g101 (z_nix i_w99 (by omega))⟩) dX10_lawLine_122
              · skip
                exact z_vret hx hb hr hlk (by decide) (by decide) hw (⟨hsub, hfr, m7, m8, m9, m10, m12, m13, m11, glw, hf_mm, hf_lw, hq_lw, by omega, by omega, by omega, by omega, rfl⟩) dX10_lawLine_103
            · skip
              refine z_if_eq (tgt := 84) hx hb (show (0 : Int32).toInt = 0 by decide) dX10_lawLine_77 (by decide) (fun _ => ?_) (fun h => absurd h (by decide))
              refine lv_iconst (v := (-1)) hx hb dX10_lawLine_84 (by decide) ?_
              refine lv_istore_n (lv' := [(1, .int (-1)), (0, .ref mm)]) hx hb dX10_lawLine_85 rfl hl (by decide) rfl (fun ls hl => ?_)
              refine lv_iload_n hx hb dX10_lawLine_86 rfl (lv_at hl 0 rfl) ?_
              refine lv_iconst (v := (-1)) hx hb dX10_lawLine_87 (by decide) ?_
              refine z_icmp_ne (tgt := 96) hx hb (show ((-1) : Int32).toInt = (-1) by decide) (show ((-1) : Int32).toInt = (-1) by decide) dX10_lawLine_88 (by decide) (fun h => absurd h (by decide)) (fun _ => ?_)
              refine lv_aload_n hx hb dX10_lawLine_91 rfl (lv_at hl 1 rfl) ?_
              refine lv_iconst (v := 1) hx hb dX10_lawLine_92 (by decide) ?_
              have hz103 := (show (1 : Int32).toInt = 1 by decide)
              refine z_callvV (cells := 0) (slots := 0) (b := mm) (As := [.int 1]) (rest := []) (ci := 10) (q0 := (RX10, TX10, 54)) ⟨hx, hb, hml, hown, hT⟩ (c_X10_fails l hm_mm hf_mm (by first | omega | decide | assumption)) (cwV 1 hT (z_goodV (fun _ h => h) kw_1411 kw_1413 kw_40 kw_96 kw_1414) rfl rfl rfl (by decide +kernel) ⟨by decide, by decide⟩) z_mv hKK hK hw hA hm_mm hf_mm rfl rfl rfl hl.1 rfl (Nat.le_of_ble_eq_true rfl) dX10_lawLine_93 ⟨by decide, by decide⟩ (fun u H locs hp hw => ?_)
              obtain ⟨L104, f105⟩ := u
              obtain ⟨hsb, hfm, b2_106, p2_107, ha_0, hp⟩ := hp
              have hsb : L = L104 := hsb
              subst hsb
              have hsb : ∀ b ∈ L, b ∈ L := fun _ h => h
              have hw : z_H D vwCl (z_A L sz) s.heap L f105 H locs := hw
              have hfr : ∀ b ∈ L, b ≠ mm → b ≠ lw → f105 b = f b := fun b hb h0 h1 => (hfm b hb h0).trans (hfr b hb h0 h1)
              have hf_ta : f105 ta = .inl (cy 0, 1600, .inl gta) := (hfm ta hm_ta (z_tne hf_ta hf_mm (m := 12900) (n := 10) rfl rfl (by decide))).trans hf_ta
              have hf_lw : f105 lw = .inl (cy 1, 25, .inl glw) := (hfm lw hm_lw (z_tne hf_lw hf_mm (m := 300) (n := 10) rfl rfl (by decide))).trans hf_lw
              have hf_mm : f105 mm = .inr (10, [.int m0, .ref wd, .ref my, .ref ce, .ref mv, .ref ta, .int m6, .int m7, .int m8, .int m9, .int m10, .long m11, .int b2_106, .int p2_107, .int m14, .int m15, .ref li, .ref ha, .ref lw, .ref st, .ref fo, .ref dr, .int m22, .ref ik, .int m24, .int m25, .long m26, .int m27, .int m28, .ref ro, .int m30, .ref ct, .ref se, .ref th, .ref cn, .ref be, .int m36, .ref du, .int m38, .ref db, .int m40, .int m41, .int m42, .ref pn, .ref wg, .ref wh, .ref tn, .ref he, .int m48, .ref tr, .ref fd, .ref po, .int m52, .int m53]) := ha_0
              have hq108 := hp
              refine lv_aload_n hx hb dX10_lawLine_96 rfl (lv_at hl 1 rfl) ?_
              refine z_get (C := RX10) (T := TX10) (N := 54) (ci := 10) (v := .int b2_106) hx hb hT zin_X10 hown hK hw hm_mm hf_mm rfl 12 (by decide) (hT _ kw_1180) rfl dX10_lawLine_97 ?_
              refine z_if_eq (tgt := 104) hx hb rfl dX10_lawLine_100 (by decide) (fun c109 => ?_) (fun c109 => ?_)
              · skip
                refine lv_aload_n hx hb dX10_lawLine_104 rfl (lv_at hl 1 rfl) ?_
                refine z_callvV (cells := 0) (slots := 0) (b := mm) (As := []) (rest := []) (ci := 10) (q0 := (RX10, TX10, 54)) ⟨hx, hb, hml, hown, hT⟩ (c_X10_next l hm_mm hm_ta hf_mm hf_ta (by first | omega | decide | assumption) (by first | omega | decide | assumption)) (cwV 0 hT (z_goodV (fun _ h => h) kw_1381 kw_1383 kw_34 kw_96 kw_1384) rfl rfl rfl (by decide +kernel) ⟨by decide, by decide⟩) z_mv hKK hK hw hA hm_mm hf_mm rfl rfl rfl hl.1 rfl (Nat.le_of_ble_eq_true rfl) dX10_lawLine_105 ⟨by decide, by decide⟩ (fun u H locs hp hw => ?_)
                obtain ⟨L110, f111⟩ := u
                obtain ⟨hsb, hfm, a2_112, k2_113, p2_114, v2_115, w2_116, ha_0, hp⟩ := hp
                have hsb : L = L110 := hsb
                subst hsb
                have hsb : ∀ b ∈ L, b ∈ L := fun _ h => h
                have hw : z_H D vwCl (z_A L sz) s.heap L f111 H locs := hw
                have hfr : ∀ b ∈ L, b ≠ mm → b ≠ lw → f111 b = f b := fun b hb h0 h1 => (hfm b hb h0).trans (hfr b hb h0 h1)
                have hf_ta : f111 ta = .inl (cy 0, 1600, .inl gta) := (hfm ta hm_ta (z_tne hf_ta hf_mm (m := 12900) (n := 10) rfl rfl (by decide))).trans hf_ta
                have hf_lw : f111 lw = .inl (cy 1, 25, .inl glw) := (hfm lw hm_lw (z_tne hf_lw hf_mm (m := 300) (n := 10) rfl rfl (by decide))).trans hf_lw
                have hf_mm : f111 mm = .inr (10, [.int m0, .ref wd, .ref my, .ref ce, .ref mv, .ref ta, .int m6, .int a2_112, .int k2_113, .int p2_114, .int v2_115, .long w2_116, .int b2_106, .int p2_107, .int m14, .int m15, .ref li, .ref ha, .ref lw, .ref st, .ref fo, .ref dr, .int m22, .ref ik, .int m24, .int m25, .long m26, .int m27, .int m28, .ref ro, .int m30, .ref ct, .ref se, .ref th, .ref cn, .ref be, .int m36, .ref du, .int m38, .ref db, .int m40, .int m41, .int m42, .ref pn, .ref wg, .ref wh, .ref tn, .ref he, .int m48, .ref tr, .ref fd, .ref po, .int m52, .int m53]) := ha_0
                have hq117 := hp
                refine lv_aload_n hx hb dX10_lawLine_108 rfl (lv_at hl 1 rfl) ?_
                refine z_get (C := RX10) (T := TX10) (N := 54) (ci := 10) (v := .ref lw) hx hb hT zin_X10 hown hK hw hm_mm hf_mm rfl 18 (by decide) (hT _ kw_1186) rfl dX10_lawLine_109 ?_
                refine lv_bipush (v := 20) hx hb dX10_lawLine_112 (by decide) ?_
                refine lv_iload_n hx hb dX10_lawLine_114 rfl (lv_at hl 0 rfl) ?_
                refine lv_iconst (v := 2) hx hb dX10_lawLine_115 (by decide) ?_
                refine lv_idiv hx hb dX10_lawLine_116 (by decide) ?_
                refine lv_topi (fun w118 e_w118 => ?_)
                have i_w118 : w118.toInt = (-1) / 2 := z_div e_w118 (show ((-1) : Int32).toInt = (-1) by decide) (show (2 : Int32).toInt = 2 by decide) (by omega)
                refine lv_iadd hx hb dX10_lawLine_117 ?_
                refine lv_topi (fun w119 e_w119 => ?_)
                have i_w119 : w119.toInt = (20 + ((-1) / 2)) := z_add e_w119 (show (20 : Int32).toInt = 20 by decide) i_w118 (by omega)
                refine lv_iload_n hx hb dX10_lawLine_118 rfl (lv_at hl 0 rfl) ?_
                refine lv_iconst (v := 2) hx hb dX10_lawLine_119 (by decide) ?_
                refine lv_irem hx hb dX10_lawLine_120 (by decide) ?_
                refine lv_topi (fun w120 e_w120 => ?_)
                have i_w120 : w120.toInt = ((-1) % 2) := z_remI e_w120 (show ((-1) : Int32).toInt = (-1) by decide) (show (2 : Int32).toInt = 2 by decide) (by omega)
                refine z_iast hx hb hK hw 1 hm_lw hf_lw rfl (z_ix i_w119 (by omega)) dX10_lawLine_121 (fun H locs hw => ?_)
                obtain ⟨f122, e_f122⟩ : ∃ z, z = va_up f111 lw (.inl (cy 1, 25, .inl (upd glw w119.toNatClampNeg w120))) := ⟨_, rfl⟩
                rw [← e_f122] at hw
                have hf_mm : f122 mm = .inr (10, [.int m0, .ref wd, .ref my, .ref ce, .ref mv, .ref ta, .int m6, .int a2_112, .int k2_113, .int p2_114, .int v2_115, .long w2_116, .int b2_106, .int p2_107, .int m14, .int m15, .ref li, .ref ha, .ref lw, .ref st, .ref fo, .ref dr, .int m22, .ref ik, .int m24, .int m25, .long m26, .int m27, .int m28, .ref ro, .int m30, .ref ct, .ref se, .ref th, .ref cn, .ref be, .int m36, .ref du, .int m38, .ref db, .int m40, .int m41, .int m42, .ref pn, .ref wg, .ref wh, .ref tn, .ref he, .int m48, .ref tr, .ref fd, .ref po, .int m52, .int m53]) := (congrFun e_f122 mm).trans (z_up_ne (z_tne hf_mm hf_lw (m := 10) (n := 300) rfl rfl (by decide)) hf_mm)
                have hf_ta : f122 ta = .inl (cy 0, 1600, .inl gta) := (congrFun e_f122 ta).trans (z_up_ne (z_tne hf_ta hf_lw (m := 12900) (n := 300) rfl rfl (by decide)) hf_ta)
                have hf_lw : f122 lw = .inl (cy 1, 25, .inl (upd glw w119.toNatClampNeg w120)) := (congrFun e_f122 lw).trans z_up_self
                have hfr : ∀ b ∈ L, b ≠ mm → b ≠ lw → f122 b = f b := fun b hb h0 h1 => (congrFun e_f122 b).trans (z_up_ne h1 (hfr b hb h0 h1))
                obtain ⟨g121, e_g121⟩ : ∃ z, z = (upd glw w119.toNatClampNeg w120) := ⟨_, rfl⟩
                rw [← e_g121] at hf_lw
                have hq_lw : ∀ j : Nat, (q_lawR lz) j (g121 j) := z_updQ hq_lw e_g121 (show q_lawR _ _ _ from ⟨(show 0 ≤ (w120).toInt ∧ (w120).toInt ≤ 999 by first | decide | omega), fun h => absurd h (z_nlt i_w119 (by omega))⟩)
                exact z_vret hx hb hr hlk (by decide) (by decide) hw (⟨hsub, hfr, a2_112, k2_113, p2_114, v2_115, b2_106, p2_107, w2_116, g121, hf_mm, hf_lw, hq_lw, by omega, by omega, by omega, by omega, z_upd_ne e_g121 (z_nix i_w119 (by omega))⟩) dX10_lawLine_122
              · skip
                exact z_vret hx hb hr hlk (by decide) (by decide) hw (⟨hsub, hfr, m7, m8, m9, m10, b2_106, p2_107, m11, glw, hf_mm, hf_lw, hq_lw, by omega, by omega, by omega, by omega, rfl⟩) dX10_lawLine_103
