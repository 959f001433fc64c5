set_option maxHeartbeats 2000000 in
set_option maxRecDepth 100000 in
theorem c_X10_isMoor (l : Launch) {D : va_G} {cy : Nat → ClassId} {L : List Nat} {f : Nat → va_E} {sz : Nat} {adK adV : Nat → Nat} {mm wd my ce mv ta li ha lw st fo dr ik ro ct se th cn be du db pn wg wh tn he tr fd po : Nat} {m0 m6 m7 m8 m9 m10 m12 m13 m14 m15 m22 m24 m25 m27 m28 m30 m36 m38 m40 m41 m42 m48 m52 m53 : Int32} {m11 m26 : Int64} {gli : Nat → Int32}  (hm_mm : mm ∈ L) (hm_li : li ∈ L) (hf_mm : f mm = .inr (10, [.int m0, .ref wd, .ref my, .ref ce, .ref mv, .ref ta, .int m6, .int m7, .int m8, .int m9, .int m10, .long m11, .int m12, .int m13, .int m14, .int m15, .ref li, .ref ha, .ref lw, .ref st, .ref fo, .ref dr, .int m22, .ref ik, .int m24, .int m25, .long m26, .int m27, .int m28, .ref ro, .int m30, .ref ct, .ref se, .ref th, .ref cn, .ref be, .int m36, .ref du, .int m38, .ref db, .int m40, .int m41, .int m42, .ref pn, .ref wg, .ref wh, .ref tn, .ref he, .int m48, .ref tr, .ref fd, .ref po, .int m52, .int m53])) (hf_li : f li = .inl (cy 1, 5, .inl gli)) : Met l yX10_isMoor (z_ws yX10_isMoor cX10_isMoor 1 (some .boolean)) (z_R 1 0 0) (va_Pc [.ref mm] (z_Pre D vwCl (z_KK D cy adK adV) L f sz)) (z_Qi D vwCl (fun r u => u = (L, f) ∧ ((r = 1 ∧ True) ∨ (r = 0 ∧ True))) L sz) 0 0 (z_A L sz) := by
  refine z_met (cc := cX10_isMoor) (maxL := 1) (ret := (some .boolean)) (lv := [(0, .ref mm)]) (by decide) rfl (Nat.le_of_ble_eq_true rfl) rfl ?_
  intro p e s m below meth c ls hx hb hr hlk hml hown hnm hts hKK hA hw hl
  have hK := hKK.1.1
  have hown : s.vm.findClass RX10 = some m.cls := hown
  have hT : ∀ w ∈ lw_all, w.before ([.ref mm] : List Value).toArray s = true := fun w h => hts w (z_cons w h)
  refine lv_aload_n hx hb dX10_isMoor_0 rfl (lv_at hl 0 rfl) ?_
  refine z_get (C := RX10) (T := TX10) (N := 54) (ci := 10) (v := .ref li) hx hb hT zin_X10 hown hK hw hm_mm hf_mm rfl 16 (by decide) (hT _ kw_1184) rfl dX10_isMoor_1 ?_
  refine lv_iconst (v := 0) hx hb dX10_isMoor_4 (by decide) ?_
  refine z_iald hx hb hK hw 1 hm_li hf_li rfl (z_ix (show (0 : Int32).toInt = 0 by decide) (by decide)) dX10_isMoor_5 ?_
  refine lv_topi (fun w1 e_w1 => ?_)
  refine z_if_le (tgt := 13) hx hb rfl dX10_isMoor_6 (by decide) (fun c2 => ?_) (fun c2 => ?_)
  · skip
    refine lv_iconst (v := 0) hx hb dX10_isMoor_13 (by decide) ?_
    exact z_zret hx hb hr rfl hlk (by decide) (by decide) hw (⟨rfl, Or.inr ⟨rfl, trivial⟩⟩) dX10_isMoor_14
  · skip
    refine lv_iconst (v := 1) hx hb dX10_isMoor_9 (by decide) ?_
    refine lv_goto (tgt := 14) hx hb dX10_isMoor_10 (by decide) ?_
    exact z_zret hx hb hr rfl hlk (by decide) (by decide) hw (⟨rfl, Or.inl ⟨rfl, trivial⟩⟩) dX10_isMoor_14

set_option maxHeartbeats 2000000 in
set_option maxRecDepth 100000 in
theorem c_X10_isGap (l : Launch) {D : va_G} {cy : Nat → ClassId} {L : List Nat} {f : Nat → va_E} {sz : Nat} {adK adV : Nat → Nat} {mm wd my ce mv ta li ha lw st fo dr ik ro ct se th cn be du db pn wg wh tn he tr fd po : Nat} {m0 m6 m7 m8 m9 m10 m12 m13 m14 m15 m22 m24 m25 m27 m28 m30 m36 m38 m40 m41 m42 m48 m52 m53 : Int32} {m11 m26 : Int64} {gha : Nat → Int32}  {ga : Int32} (hm_mm : mm ∈ L) (hm_ha : ha ∈ L) (hf_mm : f mm = .inr (10, [.int m0, .ref wd, .ref my, .ref ce, .ref mv, .ref ta, .int m6, .int m7, .int m8, .int m9, .int m10, .long m11, .int m12, .int m13, .int m14, .int m15, .ref li, .ref ha, .ref lw, .ref st, .ref fo, .ref dr, .int m22, .ref ik, .int m24, .int m25, .long m26, .int m27, .int m28, .ref ro, .int m30, .ref ct, .ref se, .ref th, .ref cn, .ref be, .int m36, .ref du, .int m38, .ref db, .int m40, .int m41, .int m42, .ref pn, .ref wg, .ref wh, .ref tn, .ref he, .int m48, .ref tr, .ref fd, .ref po, .int m52, .int m53])) (hf_ha : f ha = .inl (cy 1, 30, .inl gha)) (hq_ha : ∀ j : Nat, q_has j (gha j)) : Met l yX10_isGap (z_ws yX10_isGap cX10_isGap 2 (some .boolean)) (z_R 2 0 0) (va_Pc [.ref mm, .int ga] (z_Pre D vwCl (z_KK D cy adK adV) L f sz)) (z_Qi D vwCl (fun r u => u = (L, f) ∧ ((r = 1 ∧ (0 ≤ ga.toInt ∧ ga.toInt ≤ (gha 0).toInt - 1)) ∨ (r = 0 ∧ ¬ (0 ≤ ga.toInt ∧ ga.toInt ≤ (gha 0).toInt - 1)))) L sz) 0 0 (z_A L sz) := by
  refine z_met (cc := cX10_isGap) (maxL := 2) (ret := (some .boolean)) (lv := [(0, .ref mm), (1, .int ga)]) (by decide) rfl (Nat.le_of_ble_eq_true rfl) rfl ?_
  intro p e s m below meth c ls hx hb hr hlk hml hown hnm hts hKK hA hw hl
  have hK := hKK.1.1
  have hown : s.vm.findClass RX10 = some m.cls := hown
  have hT : ∀ w ∈ lw_all, w.before ([.ref mm, .int ga] : List Value).toArray s = true := fun w h => hts w (z_cons w h)
  refine lv_iload_n hx hb dX10_isGap_0 rfl (lv_at hl 1 rfl) ?_
  refine lv_i2l hx hb dX10_isGap_1 rfl ?_
  refine lv_topl (fun w1 e_w1 => ?_)
  have i_w1 : w1.toInt = ga.toInt := z_i2l e_w1 rfl
  refine lv_lconst (v := 0) hx hb dX10_isGap_2 (by decide) ?_
  refine lv_aload_n hx hb dX10_isGap_3 rfl (lv_at hl 0 rfl) ?_
  refine z_get (C := RX10) (T := TX10) (N := 54) (ci := 10) (v := .ref ha) hx hb hT zin_X10 hown hK hw hm_mm hf_mm rfl 17 (by decide) (hT _ kw_1185) rfl dX10_isGap_4 ?_
  refine lv_iconst (v := 0) hx hb dX10_isGap_7 (by decide) ?_
  refine z_iald hx hb hK hw 1 hm_ha hf_ha rfl (z_ix (show (0 : Int32).toInt = 0 by decide) (by decide)) dX10_isGap_8 ?_
  refine lv_topi (fun w2 e_w2 => ?_)
  have hv_w2 : 0 ≤ w2.toInt ∧ w2.toInt ≤ 4 := by rw [e_w2]; exact (hq_ha _).1 rfl
  have hgw_w2 : w2.toInt = (gha 0).toInt := by rw [e_w2]; rfl
  refine lv_iconst (v := 1) hx hb dX10_isGap_9 (by decide) ?_
  refine lv_isub hx hb dX10_isGap_10 ?_
  refine lv_topi (fun w3 e_w3 => ?_)
  have i_w3 : w3.toInt = (w2.toInt - 1) := z_subI e_w3 rfl (show (1 : Int32).toInt = 1 by decide) (by omega)
  refine lv_i2l hx hb dX10_isGap_11 rfl ?_
  refine lv_topl (fun w4 e_w4 => ?_)
  have i_w4 : w4.toInt = (w2.toInt - 1) := z_i2l e_w4 i_w3
  have hz5 := (show (0 : Int64).toInt = 0 by decide)
  refine z_calliS (cells := 0) (slots := 0) (As := [.long w1, .long 0, .long w4]) (rest := []) ⟨hx, hb, hml, hown, hT⟩ (c_X10_in l ) (va_cwS 3 hT (z_goodS (fun _ h => h) kw_1339 kw_1340 kw_96 kw_1341) rfl rfl rfl (by decide +kernel) ⟨by decide, by decide⟩) z_mv hKK hw hA rfl hl.1 rfl (Nat.le_of_ble_eq_true rfl) dX10_isGap_12 ⟨by decide, by decide⟩ (fun r6 u H locs hp hw => ?_)
  obtain ⟨rfl, hp⟩ := hp
  have hw : z_H D vwCl (z_A L sz) s.heap L f H locs := hw
  rcases hp with ⟨rfl, h7⟩ | ⟨rfl, h7⟩
  · skip
    exact z_zret hx hb hr rfl hlk (by decide) (by decide) hw (⟨rfl, Or.inl ⟨rfl, by omega⟩⟩) dX10_isGap_15
  · skip
    exact z_zret hx hb hr rfl hlk (by decide) (by decide) hw (⟨rfl, Or.inr ⟨rfl, by omega⟩⟩) dX10_isGap_15

set_option maxHeartbeats 2000000 in
set_option maxRecDepth 100000 in
theorem c_X10_isDay (l : Launch) {D : va_G} {cy : Nat → ClassId} {L : List Nat} {f : Nat → va_E} {sz : Nat} {adK adV : Nat → Nat} {mm wd my ce mv ta li ha lw st fo dr ik ro ct se th cn be du db pn wg wh tn he tr fd po : Nat} {m0 m6 m7 m8 m9 m10 m12 m13 m14 m15 m22 m24 m25 m27 m28 m30 m36 m38 m40 m41 m42 m48 m52 m53 : Int32} {m11 m26 : Int64} {gha : Nat → Int32}  {ga : Int32} (hm_mm : mm ∈ L) (hm_ha : ha ∈ L) (hf_mm : f mm = .inr (10, [.int m0, .ref wd, .ref my, .ref ce, .ref mv, .ref ta, .int m6, .int m7, .int m8, .int m9, .int m10, .long m11, .int m12, .int m13, .int m14, .int m15, .ref li, .ref ha, .ref lw, .ref st, .ref fo, .ref dr, .int m22, .ref ik, .int m24, .int m25, .long m26, .int m27, .int m28, .ref ro, .int m30, .ref ct, .ref se, .ref th, .ref cn, .ref be, .int m36, .ref du, .int m38, .ref db, .int m40, .int m41, .int m42, .ref pn, .ref wg, .ref wh, .ref tn, .ref he, .int m48, .ref tr, .ref fd, .ref po, .int m52, .int m53])) (hf_ha : f ha = .inl (cy 1, 30, .inl gha)) (hq_ha : ∀ j : Nat, q_has j (gha j)) : Met l yX10_isDay (z_ws yX10_isDay cX10_isDay 2 (some .boolean)) (z_R 2 0 0) (va_Pc [.ref mm, .int ga] (z_Pre D vwCl (z_KK D cy adK adV) L f sz)) (z_Qi D vwCl (fun r u => u = (L, f) ∧ ((r = 1 ∧ (0 ≤ ga.toInt ∧ ga.toInt ≤ (gha 1).toInt - 1)) ∨ (r = 0 ∧ ¬ (0 ≤ ga.toInt ∧ ga.toInt ≤ (gha 1).toInt - 1)))) L sz) 0 0 (z_A L sz) := by
  refine z_met (cc := cX10_isDay) (maxL := 2) (ret := (some .boolean)) (lv := [(0, .ref mm), (1, .int ga)]) (by decide) rfl (Nat.le_of_ble_eq_true rfl) rfl ?_
  intro p e s m below meth c ls hx hb hr hlk hml hown hnm hts hKK hA hw hl
  have hK := hKK.1.1
  have hown : s.vm.findClass RX10 = some m.cls := hown
  have hT : ∀ w ∈ lw_all, w.before ([.ref mm, .int ga] : List Value).toArray s = true := fun w h => hts w (z_cons w h)
  refine lv_iload_n hx hb dX10_isDay_0 rfl (lv_at hl 1 rfl) ?_
  refine lv_i2l hx hb dX10_isDay_1 rfl ?_
  refine lv_topl (fun w1 e_w1 => ?_)
  have i_w1 : w1.toInt = ga.toInt := z_i2l e_w1 rfl
  refine lv_lconst (v := 0) hx hb dX10_isDay_2 (by decide) ?_
  refine lv_aload_n hx hb dX10_isDay_3 rfl (lv_at hl 0 rfl) ?_
  refine z_get (C := RX10) (T := TX10) (N := 54) (ci := 10) (v := .ref ha) hx hb hT zin_X10 hown hK hw hm_mm hf_mm rfl 17 (by decide) (hT _ kw_1185) rfl dX10_isDay_4 ?_
  refine lv_iconst (v := 1) hx hb dX10_isDay_7 (by decide) ?_
  refine z_iald hx hb hK hw 1 hm_ha hf_ha rfl (z_ix (show (1 : Int32).toInt = 1 by decide) (by decide)) dX10_isDay_8 ?_
  refine lv_topi (fun w2 e_w2 => ?_)
  have hv_w2 : 0 ≤ w2.toInt ∧ w2.toInt ≤ 9 := by rw [e_w2]; exact (hq_ha _).2.1 rfl
  have hgw_w2 : w2.toInt = (gha 1).toInt := by rw [e_w2]; rfl
  refine lv_iconst (v := 1) hx hb dX10_isDay_9 (by decide) ?_
  refine lv_isub hx hb dX10_isDay_10 ?_
  refine lv_topi (fun w3 e_w3 => ?_)
  have i_w3 : w3.toInt = (w2.toInt - 1) := z_subI e_w3 rfl (show (1 : Int32).toInt = 1 by decide) (by omega)
  refine lv_i2l hx hb dX10_isDay_11 rfl ?_
  refine lv_topl (fun w4 e_w4 => ?_)
  have i_w4 : w4.toInt = (w2.toInt - 1) := z_i2l e_w4 i_w3
  have hz5 := (show (0 : Int64).toInt = 0 by decide)
  refine z_calliS (cells := 0) (slots := 0) (As := [.long w1, .long 0, .long w4]) (rest := []) ⟨hx, hb, hml, hown, hT⟩ (c_X10_in l ) (va_cwS 3 hT (z_goodS (fun _ h => h) kw_1339 kw_1340 kw_96 kw_1341) rfl rfl rfl (by decide +kernel) ⟨by decide, by decide⟩) z_mv hKK hw hA rfl hl.1 rfl (Nat.le_of_ble_eq_true rfl) dX10_isDay_12 ⟨by decide, by decide⟩ (fun r6 u H locs hp hw => ?_)
  obtain ⟨rfl, hp⟩ := hp
  have hw : z_H D vwCl (z_A L sz) s.heap L f H locs := hw
  rcases hp with ⟨rfl, h7⟩ | ⟨rfl, h7⟩
  · skip
    exact z_zret hx hb hr rfl hlk (by decide) (by decide) hw (⟨rfl, Or.inl ⟨rfl, by omega⟩⟩) dX10_isDay_15
  · skip
    exact z_zret hx hb hr rfl hlk (by decide) (by decide) hw (⟨rfl, Or.inr ⟨rfl, by omega⟩⟩) dX10_isDay_15

set_option maxHeartbeats 2000000 in
set_option maxRecDepth 100000 in
theorem c_X10_isDrive (l : Launch) {D : va_G} {cy : Nat → ClassId} {L : List Nat} {f : Nat → va_E} {sz : Nat} {adK adV : Nat → Nat} {mm wd my ce mv ta li ha lw st fo dr ik ro ct se th cn be du db pn wg wh tn he tr fd po : Nat} {m0 m6 m7 m8 m9 m10 m12 m13 m14 m15 m22 m24 m25 m27 m28 m30 m36 m38 m40 m41 m42 m48 m52 m53 : Int32} {m11 m26 : Int64} {gha : Nat → Int32}  {ga : Int32} (hm_mm : mm ∈ L) (hm_ha : ha ∈ L) (hf_mm : f mm = .inr (10, [.int m0, .ref wd, .ref my, .ref ce, .ref mv, .ref ta, .int m6, .int m7, .int m8, .int m9, .int m10, .long m11, .int m12, .int m13, .int m14, .int m15, .ref li, .ref ha, .ref lw, .ref st, .ref fo, .ref dr, .int m22, .ref ik, .int m24, .int m25, .long m26, .int m27, .int m28, .ref ro, .int m30, .ref ct, .ref se, .ref th, .ref cn, .ref be, .int m36, .ref du, .int m38, .ref db, .int m40, .int m41, .int m42, .ref pn, .ref wg, .ref wh, .ref tn, .ref he, .int m48, .ref tr, .ref fd, .ref po, .int m52, .int m53])) (hf_ha : f ha = .inl (cy 1, 30, .inl gha)) (hq_ha : ∀ j : Nat, q_has j (gha j)) : Met l yX10_isDrive (z_ws yX10_isDrive cX10_isDrive 2 (some .boolean)) (z_R 2 0 0) (va_Pc [.ref mm, .int ga] (z_Pre D vwCl (z_KK D cy adK adV) L f sz)) (z_Qi D vwCl (fun r u => u = (L, f) ∧ ((r = 1 ∧ (0 ≤ ga.toInt ∧ ga.toInt ≤ (gha 3).toInt - 1)) ∨ (r = 0 ∧ ¬ (0 ≤ ga.toInt ∧ ga.toInt ≤ (gha 3).toInt - 1)))) L sz) 0 0 (z_A L sz) := by
  refine z_met (cc := cX10_isDrive) (maxL := 2) (ret := (some .boolean)) (lv := [(0, .ref mm), (1, .int ga)]) (by decide) rfl (Nat.le_of_ble_eq_true rfl) rfl ?_
  intro p e s m below meth c ls hx hb hr hlk hml hown hnm hts hKK hA hw hl
  have hK := hKK.1.1
  have hown : s.vm.findClass RX10 = some m.cls := hown
  have hT : ∀ w ∈ lw_all, w.before ([.ref mm, .int ga] : List Value).toArray s = true := fun w h => hts w (z_cons w h)
  refine lv_iload_n hx hb dX10_isDrive_0 rfl (lv_at hl 1 rfl) ?_
  refine lv_i2l hx hb dX10_isDrive_1 rfl ?_
  refine lv_topl (fun w1 e_w1 => ?_)
  have i_w1 : w1.toInt = ga.toInt := z_i2l e_w1 rfl
  refine lv_lconst (v := 0) hx hb dX10_isDrive_2 (by decide) ?_
  refine lv_aload_n hx hb dX10_isDrive_3 rfl (lv_at hl 0 rfl) ?_
  refine z_get (C := RX10) (T := TX10) (N := 54) (ci := 10) (v := .ref ha) hx hb hT zin_X10 hown hK hw hm_mm hf_mm rfl 17 (by decide) (hT _ kw_1185) rfl dX10_isDrive_4 ?_
  refine lv_iconst (v := 3) hx hb dX10_isDrive_7 (by decide) ?_
  refine z_iald hx hb hK hw 1 hm_ha hf_ha rfl (z_ix (show (3 : Int32).toInt = 3 by decide) (by decide)) dX10_isDrive_8 ?_
  refine lv_topi (fun w2 e_w2 => ?_)
  have hv_w2 : 0 ≤ w2.toInt ∧ w2.toInt ≤ 12 := by rw [e_w2]; exact (hq_ha _).2.2.2 rfl
  have hgw_w2 : w2.toInt = (gha 3).toInt := by rw [e_w2]; rfl
  refine lv_iconst (v := 1) hx hb dX10_isDrive_9 (by decide) ?_
  refine lv_isub hx hb dX10_isDrive_10 ?_
  refine lv_topi (fun w3 e_w3 => ?_)
  have i_w3 : w3.toInt = (w2.toInt - 1) := z_subI e_w3 rfl (show (1 : Int32).toInt = 1 by decide) (by omega)
  refine lv_i2l hx hb dX10_isDrive_11 rfl ?_
  refine lv_topl (fun w4 e_w4 => ?_)
  have i_w4 : w4.toInt = (w2.toInt - 1) := z_i2l e_w4 i_w3
  have hz5 := (show (0 : Int64).toInt = 0 by decide)
  refine z_calliS (cells := 0) (slots := 0) (As := [.long w1, .long 0, .long w4]) (rest := []) ⟨hx, hb, hml, hown, hT⟩ (c_X10_in l ) (va_cwS 3 hT (z_goodS (fun _ h => h) kw_1339 kw_1340 kw_96 kw_1341) rfl rfl rfl (by decide +kernel) ⟨by decide, by decide⟩) z_mv hKK hw hA rfl hl.1 rfl (Nat.le_of_ble_eq_true rfl) dX10_isDrive_12 ⟨by decide, by decide⟩ (fun r6 u H locs hp hw => ?_)
  obtain ⟨rfl, hp⟩ := hp
  have hw : z_H D vwCl (z_A L sz) s.heap L f H locs := hw
  rcases hp with ⟨rfl, h7⟩ | ⟨rfl, h7⟩
  · skip
    exact z_zret hx hb hr rfl hlk (by decide) (by decide) hw (⟨rfl, Or.inl ⟨rfl, by omega⟩⟩) dX10_isDrive_15
  · skip
    exact z_zret hx hb hr rfl hlk (by decide) (by decide) hw (⟨rfl, Or.inr ⟨rfl, by omega⟩⟩) dX10_isDrive_15

set_option maxHeartbeats 2000000 in
set_option maxRecDepth 100000 in
theorem c_X10_isOwner (l : Launch) {D : va_G} {cy : Nat → ClassId} {L : List Nat} {f : Nat → va_E} {sz : Nat} {adK adV : Nat → Nat} {mm wd my ce mv ta li ha lw st fo dr ik ro ct se th cn be du db pn wg wh tn he tr fd po : Nat} {m0 m6 m7 m8 m9 m10 m12 m13 m14 m15 m22 m24 m25 m27 m28 m30 m36 m38 m40 m41 m42 m48 m52 m53 : Int32} {m11 m26 : Int64} {gli gha : Nat → Int32}  {oo : Int64} (hm_mm : mm ∈ L) (hm_li : li ∈ L) (hm_ha : ha ∈ L) (hf_mm : f mm = .inr (10, [.int m0, .ref wd, .ref my, .ref ce, .ref mv, .ref ta, .int m6, .int m7, .int m8, .int m9, .int m10, .long m11, .int m12, .int m13, .int m14, .int m15, .ref li, .ref ha, .ref lw, .ref st, .ref fo, .ref dr, .int m22, .ref ik, .int m24, .int m25, .long m26, .int m27, .int m28, .ref ro, .int m30, .ref ct, .ref se, .ref th, .ref cn, .ref be, .int m36, .ref du, .int m38, .ref db, .int m40, .int m41, .int m42, .ref pn, .ref wg, .ref wh, .ref tn, .ref he, .int m48, .ref tr, .ref fd, .ref po, .int m52, .int m53])) (hf_li : f li = .inl (cy 1, 5, .inl gli)) (hf_ha : f ha = .inl (cy 1, 30, .inl gha)) (hq_ha : ∀ j : Nat, q_has j (gha j)) : Met l yX10_isOwner (z_ws yX10_isOwner cX10_isOwner 3 (some .boolean)) (z_R 2 0 0) (va_Pc [.ref mm, .long oo] (z_Pre D vwCl (z_KK D cy adK adV) L f sz)) (z_Qi D vwCl (fun r u => u = (L, f) ∧ ((r = 1 ∧ (0 ≤ oo.toInt ∧ oo.toInt ≤ (gha 2).toInt - 1)) ∨ (r = 0 ∧ True))) L sz) 0 0 (z_A L sz) := by
  refine z_met (cc := cX10_isOwner) (maxL := 3) (ret := (some .boolean)) (lv := [(0, .ref mm), (1, .long oo)]) (by decide) rfl (Nat.le_of_ble_eq_true rfl) rfl ?_
  intro p e s m below meth c ls hx hb hr hlk hml hown hnm hts hKK hA hw hl
  have hK := hKK.1.1
  have hown : s.vm.findClass RX10 = some m.cls := hown
  have hT : ∀ w ∈ lw_all, w.before ([.ref mm, .long oo] : List Value).toArray s = true := fun w h => hts w (z_cons w h)
  refine lv_aload_n hx hb dX10_isOwner_0 rfl (lv_at hl 0 rfl) ?_
  refine z_calliV (cells := 0) (slots := 0) (b := mm) (As := []) (rest := []) (ci := 10) (q0 := (RX10, TX10, 54)) ⟨hx, hb, hml, hown, hT⟩ (c_X10_isMoor l hm_mm hm_li hf_mm hf_li) (cwV 0 hT (z_goodV (fun _ h => h) kw_1507 kw_1509 kw_54 kw_96 kw_1510) rfl rfl rfl (by decide +kernel) ⟨by decide, by decide⟩) z_mv hKK hK hw hA hm_mm hf_mm rfl rfl rfl hl.1 rfl (Nat.le_of_ble_eq_true rfl) dX10_isOwner_1 ⟨by decide, by decide⟩ (fun r1 u H locs hp hw => ?_)
  obtain ⟨rfl, hp⟩ := hp
  have hw : z_H D vwCl (z_A L sz) s.heap L f H locs := hw
  rcases hp with ⟨rfl, h2⟩ | ⟨rfl, h2⟩
  · skip
    refine z_if_eq (tgt := 28) hx hb (show (1 : Int32).toInt = 1 by decide) dX10_isOwner_4 (by decide) (fun h => absurd h (by decide)) (fun _ => ?_)
    refine lv_lload_n hx hb dX10_isOwner_7 rfl (lv_at hl 1 rfl) ?_
    refine lv_lconst (v := 0) hx hb dX10_isOwner_8 (by decide) ?_
    refine lv_aload_n hx hb dX10_isOwner_9 rfl (lv_at hl 0 rfl) ?_
    refine z_get (C := RX10) (T := TX10) (N := 54) (ci := 10) (v := .ref ha) hx hb hT zin_X10 hown hK hw hm_mm hf_mm rfl 17 (by decide) (hT _ kw_1185) rfl dX10_isOwner_10 ?_
    refine lv_iconst (v := 2) hx hb dX10_isOwner_13 (by decide) ?_
    refine z_iald hx hb hK hw 1 hm_ha hf_ha rfl (z_ix (show (2 : Int32).toInt = 2 by decide) (by decide)) dX10_isOwner_14 ?_
    refine lv_topi (fun w3 e_w3 => ?_)
    have hv_w3 : 0 ≤ w3.toInt ∧ w3.toInt ≤ 5 := by rw [e_w3]; exact (hq_ha _).2.2.1 rfl
    have hgw_w3 : w3.toInt = (gha 2).toInt := by rw [e_w3]; rfl
    refine lv_i2l hx hb dX10_isOwner_15 rfl ?_
    refine lv_topl (fun w4 e_w4 => ?_)
    have i_w4 : w4.toInt = w3.toInt := z_i2l e_w4 rfl
    refine lv_lconst (v := 1) hx hb dX10_isOwner_16 (by decide) ?_
    refine lv_lsub hx hb dX10_isOwner_17 ?_
    refine lv_topl (fun w5 e_w5 => ?_)
    have i_w5 : w5.toInt = (w3.toInt - 1) := z_lsubI e_w5 i_w4 (show (1 : Int64).toInt = 1 by decide) (by omega)
    have hz6 := (show (0 : Int64).toInt = 0 by decide)
    refine z_calliS (cells := 0) (slots := 0) (As := [.long oo, .long 0, .long w5]) (rest := []) ⟨hx, hb, hml, hown, hT⟩ (c_X10_in l ) (va_cwS 3 hT (z_goodS (fun _ h => h) kw_1339 kw_1340 kw_96 kw_1341) rfl rfl rfl (by decide +kernel) ⟨by decide, by decide⟩) z_mv hKK hw hA rfl hl.1 rfl (Nat.le_of_ble_eq_true rfl) dX10_isOwner_18 ⟨by decide, by decide⟩ (fun r7 u H locs hp hw => ?_)
    obtain ⟨rfl, hp⟩ := hp
    have hw : z_H D vwCl (z_A L sz) s.heap L f H locs := hw
    rcases hp with ⟨rfl, h8⟩ | ⟨rfl, h8⟩
    · skip
      refine z_if_eq (tgt := 28) hx hb (show (1 : Int32).toInt = 1 by decide) dX10_isOwner_21 (by decide) (fun h => absurd h (by decide)) (fun _ => ?_)
      refine lv_iconst (v := 1) hx hb dX10_isOwner_24 (by decide) ?_
      refine lv_goto (tgt := 29) hx hb dX10_isOwner_25 (by decide) ?_
      exact z_zret hx hb hr rfl hlk (by decide) (by decide) hw (⟨rfl, Or.inl ⟨rfl, by omega⟩⟩) dX10_isOwner_29
    · skip
      refine z_if_eq (tgt := 28) hx hb (show (0 : Int32).toInt = 0 by decide) dX10_isOwner_21 (by decide) (fun _ => ?_) (fun h => absurd h (by decide))
      refine lv_iconst (v := 0) hx hb dX10_isOwner_28 (by decide) ?_
      exact z_zret hx hb hr rfl hlk (by decide) (by decide) hw (⟨rfl, Or.inr ⟨rfl, trivial⟩⟩) dX10_isOwner_29
  · skip
    refine z_if_eq (tgt := 28) hx hb (show (0 : Int32).toInt = 0 by decide) dX10_isOwner_4 (by decide) (fun _ => ?_) (fun h => absurd h (by decide))
    refine lv_iconst (v := 0) hx hb dX10_isOwner_28 (by decide) ?_
    exact z_zret hx hb hr rfl hlk (by decide) (by decide) hw (⟨rfl, Or.inr ⟨rfl, trivial⟩⟩) dX10_isOwner_29

set_option maxHeartbeats 2000000 in
set_option maxRecDepth 100000 in
theorem c_X10_plainly (l : Launch) {D : va_G} {cy : Nat → ClassId} {L : List Nat} {f : Nat → va_E} {sz : Nat} {adK adV : Nat → Nat} {mm wd my ce mv ta li ha lw st fo dr ik ro ct se th cn be du db pn wg wh tn he tr fd po : Nat} {m0 m6 m7 m8 m9 m10 m12 m13 m14 m15 m22 m24 m25 m27 m28 m30 m36 m38 m40 m41 m42 m48 m52 m53 : Int32} {m11 m26 : Int64} {gha : Nat → Int32}  (hm_mm : mm ∈ L) (hm_ha : ha ∈ L) (hf_mm : f mm = .inr (10, [.int m0, .ref wd, .ref my, .ref ce, .ref mv, .ref ta, .int m6, .int m7, .int m8, .int m9, .int m10, .long m11, .int m12, .int m13, .int m14, .int m15, .ref li, .ref ha, .ref lw, .ref st, .ref fo, .ref dr, .int m22, .ref ik, .int m24, .int m25, .long m26, .int m27, .int m28, .ref ro, .int m30, .ref ct, .ref se, .ref th, .ref cn, .ref be, .int m36, .ref du, .int m38, .ref db, .int m40, .int m41, .int m42, .ref pn, .ref wg, .ref wh, .ref tn, .ref he, .int m48, .ref tr, .ref fd, .ref po, .int m52, .int m53])) (hf_ha : f ha = .inl (cy 1, 30, .inl gha)) (hq_ha : ∀ j : Nat, q_has j (gha j)) : Met l yX10_plainly (z_ws yX10_plainly cX10_plainly 1 none) (z_R 1 0 0) (va_Pc [.ref mm] (z_Pre D vwCl (z_KK D cy adK adV) L f sz)) (z_Qv D vwCl (fun u => L = u.1 ∧ (∀ b ∈ L, b ≠ mm → u.2 b = f b) ∧ (∃ (mn2 : Int32), (u.2 mm = .inr (10, [.int m0, .ref wd, .ref my, .ref ce, .ref mv, .ref ta, .int m6, .int m7, .int m8, .int m9, .int m10, .long m11, .int m12, .int m13, .int m14, .int m15, .ref li, .ref ha, .ref lw, .ref st, .ref fo, .ref dr, .int m22, .ref ik, .int (-1), .int mn2, .long m26, .int 0, .int 1000, .ref ro, .int m30, .ref ct, .ref se, .ref th, .ref cn, .ref be, .int m36, .ref du, .int m38, .ref db, .int m40, .int m41, .int m42, .ref pn, .ref wg, .ref wh, .ref tn, .ref he, .int m48, .ref tr, .ref fd, .ref po, .int m52, .int m53])) ∧ (mn2.toInt = (gha 3).toInt ∧ 0 ≤ mn2.toInt ∧ mn2.toInt ≤ 12))) L sz) 0 0 (z_A L sz) := by
  refine z_met (cc := cX10_plainly) (maxL := 1) (ret := none) (lv := [(0, .ref mm)]) (by decide) rfl (Nat.le_of_ble_eq_true rfl) rfl ?_
  intro p e s m below meth c ls hx hb hr hlk hml hown hnm hts hKK hA hw hl
  have hK := hKK.1.1
  have hown : s.vm.findClass RX10 = some m.cls := hown
  have hT : ∀ w ∈ lw_all, w.before ([.ref mm] : List Value).toArray s = true := fun w h => hts w (z_cons w h)
  have hsub : L = L := rfl
  have hfr : ∀ b ∈ L, b ≠ mm → f b = f b := fun _ _ _ => rfl
  refine lv_aload_n hx hb dX10_plainly_0 rfl (lv_at hl 0 rfl) ?_
  refine lv_iconst (v := (-1)) hx hb dX10_plainly_1 (by decide) ?_
  refine z_put (C := RX10) (T := TX10) (N := 54) (ci := 10) (v := .int (-1)) (fs' := [.int m0, .ref wd, .ref my, .ref ce, .ref mv, .ref ta, .int m6, .int m7, .int m8, .int m9, .int m10, .long m11, .int m12, .int m13, .int m14, .int m15, .ref li, .ref ha, .ref lw, .ref st, .ref fo, .ref dr, .int m22, .ref ik, .int (-1), .int m25, .long m26, .int m27, .int m28, .ref ro, .int m30, .ref ct, .ref se, .ref th, .ref cn, .ref be, .int m36, .ref du, .int m38, .ref db, .int m40, .int m41, .int m42, .ref pn, .ref wg, .ref wh, .ref tn, .ref he, .int m48, .ref tr, .ref fd, .ref po, .int m52, .int m53]) hx hb hT zin_X10 tyX10_ok nmX10 hown hK hw hm_mm hf_mm rfl 24 (by decide) (hT _ kw_1192) rfl rfl rfl (Nat.le_of_ble_eq_true rfl) rfl dX10_plainly_2 (fun H locs hw => ?_)
  obtain ⟨f1, e_f1⟩ : ∃ z, z = va_up f mm (.inr (10, [.int m0, .ref wd, .ref my, .ref ce, .ref mv, .ref ta, .int m6, .int m7, .int m8, .int m9, .int m10, .long m11, .int m12, .int m13, .int m14, .int m15, .ref li, .ref ha, .ref lw, .ref st, .ref fo, .ref dr, .int m22, .ref ik, .int (-1), .int m25, .long m26, .int m27, .int m28, .ref ro, .int m30, .ref ct, .ref se, .ref th, .ref cn, .ref be, .int m36, .ref du, .int m38, .ref db, .int m40, .int m41, .int m42, .ref pn, .ref wg, .ref wh, .ref tn, .ref he, .int m48, .ref tr, .ref fd, .ref po, .int m52, .int m53])) := ⟨_, rfl⟩
  rw [← e_f1] at hw
  have hf_ha : f1 ha = .inl (cy 1, 30, .inl gha) := (congrFun e_f1 ha).trans (z_up_ne (z_tne hf_ha hf_mm (m := 340) (n := 10) rfl rfl (by decide)) hf_ha)
  have hf_mm : f1 mm = .inr (10, [.int m0, .ref wd, .ref my, .ref ce, .ref mv, .ref ta, .int m6, .int m7, .int m8, .int m9, .int m10, .long m11, .int m12, .int m13, .int m14, .int m15, .ref li, .ref ha, .ref lw, .ref st, .ref fo, .ref dr, .int m22, .ref ik, .int (-1), .int m25, .long m26, .int m27, .int m28, .ref ro, .int m30, .ref ct, .ref se, .ref th, .ref cn, .ref be, .int m36, .ref du, .int m38, .ref db, .int m40, .int m41, .int m42, .ref pn, .ref wg, .ref wh, .ref tn, .ref he, .int m48, .ref tr, .ref fd, .ref po, .int m52, .int m53]) := (congrFun e_f1 mm).trans z_up_self
  have hfr : ∀ b ∈ L, b ≠ mm → f1 b = f b := fun b hb h0 => (congrFun e_f1 b).trans (z_up_ne h0 (hfr b hb h0))
  refine lv_aload_n hx hb dX10_plainly_5 rfl (lv_at hl 0 rfl) ?_
  refine lv_aload_n hx hb dX10_plainly_6 rfl (lv_at hl 0 rfl) ?_
  refine z_get (C := RX10) (T := TX10) (N := 54) (ci := 10) (v := .ref ha) hx hb hT zin_X10 hown hK hw hm_mm hf_mm rfl 17 (by decide) (hT _ kw_1185) rfl dX10_plainly_7 ?_
  refine lv_iconst (v := 3) hx hb dX10_plainly_10 (by decide) ?_
  refine z_iald hx hb hK hw 1 hm_ha hf_ha rfl (z_ix (show (3 : Int32).toInt = 3 by decide) (by decide)) dX10_plainly_11 ?_
  refine lv_topi (fun w2 e_w2 => ?_)
  have hv_w2 : 0 ≤ w2.toInt ∧ w2.toInt ≤ 12 := by rw [e_w2]; exact (hq_ha _).2.2.2 rfl
  have hgw_w2 : w2.toInt = (gha 3).toInt := by rw [e_w2]; rfl
  refine z_put (C := RX10) (T := TX10) (N := 54) (ci := 10) (v := .int w2) (fs' := [.int m0, .ref wd, .ref my, .ref ce, .ref mv, .ref ta, .int m6, .int m7, .int m8, .int m9, .int m10, .long m11, .int m12, .int m13, .int m14, .int m15, .ref li, .ref ha, .ref lw, .ref st, .ref fo, .ref dr, .int m22, .ref ik, .int (-1), .int w2, .long m26, .int m27, .int m28, .ref ro, .int m30, .ref ct, .ref se, .ref th, .ref cn, .ref be, .int m36, .ref du, .int m38, .ref db, .int m40, .int m41, .int m42, .ref pn, .ref wg, .ref wh, .ref tn, .ref he, .int m48, .ref tr, .ref fd, .ref po, .int m52, .int m53]) hx hb hT zin_X10 tyX10_ok nmX10 hown hK hw hm_mm hf_mm rfl 25 (by decide) (hT _ kw_1193) rfl rfl rfl (Nat.le_of_ble_eq_true rfl) rfl dX10_plainly_12 (fun H locs hw => ?_)
  obtain ⟨f3, e_f3⟩ : ∃ z, z = va_up f1 mm (.inr (10, [.int m0, .ref wd, .ref my, .ref ce, .ref mv, .ref ta, .int m6, .int m7, .int m8, .int m9, .int m10, .long m11, .int m12, .int m13, .int m14, .int m15, .ref li, .ref ha, .ref lw, .ref st, .ref fo, .ref dr, .int m22, .ref ik, .int (-1), .int w2, .long m26, .int m27, .int m28, .ref ro, .int m30, .ref ct, .ref se, .ref th, .ref cn, .ref be, .int m36, .ref du, .int m38, .ref db, .int m40, .int m41, .int m42, .ref pn, .ref wg, .ref wh, .ref tn, .ref he, .int m48, .ref tr, .ref fd, .ref po, .int m52, .int m53])) := ⟨_, rfl⟩
  rw [← e_f3] at hw
  have hf_ha : f3 ha = .inl (cy 1, 30, .inl gha) := (congrFun e_f3 ha).trans (z_up_ne (z_tne hf_ha hf_mm (m := 340) (n := 10) rfl rfl (by decide)) hf_ha)
  have hf_mm : f3 mm = .inr (10, [.int m0, .ref wd, .ref my, .ref ce, .ref mv, .ref ta, .int m6, .int m7, .int m8, .int m9, .int m10, .long m11, .int m12, .int m13, .int m14, .int m15, .ref li, .ref ha, .ref lw, .ref st, .ref fo, .ref dr, .int m22, .ref ik, .int (-1), .int w2, .long m26, .int m27, .int m28, .ref ro, .int m30, .ref ct, .ref se, .ref th, .ref cn, .ref be, .int m36, .ref du, .int m38, .ref db, .int m40, .int m41, .int m42, .ref pn, .ref wg, .ref wh, .ref tn, .ref he, .int m48, .ref tr, .ref fd, .ref po, .int m52, .int m53]) := (congrFun e_f3 mm).trans z_up_self
  have hfr : ∀ b ∈ L, b ≠ mm → f3 b = f b := fun b hb h0 => (congrFun e_f3 b).trans (z_up_ne h0 (hfr b hb h0))
  refine lv_aload_n hx hb dX10_plainly_15 rfl (lv_at hl 0 rfl) ?_
  refine lv_iconst (v := 0) hx hb dX10_plainly_16 (by decide) ?_
  refine z_put (C := RX10) (T := TX10) (N := 54) (ci := 10) (v := .int 0) (fs' := [.int m0, .ref wd, .ref my, .ref ce, .ref mv, .ref ta, .int m6, .int m7, .int m8, .int m9, .int m10, .long m11, .int m12, .int m13, .int m14, .int m15, .ref li, .ref ha, .ref lw, .ref st, .ref fo, .ref dr, .int m22, .ref ik, .int (-1), .int w2, .long m26, .int 0, .int m28, .ref ro, .int m30, .ref ct, .ref se, .ref th, .ref cn, .ref be, .int m36, .ref du, .int m38, .ref db, .int m40, .int m41, .int m42, .ref pn, .ref wg, .ref wh, .ref tn, .ref he, .int m48, .ref tr, .ref fd, .ref po, .int m52, .int m53]) hx hb hT zin_X10 tyX10_ok nmX10 hown hK hw hm_mm hf_mm rfl 27 (by decide) (hT _ kw_1195) rfl rfl rfl (Nat.le_of_ble_eq_true rfl) rfl dX10_plainly_17 (fun H locs hw => ?_)
  obtain ⟨f4, e_f4⟩ : ∃ z, z = va_up f3 mm (.inr (10, [.int m0, .ref wd, .ref my, .ref ce, .ref mv, .ref ta, .int m6, .int m7, .int m8, .int m9, .int m10, .long m11, .int m12, .int m13, .int m14, .int m15, .ref li, .ref ha, .ref lw, .ref st, .ref fo, .ref dr, .int m22, .ref ik, .int (-1), .int w2, .long m26, .int 0, .int m28, .ref ro, .int m30, .ref ct, .ref se, .ref th, .ref cn, .ref be, .int m36, .ref du, .int m38, .ref db, .int m40, .int m41, .int m42, .ref pn, .ref wg, .ref wh, .ref tn, .ref he, .int m48, .ref tr, .ref fd, .ref po, .int m52, .int m53])) := ⟨_, rfl⟩
  rw [← e_f4] at hw
  have hf_ha : f4 ha = .inl (cy 1, 30, .inl gha) := (congrFun e_f4 ha).trans (z_up_ne (z_tne hf_ha hf_mm (m := 340) (n := 10) rfl rfl (by decide)) hf_ha)
  have hf_mm : f4 mm = .inr (10, [.int m0, .ref wd, .ref my, .ref ce, .ref mv, .ref ta, .int m6, .int m7, .int m8, .int m9, .int m10, .long m11, .int m12, .int m13, .int m14, .int m15, .ref li, .ref ha, .ref lw, .ref st, .ref fo, .ref dr, .int m22, .ref ik, .int (-1), .int w2, .long m26, .int 0, .int m28, .ref ro, .int m30, .ref ct, .ref se, .ref th, .ref cn, .ref be, .int m36, .ref du, .int m38, .ref db, .int m40, .int m41, .int m42, .ref pn, .ref wg, .ref wh, .ref tn, .ref he, .int m48, .ref tr, .ref fd, .ref po, .int m52, .int m53]) := (congrFun e_f4 mm).trans z_up_self
  have hfr : ∀ b ∈ L, b ≠ mm → f4 b = f b := fun b hb h0 => (congrFun e_f4 b).trans (z_up_ne h0 (hfr b hb h0))
  refine lv_aload_n hx hb dX10_plainly_20 rfl (lv_at hl 0 rfl) ?_
  refine lv_sipush (v := 1000) hx hb dX10_plainly_21 (by decide) ?_
  refine z_put (C := RX10) (T := TX10) (N := 54) (ci := 10) (v := .int 1000) (fs' := [.int m0, .ref wd, .ref my, .ref ce, .ref mv, .ref ta, .int m6, .int m7, .int m8, .int m9, .int m10, .long m11, .int m12, .int m13, .int m14, .int m15, .ref li, .ref ha, .ref lw, .ref st, .ref fo, .ref dr, .int m22, .ref ik, .int (-1), .int w2, .long m26, .int 0, .int 1000, .ref ro, .int m30, .ref ct, .ref se, .ref th, .ref cn, .ref be, .int m36, .ref du, .int m38, .ref db, .int m40, .int m41, .int m42, .ref pn, .ref wg, .ref wh, .ref tn, .ref he, .int m48, .ref tr, .ref fd, .ref po, .int m52, .int m53]) hx hb hT zin_X10 tyX10_ok nmX10 hown hK hw hm_mm hf_mm rfl 28 (by decide) (hT _ kw_1196) rfl rfl rfl (Nat.le_of_ble_eq_true rfl) rfl dX10_plainly_24 (fun H locs hw => ?_)
  obtain ⟨f5, e_f5⟩ : ∃ z, z = va_up f4 mm (.inr (10, [.int m0, .ref wd, .ref my, .ref ce, .ref mv, .ref ta, .int m6, .int m7, .int m8, .int m9, .int m10, .long m11, .int m12, .int m13, .int m14, .int m15, .ref li, .ref ha, .ref lw, .ref st, .ref fo, .ref dr, .int m22, .ref ik, .int (-1), .int w2, .long m26, .int 0, .int 1000, .ref ro, .int m30, .ref ct, .ref se, .ref th, .ref cn, .ref be, .int m36, .ref du, .int m38, .ref db, .int m40, .int m41, .int m42, .ref pn, .ref wg, .ref wh, .ref tn, .ref he, .int m48, .ref tr, .ref fd, .ref po, .int m52, .int m53])) := ⟨_, rfl⟩
  rw [← e_f5] at hw
  have hf_ha : f5 ha = .inl (cy 1, 30, .inl gha) := (congrFun e_f5 ha).trans (z_up_ne (z_tne hf_ha hf_mm (m := 340) (n := 10) rfl rfl (by decide)) hf_ha)
  have hf_mm : f5 mm = .inr (10, [.int m0, .ref wd, .ref my, .ref ce, .ref mv, .ref ta, .int m6, .int m7, .int m8, .int m9, .int m10, .long m11, .int m12, .int m13, .int m14, .int m15, .ref li, .ref ha, .ref lw, .ref st, .ref fo, .ref dr, .int m22, .ref ik, .int (-1), .int w2, .long m26, .int 0, .int 1000, .ref ro, .int m30, .ref ct, .ref se, .ref th, .ref cn, .ref be, .int m36, .ref du, .int m38, .ref db, .int m40, .int m41, .int m42, .ref pn, .ref wg, .ref wh, .ref tn, .ref he, .int m48, .ref tr, .ref fd, .ref po, .int m52, .int m53]) := (congrFun e_f5 mm).trans z_up_self
  have hfr : ∀ b ∈ L, b ≠ mm → f5 b = f b := fun b hb h0 => (congrFun e_f5 b).trans (z_up_ne h0 (hfr b hb h0))
  exact z_vret hx hb hr hlk (by decide) (by decide) hw (⟨hsub, hfr, w2, hf_mm, by omega, by omega⟩) dX10_plainly_27

set_option maxHeartbeats 2000000 in
set_option maxRecDepth 100000 in
theorem c_X10_paidBy (l : Launch) {D : va_G} {cy : Nat → ClassId} {L : List Nat} {f : Nat → va_E} {sz : Nat} {adK adV : Nat → Nat} {mm wd my ce mv ta li ha lw st fo dr ik ro ct se th cn be du db pn wg wh tn he tr fd po : Nat} {m0 m6 m7 m8 m9 m10 m12 m13 m14 m15 m22 m24 m25 m27 m28 m30 m36 m38 m40 m41 m42 m48 m52 m53 : Int32} {m11 m26 : Int64} {glw gdb : Nat → Int32}  {oo : Int32} (hm_mm : mm ∈ L) (hm_db : db ∈ L) (hm_lw : lw ∈ L) (hf_mm : f mm = .inr (10, [.int m0, .ref wd, .ref my, .ref ce, .ref mv, .ref ta, .int m6, .int m7, .int m8, .int m9, .int m10, .long m11, .int m12, .int m13, .int m14, .int m15, .ref li, .ref ha, .ref lw, .ref st, .ref fo, .ref dr, .int m22, .ref ik, .int m24, .int m25, .long m26, .int m27, .int m28, .ref ro, .int m30, .ref ct, .ref se, .ref th, .ref cn, .ref be, .int m36, .ref du, .int m38, .ref db, .int m40, .int m41, .int m42, .ref pn, .ref wg, .ref wh, .ref tn, .ref he, .int m48, .ref tr, .ref fd, .ref po, .int m52, .int m53])) (hf_db : f db = .inl (cy 1, 5, .inl gdb)) (hf_lw : f lw = .inl (cy 1, 25, .inl glw)) (hq_lw : ∀ j : Nat, q_law j (glw j)) (hoo : 0 ≤ oo.toInt ∧ oo.toInt ≤ 4) : Met l yX10_paidBy (z_ws yX10_paidBy cX10_paidBy 2 (some .int)) (z_R 1 0 0) (va_Pc [.ref mm, .int oo] (z_Pre D vwCl (z_KK D cy adK adV) L f sz)) (z_Qi D vwCl (fun r u => u = (L, f) ∧ (True)) L sz) 0 0 (z_A L sz) := by
  refine z_met (cc := cX10_paidBy) (maxL := 2) (ret := (some .int)) (lv := [(0, .ref mm), (1, .int oo)]) (by decide) rfl (Nat.le_of_ble_eq_true rfl) rfl ?_
  intro p e s m below meth c ls hx hb hr hlk hml hown hnm hts hKK hA hw hl
  have hK := hKK.1.1
  have hown : s.vm.findClass RX10 = some m.cls := hown
  have hT : ∀ w ∈ lw_all, w.before ([.ref mm, .int oo] : List Value).toArray s = true := fun w h => hts w (z_cons w h)
  refine lv_aload_n hx hb dX10_paidBy_0 rfl (lv_at hl 0 rfl) ?_
  refine z_get (C := RX10) (T := TX10) (N := 54) (ci := 10) (v := .ref db) hx hb hT zin_X10 hown hK hw hm_mm hf_mm rfl 39 (by decide) (hT _ kw_1207) rfl dX10_paidBy_1 ?_
  refine lv_iload_n hx hb dX10_paidBy_4 rfl (lv_at hl 1 rfl) ?_
  refine z_iald hx hb hK hw 1 hm_db hf_db rfl (z_ix rfl (by omega)) dX10_paidBy_5 ?_
  refine lv_topi (fun w1 e_w1 => ?_)
  refine lv_aload_n hx hb dX10_paidBy_6 rfl (lv_at hl 0 rfl) ?_
  refine z_get (C := RX10) (T := TX10) (N := 54) (ci := 10) (v := .ref lw) hx hb hT zin_X10 hown hK hw hm_mm hf_mm rfl 18 (by decide) (hT _ kw_1186) rfl dX10_paidBy_7 ?_
  refine lv_iconst (v := 4) hx hb dX10_paidBy_10 (by decide) ?_
  refine z_iald hx hb hK hw 1 hm_lw hf_lw rfl (z_ix (show (4 : Int32).toInt = 4 by decide) (by decide)) dX10_paidBy_11 ?_
  refine lv_topi (fun w2 e_w2 => ?_)
  have hv_w2 : 0 ≤ w2.toInt ∧ w2.toInt ≤ 999 := by rw [e_w2]; exact hq_lw _
  refine lv_imul hx hb dX10_paidBy_12 ?_
  refine lv_topi (fun w3 e_w3 => ?_)
  exact z_iret hx hb hr hlk (by decide) (by decide) hw (⟨rfl, trivial⟩) dX10_paidBy_13

set_option maxHeartbeats 2000000 in
set_option maxRecDepth 100000 in
theorem c_X10_othersThan (l : Launch) {D : va_G} {cy : Nat → ClassId} {L : List Nat} {f : Nat → va_E} {sz : Nat} {adK adV : Nat → Nat} {mm wd my ce mv ta li ha lw st fo dr ik ro ct se th cn be du db pn wg wh tn he tr fd po : Nat} {m0 m6 m7 m8 m9 m10 m12 m13 m14 m15 m22 m24 m25 m27 m28 m30 m36 m38 m40 m41 m42 m48 m52 m53 : Int32} {m11 m26 : Int64} {glw gdb : Nat → Int32}  {oo : Int32} (hm_mm : mm ∈ L) (hm_db : db ∈ L) (hm_lw : lw ∈ L) (hf_mm : f mm = .inr (10, [.int m0, .ref wd, .ref my, .ref ce, .ref mv, .ref ta, .int m6, .int m7, .int m8, .int m9, .int m10, .long m11, .int m12, .int m13, .int m14, .int m15, .ref li, .ref ha, .ref lw, .ref st, .ref fo, .ref dr, .int m22, .ref ik, .int m24, .int m25, .long m26, .int m27, .int m28, .ref ro, .int m30, .ref ct, .ref se, .ref th, .ref cn, .ref be, .int m36, .ref du, .int m38, .ref db, .int m40, .int m41, .int m42, .ref pn, .ref wg, .ref wh, .ref tn, .ref he, .int m48, .ref tr, .ref fd, .ref po, .int m52, .int m53])) (hf_db : f db = .inl (cy 1, 5, .inl gdb)) (hf_lw : f lw = .inl (cy 1, 25, .inl glw)) (hq_lw : ∀ j : Nat, q_law j (glw j)) : Met l yX10_othersThan (z_ws yX10_othersThan cX10_othersThan 4 (some .int)) (z_R 2 0 0) (va_Pc [.ref mm, .int oo] (z_Pre D vwCl (z_KK D cy adK adV) L f sz)) (z_Qi D vwCl (fun r u => u = (L, f) ∧ (True)) L sz) 0 0 (z_A L sz) := by
  refine z_met (cc := cX10_othersThan) (maxL := 4) (ret := (some .int)) (lv := [(0, .ref mm), (1, .int oo)]) (by decide) rfl (Nat.le_of_ble_eq_true rfl) rfl ?_
  intro p e s m below meth c ls hx hb hr hlk hml hown hnm hts hKK hA hw hl
  have hK := hKK.1.1
  have hown : s.vm.findClass RX10 = some m.cls := hown
  have hT : ∀ w ∈ lw_all, w.before ([.ref mm, .int oo] : List Value).toArray s = true := fun w h => hts w (z_cons w h)
  refine lv_iconst (v := 0) hx hb dX10_othersThan_0 (by decide) ?_
  refine lv_istore_n (lv' := [(2, .int 0), (0, .ref mm), (1, .int oo)]) hx hb dX10_othersThan_1 rfl hl (by decide) rfl (fun ls hl => ?_)
  refine lv_iconst (v := 0) hx hb dX10_othersThan_2 (by decide) ?_
  refine lv_istore_n (lv' := [(3, .int 0), (2, .int 0), (0, .ref mm), (1, .int oo)]) hx hb dX10_othersThan_3 rfl hl (by decide) rfl (fun ls hl => ?_)
  have hzk : (0 : Int32).toInt = 0 := by decide
  refine z_loop (fun n H locs ls => ∃ (K1 : Int32) (V2 : Int32), (n = (5 - K1.toInt).toNat) ∧ (0 ≤ K1.toInt) ∧ (K1.toInt ≤ 5) ∧ (z_H D vwCl (z_A L sz) s.heap L f H locs) ∧ (lv_has ls 4 [(3, .int K1), (2, .int V2), (0, .ref mm), (1, .int oo)])) _ ⟨0, 0, rfl, (by first | decide | omega), (by first | decide | omega), hw, (lv_sub hl [0, 1, 2, 3] rfl)⟩ (fun n H locs ls hI ih_4 => ?_)
  obtain ⟨K1, V2, hn, hk0, hk1, hw, hl⟩ := hI
  refine lv_iload_n hx hb dX10_othersThan_4 rfl (lv_at hl 0 rfl) ?_
  refine lv_iconst (v := 5) hx hb dX10_othersThan_5 (by decide) ?_
  refine z_icmp_ge (tgt := 32) hx hb rfl (show (5 : Int32).toInt = 5 by decide) dX10_othersThan_6 (by decide) (fun c3 => ?_) (fun c3 => ?_)
  · skip
    refine lv_iload_n hx hb dX10_othersThan_32 rfl (lv_at hl 1 rfl) ?_
    exact z_iret hx hb hr hlk (by decide) (by decide) hw (⟨rfl, trivial⟩) dX10_othersThan_33
  · skip
    refine lv_iload_n hx hb dX10_othersThan_9 rfl (lv_at hl 1 rfl) ?_
    refine lv_iload_n hx hb dX10_othersThan_10 rfl (lv_at hl 0 rfl) ?_
    refine lv_iload_n hx hb dX10_othersThan_11 rfl (lv_at hl 3 rfl) ?_
    refine z_icmp_ne (tgt := 19) hx hb rfl rfl dX10_othersThan_12 (by decide) (fun c4 => ?_) (fun c4 => ?_)
    · skip
      refine lv_aload_n hx hb dX10_othersThan_19 rfl (lv_at hl 2 rfl) ?_
      refine lv_iload_n hx hb dX10_othersThan_20 rfl (lv_at hl 0 rfl) ?_
      refine z_calliV (cells := 0) (slots := 0) (b := mm) (As := [.int K1]) (rest := [.int V2]) (ci := 10) (q0 := (RX10, TX10, 54)) ⟨hx, hb, hml, hown, hT⟩ (c_X10_paidBy l hm_mm hm_db hm_lw hf_mm hf_db hf_lw hq_lw (by first | omega | decide | assumption)) (cwV 1 hT (z_goodV (fun _ h => h) kw_1608 kw_1610 kw_70 kw_96 kw_1611) rfl rfl rfl (by decide +kernel) ⟨by decide, by decide⟩) z_mv hKK hK hw hA hm_mm hf_mm rfl rfl rfl hl.1 rfl (Nat.le_of_ble_eq_true rfl) dX10_othersThan_21 ⟨by decide, by decide⟩ (fun r5 u H locs hp hw => ?_)
      obtain ⟨rfl, hp⟩ := hp
      have hw : z_H D vwCl (z_A L sz) s.heap L f H locs := hw
      refine lv_iadd hx hb dX10_othersThan_24 ?_
      refine lv_topi (fun w6 e_w6 => ?_)
      refine lv_istore_n (lv' := [(2, .int w6), (3, .int K1), (0, .ref mm), (1, .int oo)]) hx hb dX10_othersThan_25 rfl hl (by decide) rfl (fun ls hl => ?_)
      obtain ⟨k7, e_k7⟩ : ∃ z : Int32, z = K1 + 1 := ⟨_, rfl⟩
      refine lv_iinc (v := k7) (lv' := [(3, .int k7), (2, .int w6), (0, .ref mm), (1, .int oo)]) hx hb dX10_othersThan_26 hl (k := 1) rfl (by rw [e_k7]; rfl) (by decide) rfl (fun ls hl => ?_)
      have i_k7 : k7.toInt = (K1.toInt + 1) := z_add e_k7 rfl (by decide) (by omega)
      refine lv_goto (tgt := 4) hx hb dX10_othersThan_29 (by decide) ?_
      exact ih_4 _ (by omega) _ _ _ ⟨k7, w6, rfl, (by first | decide | omega), (by first | decide | omega), hw, (lv_sub hl [0, 1, 2, 3] rfl)⟩
    · skip
      refine lv_iconst (v := 0) hx hb dX10_othersThan_15 (by decide) ?_
      refine lv_goto (tgt := 24) hx hb dX10_othersThan_16 (by decide) ?_
      refine lv_iadd hx hb dX10_othersThan_24 ?_
      refine lv_topi (fun w8 e_w8 => ?_)
      refine lv_istore_n (lv' := [(2, .int w8), (3, .int K1), (0, .ref mm), (1, .int oo)]) hx hb dX10_othersThan_25 rfl hl (by decide) rfl (fun ls hl => ?_)
      obtain ⟨k9, e_k9⟩ : ∃ z : Int32, z = K1 + 1 := ⟨_, rfl⟩
      refine lv_iinc (v := k9) (lv' := [(3, .int k9), (2, .int w8), (0, .ref mm), (1, .int oo)]) hx hb dX10_othersThan_26 hl (k := 1) rfl (by rw [e_k9]; rfl) (by decide) rfl (fun ls hl => ?_)
      have i_k9 : k9.toInt = (K1.toInt + 1) := z_add e_k9 rfl (by decide) (by omega)
      refine lv_goto (tgt := 4) hx hb dX10_othersThan_29 (by decide) ?_
      exact ih_4 _ (by omega) _ _ _ ⟨k9, w8, rfl, (by first | decide | omega), (by first | decide | omega), hw, (lv_sub hl [0, 1, 2, 3] rfl)⟩

set_option maxHeartbeats 2000000 in
set_option maxRecDepth 100000 in
theorem c_X10_goesTo (l : Launch) {D : va_G} {cy : Nat → ClassId} {L : List Nat} {f : Nat → va_E} {sz : Nat} {adK adV : Nat → Nat} {mm wd my ce mv ta li ha lw st fo dr ik ro ct se th cn be du db pn wg wh tn he tr fd po : Nat} {m0 m6 m7 m8 m9 m10 m12 m13 m14 m15 m22 m24 m25 m27 m28 m30 m36 m38 m40 m41 m42 m48 m52 m53 : Int32} {m11 m26 : Int64} {gdr : Nat → Int32}  {kk ga ho : Int32} (hm_mm : mm ∈ L) (hm_dr : dr ∈ L) (hf_mm : f mm = .inr (10, [.int m0, .ref wd, .ref my, .ref ce, .ref mv, .ref ta, .int m6, .int m7, .int m8, .int m9, .int m10, .long m11, .int m12, .int m13, .int m14, .int m15, .ref li, .ref ha, .ref lw, .ref st, .ref fo, .ref dr, .int m22, .ref ik, .int m24, .int m25, .long m26, .int m27, .int m28, .ref ro, .int m30, .ref ct, .ref se, .ref th, .ref cn, .ref be, .int m36, .ref du, .int m38, .ref db, .int m40, .int m41, .int m42, .ref pn, .ref wg, .ref wh, .ref tn, .ref he, .int m48, .ref tr, .ref fd, .ref po, .int m52, .int m53])) (hf_dr : f dr = .inl (cy 1, 520, .inl gdr)) (hq_dr : ∀ j : Nat, q_drv j (gdr j)) (hkk : 0 ≤ kk.toInt ∧ kk.toInt ≤ 12) (hga : 0 ≤ ga.toInt ∧ ga.toInt ≤ 3) (hho : 0 ≤ ho.toInt ∧ ho.toInt ≤ 23) : Met l yX10_goesTo (z_ws yX10_goesTo cX10_goesTo 4 none) (z_R 1 0 0) (va_Pc [.ref mm, .int kk, .int ga, .int ho] (z_Pre D vwCl (z_KK D cy adK adV) L f sz)) (z_Qv D vwCl (fun u => L = u.1 ∧ (∀ b ∈ L, b ≠ dr → u.2 b = f b) ∧ (∃ (ndr : Nat → Int32), (u.2 dr = .inl (cy 1, 520, .inl ndr)) ∧ (∀ j : Nat, q_drv j (ndr j)) ∧ (True))) L sz) 0 0 (z_A L sz) := by
  refine z_met (cc := cX10_goesTo) (maxL := 4) (ret := none) (lv := [(0, .ref mm), (1, .int kk), (2, .int ga), (3, .int ho)]) (by decide) rfl (Nat.le_of_ble_eq_true rfl) rfl ?_
  intro p e s m below meth c ls hx hb hr hlk hml hown hnm hts hKK hA hw hl
  have hK := hKK.1.1
  have hown : s.vm.findClass RX10 = some m.cls := hown
  have hT : ∀ w ∈ lw_all, w.before ([.ref mm, .int kk, .int ga, .int ho] : List Value).toArray s = true := fun w h => hts w (z_cons w h)
  have hsub : L = L := rfl
  have hfr : ∀ b ∈ L, b ≠ dr → f b = f b := fun _ _ _ => rfl
  refine lv_aload_n hx hb dX10_goesTo_0 rfl (lv_at hl 0 rfl) ?_
  refine z_get (C := RX10) (T := TX10) (N := 54) (ci := 10) (v := .ref dr) hx hb hT zin_X10 hown hK hw hm_mm hf_mm rfl 21 (by decide) (hT _ kw_1189) rfl dX10_goesTo_1 ?_
  refine lv_bipush (v := 8) hx hb dX10_goesTo_4 (by decide) ?_
  refine lv_iload_n hx hb dX10_goesTo_6 rfl (lv_at hl 1 rfl) ?_
  refine lv_imul hx hb dX10_goesTo_7 ?_
  refine lv_topi (fun w1 e_w1 => ?_)
  have i_w1 : w1.toInt = (8 * kk.toInt) := z_mul e_w1 (show (8 : Int32).toInt = 8 by decide) rfl (by omega)
  refine lv_iconst (v := 1) hx hb dX10_goesTo_8 (by decide) ?_
  refine lv_iadd hx hb dX10_goesTo_9 ?_
  refine lv_topi (fun w2 e_w2 => ?_)
  have i_w2 : w2.toInt = ((8 * kk.toInt) + 1) := z_add e_w2 i_w1 (show (1 : Int32).toInt = 1 by decide) (by omega)
  refine lv_iload_n hx hb dX10_goesTo_10 rfl (lv_at hl 2 rfl) ?_
  refine z_iast hx hb hK hw 1 hm_dr hf_dr rfl (z_ix i_w2 (by omega)) dX10_goesTo_11 (fun H locs hw => ?_)
  obtain ⟨f4, e_f4⟩ : ∃ z, z = va_up f dr (.inl (cy 1, 520, .inl (upd gdr w2.toNatClampNeg ga))) := ⟨_, rfl⟩
  rw [← e_f4] at hw
  have hf_mm : f4 mm = .inr (10, [.int m0, .ref wd, .ref my, .ref ce, .ref mv, .ref ta, .int m6, .int m7, .int m8, .int m9, .int m10, .long m11, .int m12, .int m13, .int m14, .int m15, .ref li, .ref ha, .ref lw, .ref st, .ref fo, .ref dr, .int m22, .ref ik, .int m24, .int m25, .long m26, .int m27, .int m28, .ref ro, .int m30, .ref ct, .ref se, .ref th, .ref cn, .ref be, .int m36, .ref du, .int m38, .ref db, .int m40, .int m41, .int m42, .ref pn, .ref wg, .ref wh, .ref tn, .ref he, .int m48, .ref tr, .ref fd, .ref po, .int m52, .int m53]) := (congrFun e_f4 mm).trans (z_up_ne (z_tne hf_mm hf_dr (m := 10) (n := 4260) rfl rfl (by decide)) hf_mm)
  have hf_dr : f4 dr = .inl (cy 1, 520, .inl (upd gdr w2.toNatClampNeg ga)) := (congrFun e_f4 dr).trans z_up_self
  have hfr : ∀ b ∈ L, b ≠ dr → f4 b = f b := fun b hb h0 => (congrFun e_f4 b).trans (z_up_ne h0 (hfr b hb h0))
  obtain ⟨g3, e_g3⟩ : ∃ z, z = (upd gdr w2.toNatClampNeg ga) := ⟨_, rfl⟩
  rw [← e_g3] at hf_dr
  have hq_dr : ∀ j : Nat, q_drv j (g3 j) := z_updQ hq_dr e_g3 (show q_drv _ _ from z_drS1 (z_mod8 i_w2 (by omega)) (show 0 ≤ (ga : Int32).toInt ∧ (ga : Int32).toInt ≤ 3 by first | decide | omega))
  refine lv_aload_n hx hb dX10_goesTo_12 rfl (lv_at hl 0 rfl) ?_
  refine z_get (C := RX10) (T := TX10) (N := 54) (ci := 10) (v := .ref dr) hx hb hT zin_X10 hown hK hw hm_mm hf_mm rfl 21 (by decide) (hT _ kw_1189) rfl dX10_goesTo_13 ?_
  refine lv_bipush (v := 8) hx hb dX10_goesTo_16 (by decide) ?_
  refine lv_iload_n hx hb dX10_goesTo_18 rfl (lv_at hl 1 rfl) ?_
  refine lv_imul hx hb dX10_goesTo_19 ?_
  refine lv_topi (fun w5 e_w5 => ?_)
  have i_w5 : w5.toInt = (8 * kk.toInt) := z_mul e_w5 (show (8 : Int32).toInt = 8 by decide) rfl (by omega)
  refine lv_iconst (v := 3) hx hb dX10_goesTo_20 (by decide) ?_
  refine lv_iadd hx hb dX10_goesTo_21 ?_
  refine lv_topi (fun w6 e_w6 => ?_)
  have i_w6 : w6.toInt = ((8 * kk.toInt) + 3) := z_add e_w6 i_w5 (show (3 : Int32).toInt = 3 by decide) (by omega)
  refine lv_iload_n hx hb dX10_goesTo_22 rfl (lv_at hl 3 rfl) ?_
  refine z_iast hx hb hK hw 1 hm_dr hf_dr rfl (z_ix i_w6 (by omega)) dX10_goesTo_23 (fun H locs hw => ?_)
  obtain ⟨f8, e_f8⟩ : ∃ z, z = va_up f4 dr (.inl (cy 1, 520, .inl (upd g3 w6.toNatClampNeg ho))) := ⟨_, rfl⟩
  rw [← e_f8] at hw
  have hf_mm : f8 mm = .inr (10, [.int m0, .ref wd, .ref my, .ref ce, .ref mv, .ref ta, .int m6, .int m7, .int m8, .int m9, .int m10, .long m11, .int m12, .int m13, .int m14, .int m15, .ref li, .ref ha, .ref lw, .ref st, .ref fo, .ref dr, .int m22, .ref ik, .int m24, .int m25, .long m26, .int m27, .int m28, .ref ro, .int m30, .ref ct, .ref se, .ref th, .ref cn, .ref be, .int m36, .ref du, .int m38, .ref db, .int m40, .int m41, .int m42, .ref pn, .ref wg, .ref wh, .ref tn, .ref he, .int m48, .ref tr, .ref fd, .ref po, .int m52, .int m53]) := (congrFun e_f8 mm).trans (z_up_ne (z_tne hf_mm hf_dr (m := 10) (n := 4260) rfl rfl (by decide)) hf_mm)
  have hf_dr : f8 dr = .inl (cy 1, 520, .inl (upd g3 w6.toNatClampNeg ho)) := (congrFun e_f8 dr).trans z_up_self
  have hfr : ∀ b ∈ L, b ≠ dr → f8 b = f b := fun b hb h0 => (congrFun e_f8 b).trans (z_up_ne h0 (hfr b hb h0))
  obtain ⟨g7, e_g7⟩ : ∃ z, z = (upd g3 w6.toNatClampNeg ho) := ⟨_, rfl⟩
  rw [← e_g7] at hf_dr
  have hq_dr : ∀ j : Nat, q_drv j (g7 j) := z_updQ hq_dr e_g7 (show q_drv _ _ from z_drS3 (z_mod8 i_w6 (by omega)) (show 0 ≤ (ho : Int32).toInt ∧ (ho : Int32).toInt ≤ 23 by first | decide | omega))
  exact z_vret hx hb hr hlk (by decide) (by decide) hw (⟨hsub, hfr, g7, hf_dr, hq_dr, trivial⟩) dX10_goesTo_24
