set_option maxHeartbeats 2000000 in
set_option maxRecDepth 100000 in
theorem c_X10_in (l : Launch) {D : va_G} {cy : Nat → ClassId} {L : List Nat} {f : Nat → va_E} {sz : Nat} {adK adV : Nat → Nat}      {va lo hi : Int64}  : Met l yX10_in (z_ws yX10_in cX10_in 6 (some .boolean)) (z_R 1 0 0) (va_Pc [.long va, .long lo, .long hi] (z_Pre D vwCl (z_KK D cy adK adV) L f sz)) (z_Qi D vwCl (fun r u => u = (L, f) ∧ ((r = 1 ∧ (lo.toInt ≤ va.toInt ∧ va.toInt ≤ hi.toInt)) ∨ (r = 0 ∧ ¬ (lo.toInt ≤ va.toInt ∧ va.toInt ≤ hi.toInt)))) L sz) 0 0 (z_A L sz) := by
  refine z_met (cc := cX10_in) (maxL := 6) (ret := (some .boolean)) (lv := [(0, .long va), (2, .long lo), (4, .long hi)]) (by decide) rfl (Nat.le_of_ble_eq_true rfl) rfl ?_
  intro p e s m below meth c ls hx hb hr hlk hml hown hnm hts hKK hA hw hl
  have hK := hKK.1.1
  have hown : s.vm.findClass RX10 = some m.cls := hown
  have hT : ∀ w ∈ lw_all, w.before ([.long va, .long lo, .long hi] : List Value).toArray s = true := fun w h => hts w (z_cons w h)
  refine lv_lload_n hx hb dX10_in_0 rfl (lv_at hl 0 rfl) ?_
  refine lv_lload_n hx hb dX10_in_1 rfl (lv_at hl 1 rfl) ?_
  refine W.lcmp hx hb dX10_in_2 ?_
  refine lv_topi (fun w1 e_w1 => ?_)
  have i_w1 := z_lc e_w1 rfl rfl
  refine z_if_lt (tgt := 17) hx hb rfl dX10_in_3 (by decide) (fun c2 => ?_) (fun c2 => ?_)
  · skip
    refine lv_iconst (v := 0) hx hb dX10_in_17 (by decide) ?_
    exact z_zret hx hb hr rfl hlk (by decide) (by decide) hw (⟨rfl, Or.inr ⟨rfl, by omega⟩⟩) dX10_in_18
  · skip
    refine lv_lload_n hx hb dX10_in_6 rfl (lv_at hl 0 rfl) ?_
    refine lv_lload hx hb dX10_in_7 (lv_at hl 2 rfl) ?_
    refine W.lcmp hx hb dX10_in_9 ?_
    refine lv_topi (fun w3 e_w3 => ?_)
    have i_w3 := z_lc e_w3 rfl rfl
    refine z_if_gt (tgt := 17) hx hb rfl dX10_in_10 (by decide) (fun c4 => ?_) (fun c4 => ?_)
    · skip
      refine lv_iconst (v := 0) hx hb dX10_in_17 (by decide) ?_
      exact z_zret hx hb hr rfl hlk (by decide) (by decide) hw (⟨rfl, Or.inr ⟨rfl, by omega⟩⟩) dX10_in_18
    · skip
      refine lv_iconst (v := 1) hx hb dX10_in_13 (by decide) ?_
      refine lv_goto (tgt := 18) hx hb dX10_in_14 (by decide) ?_
      exact z_zret hx hb hr rfl hlk (by decide) (by decide) hw (⟨rfl, Or.inl ⟨rfl, by omega⟩⟩) dX10_in_18

set_option maxHeartbeats 2000000 in
set_option maxRecDepth 100000 in
theorem c_X10_isSlot (l : Launch) {D : va_G} {cy : Nat → ClassId} {L : List Nat} {f : Nat → va_E} {sz : Nat} {adK adV : Nat → Nat}      {sn : Int32}  : Met l yX10_isSlot (z_ws yX10_isSlot cX10_isSlot 1 (some .boolean)) (z_R 2 0 0) (va_Pc [.int sn] (z_Pre D vwCl (z_KK D cy adK adV) L f sz)) (z_Qi D vwCl (fun r u => u = (L, f) ∧ ((r = 1 ∧ (0 ≤ sn.toInt ∧ sn.toInt ≤ 3)) ∨ (r = 0 ∧ ¬ (0 ≤ sn.toInt ∧ sn.toInt ≤ 3)))) L sz) 0 0 (z_A L sz) := by
  refine z_met (cc := cX10_isSlot) (maxL := 1) (ret := (some .boolean)) (lv := [(0, .int sn)]) (by decide) rfl (Nat.le_of_ble_eq_true rfl) rfl ?_
  intro p e s m below meth c ls hx hb hr hlk hml hown hnm hts hKK hA hw hl
  have hK := hKK.1.1
  have hown : s.vm.findClass RX10 = some m.cls := hown
  have hT : ∀ w ∈ lw_all, w.before ([.int sn] : List Value).toArray s = true := fun w h => hts w (z_cons w h)
  refine lv_iload_n hx hb dX10_isSlot_0 rfl (lv_at hl 0 rfl) ?_
  refine lv_i2l hx hb dX10_isSlot_1 rfl ?_
  refine lv_topl (fun w1 e_w1 => ?_)
  have i_w1 : w1.toInt = sn.toInt := z_i2l e_w1 rfl
  refine lv_lconst (v := 0) hx hb dX10_isSlot_2 (by decide) ?_
  refine lv_ldc2 (v := 3) hx hb hown (hT _ kw_1338) dX10_isSlot_3 ?_
  have hz2 := (show (0 : Int64).toInt = 0 by decide)
  have hz3 := (show (3 : Int64).toInt = 3 by decide)
  refine z_calliS (cells := 0) (slots := 0) (As := [.long w1, .long 0, .long 3]) (rest := []) ⟨hx, hb, hml, hown, hT⟩ (c_X10_in l ) (va_cwS 3 hT (z_goodS (fun _ h => h) kw_1339 kw_1340 kw_96 kw_1341) rfl rfl rfl (by decide +kernel) ⟨by decide, by decide⟩) z_mv hKK hw hA rfl hl.1 rfl (Nat.le_of_ble_eq_true rfl) dX10_isSlot_6 ⟨by decide, by decide⟩ (fun r4 u H locs hp hw => ?_)
  obtain ⟨rfl, hp⟩ := hp
  have hw : z_H D vwCl (z_A L sz) s.heap L f H locs := hw
  rcases hp with ⟨rfl, h5⟩ | ⟨rfl, h5⟩
  · skip
    exact z_zret hx hb hr rfl hlk (by decide) (by decide) hw (⟨rfl, Or.inl ⟨rfl, by omega⟩⟩) dX10_isSlot_9
  · skip
    exact z_zret hx hb hr rfl hlk (by decide) (by decide) hw (⟨rfl, Or.inr ⟨rfl, by omega⟩⟩) dX10_isSlot_9

set_option maxHeartbeats 2000000 in
set_option maxRecDepth 100000 in
theorem c_X10_isHour (l : Launch) {D : va_G} {cy : Nat → ClassId} {L : List Nat} {f : Nat → va_E} {sz : Nat} {adK adV : Nat → Nat}      {sn : Int32}  : Met l yX10_isHour (z_ws yX10_isHour cX10_isHour 1 (some .boolean)) (z_R 2 0 0) (va_Pc [.int sn] (z_Pre D vwCl (z_KK D cy adK adV) L f sz)) (z_Qi D vwCl (fun r u => u = (L, f) ∧ ((r = 1 ∧ (0 ≤ sn.toInt ∧ sn.toInt ≤ 23)) ∨ (r = 0 ∧ ¬ (0 ≤ sn.toInt ∧ sn.toInt ≤ 23)))) L sz) 0 0 (z_A L sz) := by
  refine z_met (cc := cX10_isHour) (maxL := 1) (ret := (some .boolean)) (lv := [(0, .int sn)]) (by decide) rfl (Nat.le_of_ble_eq_true rfl) rfl ?_
  intro p e s m below meth c ls hx hb hr hlk hml hown hnm hts hKK hA hw hl
  have hK := hKK.1.1
  have hown : s.vm.findClass RX10 = some m.cls := hown
  have hT : ∀ w ∈ lw_all, w.before ([.int sn] : List Value).toArray s = true := fun w h => hts w (z_cons w h)
  refine lv_iload_n hx hb dX10_isHour_0 rfl (lv_at hl 0 rfl) ?_
  refine lv_i2l hx hb dX10_isHour_1 rfl ?_
  refine lv_topl (fun w1 e_w1 => ?_)
  have i_w1 : w1.toInt = sn.toInt := z_i2l e_w1 rfl
  refine lv_lconst (v := 0) hx hb dX10_isHour_2 (by decide) ?_
  refine lv_ldc2 (v := 23) hx hb hown (hT _ kw_1526) dX10_isHour_3 ?_
  have hz2 := (show (0 : Int64).toInt = 0 by decide)
  have hz3 := (show (23 : Int64).toInt = 23 by decide)
  refine z_calliS (cells := 0) (slots := 0) (As := [.long w1, .long 0, .long 23]) (rest := []) ⟨hx, hb, hml, hown, hT⟩ (c_X10_in l ) (va_cwS 3 hT (z_goodS (fun _ h => h) kw_1339 kw_1340 kw_96 kw_1341) rfl rfl rfl (by decide +kernel) ⟨by decide, by decide⟩) z_mv hKK hw hA rfl hl.1 rfl (Nat.le_of_ble_eq_true rfl) dX10_isHour_6 ⟨by decide, by decide⟩ (fun r4 u H locs hp hw => ?_)
  obtain ⟨rfl, hp⟩ := hp
  have hw : z_H D vwCl (z_A L sz) s.heap L f H locs := hw
  rcases hp with ⟨rfl, h5⟩ | ⟨rfl, h5⟩
  · skip
    exact z_zret hx hb hr rfl hlk (by decide) (by decide) hw (⟨rfl, Or.inl ⟨rfl, by omega⟩⟩) dX10_isHour_9
  · skip
    exact z_zret hx hb hr rfl hlk (by decide) (by decide) hw (⟨rfl, Or.inr ⟨rfl, by omega⟩⟩) dX10_isHour_9

set_option maxHeartbeats 2000000 in
set_option maxRecDepth 100000 in
theorem c_X10_isSeed (l : Launch) {D : va_G} {cy : Nat → ClassId} {L : List Nat} {f : Nat → va_E} {sz : Nat} {adK adV : Nat → Nat}      {sn : Int32}  : Met l yX10_isSeed (z_ws yX10_isSeed cX10_isSeed 1 (some .boolean)) (z_R 2 0 0) (va_Pc [.int sn] (z_Pre D vwCl (z_KK D cy adK adV) L f sz)) (z_Qi D vwCl (fun r u => u = (L, f) ∧ ((r = 1 ∧ (0 ≤ sn.toInt ∧ sn.toInt ≤ 2000000000)) ∨ (r = 0 ∧ ¬ (0 ≤ sn.toInt ∧ sn.toInt ≤ 2000000000)))) L sz) 0 0 (z_A L sz) := by
  refine z_met (cc := cX10_isSeed) (maxL := 1) (ret := (some .boolean)) (lv := [(0, .int sn)]) (by decide) rfl (Nat.le_of_ble_eq_true rfl) rfl ?_
  intro p e s m below meth c ls hx hb hr hlk hml hown hnm hts hKK hA hw hl
  have hK := hKK.1.1
  have hown : s.vm.findClass RX10 = some m.cls := hown
  have hT : ∀ w ∈ lw_all, w.before ([.int sn] : List Value).toArray s = true := fun w h => hts w (z_cons w h)
  refine lv_iload_n hx hb dX10_isSeed_0 rfl (lv_at hl 0 rfl) ?_
  refine lv_i2l hx hb dX10_isSeed_1 rfl ?_
  refine lv_topl (fun w1 e_w1 => ?_)
  have i_w1 : w1.toInt = sn.toInt := z_i2l e_w1 rfl
  refine lv_lconst (v := 0) hx hb dX10_isSeed_2 (by decide) ?_
  refine lv_ldc2 (v := 2000000000) hx hb hown (hT _ kw_1742) dX10_isSeed_3 ?_
  have hz2 := (show (0 : Int64).toInt = 0 by decide)
  have hz3 := (show (2000000000 : Int64).toInt = 2000000000 by decide)
  refine z_calliS (cells := 0) (slots := 0) (As := [.long w1, .long 0, .long 2000000000]) (rest := []) ⟨hx, hb, hml, hown, hT⟩ (c_X10_in l ) (va_cwS 3 hT (z_goodS (fun _ h => h) kw_1339 kw_1340 kw_96 kw_1341) rfl rfl rfl (by decide +kernel) ⟨by decide, by decide⟩) z_mv hKK hw hA rfl hl.1 rfl (Nat.le_of_ble_eq_true rfl) dX10_isSeed_6 ⟨by decide, by decide⟩ (fun r4 u H locs hp hw => ?_)
  obtain ⟨rfl, hp⟩ := hp
  have hw : z_H D vwCl (z_A L sz) s.heap L f H locs := hw
  rcases hp with ⟨rfl, h5⟩ | ⟨rfl, h5⟩
  · skip
    exact z_zret hx hb hr rfl hlk (by decide) (by decide) hw (⟨rfl, Or.inl ⟨rfl, by omega⟩⟩) dX10_isSeed_9
  · skip
    exact z_zret hx hb hr rfl hlk (by decide) (by decide) hw (⟨rfl, Or.inr ⟨rfl, by omega⟩⟩) dX10_isSeed_9

set_option maxHeartbeats 2000000 in
set_option maxRecDepth 100000 in
theorem c_X10_cut (l : Launch) {D : va_G} {cy : Nat → ClassId} {L : List Nat} {f : Nat → va_E} {sz : Nat} {adK adV : Nat → Nat} {va : Int64} {wi : Int32}  : Met l yX10_cut (z_ws yX10_cut cX10_cut 3 (some .long)) (z_R 1 0 0) (va_Pc [.long va, .int wi] (z_Pre D vwCl (z_KK D cy adK adV) L f sz)) (z_Ql D vwCl (fun r u => u = (L, f) ∧ (True)) L sz) 0 0 (z_A L sz) := by
  refine z_met (cc := cX10_cut) (maxL := 3) (ret := (some .long)) (lv := [(0, .long va), (2, .int wi)]) (by decide) rfl (Nat.le_of_ble_eq_true rfl) rfl ?_
  intro p e s m below meth c ls hx hb hr hlk hml hown hnm hts hKK hA hw hl
  have hK := hKK.1.1
  have hown : s.vm.findClass RX10 = some m.cls := hown
  have hT : ∀ w ∈ lw_all, w.before ([.long va, .int wi] : List Value).toArray s = true := fun w h => hts w (z_cons w h)
  refine lv_iload_n hx hb dX10_cut_0 rfl (lv_at hl 1 rfl) ?_
  refine z_if_ne (tgt := 11) hx hb rfl dX10_cut_1 (by decide) (fun c1 => ?_) (fun c1 => ?_)
  · skip
    refine lv_iload_n hx hb dX10_cut_11 rfl (lv_at hl 1 rfl) ?_
    refine lv_iconst (v := 1) hx hb dX10_cut_12 (by decide) ?_
    refine z_icmp_ne (tgt := 23) hx hb rfl (show (1 : Int32).toInt = 1 by decide) dX10_cut_13 (by decide) (fun c2 => ?_) (fun c2 => ?_)
    · skip
      refine lv_iload_n hx hb dX10_cut_23 rfl (lv_at hl 1 rfl) ?_
      refine lv_iconst (v := 2) hx hb dX10_cut_24 (by decide) ?_
      refine z_icmp_ne (tgt := 34) hx hb rfl (show (2 : Int32).toInt = 2 by decide) dX10_cut_25 (by decide) (fun c3 => ?_) (fun c3 => ?_)
      · skip
        refine lv_lload_n hx hb dX10_cut_34 rfl (lv_at hl 0 rfl) ?_
        exact z_lret hx hb hr hlk (by decide) (by decide) hw (⟨rfl, trivial⟩) dX10_cut_35
      · skip
        refine lv_lload_n hx hb dX10_cut_28 rfl (lv_at hl 0 rfl) ?_
        refine lv_l2i hx hb dX10_cut_29 rfl ?_
        refine lv_topi (fun w4 e_w4 => ?_)
        refine lv_i2l hx hb dX10_cut_30 rfl ?_
        refine lv_topl (fun w5 e_w5 => ?_)
        have i_w5 : w5.toInt = w4.toInt := z_i2l e_w5 rfl
        refine lv_goto (tgt := 35) hx hb dX10_cut_31 (by decide) ?_
        exact z_lret hx hb hr hlk (by decide) (by decide) hw (⟨rfl, trivial⟩) dX10_cut_35
    · skip
      refine lv_lload_n hx hb dX10_cut_16 rfl (lv_at hl 0 rfl) ?_
      refine lv_l2i hx hb dX10_cut_17 rfl ?_
      refine lv_topi (fun w6 e_w6 => ?_)
      refine lv_i2s hx hb dX10_cut_18 rfl ?_
      refine lv_topi (fun w7 e_w7 => ?_)
      refine lv_i2l hx hb dX10_cut_19 rfl ?_
      refine lv_topl (fun w8 e_w8 => ?_)
      have i_w8 : w8.toInt = w7.toInt := z_i2l e_w8 rfl
      refine lv_goto (tgt := 35) hx hb dX10_cut_20 (by decide) ?_
      exact z_lret hx hb hr hlk (by decide) (by decide) hw (⟨rfl, trivial⟩) dX10_cut_35
  · skip
    refine lv_lload_n hx hb dX10_cut_4 rfl (lv_at hl 0 rfl) ?_
    refine lv_l2i hx hb dX10_cut_5 rfl ?_
    refine lv_topi (fun w9 e_w9 => ?_)
    refine lv_i2b hx hb dX10_cut_6 rfl ?_
    refine lv_topi (fun w10 e_w10 => ?_)
    refine lv_i2l hx hb dX10_cut_7 rfl ?_
    refine lv_topl (fun w11 e_w11 => ?_)
    have i_w11 : w11.toInt = w10.toInt := z_i2l e_w11 rfl
    refine lv_goto (tgt := 35) hx hb dX10_cut_8 (by decide) ?_
    exact z_lret hx hb hr hlk (by decide) (by decide) hw (⟨rfl, trivial⟩) dX10_cut_35

set_option maxHeartbeats 2000000 in
set_option maxRecDepth 100000 in
theorem c_X10_isByte (l : Launch) {D : va_G} {cy : Nat → ClassId} {L : List Nat} {f : Nat → va_E} {sz : Nat} {adK adV : Nat → Nat} {mm wd my ce mv ta li ha lw st fo dr ik ro ct se th cn be du db pn wg wh tn he tr fd po : Nat} {m0 m6 m7 m8 m9 m10 m12 m13 m14 m15 m22 m24 m25 m27 m28 m30 m36 m38 m40 m41 m42 m48 m52 m53 : Int32} {m11 m26 : Int64} {gta : Nat → Int32}  {kk lo hi : Int32} (hm_mm : mm ∈ L) (hm_ta : ta ∈ L) (hf_mm : f mm = .inr (10, [.int m0, .ref wd, .ref my, .ref ce, .ref mv, .ref ta, .int m6, .int m7, .int m8, .int m9, .int m10, .long m11, .int m12, .int m13, .int m14, .int m15, .ref li, .ref ha, .ref lw, .ref st, .ref fo, .ref dr, .int m22, .ref ik, .int m24, .int m25, .long m26, .int m27, .int m28, .ref ro, .int m30, .ref ct, .ref se, .ref th, .ref cn, .ref be, .int m36, .ref du, .int m38, .ref db, .int m40, .int m41, .int m42, .ref pn, .ref wg, .ref wh, .ref tn, .ref he, .int m48, .ref tr, .ref fd, .ref po, .int m52, .int m53])) (hf_ta : f ta = .inl (cy 0, 1600, .inl gta)) (hkk : 0 ≤ kk.toInt) (htp : m6.toInt ≤ 1600) : Met l yX10_isByte (z_ws yX10_isByte cX10_isByte 4 (some .boolean)) (z_R 1 0 0) (va_Pc [.ref mm, .int kk, .int lo, .int hi] (z_Pre D vwCl (z_KK D cy adK adV) L f sz)) (z_Qi D vwCl (fun r u => u = (L, f) ∧ ((r = 1 ∧ kk.toInt < m6.toInt) ∨ (r = 0 ∧ True))) L sz) 0 0 (z_A L sz) := by
  refine z_met (cc := cX10_isByte) (maxL := 4) (ret := (some .boolean)) (lv := [(0, .ref mm), (1, .int kk), (2, .int lo), (3, .int hi)]) (by decide) rfl (Nat.le_of_ble_eq_true rfl) rfl ?_
  intro p e s m below meth c ls hx hb hr hlk hml hown hnm hts hKK hA hw hl
  have hK := hKK.1.1
  have hown : s.vm.findClass RX10 = some m.cls := hown
  have hT : ∀ w ∈ lw_all, w.before ([.ref mm, .int kk, .int lo, .int hi] : List Value).toArray s = true := fun w h => hts w (z_cons w h)
  refine lv_iload_n hx hb dX10_isByte_0 rfl (lv_at hl 1 rfl) ?_
  refine lv_aload_n hx hb dX10_isByte_1 rfl (lv_at hl 0 rfl) ?_
  refine z_get (C := RX10) (T := TX10) (N := 54) (ci := 10) (v := .int m6) hx hb hT zin_X10 hown hK hw hm_mm hf_mm rfl 6 (by decide) (hT _ kw_1174) rfl dX10_isByte_2 ?_
  refine z_icmp_ge (tgt := 32) hx hb rfl rfl dX10_isByte_5 (by decide) (fun c1 => ?_) (fun c1 => ?_)
  · skip
    refine lv_iconst (v := 0) hx hb dX10_isByte_32 (by decide) ?_
    exact z_zret hx hb hr rfl hlk (by decide) (by decide) hw (⟨rfl, Or.inr ⟨rfl, trivial⟩⟩) dX10_isByte_33
  · skip
    refine lv_aload_n hx hb dX10_isByte_8 rfl (lv_at hl 0 rfl) ?_
    refine z_get (C := RX10) (T := TX10) (N := 54) (ci := 10) (v := .ref ta) hx hb hT zin_X10 hown hK hw hm_mm hf_mm rfl 5 (by decide) (hT _ kw_1173) rfl dX10_isByte_9 ?_
    refine lv_iload_n hx hb dX10_isByte_12 rfl (lv_at hl 1 rfl) ?_
    refine z_bald hx hb hK hw 0 hm_ta hf_ta rfl (z_ix rfl (by omega)) dX10_isByte_13 ?_
    refine lv_topi (fun w2 e_w2 => ?_)
    refine lv_iload_n hx hb dX10_isByte_14 rfl (lv_at hl 2 rfl) ?_
    refine z_icmp_lt (tgt := 32) hx hb rfl rfl dX10_isByte_15 (by decide) (fun c3 => ?_) (fun c3 => ?_)
    · skip
      refine lv_iconst (v := 0) hx hb dX10_isByte_32 (by decide) ?_
      exact z_zret hx hb hr rfl hlk (by decide) (by decide) hw (⟨rfl, Or.inr ⟨rfl, trivial⟩⟩) dX10_isByte_33
    · skip
      refine lv_aload_n hx hb dX10_isByte_18 rfl (lv_at hl 0 rfl) ?_
      refine z_get (C := RX10) (T := TX10) (N := 54) (ci := 10) (v := .ref ta) hx hb hT zin_X10 hown hK hw hm_mm hf_mm rfl 5 (by decide) (hT _ kw_1173) rfl dX10_isByte_19 ?_
      refine lv_iload_n hx hb dX10_isByte_22 rfl (lv_at hl 1 rfl) ?_
      refine z_bald hx hb hK hw 0 hm_ta hf_ta rfl (z_ix rfl (by omega)) dX10_isByte_23 ?_
      refine lv_topi (fun w4 e_w4 => ?_)
      refine lv_iload_n hx hb dX10_isByte_24 rfl (lv_at hl 3 rfl) ?_
      refine z_icmp_gt (tgt := 32) hx hb rfl rfl dX10_isByte_25 (by decide) (fun c5 => ?_) (fun c5 => ?_)
      · skip
        refine lv_iconst (v := 0) hx hb dX10_isByte_32 (by decide) ?_
        exact z_zret hx hb hr rfl hlk (by decide) (by decide) hw (⟨rfl, Or.inr ⟨rfl, trivial⟩⟩) dX10_isByte_33
      · skip
        refine lv_iconst (v := 1) hx hb dX10_isByte_28 (by decide) ?_
        refine lv_goto (tgt := 33) hx hb dX10_isByte_29 (by decide) ?_
        exact z_zret hx hb hr rfl hlk (by decide) (by decide) hw (⟨rfl, Or.inl ⟨rfl, by omega⟩⟩) dX10_isByte_33

set_option maxHeartbeats 2000000 in
set_option maxRecDepth 100000 in
theorem c_X10_isGood (l : Launch) {D : va_G} {cy : Nat → ClassId} {L : List Nat} {f : Nat → va_E} {sz : Nat} {adK adV : Nat → Nat} {mm wd my ce mv ta li ha lw st fo dr ik ro ct se th cn be du db pn wg wh tn he tr fd po : Nat} {m0 m6 m7 m8 m9 m10 m12 m13 m14 m15 m22 m24 m25 m27 m28 m30 m36 m38 m40 m41 m42 m48 m52 m53 : Int32} {m11 m26 : Int64}   (hm_mm : mm ∈ L) (hf_mm : f mm = .inr (10, [.int m0, .ref wd, .ref my, .ref ce, .ref mv, .ref ta, .int m6, .int m7, .int m8, .int m9, .int m10, .long m11, .int m12, .int m13, .int m14, .int m15, .ref li, .ref ha, .ref lw, .ref st, .ref fo, .ref dr, .int m22, .ref ik, .int m24, .int m25, .long m26, .int m27, .int m28, .ref ro, .int m30, .ref ct, .ref se, .ref th, .ref cn, .ref be, .int m36, .ref du, .int m38, .ref db, .int m40, .int m41, .int m42, .ref pn, .ref wg, .ref wh, .ref tn, .ref he, .int m48, .ref tr, .ref fd, .ref po, .int m52, .int m53])) : Met l yX10_isGood (z_ws yX10_isGood cX10_isGood 1 (some .boolean)) (z_R 1 0 0) (va_Pc [.ref mm] (z_Pre D vwCl (z_KK D cy adK adV) L f sz)) (z_Qi D vwCl (fun r u => u = (L, f) ∧ ((r = 1 ∧ (m12.toInt = 0)) ∨ (r = 0 ∧ ¬ (m12.toInt = 0)))) L sz) 0 0 (z_A L sz) := by
  refine z_met (cc := cX10_isGood) (maxL := 1) (ret := (some .boolean)) (lv := [(0, .ref mm)]) (by decide) rfl (Nat.le_of_ble_eq_true rfl) rfl ?_
  intro p e s m below meth c ls hx hb hr hlk hml hown hnm hts hKK hA hw hl
  have hK := hKK.1.1
  have hown : s.vm.findClass RX10 = some m.cls := hown
  have hT : ∀ w ∈ lw_all, w.before ([.ref mm] : List Value).toArray s = true := fun w h => hts w (z_cons w h)
  refine lv_aload_n hx hb dX10_isGood_0 rfl (lv_at hl 0 rfl) ?_
  refine z_get (C := RX10) (T := TX10) (N := 54) (ci := 10) (v := .int m12) hx hb hT zin_X10 hown hK hw hm_mm hf_mm rfl 12 (by decide) (hT _ kw_1180) rfl dX10_isGood_1 ?_
  refine z_if_ne (tgt := 11) hx hb rfl dX10_isGood_4 (by decide) (fun c1 => ?_) (fun c1 => ?_)
  · skip
    refine lv_iconst (v := 0) hx hb dX10_isGood_11 (by decide) ?_
    exact z_zret hx hb hr rfl hlk (by decide) (by decide) hw (⟨rfl, Or.inr ⟨rfl, by omega⟩⟩) dX10_isGood_12
  · skip
    refine lv_iconst (v := 1) hx hb dX10_isGood_7 (by decide) ?_
    refine lv_goto (tgt := 12) hx hb dX10_isGood_8 (by decide) ?_
    exact z_zret hx hb hr rfl hlk (by decide) (by decide) hw (⟨rfl, Or.inl ⟨rfl, by omega⟩⟩) dX10_isGood_12

set_option maxHeartbeats 2000000 in
set_option maxRecDepth 100000 in
theorem c_X10_fails (l : Launch) {D : va_G} {cy : Nat → ClassId} {L : List Nat} {f : Nat → va_E} {sz : Nat} {adK adV : Nat → Nat} {mm wd my ce mv ta li ha lw st fo dr ik ro ct se th cn be du db pn wg wh tn he tr fd po : Nat} {m0 m6 m7 m8 m9 m10 m12 m13 m14 m15 m22 m24 m25 m27 m28 m30 m36 m38 m40 m41 m42 m48 m52 m53 : Int32} {m11 m26 : Int64}   {kd : Int32} (hm_mm : mm ∈ L) (hf_mm : f mm = .inr (10, [.int m0, .ref wd, .ref my, .ref ce, .ref mv, .ref ta, .int m6, .int m7, .int m8, .int m9, .int m10, .long m11, .int m12, .int m13, .int m14, .int m15, .ref li, .ref ha, .ref lw, .ref st, .ref fo, .ref dr, .int m22, .ref ik, .int m24, .int m25, .long m26, .int m27, .int m28, .ref ro, .int m30, .ref ct, .ref se, .ref th, .ref cn, .ref be, .int m36, .ref du, .int m38, .ref db, .int m40, .int m41, .int m42, .ref pn, .ref wg, .ref wh, .ref tn, .ref he, .int m48, .ref tr, .ref fd, .ref po, .int m52, .int m53])) (hkd : kd.toInt ≠ 0) : Met l yX10_fails (z_ws yX10_fails cX10_fails 2 none) (z_R 1 0 0) (va_Pc [.ref mm, .int kd] (z_Pre D vwCl (z_KK D cy adK adV) L f sz)) (z_Qv D vwCl (fun u => L = u.1 ∧ (∀ b ∈ L, b ≠ mm → u.2 b = f b) ∧ (∃ (b2 p2 : Int32), (u.2 mm = .inr (10, [.int m0, .ref wd, .ref my, .ref ce, .ref mv, .ref ta, .int m6, .int m7, .int m8, .int m9, .int m10, .long m11, .int b2, .int p2, .int m14, .int m15, .ref li, .ref ha, .ref lw, .ref st, .ref fo, .ref dr, .int m22, .ref ik, .int m24, .int m25, .long m26, .int m27, .int m28, .ref ro, .int m30, .ref ct, .ref se, .ref th, .ref cn, .ref be, .int m36, .ref du, .int m38, .ref db, .int m40, .int m41, .int m42, .ref pn, .ref wg, .ref wh, .ref tn, .ref he, .int m48, .ref tr, .ref fd, .ref po, .int m52, .int m53])) ∧ (b2.toInt ≠ 0))) L sz) 0 0 (z_A L sz) := by
  refine z_met (cc := cX10_fails) (maxL := 2) (ret := none) (lv := [(0, .ref mm), (1, .int kd)]) (by decide) rfl (Nat.le_of_ble_eq_true rfl) rfl ?_
  intro p e s m below meth c ls hx hb hr hlk hml hown hnm hts hKK hA hw hl
  have hK := hKK.1.1
  have hown : s.vm.findClass RX10 = some m.cls := hown
  have hT : ∀ w ∈ lw_all, w.before ([.ref mm, .int kd] : List Value).toArray s = true := fun w h => hts w (z_cons w h)
  have hsub : L = L := rfl
  have hfr : ∀ b ∈ L, b ≠ mm → f b = f b := fun _ _ _ => rfl
  refine lv_aload_n hx hb dX10_fails_0 rfl (lv_at hl 0 rfl) ?_
  refine z_get (C := RX10) (T := TX10) (N := 54) (ci := 10) (v := .int m12) hx hb hT zin_X10 hown hK hw hm_mm hf_mm rfl 12 (by decide) (hT _ kw_1180) rfl dX10_fails_1 ?_
  refine z_if_eq (tgt := 8) hx hb rfl dX10_fails_4 (by decide) (fun c1 => ?_) (fun c1 => ?_)
  · skip
    refine lv_aload_n hx hb dX10_fails_8 rfl (lv_at hl 0 rfl) ?_
    refine lv_iload_n hx hb dX10_fails_9 rfl (lv_at hl 1 rfl) ?_
    refine z_put (C := RX10) (T := TX10) (N := 54) (ci := 10) (v := .int kd) (fs' := [.int m0, .ref wd, .ref my, .ref ce, .ref mv, .ref ta, .int m6, .int m7, .int m8, .int m9, .int m10, .long m11, .int kd, .int m13, .int m14, .int m15, .ref li, .ref ha, .ref lw, .ref st, .ref fo, .ref dr, .int m22, .ref ik, .int m24, .int m25, .long m26, .int m27, .int m28, .ref ro, .int m30, .ref ct, .ref se, .ref th, .ref cn, .ref be, .int m36, .ref du, .int m38, .ref db, .int m40, .int m41, .int m42, .ref pn, .ref wg, .ref wh, .ref tn, .ref he, .int m48, .ref tr, .ref fd, .ref po, .int m52, .int m53]) hx hb hT zin_X10 tyX10_ok nmX10 hown hK hw hm_mm hf_mm rfl 12 (by decide) (hT _ kw_1180) rfl rfl rfl (Nat.le_of_ble_eq_true rfl) rfl dX10_fails_10 (fun H locs hw => ?_)
    obtain ⟨f2, e_f2⟩ : ∃ z, z = va_up f mm (.inr (10, [.int m0, .ref wd, .ref my, .ref ce, .ref mv, .ref ta, .int m6, .int m7, .int m8, .int m9, .int m10, .long m11, .int kd, .int m13, .int m14, .int m15, .ref li, .ref ha, .ref lw, .ref st, .ref fo, .ref dr, .int m22, .ref ik, .int m24, .int m25, .long m26, .int m27, .int m28, .ref ro, .int m30, .ref ct, .ref se, .ref th, .ref cn, .ref be, .int m36, .ref du, .int m38, .ref db, .int m40, .int m41, .int m42, .ref pn, .ref wg, .ref wh, .ref tn, .ref he, .int m48, .ref tr, .ref fd, .ref po, .int m52, .int m53])) := ⟨_, rfl⟩
    rw [← e_f2] at hw
    have hf_mm : f2 mm = .inr (10, [.int m0, .ref wd, .ref my, .ref ce, .ref mv, .ref ta, .int m6, .int m7, .int m8, .int m9, .int m10, .long m11, .int kd, .int m13, .int m14, .int m15, .ref li, .ref ha, .ref lw, .ref st, .ref fo, .ref dr, .int m22, .ref ik, .int m24, .int m25, .long m26, .int m27, .int m28, .ref ro, .int m30, .ref ct, .ref se, .ref th, .ref cn, .ref be, .int m36, .ref du, .int m38, .ref db, .int m40, .int m41, .int m42, .ref pn, .ref wg, .ref wh, .ref tn, .ref he, .int m48, .ref tr, .ref fd, .ref po, .int m52, .int m53]) := (congrFun e_f2 mm).trans z_up_self
    have hfr : ∀ b ∈ L, b ≠ mm → f2 b = f b := fun b hb h0 => (congrFun e_f2 b).trans (z_up_ne h0 (hfr b hb h0))
    refine lv_aload_n hx hb dX10_fails_13 rfl (lv_at hl 0 rfl) ?_
    refine lv_aload_n hx hb dX10_fails_14 rfl (lv_at hl 0 rfl) ?_
    refine z_get (C := RX10) (T := TX10) (N := 54) (ci := 10) (v := .int m9) hx hb hT zin_X10 hown hK hw hm_mm hf_mm rfl 9 (by decide) (hT _ kw_1177) rfl dX10_fails_15 ?_
    refine z_put (C := RX10) (T := TX10) (N := 54) (ci := 10) (v := .int m9) (fs' := [.int m0, .ref wd, .ref my, .ref ce, .ref mv, .ref ta, .int m6, .int m7, .int m8, .int m9, .int m10, .long m11, .int kd, .int m9, .int m14, .int m15, .ref li, .ref ha, .ref lw, .ref st, .ref fo, .ref dr, .int m22, .ref ik, .int m24, .int m25, .long m26, .int m27, .int m28, .ref ro, .int m30, .ref ct, .ref se, .ref th, .ref cn, .ref be, .int m36, .ref du, .int m38, .ref db, .int m40, .int m41, .int m42, .ref pn, .ref wg, .ref wh, .ref tn, .ref he, .int m48, .ref tr, .ref fd, .ref po, .int m52, .int m53]) hx hb hT zin_X10 tyX10_ok nmX10 hown hK hw hm_mm hf_mm rfl 13 (by decide) (hT _ kw_1181) rfl rfl rfl (Nat.le_of_ble_eq_true rfl) rfl dX10_fails_18 (fun H locs hw => ?_)
    obtain ⟨f3, e_f3⟩ : ∃ z, z = va_up f2 mm (.inr (10, [.int m0, .ref wd, .ref my, .ref ce, .ref mv, .ref ta, .int m6, .int m7, .int m8, .int m9, .int m10, .long m11, .int kd, .int m9, .int m14, .int m15, .ref li, .ref ha, .ref lw, .ref st, .ref fo, .ref dr, .int m22, .ref ik, .int m24, .int m25, .long m26, .int m27, .int m28, .ref ro, .int m30, .ref ct, .ref se, .ref th, .ref cn, .ref be, .int m36, .ref du, .int m38, .ref db, .int m40, .int m41, .int m42, .ref pn, .ref wg, .ref wh, .ref tn, .ref he, .int m48, .ref tr, .ref fd, .ref po, .int m52, .int m53])) := ⟨_, rfl⟩
    rw [← e_f3] at hw
    have hf_mm : f3 mm = .inr (10, [.int m0, .ref wd, .ref my, .ref ce, .ref mv, .ref ta, .int m6, .int m7, .int m8, .int m9, .int m10, .long m11, .int kd, .int m9, .int m14, .int m15, .ref li, .ref ha, .ref lw, .ref st, .ref fo, .ref dr, .int m22, .ref ik, .int m24, .int m25, .long m26, .int m27, .int m28, .ref ro, .int m30, .ref ct, .ref se, .ref th, .ref cn, .ref be, .int m36, .ref du, .int m38, .ref db, .int m40, .int m41, .int m42, .ref pn, .ref wg, .ref wh, .ref tn, .ref he, .int m48, .ref tr, .ref fd, .ref po, .int m52, .int m53]) := (congrFun e_f3 mm).trans z_up_self
    have hfr : ∀ b ∈ L, b ≠ mm → f3 b = f b := fun b hb h0 => (congrFun e_f3 b).trans (z_up_ne h0 (hfr b hb h0))
    exact z_vret hx hb hr hlk (by decide) (by decide) hw (⟨hsub, hfr, kd, m9, hf_mm, by omega⟩) dX10_fails_21
  · skip
    exact z_vret hx hb hr hlk (by decide) (by decide) hw (⟨hsub, hfr, m12, m13, hf_mm, by omega⟩) dX10_fails_7

set_option maxHeartbeats 2000000 in
set_option maxRecDepth 100000 in
theorem c_X10_is (l : Launch) {D : va_G} {cy : Nat → ClassId} {L : List Nat} {f : Nat → va_E} {sz : Nat} {adK adV : Nat → Nat} {mm wd my ce mv ta li ha lw st fo dr ik ro ct se th cn be du db pn wg wh tn he tr fd po : Nat} {m0 m6 m7 m8 m9 m10 m12 m13 m14 m15 m22 m24 m25 m27 m28 m30 m36 m38 m40 m41 m42 m48 m52 m53 : Int32} {m11 m26 : Int64}   {ww : Int64} (hm_mm : mm ∈ L) (hf_mm : f mm = .inr (10, [.int m0, .ref wd, .ref my, .ref ce, .ref mv, .ref ta, .int m6, .int m7, .int m8, .int m9, .int m10, .long m11, .int m12, .int m13, .int m14, .int m15, .ref li, .ref ha, .ref lw, .ref st, .ref fo, .ref dr, .int m22, .ref ik, .int m24, .int m25, .long m26, .int m27, .int m28, .ref ro, .int m30, .ref ct, .ref se, .ref th, .ref cn, .ref be, .int m36, .ref du, .int m38, .ref db, .int m40, .int m41, .int m42, .ref pn, .ref wg, .ref wh, .ref tn, .ref he, .int m48, .ref tr, .ref fd, .ref po, .int m52, .int m53])) : Met l yX10_is (z_ws yX10_is cX10_is 3 (some .boolean)) (z_R 1 0 0) (va_Pc [.ref mm, .long ww] (z_Pre D vwCl (z_KK D cy adK adV) L f sz)) (z_Qi D vwCl (fun r u => u = (L, f) ∧ ((r = 1 ∧ m12.toInt = 0) ∨ (r = 0 ∧ True))) L sz) 0 0 (z_A L sz) := by
  refine z_met (cc := cX10_is) (maxL := 3) (ret := (some .boolean)) (lv := [(0, .ref mm), (1, .long ww)]) (by decide) rfl (Nat.le_of_ble_eq_true rfl) rfl ?_
  intro p e s m below meth c ls hx hb hr hlk hml hown hnm hts hKK hA hw hl
  have hK := hKK.1.1
  have hown : s.vm.findClass RX10 = some m.cls := hown
  have hT : ∀ w ∈ lw_all, w.before ([.ref mm, .long ww] : List Value).toArray s = true := fun w h => hts w (z_cons w h)
  refine lv_aload_n hx hb dX10_is_0 rfl (lv_at hl 0 rfl) ?_
  refine z_get (C := RX10) (T := TX10) (N := 54) (ci := 10) (v := .int m12) hx hb hT zin_X10 hown hK hw hm_mm hf_mm rfl 12 (by decide) (hT _ kw_1180) rfl dX10_is_1 ?_
  refine z_if_ne (tgt := 28) hx hb rfl dX10_is_4 (by decide) (fun c1 => ?_) (fun c1 => ?_)
  · skip
    refine lv_iconst (v := 0) hx hb dX10_is_28 (by decide) ?_
    exact z_zret hx hb hr rfl hlk (by decide) (by decide) hw (⟨rfl, Or.inr ⟨rfl, trivial⟩⟩) dX10_is_29
  · skip
    refine lv_aload_n hx hb dX10_is_7 rfl (lv_at hl 0 rfl) ?_
    refine z_get (C := RX10) (T := TX10) (N := 54) (ci := 10) (v := .int m8) hx hb hT zin_X10 hown hK hw hm_mm hf_mm rfl 8 (by decide) (hT _ kw_1176) rfl dX10_is_8 ?_
    refine lv_iconst (v := 1) hx hb dX10_is_11 (by decide) ?_
    refine z_icmp_ne (tgt := 28) hx hb rfl (show (1 : Int32).toInt = 1 by decide) dX10_is_12 (by decide) (fun c2 => ?_) (fun c2 => ?_)
    · skip
      refine lv_iconst (v := 0) hx hb dX10_is_28 (by decide) ?_
      exact z_zret hx hb hr rfl hlk (by decide) (by decide) hw (⟨rfl, Or.inr ⟨rfl, trivial⟩⟩) dX10_is_29
    · skip
      refine lv_aload_n hx hb dX10_is_15 rfl (lv_at hl 0 rfl) ?_
      refine z_get (C := RX10) (T := TX10) (N := 54) (ci := 10) (v := .long m11) hx hb hT zin_X10 hown hK hw hm_mm hf_mm rfl 11 (by decide) (hT _ kw_1179) rfl dX10_is_16 ?_
      refine lv_lload_n hx hb dX10_is_19 rfl (lv_at hl 1 rfl) ?_
      refine W.lcmp hx hb dX10_is_20 ?_
      refine lv_topi (fun w3 e_w3 => ?_)
      have i_w3 := z_lc e_w3 rfl rfl
      refine z_if_ne (tgt := 28) hx hb rfl dX10_is_21 (by decide) (fun c4 => ?_) (fun c4 => ?_)
      · skip
        refine lv_iconst (v := 0) hx hb dX10_is_28 (by decide) ?_
        exact z_zret hx hb hr rfl hlk (by decide) (by decide) hw (⟨rfl, Or.inr ⟨rfl, trivial⟩⟩) dX10_is_29
      · skip
        refine lv_iconst (v := 1) hx hb dX10_is_24 (by decide) ?_
        refine lv_goto (tgt := 29) hx hb dX10_is_25 (by decide) ?_
        exact z_zret hx hb hr rfl hlk (by decide) (by decide) hw (⟨rfl, Or.inl ⟨rfl, by omega⟩⟩) dX10_is_29

set_option maxHeartbeats 2000000 in
set_option maxRecDepth 100000 in
theorem c_X10_next (l : Launch) {D : va_G} {cy : Nat → ClassId} {L : List Nat} {f : Nat → va_E} {sz : Nat} {adK adV : Nat → Nat} {mm wd my ce mv ta li ha lw st fo dr ik ro ct se th cn be du db pn wg wh tn he tr fd po : Nat} {m0 m6 m7 m8 m9 m10 m12 m13 m14 m15 m22 m24 m25 m27 m28 m30 m36 m38 m40 m41 m42 m48 m52 m53 : Int32} {m11 m26 : Int64} {gta : Nat → Int32}  (hm_mm : mm ∈ L) (hm_ta : ta ∈ L) (hf_mm : f mm = .inr (10, [.int m0, .ref wd, .ref my, .ref ce, .ref mv, .ref ta, .int m6, .int m7, .int m8, .int m9, .int m10, .long m11, .int m12, .int m13, .int m14, .int m15, .ref li, .ref ha, .ref lw, .ref st, .ref fo, .ref dr, .int m22, .ref ik, .int m24, .int m25, .long m26, .int m27, .int m28, .ref ro, .int m30, .ref ct, .ref se, .ref th, .ref cn, .ref be, .int m36, .ref du, .int m38, .ref db, .int m40, .int m41, .int m42, .ref pn, .ref wg, .ref wh, .ref tn, .ref he, .int m48, .ref tr, .ref fd, .ref po, .int m52, .int m53])) (hf_ta : f ta = .inl (cy 0, 1600, .inl gta)) (htp : 0 ≤ m6.toInt ∧ m6.toInt ≤ 1600) (hat : 0 ≤ m7.toInt ∧ m7.toInt ≤ m6.toInt) : Met l yX10_next (z_ws yX10_next cX10_next 2 none) (z_R 2 0 0) (va_Pc [.ref mm] (z_Pre D vwCl (z_KK D cy adK adV) L f sz)) (z_Qv D vwCl (fun u => L = u.1 ∧ (∀ b ∈ L, b ≠ mm → u.2 b = f b) ∧ (∃ (a2 k2 p2 v2 : Int32) (w2 : Int64), (u.2 mm = .inr (10, [.int m0, .ref wd, .ref my, .ref ce, .ref mv, .ref ta, .int m6, .int a2, .int k2, .int p2, .int v2, .long w2, .int m12, .int m13, .int m14, .int m15, .ref li, .ref ha, .ref lw, .ref st, .ref fo, .ref dr, .int m22, .ref ik, .int m24, .int m25, .long m26, .int m27, .int m28, .ref ro, .int m30, .ref ct, .ref se, .ref th, .ref cn, .ref be, .int m36, .ref du, .int m38, .ref db, .int m40, .int m41, .int m42, .ref pn, .ref wg, .ref wh, .ref tn, .ref he, .int m48, .ref tr, .ref fd, .ref po, .int m52, .int m53])) ∧ ((0 ≤ a2.toInt ∧ a2.toInt ≤ m6.toInt) ∧ m7.toInt ≤ a2.toInt ∧ (k2.toInt ≠ 3 ∨ m7.toInt < a2.toInt)))) L sz) 0 0 (z_A L sz) := by
  refine z_met (cc := cX10_next) (maxL := 2) (ret := none) (lv := [(0, .ref mm)]) (by decide) rfl (Nat.le_of_ble_eq_true rfl) rfl ?_
  intro p e s m below meth c ls hx hb hr hlk hml hown hnm hts hKK hA hw hl
  have hK := hKK.1.1
  have hown : s.vm.findClass RX10 = some m.cls := hown
  have hT : ∀ w ∈ lw_all, w.before ([.ref mm] : List Value).toArray s = true := fun w h => hts w (z_cons w h)
  have hsub : L = L := rfl
  have hfr : ∀ b ∈ L, b ≠ mm → f b = f b := fun _ _ _ => rfl
  have hz_0 : (0 : Int32).toInt = 0 := by decide
  have hz_1 : (1 : Int32).toInt = 1 := by decide
  have hz_2 : (2 : Int32).toInt = 2 := by decide
  have hz_3 : (3 : Int32).toInt = 3 := by decide
  have hz_4 : (4 : Int32).toInt = 4 := by decide
  refine z_loop (fun n H locs ls => ∃  (AT3 : Int32) (f2 : Nat → va_E), (n = (m6.toInt - AT3.toInt).toNat) ∧ (0 ≤ AT3.toInt) ∧ (AT3.toInt ≤ m6.toInt) ∧ (0 ≤ AT3.toInt ∧ AT3.toInt ≤ m6.toInt ∧ m7.toInt ≤ AT3.toInt) ∧ (z_H D vwCl (z_A L sz) s.heap L f2 H locs) ∧ (f2 mm = .inr (10, [.int m0, .ref wd, .ref my, .ref ce, .ref mv, .ref ta, .int m6, .int AT3, .int m8, .int m9, .int m10, .long m11, .int m12, .int m13, .int m14, .int m15, .ref li, .ref ha, .ref lw, .ref st, .ref fo, .ref dr, .int m22, .ref ik, .int m24, .int m25, .long m26, .int m27, .int m28, .ref ro, .int m30, .ref ct, .ref se, .ref th, .ref cn, .ref be, .int m36, .ref du, .int m38, .ref db, .int m40, .int m41, .int m42, .ref pn, .ref wg, .ref wh, .ref tn, .ref he, .int m48, .ref tr, .ref fd, .ref po, .int m52, .int m53])) ∧ (f2 ta = .inl (cy 0, 1600, .inl gta)) ∧ (∀ b ∈ L, b ≠ mm → f2 b = f b) ∧ (lv_has ls 2 [(0, .ref mm)])) _ ⟨m7, f, rfl, (by first | decide | omega), (by first | decide | omega), (by omega), hw, hf_mm, hf_ta, hfr, (lv_sub hl [0] rfl)⟩ (fun n H locs ls hI ih_0 => ?_)
  obtain ⟨AT3, f2, hn, hk0, hk1, hi0, hw, hf_mm, hf_ta, hfr, hl⟩ := hI
  refine lv_aload_n hx hb dX10_next_0 rfl (lv_at hl 0 rfl) ?_
  refine lv_aload_n hx hb dX10_next_1 rfl (lv_at hl 0 rfl) ?_
  refine z_get (C := RX10) (T := TX10) (N := 54) (ci := 10) (v := .int AT3) hx hb hT zin_X10 hown hK hw hm_mm hf_mm rfl 7 (by decide) (hT _ kw_1175) rfl dX10_next_2 ?_
  refine lv_bipush (v := 32) hx hb dX10_next_5 (by decide) ?_
  refine lv_bipush (v := 32) hx hb dX10_next_7 (by decide) ?_
  have hz4 := (show (32 : Int32).toInt = 32 by decide)
  have hz5 := (show (32 : Int32).toInt = 32 by decide)
  refine z_calliV (cells := 0) (slots := 0) (b := mm) (As := [.int AT3, .int 32, .int 32]) (rest := []) (ci := 10) (q0 := (RX10, TX10, 54)) ⟨hx, hb, hml, hown, hT⟩ (c_X10_isByte l hm_mm hm_ta hf_mm hf_ta (by first | omega | decide | assumption) (by first | omega | decide | assumption)) (cwV 3 hT (z_goodV (fun _ h => h) kw_1385 kw_1387 kw_35 kw_96 kw_1388) rfl rfl rfl (by decide +kernel) ⟨by decide, by decide⟩) z_mv hKK hK hw hA hm_mm hf_mm rfl rfl rfl hl.1 rfl (Nat.le_of_ble_eq_true rfl) dX10_next_9 ⟨by decide, by decide⟩ (fun r6 u H locs hp hw => ?_)
  obtain ⟨rfl, hp⟩ := hp
  have hw : z_H D vwCl (z_A L sz) s.heap L f2 H locs := hw
  rcases hp with ⟨rfl, h7⟩ | ⟨rfl, h7⟩
  · skip
    refine z_if_ne (tgt := 30) hx hb (show (1 : Int32).toInt = 1 by decide) dX10_next_12 (by decide) (fun _ => ?_) (fun h => absurd h (by decide))
    refine lv_aload_n hx hb dX10_next_30 rfl (lv_at hl 0 rfl) ?_
    refine lv_dup hx hb dX10_next_31 rfl ?_
    refine z_get (C := RX10) (T := TX10) (N := 54) (ci := 10) (v := .int AT3) hx hb hT zin_X10 hown hK hw hm_mm hf_mm rfl 7 (by decide) (hT _ kw_1175) rfl dX10_next_32 ?_
    refine lv_iconst (v := 1) hx hb dX10_next_35 (by decide) ?_
    refine lv_iadd hx hb dX10_next_36 ?_
    refine lv_topi (fun w8 e_w8 => ?_)
    have i_w8 : w8.toInt = (AT3.toInt + 1) := z_add e_w8 rfl (show (1 : Int32).toInt = 1 by decide) (by omega)
    refine z_put (C := RX10) (T := TX10) (N := 54) (ci := 10) (v := .int w8) (fs' := [.int m0, .ref wd, .ref my, .ref ce, .ref mv, .ref ta, .int m6, .int w8, .int m8, .int m9, .int m10, .long m11, .int m12, .int m13, .int m14, .int m15, .ref li, .ref ha, .ref lw, .ref st, .ref fo, .ref dr, .int m22, .ref ik, .int m24, .int m25, .long m26, .int m27, .int m28, .ref ro, .int m30, .ref ct, .ref se, .ref th, .ref cn, .ref be, .int m36, .ref du, .int m38, .ref db, .int m40, .int m41, .int m42, .ref pn, .ref wg, .ref wh, .ref tn, .ref he, .int m48, .ref tr, .ref fd, .ref po, .int m52, .int m53]) hx hb hT zin_X10 tyX10_ok nmX10 hown hK hw hm_mm hf_mm rfl 7 (by decide) (hT _ kw_1175) rfl rfl rfl (Nat.le_of_ble_eq_true rfl) rfl dX10_next_37 (fun H locs hw => ?_)
    obtain ⟨f9, e_f9⟩ : ∃ z, z = va_up f2 mm (.inr (10, [.int m0, .ref wd, .ref my, .ref ce, .ref mv, .ref ta, .int m6, .int w8, .int m8, .int m9, .int m10, .long m11, .int m12, .int m13, .int m14, .int m15, .ref li, .ref ha, .ref lw, .ref st, .ref fo, .ref dr, .int m22, .ref ik, .int m24, .int m25, .long m26, .int m27, .int m28, .ref ro, .int m30, .ref ct, .ref se, .ref th, .ref cn, .ref be, .int m36, .ref du, .int m38, .ref db, .int m40, .int m41, .int m42, .ref pn, .ref wg, .ref wh, .ref tn, .ref he, .int m48, .ref tr, .ref fd, .ref po, .int m52, .int m53])) := ⟨_, rfl⟩
    rw [← e_f9] at hw
    have hf_ta : f9 ta = .inl (cy 0, 1600, .inl gta) := (congrFun e_f9 ta).trans (z_up_ne (z_tne hf_ta hf_mm (m := 12900) (n := 10) rfl rfl (by decide)) hf_ta)
    have hf_mm : f9 mm = .inr (10, [.int m0, .ref wd, .ref my, .ref ce, .ref mv, .ref ta, .int m6, .int w8, .int m8, .int m9, .int m10, .long m11, .int m12, .int m13, .int m14, .int m15, .ref li, .ref ha, .ref lw, .ref st, .ref fo, .ref dr, .int m22, .ref ik, .int m24, .int m25, .long m26, .int m27, .int m28, .ref ro, .int m30, .ref ct, .ref se, .ref th, .ref cn, .ref be, .int m36, .ref du, .int m38, .ref db, .int m40, .int m41, .int m42, .ref pn, .ref wg, .ref wh, .ref tn, .ref he, .int m48, .ref tr, .ref fd, .ref po, .int m52, .int m53]) := (congrFun e_f9 mm).trans z_up_self
    have hfr : ∀ b ∈ L, b ≠ mm → f9 b = f b := fun b hb h0 => (congrFun e_f9 b).trans (z_up_ne h0 (hfr b hb h0))
    refine lv_goto (tgt := 0) hx hb dX10_next_40 (by decide) ?_
    exact ih_0 _ (by omega) _ _ _ ⟨w8, f9, rfl, (by first | decide | omega), (by first | decide | omega), (by omega), hw, hf_mm, hf_ta, hfr, (lv_sub hl [0] rfl)⟩
  · skip
    refine z_if_ne (tgt := 30) hx hb (show (0 : Int32).toInt = 0 by decide) dX10_next_12 (by decide) (fun h => absurd h (by decide)) (fun _ => ?_)
    refine lv_aload_n hx hb dX10_next_15 rfl (lv_at hl 0 rfl) ?_
    refine lv_aload_n hx hb dX10_next_16 rfl (lv_at hl 0 rfl) ?_
    refine z_get (C := RX10) (T := TX10) (N := 54) (ci := 10) (v := .int AT3) hx hb hT zin_X10 hown hK hw hm_mm hf_mm rfl 7 (by decide) (hT _ kw_1175) rfl dX10_next_17 ?_
    refine lv_bipush (v := 10) hx hb dX10_next_20 (by decide) ?_
    refine lv_bipush (v := 10) hx hb dX10_next_22 (by decide) ?_
    have hz10 := (show (10 : Int32).toInt = 10 by decide)
    have hz11 := (show (10 : Int32).toInt = 10 by decide)
    refine z_calliV (cells := 0) (slots := 0) (b := mm) (As := [.int AT3, .int 10, .int 10]) (rest := []) (ci := 10) (q0 := (RX10, TX10, 54)) ⟨hx, hb, hml, hown, hT⟩ (c_X10_isByte l hm_mm hm_ta hf_mm hf_ta (by first | omega | decide | assumption) (by first | omega | decide | assumption)) (cwV 3 hT (z_goodV (fun _ h => h) kw_1385 kw_1387 kw_35 kw_96 kw_1388) rfl rfl rfl (by decide +kernel) ⟨by decide, by decide⟩) z_mv hKK hK hw hA hm_mm hf_mm rfl rfl rfl hl.1 rfl (Nat.le_of_ble_eq_true rfl) dX10_next_24 ⟨by decide, by decide⟩ (fun r12 u H locs hp hw => ?_)
    obtain ⟨rfl, hp⟩ := hp
    have hw : z_H D vwCl (z_A L sz) s.heap L f2 H locs := hw
    rcases hp with ⟨rfl, h13⟩ | ⟨rfl, h13⟩
    · skip
      refine z_if_eq (tgt := 43) hx hb (show (1 : Int32).toInt = 1 by decide) dX10_next_27 (by decide) (fun h => absurd h (by decide)) (fun _ => ?_)
      refine lv_aload_n hx hb dX10_next_30 rfl (lv_at hl 0 rfl) ?_
      refine lv_dup hx hb dX10_next_31 rfl ?_
      refine z_get (C := RX10) (T := TX10) (N := 54) (ci := 10) (v := .int AT3) hx hb hT zin_X10 hown hK hw hm_mm hf_mm rfl 7 (by decide) (hT _ kw_1175) rfl dX10_next_32 ?_
      refine lv_iconst (v := 1) hx hb dX10_next_35 (by decide) ?_
      refine lv_iadd hx hb dX10_next_36 ?_
      refine lv_topi (fun w14 e_w14 => ?_)
      have i_w14 : w14.toInt = (AT3.toInt + 1) := z_add e_w14 rfl (show (1 : Int32).toInt = 1 by decide) (by omega)
      refine z_put (C := RX10) (T := TX10) (N := 54) (ci := 10) (v := .int w14) (fs' := [.int m0, .ref wd, .ref my, .ref ce, .ref mv, .ref ta, .int m6, .int w14, .int m8, .int m9, .int m10, .long m11, .int m12, .int m13, .int m14, .int m15, .ref li, .ref ha, .ref lw, .ref st, .ref fo, .ref dr, .int m22, .ref ik, .int m24, .int m25, .long m26, .int m27, .int m28, .ref ro, .int m30, .ref ct, .ref se, .ref th, .ref cn, .ref be, .int m36, .ref du, .int m38, .ref db, .int m40, .int m41, .int m42, .ref pn, .ref wg, .ref wh, .ref tn, .ref he, .int m48, .ref tr, .ref fd, .ref po, .int m52, .int m53]) hx hb hT zin_X10 tyX10_ok nmX10 hown hK hw hm_mm hf_mm rfl 7 (by decide) (hT _ kw_1175) rfl rfl rfl (Nat.le_of_ble_eq_true rfl) rfl dX10_next_37 (fun H locs hw => ?_)
      obtain ⟨f15, e_f15⟩ : ∃ z, z = va_up f2 mm (.inr (10, [.int m0, .ref wd, .ref my, .ref ce, .ref mv, .ref ta, .int m6, .int w14, .int m8, .int m9, .int m10, .long m11, .int m12, .int m13, .int m14, .int m15, .ref li, .ref ha, .ref lw, .ref st, .ref fo, .ref dr, .int m22, .ref ik, .int m24, .int m25, .long m26, .int m27, .int m28, .ref ro, .int m30, .ref ct, .ref se, .ref th, .ref cn, .ref be, .int m36, .ref du, .int m38, .ref db, .int m40, .int m41, .int m42, .ref pn, .ref wg, .ref wh, .ref tn, .ref he, .int m48, .ref tr, .ref fd, .ref po, .int m52, .int m53])) := ⟨_, rfl⟩
      rw [← e_f15] at hw
      have hf_ta : f15 ta = .inl (cy 0, 1600, .inl gta) := (congrFun e_f15 ta).trans (z_up_ne (z_tne hf_ta hf_mm (m := 12900) (n := 10) rfl rfl (by decide)) hf_ta)
      have hf_mm : f15 mm = .inr (10, [.int m0, .ref wd, .ref my, .ref ce, .ref mv, .ref ta, .int m6, .int w14, .int m8, .int m9, .int m10, .long m11, .int m12, .int m13, .int m14, .int m15, .ref li, .ref ha, .ref lw, .ref st, .ref fo, .ref dr, .int m22, .ref ik, .int m24, .int m25, .long m26, .int m27, .int m28, .ref ro, .int m30, .ref ct, .ref se, .ref th, .ref cn, .ref be, .int m36, .ref du, .int m38, .ref db, .int m40, .int m41, .int m42, .ref pn, .ref wg, .ref wh, .ref tn, .ref he, .int m48, .ref tr, .ref fd, .ref po, .int m52, .int m53]) := (congrFun e_f15 mm).trans z_up_self
      have hfr : ∀ b ∈ L, b ≠ mm → f15 b = f b := fun b hb h0 => (congrFun e_f15 b).trans (z_up_ne h0 (hfr b hb h0))
      refine lv_goto (tgt := 0) hx hb dX10_next_40 (by decide) ?_
      exact ih_0 _ (by omega) _ _ _ ⟨w14, f15, rfl, (by first | decide | omega), (by first | decide | omega), (by omega), hw, hf_mm, hf_ta, hfr, (lv_sub hl [0] rfl)⟩
    · skip
      refine z_if_eq (tgt := 43) hx hb (show (0 : Int32).toInt = 0 by decide) dX10_next_27 (by decide) (fun _ => ?_) (fun h => absurd h (by decide))
      refine lv_aload_n hx hb dX10_next_43 rfl (lv_at hl 0 rfl) ?_
      refine lv_aload_n hx hb dX10_next_44 rfl (lv_at hl 0 rfl) ?_
      refine z_get (C := RX10) (T := TX10) (N := 54) (ci := 10) (v := .int AT3) hx hb hT zin_X10 hown hK hw hm_mm hf_mm rfl 7 (by decide) (hT _ kw_1175) rfl dX10_next_45 ?_
      refine z_put (C := RX10) (T := TX10) (N := 54) (ci := 10) (v := .int AT3) (fs' := [.int m0, .ref wd, .ref my, .ref ce, .ref mv, .ref ta, .int m6, .int AT3, .int m8, .int AT3, .int m10, .long m11, .int m12, .int m13, .int m14, .int m15, .ref li, .ref ha, .ref lw, .ref st, .ref fo, .ref dr, .int m22, .ref ik, .int m24, .int m25, .long m26, .int m27, .int m28, .ref ro, .int m30, .ref ct, .ref se, .ref th, .ref cn, .ref be, .int m36, .ref du, .int m38, .ref db, .int m40, .int m41, .int m42, .ref pn, .ref wg, .ref wh, .ref tn, .ref he, .int m48, .ref tr, .ref fd, .ref po, .int m52, .int m53]) hx hb hT zin_X10 tyX10_ok nmX10 hown hK hw hm_mm hf_mm rfl 9 (by decide) (hT _ kw_1177) rfl rfl rfl (Nat.le_of_ble_eq_true rfl) rfl dX10_next_48 (fun H locs hw => ?_)
      obtain ⟨f16, e_f16⟩ : ∃ z, z = va_up f2 mm (.inr (10, [.int m0, .ref wd, .ref my, .ref ce, .ref mv, .ref ta, .int m6, .int AT3, .int m8, .int AT3, .int m10, .long m11, .int m12, .int m13, .int m14, .int m15, .ref li, .ref ha, .ref lw, .ref st, .ref fo, .ref dr, .int m22, .ref ik, .int m24, .int m25, .long m26, .int m27, .int m28, .ref ro, .int m30, .ref ct, .ref se, .ref th, .ref cn, .ref be, .int m36, .ref du, .int m38, .ref db, .int m40, .int m41, .int m42, .ref pn, .ref wg, .ref wh, .ref tn, .ref he, .int m48, .ref tr, .ref fd, .ref po, .int m52, .int m53])) := ⟨_, rfl⟩
      rw [← e_f16] at hw
      have hf_ta : f16 ta = .inl (cy 0, 1600, .inl gta) := (congrFun e_f16 ta).trans (z_up_ne (z_tne hf_ta hf_mm (m := 12900) (n := 10) rfl rfl (by decide)) hf_ta)
      have hf_mm : f16 mm = .inr (10, [.int m0, .ref wd, .ref my, .ref ce, .ref mv, .ref ta, .int m6, .int AT3, .int m8, .int AT3, .int m10, .long m11, .int m12, .int m13, .int m14, .int m15, .ref li, .ref ha, .ref lw, .ref st, .ref fo, .ref dr, .int m22, .ref ik, .int m24, .int m25, .long m26, .int m27, .int m28, .ref ro, .int m30, .ref ct, .ref se, .ref th, .ref cn, .ref be, .int m36, .ref du, .int m38, .ref db, .int m40, .int m41, .int m42, .ref pn, .ref wg, .ref wh, .ref tn, .ref he, .int m48, .ref tr, .ref fd, .ref po, .int m52, .int m53]) := (congrFun e_f16 mm).trans z_up_self
      have hfr : ∀ b ∈ L, b ≠ mm → f16 b = f b := fun b hb h0 => (congrFun e_f16 b).trans (z_up_ne h0 (hfr b hb h0))
      refine lv_aload_n hx hb dX10_next_51 rfl (lv_at hl 0 rfl) ?_
      refine lv_iconst (v := 0) hx hb dX10_next_52 (by decide) ?_
      refine z_put (C := RX10) (T := TX10) (N := 54) (ci := 10) (v := .int 0) (fs' := [.int m0, .ref wd, .ref my, .ref ce, .ref mv, .ref ta, .int m6, .int AT3, .int m8, .int AT3, .int 0, .long m11, .int m12, .int m13, .int m14, .int m15, .ref li, .ref ha, .ref lw, .ref st, .ref fo, .ref dr, .int m22, .ref ik, .int m24, .int m25, .long m26, .int m27, .int m28, .ref ro, .int m30, .ref ct, .ref se, .ref th, .ref cn, .ref be, .int m36, .ref du, .int m38, .ref db, .int m40, .int m41, .int m42, .ref pn, .ref wg, .ref wh, .ref tn, .ref he, .int m48, .ref tr, .ref fd, .ref po, .int m52, .int m53]) hx hb hT zin_X10 tyX10_ok nmX10 hown hK hw hm_mm hf_mm rfl 10 (by decide) (hT _ kw_1178) rfl rfl rfl (Nat.le_of_ble_eq_true rfl) rfl dX10_next_53 (fun H locs hw => ?_)
      obtain ⟨f17, e_f17⟩ : ∃ z, z = va_up f16 mm (.inr (10, [.int m0, .ref wd, .ref my, .ref ce, .ref mv, .ref ta, .int m6, .int AT3, .int m8, .int AT3, .int 0, .long m11, .int m12, .int m13, .int m14, .int m15, .ref li, .ref ha, .ref lw, .ref st, .ref fo, .ref dr, .int m22, .ref ik, .int m24, .int m25, .long m26, .int m27, .int m28, .ref ro, .int m30, .ref ct, .ref se, .ref th, .ref cn, .ref be, .int m36, .ref du, .int m38, .ref db, .int m40, .int m41, .int m42, .ref pn, .ref wg, .ref wh, .ref tn, .ref he, .int m48, .ref tr, .ref fd, .ref po, .int m52, .int m53])) := ⟨_, rfl⟩
      rw [← e_f17] at hw
      have hf_ta : f17 ta = .inl (cy 0, 1600, .inl gta) := (congrFun e_f17 ta).trans (z_up_ne (z_tne hf_ta hf_mm (m := 12900) (n := 10) rfl rfl (by decide)) hf_ta)
      have hf_mm : f17 mm = .inr (10, [.int m0, .ref wd, .ref my, .ref ce, .ref mv, .ref ta, .int m6, .int AT3, .int m8, .int AT3, .int 0, .long m11, .int m12, .int m13, .int m14, .int m15, .ref li, .ref ha, .ref lw, .ref st, .ref fo, .ref dr, .int m22, .ref ik, .int m24, .int m25, .long m26, .int m27, .int m28, .ref ro, .int m30, .ref ct, .ref se, .ref th, .ref cn, .ref be, .int m36, .ref du, .int m38, .ref db, .int m40, .int m41, .int m42, .ref pn, .ref wg, .ref wh, .ref tn, .ref he, .int m48, .ref tr, .ref fd, .ref po, .int m52, .int m53]) := (congrFun e_f17 mm).trans z_up_self
      have hfr : ∀ b ∈ L, b ≠ mm → f17 b = f b := fun b hb h0 => (congrFun e_f17 b).trans (z_up_ne h0 (hfr b hb h0))
      refine lv_aload_n hx hb dX10_next_56 rfl (lv_at hl 0 rfl) ?_
      refine lv_lconst (v := 0) hx hb dX10_next_57 (by decide) ?_
      refine z_put (C := RX10) (T := TX10) (N := 54) (ci := 10) (v := .long 0) (fs' := [.int m0, .ref wd, .ref my, .ref ce, .ref mv, .ref ta, .int m6, .int AT3, .int m8, .int AT3, .int 0, .long 0, .int m12, .int m13, .int m14, .int m15, .ref li, .ref ha, .ref lw, .ref st, .ref fo, .ref dr, .int m22, .ref ik, .int m24, .int m25, .long m26, .int m27, .int m28, .ref ro, .int m30, .ref ct, .ref se, .ref th, .ref cn, .ref be, .int m36, .ref du, .int m38, .ref db, .int m40, .int m41, .int m42, .ref pn, .ref wg, .ref wh, .ref tn, .ref he, .int m48, .ref tr, .ref fd, .ref po, .int m52, .int m53]) hx hb hT zin_X10 tyX10_ok nmX10 hown hK hw hm_mm hf_mm rfl 11 (by decide) (hT _ kw_1179) rfl rfl rfl (Nat.le_of_ble_eq_true rfl) rfl dX10_next_58 (fun H locs hw => ?_)
      obtain ⟨f18, e_f18⟩ : ∃ z, z = va_up f17 mm (.inr (10, [.int m0, .ref wd, .ref my, .ref ce, .ref mv, .ref ta, .int m6, .int AT3, .int m8, .int AT3, .int 0, .long 0, .int m12, .int m13, .int m14, .int m15, .ref li, .ref ha, .ref lw, .ref st, .ref fo, .ref dr, .int m22, .ref ik, .int m24, .int m25, .long m26, .int m27, .int m28, .ref ro, .int m30, .ref ct, .ref se, .ref th, .ref cn, .ref be, .int m36, .ref du, .int m38, .ref db, .int m40, .int m41, .int m42, .ref pn, .ref wg, .ref wh, .ref tn, .ref he, .int m48, .ref tr, .ref fd, .ref po, .int m52, .int m53])) := ⟨_, rfl⟩
      rw [← e_f18] at hw
      have hf_ta : f18 ta = .inl (cy 0, 1600, .inl gta) := (congrFun e_f18 ta).trans (z_up_ne (z_tne hf_ta hf_mm (m := 12900) (n := 10) rfl rfl (by decide)) hf_ta)
      have hf_mm : f18 mm = .inr (10, [.int m0, .ref wd, .ref my, .ref ce, .ref mv, .ref ta, .int m6, .int AT3, .int m8, .int AT3, .int 0, .long 0, .int m12, .int m13, .int m14, .int m15, .ref li, .ref ha, .ref lw, .ref st, .ref fo, .ref dr, .int m22, .ref ik, .int m24, .int m25, .long m26, .int m27, .int m28, .ref ro, .int m30, .ref ct, .ref se, .ref th, .ref cn, .ref be, .int m36, .ref du, .int m38, .ref db, .int m40, .int m41, .int m42, .ref pn, .ref wg, .ref wh, .ref tn, .ref he, .int m48, .ref tr, .ref fd, .ref po, .int m52, .int m53]) := (congrFun e_f18 mm).trans z_up_self
      have hfr : ∀ b ∈ L, b ≠ mm → f18 b = f b := fun b hb h0 => (congrFun e_f18 b).trans (z_up_ne h0 (hfr b hb h0))
      refine lv_aload_n hx hb dX10_next_61 rfl (lv_at hl 0 rfl) ?_
      refine z_get (C := RX10) (T := TX10) (N := 54) (ci := 10) (v := .int AT3) hx hb hT zin_X10 hown hK hw hm_mm hf_mm rfl 7 (by decide) (hT _ kw_1175) rfl dX10_next_62 ?_
      refine lv_aload_n hx hb dX10_next_65 rfl (lv_at hl 0 rfl) ?_
      refine z_get (C := RX10) (T := TX10) (N := 54) (ci := 10) (v := .int m6) hx hb hT zin_X10 hown hK hw hm_mm hf_mm rfl 6 (by decide) (hT _ kw_1174) rfl dX10_next_66 ?_
      refine z_icmp_ne (tgt := 80) hx hb rfl rfl dX10_next_69 (by decide) (fun c19 => ?_) (fun c19 => ?_)
      · skip
        refine lv_aload_n hx hb dX10_next_80 rfl (lv_at hl 0 rfl) ?_
        refine lv_aload_n hx hb dX10_next_81 rfl (lv_at hl 0 rfl) ?_
        refine z_get (C := RX10) (T := TX10) (N := 54) (ci := 10) (v := .int AT3) hx hb hT zin_X10 hown hK hw hm_mm hf_mm rfl 7 (by decide) (hT _ kw_1175) rfl dX10_next_82 ?_
        refine lv_bipush (v := 97) hx hb dX10_next_85 (by decide) ?_
        refine lv_bipush (v := 122) hx hb dX10_next_87 (by decide) ?_
        have hz20 := (show (97 : Int32).toInt = 97 by decide)
        have hz21 := (show (122 : Int32).toInt = 122 by decide)
        refine z_calliV (cells := 0) (slots := 0) (b := mm) (As := [.int AT3, .int 97, .int 122]) (rest := []) (ci := 10) (q0 := (RX10, TX10, 54)) ⟨hx, hb, hml, hown, hT⟩ (c_X10_isByte l hm_mm hm_ta hf_mm hf_ta (by first | omega | decide | assumption) (by first | omega | decide | assumption)) (cwV 3 hT (z_goodV (fun _ h => h) kw_1385 kw_1387 kw_35 kw_96 kw_1388) rfl rfl rfl (by decide +kernel) ⟨by decide, by decide⟩) z_mv hKK hK hw hA hm_mm hf_mm rfl rfl rfl hl.1 rfl (Nat.le_of_ble_eq_true rfl) dX10_next_89 ⟨by decide, by decide⟩ (fun r22 u H locs hp hw => ?_)
        obtain ⟨rfl, hp⟩ := hp
        have hw : z_H D vwCl (z_A L sz) s.heap L f18 H locs := hw
        rcases hp with ⟨rfl, h23⟩ | ⟨rfl, h23⟩
        · skip
          refine z_if_eq (tgt := 188) hx hb (show (1 : Int32).toInt = 1 by decide) dX10_next_92 (by decide) (fun h => absurd h (by decide)) (fun _ => ?_)
          refine lv_aload_n hx hb dX10_next_95 rfl (lv_at hl 0 rfl) ?_
          refine lv_iconst (v := 1) hx hb dX10_next_96 (by decide) ?_
          refine z_put (C := RX10) (T := TX10) (N := 54) (ci := 10) (v := .int 1) (fs' := [.int m0, .ref wd, .ref my, .ref ce, .ref mv, .ref ta, .int m6, .int AT3, .int 1, .int AT3, .int 0, .long 0, .int m12, .int m13, .int m14, .int m15, .ref li, .ref ha, .ref lw, .ref st, .ref fo, .ref dr, .int m22, .ref ik, .int m24, .int m25, .long m26, .int m27, .int m28, .ref ro, .int m30, .ref ct, .ref se, .ref th, .ref cn, .ref be, .int m36, .ref du, .int m38, .ref db, .int m40, .int m41, .int m42, .ref pn, .ref wg, .ref wh, .ref tn, .ref he, .int m48, .ref tr, .ref fd, .ref po, .int m52, .int m53]) hx hb hT zin_X10 tyX10_ok nmX10 hown hK hw hm_mm hf_mm rfl 8 (by decide) (hT _ kw_1176) rfl rfl rfl (Nat.le_of_ble_eq_true rfl) rfl dX10_next_97 (fun H locs hw => ?_)
          obtain ⟨f24, e_f24⟩ : ∃ z, z = va_up f18 mm (.inr (10, [.int m0, .ref wd, .ref my, .ref ce, .ref mv, .ref ta, .int m6, .int AT3, .int 1, .int AT3, .int 0, .long 0, .int m12, .int m13, .int m14, .int m15, .ref li, .ref ha, .ref lw, .ref st, .ref fo, .ref dr, .int m22, .ref ik, .int m24, .int m25, .long m26, .int m27, .int m28, .ref ro, .int m30, .ref ct, .ref se, .ref th, .ref cn, .ref be, .int m36, .ref du, .int m38, .ref db, .int m40, .int m41, .int m42, .ref pn, .ref wg, .ref wh, .ref tn, .ref he, .int m48, .ref tr, .ref fd, .ref po, .int m52, .int m53])) := ⟨_, rfl⟩
          rw [← e_f24] at hw
          have hf_ta : f24 ta = .inl (cy 0, 1600, .inl gta) := (congrFun e_f24 ta).trans (z_up_ne (z_tne hf_ta hf_mm (m := 12900) (n := 10) rfl rfl (by decide)) hf_ta)
          have hf_mm : f24 mm = .inr (10, [.int m0, .ref wd, .ref my, .ref ce, .ref mv, .ref ta, .int m6, .int AT3, .int 1, .int AT3, .int 0, .long 0, .int m12, .int m13, .int m14, .int m15, .ref li, .ref ha, .ref lw, .ref st, .ref fo, .ref dr, .int m22, .ref ik, .int m24, .int m25, .long m26, .int m27, .int m28, .ref ro, .int m30, .ref ct, .ref se, .ref th, .ref cn, .ref be, .int m36, .ref du, .int m38, .ref db, .int m40, .int m41, .int m42, .ref pn, .ref wg, .ref wh, .ref tn, .ref he, .int m48, .ref tr, .ref fd, .ref po, .int m52, .int m53]) := (congrFun e_f24 mm).trans z_up_self
          have hfr : ∀ b ∈ L, b ≠ mm → f24 b = f b := fun b hb h0 => (congrFun e_f24 b).trans (z_up_ne h0 (hfr b hb h0))
          refine lv_iconst (v := 0) hx hb dX10_next_100 (by decide) ?_
          refine lv_istore_n (lv' := [(1, .int 0), (0, .ref mm)]) hx hb dX10_next_101 rfl hl (by decide) rfl (fun ls hl => ?_)
          refine z_loop (fun n H locs ls => ∃  (AT27 : Int32) (WO28 : Int64) (V29 : Int32) (f26 : Nat → va_E), (n = (m6.toInt - AT27.toInt).toNat) ∧ (0 ≤ AT27.toInt) ∧ (AT27.toInt ≤ m6.toInt) ∧ (0 ≤ AT27.toInt ∧ AT27.toInt ≤ m6.toInt ∧ m7.toInt ≤ AT27.toInt) ∧ (z_H D vwCl (z_A L sz) s.heap L f26 H locs) ∧ (f26 mm = .inr (10, [.int m0, .ref wd, .ref my, .ref ce, .ref mv, .ref ta, .int m6, .int AT27, .int 1, .int AT3, .int 0, .long WO28, .int m12, .int m13, .int m14, .int m15, .ref li, .ref ha, .ref lw, .ref st, .ref fo, .ref dr, .int m22, .ref ik, .int m24, .int m25, .long m26, .int m27, .int m28, .ref ro, .int m30, .ref ct, .ref se, .ref th, .ref cn, .ref be, .int m36, .ref du, .int m38, .ref db, .int m40, .int m41, .int m42, .ref pn, .ref wg, .ref wh, .ref tn, .ref he, .int m48, .ref tr, .ref fd, .ref po, .int m52, .int m53])) ∧ (f26 ta = .inl (cy 0, 1600, .inl gta)) ∧ (∀ b ∈ L, b ≠ mm → f26 b = f b) ∧ (lv_has ls 2 [(1, .int V29), (0, .ref mm)])) _ ⟨AT3, 0, 0, f24, rfl, (by first | decide | omega), (by first | decide | omega), (by omega), hw, hf_mm, hf_ta, hfr, (lv_sub hl [0, 1] rfl)⟩ (fun n H locs ls hI ih_102 => ?_)
          obtain ⟨AT27, WO28, V29, f26, hn, hk0, hk1, hi0, hw, hf_mm, hf_ta, hfr, hl⟩ := hI
          refine lv_aload_n hx hb dX10_next_102 rfl (lv_at hl 1 rfl) ?_
          refine lv_aload_n hx hb dX10_next_103 rfl (lv_at hl 1 rfl) ?_
          refine z_get (C := RX10) (T := TX10) (N := 54) (ci := 10) (v := .int AT27) hx hb hT zin_X10 hown hK hw hm_mm hf_mm rfl 7 (by decide) (hT _ kw_1175) rfl dX10_next_104 ?_
          refine lv_bipush (v := 97) hx hb dX10_next_107 (by decide) ?_
          refine lv_bipush (v := 122) hx hb dX10_next_109 (by decide) ?_
          have hz30 := (show (97 : Int32).toInt = 97 by decide)
          have hz31 := (show (122 : Int32).toInt = 122 by decide)
          refine z_calliV (cells := 0) (slots := 0) (b := mm) (As := [.int AT27, .int 97, .int 122]) (rest := []) (ci := 10) (q0 := (RX10, TX10, 54)) ⟨hx, hb, hml, hown, hT⟩ (c_X10_isByte l hm_mm hm_ta hf_mm hf_ta (by first | omega | decide | assumption) (by first | omega | decide | assumption)) (cwV 3 hT (z_goodV (fun _ h => h) kw_1385 kw_1387 kw_35 kw_96 kw_1388) rfl rfl rfl (by decide +kernel) ⟨by decide, by decide⟩) z_mv hKK hK hw hA hm_mm hf_mm rfl rfl rfl hl.1 rfl (Nat.le_of_ble_eq_true rfl) dX10_next_111 ⟨by decide, by decide⟩ (fun r32 u H locs hp hw => ?_)
          obtain ⟨rfl, hp⟩ := hp
          have hw : z_H D vwCl (z_A L sz) s.heap L f26 H locs := hw
          rcases hp with ⟨rfl, h33⟩ | ⟨rfl, h33⟩
          · skip
            refine z_if_eq (tgt := 185) hx hb (show (1 : Int32).toInt = 1 by decide) dX10_next_114 (by decide) (fun h => absurd h (by decide)) (fun _ => ?_)
            refine lv_aload_n hx hb dX10_next_117 rfl (lv_at hl 1 rfl) ?_
            refine lv_iload_n hx hb dX10_next_118 rfl (lv_at hl 0 rfl) ?_
            refine lv_bipush (v := 11) hx hb dX10_next_119 (by decide) ?_
            refine z_icmp_le (tgt := 130) hx hb rfl (show (11 : Int32).toInt = 11 by decide) dX10_next_121 (by decide) (fun c34 => ?_) (fun c34 => ?_)
            · skip
              refine lv_ldc2 (v := 27) hx hb hown (hT _ kw_1390) dX10_next_130 ?_
              refine lv_aload_n hx hb dX10_next_133 rfl (lv_at hl 1 rfl) ?_
              refine z_get (C := RX10) (T := TX10) (N := 54) (ci := 10) (v := .long WO28) hx hb hT zin_X10 hown hK hw hm_mm hf_mm rfl 11 (by decide) (hT _ kw_1179) rfl dX10_next_134 ?_
              refine lv_lmul hx hb dX10_next_137 ?_
              refine lv_topl (fun w35 e_w35 => ?_)
              refine lv_aload_n hx hb dX10_next_138 rfl (lv_at hl 1 rfl) ?_
              refine z_get (C := RX10) (T := TX10) (N := 54) (ci := 10) (v := .ref ta) hx hb hT zin_X10 hown hK hw hm_mm hf_mm rfl 5 (by decide) (hT _ kw_1173) rfl dX10_next_139 ?_
              refine lv_aload_n hx hb dX10_next_142 rfl (lv_at hl 1 rfl) ?_
              refine z_get (C := RX10) (T := TX10) (N := 54) (ci := 10) (v := .int AT27) hx hb hT zin_X10 hown hK hw hm_mm hf_mm rfl 7 (by decide) (hT _ kw_1175) rfl dX10_next_143 ?_
              refine z_bald hx hb hK hw 0 hm_ta hf_ta rfl (z_ix rfl (by omega)) dX10_next_146 ?_
              refine lv_topi (fun w36 e_w36 => ?_)
              refine lv_i2l hx hb dX10_next_147 rfl ?_
              refine lv_topl (fun w37 e_w37 => ?_)
              have i_w37 : w37.toInt = w36.toInt := z_i2l e_w37 rfl
              refine lv_ladd hx hb dX10_next_148 ?_
              refine lv_topl (fun w38 e_w38 => ?_)
              refine lv_ldc2 (v := 96) hx hb hown (hT _ kw_1391) dX10_next_149 ?_
              refine lv_lsub hx hb dX10_next_152 ?_
              refine lv_topl (fun w39 e_w39 => ?_)
              refine z_put (C := RX10) (T := TX10) (N := 54) (ci := 10) (v := .long w39) (fs' := [.int m0, .ref wd, .ref my, .ref ce, .ref mv, .ref ta, .int m6, .int AT27, .int 1, .int AT3, .int 0, .long w39, .int m12, .int m13, .int m14, .int m15, .ref li, .ref ha, .ref lw, .ref st, .ref fo, .ref dr, .int m22, .ref ik, .int m24, .int m25, .long m26, .int m27, .int m28, .ref ro, .int m30, .ref ct, .ref se, .ref th, .ref cn, .ref be, .int m36, .ref du, .int m38, .ref db, .int m40, .int m41, .int m42, .ref pn, .ref wg, .ref wh, .ref tn, .ref he, .int m48, .ref tr, .ref fd, .ref po, .int m52, .int m53]) hx hb hT zin_X10 tyX10_ok nmX10 hown hK hw hm_mm hf_mm rfl 11 (by decide) (hT _ kw_1179) rfl rfl rfl (Nat.le_of_ble_eq_true rfl) rfl dX10_next_153 (fun H locs hw => ?_)
              obtain ⟨f40, e_f40⟩ : ∃ z, z = va_up f26 mm (.inr (10, [.int m0, .ref wd, .ref my, .ref ce, .ref mv, .ref ta, .int m6, .int AT27, .int 1, .int AT3, .int 0, .long w39, .int m12, .int m13, .int m14, .int m15, .ref li, .ref ha, .ref lw, .ref st, .ref fo, .ref dr, .int m22, .ref ik, .int m24, .int m25, .long m26, .int m27, .int m28, .ref ro, .int m30, .ref ct, .ref se, .ref th, .ref cn, .ref be, .int m36, .ref du, .int m38, .ref db, .int m40, .int m41, .int m42, .ref pn, .ref wg, .ref wh, .ref tn, .ref he, .int m48, .ref tr, .ref fd, .ref po, .int m52, .int m53])) := ⟨_, rfl⟩
              rw [← e_f40] at hw
              have hf_ta : f40 ta = .inl (cy 0, 1600, .inl gta) := (congrFun e_f40 ta).trans (z_up_ne (z_tne hf_ta hf_mm (m := 12900) (n := 10) rfl rfl (by decide)) hf_ta)
              have hf_mm : f40 mm = .inr (10, [.int m0, .ref wd, .ref my, .ref ce, .ref mv, .ref ta, .int m6, .int AT27, .int 1, .int AT3, .int 0, .long w39, .int m12, .int m13, .int m14, .int m15, .ref li, .ref ha, .ref lw, .ref st, .ref fo, .ref dr, .int m22, .ref ik, .int m24, .int m25, .long m26, .int m27, .int m28, .ref ro, .int m30, .ref ct, .ref se, .ref th, .ref cn, .ref be, .int m36, .ref du, .int m38, .ref db, .int m40, .int m41, .int m42, .ref pn, .ref wg, .ref wh, .ref tn, .ref he, .int m48, .ref tr, .ref fd, .ref po, .int m52, .int m53]) := (congrFun e_f40 mm).trans z_up_self
              have hfr : ∀ b ∈ L, b ≠ mm → f40 b = f b := fun b hb h0 => (congrFun e_f40 b).trans (z_up_ne h0 (hfr b hb h0))
              refine lv_iload_n hx hb dX10_next_156 rfl (lv_at hl 0 rfl) ?_
              refine lv_bipush (v := 11) hx hb dX10_next_157 (by decide) ?_
              refine z_icmp_le (tgt := 169) hx hb rfl (show (11 : Int32).toInt = 11 by decide) dX10_next_159 (by decide) (fun c41 => ?_) (fun c41 => ?_)
              · skip
                refine lv_aload_n hx hb dX10_next_169 rfl (lv_at hl 1 rfl) ?_
                refine lv_dup hx hb dX10_next_170 rfl ?_
                refine z_get (C := RX10) (T := TX10) (N := 54) (ci := 10) (v := .int AT27) hx hb hT zin_X10 hown hK hw hm_mm hf_mm rfl 7 (by decide) (hT _ kw_1175) rfl dX10_next_171 ?_
                refine lv_iconst (v := 1) hx hb dX10_next_174 (by decide) ?_
                refine lv_iadd hx hb dX10_next_175 ?_
                refine lv_topi (fun w42 e_w42 => ?_)
                have i_w42 : w42.toInt = (AT27.toInt + 1) := z_add e_w42 rfl (show (1 : Int32).toInt = 1 by decide) (by omega)
                refine z_put (C := RX10) (T := TX10) (N := 54) (ci := 10) (v := .int w42) (fs' := [.int m0, .ref wd, .ref my, .ref ce, .ref mv, .ref ta, .int m6, .int w42, .int 1, .int AT3, .int 0, .long w39, .int m12, .int m13, .int m14, .int m15, .ref li, .ref ha, .ref lw, .ref st, .ref fo, .ref dr, .int m22, .ref ik, .int m24, .int m25, .long m26, .int m27, .int m28, .ref ro, .int m30, .ref ct, .ref se, .ref th, .ref cn, .ref be, .int m36, .ref du, .int m38, .ref db, .int m40, .int m41, .int m42, .ref pn, .ref wg, .ref wh, .ref tn, .ref he, .int m48, .ref tr, .ref fd, .ref po, .int m52, .int m53]) hx hb hT zin_X10 tyX10_ok nmX10 hown hK hw hm_mm hf_mm rfl 7 (by decide) (hT _ kw_1175) rfl rfl rfl (Nat.le_of_ble_eq_true rfl) rfl dX10_next_176 (fun H locs hw => ?_)
                obtain ⟨f43, e_f43⟩ : ∃ z, z = va_up f40 mm (.inr (10, [.int m0, .ref wd, .ref my, .ref ce, .ref mv, .ref ta, .int m6, .int w42, .int 1, .int AT3, .int 0, .long w39, .int m12, .int m13, .int m14, .int m15, .ref li, .ref ha, .ref lw, .ref st, .ref fo, .ref dr, .int m22, .ref ik, .int m24, .int m25, .long m26, .int m27, .int m28, .ref ro, .int m30, .ref ct, .ref se, .ref th, .ref cn, .ref be, .int m36, .ref du, .int m38, .ref db, .int m40, .int m41, .int m42, .ref pn, .ref wg, .ref wh, .ref tn, .ref he, .int m48, .ref tr, .ref fd, .ref po, .int m52, .int m53])) := ⟨_, rfl⟩
                rw [← e_f43] at hw
                have hf_ta : f43 ta = .inl (cy 0, 1600, .inl gta) := (congrFun e_f43 ta).trans (z_up_ne (z_tne hf_ta hf_mm (m := 12900) (n := 10) rfl rfl (by decide)) hf_ta)
                have hf_mm : f43 mm = .inr (10, [.int m0, .ref wd, .ref my, .ref ce, .ref mv, .ref ta, .int m6, .int w42, .int 1, .int AT3, .int 0, .long w39, .int m12, .int m13, .int m14, .int m15, .ref li, .ref ha, .ref lw, .ref st, .ref fo, .ref dr, .int m22, .ref ik, .int m24, .int m25, .long m26, .int m27, .int m28, .ref ro, .int m30, .ref ct, .ref se, .ref th, .ref cn, .ref be, .int m36, .ref du, .int m38, .ref db, .int m40, .int m41, .int m42, .ref pn, .ref wg, .ref wh, .ref tn, .ref he, .int m48, .ref tr, .ref fd, .ref po, .int m52, .int m53]) := (congrFun e_f43 mm).trans z_up_self
                have hfr : ∀ b ∈ L, b ≠ mm → f43 b = f b := fun b hb h0 => (congrFun e_f43 b).trans (z_up_ne h0 (hfr b hb h0))
                obtain ⟨k44, e_k44⟩ : ∃ z : Int32, z = V29 + 1 := ⟨_, rfl⟩
                refine lv_iinc (v := k44) (lv' := [(1, .int k44), (0, .ref mm)]) hx hb dX10_next_179 hl (k := 0) rfl (by rw [e_k44]; rfl) (by decide) rfl (fun ls hl => ?_)
                refine lv_goto (tgt := 102) hx hb dX10_next_182 (by decide) ?_
                exact ih_102 _ (by omega) _ _ _ ⟨w42, w39, k44, f43, rfl, (by first | decide | omega), (by first | decide | omega), (by omega), hw, hf_mm, hf_ta, hfr, (lv_sub hl [0, 1] rfl)⟩
              · skip
                refine lv_aload_n hx hb dX10_next_162 rfl (lv_at hl 1 rfl) ?_
                refine lv_ldc2 (v := (-1)) hx hb hown (hT _ kw_1389) dX10_next_163 ?_
                refine z_put (C := RX10) (T := TX10) (N := 54) (ci := 10) (v := .long (-1)) (fs' := [.int m0, .ref wd, .ref my, .ref ce, .ref mv, .ref ta, .int m6, .int AT27, .int 1, .int AT3, .int 0, .long (-1), .int m12, .int m13, .int m14, .int m15, .ref li, .ref ha, .ref lw, .ref st, .ref fo, .ref dr, .int m22, .ref ik, .int m24, .int m25, .long m26, .int m27, .int m28, .ref ro, .int m30, .ref ct, .ref se, .ref th, .ref cn, .ref be, .int m36, .ref du, .int m38, .ref db, .int m40, .int m41, .int m42, .ref pn, .ref wg, .ref wh, .ref tn, .ref he, .int m48, .ref tr, .ref fd, .ref po, .int m52, .int m53]) hx hb hT zin_X10 tyX10_ok nmX10 hown hK hw hm_mm hf_mm rfl 11 (by decide) (hT _ kw_1179) rfl rfl rfl (Nat.le_of_ble_eq_true rfl) rfl dX10_next_166 (fun H locs hw => ?_)
                obtain ⟨f45, e_f45⟩ : ∃ z, z = va_up f40 mm (.inr (10, [.int m0, .ref wd, .ref my, .ref ce, .ref mv, .ref ta, .int m6, .int AT27, .int 1, .int AT3, .int 0, .long (-1), .int m12, .int m13, .int m14, .int m15, .ref li, .ref ha, .ref lw, .ref st, .ref fo, .ref dr, .int m22, .ref ik, .int m24, .int m25, .long m26, .int m27, .int m28, .ref ro, .int m30, .ref ct, .ref se, .ref th, .ref cn, .ref be, .int m36, .ref du, .int m38, .ref db, .int m40, .int m41, .int m42, .ref pn, .ref wg, .ref wh, .ref tn, .ref he, .int m48, .ref tr, .ref fd, .ref po, .int m52, .int m53])) := ⟨_, rfl⟩
                rw [← e_f45] at hw
                have hf_ta : f45 ta = .inl (cy 0, 1600, .inl gta) := (congrFun e_f45 ta).trans (z_up_ne (z_tne hf_ta hf_mm (m := 12900) (n := 10) rfl rfl (by decide)) hf_ta)
                have hf_mm : f45 mm = .inr (10, [.int m0, .ref wd, .ref my, .ref ce, .ref mv, .ref ta, .int m6, .int AT27, .int 1, .int AT3, .int 0, .long (-1), .int m12, .int m13, .int m14, .int m15, .ref li, .ref ha, .ref lw, .ref st, .ref fo, .ref dr, .int m22, .ref ik, .int m24, .int m25, .long m26, .int m27, .int m28, .ref ro, .int m30, .ref ct, .ref se, .ref th, .ref cn, .ref be, .int m36, .ref du, .int m38, .ref db, .int m40, .int m41, .int m42, .ref pn, .ref wg, .ref wh, .ref tn, .ref he, .int m48, .ref tr, .ref fd, .ref po, .int m52, .int m53]) := (congrFun e_f45 mm).trans z_up_self
                have hfr : ∀ b ∈ L, b ≠ mm → f45 b = f b := fun b hb h0 => (congrFun e_f45 b).trans (z_up_ne h0 (hfr b hb h0))
                refine lv_aload_n hx hb dX10_next_169 rfl (lv_at hl 1 rfl) ?_
                refine lv_dup hx hb dX10_next_170 rfl ?_
                refine z_get (C := RX10) (T := TX10) (N := 54) (ci := 10) (v := .int AT27) hx hb hT zin_X10 hown hK hw hm_mm hf_mm rfl 7 (by decide) (hT _ kw_1175) rfl dX10_next_171 ?_
                refine lv_iconst (v := 1) hx hb dX10_next_174 (by decide) ?_
                refine lv_iadd hx hb dX10_next_175 ?_
                refine lv_topi (fun w46 e_w46 => ?_)
                have i_w46 : w46.toInt = (AT27.toInt + 1) := z_add e_w46 rfl (show (1 : Int32).toInt = 1 by decide) (by omega)
                refine z_put (C := RX10) (T := TX10) (N := 54) (ci := 10) (v := .int w46) (fs' := [.int m0, .ref wd, .ref my, .ref ce, .ref mv, .ref ta, .int m6, .int w46, .int 1, .int AT3, .int 0, .long (-1), .int m12, .int m13, .int m14, .int m15, .ref li, .ref ha, .ref lw, .ref st, .ref fo, .ref dr, .int m22, .ref ik, .int m24, .int m25, .long m26, .int m27, .int m28, .ref ro, .int m30, .ref ct, .ref se, .ref th, .ref cn, .ref be, .int m36, .ref du, .int m38, .ref db, .int m40, .int m41, .int m42, .ref pn, .ref wg, .ref wh, .ref tn, .ref he, .int m48, .ref tr, .ref fd, .ref po, .int m52, .int m53]) hx hb hT zin_X10 tyX10_ok nmX10 hown hK hw hm_mm hf_mm rfl 7 (by decide) (hT _ kw_1175) rfl rfl rfl (Nat.le_of_ble_eq_true rfl) rfl dX10_next_176 (fun H locs hw => ?_)
                obtain ⟨f47, e_f47⟩ : ∃ z, z = va_up f45 mm (.inr (10, [.int m0, .ref wd, .ref my, .ref ce, .ref mv, .ref ta, .int m6, .int w46, .int 1, .int AT3, .int 0, .long (-1), .int m12, .int m13, .int m14, .int m15, .ref li, .ref ha, .ref lw, .ref st, .ref fo, .ref dr, .int m22, .ref ik, .int m24, .int m25, .long m26, .int m27, .int m28, .ref ro, .int m30, .ref ct, .ref se, .ref th, .ref cn, .ref be, .int m36, .ref du, .int m38, .ref db, .int m40, .int m41, .int m42, .ref pn, .ref wg, .ref wh, .ref tn, .ref he, .int m48, .ref tr, .ref fd, .ref po, .int m52, .int m53])) := ⟨_, rfl⟩
                rw [← e_f47] at hw
                have hf_ta : f47 ta = .inl (cy 0, 1600, .inl gta) := (congrFun e_f47 ta).trans (z_up_ne (z_tne hf_ta hf_mm (m := 12900) (n := 10) rfl rfl (by decide)) hf_ta)
                have hf_mm : f47 mm = .inr (10, [.int m0, .ref wd, .ref my, .ref ce, .ref mv, .ref ta, .int m6, .int w46, .int 1, .int AT3, .int 0, .long (-1), .int m12, .int m13, .int m14, .int m15, .ref li, .ref ha, .ref lw, .ref st, .ref fo, .ref dr, .int m22, .ref ik, .int m24, .int m25, .long m26, .int m27, .int m28, .ref ro, .int m30, .ref ct, .ref se, .ref th, .ref cn, .ref be, .int m36, .ref du, .int m38, .ref db, .int m40, .int m41, .int m42, .ref pn, .ref wg, .ref wh, .ref tn, .ref he, .int m48, .ref tr, .ref fd, .ref po, .int m52, .int m53]) := (congrFun e_f47 mm).trans z_up_self
                have hfr : ∀ b ∈ L, b ≠ mm → f47 b = f b := fun b hb h0 => (congrFun e_f47 b).trans (z_up_ne h0 (hfr b hb h0))
                obtain ⟨k48, e_k48⟩ : ∃ z : Int32, z = V29 + 1 := ⟨_, rfl⟩
                refine lv_iinc (v := k48) (lv' := [(1, .int k48), (0, .ref mm)]) hx hb dX10_next_179 hl (k := 0) rfl (by rw [e_k48]; rfl) (by decide) rfl (fun ls hl => ?_)
                refine lv_goto (tgt := 102) hx hb dX10_next_182 (by decide) ?_
                exact ih_102 _ (by omega) _ _ _ ⟨w46, (-1), k48, f47, rfl, (by first | decide | omega), (by first | decide | omega), (by omega), hw, hf_mm, hf_ta, hfr, (lv_sub hl [0, 1] rfl)⟩
            · skip
              refine lv_ldc2 (v := (-1)) hx hb hown (hT _ kw_1389) dX10_next_124 ?_
              refine lv_goto (tgt := 153) hx hb dX10_next_127 (by decide) ?_
              refine z_put (C := RX10) (T := TX10) (N := 54) (ci := 10) (v := .long (-1)) (fs' := [.int m0, .ref wd, .ref my, .ref ce, .ref mv, .ref ta, .int m6, .int AT27, .int 1, .int AT3, .int 0, .long (-1), .int m12, .int m13, .int m14, .int m15, .ref li, .ref ha, .ref lw, .ref st, .ref fo, .ref dr, .int m22, .ref ik, .int m24, .int m25, .long m26, .int m27, .int m28, .ref ro, .int m30, .ref ct, .ref se, .ref th, .ref cn, .ref be, .int m36, .ref du, .int m38, .ref db, .int m40, .int m41, .int m42, .ref pn, .ref wg, .ref wh, .ref tn, .ref he, .int m48, .ref tr, .ref fd, .ref po, .int m52, .int m53]) hx hb hT zin_X10 tyX10_ok nmX10 hown hK hw hm_mm hf_mm rfl 11 (by decide) (hT _ kw_1179) rfl rfl rfl (Nat.le_of_ble_eq_true rfl) rfl dX10_next_153 (fun H locs hw => ?_)
              obtain ⟨f49, e_f49⟩ : ∃ z, z = va_up f26 mm (.inr (10, [.int m0, .ref wd, .ref my, .ref ce, .ref mv, .ref ta, .int m6, .int AT27, .int 1, .int AT3, .int 0, .long (-1), .int m12, .int m13, .int m14, .int m15, .ref li, .ref ha, .ref lw, .ref st, .ref fo, .ref dr, .int m22, .ref ik, .int m24, .int m25, .long m26, .int m27, .int m28, .ref ro, .int m30, .ref ct, .ref se, .ref th, .ref cn, .ref be, .int m36, .ref du, .int m38, .ref db, .int m40, .int m41, .int m42, .ref pn, .ref wg, .ref wh, .ref tn, .ref he, .int m48, .ref tr, .ref fd, .ref po, .int m52, .int m53])) := ⟨_, rfl⟩
              rw [← e_f49] at hw
              have hf_ta : f49 ta = .inl (cy 0, 1600, .inl gta) := (congrFun e_f49 ta).trans (z_up_ne (z_tne hf_ta hf_mm (m := 12900) (n := 10) rfl rfl (by decide)) hf_ta)
              have hf_mm : f49 mm = .inr (10, [.int m0, .ref wd, .ref my, .ref ce, .ref mv, .ref ta, .int m6, .int AT27, .int 1, .int AT3, .int 0, .long (-1), .int m12, .int m13, .int m14, .int m15, .ref li, .ref ha, .ref lw, .ref st, .ref fo, .ref dr, .int m22, .ref ik, .int m24, .int m25, .long m26, .int m27, .int m28, .ref ro, .int m30, .ref ct, .ref se, .ref th, .ref cn, .ref be, .int m36, .ref du, .int m38, .ref db, .int m40, .int m41, .int m42, .ref pn, .ref wg, .ref wh, .ref tn, .ref he, .int m48, .ref tr, .ref fd, .ref po, .int m52, .int m53]) := (congrFun e_f49 mm).trans z_up_self
              have hfr : ∀ b ∈ L, b ≠ mm → f49 b = f b := fun b hb h0 => (congrFun e_f49 b).trans (z_up_ne h0 (hfr b hb h0))
              refine lv_iload_n hx hb dX10_next_156 rfl (lv_at hl 0 rfl) ?_
              refine lv_bipush (v := 11) hx hb dX10_next_157 (by decide) ?_
              refine z_icmp_le (tgt := 169) hx hb rfl (show (11 : Int32).toInt = 11 by decide) dX10_next_159 (by decide) (fun c50 => ?_) (fun c50 => ?_)
              · skip
                refine lv_aload_n hx hb dX10_next_169 rfl (lv_at hl 1 rfl) ?_
                refine lv_dup hx hb dX10_next_170 rfl ?_
                refine z_get (C := RX10) (T := TX10) (N := 54) (ci := 10) (v := .int AT27) hx hb hT zin_X10 hown hK hw hm_mm hf_mm rfl 7 (by decide) (hT _ kw_1175) rfl dX10_next_171 ?_
                refine lv_iconst (v := 1) hx hb dX10_next_174 (by decide) ?_
                refine lv_iadd hx hb dX10_next_175 ?_
                refine lv_topi (fun w51 e_w51 => ?_)
                have i_w51 : w51.toInt = (AT27.toInt + 1) := z_add e_w51 rfl (show (1 : Int32).toInt = 1 by decide) (by omega)
                refine z_put (C := RX10) (T := TX10) (N := 54) (ci := 10) (v := .int w51) (fs' := [.int m0, .ref wd, .ref my, .ref ce, .ref mv, .ref ta, .int m6, .int w51, .int 1, .int AT3, .int 0, .long (-1), .int m12, .int m13, .int m14, .int m15, .ref li, .ref ha, .ref lw, .ref st, .ref fo, .ref dr, .int m22, .ref ik, .int m24, .int m25, .long m26, .int m27, .int m28, .ref ro, .int m30, .ref ct, .ref se, .ref th, .ref cn, .ref be, .int m36, .ref du, .int m38, .ref db, .int m40, .int m41, .int m42, .ref pn, .ref wg, .ref wh, .ref tn, .ref he, .int m48, .ref tr, .ref fd, .ref po, .int m52, .int m53]) hx hb hT zin_X10 tyX10_ok nmX10 hown hK hw hm_mm hf_mm rfl 7 (by decide) (hT _ kw_1175) rfl rfl rfl (Nat.le_of_ble_eq_true rfl) rfl dX10_next_176 (fun H locs hw => ?_)
                obtain ⟨f52, e_f52⟩ : ∃ z, z = va_up f49 mm (.inr (10, [.int m0, .ref wd, .ref my, .ref ce, .ref mv, .ref ta, .int m6, .int w51, .int 1, .int AT3, .int 0, .long (-1), .int m12, .int m13, .int m14, .int m15, .ref li, .ref ha, .ref lw, .ref st, .ref fo, .ref dr, .int m22, .ref ik, .int m24, .int m25, .long m26, .int m27, .int m28, .ref ro, .int m30, .ref ct, .ref se, .ref th, .ref cn, .ref be, .int m36, .ref du, .int m38, .ref db, .int m40, .int m41, .int m42, .ref pn, .ref wg, .ref wh, .ref tn, .ref he, .int m48, .ref tr, .ref fd, .ref po, .int m52, .int m53])) := ⟨_, rfl⟩
                rw [← e_f52] at hw
                have hf_ta : f52 ta = .inl (cy 0, 1600, .inl gta) := (congrFun e_f52 ta).trans (z_up_ne (z_tne hf_ta hf_mm (m := 12900) (n := 10) rfl rfl (by decide)) hf_ta)
                have hf_mm : f52 mm = .inr (10, [.int m0, .ref wd, .ref my, .ref ce, .ref mv, .ref ta, .int m6, .int w51, .int 1, .int AT3, .int 0, .long (-1), .int m12, .int m13, .int m14, .int m15, .ref li, .ref ha, .ref lw, .ref st, .ref fo, .ref dr, .int m22, .ref ik, .int m24, .int m25, .long m26, .int m27, .int m28, .ref ro, .int m30, .ref ct, .ref se, .ref th, .ref cn, .ref be, .int m36, .ref du, .int m38, .ref db, .int m40, .int m41, .int m42, .ref pn, .ref wg, .ref wh, .ref tn, .ref he, .int m48, .ref tr, .ref fd, .ref po, .int m52, .int m53]) := (congrFun e_f52 mm).trans z_up_self
                have hfr : ∀ b ∈ L, b ≠ mm → f52 b = f b := fun b hb h0 => (congrFun e_f52 b).trans (z_up_ne h0 (hfr b hb h0))
                obtain ⟨k53, e_k53⟩ : ∃ z : Int32, z = V29 + 1 := ⟨_, rfl⟩
                refine lv_iinc (v := k53) (lv' := [(1, .int k53), (0, .ref mm)]) hx hb dX10_next_179 hl (k := 0) rfl (by rw [e_k53]; rfl) (by decide) rfl (fun ls hl => ?_)
                refine lv_goto (tgt := 102) hx hb dX10_next_182 (by decide) ?_
                exact ih_102 _ (by omega) _ _ _ ⟨w51, (-1), k53, f52, rfl, (by first | decide | omega), (by first | decide | omega), (by omega), hw, hf_mm, hf_ta, hfr, (lv_sub hl [0, 1] rfl)⟩
              · skip
                refine lv_aload_n hx hb dX10_next_162 rfl (lv_at hl 1 rfl) ?_
                refine lv_ldc2 (v := (-1)) hx hb hown (hT _ kw_1389) dX10_next_163 ?_
                refine z_put (C := RX10) (T := TX10) (N := 54) (ci := 10) (v := .long (-1)) (fs' := [.int m0, .ref wd, .ref my, .ref ce, .ref mv, .ref ta, .int m6, .int AT27, .int 1, .int AT3, .int 0, .long (-1), .int m12, .int m13, .int m14, .int m15, .ref li, .ref ha, .ref lw, .ref st, .ref fo, .ref dr, .int m22, .ref ik, .int m24, .int m25, .long m26, .int m27, .int m28, .ref ro, .int m30, .ref ct, .ref se, .ref th, .ref cn, .ref be, .int m36, .ref du, .int m38, .ref db, .int m40, .int m41, .int m42, .ref pn, .ref wg, .ref wh, .ref tn, .ref he, .int m48, .ref tr, .ref fd, .ref po, .int m52, .int m53]) hx hb hT zin_X10 tyX10_ok nmX10 hown hK hw hm_mm hf_mm rfl 11 (by decide) (hT _ kw_1179) rfl rfl rfl (Nat.le_of_ble_eq_true rfl) rfl dX10_next_166 (fun H locs hw => ?_)
                obtain ⟨f54, e_f54⟩ : ∃ z, z = va_up f49 mm (.inr (10, [.int m0, .ref wd, .ref my, .ref ce, .ref mv, .ref ta, .int m6, .int AT27, .int 1, .int AT3, .int 0, .long (-1), .int m12, .int m13, .int m14, .int m15, .ref li, .ref ha, .ref lw, .ref st, .ref fo, .ref dr, .int m22, .ref ik, .int m24, .int m25, .long m26, .int m27, .int m28, .ref ro, .int m30, .ref ct, .ref se, .ref th, .ref cn, .ref be, .int m36, .ref du, .int m38, .ref db, .int m40, .int m41, .int m42, .ref pn, .ref wg, .ref wh, .ref tn, .ref he, .int m48, .ref tr, .ref fd, .ref po, .int m52, .int m53])) := ⟨_, rfl⟩
                rw [← e_f54] at hw
                have hf_ta : f54 ta = .inl (cy 0, 1600, .inl gta) := (congrFun e_f54 ta).trans (z_up_ne (z_tne hf_ta hf_mm (m := 12900) (n := 10) rfl rfl (by decide)) hf_ta)
                have hf_mm : f54 mm = .inr (10, [.int m0, .ref wd, .ref my, .ref ce, .ref mv, .ref ta, .int m6, .int AT27, .int 1, .int AT3, .int 0, .long (-1), .int m12, .int m13, .int m14, .int m15, .ref li, .ref ha, .ref lw, .ref st, .ref fo, .ref dr, .int m22, .ref ik, .int m24, .int m25, .long m26, .int m27, .int m28, .ref ro, .int m30, .ref ct, .ref se, .ref th, .ref cn, .ref be, .int m36, .ref du, .int m38, .ref db, .int m40, .int m41, .int m42, .ref pn, .ref wg, .ref wh, .ref tn, .ref he, .int m48, .ref tr, .ref fd, .ref po, .int m52, .int m53]) := (congrFun e_f54 mm).trans z_up_self
                have hfr : ∀ b ∈ L, b ≠ mm → f54 b = f b := fun b hb h0 => (congrFun e_f54 b).trans (z_up_ne h0 (hfr b hb h0))
                refine lv_aload_n hx hb dX10_next_169 rfl (lv_at hl 1 rfl) ?_
                refine lv_dup hx hb dX10_next_170 rfl ?_
                refine z_get (C := RX10) (T := TX10) (N := 54) (ci := 10) (v := .int AT27) hx hb hT zin_X10 hown hK hw hm_mm hf_mm rfl 7 (by decide) (hT _ kw_1175) rfl dX10_next_171 ?_
                refine lv_iconst (v := 1) hx hb dX10_next_174 (by decide) ?_
                refine lv_iadd hx hb dX10_next_175 ?_
                refine lv_topi (fun w55 e_w55 => ?_)
                have i_w55 : w55.toInt = (AT27.toInt + 1) := z_add e_w55 rfl (show (1 : Int32).toInt = 1 by decide) (by omega)
                refine z_put (C := RX10) (T := TX10) (N := 54) (ci := 10) (v := .int w55) (fs' := [.int m0, .ref wd, .ref my, .ref ce, .ref mv, .ref ta, .int m6, .int w55, .int 1, .int AT3, .int 0, .long (-1), .int m12, .int m13, .int m14, .int m15, .ref li, .ref ha, .ref lw, .ref st, .ref fo, .ref dr, .int m22, .ref ik, .int m24, .int m25, .long m26, .int m27, .int m28, .ref ro, .int m30, .ref ct, .ref se, .ref th, .ref cn, .ref be, .int m36, .ref du, .int m38, .ref db, .int m40, .int m41, .int m42, .ref pn, .ref wg, .ref wh, .ref tn, .ref he, .int m48, .ref tr, .ref fd, .ref po, .int m52, .int m53]) hx hb hT zin_X10 tyX10_ok nmX10 hown hK hw hm_mm hf_mm rfl 7 (by decide) (hT _ kw_1175) rfl rfl rfl (Nat.le_of_ble_eq_true rfl) rfl dX10_next_176 (fun H locs hw => ?_)
                obtain ⟨f56, e_f56⟩ : ∃ z, z = va_up f54 mm (.inr (10, [.int m0, .ref wd, .ref my, .ref ce, .ref mv, .ref ta, .int m6, .int w55, .int 1, .int AT3, .int 0, .long (-1), .int m12, .int m13, .int m14, .int m15, .ref li, .ref ha, .ref lw, .ref st, .ref fo, .ref dr, .int m22, .ref ik, .int m24, .int m25, .long m26, .int m27, .int m28, .ref ro, .int m30, .ref ct, .ref se, .ref th, .ref cn, .ref be, .int m36, .ref du, .int m38, .ref db, .int m40, .int m41, .int m42, .ref pn, .ref wg, .ref wh, .ref tn, .ref he, .int m48, .ref tr, .ref fd, .ref po, .int m52, .int m53])) := ⟨_, rfl⟩
                rw [← e_f56] at hw
                have hf_ta : f56 ta = .inl (cy 0, 1600, .inl gta) := (congrFun e_f56 ta).trans (z_up_ne (z_tne hf_ta hf_mm (m := 12900) (n := 10) rfl rfl (by decide)) hf_ta)
                have hf_mm : f56 mm = .inr (10, [.int m0, .ref wd, .ref my, .ref ce, .ref mv, .ref ta, .int m6, .int w55, .int 1, .int AT3, .int 0, .long (-1), .int m12, .int m13, .int m14, .int m15, .ref li, .ref ha, .ref lw, .ref st, .ref fo, .ref dr, .int m22, .ref ik, .int m24, .int m25, .long m26, .int m27, .int m28, .ref ro, .int m30, .ref ct, .ref se, .ref th, .ref cn, .ref be, .int m36, .ref du, .int m38, .ref db, .int m40, .int m41, .int m42, .ref pn, .ref wg, .ref wh, .ref tn, .ref he, .int m48, .ref tr, .ref fd, .ref po, .int m52, .int m53]) := (congrFun e_f56 mm).trans z_up_self
                have hfr : ∀ b ∈ L, b ≠ mm → f56 b = f b := fun b hb h0 => (congrFun e_f56 b).trans (z_up_ne h0 (hfr b hb h0))
                obtain ⟨k57, e_k57⟩ : ∃ z : Int32, z = V29 + 1 := ⟨_, rfl⟩
                refine lv_iinc (v := k57) (lv' := [(1, .int k57), (0, .ref mm)]) hx hb dX10_next_179 hl (k := 0) rfl (by rw [e_k57]; rfl) (by decide) rfl (fun ls hl => ?_)
                refine lv_goto (tgt := 102) hx hb dX10_next_182 (by decide) ?_
                exact ih_102 _ (by omega) _ _ _ ⟨w55, (-1), k57, f56, rfl, (by first | decide | omega), (by first | decide | omega), (by omega), hw, hf_mm, hf_ta, hfr, (lv_sub hl [0, 1] rfl)⟩
          · skip
            refine z_if_eq (tgt := 185) hx hb (show (0 : Int32).toInt = 0 by decide) dX10_next_114 (by decide) (fun _ => ?_) (fun h => absurd h (by decide))
            refine lv_goto (tgt := 307) hx hb dX10_next_185 (by decide) ?_
            exact z_vret hx hb hr hlk (by decide) (by decide) hw (⟨hsub, hfr, AT27, 1, AT3, 0, WO28, hf_mm, by omega, by omega, by omega⟩) dX10_next_307
        · skip
          refine z_if_eq (tgt := 188) hx hb (show (0 : Int32).toInt = 0 by decide) dX10_next_92 (by decide) (fun _ => ?_) (fun h => absurd h (by decide))
          refine lv_aload_n hx hb dX10_next_188 rfl (lv_at hl 0 rfl) ?_
          refine lv_aload_n hx hb dX10_next_189 rfl (lv_at hl 0 rfl) ?_
          refine z_get (C := RX10) (T := TX10) (N := 54) (ci := 10) (v := .int AT3) hx hb hT zin_X10 hown hK hw hm_mm hf_mm rfl 7 (by decide) (hT _ kw_1175) rfl dX10_next_190 ?_
          refine lv_bipush (v := 48) hx hb dX10_next_193 (by decide) ?_
          refine lv_bipush (v := 57) hx hb dX10_next_195 (by decide) ?_
          have hz58 := (show (48 : Int32).toInt = 48 by decide)
          have hz59 := (show (57 : Int32).toInt = 57 by decide)
          refine z_calliV (cells := 0) (slots := 0) (b := mm) (As := [.int AT3, .int 48, .int 57]) (rest := []) (ci := 10) (q0 := (RX10, TX10, 54)) ⟨hx, hb, hml, hown, hT⟩ (c_X10_isByte l hm_mm hm_ta hf_mm hf_ta (by first | omega | decide | assumption) (by first | omega | decide | assumption)) (cwV 3 hT (z_goodV (fun _ h => h) kw_1385 kw_1387 kw_35 kw_96 kw_1388) rfl rfl rfl (by decide +kernel) ⟨by decide, by decide⟩) z_mv hKK hK hw hA hm_mm hf_mm rfl rfl rfl hl.1 rfl (Nat.le_of_ble_eq_true rfl) dX10_next_197 ⟨by decide, by decide⟩ (fun r60 u H locs hp hw => ?_)
          obtain ⟨rfl, hp⟩ := hp
          have hw : z_H D vwCl (z_A L sz) s.heap L f18 H locs := hw
          rcases hp with ⟨rfl, h61⟩ | ⟨rfl, h61⟩
          · skip
            refine z_if_eq (tgt := 274) hx hb (show (1 : Int32).toInt = 1 by decide) dX10_next_200 (by decide) (fun h => absurd h (by decide)) (fun _ => ?_)
            refine lv_aload_n hx hb dX10_next_203 rfl (lv_at hl 0 rfl) ?_
            refine lv_iconst (v := 2) hx hb dX10_next_204 (by decide) ?_
            refine z_put (C := RX10) (T := TX10) (N := 54) (ci := 10) (v := .int 2) (fs' := [.int m0, .ref wd, .ref my, .ref ce, .ref mv, .ref ta, .int m6, .int AT3, .int 2, .int AT3, .int 0, .long 0, .int m12, .int m13, .int m14, .int m15, .ref li, .ref ha, .ref lw, .ref st, .ref fo, .ref dr, .int m22, .ref ik, .int m24, .int m25, .long m26, .int m27, .int m28, .ref ro, .int m30, .ref ct, .ref se, .ref th, .ref cn, .ref be, .int m36, .ref du, .int m38, .ref db, .int m40, .int m41, .int m42, .ref pn, .ref wg, .ref wh, .ref tn, .ref he, .int m48, .ref tr, .ref fd, .ref po, .int m52, .int m53]) hx hb hT zin_X10 tyX10_ok nmX10 hown hK hw hm_mm hf_mm rfl 8 (by decide) (hT _ kw_1176) rfl rfl rfl (Nat.le_of_ble_eq_true rfl) rfl dX10_next_205 (fun H locs hw => ?_)
            obtain ⟨f62, e_f62⟩ : ∃ z, z = va_up f18 mm (.inr (10, [.int m0, .ref wd, .ref my, .ref ce, .ref mv, .ref ta, .int m6, .int AT3, .int 2, .int AT3, .int 0, .long 0, .int m12, .int m13, .int m14, .int m15, .ref li, .ref ha, .ref lw, .ref st, .ref fo, .ref dr, .int m22, .ref ik, .int m24, .int m25, .long m26, .int m27, .int m28, .ref ro, .int m30, .ref ct, .ref se, .ref th, .ref cn, .ref be, .int m36, .ref du, .int m38, .ref db, .int m40, .int m41, .int m42, .ref pn, .ref wg, .ref wh, .ref tn, .ref he, .int m48, .ref tr, .ref fd, .ref po, .int m52, .int m53])) := ⟨_, rfl⟩
            rw [← e_f62] at hw
            have hf_ta : f62 ta = .inl (cy 0, 1600, .inl gta) := (congrFun e_f62 ta).trans (z_up_ne (z_tne hf_ta hf_mm (m := 12900) (n := 10) rfl rfl (by decide)) hf_ta)
            have hf_mm : f62 mm = .inr (10, [.int m0, .ref wd, .ref my, .ref ce, .ref mv, .ref ta, .int m6, .int AT3, .int 2, .int AT3, .int 0, .long 0, .int m12, .int m13, .int m14, .int m15, .ref li, .ref ha, .ref lw, .ref st, .ref fo, .ref dr, .int m22, .ref ik, .int m24, .int m25, .long m26, .int m27, .int m28, .ref ro, .int m30, .ref ct, .ref se, .ref th, .ref cn, .ref be, .int m36, .ref du, .int m38, .ref db, .int m40, .int m41, .int m42, .ref pn, .ref wg, .ref wh, .ref tn, .ref he, .int m48, .ref tr, .ref fd, .ref po, .int m52, .int m53]) := (congrFun e_f62 mm).trans z_up_self
            have hfr : ∀ b ∈ L, b ≠ mm → f62 b = f b := fun b hb h0 => (congrFun e_f62 b).trans (z_up_ne h0 (hfr b hb h0))
            refine z_loop (fun n H locs ls => ∃  (AT65 : Int32) (VA66 : Int32) (f64 : Nat → va_E), (n = (m6.toInt - AT65.toInt).toNat) ∧ (0 ≤ AT65.toInt) ∧ (AT65.toInt ≤ m6.toInt) ∧ (0 ≤ AT65.toInt ∧ AT65.toInt ≤ m6.toInt ∧ m7.toInt ≤ AT65.toInt) ∧ (z_H D vwCl (z_A L sz) s.heap L f64 H locs) ∧ (f64 mm = .inr (10, [.int m0, .ref wd, .ref my, .ref ce, .ref mv, .ref ta, .int m6, .int AT65, .int 2, .int AT3, .int VA66, .long 0, .int m12, .int m13, .int m14, .int m15, .ref li, .ref ha, .ref lw, .ref st, .ref fo, .ref dr, .int m22, .ref ik, .int m24, .int m25, .long m26, .int m27, .int m28, .ref ro, .int m30, .ref ct, .ref se, .ref th, .ref cn, .ref be, .int m36, .ref du, .int m38, .ref db, .int m40, .int m41, .int m42, .ref pn, .ref wg, .ref wh, .ref tn, .ref he, .int m48, .ref tr, .ref fd, .ref po, .int m52, .int m53])) ∧ (f64 ta = .inl (cy 0, 1600, .inl gta)) ∧ (∀ b ∈ L, b ≠ mm → f64 b = f b) ∧ (lv_has ls 2 [(0, .ref mm)])) _ ⟨AT3, 0, f62, rfl, (by first | decide | omega), (by first | decide | omega), (by omega), hw, hf_mm, hf_ta, hfr, (lv_sub hl [0] rfl)⟩ (fun n H locs ls hI ih_208 => ?_)
            obtain ⟨AT65, VA66, f64, hn, hk0, hk1, hi0, hw, hf_mm, hf_ta, hfr, hl⟩ := hI
            refine lv_aload_n hx hb dX10_next_208 rfl (lv_at hl 0 rfl) ?_
            refine lv_aload_n hx hb dX10_next_209 rfl (lv_at hl 0 rfl) ?_
            refine z_get (C := RX10) (T := TX10) (N := 54) (ci := 10) (v := .int AT65) hx hb hT zin_X10 hown hK hw hm_mm hf_mm rfl 7 (by decide) (hT _ kw_1175) rfl dX10_next_210 ?_
            refine lv_bipush (v := 48) hx hb dX10_next_213 (by decide) ?_
            refine lv_bipush (v := 57) hx hb dX10_next_215 (by decide) ?_
            have hz67 := (show (48 : Int32).toInt = 48 by decide)
            have hz68 := (show (57 : Int32).toInt = 57 by decide)
            refine z_calliV (cells := 0) (slots := 0) (b := mm) (As := [.int AT65, .int 48, .int 57]) (rest := []) (ci := 10) (q0 := (RX10, TX10, 54)) ⟨hx, hb, hml, hown, hT⟩ (c_X10_isByte l hm_mm hm_ta hf_mm hf_ta (by first | omega | decide | assumption) (by first | omega | decide | assumption)) (cwV 3 hT (z_goodV (fun _ h => h) kw_1385 kw_1387 kw_35 kw_96 kw_1388) rfl rfl rfl (by decide +kernel) ⟨by decide, by decide⟩) z_mv hKK hK hw hA hm_mm hf_mm rfl rfl rfl hl.1 rfl (Nat.le_of_ble_eq_true rfl) dX10_next_217 ⟨by decide, by decide⟩ (fun r69 u H locs hp hw => ?_)
            obtain ⟨rfl, hp⟩ := hp
            have hw : z_H D vwCl (z_A L sz) s.heap L f64 H locs := hw
            rcases hp with ⟨rfl, h70⟩ | ⟨rfl, h70⟩
            · skip
              refine z_if_eq (tgt := 307) hx hb (show (1 : Int32).toInt = 1 by decide) dX10_next_220 (by decide) (fun h => absurd h (by decide)) (fun _ => ?_)
              refine lv_aload_n hx hb dX10_next_223 rfl (lv_at hl 0 rfl) ?_
              refine lv_aload_n hx hb dX10_next_224 rfl (lv_at hl 0 rfl) ?_
              refine z_get (C := RX10) (T := TX10) (N := 54) (ci := 10) (v := .int VA66) hx hb hT zin_X10 hown hK hw hm_mm hf_mm rfl 10 (by decide) (hT _ kw_1178) rfl dX10_next_225 ?_
              refine lv_ldc (v := 100000) hx hb hown (hT _ kw_1392) dX10_next_228 ?_
              refine z_icmp_le (tgt := 238) hx hb rfl (show (100000 : Int32).toInt = 100000 by decide) dX10_next_230 (by decide) (fun c71 => ?_) (fun c71 => ?_)
              · skip
                refine lv_bipush (v := 10) hx hb dX10_next_238 (by decide) ?_
                refine lv_aload_n hx hb dX10_next_240 rfl (lv_at hl 0 rfl) ?_
                refine z_get (C := RX10) (T := TX10) (N := 54) (ci := 10) (v := .int VA66) hx hb hT zin_X10 hown hK hw hm_mm hf_mm rfl 10 (by decide) (hT _ kw_1178) rfl dX10_next_241 ?_
                refine lv_imul hx hb dX10_next_244 ?_
                refine lv_topi (fun w72 e_w72 => ?_)
                refine lv_aload_n hx hb dX10_next_245 rfl (lv_at hl 0 rfl) ?_
                refine z_get (C := RX10) (T := TX10) (N := 54) (ci := 10) (v := .ref ta) hx hb hT zin_X10 hown hK hw hm_mm hf_mm rfl 5 (by decide) (hT _ kw_1173) rfl dX10_next_246 ?_
                refine lv_aload_n hx hb dX10_next_249 rfl (lv_at hl 0 rfl) ?_
                refine z_get (C := RX10) (T := TX10) (N := 54) (ci := 10) (v := .int AT65) hx hb hT zin_X10 hown hK hw hm_mm hf_mm rfl 7 (by decide) (hT _ kw_1175) rfl dX10_next_250 ?_
                refine z_bald hx hb hK hw 0 hm_ta hf_ta rfl (z_ix rfl (by omega)) dX10_next_253 ?_
                refine lv_topi (fun w73 e_w73 => ?_)
                refine lv_iadd hx hb dX10_next_254 ?_
                refine lv_topi (fun w74 e_w74 => ?_)
                refine lv_bipush (v := 48) hx hb dX10_next_255 (by decide) ?_
                refine lv_isub hx hb dX10_next_257 ?_
                refine lv_topi (fun w75 e_w75 => ?_)
                refine z_put (C := RX10) (T := TX10) (N := 54) (ci := 10) (v := .int w75) (fs' := [.int m0, .ref wd, .ref my, .ref ce, .ref mv, .ref ta, .int m6, .int AT65, .int 2, .int AT3, .int w75, .long 0, .int m12, .int m13, .int m14, .int m15, .ref li, .ref ha, .ref lw, .ref st, .ref fo, .ref dr, .int m22, .ref ik, .int m24, .int m25, .long m26, .int m27, .int m28, .ref ro, .int m30, .ref ct, .ref se, .ref th, .ref cn, .ref be, .int m36, .ref du, .int m38, .ref db, .int m40, .int m41, .int m42, .ref pn, .ref wg, .ref wh, .ref tn, .ref he, .int m48, .ref tr, .ref fd, .ref po, .int m52, .int m53]) hx hb hT zin_X10 tyX10_ok nmX10 hown hK hw hm_mm hf_mm rfl 10 (by decide) (hT _ kw_1178) rfl rfl rfl (Nat.le_of_ble_eq_true rfl) rfl dX10_next_258 (fun H locs hw => ?_)
                obtain ⟨f76, e_f76⟩ : ∃ z, z = va_up f64 mm (.inr (10, [.int m0, .ref wd, .ref my, .ref ce, .ref mv, .ref ta, .int m6, .int AT65, .int 2, .int AT3, .int w75, .long 0, .int m12, .int m13, .int m14, .int m15, .ref li, .ref ha, .ref lw, .ref st, .ref fo, .ref dr, .int m22, .ref ik, .int m24, .int m25, .long m26, .int m27, .int m28, .ref ro, .int m30, .ref ct, .ref se, .ref th, .ref cn, .ref be, .int m36, .ref du, .int m38, .ref db, .int m40, .int m41, .int m42, .ref pn, .ref wg, .ref wh, .ref tn, .ref he, .int m48, .ref tr, .ref fd, .ref po, .int m52, .int m53])) := ⟨_, rfl⟩
                rw [← e_f76] at hw
                have hf_ta : f76 ta = .inl (cy 0, 1600, .inl gta) := (congrFun e_f76 ta).trans (z_up_ne (z_tne hf_ta hf_mm (m := 12900) (n := 10) rfl rfl (by decide)) hf_ta)
                have hf_mm : f76 mm = .inr (10, [.int m0, .ref wd, .ref my, .ref ce, .ref mv, .ref ta, .int m6, .int AT65, .int 2, .int AT3, .int w75, .long 0, .int m12, .int m13, .int m14, .int m15, .ref li, .ref ha, .ref lw, .ref st, .ref fo, .ref dr, .int m22, .ref ik, .int m24, .int m25, .long m26, .int m27, .int m28, .ref ro, .int m30, .ref ct, .ref se, .ref th, .ref cn, .ref be, .int m36, .ref du, .int m38, .ref db, .int m40, .int m41, .int m42, .ref pn, .ref wg, .ref wh, .ref tn, .ref he, .int m48, .ref tr, .ref fd, .ref po, .int m52, .int m53]) := (congrFun e_f76 mm).trans z_up_self
                have hfr : ∀ b ∈ L, b ≠ mm → f76 b = f b := fun b hb h0 => (congrFun e_f76 b).trans (z_up_ne h0 (hfr b hb h0))
                refine lv_aload_n hx hb dX10_next_261 rfl (lv_at hl 0 rfl) ?_
                refine lv_dup hx hb dX10_next_262 rfl ?_
                refine z_get (C := RX10) (T := TX10) (N := 54) (ci := 10) (v := .int AT65) hx hb hT zin_X10 hown hK hw hm_mm hf_mm rfl 7 (by decide) (hT _ kw_1175) rfl dX10_next_263 ?_
                refine lv_iconst (v := 1) hx hb dX10_next_266 (by decide) ?_
                refine lv_iadd hx hb dX10_next_267 ?_
                refine lv_topi (fun w77 e_w77 => ?_)
                have i_w77 : w77.toInt = (AT65.toInt + 1) := z_add e_w77 rfl (show (1 : Int32).toInt = 1 by decide) (by omega)
                refine z_put (C := RX10) (T := TX10) (N := 54) (ci := 10) (v := .int w77) (fs' := [.int m0, .ref wd, .ref my, .ref ce, .ref mv, .ref ta, .int m6, .int w77, .int 2, .int AT3, .int w75, .long 0, .int m12, .int m13, .int m14, .int m15, .ref li, .ref ha, .ref lw, .ref st, .ref fo, .ref dr, .int m22, .ref ik, .int m24, .int m25, .long m26, .int m27, .int m28, .ref ro, .int m30, .ref ct, .ref se, .ref th, .ref cn, .ref be, .int m36, .ref du, .int m38, .ref db, .int m40, .int m41, .int m42, .ref pn, .ref wg, .ref wh, .ref tn, .ref he, .int m48, .ref tr, .ref fd, .ref po, .int m52, .int m53]) hx hb hT zin_X10 tyX10_ok nmX10 hown hK hw hm_mm hf_mm rfl 7 (by decide) (hT _ kw_1175) rfl rfl rfl (Nat.le_of_ble_eq_true rfl) rfl dX10_next_268 (fun H locs hw => ?_)
                obtain ⟨f78, e_f78⟩ : ∃ z, z = va_up f76 mm (.inr (10, [.int m0, .ref wd, .ref my, .ref ce, .ref mv, .ref ta, .int m6, .int w77, .int 2, .int AT3, .int w75, .long 0, .int m12, .int m13, .int m14, .int m15, .ref li, .ref ha, .ref lw, .ref st, .ref fo, .ref dr, .int m22, .ref ik, .int m24, .int m25, .long m26, .int m27, .int m28, .ref ro, .int m30, .ref ct, .ref se, .ref th, .ref cn, .ref be, .int m36, .ref du, .int m38, .ref db, .int m40, .int m41, .int m42, .ref pn, .ref wg, .ref wh, .ref tn, .ref he, .int m48, .ref tr, .ref fd, .ref po, .int m52, .int m53])) := ⟨_, rfl⟩
                rw [← e_f78] at hw
                have hf_ta : f78 ta = .inl (cy 0, 1600, .inl gta) := (congrFun e_f78 ta).trans (z_up_ne (z_tne hf_ta hf_mm (m := 12900) (n := 10) rfl rfl (by decide)) hf_ta)
                have hf_mm : f78 mm = .inr (10, [.int m0, .ref wd, .ref my, .ref ce, .ref mv, .ref ta, .int m6, .int w77, .int 2, .int AT3, .int w75, .long 0, .int m12, .int m13, .int m14, .int m15, .ref li, .ref ha, .ref lw, .ref st, .ref fo, .ref dr, .int m22, .ref ik, .int m24, .int m25, .long m26, .int m27, .int m28, .ref ro, .int m30, .ref ct, .ref se, .ref th, .ref cn, .ref be, .int m36, .ref du, .int m38, .ref db, .int m40, .int m41, .int m42, .ref pn, .ref wg, .ref wh, .ref tn, .ref he, .int m48, .ref tr, .ref fd, .ref po, .int m52, .int m53]) := (congrFun e_f78 mm).trans z_up_self
                have hfr : ∀ b ∈ L, b ≠ mm → f78 b = f b := fun b hb h0 => (congrFun e_f78 b).trans (z_up_ne h0 (hfr b hb h0))
                refine lv_goto (tgt := 208) hx hb dX10_next_271 (by decide) ?_
                exact ih_208 _ (by omega) _ _ _ ⟨w77, w75, f78, rfl, (by first | decide | omega), (by first | decide | omega), (by omega), hw, hf_mm, hf_ta, hfr, (lv_sub hl [0] rfl)⟩
              · skip
                refine lv_ldc (v := 1000000) hx hb hown (hT _ kw_1393) dX10_next_233 ?_
                refine lv_goto (tgt := 258) hx hb dX10_next_235 (by decide) ?_
                refine z_put (C := RX10) (T := TX10) (N := 54) (ci := 10) (v := .int 1000000) (fs' := [.int m0, .ref wd, .ref my, .ref ce, .ref mv, .ref ta, .int m6, .int AT65, .int 2, .int AT3, .int 1000000, .long 0, .int m12, .int m13, .int m14, .int m15, .ref li, .ref ha, .ref lw, .ref st, .ref fo, .ref dr, .int m22, .ref ik, .int m24, .int m25, .long m26, .int m27, .int m28, .ref ro, .int m30, .ref ct, .ref se, .ref th, .ref cn, .ref be, .int m36, .ref du, .int m38, .ref db, .int m40, .int m41, .int m42, .ref pn, .ref wg, .ref wh, .ref tn, .ref he, .int m48, .ref tr, .ref fd, .ref po, .int m52, .int m53]) hx hb hT zin_X10 tyX10_ok nmX10 hown hK hw hm_mm hf_mm rfl 10 (by decide) (hT _ kw_1178) rfl rfl rfl (Nat.le_of_ble_eq_true rfl) rfl dX10_next_258 (fun H locs hw => ?_)
                obtain ⟨f79, e_f79⟩ : ∃ z, z = va_up f64 mm (.inr (10, [.int m0, .ref wd, .ref my, .ref ce, .ref mv, .ref ta, .int m6, .int AT65, .int 2, .int AT3, .int 1000000, .long 0, .int m12, .int m13, .int m14, .int m15, .ref li, .ref ha, .ref lw, .ref st, .ref fo, .ref dr, .int m22, .ref ik, .int m24, .int m25, .long m26, .int m27, .int m28, .ref ro, .int m30, .ref ct, .ref se, .ref th, .ref cn, .ref be, .int m36, .ref du, .int m38, .ref db, .int m40, .int m41, .int m42, .ref pn, .ref wg, .ref wh, .ref tn, .ref he, .int m48, .ref tr, .ref fd, .ref po, .int m52, .int m53])) := ⟨_, rfl⟩
                rw [← e_f79] at hw
                have hf_ta : f79 ta = .inl (cy 0, 1600, .inl gta) := (congrFun e_f79 ta).trans (z_up_ne (z_tne hf_ta hf_mm (m := 12900) (n := 10) rfl rfl (by decide)) hf_ta)
                have hf_mm : f79 mm = .inr (10, [.int m0, .ref wd, .ref my, .ref ce, .ref mv, .ref ta, .int m6, .int AT65, .int 2, .int AT3, .int 1000000, .long 0, .int m12, .int m13, .int m14, .int m15, .ref li, .ref ha, .ref lw, .ref st, .ref fo, .ref dr, .int m22, .ref ik, .int m24, .int m25, .long m26, .int m27, .int m28, .ref ro, .int m30, .ref ct, .ref se, .ref th, .ref cn, .ref be, .int m36, .ref du, .int m38, .ref db, .int m40, .int m41, .int m42, .ref pn, .ref wg, .ref wh, .ref tn, .ref he, .int m48, .ref tr, .ref fd, .ref po, .int m52, .int m53]) := (congrFun e_f79 mm).trans z_up_self
                have hfr : ∀ b ∈ L, b ≠ mm → f79 b = f b := fun b hb h0 => (congrFun e_f79 b).trans (z_up_ne h0 (hfr b hb h0))
                refine lv_aload_n hx hb dX10_next_261 rfl (lv_at hl 0 rfl) ?_
                refine lv_dup hx hb dX10_next_262 rfl ?_
                refine z_get (C := RX10) (T := TX10) (N := 54) (ci := 10) (v := .int AT65) hx hb hT zin_X10 hown hK hw hm_mm hf_mm rfl 7 (by decide) (hT _ kw_1175) rfl dX10_next_263 ?_
                refine lv_iconst (v := 1) hx hb dX10_next_266 (by decide) ?_
                refine lv_iadd hx hb dX10_next_267 ?_
                refine lv_topi (fun w80 e_w80 => ?_)
                have i_w80 : w80.toInt = (AT65.toInt + 1) := z_add e_w80 rfl (show (1 : Int32).toInt = 1 by decide) (by omega)
                refine z_put (C := RX10) (T := TX10) (N := 54) (ci := 10) (v := .int w80) (fs' := [.int m0, .ref wd, .ref my, .ref ce, .ref mv, .ref ta, .int m6, .int w80, .int 2, .int AT3, .int 1000000, .long 0, .int m12, .int m13, .int m14, .int m15, .ref li, .ref ha, .ref lw, .ref st, .ref fo, .ref dr, .int m22, .ref ik, .int m24, .int m25, .long m26, .int m27, .int m28, .ref ro, .int m30, .ref ct, .ref se, .ref th, .ref cn, .ref be, .int m36, .ref du, .int m38, .ref db, .int m40, .int m41, .int m42, .ref pn, .ref wg, .ref wh, .ref tn, .ref he, .int m48, .ref tr, .ref fd, .ref po, .int m52, .int m53]) hx hb hT zin_X10 tyX10_ok nmX10 hown hK hw hm_mm hf_mm rfl 7 (by decide) (hT _ kw_1175) rfl rfl rfl (Nat.le_of_ble_eq_true rfl) rfl dX10_next_268 (fun H locs hw => ?_)
                obtain ⟨f81, e_f81⟩ : ∃ z, z = va_up f79 mm (.inr (10, [.int m0, .ref wd, .ref my, .ref ce, .ref mv, .ref ta, .int m6, .int w80, .int 2, .int AT3, .int 1000000, .long 0, .int m12, .int m13, .int m14, .int m15, .ref li, .ref ha, .ref lw, .ref st, .ref fo, .ref dr, .int m22, .ref ik, .int m24, .int m25, .long m26, .int m27, .int m28, .ref ro, .int m30, .ref ct, .ref se, .ref th, .ref cn, .ref be, .int m36, .ref du, .int m38, .ref db, .int m40, .int m41, .int m42, .ref pn, .ref wg, .ref wh, .ref tn, .ref he, .int m48, .ref tr, .ref fd, .ref po, .int m52, .int m53])) := ⟨_, rfl⟩
                rw [← e_f81] at hw
                have hf_ta : f81 ta = .inl (cy 0, 1600, .inl gta) := (congrFun e_f81 ta).trans (z_up_ne (z_tne hf_ta hf_mm (m := 12900) (n := 10) rfl rfl (by decide)) hf_ta)
                have hf_mm : f81 mm = .inr (10, [.int m0, .ref wd, .ref my, .ref ce, .ref mv, .ref ta, .int m6, .int w80, .int 2, .int AT3, .int 1000000, .long 0, .int m12, .int m13, .int m14, .int m15, .ref li, .ref ha, .ref lw, .ref st, .ref fo, .ref dr, .int m22, .ref ik, .int m24, .int m25, .long m26, .int m27, .int m28, .ref ro, .int m30, .ref ct, .ref se, .ref th, .ref cn, .ref be, .int m36, .ref du, .int m38, .ref db, .int m40, .int m41, .int m42, .ref pn, .ref wg, .ref wh, .ref tn, .ref he, .int m48, .ref tr, .ref fd, .ref po, .int m52, .int m53]) := (congrFun e_f81 mm).trans z_up_self
                have hfr : ∀ b ∈ L, b ≠ mm → f81 b = f b := fun b hb h0 => (congrFun e_f81 b).trans (z_up_ne h0 (hfr b hb h0))
                refine lv_goto (tgt := 208) hx hb dX10_next_271 (by decide) ?_
                exact ih_208 _ (by omega) _ _ _ ⟨w80, 1000000, f81, rfl, (by first | decide | omega), (by first | decide | omega), (by omega), hw, hf_mm, hf_ta, hfr, (lv_sub hl [0] rfl)⟩
            · skip
              refine z_if_eq (tgt := 307) hx hb (show (0 : Int32).toInt = 0 by decide) dX10_next_220 (by decide) (fun _ => ?_) (fun h => absurd h (by decide))
              exact z_vret hx hb hr hlk (by decide) (by decide) hw (⟨hsub, hfr, AT65, 2, AT3, VA66, 0, hf_mm, by omega, by omega, by omega⟩) dX10_next_307
          · skip
            refine z_if_eq (tgt := 274) hx hb (show (0 : Int32).toInt = 0 by decide) dX10_next_200 (by decide) (fun _ => ?_) (fun h => absurd h (by decide))
            refine lv_aload_n hx hb dX10_next_274 rfl (lv_at hl 0 rfl) ?_
            refine lv_aload_n hx hb dX10_next_275 rfl (lv_at hl 0 rfl) ?_
            refine z_get (C := RX10) (T := TX10) (N := 54) (ci := 10) (v := .ref ta) hx hb hT zin_X10 hown hK hw hm_mm hf_mm rfl 5 (by decide) (hT _ kw_1173) rfl dX10_next_276 ?_
            refine lv_aload_n hx hb dX10_next_279 rfl (lv_at hl 0 rfl) ?_
            refine z_get (C := RX10) (T := TX10) (N := 54) (ci := 10) (v := .int AT3) hx hb hT zin_X10 hown hK hw hm_mm hf_mm rfl 7 (by decide) (hT _ kw_1175) rfl dX10_next_280 ?_
            refine z_bald hx hb hK hw 0 hm_ta hf_ta rfl (z_ix rfl (by omega)) dX10_next_283 ?_
            refine lv_topi (fun w82 e_w82 => ?_)
            refine lv_bipush (v := 59) hx hb dX10_next_284 (by decide) ?_
            refine z_icmp_ne (tgt := 293) hx hb rfl (show (59 : Int32).toInt = 59 by decide) dX10_next_286 (by decide) (fun c83 => ?_) (fun c83 => ?_)
            · skip
              refine lv_iconst (v := 4) hx hb dX10_next_293 (by decide) ?_
              refine z_put (C := RX10) (T := TX10) (N := 54) (ci := 10) (v := .int 4) (fs' := [.int m0, .ref wd, .ref my, .ref ce, .ref mv, .ref ta, .int m6, .int AT3, .int 4, .int AT3, .int 0, .long 0, .int m12, .int m13, .int m14, .int m15, .ref li, .ref ha, .ref lw, .ref st, .ref fo, .ref dr, .int m22, .ref ik, .int m24, .int m25, .long m26, .int m27, .int m28, .ref ro, .int m30, .ref ct, .ref se, .ref th, .ref cn, .ref be, .int m36, .ref du, .int m38, .ref db, .int m40, .int m41, .int m42, .ref pn, .ref wg, .ref wh, .ref tn, .ref he, .int m48, .ref tr, .ref fd, .ref po, .int m52, .int m53]) hx hb hT zin_X10 tyX10_ok nmX10 hown hK hw hm_mm hf_mm rfl 8 (by decide) (hT _ kw_1176) rfl rfl rfl (Nat.le_of_ble_eq_true rfl) rfl dX10_next_294 (fun H locs hw => ?_)
              obtain ⟨f84, e_f84⟩ : ∃ z, z = va_up f18 mm (.inr (10, [.int m0, .ref wd, .ref my, .ref ce, .ref mv, .ref ta, .int m6, .int AT3, .int 4, .int AT3, .int 0, .long 0, .int m12, .int m13, .int m14, .int m15, .ref li, .ref ha, .ref lw, .ref st, .ref fo, .ref dr, .int m22, .ref ik, .int m24, .int m25, .long m26, .int m27, .int m28, .ref ro, .int m30, .ref ct, .ref se, .ref th, .ref cn, .ref be, .int m36, .ref du, .int m38, .ref db, .int m40, .int m41, .int m42, .ref pn, .ref wg, .ref wh, .ref tn, .ref he, .int m48, .ref tr, .ref fd, .ref po, .int m52, .int m53])) := ⟨_, rfl⟩
              rw [← e_f84] at hw
              have hf_ta : f84 ta = .inl (cy 0, 1600, .inl gta) := (congrFun e_f84 ta).trans (z_up_ne (z_tne hf_ta hf_mm (m := 12900) (n := 10) rfl rfl (by decide)) hf_ta)
              have hf_mm : f84 mm = .inr (10, [.int m0, .ref wd, .ref my, .ref ce, .ref mv, .ref ta, .int m6, .int AT3, .int 4, .int AT3, .int 0, .long 0, .int m12, .int m13, .int m14, .int m15, .ref li, .ref ha, .ref lw, .ref st, .ref fo, .ref dr, .int m22, .ref ik, .int m24, .int m25, .long m26, .int m27, .int m28, .ref ro, .int m30, .ref ct, .ref se, .ref th, .ref cn, .ref be, .int m36, .ref du, .int m38, .ref db, .int m40, .int m41, .int m42, .ref pn, .ref wg, .ref wh, .ref tn, .ref he, .int m48, .ref tr, .ref fd, .ref po, .int m52, .int m53]) := (congrFun e_f84 mm).trans z_up_self
              have hfr : ∀ b ∈ L, b ≠ mm → f84 b = f b := fun b hb h0 => (congrFun e_f84 b).trans (z_up_ne h0 (hfr b hb h0))
              refine lv_aload_n hx hb dX10_next_297 rfl (lv_at hl 0 rfl) ?_
              refine lv_dup hx hb dX10_next_298 rfl ?_
              refine z_get (C := RX10) (T := TX10) (N := 54) (ci := 10) (v := .int AT3) hx hb hT zin_X10 hown hK hw hm_mm hf_mm rfl 7 (by decide) (hT _ kw_1175) rfl dX10_next_299 ?_
              refine lv_iconst (v := 1) hx hb dX10_next_302 (by decide) ?_
              refine lv_iadd hx hb dX10_next_303 ?_
              refine lv_topi (fun w85 e_w85 => ?_)
              have i_w85 : w85.toInt = (AT3.toInt + 1) := z_add e_w85 rfl (show (1 : Int32).toInt = 1 by decide) (by omega)
              refine z_put (C := RX10) (T := TX10) (N := 54) (ci := 10) (v := .int w85) (fs' := [.int m0, .ref wd, .ref my, .ref ce, .ref mv, .ref ta, .int m6, .int w85, .int 4, .int AT3, .int 0, .long 0, .int m12, .int m13, .int m14, .int m15, .ref li, .ref ha, .ref lw, .ref st, .ref fo, .ref dr, .int m22, .ref ik, .int m24, .int m25, .long m26, .int m27, .int m28, .ref ro, .int m30, .ref ct, .ref se, .ref th, .ref cn, .ref be, .int m36, .ref du, .int m38, .ref db, .int m40, .int m41, .int m42, .ref pn, .ref wg, .ref wh, .ref tn, .ref he, .int m48, .ref tr, .ref fd, .ref po, .int m52, .int m53]) hx hb hT zin_X10 tyX10_ok nmX10 hown hK hw hm_mm hf_mm rfl 7 (by decide) (hT _ kw_1175) rfl rfl rfl (Nat.le_of_ble_eq_true rfl) rfl dX10_next_304 (fun H locs hw => ?_)
              obtain ⟨f86, e_f86⟩ : ∃ z, z = va_up f84 mm (.inr (10, [.int m0, .ref wd, .ref my, .ref ce, .ref mv, .ref ta, .int m6, .int w85, .int 4, .int AT3, .int 0, .long 0, .int m12, .int m13, .int m14, .int m15, .ref li, .ref ha, .ref lw, .ref st, .ref fo, .ref dr, .int m22, .ref ik, .int m24, .int m25, .long m26, .int m27, .int m28, .ref ro, .int m30, .ref ct, .ref se, .ref th, .ref cn, .ref be, .int m36, .ref du, .int m38, .ref db, .int m40, .int m41, .int m42, .ref pn, .ref wg, .ref wh, .ref tn, .ref he, .int m48, .ref tr, .ref fd, .ref po, .int m52, .int m53])) := ⟨_, rfl⟩
              rw [← e_f86] at hw
              have hf_ta : f86 ta = .inl (cy 0, 1600, .inl gta) := (congrFun e_f86 ta).trans (z_up_ne (z_tne hf_ta hf_mm (m := 12900) (n := 10) rfl rfl (by decide)) hf_ta)
              have hf_mm : f86 mm = .inr (10, [.int m0, .ref wd, .ref my, .ref ce, .ref mv, .ref ta, .int m6, .int w85, .int 4, .int AT3, .int 0, .long 0, .int m12, .int m13, .int m14, .int m15, .ref li, .ref ha, .ref lw, .ref st, .ref fo, .ref dr, .int m22, .ref ik, .int m24, .int m25, .long m26, .int m27, .int m28, .ref ro, .int m30, .ref ct, .ref se, .ref th, .ref cn, .ref be, .int m36, .ref du, .int m38, .ref db, .int m40, .int m41, .int m42, .ref pn, .ref wg, .ref wh, .ref tn, .ref he, .int m48, .ref tr, .ref fd, .ref po, .int m52, .int m53]) := (congrFun e_f86 mm).trans z_up_self
              have hfr : ∀ b ∈ L, b ≠ mm → f86 b = f b := fun b hb h0 => (congrFun e_f86 b).trans (z_up_ne h0 (hfr b hb h0))
              exact z_vret hx hb hr hlk (by decide) (by decide) hw (⟨hsub, hfr, w85, 4, AT3, 0, 0, hf_mm, by omega, by omega, by omega⟩) dX10_next_307
            · skip
              refine lv_iconst (v := 3) hx hb dX10_next_289 (by decide) ?_
              refine lv_goto (tgt := 294) hx hb dX10_next_290 (by decide) ?_
              refine z_put (C := RX10) (T := TX10) (N := 54) (ci := 10) (v := .int 3) (fs' := [.int m0, .ref wd, .ref my, .ref ce, .ref mv, .ref ta, .int m6, .int AT3, .int 3, .int AT3, .int 0, .long 0, .int m12, .int m13, .int m14, .int m15, .ref li, .ref ha, .ref lw, .ref st, .ref fo, .ref dr, .int m22, .ref ik, .int m24, .int m25, .long m26, .int m27, .int m28, .ref ro, .int m30, .ref ct, .ref se, .ref th, .ref cn, .ref be, .int m36, .ref du, .int m38, .ref db, .int m40, .int m41, .int m42, .ref pn, .ref wg, .ref wh, .ref tn, .ref he, .int m48, .ref tr, .ref fd, .ref po, .int m52, .int m53]) hx hb hT zin_X10 tyX10_ok nmX10 hown hK hw hm_mm hf_mm rfl 8 (by decide) (hT _ kw_1176) rfl rfl rfl (Nat.le_of_ble_eq_true rfl) rfl dX10_next_294 (fun H locs hw => ?_)
              obtain ⟨f87, e_f87⟩ : ∃ z, z = va_up f18 mm (.inr (10, [.int m0, .ref wd, .ref my, .ref ce, .ref mv, .ref ta, .int m6, .int AT3, .int 3, .int AT3, .int 0, .long 0, .int m12, .int m13, .int m14, .int m15, .ref li, .ref ha, .ref lw, .ref st, .ref fo, .ref dr, .int m22, .ref ik, .int m24, .int m25, .long m26, .int m27, .int m28, .ref ro, .int m30, .ref ct, .ref se, .ref th, .ref cn, .ref be, .int m36, .ref du, .int m38, .ref db, .int m40, .int m41, .int m42, .ref pn, .ref wg, .ref wh, .ref tn, .ref he, .int m48, .ref tr, .ref fd, .ref po, .int m52, .int m53])) := ⟨_, rfl⟩
              rw [← e_f87] at hw
              have hf_ta : f87 ta = .inl (cy 0, 1600, .inl gta) := (congrFun e_f87 ta).trans (z_up_ne (z_tne hf_ta hf_mm (m := 12900) (n := 10) rfl rfl (by decide)) hf_ta)
              have hf_mm : f87 mm = .inr (10, [.int m0, .ref wd, .ref my, .ref ce, .ref mv, .ref ta, .int m6, .int AT3, .int 3, .int AT3, .int 0, .long 0, .int m12, .int m13, .int m14, .int m15, .ref li, .ref ha, .ref lw, .ref st, .ref fo, .ref dr, .int m22, .ref ik, .int m24, .int m25, .long m26, .int m27, .int m28, .ref ro, .int m30, .ref ct, .ref se, .ref th, .ref cn, .ref be, .int m36, .ref du, .int m38, .ref db, .int m40, .int m41, .int m42, .ref pn, .ref wg, .ref wh, .ref tn, .ref he, .int m48, .ref tr, .ref fd, .ref po, .int m52, .int m53]) := (congrFun e_f87 mm).trans z_up_self
              have hfr : ∀ b ∈ L, b ≠ mm → f87 b = f b := fun b hb h0 => (congrFun e_f87 b).trans (z_up_ne h0 (hfr b hb h0))
              refine lv_aload_n hx hb dX10_next_297 rfl (lv_at hl 0 rfl) ?_
              refine lv_dup hx hb dX10_next_298 rfl ?_
              refine z_get (C := RX10) (T := TX10) (N := 54) (ci := 10) (v := .int AT3) hx hb hT zin_X10 hown hK hw hm_mm hf_mm rfl 7 (by decide) (hT _ kw_1175) rfl dX10_next_299 ?_
              refine lv_iconst (v := 1) hx hb dX10_next_302 (by decide) ?_
              refine lv_iadd hx hb dX10_next_303 ?_
              refine lv_topi (fun w88 e_w88 => ?_)
              have i_w88 : w88.toInt = (AT3.toInt + 1) := z_add e_w88 rfl (show (1 : Int32).toInt = 1 by decide) (by omega)
              refine z_put (C := RX10) (T := TX10) (N := 54) (ci := 10) (v := .int w88) (fs' := [.int m0, .ref wd, .ref my, .ref ce, .ref mv, .ref ta, .int m6, .int w88, .int 3, .int AT3, .int 0, .long 0, .int m12, .int m13, .int m14, .int m15, .ref li, .ref ha, .ref lw, .ref st, .ref fo, .ref dr, .int m22, .ref ik, .int m24, .int m25, .long m26, .int m27, .int m28, .ref ro, .int m30, .ref ct, .ref se, .ref th, .ref cn, .ref be, .int m36, .ref du, .int m38, .ref db, .int m40, .int m41, .int m42, .ref pn, .ref wg, .ref wh, .ref tn, .ref he, .int m48, .ref tr, .ref fd, .ref po, .int m52, .int m53]) hx hb hT zin_X10 tyX10_ok nmX10 hown hK hw hm_mm hf_mm rfl 7 (by decide) (hT _ kw_1175) rfl rfl rfl (Nat.le_of_ble_eq_true rfl) rfl dX10_next_304 (fun H locs hw => ?_)
              obtain ⟨f89, e_f89⟩ : ∃ z, z = va_up f87 mm (.inr (10, [.int m0, .ref wd, .ref my, .ref ce, .ref mv, .ref ta, .int m6, .int w88, .int 3, .int AT3, .int 0, .long 0, .int m12, .int m13, .int m14, .int m15, .ref li, .ref ha, .ref lw, .ref st, .ref fo, .ref dr, .int m22, .ref ik, .int m24, .int m25, .long m26, .int m27, .int m28, .ref ro, .int m30, .ref ct, .ref se, .ref th, .ref cn, .ref be, .int m36, .ref du, .int m38, .ref db, .int m40, .int m41, .int m42, .ref pn, .ref wg, .ref wh, .ref tn, .ref he, .int m48, .ref tr, .ref fd, .ref po, .int m52, .int m53])) := ⟨_, rfl⟩
              rw [← e_f89] at hw
              have hf_ta : f89 ta = .inl (cy 0, 1600, .inl gta) := (congrFun e_f89 ta).trans (z_up_ne (z_tne hf_ta hf_mm (m := 12900) (n := 10) rfl rfl (by decide)) hf_ta)
              have hf_mm : f89 mm = .inr (10, [.int m0, .ref wd, .ref my, .ref ce, .ref mv, .ref ta, .int m6, .int w88, .int 3, .int AT3, .int 0, .long 0, .int m12, .int m13, .int m14, .int m15, .ref li, .ref ha, .ref lw, .ref st, .ref fo, .ref dr, .int m22, .ref ik, .int m24, .int m25, .long m26, .int m27, .int m28, .ref ro, .int m30, .ref ct, .ref se, .ref th, .ref cn, .ref be, .int m36, .ref du, .int m38, .ref db, .int m40, .int m41, .int m42, .ref pn, .ref wg, .ref wh, .ref tn, .ref he, .int m48, .ref tr, .ref fd, .ref po, .int m52, .int m53]) := (congrFun e_f89 mm).trans z_up_self
              have hfr : ∀ b ∈ L, b ≠ mm → f89 b = f b := fun b hb h0 => (congrFun e_f89 b).trans (z_up_ne h0 (hfr b hb h0))
              exact z_vret hx hb hr hlk (by decide) (by decide) hw (⟨hsub, hfr, w88, 3, AT3, 0, 0, hf_mm, by omega, by omega, by omega⟩) dX10_next_307
      · skip
        refine lv_aload_n hx hb dX10_next_72 rfl (lv_at hl 0 rfl) ?_
        refine lv_iconst (v := 0) hx hb dX10_next_73 (by decide) ?_
        refine z_put (C := RX10) (T := TX10) (N := 54) (ci := 10) (v := .int 0) (fs' := [.int m0, .ref wd, .ref my, .ref ce, .ref mv, .ref ta, .int m6, .int AT3, .int 0, .int AT3, .int 0, .long 0, .int m12, .int m13, .int m14, .int m15, .ref li, .ref ha, .ref lw, .ref st, .ref fo, .ref dr, .int m22, .ref ik, .int m24, .int m25, .long m26, .int m27, .int m28, .ref ro, .int m30, .ref ct, .ref se, .ref th, .ref cn, .ref be, .int m36, .ref du, .int m38, .ref db, .int m40, .int m41, .int m42, .ref pn, .ref wg, .ref wh, .ref tn, .ref he, .int m48, .ref tr, .ref fd, .ref po, .int m52, .int m53]) hx hb hT zin_X10 tyX10_ok nmX10 hown hK hw hm_mm hf_mm rfl 8 (by decide) (hT _ kw_1176) rfl rfl rfl (Nat.le_of_ble_eq_true rfl) rfl dX10_next_74 (fun H locs hw => ?_)
        obtain ⟨f90, e_f90⟩ : ∃ z, z = va_up f18 mm (.inr (10, [.int m0, .ref wd, .ref my, .ref ce, .ref mv, .ref ta, .int m6, .int AT3, .int 0, .int AT3, .int 0, .long 0, .int m12, .int m13, .int m14, .int m15, .ref li, .ref ha, .ref lw, .ref st, .ref fo, .ref dr, .int m22, .ref ik, .int m24, .int m25, .long m26, .int m27, .int m28, .ref ro, .int m30, .ref ct, .ref se, .ref th, .ref cn, .ref be, .int m36, .ref du, .int m38, .ref db, .int m40, .int m41, .int m42, .ref pn, .ref wg, .ref wh, .ref tn, .ref he, .int m48, .ref tr, .ref fd, .ref po, .int m52, .int m53])) := ⟨_, rfl⟩
        rw [← e_f90] at hw
        have hf_ta : f90 ta = .inl (cy 0, 1600, .inl gta) := (congrFun e_f90 ta).trans (z_up_ne (z_tne hf_ta hf_mm (m := 12900) (n := 10) rfl rfl (by decide)) hf_ta)
        have hf_mm : f90 mm = .inr (10, [.int m0, .ref wd, .ref my, .ref ce, .ref mv, .ref ta, .int m6, .int AT3, .int 0, .int AT3, .int 0, .long 0, .int m12, .int m13, .int m14, .int m15, .ref li, .ref ha, .ref lw, .ref st, .ref fo, .ref dr, .int m22, .ref ik, .int m24, .int m25, .long m26, .int m27, .int m28, .ref ro, .int m30, .ref ct, .ref se, .ref th, .ref cn, .ref be, .int m36, .ref du, .int m38, .ref db, .int m40, .int m41, .int m42, .ref pn, .ref wg, .ref wh, .ref tn, .ref he, .int m48, .ref tr, .ref fd, .ref po, .int m52, .int m53]) := (congrFun e_f90 mm).trans z_up_self
        have hfr : ∀ b ∈ L, b ≠ mm → f90 b = f b := fun b hb h0 => (congrFun e_f90 b).trans (z_up_ne h0 (hfr b hb h0))
        refine lv_goto (tgt := 307) hx hb dX10_next_77 (by decide) ?_
        exact z_vret hx hb hr hlk (by decide) (by decide) hw (⟨hsub, hfr, AT3, 0, AT3, 0, 0, hf_mm, by omega, by omega, by omega⟩) dX10_next_307
