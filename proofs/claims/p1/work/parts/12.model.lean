set_option maxHeartbeats 2000000 in
set_option maxRecDepth 100000 in
theorem c_X10_isSlot (l : Launch) {D : va_G} {cy : Nat → ClassId} {L : List Nat} {f : Nat → va_E} {sz : Nat} {xa : Int32}  : Met l yX10_isSlot (z_ws yX10_isSlot cX10_isSlot 1 (some .boolean)) (z_R 2 0 0) (va_Pc [.int xa] (z_Pre D vwCl (z_K D cy) L f sz)) (z_Qi D vwCl (fun r u => u = (L, f) ∧ ((r = 1 ∧ (0 ≤ xa.toInt ∧ xa.toInt < 4)) ∨ (r = 0 ∧ ¬ (0 ≤ xa.toInt ∧ xa.toInt < 4)))) L sz) 0 0 (z_A L sz) := by
  refine z_met (cc := cX10_isSlot) (maxL := 1) (ret := (some .boolean)) (lv := [(0, .int xa)]) (by decide) rfl (Nat.le_of_ble_eq_true rfl) rfl ?_
  intro p e s m below meth c ls hx hb hr hlk hml hown hnm hts hKK hA hw hl
  have hK := hKK.1
  have hown : s.vm.findClass RX10 = some m.cls := hown
  have hT : ∀ w ∈ lw_all, w.before ([.int xa] : List Value).toArray s = true := fun w h => hts w (z_cons w h)
  refine lv_iload_n hx hb dX10_isSlot_0 rfl (lv_at hl 0 rfl) ?_
  refine lv_i2l hx hb dX10_isSlot_1 rfl ?_
  refine lv_topl (fun w1 e_w1 => ?_)
  have i_w1 : w1.toInt = xa.toInt := z_i2l e_w1 rfl
  refine lv_lconst (v := 0) hx hb dX10_isSlot_2 (by decide) ?_
  refine lv_ldc2 (v := 3) hx hb hown (hT _ kw_1338) dX10_isSlot_3 ?_
  have hz2 := (show (0 : Int64).toInt = 0 by decide)
  have hz3 := (show (3 : Int64).toInt = 3 by decide)
  refine z_calliS (cells := 0) (slots := 0) (As := [.long w1, .long 0, .long 3]) (rest := []) ⟨hx, hb, hml, hown, hT⟩ (c_X10_in l ) (va_cwS 3 hT (z_goodS (fun _ h => h) kw_1339 kw_1340 kw_96 kw_1341) rfl rfl rfl (by decide +kernel) ⟨by decide, by decide⟩) z_mv hKK hw hA rfl hl.1 rfl (Nat.le_of_ble_eq_true rfl) dX10_isSlot_6 ⟨by decide, by decide⟩ (fun r4 u H locs hp hw => ?_)
  obtain ⟨rfl, hp⟩ := hp
  have hw : z_H D vwCl (z_A L sz) s.heap L f H locs := hw
  rcases hp with ⟨rfl, h5⟩ | ⟨rfl, h5⟩
  · skip
    exact z_zret hx hb hr rfl hlk (by decide) (by decide) hw (⟨rfl, Or.inl ⟨rfl, by omega⟩⟩) dX10_isSlot_9
  · skip
    exact z_zret hx hb hr rfl hlk (by decide) (by decide) hw (⟨rfl, Or.inr ⟨rfl, by omega⟩⟩) dX10_isSlot_9

set_option maxHeartbeats 2000000 in
set_option maxRecDepth 100000 in
theorem c_X10_isSeed (l : Launch) {D : va_G} {cy : Nat → ClassId} {L : List Nat} {f : Nat → va_E} {sz : Nat} {xa : Int32}  : Met l yX10_isSeed (z_ws yX10_isSeed cX10_isSeed 1 (some .boolean)) (z_R 2 0 0) (va_Pc [.int xa] (z_Pre D vwCl (z_K D cy) L f sz)) (z_Qi D vwCl (fun r u => u = (L, f) ∧ ((r = 1 ∧ 0 ≤ xa.toInt) ∨ (r = 0 ∧ True))) L sz) 0 0 (z_A L sz) := by
  refine z_met (cc := cX10_isSeed) (maxL := 1) (ret := (some .boolean)) (lv := [(0, .int xa)]) (by decide) rfl (Nat.le_of_ble_eq_true rfl) rfl ?_
  intro p e s m below meth c ls hx hb hr hlk hml hown hnm hts hKK hA hw hl
  have hK := hKK.1
  have hown : s.vm.findClass RX10 = some m.cls := hown
  have hT : ∀ w ∈ lw_all, w.before ([.int xa] : List Value).toArray s = true := fun w h => hts w (z_cons w h)
  refine lv_iload_n hx hb dX10_isSeed_0 rfl (lv_at hl 0 rfl) ?_
  refine lv_i2l hx hb dX10_isSeed_1 rfl ?_
  refine lv_topl (fun w1 e_w1 => ?_)
  have i_w1 : w1.toInt = xa.toInt := z_i2l e_w1 rfl
  refine lv_lconst (v := 0) hx hb dX10_isSeed_2 (by decide) ?_
  refine lv_ldc2 (v := 2000000000) hx hb hown (hT _ kw_1742) dX10_isSeed_3 ?_
  have hz2 := (show (0 : Int64).toInt = 0 by decide)
  have hz3 := (show (2000000000 : Int64).toInt = 2000000000 by decide)
  refine z_calliS (cells := 0) (slots := 0) (As := [.long w1, .long 0, .long 2000000000]) (rest := []) ⟨hx, hb, hml, hown, hT⟩ (c_X10_in l ) (va_cwS 3 hT (z_goodS (fun _ h => h) kw_1339 kw_1340 kw_96 kw_1341) rfl rfl rfl (by decide +kernel) ⟨by decide, by decide⟩) z_mv hKK hw hA rfl hl.1 rfl (Nat.le_of_ble_eq_true rfl) dX10_isSeed_6 ⟨by decide, by decide⟩ (fun r4 u H locs hp hw => ?_)
  obtain ⟨rfl, hp⟩ := hp
  have hw : z_H D vwCl (z_A L sz) s.heap L f H locs := hw
  rcases hp with ⟨rfl, h5⟩ | ⟨rfl, h5⟩
  · skip
    exact z_zret hx hb hr rfl hlk (by decide) (by decide) hw (⟨rfl, Or.inl ⟨rfl, by omega⟩⟩) dX10_isSeed_9
  · skip
    exact z_zret hx hb hr rfl hlk (by decide) (by decide) hw (⟨rfl, Or.inr ⟨rfl, trivial⟩⟩) dX10_isSeed_9

set_option maxHeartbeats 2000000 in
set_option maxRecDepth 100000 in
theorem c_X10_isMoor (l : Launch) {D : va_G} {cy : Nat → ClassId} {L : List Nat} {f : Nat → va_E} {sz : Nat} {me mw mn mc mv mt ml mh mj ms mg md mk z29 z31 z32 z33 z34 z35 z37 z39 z43 z44 z45 z46 z47 z49 z50 z51 : Nat} (hm_me : me ∈ L) (hm_ml : ml ∈ L) (hf_me : f me = .inr (10, [.int 0, .ref mw, .ref mn, .ref mc, .ref mv, .ref mt, .int 0, .int 0, .int 0, .int 0, .int 0, .long 0, .int 0, .int 0, .int 0, .int (-1), .ref ml, .ref mh, .ref mj, .ref ms, .ref mg, .ref md, .int 0, .ref mk, .int (-1), .int 0, .long 0, .int 0, .int 0, .ref z29, .int 0, .ref z31, .ref z32, .ref z33, .ref z34, .ref z35, .int 0, .ref z37, .int 0, .ref z39, .int 0, .int 0, .int 0, .ref z43, .ref z44, .ref z45, .ref z46, .ref z47, .int 0, .ref z49, .ref z50, .ref z51, .int 0, .int 0])) (hf_ml : f ml = .inl (cy 1, 5, .inl (fun _ => 0))) : Met l yX10_isMoor (z_ws yX10_isMoor cX10_isMoor 1 (some .boolean)) (z_R 2 0 0) (va_Pc [.ref me] (z_Pre D vwCl (z_K D cy) L f sz)) (z_Qi D vwCl (fun r u => u = (L, f) ∧ (r = 0)) L sz) 0 0 (z_A L sz) := by
  refine z_met (cc := cX10_isMoor) (maxL := 1) (ret := (some .boolean)) (lv := [(0, .ref me)]) (by decide) rfl (Nat.le_of_ble_eq_true rfl) rfl ?_
  intro p e s m below meth c ls hx hb hr hlk hml hown hnm hts hKK hA hw hl
  have hK := hKK.1
  have hown : s.vm.findClass RX10 = some m.cls := hown
  have hT : ∀ w ∈ lw_all, w.before ([.ref me] : List Value).toArray s = true := fun w h => hts w (z_cons w h)
  refine lv_aload_n hx hb dX10_isMoor_0 rfl (lv_at hl 0 rfl) ?_
  refine z_get (C := RX10) (T := TX10) (N := 54) (ci := 10) (v := .ref ml) hx hb hT zin_X10 hown hK hw hm_me hf_me rfl 16 (by decide) (hT _ kw_1184) rfl dX10_isMoor_1 ?_
  refine lv_iconst (v := 0) hx hb dX10_isMoor_4 (by decide) ?_
  refine z_iald hx hb hK hw 1 hm_ml hf_ml rfl (z_ix (show (0 : Int32).toInt = 0 by decide) (by decide)) dX10_isMoor_5 ?_
  refine z_lit (y := 0) rfl ?_
  refine z_if_le (tgt := 13) hx hb (show (0 : Int32).toInt = 0 by decide) dX10_isMoor_6 (by decide) (fun _ => ?_) (fun h => absurd h (by decide))
  refine lv_iconst (v := 0) hx hb dX10_isMoor_13 (by decide) ?_
  exact z_zret hx hb hr rfl hlk (by decide) (by decide) hw (⟨rfl, rfl⟩) dX10_isMoor_14

set_option maxHeartbeats 2000000 in
set_option maxRecDepth 100000 in
theorem c_X10_isDrive (l : Launch) {D : va_G} {cy : Nat → ClassId} {L : List Nat} {f : Nat → va_E} {sz : Nat} {me mw mn mc mv mt ml mh mj ms mg md mk z29 z31 z32 z33 z34 z35 z37 z39 z43 z44 z45 z46 z47 z49 z50 z51 : Nat} {xa : Int32} (hm_me : me ∈ L) (hm_mh : mh ∈ L) (hf_me : f me = .inr (10, [.int 0, .ref mw, .ref mn, .ref mc, .ref mv, .ref mt, .int 0, .int 0, .int 0, .int 0, .int 0, .long 0, .int 0, .int 0, .int 0, .int (-1), .ref ml, .ref mh, .ref mj, .ref ms, .ref mg, .ref md, .int 0, .ref mk, .int (-1), .int 0, .long 0, .int 0, .int 0, .ref z29, .int 0, .ref z31, .ref z32, .ref z33, .ref z34, .ref z35, .int 0, .ref z37, .int 0, .ref z39, .int 0, .int 0, .int 0, .ref z43, .ref z44, .ref z45, .ref z46, .ref z47, .int 0, .ref z49, .ref z50, .ref z51, .int 0, .int 0])) (hf_mh : f mh = .inl (cy 1, 30, .inl (fun _ => 0))) : Met l yX10_isDrive (z_ws yX10_isDrive cX10_isDrive 2 (some .boolean)) (z_R 2 0 0) (va_Pc [.ref me, .int xa] (z_Pre D vwCl (z_K D cy) L f sz)) (z_Qi D vwCl (fun r u => u = (L, f) ∧ (r = 0)) L sz) 0 0 (z_A L sz) := by
  refine z_met (cc := cX10_isDrive) (maxL := 2) (ret := (some .boolean)) (lv := [(0, .ref me), (1, .int xa)]) (by decide) rfl (Nat.le_of_ble_eq_true rfl) rfl ?_
  intro p e s m below meth c ls hx hb hr hlk hml hown hnm hts hKK hA hw hl
  have hK := hKK.1
  have hown : s.vm.findClass RX10 = some m.cls := hown
  have hT : ∀ w ∈ lw_all, w.before ([.ref me, .int xa] : List Value).toArray s = true := fun w h => hts w (z_cons w h)
  refine lv_iload_n hx hb dX10_isDrive_0 rfl (lv_at hl 1 rfl) ?_
  refine lv_i2l hx hb dX10_isDrive_1 rfl ?_
  refine lv_topl (fun w1 e_w1 => ?_)
  have i_w1 : w1.toInt = xa.toInt := z_i2l e_w1 rfl
  refine lv_lconst (v := 0) hx hb dX10_isDrive_2 (by decide) ?_
  refine lv_aload_n hx hb dX10_isDrive_3 rfl (lv_at hl 0 rfl) ?_
  refine z_get (C := RX10) (T := TX10) (N := 54) (ci := 10) (v := .ref mh) hx hb hT zin_X10 hown hK hw hm_me hf_me rfl 17 (by decide) (hT _ kw_1185) rfl dX10_isDrive_4 ?_
  refine lv_iconst (v := 3) hx hb dX10_isDrive_7 (by decide) ?_
  refine z_iald hx hb hK hw 1 hm_mh hf_mh rfl (z_ix (show (3 : Int32).toInt = 3 by decide) (by decide)) dX10_isDrive_8 ?_
  refine z_lit (y := 0) rfl ?_
  refine lv_iconst (v := 1) hx hb dX10_isDrive_9 (by decide) ?_
  refine lv_isub hx hb dX10_isDrive_10 ?_
  refine z_lit (y := (-1)) (by decide) ?_
  refine lv_i2l (v := (-1)) hx hb dX10_isDrive_11 (by decide) ?_
  have hz2 := (show (0 : Int64).toInt = 0 by decide)
  have hz3 := (show ((-1) : Int64).toInt = (-1) by decide)
  refine z_calliS (cells := 0) (slots := 0) (As := [.long w1, .long 0, .long (-1)]) (rest := []) ⟨hx, hb, hml, hown, hT⟩ (c_X10_in l ) (va_cwS 3 hT (z_goodS (fun _ h => h) kw_1339 kw_1340 kw_96 kw_1341) rfl rfl rfl (by decide +kernel) ⟨by decide, by decide⟩) z_mv hKK hw hA rfl hl.1 rfl (Nat.le_of_ble_eq_true rfl) dX10_isDrive_12 ⟨by decide, by decide⟩ (fun r4 u H locs hp hw => ?_)
  obtain ⟨rfl, hp⟩ := hp
  have hw : z_H D vwCl (z_A L sz) s.heap L f H locs := hw
  rcases hp with ⟨rfl, h5⟩ | ⟨rfl, h5⟩
  · exact absurd (Int.le_trans h5.1 h5.2) (by decide)
  · skip
    exact z_zret hx hb hr rfl hlk (by decide) (by decide) hw (⟨rfl, rfl⟩) dX10_isDrive_15

set_option maxHeartbeats 2000000 in
set_option maxRecDepth 100000 in
theorem c_X10_isGap (l : Launch) {D : va_G} {cy : Nat → ClassId} {L : List Nat} {f : Nat → va_E} {sz : Nat} {me mw mn mc mv mt ml mh mj ms mg md mk z29 z31 z32 z33 z34 z35 z37 z39 z43 z44 z45 z46 z47 z49 z50 z51 : Nat} {xa : Int32} (hm_me : me ∈ L) (hm_mh : mh ∈ L) (hf_me : f me = .inr (10, [.int 0, .ref mw, .ref mn, .ref mc, .ref mv, .ref mt, .int 0, .int 0, .int 0, .int 0, .int 0, .long 0, .int 0, .int 0, .int 0, .int (-1), .ref ml, .ref mh, .ref mj, .ref ms, .ref mg, .ref md, .int 0, .ref mk, .int (-1), .int 0, .long 0, .int 0, .int 0, .ref z29, .int 0, .ref z31, .ref z32, .ref z33, .ref z34, .ref z35, .int 0, .ref z37, .int 0, .ref z39, .int 0, .int 0, .int 0, .ref z43, .ref z44, .ref z45, .ref z46, .ref z47, .int 0, .ref z49, .ref z50, .ref z51, .int 0, .int 0])) (hf_mh : f mh = .inl (cy 1, 30, .inl (fun _ => 0))) : Met l yX10_isGap (z_ws yX10_isGap cX10_isGap 2 (some .boolean)) (z_R 2 0 0) (va_Pc [.ref me, .int xa] (z_Pre D vwCl (z_K D cy) L f sz)) (z_Qi D vwCl (fun r u => u = (L, f) ∧ (r = 0)) L sz) 0 0 (z_A L sz) := by
  refine z_met (cc := cX10_isGap) (maxL := 2) (ret := (some .boolean)) (lv := [(0, .ref me), (1, .int xa)]) (by decide) rfl (Nat.le_of_ble_eq_true rfl) rfl ?_
  intro p e s m below meth c ls hx hb hr hlk hml hown hnm hts hKK hA hw hl
  have hK := hKK.1
  have hown : s.vm.findClass RX10 = some m.cls := hown
  have hT : ∀ w ∈ lw_all, w.before ([.ref me, .int xa] : List Value).toArray s = true := fun w h => hts w (z_cons w h)
  refine lv_iload_n hx hb dX10_isGap_0 rfl (lv_at hl 1 rfl) ?_
  refine lv_i2l hx hb dX10_isGap_1 rfl ?_
  refine lv_topl (fun w1 e_w1 => ?_)
  have i_w1 : w1.toInt = xa.toInt := z_i2l e_w1 rfl
  refine lv_lconst (v := 0) hx hb dX10_isGap_2 (by decide) ?_
  refine lv_aload_n hx hb dX10_isGap_3 rfl (lv_at hl 0 rfl) ?_
  refine z_get (C := RX10) (T := TX10) (N := 54) (ci := 10) (v := .ref mh) hx hb hT zin_X10 hown hK hw hm_me hf_me rfl 17 (by decide) (hT _ kw_1185) rfl dX10_isGap_4 ?_
  refine lv_iconst (v := 0) hx hb dX10_isGap_7 (by decide) ?_
  refine z_iald hx hb hK hw 1 hm_mh hf_mh rfl (z_ix (show (0 : Int32).toInt = 0 by decide) (by decide)) dX10_isGap_8 ?_
  refine z_lit (y := 0) rfl ?_
  refine lv_iconst (v := 1) hx hb dX10_isGap_9 (by decide) ?_
  refine lv_isub hx hb dX10_isGap_10 ?_
  refine z_lit (y := (-1)) (by decide) ?_
  refine lv_i2l (v := (-1)) hx hb dX10_isGap_11 (by decide) ?_
  have hz2 := (show (0 : Int64).toInt = 0 by decide)
  have hz3 := (show ((-1) : Int64).toInt = (-1) by decide)
  refine z_calliS (cells := 0) (slots := 0) (As := [.long w1, .long 0, .long (-1)]) (rest := []) ⟨hx, hb, hml, hown, hT⟩ (c_X10_in l ) (va_cwS 3 hT (z_goodS (fun _ h => h) kw_1339 kw_1340 kw_96 kw_1341) rfl rfl rfl (by decide +kernel) ⟨by decide, by decide⟩) z_mv hKK hw hA rfl hl.1 rfl (Nat.le_of_ble_eq_true rfl) dX10_isGap_12 ⟨by decide, by decide⟩ (fun r4 u H locs hp hw => ?_)
  obtain ⟨rfl, hp⟩ := hp
  have hw : z_H D vwCl (z_A L sz) s.heap L f H locs := hw
  rcases hp with ⟨rfl, h5⟩ | ⟨rfl, h5⟩
  · exact absurd (Int.le_trans h5.1 h5.2) (by decide)
  · skip
    exact z_zret hx hb hr rfl hlk (by decide) (by decide) hw (⟨rfl, rfl⟩) dX10_isGap_15

set_option maxHeartbeats 2000000 in
set_option maxRecDepth 100000 in
theorem c_X10_isDay (l : Launch) {D : va_G} {cy : Nat → ClassId} {L : List Nat} {f : Nat → va_E} {sz : Nat} {me mw mn mc mv mt ml mh mj ms mg md mk z29 z31 z32 z33 z34 z35 z37 z39 z43 z44 z45 z46 z47 z49 z50 z51 : Nat} {xa : Int32} (hm_me : me ∈ L) (hm_mh : mh ∈ L) (hf_me : f me = .inr (10, [.int 0, .ref mw, .ref mn, .ref mc, .ref mv, .ref mt, .int 0, .int 0, .int 0, .int 0, .int 0, .long 0, .int 0, .int 0, .int 0, .int (-1), .ref ml, .ref mh, .ref mj, .ref ms, .ref mg, .ref md, .int 0, .ref mk, .int (-1), .int 0, .long 0, .int 0, .int 0, .ref z29, .int 0, .ref z31, .ref z32, .ref z33, .ref z34, .ref z35, .int 0, .ref z37, .int 0, .ref z39, .int 0, .int 0, .int 0, .ref z43, .ref z44, .ref z45, .ref z46, .ref z47, .int 0, .ref z49, .ref z50, .ref z51, .int 0, .int 0])) (hf_mh : f mh = .inl (cy 1, 30, .inl (fun _ => 0))) : Met l yX10_isDay (z_ws yX10_isDay cX10_isDay 2 (some .boolean)) (z_R 2 0 0) (va_Pc [.ref me, .int xa] (z_Pre D vwCl (z_K D cy) L f sz)) (z_Qi D vwCl (fun r u => u = (L, f) ∧ (r = 0)) L sz) 0 0 (z_A L sz) := by
  refine z_met (cc := cX10_isDay) (maxL := 2) (ret := (some .boolean)) (lv := [(0, .ref me), (1, .int xa)]) (by decide) rfl (Nat.le_of_ble_eq_true rfl) rfl ?_
  intro p e s m below meth c ls hx hb hr hlk hml hown hnm hts hKK hA hw hl
  have hK := hKK.1
  have hown : s.vm.findClass RX10 = some m.cls := hown
  have hT : ∀ w ∈ lw_all, w.before ([.ref me, .int xa] : List Value).toArray s = true := fun w h => hts w (z_cons w h)
  refine lv_iload_n hx hb dX10_isDay_0 rfl (lv_at hl 1 rfl) ?_
  refine lv_i2l hx hb dX10_isDay_1 rfl ?_
  refine lv_topl (fun w1 e_w1 => ?_)
  have i_w1 : w1.toInt = xa.toInt := z_i2l e_w1 rfl
  refine lv_lconst (v := 0) hx hb dX10_isDay_2 (by decide) ?_
  refine lv_aload_n hx hb dX10_isDay_3 rfl (lv_at hl 0 rfl) ?_
  refine z_get (C := RX10) (T := TX10) (N := 54) (ci := 10) (v := .ref mh) hx hb hT zin_X10 hown hK hw hm_me hf_me rfl 17 (by decide) (hT _ kw_1185) rfl dX10_isDay_4 ?_
  refine lv_iconst (v := 1) hx hb dX10_isDay_7 (by decide) ?_
  refine z_iald hx hb hK hw 1 hm_mh hf_mh rfl (z_ix (show (1 : Int32).toInt = 1 by decide) (by decide)) dX10_isDay_8 ?_
  refine z_lit (y := 0) rfl ?_
  refine lv_iconst (v := 1) hx hb dX10_isDay_9 (by decide) ?_
  refine lv_isub hx hb dX10_isDay_10 ?_
  refine z_lit (y := (-1)) (by decide) ?_
  refine lv_i2l (v := (-1)) hx hb dX10_isDay_11 (by decide) ?_
  have hz2 := (show (0 : Int64).toInt = 0 by decide)
  have hz3 := (show ((-1) : Int64).toInt = (-1) by decide)
  refine z_calliS (cells := 0) (slots := 0) (As := [.long w1, .long 0, .long (-1)]) (rest := []) ⟨hx, hb, hml, hown, hT⟩ (c_X10_in l ) (va_cwS 3 hT (z_goodS (fun _ h => h) kw_1339 kw_1340 kw_96 kw_1341) rfl rfl rfl (by decide +kernel) ⟨by decide, by decide⟩) z_mv hKK hw hA rfl hl.1 rfl (Nat.le_of_ble_eq_true rfl) dX10_isDay_12 ⟨by decide, by decide⟩ (fun r4 u H locs hp hw => ?_)
  obtain ⟨rfl, hp⟩ := hp
  have hw : z_H D vwCl (z_A L sz) s.heap L f H locs := hw
  rcases hp with ⟨rfl, h5⟩ | ⟨rfl, h5⟩
  · exact absurd (Int.le_trans h5.1 h5.2) (by decide)
  · skip
    exact z_zret hx hb hr rfl hlk (by decide) (by decide) hw (⟨rfl, rfl⟩) dX10_isDay_15

set_option maxHeartbeats 2000000 in
set_option maxRecDepth 100000 in
theorem c_X10_isOwner (l : Launch) {D : va_G} {cy : Nat → ClassId} {L : List Nat} {f : Nat → va_E} {sz : Nat} {me mw mn mc mv mt ml mh mj ms mg md mk z29 z31 z32 z33 z34 z35 z37 z39 z43 z44 z45 z46 z47 z49 z50 z51 : Nat} {xa : Int64} (hm_me : me ∈ L) (hm_ml : ml ∈ L) (hf_me : f me = .inr (10, [.int 0, .ref mw, .ref mn, .ref mc, .ref mv, .ref mt, .int 0, .int 0, .int 0, .int 0, .int 0, .long 0, .int 0, .int 0, .int 0, .int (-1), .ref ml, .ref mh, .ref mj, .ref ms, .ref mg, .ref md, .int 0, .ref mk, .int (-1), .int 0, .long 0, .int 0, .int 0, .ref z29, .int 0, .ref z31, .ref z32, .ref z33, .ref z34, .ref z35, .int 0, .ref z37, .int 0, .ref z39, .int 0, .int 0, .int 0, .ref z43, .ref z44, .ref z45, .ref z46, .ref z47, .int 0, .ref z49, .ref z50, .ref z51, .int 0, .int 0])) (hf_ml : f ml = .inl (cy 1, 5, .inl (fun _ => 0))) : Met l yX10_isOwner (z_ws yX10_isOwner cX10_isOwner 3 (some .boolean)) (z_R 3 0 0) (va_Pc [.ref me, .long xa] (z_Pre D vwCl (z_K D cy) L f sz)) (z_Qi D vwCl (fun r u => u = (L, f) ∧ (r = 0)) L sz) 0 0 (z_A L sz) := by
  refine z_met (cc := cX10_isOwner) (maxL := 3) (ret := (some .boolean)) (lv := [(0, .ref me), (1, .long xa)]) (by decide) rfl (Nat.le_of_ble_eq_true rfl) rfl ?_
  intro p e s m below meth c ls hx hb hr hlk hml hown hnm hts hKK hA hw hl
  have hK := hKK.1
  have hown : s.vm.findClass RX10 = some m.cls := hown
  have hT : ∀ w ∈ lw_all, w.before ([.ref me, .long xa] : List Value).toArray s = true := fun w h => hts w (z_cons w h)
  refine lv_aload_n hx hb dX10_isOwner_0 rfl (lv_at hl 0 rfl) ?_
  refine z_calliV (cells := 0) (slots := 0) (b := me) (As := []) (rest := []) (ci := 10) (q0 := (RX10, TX10, 54)) ⟨hx, hb, hml, hown, hT⟩ (c_X10_isMoor l hm_me hm_ml hf_me hf_ml) (cwV 0 hT (z_goodV (fun _ h => h) kw_1507 kw_1509 kw_54 kw_96 kw_1510) rfl rfl rfl (by decide +kernel) ⟨by decide, by decide⟩) z_mv hKK hK hw hA hm_me hf_me rfl rfl rfl hl.1 rfl (Nat.le_of_ble_eq_true rfl) dX10_isOwner_1 ⟨by decide, by decide⟩ (fun r1 u H locs hp hw => ?_)
  obtain ⟨rfl, hp⟩ := hp
  have hw : z_H D vwCl (z_A L sz) s.heap L f H locs := hw
  obtain rfl := hp
  refine z_if_eq (tgt := 28) hx hb (show (0 : Int32).toInt = 0 by decide) dX10_isOwner_4 (by decide) (fun _ => ?_) (fun h => absurd h (by decide))
  refine lv_iconst (v := 0) hx hb dX10_isOwner_28 (by decide) ?_
  exact z_zret hx hb hr rfl hlk (by decide) (by decide) hw (⟨rfl, rfl⟩) dX10_isOwner_29

set_option maxHeartbeats 2000000 in
set_option maxRecDepth 100000 in
theorem c_X10_isGood (l : Launch) {D : va_G} {cy : Nat → ClassId} {L : List Nat} {f : Nat → va_E} {sz : Nat} {me mw mn mc mv mt ml mh mj ms mg md mk z29 z31 z32 z33 z34 z35 z37 z39 z43 z44 z45 z46 z47 z49 z50 z51 : Nat} (hm_me : me ∈ L) (hf_me : f me = .inr (10, [.int 0, .ref mw, .ref mn, .ref mc, .ref mv, .ref mt, .int 0, .int 0, .int 0, .int 0, .int 0, .long 0, .int 0, .int 0, .int 0, .int (-1), .ref ml, .ref mh, .ref mj, .ref ms, .ref mg, .ref md, .int 0, .ref mk, .int (-1), .int 0, .long 0, .int 0, .int 0, .ref z29, .int 0, .ref z31, .ref z32, .ref z33, .ref z34, .ref z35, .int 0, .ref z37, .int 0, .ref z39, .int 0, .int 0, .int 0, .ref z43, .ref z44, .ref z45, .ref z46, .ref z47, .int 0, .ref z49, .ref z50, .ref z51, .int 0, .int 0])) : Met l yX10_isGood (z_ws yX10_isGood cX10_isGood 1 (some .boolean)) (z_R 2 0 0) (va_Pc [.ref me] (z_Pre D vwCl (z_K D cy) L f sz)) (z_Qi D vwCl (fun r u => u = (L, f) ∧ (r = 1)) L sz) 0 0 (z_A L sz) := by
  refine z_met (cc := cX10_isGood) (maxL := 1) (ret := (some .boolean)) (lv := [(0, .ref me)]) (by decide) rfl (Nat.le_of_ble_eq_true rfl) rfl ?_
  intro p e s m below meth c ls hx hb hr hlk hml hown hnm hts hKK hA hw hl
  have hK := hKK.1
  have hown : s.vm.findClass RX10 = some m.cls := hown
  have hT : ∀ w ∈ lw_all, w.before ([.ref me] : List Value).toArray s = true := fun w h => hts w (z_cons w h)
  refine lv_aload_n hx hb dX10_isGood_0 rfl (lv_at hl 0 rfl) ?_
  refine z_get (C := RX10) (T := TX10) (N := 54) (ci := 10) (v := .int 0) hx hb hT zin_X10 hown hK hw hm_me hf_me rfl 12 (by decide) (hT _ kw_1180) rfl dX10_isGood_1 ?_
  refine z_if_ne (tgt := 11) hx hb (show (0 : Int32).toInt = 0 by decide) dX10_isGood_4 (by decide) (fun h => absurd h (by decide)) (fun _ => ?_)
  refine lv_iconst (v := 1) hx hb dX10_isGood_7 (by decide) ?_
  refine lv_goto (tgt := 12) hx hb dX10_isGood_8 (by decide) ?_
  exact z_zret hx hb hr rfl hlk (by decide) (by decide) hw (⟨rfl, rfl⟩) dX10_isGood_12

set_option maxHeartbeats 2000000 in
set_option maxRecDepth 100000 in
theorem c_X10_whyNotOrders (l : Launch) {D : va_G} {cy : Nat → ClassId} {L : List Nat} {f : Nat → va_E} {sz : Nat} {me mw mn mc mv mt ml mh mj ms mg md mk z29 z31 z32 z33 z34 z35 z37 z39 z43 z44 z45 z46 z47 z49 z50 z51 : Nat} {xa xb xc : Int32} (hm_me : me ∈ L) (hm_mh : mh ∈ L) (hf_me : f me = .inr (10, [.int 0, .ref mw, .ref mn, .ref mc, .ref mv, .ref mt, .int 0, .int 0, .int 0, .int 0, .int 0, .long 0, .int 0, .int 0, .int 0, .int (-1), .ref ml, .ref mh, .ref mj, .ref ms, .ref mg, .ref md, .int 0, .ref mk, .int (-1), .int 0, .long 0, .int 0, .int 0, .ref z29, .int 0, .ref z31, .ref z32, .ref z33, .ref z34, .ref z35, .int 0, .ref z37, .int 0, .ref z39, .int 0, .int 0, .int 0, .ref z43, .ref z44, .ref z45, .ref z46, .ref z47, .int 0, .ref z49, .ref z50, .ref z51, .int 0, .int 0])) (hf_mh : f mh = .inl (cy 1, 30, .inl (fun _ => 0))) : Met l yX10_whyNotOrders (z_ws yX10_whyNotOrders cX10_whyNotOrders 5 (some .int)) (z_R 4 0 0) (va_Pc [.ref me, .int xa, .int xb, .int xc] (z_Pre D vwCl (z_K D cy) L f sz)) (z_Qi D vwCl (fun r u => u = (L, f) ∧ (r = (-2))) L sz) 0 0 (z_A L sz) := by
  refine z_met (cc := cX10_whyNotOrders) (maxL := 5) (ret := (some .int)) (lv := [(0, .ref me), (1, .int xa), (2, .int xb), (3, .int xc)]) (by decide) rfl (Nat.le_of_ble_eq_true rfl) rfl ?_
  intro p e s m below meth c ls hx hb hr hlk hml hown hnm hts hKK hA hw hl
  have hK := hKK.1
  have hown : s.vm.findClass RX10 = some m.cls := hown
  have hT : ∀ w ∈ lw_all, w.before ([.ref me, .int xa, .int xb, .int xc] : List Value).toArray s = true := fun w h => hts w (z_cons w h)
  refine lv_iload_n hx hb dX10_whyNotOrders_0 rfl (lv_at hl 1 rfl) ?_
  refine z_calliS (cells := 0) (slots := 0) (As := [.int xa]) (rest := []) ⟨hx, hb, hml, hown, hT⟩ (c_X10_isSlot l ) (va_cwS 1 hT (z_goodS (fun _ h => h) kw_1335 kw_1336 kw_96 kw_1337) rfl rfl rfl (by decide +kernel) ⟨by decide, by decide⟩) z_mv hKK hw hA rfl hl.1 rfl (Nat.le_of_ble_eq_true rfl) dX10_whyNotOrders_1 ⟨by decide, by decide⟩ (fun r1 u H locs hp hw => ?_)
  obtain ⟨rfl, hp⟩ := hp
  have hw : z_H D vwCl (z_A L sz) s.heap L f H locs := hw
  rcases hp with ⟨rfl, h2⟩ | ⟨rfl, h2⟩
  · skip
    refine z_if_eq (tgt := 23) hx hb (show (1 : Int32).toInt = 1 by decide) dX10_whyNotOrders_4 (by decide) (fun h => absurd h (by decide)) (fun _ => ?_)
    refine lv_aload_n hx hb dX10_whyNotOrders_7 rfl (lv_at hl 0 rfl) ?_
    refine lv_iload_n hx hb dX10_whyNotOrders_8 rfl (lv_at hl 2 rfl) ?_
    refine z_calliV (cells := 0) (slots := 0) (b := me) (As := [.int xb]) (rest := []) (ci := 10) (q0 := (RX10, TX10, 54)) ⟨hx, hb, hml, hown, hT⟩ (c_X10_isGap l hm_me hm_mh hf_me hf_mh) (cwV 1 hT (z_goodV (fun _ h => h) kw_1519 kw_1521 kw_55 kw_96 kw_1522) rfl rfl rfl (by decide +kernel) ⟨by decide, by decide⟩) z_mv hKK hK hw hA hm_me hf_me rfl rfl rfl hl.1 rfl (Nat.le_of_ble_eq_true rfl) dX10_whyNotOrders_9 ⟨by decide, by decide⟩ (fun r3 u H locs hp hw => ?_)
    obtain ⟨rfl, hp⟩ := hp
    have hw : z_H D vwCl (z_A L sz) s.heap L f H locs := hw
    obtain rfl := hp
    refine z_if_eq (tgt := 23) hx hb (show (0 : Int32).toInt = 0 by decide) dX10_whyNotOrders_12 (by decide) (fun _ => ?_) (fun h => absurd h (by decide))
    refine lv_bipush (v := (-2)) hx hb dX10_whyNotOrders_23 (by decide) ?_
    exact z_iret hx hb hr hlk (by decide) (by decide) hw (⟨rfl, rfl⟩) dX10_whyNotOrders_25
  · skip
    refine z_if_eq (tgt := 23) hx hb (show (0 : Int32).toInt = 0 by decide) dX10_whyNotOrders_4 (by decide) (fun _ => ?_) (fun h => absurd h (by decide))
    refine lv_bipush (v := (-2)) hx hb dX10_whyNotOrders_23 (by decide) ?_
    exact z_iret hx hb hr hlk (by decide) (by decide) hw (⟨rfl, rfl⟩) dX10_whyNotOrders_25

set_option maxHeartbeats 2000000 in
set_option maxRecDepth 100000 in
theorem c_X10_whyNotCounts (l : Launch) {D : va_G} {cy : Nat → ClassId} {L : List Nat} {f : Nat → va_E} {sz : Nat} {me mw mn mc mv mt ml mh mj ms mg md mk z29 z31 z32 z33 z34 z35 z37 z39 z43 z44 z45 z46 z47 z49 z50 z51 : Nat} {xa xb : Int32} (hm_me : me ∈ L) (hm_mh : mh ∈ L) (hf_me : f me = .inr (10, [.int 0, .ref mw, .ref mn, .ref mc, .ref mv, .ref mt, .int 0, .int 0, .int 0, .int 0, .int 0, .long 0, .int 0, .int 0, .int 0, .int (-1), .ref ml, .ref mh, .ref mj, .ref ms, .ref mg, .ref md, .int 0, .ref mk, .int (-1), .int 0, .long 0, .int 0, .int 0, .ref z29, .int 0, .ref z31, .ref z32, .ref z33, .ref z34, .ref z35, .int 0, .ref z37, .int 0, .ref z39, .int 0, .int 0, .int 0, .ref z43, .ref z44, .ref z45, .ref z46, .ref z47, .int 0, .ref z49, .ref z50, .ref z51, .int 0, .int 0])) (hf_mh : f mh = .inl (cy 1, 30, .inl (fun _ => 0))) : Met l yX10_whyNotCounts (z_ws yX10_whyNotCounts cX10_whyNotCounts 4 (some .int)) (z_R 4 0 0) (va_Pc [.ref me, .int xa, .int xb] (z_Pre D vwCl (z_K D cy) L f sz)) (z_Qi D vwCl (fun r u => u = (L, f) ∧ (r = (-2))) L sz) 0 0 (z_A L sz) := by
  refine z_met (cc := cX10_whyNotCounts) (maxL := 4) (ret := (some .int)) (lv := [(0, .ref me), (1, .int xa), (2, .int xb)]) (by decide) rfl (Nat.le_of_ble_eq_true rfl) rfl ?_
  intro p e s m below meth c ls hx hb hr hlk hml hown hnm hts hKK hA hw hl
  have hK := hKK.1
  have hown : s.vm.findClass RX10 = some m.cls := hown
  have hT : ∀ w ∈ lw_all, w.before ([.ref me, .int xa, .int xb] : List Value).toArray s = true := fun w h => hts w (z_cons w h)
  refine lv_iload_n hx hb dX10_whyNotCounts_0 rfl (lv_at hl 1 rfl) ?_
  refine z_calliS (cells := 0) (slots := 0) (As := [.int xa]) (rest := []) ⟨hx, hb, hml, hown, hT⟩ (c_X10_isSlot l ) (va_cwS 1 hT (z_goodS (fun _ h => h) kw_1335 kw_1336 kw_96 kw_1337) rfl rfl rfl (by decide +kernel) ⟨by decide, by decide⟩) z_mv hKK hw hA rfl hl.1 rfl (Nat.le_of_ble_eq_true rfl) dX10_whyNotCounts_1 ⟨by decide, by decide⟩ (fun r1 u H locs hp hw => ?_)
  obtain ⟨rfl, hp⟩ := hp
  have hw : z_H D vwCl (z_A L sz) s.heap L f H locs := hw
  rcases hp with ⟨rfl, h2⟩ | ⟨rfl, h2⟩
  · skip
    refine z_if_eq (tgt := 15) hx hb (show (1 : Int32).toInt = 1 by decide) dX10_whyNotCounts_4 (by decide) (fun h => absurd h (by decide)) (fun _ => ?_)
    refine lv_aload_n hx hb dX10_whyNotCounts_7 rfl (lv_at hl 0 rfl) ?_
    refine lv_iload_n hx hb dX10_whyNotCounts_8 rfl (lv_at hl 2 rfl) ?_
    refine z_calliV (cells := 0) (slots := 0) (b := me) (As := [.int xb]) (rest := []) (ci := 10) (q0 := (RX10, TX10, 54)) ⟨hx, hb, hml, hown, hT⟩ (c_X10_isDay l hm_me hm_mh hf_me hf_mh) (cwV 1 hT (z_goodV (fun _ h => h) kw_1535 kw_1537 kw_57 kw_96 kw_1538) rfl rfl rfl (by decide +kernel) ⟨by decide, by decide⟩) z_mv hKK hK hw hA hm_me hf_me rfl rfl rfl hl.1 rfl (Nat.le_of_ble_eq_true rfl) dX10_whyNotCounts_9 ⟨by decide, by decide⟩ (fun r3 u H locs hp hw => ?_)
    obtain ⟨rfl, hp⟩ := hp
    have hw : z_H D vwCl (z_A L sz) s.heap L f H locs := hw
    obtain rfl := hp
    refine z_if_ne (tgt := 18) hx hb (show (0 : Int32).toInt = 0 by decide) dX10_whyNotCounts_12 (by decide) (fun h => absurd h (by decide)) (fun _ => ?_)
    refine lv_bipush (v := (-2)) hx hb dX10_whyNotCounts_15 (by decide) ?_
    exact z_iret hx hb hr hlk (by decide) (by decide) hw (⟨rfl, rfl⟩) dX10_whyNotCounts_17
  · skip
    refine z_if_eq (tgt := 15) hx hb (show (0 : Int32).toInt = 0 by decide) dX10_whyNotCounts_4 (by decide) (fun _ => ?_) (fun h => absurd h (by decide))
    refine lv_bipush (v := (-2)) hx hb dX10_whyNotCounts_15 (by decide) ?_
    exact z_iret hx hb hr hlk (by decide) (by decide) hw (⟨rfl, rfl⟩) dX10_whyNotCounts_17

set_option maxHeartbeats 2000000 in
set_option maxRecDepth 100000 in
theorem c_X10_drive (l : Launch) {D : va_G} {cy : Nat → ClassId} {L : List Nat} {f : Nat → va_E} {sz : Nat} {me mw mn mc mv mt ml mh mj ms mg md mk z29 z31 z32 z33 z34 z35 z37 z39 z43 z44 z45 z46 z47 z49 z50 z51 : Nat}  {xa xb : Int32} (hm_me : me ∈ L) (hm_ml : ml ∈ L) (hm_mh : mh ∈ L) (hf_me : f me = .inr (10, [.int 0, .ref mw, .ref mn, .ref mc, .ref mv, .ref mt, .int 0, .int 0, .int 0, .int 0, .int 0, .long 0, .int 0, .int 0, .int 0, .int (-1), .ref ml, .ref mh, .ref mj, .ref ms, .ref mg, .ref md, .int 0, .ref mk, .int (-1), .int 0, .long 0, .int 0, .int 0, .ref z29, .int 0, .ref z31, .ref z32, .ref z33, .ref z34, .ref z35, .int 0, .ref z37, .int 0, .ref z39, .int 0, .int 0, .int 0, .ref z43, .ref z44, .ref z45, .ref z46, .ref z47, .int 0, .ref z49, .ref z50, .ref z51, .int 0, .int 0])) (hf_ml : f ml = .inl (cy 1, 5, .inl (fun _ => 0))) (hf_mh : f mh = .inl (cy 1, 30, .inl (fun _ => 0))) : Met l yX10_drive (z_ws yX10_drive cX10_drive 3 (some .int)) (z_R 6 0 0) (va_Pc [.ref me, .int xa, .int xb] (z_Pre D vwCl (z_K D cy) L f sz)) (z_Qi D vwCl (fun r u => (∀ b ∈ L, b ∈ u.1) ∧ (∀ b ∈ L, b ≠ me → u.2 b = f b) ∧ ((r.toInt = -2))) L sz) 0 0 (z_A L sz) := by
  refine z_met (cc := cX10_drive) (maxL := 3) (ret := (some .int)) (lv := [(0, .ref me), (1, .int xa), (2, .int xb)]) (by decide) rfl (Nat.le_of_ble_eq_true rfl) rfl ?_
  intro p e s m below meth c ls hx hb hr hlk hml hown hnm hts hKK hA hw hl
  have hK := hKK.1
  have hown : s.vm.findClass RX10 = some m.cls := hown
  have hT : ∀ w ∈ lw_all, w.before ([.ref me, .int xa, .int xb] : List Value).toArray s = true := fun w h => hts w (z_cons w h)
  have hsub : ∀ b ∈ L, b ∈ L := fun _ h => h
  have hfr : ∀ b ∈ L, b ≠ me → f b = f b := fun _ _ _ => rfl
  refine lv_aload_n hx hb dX10_drive_0 rfl (lv_at hl 0 rfl) ?_
  refine lv_iconst (v := 0) hx hb dX10_drive_1 (by decide) ?_
  refine z_put (C := RX10) (T := TX10) (N := 54) (ci := 10) (v := .int 0) (fs' := [.int 0, .ref mw, .ref mn, .ref mc, .ref mv, .ref mt, .int 0, .int 0, .int 0, .int 0, .int 0, .long 0, .int 0, .int 0, .int 0, .int (-1), .ref ml, .ref mh, .ref mj, .ref ms, .ref mg, .ref md, .int 0, .ref mk, .int (-1), .int 0, .long 0, .int 0, .int 0, .ref z29, .int 0, .ref z31, .ref z32, .ref z33, .ref z34, .ref z35, .int 0, .ref z37, .int 0, .ref z39, .int 0, .int 0, .int 0, .ref z43, .ref z44, .ref z45, .ref z46, .ref z47, .int 0, .ref z49, .ref z50, .ref z51, .int 0, .int 0]) hx hb hT zin_X10 tyX10_ok nmX10 hown hK hw hm_me hf_me rfl 0 (by decide) (hT _ kw_1168) rfl rfl rfl (Nat.le_of_ble_eq_true rfl) rfl dX10_drive_2 (fun H locs hw => ?_)
  obtain ⟨f1, e_f1⟩ : ∃ z, z = va_up f me (.inr (10, [.int 0, .ref mw, .ref mn, .ref mc, .ref mv, .ref mt, .int 0, .int 0, .int 0, .int 0, .int 0, .long 0, .int 0, .int 0, .int 0, .int (-1), .ref ml, .ref mh, .ref mj, .ref ms, .ref mg, .ref md, .int 0, .ref mk, .int (-1), .int 0, .long 0, .int 0, .int 0, .ref z29, .int 0, .ref z31, .ref z32, .ref z33, .ref z34, .ref z35, .int 0, .ref z37, .int 0, .ref z39, .int 0, .int 0, .int 0, .ref z43, .ref z44, .ref z45, .ref z46, .ref z47, .int 0, .ref z49, .ref z50, .ref z51, .int 0, .int 0])) := ⟨_, rfl⟩
  rw [← e_f1] at hw
  have hf_ml : f1 ml = .inl (cy 1, 5, .inl (fun _ => 0)) := (congrFun e_f1 ml).trans (z_up_ne (z_tne hf_ml hf_me (m := 140) (n := 10) rfl rfl (by decide)) hf_ml)
  have hf_mh : f1 mh = .inl (cy 1, 30, .inl (fun _ => 0)) := (congrFun e_f1 mh).trans (z_up_ne (z_tne hf_mh hf_me (m := 340) (n := 10) rfl rfl (by decide)) hf_mh)
  have hf_me : f1 me = .inr (10, [.int 0, .ref mw, .ref mn, .ref mc, .ref mv, .ref mt, .int 0, .int 0, .int 0, .int 0, .int 0, .long 0, .int 0, .int 0, .int 0, .int (-1), .ref ml, .ref mh, .ref mj, .ref ms, .ref mg, .ref md, .int 0, .ref mk, .int (-1), .int 0, .long 0, .int 0, .int 0, .ref z29, .int 0, .ref z31, .ref z32, .ref z33, .ref z34, .ref z35, .int 0, .ref z37, .int 0, .ref z39, .int 0, .int 0, .int 0, .ref z43, .ref z44, .ref z45, .ref z46, .ref z47, .int 0, .ref z49, .ref z50, .ref z51, .int 0, .int 0]) := (congrFun e_f1 me).trans z_up_self
  have hfr : ∀ b ∈ L, b ≠ me → f1 b = f b := fun b hb h0 => (congrFun e_f1 b).trans (z_up_ne h0 (hfr b hb h0))
  refine lv_aload_n hx hb dX10_drive_5 rfl (lv_at hl 0 rfl) ?_
  refine lv_iload_n hx hb dX10_drive_6 rfl (lv_at hl 1 rfl) ?_
  refine z_calliV (cells := 0) (slots := 0) (b := me) (As := [.int xa]) (rest := []) (ci := 10) (q0 := (RX10, TX10, 54)) ⟨hx, hb, hml, hown, hT⟩ (c_X10_isDrive l hm_me hm_mh hf_me hf_mh) (cwV 1 hT (z_goodV (fun _ h => h) kw_1482 kw_1484 kw_50 kw_96 kw_1485) rfl rfl rfl (by decide +kernel) ⟨by decide, by decide⟩) z_mv hKK hK hw hA hm_me hf_me rfl rfl rfl hl.1 rfl (Nat.le_of_ble_eq_true rfl) dX10_drive_7 ⟨by decide, by decide⟩ (fun r2 u H locs hp hw => ?_)
  obtain ⟨rfl, hp⟩ := hp
  have hw : z_H D vwCl (z_A L sz) s.heap L f1 H locs := hw
  obtain rfl := hp
  refine z_if_eq (tgt := 34) hx hb (show (0 : Int32).toInt = 0 by decide) dX10_drive_10 (by decide) (fun _ => ?_) (fun h => absurd h (by decide))
  refine lv_bipush (v := (-2)) hx hb dX10_drive_34 (by decide) ?_
  exact z_iret hx hb hr hlk (by decide) (by decide) hw (⟨hsub, hfr, by decide⟩) dX10_drive_36

set_option maxHeartbeats 2000000 in
set_option maxRecDepth 100000 in
theorem c_X10_goes (l : Launch) {D : va_G} {cy : Nat → ClassId} {L : List Nat} {f : Nat → va_E} {sz : Nat} {me mw mn mc mv mt ml mh mj ms mg md mk z29 z31 z32 z33 z34 z35 z37 z39 z43 z44 z45 z46 z47 z49 z50 z51 : Nat}  {xa : Int32} (hm_me : me ∈ L) (hm_ml : ml ∈ L) (hm_mh : mh ∈ L) (hf_me : f me = .inr (10, [.int 0, .ref mw, .ref mn, .ref mc, .ref mv, .ref mt, .int 0, .int 0, .int 0, .int 0, .int 0, .long 0, .int 0, .int 0, .int 0, .int (-1), .ref ml, .ref mh, .ref mj, .ref ms, .ref mg, .ref md, .int 0, .ref mk, .int (-1), .int 0, .long 0, .int 0, .int 0, .ref z29, .int 0, .ref z31, .ref z32, .ref z33, .ref z34, .ref z35, .int 0, .ref z37, .int 0, .ref z39, .int 0, .int 0, .int 0, .ref z43, .ref z44, .ref z45, .ref z46, .ref z47, .int 0, .ref z49, .ref z50, .ref z51, .int 0, .int 0])) (hf_ml : f ml = .inl (cy 1, 5, .inl (fun _ => 0))) (hf_mh : f mh = .inl (cy 1, 30, .inl (fun _ => 0))) : Met l yX10_goes (z_ws yX10_goes cX10_goes 2 (some .int)) (z_R 6 0 0) (va_Pc [.ref me, .int xa] (z_Pre D vwCl (z_K D cy) L f sz)) (z_Qi D vwCl (fun r u => (∀ b ∈ L, b ∈ u.1) ∧ (∀ b ∈ L, b ≠ me → u.2 b = f b) ∧ ((r.toInt = -2))) L sz) 0 0 (z_A L sz) := by
  refine z_met (cc := cX10_goes) (maxL := 2) (ret := (some .int)) (lv := [(0, .ref me), (1, .int xa)]) (by decide) rfl (Nat.le_of_ble_eq_true rfl) rfl ?_
  intro p e s m below meth c ls hx hb hr hlk hml hown hnm hts hKK hA hw hl
  have hK := hKK.1
  have hown : s.vm.findClass RX10 = some m.cls := hown
  have hT : ∀ w ∈ lw_all, w.before ([.ref me, .int xa] : List Value).toArray s = true := fun w h => hts w (z_cons w h)
  have hsub : ∀ b ∈ L, b ∈ L := fun _ h => h
  have hfr : ∀ b ∈ L, b ≠ me → f b = f b := fun _ _ _ => rfl
  refine lv_aload_n hx hb dX10_goes_0 rfl (lv_at hl 0 rfl) ?_
  refine lv_iconst (v := 0) hx hb dX10_goes_1 (by decide) ?_
  refine z_put (C := RX10) (T := TX10) (N := 54) (ci := 10) (v := .int 0) (fs' := [.int 0, .ref mw, .ref mn, .ref mc, .ref mv, .ref mt, .int 0, .int 0, .int 0, .int 0, .int 0, .long 0, .int 0, .int 0, .int 0, .int (-1), .ref ml, .ref mh, .ref mj, .ref ms, .ref mg, .ref md, .int 0, .ref mk, .int (-1), .int 0, .long 0, .int 0, .int 0, .ref z29, .int 0, .ref z31, .ref z32, .ref z33, .ref z34, .ref z35, .int 0, .ref z37, .int 0, .ref z39, .int 0, .int 0, .int 0, .ref z43, .ref z44, .ref z45, .ref z46, .ref z47, .int 0, .ref z49, .ref z50, .ref z51, .int 0, .int 0]) hx hb hT zin_X10 tyX10_ok nmX10 hown hK hw hm_me hf_me rfl 0 (by decide) (hT _ kw_1168) rfl rfl rfl (Nat.le_of_ble_eq_true rfl) rfl dX10_goes_2 (fun H locs hw => ?_)
  obtain ⟨f1, e_f1⟩ : ∃ z, z = va_up f me (.inr (10, [.int 0, .ref mw, .ref mn, .ref mc, .ref mv, .ref mt, .int 0, .int 0, .int 0, .int 0, .int 0, .long 0, .int 0, .int 0, .int 0, .int (-1), .ref ml, .ref mh, .ref mj, .ref ms, .ref mg, .ref md, .int 0, .ref mk, .int (-1), .int 0, .long 0, .int 0, .int 0, .ref z29, .int 0, .ref z31, .ref z32, .ref z33, .ref z34, .ref z35, .int 0, .ref z37, .int 0, .ref z39, .int 0, .int 0, .int 0, .ref z43, .ref z44, .ref z45, .ref z46, .ref z47, .int 0, .ref z49, .ref z50, .ref z51, .int 0, .int 0])) := ⟨_, rfl⟩
  rw [← e_f1] at hw
  have hf_ml : f1 ml = .inl (cy 1, 5, .inl (fun _ => 0)) := (congrFun e_f1 ml).trans (z_up_ne (z_tne hf_ml hf_me (m := 140) (n := 10) rfl rfl (by decide)) hf_ml)
  have hf_mh : f1 mh = .inl (cy 1, 30, .inl (fun _ => 0)) := (congrFun e_f1 mh).trans (z_up_ne (z_tne hf_mh hf_me (m := 340) (n := 10) rfl rfl (by decide)) hf_mh)
  have hf_me : f1 me = .inr (10, [.int 0, .ref mw, .ref mn, .ref mc, .ref mv, .ref mt, .int 0, .int 0, .int 0, .int 0, .int 0, .long 0, .int 0, .int 0, .int 0, .int (-1), .ref ml, .ref mh, .ref mj, .ref ms, .ref mg, .ref md, .int 0, .ref mk, .int (-1), .int 0, .long 0, .int 0, .int 0, .ref z29, .int 0, .ref z31, .ref z32, .ref z33, .ref z34, .ref z35, .int 0, .ref z37, .int 0, .ref z39, .int 0, .int 0, .int 0, .ref z43, .ref z44, .ref z45, .ref z46, .ref z47, .int 0, .ref z49, .ref z50, .ref z51, .int 0, .int 0]) := (congrFun e_f1 me).trans z_up_self
  have hfr : ∀ b ∈ L, b ≠ me → f1 b = f b := fun b hb h0 => (congrFun e_f1 b).trans (z_up_ne h0 (hfr b hb h0))
  refine lv_aload_n hx hb dX10_goes_5 rfl (lv_at hl 0 rfl) ?_
  refine lv_iload_n hx hb dX10_goes_6 rfl (lv_at hl 1 rfl) ?_
  refine z_calliV (cells := 0) (slots := 0) (b := me) (As := [.int xa]) (rest := []) (ci := 10) (q0 := (RX10, TX10, 54)) ⟨hx, hb, hml, hown, hT⟩ (c_X10_isDrive l hm_me hm_mh hf_me hf_mh) (cwV 1 hT (z_goodV (fun _ h => h) kw_1482 kw_1484 kw_50 kw_96 kw_1485) rfl rfl rfl (by decide +kernel) ⟨by decide, by decide⟩) z_mv hKK hK hw hA hm_me hf_me rfl rfl rfl hl.1 rfl (Nat.le_of_ble_eq_true rfl) dX10_goes_7 ⟨by decide, by decide⟩ (fun r2 u H locs hp hw => ?_)
  obtain ⟨rfl, hp⟩ := hp
  have hw : z_H D vwCl (z_A L sz) s.heap L f1 H locs := hw
  obtain rfl := hp
  refine z_if_ne (tgt := 18) hx hb (show (0 : Int32).toInt = 0 by decide) dX10_goes_10 (by decide) (fun h => absurd h (by decide)) (fun _ => ?_)
  refine lv_bipush (v := (-2)) hx hb dX10_goes_13 (by decide) ?_
  refine lv_goto (tgt := 39) hx hb dX10_goes_15 (by decide) ?_
  exact z_iret hx hb hr hlk (by decide) (by decide) hw (⟨hsub, hfr, by decide⟩) dX10_goes_39

set_option maxHeartbeats 2000000 in
set_option maxRecDepth 100000 in
theorem c_X10_law (l : Launch) {D : va_G} {cy : Nat → ClassId} {L : List Nat} {f : Nat → va_E} {sz : Nat} {me mw mn mc mv mt ml mh mj ms mg md mk z29 z31 z32 z33 z34 z35 z37 z39 z43 z44 z45 z46 z47 z49 z50 z51 : Nat}  {xa xb : Int32} (hm_me : me ∈ L) (hm_ml : ml ∈ L) (hm_mh : mh ∈ L) (hf_me : f me = .inr (10, [.int 0, .ref mw, .ref mn, .ref mc, .ref mv, .ref mt, .int 0, .int 0, .int 0, .int 0, .int 0, .long 0, .int 0, .int 0, .int 0, .int (-1), .ref ml, .ref mh, .ref mj, .ref ms, .ref mg, .ref md, .int 0, .ref mk, .int (-1), .int 0, .long 0, .int 0, .int 0, .ref z29, .int 0, .ref z31, .ref z32, .ref z33, .ref z34, .ref z35, .int 0, .ref z37, .int 0, .ref z39, .int 0, .int 0, .int 0, .ref z43, .ref z44, .ref z45, .ref z46, .ref z47, .int 0, .ref z49, .ref z50, .ref z51, .int 0, .int 0])) (hf_ml : f ml = .inl (cy 1, 5, .inl (fun _ => 0))) (hf_mh : f mh = .inl (cy 1, 30, .inl (fun _ => 0))) : Met l yX10_law (z_ws yX10_law cX10_law 4 (some .int)) (z_R 6 0 0) (va_Pc [.ref me, .int xa, .int xb] (z_Pre D vwCl (z_K D cy) L f sz)) (z_Qi D vwCl (fun r u => (∀ b ∈ L, b ∈ u.1) ∧ (∀ b ∈ L, b ≠ me → u.2 b = f b) ∧ ((r.toInt = -2))) L sz) 0 0 (z_A L sz) := by
  refine z_met (cc := cX10_law) (maxL := 4) (ret := (some .int)) (lv := [(0, .ref me), (1, .int xa), (2, .int xb)]) (by decide) rfl (Nat.le_of_ble_eq_true rfl) rfl ?_
  intro p e s m below meth c ls hx hb hr hlk hml hown hnm hts hKK hA hw hl
  have hK := hKK.1
  have hown : s.vm.findClass RX10 = some m.cls := hown
  have hT : ∀ w ∈ lw_all, w.before ([.ref me, .int xa, .int xb] : List Value).toArray s = true := fun w h => hts w (z_cons w h)
  have hsub : ∀ b ∈ L, b ∈ L := fun _ h => h
  have hfr : ∀ b ∈ L, b ≠ me → f b = f b := fun _ _ _ => rfl
  refine lv_aload_n hx hb dX10_law_0 rfl (lv_at hl 0 rfl) ?_
  refine lv_iconst (v := 0) hx hb dX10_law_1 (by decide) ?_
  refine z_put (C := RX10) (T := TX10) (N := 54) (ci := 10) (v := .int 0) (fs' := [.int 0, .ref mw, .ref mn, .ref mc, .ref mv, .ref mt, .int 0, .int 0, .int 0, .int 0, .int 0, .long 0, .int 0, .int 0, .int 0, .int (-1), .ref ml, .ref mh, .ref mj, .ref ms, .ref mg, .ref md, .int 0, .ref mk, .int (-1), .int 0, .long 0, .int 0, .int 0, .ref z29, .int 0, .ref z31, .ref z32, .ref z33, .ref z34, .ref z35, .int 0, .ref z37, .int 0, .ref z39, .int 0, .int 0, .int 0, .ref z43, .ref z44, .ref z45, .ref z46, .ref z47, .int 0, .ref z49, .ref z50, .ref z51, .int 0, .int 0]) hx hb hT zin_X10 tyX10_ok nmX10 hown hK hw hm_me hf_me rfl 0 (by decide) (hT _ kw_1168) rfl rfl rfl (Nat.le_of_ble_eq_true rfl) rfl dX10_law_2 (fun H locs hw => ?_)
  obtain ⟨f1, e_f1⟩ : ∃ z, z = va_up f me (.inr (10, [.int 0, .ref mw, .ref mn, .ref mc, .ref mv, .ref mt, .int 0, .int 0, .int 0, .int 0, .int 0, .long 0, .int 0, .int 0, .int 0, .int (-1), .ref ml, .ref mh, .ref mj, .ref ms, .ref mg, .ref md, .int 0, .ref mk, .int (-1), .int 0, .long 0, .int 0, .int 0, .ref z29, .int 0, .ref z31, .ref z32, .ref z33, .ref z34, .ref z35, .int 0, .ref z37, .int 0, .ref z39, .int 0, .int 0, .int 0, .ref z43, .ref z44, .ref z45, .ref z46, .ref z47, .int 0, .ref z49, .ref z50, .ref z51, .int 0, .int 0])) := ⟨_, rfl⟩
  rw [← e_f1] at hw
  have hf_ml : f1 ml = .inl (cy 1, 5, .inl (fun _ => 0)) := (congrFun e_f1 ml).trans (z_up_ne (z_tne hf_ml hf_me (m := 140) (n := 10) rfl rfl (by decide)) hf_ml)
  have hf_mh : f1 mh = .inl (cy 1, 30, .inl (fun _ => 0)) := (congrFun e_f1 mh).trans (z_up_ne (z_tne hf_mh hf_me (m := 340) (n := 10) rfl rfl (by decide)) hf_mh)
  have hf_me : f1 me = .inr (10, [.int 0, .ref mw, .ref mn, .ref mc, .ref mv, .ref mt, .int 0, .int 0, .int 0, .int 0, .int 0, .long 0, .int 0, .int 0, .int 0, .int (-1), .ref ml, .ref mh, .ref mj, .ref ms, .ref mg, .ref md, .int 0, .ref mk, .int (-1), .int 0, .long 0, .int 0, .int 0, .ref z29, .int 0, .ref z31, .ref z32, .ref z33, .ref z34, .ref z35, .int 0, .ref z37, .int 0, .ref z39, .int 0, .int 0, .int 0, .ref z43, .ref z44, .ref z45, .ref z46, .ref z47, .int 0, .ref z49, .ref z50, .ref z51, .int 0, .int 0]) := (congrFun e_f1 me).trans z_up_self
  have hfr : ∀ b ∈ L, b ≠ me → f1 b = f b := fun b hb h0 => (congrFun e_f1 b).trans (z_up_ne h0 (hfr b hb h0))
  refine lv_aload_n hx hb dX10_law_5 rfl (lv_at hl 0 rfl) ?_
  refine z_calliV (cells := 0) (slots := 0) (b := me) (As := []) (rest := []) (ci := 10) (q0 := (RX10, TX10, 54)) ⟨hx, hb, hml, hown, hT⟩ (c_X10_isMoor l hm_me hm_ml hf_me hf_ml) (cwV 0 hT (z_goodV (fun _ h => h) kw_1507 kw_1509 kw_54 kw_96 kw_1510) rfl rfl rfl (by decide +kernel) ⟨by decide, by decide⟩) z_mv hKK hK hw hA hm_me hf_me rfl rfl rfl hl.1 rfl (Nat.le_of_ble_eq_true rfl) dX10_law_6 ⟨by decide, by decide⟩ (fun r2 u H locs hp hw => ?_)
  obtain ⟨rfl, hp⟩ := hp
  have hw : z_H D vwCl (z_A L sz) s.heap L f1 H locs := hw
  obtain rfl := hp
  refine z_if_eq (tgt := 67) hx hb (show (0 : Int32).toInt = 0 by decide) dX10_law_9 (by decide) (fun _ => ?_) (fun h => absurd h (by decide))
  refine lv_bipush (v := (-2)) hx hb dX10_law_67 (by decide) ?_
  exact z_iret hx hb hr hlk (by decide) (by decide) hw (⟨hsub, hfr, by decide⟩) dX10_law_69

set_option maxHeartbeats 2000000 in
set_option maxRecDepth 100000 in
theorem c_X10_sets (l : Launch) {D : va_G} {cy : Nat → ClassId} {L : List Nat} {f : Nat → va_E} {sz : Nat} {me mw mn mc mv mt ml mh mj ms mg md mk z29 z31 z32 z33 z34 z35 z37 z39 z43 z44 z45 z46 z47 z49 z50 z51 : Nat}  {xa xb xc : Int32} (hm_me : me ∈ L) (hm_ml : ml ∈ L) (hm_mh : mh ∈ L) (hf_me : f me = .inr (10, [.int 0, .ref mw, .ref mn, .ref mc, .ref mv, .ref mt, .int 0, .int 0, .int 0, .int 0, .int 0, .long 0, .int 0, .int 0, .int 0, .int (-1), .ref ml, .ref mh, .ref mj, .ref ms, .ref mg, .ref md, .int 0, .ref mk, .int (-1), .int 0, .long 0, .int 0, .int 0, .ref z29, .int 0, .ref z31, .ref z32, .ref z33, .ref z34, .ref z35, .int 0, .ref z37, .int 0, .ref z39, .int 0, .int 0, .int 0, .ref z43, .ref z44, .ref z45, .ref z46, .ref z47, .int 0, .ref z49, .ref z50, .ref z51, .int 0, .int 0])) (hf_ml : f ml = .inl (cy 1, 5, .inl (fun _ => 0))) (hf_mh : f mh = .inl (cy 1, 30, .inl (fun _ => 0))) : Met l yX10_sets (z_ws yX10_sets cX10_sets 5 (some .int)) (z_R 6 0 0) (va_Pc [.ref me, .int xa, .int xb, .int xc] (z_Pre D vwCl (z_K D cy) L f sz)) (z_Qi D vwCl (fun r u => (∀ b ∈ L, b ∈ u.1) ∧ (∀ b ∈ L, b ≠ me → u.2 b = f b) ∧ ((r.toInt = -2))) L sz) 0 0 (z_A L sz) := by
  refine z_met (cc := cX10_sets) (maxL := 5) (ret := (some .int)) (lv := [(0, .ref me), (1, .int xa), (2, .int xb), (3, .int xc)]) (by decide) rfl (Nat.le_of_ble_eq_true rfl) rfl ?_
  intro p e s m below meth c ls hx hb hr hlk hml hown hnm hts hKK hA hw hl
  have hK := hKK.1
  have hown : s.vm.findClass RX10 = some m.cls := hown
  have hT : ∀ w ∈ lw_all, w.before ([.ref me, .int xa, .int xb, .int xc] : List Value).toArray s = true := fun w h => hts w (z_cons w h)
  have hsub : ∀ b ∈ L, b ∈ L := fun _ h => h
  have hfr : ∀ b ∈ L, b ≠ me → f b = f b := fun _ _ _ => rfl
  refine lv_aload_n hx hb dX10_sets_0 rfl (lv_at hl 0 rfl) ?_
  refine lv_iconst (v := 0) hx hb dX10_sets_1 (by decide) ?_
  refine z_put (C := RX10) (T := TX10) (N := 54) (ci := 10) (v := .int 0) (fs' := [.int 0, .ref mw, .ref mn, .ref mc, .ref mv, .ref mt, .int 0, .int 0, .int 0, .int 0, .int 0, .long 0, .int 0, .int 0, .int 0, .int (-1), .ref ml, .ref mh, .ref mj, .ref ms, .ref mg, .ref md, .int 0, .ref mk, .int (-1), .int 0, .long 0, .int 0, .int 0, .ref z29, .int 0, .ref z31, .ref z32, .ref z33, .ref z34, .ref z35, .int 0, .ref z37, .int 0, .ref z39, .int 0, .int 0, .int 0, .ref z43, .ref z44, .ref z45, .ref z46, .ref z47, .int 0, .ref z49, .ref z50, .ref z51, .int 0, .int 0]) hx hb hT zin_X10 tyX10_ok nmX10 hown hK hw hm_me hf_me rfl 0 (by decide) (hT _ kw_1168) rfl rfl rfl (Nat.le_of_ble_eq_true rfl) rfl dX10_sets_2 (fun H locs hw => ?_)
  obtain ⟨f1, e_f1⟩ : ∃ z, z = va_up f me (.inr (10, [.int 0, .ref mw, .ref mn, .ref mc, .ref mv, .ref mt, .int 0, .int 0, .int 0, .int 0, .int 0, .long 0, .int 0, .int 0, .int 0, .int (-1), .ref ml, .ref mh, .ref mj, .ref ms, .ref mg, .ref md, .int 0, .ref mk, .int (-1), .int 0, .long 0, .int 0, .int 0, .ref z29, .int 0, .ref z31, .ref z32, .ref z33, .ref z34, .ref z35, .int 0, .ref z37, .int 0, .ref z39, .int 0, .int 0, .int 0, .ref z43, .ref z44, .ref z45, .ref z46, .ref z47, .int 0, .ref z49, .ref z50, .ref z51, .int 0, .int 0])) := ⟨_, rfl⟩
  rw [← e_f1] at hw
  have hf_ml : f1 ml = .inl (cy 1, 5, .inl (fun _ => 0)) := (congrFun e_f1 ml).trans (z_up_ne (z_tne hf_ml hf_me (m := 140) (n := 10) rfl rfl (by decide)) hf_ml)
  have hf_mh : f1 mh = .inl (cy 1, 30, .inl (fun _ => 0)) := (congrFun e_f1 mh).trans (z_up_ne (z_tne hf_mh hf_me (m := 340) (n := 10) rfl rfl (by decide)) hf_mh)
  have hf_me : f1 me = .inr (10, [.int 0, .ref mw, .ref mn, .ref mc, .ref mv, .ref mt, .int 0, .int 0, .int 0, .int 0, .int 0, .long 0, .int 0, .int 0, .int 0, .int (-1), .ref ml, .ref mh, .ref mj, .ref ms, .ref mg, .ref md, .int 0, .ref mk, .int (-1), .int 0, .long 0, .int 0, .int 0, .ref z29, .int 0, .ref z31, .ref z32, .ref z33, .ref z34, .ref z35, .int 0, .ref z37, .int 0, .ref z39, .int 0, .int 0, .int 0, .ref z43, .ref z44, .ref z45, .ref z46, .ref z47, .int 0, .ref z49, .ref z50, .ref z51, .int 0, .int 0]) := (congrFun e_f1 me).trans z_up_self
  have hfr : ∀ b ∈ L, b ≠ me → f1 b = f b := fun b hb h0 => (congrFun e_f1 b).trans (z_up_ne h0 (hfr b hb h0))
  refine lv_aload_n hx hb dX10_sets_5 rfl (lv_at hl 0 rfl) ?_
  refine lv_iload_n hx hb dX10_sets_6 rfl (lv_at hl 1 rfl) ?_
  refine z_calliV (cells := 0) (slots := 0) (b := me) (As := [.int xa]) (rest := []) (ci := 10) (q0 := (RX10, TX10, 54)) ⟨hx, hb, hml, hown, hT⟩ (c_X10_isDrive l hm_me hm_mh hf_me hf_mh) (cwV 1 hT (z_goodV (fun _ h => h) kw_1482 kw_1484 kw_50 kw_96 kw_1485) rfl rfl rfl (by decide +kernel) ⟨by decide, by decide⟩) z_mv hKK hK hw hA hm_me hf_me rfl rfl rfl hl.1 rfl (Nat.le_of_ble_eq_true rfl) dX10_sets_7 ⟨by decide, by decide⟩ (fun r2 u H locs hp hw => ?_)
  obtain ⟨rfl, hp⟩ := hp
  have hw : z_H D vwCl (z_A L sz) s.heap L f1 H locs := hw
  obtain rfl := hp
  refine z_if_eq (tgt := 28) hx hb (show (0 : Int32).toInt = 0 by decide) dX10_sets_10 (by decide) (fun _ => ?_) (fun h => absurd h (by decide))
  refine lv_bipush (v := (-2)) hx hb dX10_sets_28 (by decide) ?_
  exact z_iret hx hb hr hlk (by decide) (by decide) hw (⟨hsub, hfr, by decide⟩) dX10_sets_30

set_option maxHeartbeats 2000000 in
set_option maxRecDepth 100000 in
theorem c_X10_counter (l : Launch) {D : va_G} {cy : Nat → ClassId} {L : List Nat} {f : Nat → va_E} {sz : Nat} {me mw mn mc mv mt ml mh mj ms mg md mk z29 z31 z32 z33 z34 z35 z37 z39 z43 z44 z45 z46 z47 z49 z50 z51 : Nat}  {xa xb xc : Int32} (hm_me : me ∈ L) (hm_ml : ml ∈ L) (hm_mh : mh ∈ L) (hf_me : f me = .inr (10, [.int 0, .ref mw, .ref mn, .ref mc, .ref mv, .ref mt, .int 0, .int 0, .int 0, .int 0, .int 0, .long 0, .int 0, .int 0, .int 0, .int (-1), .ref ml, .ref mh, .ref mj, .ref ms, .ref mg, .ref md, .int 0, .ref mk, .int (-1), .int 0, .long 0, .int 0, .int 0, .ref z29, .int 0, .ref z31, .ref z32, .ref z33, .ref z34, .ref z35, .int 0, .ref z37, .int 0, .ref z39, .int 0, .int 0, .int 0, .ref z43, .ref z44, .ref z45, .ref z46, .ref z47, .int 0, .ref z49, .ref z50, .ref z51, .int 0, .int 0])) (hf_ml : f ml = .inl (cy 1, 5, .inl (fun _ => 0))) (hf_mh : f mh = .inl (cy 1, 30, .inl (fun _ => 0))) : Met l yX10_counter (z_ws yX10_counter cX10_counter 4 (some .int)) (z_R 6 0 0) (va_Pc [.ref me, .int xa, .int xb, .int xc] (z_Pre D vwCl (z_K D cy) L f sz)) (z_Qi D vwCl (fun r u => (∀ b ∈ L, b ∈ u.1) ∧ (∀ b ∈ L, b ≠ me → u.2 b = f b) ∧ ((r.toInt = -2))) L sz) 0 0 (z_A L sz) := by
  refine z_met (cc := cX10_counter) (maxL := 4) (ret := (some .int)) (lv := [(0, .ref me), (1, .int xa), (2, .int xb), (3, .int xc)]) (by decide) rfl (Nat.le_of_ble_eq_true rfl) rfl ?_
  intro p e s m below meth c ls hx hb hr hlk hml hown hnm hts hKK hA hw hl
  have hK := hKK.1
  have hown : s.vm.findClass RX10 = some m.cls := hown
  have hT : ∀ w ∈ lw_all, w.before ([.ref me, .int xa, .int xb, .int xc] : List Value).toArray s = true := fun w h => hts w (z_cons w h)
  have hsub : ∀ b ∈ L, b ∈ L := fun _ h => h
  have hfr : ∀ b ∈ L, b ≠ me → f b = f b := fun _ _ _ => rfl
  refine lv_aload_n hx hb dX10_counter_0 rfl (lv_at hl 0 rfl) ?_
  refine lv_iconst (v := 0) hx hb dX10_counter_1 (by decide) ?_
  refine z_put (C := RX10) (T := TX10) (N := 54) (ci := 10) (v := .int 0) (fs' := [.int 0, .ref mw, .ref mn, .ref mc, .ref mv, .ref mt, .int 0, .int 0, .int 0, .int 0, .int 0, .long 0, .int 0, .int 0, .int 0, .int (-1), .ref ml, .ref mh, .ref mj, .ref ms, .ref mg, .ref md, .int 0, .ref mk, .int (-1), .int 0, .long 0, .int 0, .int 0, .ref z29, .int 0, .ref z31, .ref z32, .ref z33, .ref z34, .ref z35, .int 0, .ref z37, .int 0, .ref z39, .int 0, .int 0, .int 0, .ref z43, .ref z44, .ref z45, .ref z46, .ref z47, .int 0, .ref z49, .ref z50, .ref z51, .int 0, .int 0]) hx hb hT zin_X10 tyX10_ok nmX10 hown hK hw hm_me hf_me rfl 0 (by decide) (hT _ kw_1168) rfl rfl rfl (Nat.le_of_ble_eq_true rfl) rfl dX10_counter_2 (fun H locs hw => ?_)
  obtain ⟨f1, e_f1⟩ : ∃ z, z = va_up f me (.inr (10, [.int 0, .ref mw, .ref mn, .ref mc, .ref mv, .ref mt, .int 0, .int 0, .int 0, .int 0, .int 0, .long 0, .int 0, .int 0, .int 0, .int (-1), .ref ml, .ref mh, .ref mj, .ref ms, .ref mg, .ref md, .int 0, .ref mk, .int (-1), .int 0, .long 0, .int 0, .int 0, .ref z29, .int 0, .ref z31, .ref z32, .ref z33, .ref z34, .ref z35, .int 0, .ref z37, .int 0, .ref z39, .int 0, .int 0, .int 0, .ref z43, .ref z44, .ref z45, .ref z46, .ref z47, .int 0, .ref z49, .ref z50, .ref z51, .int 0, .int 0])) := ⟨_, rfl⟩
  rw [← e_f1] at hw
  have hf_ml : f1 ml = .inl (cy 1, 5, .inl (fun _ => 0)) := (congrFun e_f1 ml).trans (z_up_ne (z_tne hf_ml hf_me (m := 140) (n := 10) rfl rfl (by decide)) hf_ml)
  have hf_mh : f1 mh = .inl (cy 1, 30, .inl (fun _ => 0)) := (congrFun e_f1 mh).trans (z_up_ne (z_tne hf_mh hf_me (m := 340) (n := 10) rfl rfl (by decide)) hf_mh)
  have hf_me : f1 me = .inr (10, [.int 0, .ref mw, .ref mn, .ref mc, .ref mv, .ref mt, .int 0, .int 0, .int 0, .int 0, .int 0, .long 0, .int 0, .int 0, .int 0, .int (-1), .ref ml, .ref mh, .ref mj, .ref ms, .ref mg, .ref md, .int 0, .ref mk, .int (-1), .int 0, .long 0, .int 0, .int 0, .ref z29, .int 0, .ref z31, .ref z32, .ref z33, .ref z34, .ref z35, .int 0, .ref z37, .int 0, .ref z39, .int 0, .int 0, .int 0, .ref z43, .ref z44, .ref z45, .ref z46, .ref z47, .int 0, .ref z49, .ref z50, .ref z51, .int 0, .int 0]) := (congrFun e_f1 me).trans z_up_self
  have hfr : ∀ b ∈ L, b ≠ me → f1 b = f b := fun b hb h0 => (congrFun e_f1 b).trans (z_up_ne h0 (hfr b hb h0))
  refine lv_aload_n hx hb dX10_counter_5 rfl (lv_at hl 0 rfl) ?_
  refine lv_iload_n hx hb dX10_counter_6 rfl (lv_at hl 1 rfl) ?_
  refine z_calliV (cells := 0) (slots := 0) (b := me) (As := [.int xa]) (rest := []) (ci := 10) (q0 := (RX10, TX10, 54)) ⟨hx, hb, hml, hown, hT⟩ (c_X10_isGap l hm_me hm_mh hf_me hf_mh) (cwV 1 hT (z_goodV (fun _ h => h) kw_1519 kw_1521 kw_55 kw_96 kw_1522) rfl rfl rfl (by decide +kernel) ⟨by decide, by decide⟩) z_mv hKK hK hw hA hm_me hf_me rfl rfl rfl hl.1 rfl (Nat.le_of_ble_eq_true rfl) dX10_counter_7 ⟨by decide, by decide⟩ (fun r2 u H locs hp hw => ?_)
  obtain ⟨rfl, hp⟩ := hp
  have hw : z_H D vwCl (z_A L sz) s.heap L f1 H locs := hw
  obtain rfl := hp
  refine z_if_eq (tgt := 28) hx hb (show (0 : Int32).toInt = 0 by decide) dX10_counter_10 (by decide) (fun _ => ?_) (fun h => absurd h (by decide))
  refine lv_bipush (v := (-2)) hx hb dX10_counter_28 (by decide) ?_
  exact z_iret hx hb hr hlk (by decide) (by decide) hw (⟨hsub, hfr, by decide⟩) dX10_counter_30

set_option maxHeartbeats 2000000 in
set_option maxRecDepth 100000 in
theorem c_X10_through (l : Launch) {D : va_G} {cy : Nat → ClassId} {L : List Nat} {f : Nat → va_E} {sz : Nat} {me mw mn mc mv mt ml mh mj ms mg md mk z29 z31 z32 z33 z34 z35 z37 z39 z43 z44 z45 z46 z47 z49 z50 z51 : Nat}  {xa xb xc : Int32} (hm_me : me ∈ L) (hm_ml : ml ∈ L) (hm_mh : mh ∈ L) (hf_me : f me = .inr (10, [.int 0, .ref mw, .ref mn, .ref mc, .ref mv, .ref mt, .int 0, .int 0, .int 0, .int 0, .int 0, .long 0, .int 0, .int 0, .int 0, .int (-1), .ref ml, .ref mh, .ref mj, .ref ms, .ref mg, .ref md, .int 0, .ref mk, .int (-1), .int 0, .long 0, .int 0, .int 0, .ref z29, .int 0, .ref z31, .ref z32, .ref z33, .ref z34, .ref z35, .int 0, .ref z37, .int 0, .ref z39, .int 0, .int 0, .int 0, .ref z43, .ref z44, .ref z45, .ref z46, .ref z47, .int 0, .ref z49, .ref z50, .ref z51, .int 0, .int 0])) (hf_ml : f ml = .inl (cy 1, 5, .inl (fun _ => 0))) (hf_mh : f mh = .inl (cy 1, 30, .inl (fun _ => 0))) : Met l yX10_through (z_ws yX10_through cX10_through 4 (some .int)) (z_R 6 0 0) (va_Pc [.ref me, .int xa, .int xb, .int xc] (z_Pre D vwCl (z_K D cy) L f sz)) (z_Qi D vwCl (fun r u => (∀ b ∈ L, b ∈ u.1) ∧ (∀ b ∈ L, b ≠ me → u.2 b = f b) ∧ ((r.toInt = -2))) L sz) 0 0 (z_A L sz) := by
  refine z_met (cc := cX10_through) (maxL := 4) (ret := (some .int)) (lv := [(0, .ref me), (1, .int xa), (2, .int xb), (3, .int xc)]) (by decide) rfl (Nat.le_of_ble_eq_true rfl) rfl ?_
  intro p e s m below meth c ls hx hb hr hlk hml hown hnm hts hKK hA hw hl
  have hK := hKK.1
  have hown : s.vm.findClass RX10 = some m.cls := hown
  have hT : ∀ w ∈ lw_all, w.before ([.ref me, .int xa, .int xb, .int xc] : List Value).toArray s = true := fun w h => hts w (z_cons w h)
  have hsub : ∀ b ∈ L, b ∈ L := fun _ h => h
  have hfr : ∀ b ∈ L, b ≠ me → f b = f b := fun _ _ _ => rfl
  refine lv_aload_n hx hb dX10_through_0 rfl (lv_at hl 0 rfl) ?_
  refine lv_iconst (v := 0) hx hb dX10_through_1 (by decide) ?_
  refine z_put (C := RX10) (T := TX10) (N := 54) (ci := 10) (v := .int 0) (fs' := [.int 0, .ref mw, .ref mn, .ref mc, .ref mv, .ref mt, .int 0, .int 0, .int 0, .int 0, .int 0, .long 0, .int 0, .int 0, .int 0, .int (-1), .ref ml, .ref mh, .ref mj, .ref ms, .ref mg, .ref md, .int 0, .ref mk, .int (-1), .int 0, .long 0, .int 0, .int 0, .ref z29, .int 0, .ref z31, .ref z32, .ref z33, .ref z34, .ref z35, .int 0, .ref z37, .int 0, .ref z39, .int 0, .int 0, .int 0, .ref z43, .ref z44, .ref z45, .ref z46, .ref z47, .int 0, .ref z49, .ref z50, .ref z51, .int 0, .int 0]) hx hb hT zin_X10 tyX10_ok nmX10 hown hK hw hm_me hf_me rfl 0 (by decide) (hT _ kw_1168) rfl rfl rfl (Nat.le_of_ble_eq_true rfl) rfl dX10_through_2 (fun H locs hw => ?_)
  obtain ⟨f1, e_f1⟩ : ∃ z, z = va_up f me (.inr (10, [.int 0, .ref mw, .ref mn, .ref mc, .ref mv, .ref mt, .int 0, .int 0, .int 0, .int 0, .int 0, .long 0, .int 0, .int 0, .int 0, .int (-1), .ref ml, .ref mh, .ref mj, .ref ms, .ref mg, .ref md, .int 0, .ref mk, .int (-1), .int 0, .long 0, .int 0, .int 0, .ref z29, .int 0, .ref z31, .ref z32, .ref z33, .ref z34, .ref z35, .int 0, .ref z37, .int 0, .ref z39, .int 0, .int 0, .int 0, .ref z43, .ref z44, .ref z45, .ref z46, .ref z47, .int 0, .ref z49, .ref z50, .ref z51, .int 0, .int 0])) := ⟨_, rfl⟩
  rw [← e_f1] at hw
  have hf_ml : f1 ml = .inl (cy 1, 5, .inl (fun _ => 0)) := (congrFun e_f1 ml).trans (z_up_ne (z_tne hf_ml hf_me (m := 140) (n := 10) rfl rfl (by decide)) hf_ml)
  have hf_mh : f1 mh = .inl (cy 1, 30, .inl (fun _ => 0)) := (congrFun e_f1 mh).trans (z_up_ne (z_tne hf_mh hf_me (m := 340) (n := 10) rfl rfl (by decide)) hf_mh)
  have hf_me : f1 me = .inr (10, [.int 0, .ref mw, .ref mn, .ref mc, .ref mv, .ref mt, .int 0, .int 0, .int 0, .int 0, .int 0, .long 0, .int 0, .int 0, .int 0, .int (-1), .ref ml, .ref mh, .ref mj, .ref ms, .ref mg, .ref md, .int 0, .ref mk, .int (-1), .int 0, .long 0, .int 0, .int 0, .ref z29, .int 0, .ref z31, .ref z32, .ref z33, .ref z34, .ref z35, .int 0, .ref z37, .int 0, .ref z39, .int 0, .int 0, .int 0, .ref z43, .ref z44, .ref z45, .ref z46, .ref z47, .int 0, .ref z49, .ref z50, .ref z51, .int 0, .int 0]) := (congrFun e_f1 me).trans z_up_self
  have hfr : ∀ b ∈ L, b ≠ me → f1 b = f b := fun b hb h0 => (congrFun e_f1 b).trans (z_up_ne h0 (hfr b hb h0))
  refine lv_aload_n hx hb dX10_through_5 rfl (lv_at hl 0 rfl) ?_
  refine lv_iload_n hx hb dX10_through_6 rfl (lv_at hl 1 rfl) ?_
  refine z_calliV (cells := 0) (slots := 0) (b := me) (As := [.int xa]) (rest := []) (ci := 10) (q0 := (RX10, TX10, 54)) ⟨hx, hb, hml, hown, hT⟩ (c_X10_isGap l hm_me hm_mh hf_me hf_mh) (cwV 1 hT (z_goodV (fun _ h => h) kw_1519 kw_1521 kw_55 kw_96 kw_1522) rfl rfl rfl (by decide +kernel) ⟨by decide, by decide⟩) z_mv hKK hK hw hA hm_me hf_me rfl rfl rfl hl.1 rfl (Nat.le_of_ble_eq_true rfl) dX10_through_7 ⟨by decide, by decide⟩ (fun r2 u H locs hp hw => ?_)
  obtain ⟨rfl, hp⟩ := hp
  have hw : z_H D vwCl (z_A L sz) s.heap L f1 H locs := hw
  obtain rfl := hp
  refine z_if_eq (tgt := 31) hx hb (show (0 : Int32).toInt = 0 by decide) dX10_through_10 (by decide) (fun _ => ?_) (fun h => absurd h (by decide))
  refine lv_bipush (v := (-2)) hx hb dX10_through_31 (by decide) ?_
  exact z_iret hx hb hr hlk (by decide) (by decide) hw (⟨hsub, hfr, by decide⟩) dX10_through_33

set_option maxHeartbeats 2000000 in
set_option maxRecDepth 100000 in
theorem c_X10_dues (l : Launch) {D : va_G} {cy : Nat → ClassId} {L : List Nat} {f : Nat → va_E} {sz : Nat} {me mw mn mc mv mt ml mh mj ms mg md mk z29 z31 z32 z33 z34 z35 z37 z39 z43 z44 z45 z46 z47 z49 z50 z51 : Nat}  (hm_me : me ∈ L) (hm_ml : ml ∈ L) (hm_mh : mh ∈ L) (hf_me : f me = .inr (10, [.int 0, .ref mw, .ref mn, .ref mc, .ref mv, .ref mt, .int 0, .int 0, .int 0, .int 0, .int 0, .long 0, .int 0, .int 0, .int 0, .int (-1), .ref ml, .ref mh, .ref mj, .ref ms, .ref mg, .ref md, .int 0, .ref mk, .int (-1), .int 0, .long 0, .int 0, .int 0, .ref z29, .int 0, .ref z31, .ref z32, .ref z33, .ref z34, .ref z35, .int 0, .ref z37, .int 0, .ref z39, .int 0, .int 0, .int 0, .ref z43, .ref z44, .ref z45, .ref z46, .ref z47, .int 0, .ref z49, .ref z50, .ref z51, .int 0, .int 0])) (hf_ml : f ml = .inl (cy 1, 5, .inl (fun _ => 0))) (hf_mh : f mh = .inl (cy 1, 30, .inl (fun _ => 0))) : Met l yX10_dues (z_ws yX10_dues cX10_dues 1 (some .int)) (z_R 6 0 0) (va_Pc [.ref me] (z_Pre D vwCl (z_K D cy) L f sz)) (z_Qi D vwCl (fun r u => (∀ b ∈ L, b ∈ u.1) ∧ (∀ b ∈ L, b ≠ me → u.2 b = f b) ∧ ((r.toInt = -2))) L sz) 0 0 (z_A L sz) := by
  refine z_met (cc := cX10_dues) (maxL := 1) (ret := (some .int)) (lv := [(0, .ref me)]) (by decide) rfl (Nat.le_of_ble_eq_true rfl) rfl ?_
  intro p e s m below meth c ls hx hb hr hlk hml hown hnm hts hKK hA hw hl
  have hK := hKK.1
  have hown : s.vm.findClass RX10 = some m.cls := hown
  have hT : ∀ w ∈ lw_all, w.before ([.ref me] : List Value).toArray s = true := fun w h => hts w (z_cons w h)
  have hsub : ∀ b ∈ L, b ∈ L := fun _ h => h
  have hfr : ∀ b ∈ L, b ≠ me → f b = f b := fun _ _ _ => rfl
  refine lv_aload_n hx hb dX10_dues_0 rfl (lv_at hl 0 rfl) ?_
  refine lv_iconst (v := 0) hx hb dX10_dues_1 (by decide) ?_
  refine z_put (C := RX10) (T := TX10) (N := 54) (ci := 10) (v := .int 0) (fs' := [.int 0, .ref mw, .ref mn, .ref mc, .ref mv, .ref mt, .int 0, .int 0, .int 0, .int 0, .int 0, .long 0, .int 0, .int 0, .int 0, .int (-1), .ref ml, .ref mh, .ref mj, .ref ms, .ref mg, .ref md, .int 0, .ref mk, .int (-1), .int 0, .long 0, .int 0, .int 0, .ref z29, .int 0, .ref z31, .ref z32, .ref z33, .ref z34, .ref z35, .int 0, .ref z37, .int 0, .ref z39, .int 0, .int 0, .int 0, .ref z43, .ref z44, .ref z45, .ref z46, .ref z47, .int 0, .ref z49, .ref z50, .ref z51, .int 0, .int 0]) hx hb hT zin_X10 tyX10_ok nmX10 hown hK hw hm_me hf_me rfl 0 (by decide) (hT _ kw_1168) rfl rfl rfl (Nat.le_of_ble_eq_true rfl) rfl dX10_dues_2 (fun H locs hw => ?_)
  obtain ⟨f1, e_f1⟩ : ∃ z, z = va_up f me (.inr (10, [.int 0, .ref mw, .ref mn, .ref mc, .ref mv, .ref mt, .int 0, .int 0, .int 0, .int 0, .int 0, .long 0, .int 0, .int 0, .int 0, .int (-1), .ref ml, .ref mh, .ref mj, .ref ms, .ref mg, .ref md, .int 0, .ref mk, .int (-1), .int 0, .long 0, .int 0, .int 0, .ref z29, .int 0, .ref z31, .ref z32, .ref z33, .ref z34, .ref z35, .int 0, .ref z37, .int 0, .ref z39, .int 0, .int 0, .int 0, .ref z43, .ref z44, .ref z45, .ref z46, .ref z47, .int 0, .ref z49, .ref z50, .ref z51, .int 0, .int 0])) := ⟨_, rfl⟩
  rw [← e_f1] at hw
  have hf_ml : f1 ml = .inl (cy 1, 5, .inl (fun _ => 0)) := (congrFun e_f1 ml).trans (z_up_ne (z_tne hf_ml hf_me (m := 140) (n := 10) rfl rfl (by decide)) hf_ml)
  have hf_mh : f1 mh = .inl (cy 1, 30, .inl (fun _ => 0)) := (congrFun e_f1 mh).trans (z_up_ne (z_tne hf_mh hf_me (m := 340) (n := 10) rfl rfl (by decide)) hf_mh)
  have hf_me : f1 me = .inr (10, [.int 0, .ref mw, .ref mn, .ref mc, .ref mv, .ref mt, .int 0, .int 0, .int 0, .int 0, .int 0, .long 0, .int 0, .int 0, .int 0, .int (-1), .ref ml, .ref mh, .ref mj, .ref ms, .ref mg, .ref md, .int 0, .ref mk, .int (-1), .int 0, .long 0, .int 0, .int 0, .ref z29, .int 0, .ref z31, .ref z32, .ref z33, .ref z34, .ref z35, .int 0, .ref z37, .int 0, .ref z39, .int 0, .int 0, .int 0, .ref z43, .ref z44, .ref z45, .ref z46, .ref z47, .int 0, .ref z49, .ref z50, .ref z51, .int 0, .int 0]) := (congrFun e_f1 me).trans z_up_self
  have hfr : ∀ b ∈ L, b ≠ me → f1 b = f b := fun b hb h0 => (congrFun e_f1 b).trans (z_up_ne h0 (hfr b hb h0))
  refine lv_aload_n hx hb dX10_dues_5 rfl (lv_at hl 0 rfl) ?_
  refine z_calliV (cells := 0) (slots := 0) (b := me) (As := []) (rest := []) (ci := 10) (q0 := (RX10, TX10, 54)) ⟨hx, hb, hml, hown, hT⟩ (c_X10_isMoor l hm_me hm_ml hf_me hf_ml) (cwV 0 hT (z_goodV (fun _ h => h) kw_1507 kw_1509 kw_54 kw_96 kw_1510) rfl rfl rfl (by decide +kernel) ⟨by decide, by decide⟩) z_mv hKK hK hw hA hm_me hf_me rfl rfl rfl hl.1 rfl (Nat.le_of_ble_eq_true rfl) dX10_dues_6 ⟨by decide, by decide⟩ (fun r2 u H locs hp hw => ?_)
  obtain ⟨rfl, hp⟩ := hp
  have hw : z_H D vwCl (z_A L sz) s.heap L f1 H locs := hw
  obtain rfl := hp
  refine z_if_ne (tgt := 15) hx hb (show (0 : Int32).toInt = 0 by decide) dX10_dues_9 (by decide) (fun h => absurd h (by decide)) (fun _ => ?_)
  refine lv_bipush (v := (-2)) hx hb dX10_dues_12 (by decide) ?_
  exact z_iret hx hb hr hlk (by decide) (by decide) hw (⟨hsub, hfr, by decide⟩) dX10_dues_14

set_option maxHeartbeats 2000000 in
set_option maxRecDepth 100000 in
theorem c_X10_due (l : Launch) {D : va_G} {cy : Nat → ClassId} {L : List Nat} {f : Nat → va_E} {sz : Nat} {me mw mn mc mv mt ml mh mj ms mg md mk z29 z31 z32 z33 z34 z35 z37 z39 z43 z44 z45 z46 z47 z49 z50 z51 : Nat}  {xa xb : Int32} (hm_me : me ∈ L) (hm_ml : ml ∈ L) (hm_mh : mh ∈ L) (hf_me : f me = .inr (10, [.int 0, .ref mw, .ref mn, .ref mc, .ref mv, .ref mt, .int 0, .int 0, .int 0, .int 0, .int 0, .long 0, .int 0, .int 0, .int 0, .int (-1), .ref ml, .ref mh, .ref mj, .ref ms, .ref mg, .ref md, .int 0, .ref mk, .int (-1), .int 0, .long 0, .int 0, .int 0, .ref z29, .int 0, .ref z31, .ref z32, .ref z33, .ref z34, .ref z35, .int 0, .ref z37, .int 0, .ref z39, .int 0, .int 0, .int 0, .ref z43, .ref z44, .ref z45, .ref z46, .ref z47, .int 0, .ref z49, .ref z50, .ref z51, .int 0, .int 0])) (hf_ml : f ml = .inl (cy 1, 5, .inl (fun _ => 0))) (hf_mh : f mh = .inl (cy 1, 30, .inl (fun _ => 0))) : Met l yX10_due (z_ws yX10_due cX10_due 5 (some .int)) (z_R 6 0 0) (va_Pc [.ref me, .int xa, .int xb] (z_Pre D vwCl (z_K D cy) L f sz)) (z_Qi D vwCl (fun r u => (∀ b ∈ L, b ∈ u.1) ∧ (∀ b ∈ L, b ≠ me → u.2 b = f b) ∧ ((r.toInt = -2))) L sz) 0 0 (z_A L sz) := by
  refine z_met (cc := cX10_due) (maxL := 5) (ret := (some .int)) (lv := [(0, .ref me), (1, .int xa), (2, .int xb)]) (by decide) rfl (Nat.le_of_ble_eq_true rfl) rfl ?_
  intro p e s m below meth c ls hx hb hr hlk hml hown hnm hts hKK hA hw hl
  have hK := hKK.1
  have hown : s.vm.findClass RX10 = some m.cls := hown
  have hT : ∀ w ∈ lw_all, w.before ([.ref me, .int xa, .int xb] : List Value).toArray s = true := fun w h => hts w (z_cons w h)
  have hsub : ∀ b ∈ L, b ∈ L := fun _ h => h
  have hfr : ∀ b ∈ L, b ≠ me → f b = f b := fun _ _ _ => rfl
  refine lv_aload_n hx hb dX10_due_0 rfl (lv_at hl 0 rfl) ?_
  refine lv_iconst (v := 0) hx hb dX10_due_1 (by decide) ?_
  refine z_put (C := RX10) (T := TX10) (N := 54) (ci := 10) (v := .int 0) (fs' := [.int 0, .ref mw, .ref mn, .ref mc, .ref mv, .ref mt, .int 0, .int 0, .int 0, .int 0, .int 0, .long 0, .int 0, .int 0, .int 0, .int (-1), .ref ml, .ref mh, .ref mj, .ref ms, .ref mg, .ref md, .int 0, .ref mk, .int (-1), .int 0, .long 0, .int 0, .int 0, .ref z29, .int 0, .ref z31, .ref z32, .ref z33, .ref z34, .ref z35, .int 0, .ref z37, .int 0, .ref z39, .int 0, .int 0, .int 0, .ref z43, .ref z44, .ref z45, .ref z46, .ref z47, .int 0, .ref z49, .ref z50, .ref z51, .int 0, .int 0]) hx hb hT zin_X10 tyX10_ok nmX10 hown hK hw hm_me hf_me rfl 0 (by decide) (hT _ kw_1168) rfl rfl rfl (Nat.le_of_ble_eq_true rfl) rfl dX10_due_2 (fun H locs hw => ?_)
  obtain ⟨f1, e_f1⟩ : ∃ z, z = va_up f me (.inr (10, [.int 0, .ref mw, .ref mn, .ref mc, .ref mv, .ref mt, .int 0, .int 0, .int 0, .int 0, .int 0, .long 0, .int 0, .int 0, .int 0, .int (-1), .ref ml, .ref mh, .ref mj, .ref ms, .ref mg, .ref md, .int 0, .ref mk, .int (-1), .int 0, .long 0, .int 0, .int 0, .ref z29, .int 0, .ref z31, .ref z32, .ref z33, .ref z34, .ref z35, .int 0, .ref z37, .int 0, .ref z39, .int 0, .int 0, .int 0, .ref z43, .ref z44, .ref z45, .ref z46, .ref z47, .int 0, .ref z49, .ref z50, .ref z51, .int 0, .int 0])) := ⟨_, rfl⟩
  rw [← e_f1] at hw
  have hf_ml : f1 ml = .inl (cy 1, 5, .inl (fun _ => 0)) := (congrFun e_f1 ml).trans (z_up_ne (z_tne hf_ml hf_me (m := 140) (n := 10) rfl rfl (by decide)) hf_ml)
  have hf_mh : f1 mh = .inl (cy 1, 30, .inl (fun _ => 0)) := (congrFun e_f1 mh).trans (z_up_ne (z_tne hf_mh hf_me (m := 340) (n := 10) rfl rfl (by decide)) hf_mh)
  have hf_me : f1 me = .inr (10, [.int 0, .ref mw, .ref mn, .ref mc, .ref mv, .ref mt, .int 0, .int 0, .int 0, .int 0, .int 0, .long 0, .int 0, .int 0, .int 0, .int (-1), .ref ml, .ref mh, .ref mj, .ref ms, .ref mg, .ref md, .int 0, .ref mk, .int (-1), .int 0, .long 0, .int 0, .int 0, .ref z29, .int 0, .ref z31, .ref z32, .ref z33, .ref z34, .ref z35, .int 0, .ref z37, .int 0, .ref z39, .int 0, .int 0, .int 0, .ref z43, .ref z44, .ref z45, .ref z46, .ref z47, .int 0, .ref z49, .ref z50, .ref z51, .int 0, .int 0]) := (congrFun e_f1 me).trans z_up_self
  have hfr : ∀ b ∈ L, b ≠ me → f1 b = f b := fun b hb h0 => (congrFun e_f1 b).trans (z_up_ne h0 (hfr b hb h0))
  refine lv_aload_n hx hb dX10_due_5 rfl (lv_at hl 0 rfl) ?_
  refine z_calliV (cells := 0) (slots := 0) (b := me) (As := []) (rest := []) (ci := 10) (q0 := (RX10, TX10, 54)) ⟨hx, hb, hml, hown, hT⟩ (c_X10_isMoor l hm_me hm_ml hf_me hf_ml) (cwV 0 hT (z_goodV (fun _ h => h) kw_1507 kw_1509 kw_54 kw_96 kw_1510) rfl rfl rfl (by decide +kernel) ⟨by decide, by decide⟩) z_mv hKK hK hw hA hm_me hf_me rfl rfl rfl hl.1 rfl (Nat.le_of_ble_eq_true rfl) dX10_due_6 ⟨by decide, by decide⟩ (fun r2 u H locs hp hw => ?_)
  obtain ⟨rfl, hp⟩ := hp
  have hw : z_H D vwCl (z_A L sz) s.heap L f1 H locs := hw
  obtain rfl := hp
  refine z_if_eq (tgt := 24) hx hb (show (0 : Int32).toInt = 0 by decide) dX10_due_9 (by decide) (fun _ => ?_) (fun h => absurd h (by decide))
  refine lv_bipush (v := (-2)) hx hb dX10_due_24 (by decide) ?_
  exact z_iret hx hb hr hlk (by decide) (by decide) hw (⟨hsub, hfr, by decide⟩) dX10_due_26

set_option maxHeartbeats 2000000 in
set_option maxRecDepth 100000 in
theorem c_X10_paid (l : Launch) {D : va_G} {cy : Nat → ClassId} {L : List Nat} {f : Nat → va_E} {sz : Nat} {me mw mn mc mv mt ml mh mj ms mg md mk z29 z31 z32 z33 z34 z35 z37 z39 z43 z44 z45 z46 z47 z49 z50 z51 : Nat}  {xa : Int32} (hm_me : me ∈ L) (hm_ml : ml ∈ L) (hm_mh : mh ∈ L) (hf_me : f me = .inr (10, [.int 0, .ref mw, .ref mn, .ref mc, .ref mv, .ref mt, .int 0, .int 0, .int 0, .int 0, .int 0, .long 0, .int 0, .int 0, .int 0, .int (-1), .ref ml, .ref mh, .ref mj, .ref ms, .ref mg, .ref md, .int 0, .ref mk, .int (-1), .int 0, .long 0, .int 0, .int 0, .ref z29, .int 0, .ref z31, .ref z32, .ref z33, .ref z34, .ref z35, .int 0, .ref z37, .int 0, .ref z39, .int 0, .int 0, .int 0, .ref z43, .ref z44, .ref z45, .ref z46, .ref z47, .int 0, .ref z49, .ref z50, .ref z51, .int 0, .int 0])) (hf_ml : f ml = .inl (cy 1, 5, .inl (fun _ => 0))) (hf_mh : f mh = .inl (cy 1, 30, .inl (fun _ => 0))) : Met l yX10_paid (z_ws yX10_paid cX10_paid 2 (some .int)) (z_R 6 0 0) (va_Pc [.ref me, .int xa] (z_Pre D vwCl (z_K D cy) L f sz)) (z_Qi D vwCl (fun r u => (∀ b ∈ L, b ∈ u.1) ∧ (∀ b ∈ L, b ≠ me → u.2 b = f b) ∧ ((r.toInt = -2))) L sz) 0 0 (z_A L sz) := by
  refine z_met (cc := cX10_paid) (maxL := 2) (ret := (some .int)) (lv := [(0, .ref me), (1, .int xa)]) (by decide) rfl (Nat.le_of_ble_eq_true rfl) rfl ?_
  intro p e s m below meth c ls hx hb hr hlk hml hown hnm hts hKK hA hw hl
  have hK := hKK.1
  have hown : s.vm.findClass RX10 = some m.cls := hown
  have hT : ∀ w ∈ lw_all, w.before ([.ref me, .int xa] : List Value).toArray s = true := fun w h => hts w (z_cons w h)
  have hsub : ∀ b ∈ L, b ∈ L := fun _ h => h
  have hfr : ∀ b ∈ L, b ≠ me → f b = f b := fun _ _ _ => rfl
  refine lv_aload_n hx hb dX10_paid_0 rfl (lv_at hl 0 rfl) ?_
  refine lv_iconst (v := 0) hx hb dX10_paid_1 (by decide) ?_
  refine z_put (C := RX10) (T := TX10) (N := 54) (ci := 10) (v := .int 0) (fs' := [.int 0, .ref mw, .ref mn, .ref mc, .ref mv, .ref mt, .int 0, .int 0, .int 0, .int 0, .int 0, .long 0, .int 0, .int 0, .int 0, .int (-1), .ref ml, .ref mh, .ref mj, .ref ms, .ref mg, .ref md, .int 0, .ref mk, .int (-1), .int 0, .long 0, .int 0, .int 0, .ref z29, .int 0, .ref z31, .ref z32, .ref z33, .ref z34, .ref z35, .int 0, .ref z37, .int 0, .ref z39, .int 0, .int 0, .int 0, .ref z43, .ref z44, .ref z45, .ref z46, .ref z47, .int 0, .ref z49, .ref z50, .ref z51, .int 0, .int 0]) hx hb hT zin_X10 tyX10_ok nmX10 hown hK hw hm_me hf_me rfl 0 (by decide) (hT _ kw_1168) rfl rfl rfl (Nat.le_of_ble_eq_true rfl) rfl dX10_paid_2 (fun H locs hw => ?_)
  obtain ⟨f1, e_f1⟩ : ∃ z, z = va_up f me (.inr (10, [.int 0, .ref mw, .ref mn, .ref mc, .ref mv, .ref mt, .int 0, .int 0, .int 0, .int 0, .int 0, .long 0, .int 0, .int 0, .int 0, .int (-1), .ref ml, .ref mh, .ref mj, .ref ms, .ref mg, .ref md, .int 0, .ref mk, .int (-1), .int 0, .long 0, .int 0, .int 0, .ref z29, .int 0, .ref z31, .ref z32, .ref z33, .ref z34, .ref z35, .int 0, .ref z37, .int 0, .ref z39, .int 0, .int 0, .int 0, .ref z43, .ref z44, .ref z45, .ref z46, .ref z47, .int 0, .ref z49, .ref z50, .ref z51, .int 0, .int 0])) := ⟨_, rfl⟩
  rw [← e_f1] at hw
  have hf_ml : f1 ml = .inl (cy 1, 5, .inl (fun _ => 0)) := (congrFun e_f1 ml).trans (z_up_ne (z_tne hf_ml hf_me (m := 140) (n := 10) rfl rfl (by decide)) hf_ml)
  have hf_mh : f1 mh = .inl (cy 1, 30, .inl (fun _ => 0)) := (congrFun e_f1 mh).trans (z_up_ne (z_tne hf_mh hf_me (m := 340) (n := 10) rfl rfl (by decide)) hf_mh)
  have hf_me : f1 me = .inr (10, [.int 0, .ref mw, .ref mn, .ref mc, .ref mv, .ref mt, .int 0, .int 0, .int 0, .int 0, .int 0, .long 0, .int 0, .int 0, .int 0, .int (-1), .ref ml, .ref mh, .ref mj, .ref ms, .ref mg, .ref md, .int 0, .ref mk, .int (-1), .int 0, .long 0, .int 0, .int 0, .ref z29, .int 0, .ref z31, .ref z32, .ref z33, .ref z34, .ref z35, .int 0, .ref z37, .int 0, .ref z39, .int 0, .int 0, .int 0, .ref z43, .ref z44, .ref z45, .ref z46, .ref z47, .int 0, .ref z49, .ref z50, .ref z51, .int 0, .int 0]) := (congrFun e_f1 me).trans z_up_self
  have hfr : ∀ b ∈ L, b ≠ me → f1 b = f b := fun b hb h0 => (congrFun e_f1 b).trans (z_up_ne h0 (hfr b hb h0))
  refine lv_aload_n hx hb dX10_paid_5 rfl (lv_at hl 0 rfl) ?_
  refine lv_iload_n hx hb dX10_paid_6 rfl (lv_at hl 1 rfl) ?_
  refine lv_i2l hx hb dX10_paid_7 rfl ?_
  refine lv_topl (fun w2 e_w2 => ?_)
  have i_w2 : w2.toInt = xa.toInt := z_i2l e_w2 rfl
  refine z_calliV (cells := 0) (slots := 0) (b := me) (As := [.long w2]) (rest := []) (ci := 10) (q0 := (RX10, TX10, 54)) ⟨hx, hb, hml, hown, hT⟩ (c_X10_isOwner l hm_me hm_ml hf_me hf_ml) (cwV 1 hT (z_goodV (fun _ h => h) kw_1604 kw_1606 kw_69 kw_96 kw_1607) rfl rfl rfl (by decide +kernel) ⟨by decide, by decide⟩) z_mv hKK hK hw hA hm_me hf_me rfl rfl rfl hl.1 rfl (Nat.le_of_ble_eq_true rfl) dX10_paid_8 ⟨by decide, by decide⟩ (fun r3 u H locs hp hw => ?_)
  obtain ⟨rfl, hp⟩ := hp
  have hw : z_H D vwCl (z_A L sz) s.heap L f1 H locs := hw
  obtain rfl := hp
  refine z_if_ne (tgt := 17) hx hb (show (0 : Int32).toInt = 0 by decide) dX10_paid_11 (by decide) (fun h => absurd h (by decide)) (fun _ => ?_)
  refine lv_bipush (v := (-2)) hx hb dX10_paid_14 (by decide) ?_
  exact z_iret hx hb hr hlk (by decide) (by decide) hw (⟨hsub, hfr, by decide⟩) dX10_paid_16

set_option maxHeartbeats 2000000 in
set_option maxRecDepth 100000 in
theorem c_X10_pays (l : Launch) {D : va_G} {cy : Nat → ClassId} {L : List Nat} {f : Nat → va_E} {sz : Nat} {me mw mn mc mv mt ml mh mj ms mg md mk z29 z31 z32 z33 z34 z35 z37 z39 z43 z44 z45 z46 z47 z49 z50 z51 : Nat}  {xa xb : Int32} (hm_me : me ∈ L) (hm_ml : ml ∈ L) (hm_mh : mh ∈ L) (hf_me : f me = .inr (10, [.int 0, .ref mw, .ref mn, .ref mc, .ref mv, .ref mt, .int 0, .int 0, .int 0, .int 0, .int 0, .long 0, .int 0, .int 0, .int 0, .int (-1), .ref ml, .ref mh, .ref mj, .ref ms, .ref mg, .ref md, .int 0, .ref mk, .int (-1), .int 0, .long 0, .int 0, .int 0, .ref z29, .int 0, .ref z31, .ref z32, .ref z33, .ref z34, .ref z35, .int 0, .ref z37, .int 0, .ref z39, .int 0, .int 0, .int 0, .ref z43, .ref z44, .ref z45, .ref z46, .ref z47, .int 0, .ref z49, .ref z50, .ref z51, .int 0, .int 0])) (hf_ml : f ml = .inl (cy 1, 5, .inl (fun _ => 0))) (hf_mh : f mh = .inl (cy 1, 30, .inl (fun _ => 0))) : Met l yX10_pays (z_ws yX10_pays cX10_pays 5 (some .int)) (z_R 6 0 0) (va_Pc [.ref me, .int xa, .int xb] (z_Pre D vwCl (z_K D cy) L f sz)) (z_Qi D vwCl (fun r u => (∀ b ∈ L, b ∈ u.1) ∧ (∀ b ∈ L, b ≠ me → u.2 b = f b) ∧ ((r.toInt = -2))) L sz) 0 0 (z_A L sz) := by
  refine z_met (cc := cX10_pays) (maxL := 5) (ret := (some .int)) (lv := [(0, .ref me), (1, .int xa), (2, .int xb)]) (by decide) rfl (Nat.le_of_ble_eq_true rfl) rfl ?_
  intro p e s m below meth c ls hx hb hr hlk hml hown hnm hts hKK hA hw hl
  have hK := hKK.1
  have hown : s.vm.findClass RX10 = some m.cls := hown
  have hT : ∀ w ∈ lw_all, w.before ([.ref me, .int xa, .int xb] : List Value).toArray s = true := fun w h => hts w (z_cons w h)
  have hsub : ∀ b ∈ L, b ∈ L := fun _ h => h
  have hfr : ∀ b ∈ L, b ≠ me → f b = f b := fun _ _ _ => rfl
  refine lv_aload_n hx hb dX10_pays_0 rfl (lv_at hl 0 rfl) ?_
  refine lv_iconst (v := 0) hx hb dX10_pays_1 (by decide) ?_
  refine z_put (C := RX10) (T := TX10) (N := 54) (ci := 10) (v := .int 0) (fs' := [.int 0, .ref mw, .ref mn, .ref mc, .ref mv, .ref mt, .int 0, .int 0, .int 0, .int 0, .int 0, .long 0, .int 0, .int 0, .int 0, .int (-1), .ref ml, .ref mh, .ref mj, .ref ms, .ref mg, .ref md, .int 0, .ref mk, .int (-1), .int 0, .long 0, .int 0, .int 0, .ref z29, .int 0, .ref z31, .ref z32, .ref z33, .ref z34, .ref z35, .int 0, .ref z37, .int 0, .ref z39, .int 0, .int 0, .int 0, .ref z43, .ref z44, .ref z45, .ref z46, .ref z47, .int 0, .ref z49, .ref z50, .ref z51, .int 0, .int 0]) hx hb hT zin_X10 tyX10_ok nmX10 hown hK hw hm_me hf_me rfl 0 (by decide) (hT _ kw_1168) rfl rfl rfl (Nat.le_of_ble_eq_true rfl) rfl dX10_pays_2 (fun H locs hw => ?_)
  obtain ⟨f1, e_f1⟩ : ∃ z, z = va_up f me (.inr (10, [.int 0, .ref mw, .ref mn, .ref mc, .ref mv, .ref mt, .int 0, .int 0, .int 0, .int 0, .int 0, .long 0, .int 0, .int 0, .int 0, .int (-1), .ref ml, .ref mh, .ref mj, .ref ms, .ref mg, .ref md, .int 0, .ref mk, .int (-1), .int 0, .long 0, .int 0, .int 0, .ref z29, .int 0, .ref z31, .ref z32, .ref z33, .ref z34, .ref z35, .int 0, .ref z37, .int 0, .ref z39, .int 0, .int 0, .int 0, .ref z43, .ref z44, .ref z45, .ref z46, .ref z47, .int 0, .ref z49, .ref z50, .ref z51, .int 0, .int 0])) := ⟨_, rfl⟩
  rw [← e_f1] at hw
  have hf_ml : f1 ml = .inl (cy 1, 5, .inl (fun _ => 0)) := (congrFun e_f1 ml).trans (z_up_ne (z_tne hf_ml hf_me (m := 140) (n := 10) rfl rfl (by decide)) hf_ml)
  have hf_mh : f1 mh = .inl (cy 1, 30, .inl (fun _ => 0)) := (congrFun e_f1 mh).trans (z_up_ne (z_tne hf_mh hf_me (m := 340) (n := 10) rfl rfl (by decide)) hf_mh)
  have hf_me : f1 me = .inr (10, [.int 0, .ref mw, .ref mn, .ref mc, .ref mv, .ref mt, .int 0, .int 0, .int 0, .int 0, .int 0, .long 0, .int 0, .int 0, .int 0, .int (-1), .ref ml, .ref mh, .ref mj, .ref ms, .ref mg, .ref md, .int 0, .ref mk, .int (-1), .int 0, .long 0, .int 0, .int 0, .ref z29, .int 0, .ref z31, .ref z32, .ref z33, .ref z34, .ref z35, .int 0, .ref z37, .int 0, .ref z39, .int 0, .int 0, .int 0, .ref z43, .ref z44, .ref z45, .ref z46, .ref z47, .int 0, .ref z49, .ref z50, .ref z51, .int 0, .int 0]) := (congrFun e_f1 me).trans z_up_self
  have hfr : ∀ b ∈ L, b ≠ me → f1 b = f b := fun b hb h0 => (congrFun e_f1 b).trans (z_up_ne h0 (hfr b hb h0))
  refine lv_aload_n hx hb dX10_pays_5 rfl (lv_at hl 0 rfl) ?_
  refine lv_iload_n hx hb dX10_pays_6 rfl (lv_at hl 1 rfl) ?_
  refine lv_i2l hx hb dX10_pays_7 rfl ?_
  refine lv_topl (fun w2 e_w2 => ?_)
  have i_w2 : w2.toInt = xa.toInt := z_i2l e_w2 rfl
  refine z_calliV (cells := 0) (slots := 0) (b := me) (As := [.long w2]) (rest := []) (ci := 10) (q0 := (RX10, TX10, 54)) ⟨hx, hb, hml, hown, hT⟩ (c_X10_isOwner l hm_me hm_ml hf_me hf_ml) (cwV 1 hT (z_goodV (fun _ h => h) kw_1604 kw_1606 kw_69 kw_96 kw_1607) rfl rfl rfl (by decide +kernel) ⟨by decide, by decide⟩) z_mv hKK hK hw hA hm_me hf_me rfl rfl rfl hl.1 rfl (Nat.le_of_ble_eq_true rfl) dX10_pays_8 ⟨by decide, by decide⟩ (fun r3 u H locs hp hw => ?_)
  obtain ⟨rfl, hp⟩ := hp
  have hw : z_H D vwCl (z_A L sz) s.heap L f1 H locs := hw
  obtain rfl := hp
  refine z_if_eq (tgt := 22) hx hb (show (0 : Int32).toInt = 0 by decide) dX10_pays_11 (by decide) (fun _ => ?_) (fun h => absurd h (by decide))
  refine lv_bipush (v := (-2)) hx hb dX10_pays_22 (by decide) ?_
  exact z_iret hx hb hr hlk (by decide) (by decide) hw (⟨hsub, hfr, by decide⟩) dX10_pays_24

set_option maxHeartbeats 2000000 in
set_option maxRecDepth 100000 in
theorem c_X10_worst (l : Launch) {D : va_G} {cy : Nat → ClassId} {L : List Nat} {f : Nat → va_E} {sz : Nat} {me mw mn mc mv mt ml mh mj ms mg md mk z29 z31 z32 z33 z34 z35 z37 z39 z43 z44 z45 z46 z47 z49 z50 z51 : Nat}  (hm_me : me ∈ L) (hm_ml : ml ∈ L) (hm_mh : mh ∈ L) (hf_me : f me = .inr (10, [.int 0, .ref mw, .ref mn, .ref mc, .ref mv, .ref mt, .int 0, .int 0, .int 0, .int 0, .int 0, .long 0, .int 0, .int 0, .int 0, .int (-1), .ref ml, .ref mh, .ref mj, .ref ms, .ref mg, .ref md, .int 0, .ref mk, .int (-1), .int 0, .long 0, .int 0, .int 0, .ref z29, .int 0, .ref z31, .ref z32, .ref z33, .ref z34, .ref z35, .int 0, .ref z37, .int 0, .ref z39, .int 0, .int 0, .int 0, .ref z43, .ref z44, .ref z45, .ref z46, .ref z47, .int 0, .ref z49, .ref z50, .ref z51, .int 0, .int 0])) (hf_ml : f ml = .inl (cy 1, 5, .inl (fun _ => 0))) (hf_mh : f mh = .inl (cy 1, 30, .inl (fun _ => 0))) : Met l yX10_worst (z_ws yX10_worst cX10_worst 3 (some .int)) (z_R 6 0 0) (va_Pc [.ref me] (z_Pre D vwCl (z_K D cy) L f sz)) (z_Qi D vwCl (fun r u => (∀ b ∈ L, b ∈ u.1) ∧ (∀ b ∈ L, b ≠ me → u.2 b = f b) ∧ ((r.toInt = -2))) L sz) 0 0 (z_A L sz) := by
  refine z_met (cc := cX10_worst) (maxL := 3) (ret := (some .int)) (lv := [(0, .ref me)]) (by decide) rfl (Nat.le_of_ble_eq_true rfl) rfl ?_
  intro p e s m below meth c ls hx hb hr hlk hml hown hnm hts hKK hA hw hl
  have hK := hKK.1
  have hown : s.vm.findClass RX10 = some m.cls := hown
  have hT : ∀ w ∈ lw_all, w.before ([.ref me] : List Value).toArray s = true := fun w h => hts w (z_cons w h)
  have hsub : ∀ b ∈ L, b ∈ L := fun _ h => h
  have hfr : ∀ b ∈ L, b ≠ me → f b = f b := fun _ _ _ => rfl
  refine lv_aload_n hx hb dX10_worst_0 rfl (lv_at hl 0 rfl) ?_
  refine lv_iconst (v := 0) hx hb dX10_worst_1 (by decide) ?_
  refine z_put (C := RX10) (T := TX10) (N := 54) (ci := 10) (v := .int 0) (fs' := [.int 0, .ref mw, .ref mn, .ref mc, .ref mv, .ref mt, .int 0, .int 0, .int 0, .int 0, .int 0, .long 0, .int 0, .int 0, .int 0, .int (-1), .ref ml, .ref mh, .ref mj, .ref ms, .ref mg, .ref md, .int 0, .ref mk, .int (-1), .int 0, .long 0, .int 0, .int 0, .ref z29, .int 0, .ref z31, .ref z32, .ref z33, .ref z34, .ref z35, .int 0, .ref z37, .int 0, .ref z39, .int 0, .int 0, .int 0, .ref z43, .ref z44, .ref z45, .ref z46, .ref z47, .int 0, .ref z49, .ref z50, .ref z51, .int 0, .int 0]) hx hb hT zin_X10 tyX10_ok nmX10 hown hK hw hm_me hf_me rfl 0 (by decide) (hT _ kw_1168) rfl rfl rfl (Nat.le_of_ble_eq_true rfl) rfl dX10_worst_2 (fun H locs hw => ?_)
  obtain ⟨f1, e_f1⟩ : ∃ z, z = va_up f me (.inr (10, [.int 0, .ref mw, .ref mn, .ref mc, .ref mv, .ref mt, .int 0, .int 0, .int 0, .int 0, .int 0, .long 0, .int 0, .int 0, .int 0, .int (-1), .ref ml, .ref mh, .ref mj, .ref ms, .ref mg, .ref md, .int 0, .ref mk, .int (-1), .int 0, .long 0, .int 0, .int 0, .ref z29, .int 0, .ref z31, .ref z32, .ref z33, .ref z34, .ref z35, .int 0, .ref z37, .int 0, .ref z39, .int 0, .int 0, .int 0, .ref z43, .ref z44, .ref z45, .ref z46, .ref z47, .int 0, .ref z49, .ref z50, .ref z51, .int 0, .int 0])) := ⟨_, rfl⟩
  rw [← e_f1] at hw
  have hf_ml : f1 ml = .inl (cy 1, 5, .inl (fun _ => 0)) := (congrFun e_f1 ml).trans (z_up_ne (z_tne hf_ml hf_me (m := 140) (n := 10) rfl rfl (by decide)) hf_ml)
  have hf_mh : f1 mh = .inl (cy 1, 30, .inl (fun _ => 0)) := (congrFun e_f1 mh).trans (z_up_ne (z_tne hf_mh hf_me (m := 340) (n := 10) rfl rfl (by decide)) hf_mh)
  have hf_me : f1 me = .inr (10, [.int 0, .ref mw, .ref mn, .ref mc, .ref mv, .ref mt, .int 0, .int 0, .int 0, .int 0, .int 0, .long 0, .int 0, .int 0, .int 0, .int (-1), .ref ml, .ref mh, .ref mj, .ref ms, .ref mg, .ref md, .int 0, .ref mk, .int (-1), .int 0, .long 0, .int 0, .int 0, .ref z29, .int 0, .ref z31, .ref z32, .ref z33, .ref z34, .ref z35, .int 0, .ref z37, .int 0, .ref z39, .int 0, .int 0, .int 0, .ref z43, .ref z44, .ref z45, .ref z46, .ref z47, .int 0, .ref z49, .ref z50, .ref z51, .int 0, .int 0]) := (congrFun e_f1 me).trans z_up_self
  have hfr : ∀ b ∈ L, b ≠ me → f1 b = f b := fun b hb h0 => (congrFun e_f1 b).trans (z_up_ne h0 (hfr b hb h0))
  refine lv_aload_n hx hb dX10_worst_5 rfl (lv_at hl 0 rfl) ?_
  refine z_calliV (cells := 0) (slots := 0) (b := me) (As := []) (rest := []) (ci := 10) (q0 := (RX10, TX10, 54)) ⟨hx, hb, hml, hown, hT⟩ (c_X10_isMoor l hm_me hm_ml hf_me hf_ml) (cwV 0 hT (z_goodV (fun _ h => h) kw_1507 kw_1509 kw_54 kw_96 kw_1510) rfl rfl rfl (by decide +kernel) ⟨by decide, by decide⟩) z_mv hKK hK hw hA hm_me hf_me rfl rfl rfl hl.1 rfl (Nat.le_of_ble_eq_true rfl) dX10_worst_6 ⟨by decide, by decide⟩ (fun r2 u H locs hp hw => ?_)
  obtain ⟨rfl, hp⟩ := hp
  have hw : z_H D vwCl (z_A L sz) s.heap L f1 H locs := hw
  obtain rfl := hp
  refine z_if_ne (tgt := 15) hx hb (show (0 : Int32).toInt = 0 by decide) dX10_worst_9 (by decide) (fun h => absurd h (by decide)) (fun _ => ?_)
  refine lv_bipush (v := (-2)) hx hb dX10_worst_12 (by decide) ?_
  exact z_iret hx hb hr hlk (by decide) (by decide) hw (⟨hsub, hfr, by decide⟩) dX10_worst_14

set_option maxHeartbeats 2000000 in
set_option maxRecDepth 100000 in
theorem c_X10_left (l : Launch) {D : va_G} {cy : Nat → ClassId} {L : List Nat} {f : Nat → va_E} {sz : Nat} {me mw mn mc mv mt ml mh mj ms mg md mk z29 z31 z32 z33 z34 z35 z37 z39 z43 z44 z45 z46 z47 z49 z50 z51 : Nat}  {xa : Int32} (hm_me : me ∈ L) (hm_ml : ml ∈ L) (hm_mh : mh ∈ L) (hf_me : f me = .inr (10, [.int 0, .ref mw, .ref mn, .ref mc, .ref mv, .ref mt, .int 0, .int 0, .int 0, .int 0, .int 0, .long 0, .int 0, .int 0, .int 0, .int (-1), .ref ml, .ref mh, .ref mj, .ref ms, .ref mg, .ref md, .int 0, .ref mk, .int (-1), .int 0, .long 0, .int 0, .int 0, .ref z29, .int 0, .ref z31, .ref z32, .ref z33, .ref z34, .ref z35, .int 0, .ref z37, .int 0, .ref z39, .int 0, .int 0, .int 0, .ref z43, .ref z44, .ref z45, .ref z46, .ref z47, .int 0, .ref z49, .ref z50, .ref z51, .int 0, .int 0])) (hf_ml : f ml = .inl (cy 1, 5, .inl (fun _ => 0))) (hf_mh : f mh = .inl (cy 1, 30, .inl (fun _ => 0))) : Met l yX10_left (z_ws yX10_left cX10_left 3 (some .int)) (z_R 6 0 0) (va_Pc [.ref me, .int xa] (z_Pre D vwCl (z_K D cy) L f sz)) (z_Qi D vwCl (fun r u => (∀ b ∈ L, b ∈ u.1) ∧ (∀ b ∈ L, b ≠ me → u.2 b = f b) ∧ ((r.toInt = -2))) L sz) 0 0 (z_A L sz) := by
  refine z_met (cc := cX10_left) (maxL := 3) (ret := (some .int)) (lv := [(0, .ref me), (1, .int xa)]) (by decide) rfl (Nat.le_of_ble_eq_true rfl) rfl ?_
  intro p e s m below meth c ls hx hb hr hlk hml hown hnm hts hKK hA hw hl
  have hK := hKK.1
  have hown : s.vm.findClass RX10 = some m.cls := hown
  have hT : ∀ w ∈ lw_all, w.before ([.ref me, .int xa] : List Value).toArray s = true := fun w h => hts w (z_cons w h)
  have hsub : ∀ b ∈ L, b ∈ L := fun _ h => h
  have hfr : ∀ b ∈ L, b ≠ me → f b = f b := fun _ _ _ => rfl
  refine lv_aload_n hx hb dX10_left_0 rfl (lv_at hl 0 rfl) ?_
  refine lv_iconst (v := 0) hx hb dX10_left_1 (by decide) ?_
  refine z_put (C := RX10) (T := TX10) (N := 54) (ci := 10) (v := .int 0) (fs' := [.int 0, .ref mw, .ref mn, .ref mc, .ref mv, .ref mt, .int 0, .int 0, .int 0, .int 0, .int 0, .long 0, .int 0, .int 0, .int 0, .int (-1), .ref ml, .ref mh, .ref mj, .ref ms, .ref mg, .ref md, .int 0, .ref mk, .int (-1), .int 0, .long 0, .int 0, .int 0, .ref z29, .int 0, .ref z31, .ref z32, .ref z33, .ref z34, .ref z35, .int 0, .ref z37, .int 0, .ref z39, .int 0, .int 0, .int 0, .ref z43, .ref z44, .ref z45, .ref z46, .ref z47, .int 0, .ref z49, .ref z50, .ref z51, .int 0, .int 0]) hx hb hT zin_X10 tyX10_ok nmX10 hown hK hw hm_me hf_me rfl 0 (by decide) (hT _ kw_1168) rfl rfl rfl (Nat.le_of_ble_eq_true rfl) rfl dX10_left_2 (fun H locs hw => ?_)
  obtain ⟨f1, e_f1⟩ : ∃ z, z = va_up f me (.inr (10, [.int 0, .ref mw, .ref mn, .ref mc, .ref mv, .ref mt, .int 0, .int 0, .int 0, .int 0, .int 0, .long 0, .int 0, .int 0, .int 0, .int (-1), .ref ml, .ref mh, .ref mj, .ref ms, .ref mg, .ref md, .int 0, .ref mk, .int (-1), .int 0, .long 0, .int 0, .int 0, .ref z29, .int 0, .ref z31, .ref z32, .ref z33, .ref z34, .ref z35, .int 0, .ref z37, .int 0, .ref z39, .int 0, .int 0, .int 0, .ref z43, .ref z44, .ref z45, .ref z46, .ref z47, .int 0, .ref z49, .ref z50, .ref z51, .int 0, .int 0])) := ⟨_, rfl⟩
  rw [← e_f1] at hw
  have hf_ml : f1 ml = .inl (cy 1, 5, .inl (fun _ => 0)) := (congrFun e_f1 ml).trans (z_up_ne (z_tne hf_ml hf_me (m := 140) (n := 10) rfl rfl (by decide)) hf_ml)
  have hf_mh : f1 mh = .inl (cy 1, 30, .inl (fun _ => 0)) := (congrFun e_f1 mh).trans (z_up_ne (z_tne hf_mh hf_me (m := 340) (n := 10) rfl rfl (by decide)) hf_mh)
  have hf_me : f1 me = .inr (10, [.int 0, .ref mw, .ref mn, .ref mc, .ref mv, .ref mt, .int 0, .int 0, .int 0, .int 0, .int 0, .long 0, .int 0, .int 0, .int 0, .int (-1), .ref ml, .ref mh, .ref mj, .ref ms, .ref mg, .ref md, .int 0, .ref mk, .int (-1), .int 0, .long 0, .int 0, .int 0, .ref z29, .int 0, .ref z31, .ref z32, .ref z33, .ref z34, .ref z35, .int 0, .ref z37, .int 0, .ref z39, .int 0, .int 0, .int 0, .ref z43, .ref z44, .ref z45, .ref z46, .ref z47, .int 0, .ref z49, .ref z50, .ref z51, .int 0, .int 0]) := (congrFun e_f1 me).trans z_up_self
  have hfr : ∀ b ∈ L, b ≠ me → f1 b = f b := fun b hb h0 => (congrFun e_f1 b).trans (z_up_ne h0 (hfr b hb h0))
  refine lv_aload_n hx hb dX10_left_5 rfl (lv_at hl 0 rfl) ?_
  refine lv_iload_n hx hb dX10_left_6 rfl (lv_at hl 1 rfl) ?_
  refine z_calliV (cells := 0) (slots := 0) (b := me) (As := [.int xa]) (rest := []) (ci := 10) (q0 := (RX10, TX10, 54)) ⟨hx, hb, hml, hown, hT⟩ (c_X10_isGap l hm_me hm_mh hf_me hf_mh) (cwV 1 hT (z_goodV (fun _ h => h) kw_1519 kw_1521 kw_55 kw_96 kw_1522) rfl rfl rfl (by decide +kernel) ⟨by decide, by decide⟩) z_mv hKK hK hw hA hm_me hf_me rfl rfl rfl hl.1 rfl (Nat.le_of_ble_eq_true rfl) dX10_left_7 ⟨by decide, by decide⟩ (fun r2 u H locs hp hw => ?_)
  obtain ⟨rfl, hp⟩ := hp
  have hw : z_H D vwCl (z_A L sz) s.heap L f1 H locs := hw
  obtain rfl := hp
  refine z_if_ne (tgt := 16) hx hb (show (0 : Int32).toInt = 0 by decide) dX10_left_10 (by decide) (fun h => absurd h (by decide)) (fun _ => ?_)
  refine lv_bipush (v := (-2)) hx hb dX10_left_13 (by decide) ?_
  exact z_iret hx hb hr hlk (by decide) (by decide) hw (⟨hsub, hfr, by decide⟩) dX10_left_15

set_option maxHeartbeats 2000000 in
set_option maxRecDepth 100000 in
theorem c_X10_best (l : Launch) {D : va_G} {cy : Nat → ClassId} {L : List Nat} {f : Nat → va_E} {sz : Nat} {me mw mn mc mv mt ml mh mj ms mg md mk z29 z31 z32 z33 z34 z35 z37 z39 z43 z44 z45 z46 z47 z49 z50 z51 : Nat}  {xa xb : Int32} (hm_me : me ∈ L) (hm_ml : ml ∈ L) (hm_mh : mh ∈ L) (hf_me : f me = .inr (10, [.int 0, .ref mw, .ref mn, .ref mc, .ref mv, .ref mt, .int 0, .int 0, .int 0, .int 0, .int 0, .long 0, .int 0, .int 0, .int 0, .int (-1), .ref ml, .ref mh, .ref mj, .ref ms, .ref mg, .ref md, .int 0, .ref mk, .int (-1), .int 0, .long 0, .int 0, .int 0, .ref z29, .int 0, .ref z31, .ref z32, .ref z33, .ref z34, .ref z35, .int 0, .ref z37, .int 0, .ref z39, .int 0, .int 0, .int 0, .ref z43, .ref z44, .ref z45, .ref z46, .ref z47, .int 0, .ref z49, .ref z50, .ref z51, .int 0, .int 0])) (hf_ml : f ml = .inl (cy 1, 5, .inl (fun _ => 0))) (hf_mh : f mh = .inl (cy 1, 30, .inl (fun _ => 0))) : Met l yX10_best (z_ws yX10_best cX10_best 3 (some .int)) (z_R 6 0 0) (va_Pc [.ref me, .int xa, .int xb] (z_Pre D vwCl (z_K D cy) L f sz)) (z_Qi D vwCl (fun r u => (∀ b ∈ L, b ∈ u.1) ∧ (∀ b ∈ L, b ≠ me → u.2 b = f b) ∧ ((r.toInt = -2))) L sz) 0 0 (z_A L sz) := by
  refine z_met (cc := cX10_best) (maxL := 3) (ret := (some .int)) (lv := [(0, .ref me), (1, .int xa), (2, .int xb)]) (by decide) rfl (Nat.le_of_ble_eq_true rfl) rfl ?_
  intro p e s m below meth c ls hx hb hr hlk hml hown hnm hts hKK hA hw hl
  have hK := hKK.1
  have hown : s.vm.findClass RX10 = some m.cls := hown
  have hT : ∀ w ∈ lw_all, w.before ([.ref me, .int xa, .int xb] : List Value).toArray s = true := fun w h => hts w (z_cons w h)
  have hsub : ∀ b ∈ L, b ∈ L := fun _ h => h
  have hfr : ∀ b ∈ L, b ≠ me → f b = f b := fun _ _ _ => rfl
  refine lv_aload_n hx hb dX10_best_0 rfl (lv_at hl 0 rfl) ?_
  refine lv_iconst (v := 0) hx hb dX10_best_1 (by decide) ?_
  refine z_put (C := RX10) (T := TX10) (N := 54) (ci := 10) (v := .int 0) (fs' := [.int 0, .ref mw, .ref mn, .ref mc, .ref mv, .ref mt, .int 0, .int 0, .int 0, .int 0, .int 0, .long 0, .int 0, .int 0, .int 0, .int (-1), .ref ml, .ref mh, .ref mj, .ref ms, .ref mg, .ref md, .int 0, .ref mk, .int (-1), .int 0, .long 0, .int 0, .int 0, .ref z29, .int 0, .ref z31, .ref z32, .ref z33, .ref z34, .ref z35, .int 0, .ref z37, .int 0, .ref z39, .int 0, .int 0, .int 0, .ref z43, .ref z44, .ref z45, .ref z46, .ref z47, .int 0, .ref z49, .ref z50, .ref z51, .int 0, .int 0]) hx hb hT zin_X10 tyX10_ok nmX10 hown hK hw hm_me hf_me rfl 0 (by decide) (hT _ kw_1168) rfl rfl rfl (Nat.le_of_ble_eq_true rfl) rfl dX10_best_2 (fun H locs hw => ?_)
  obtain ⟨f1, e_f1⟩ : ∃ z, z = va_up f me (.inr (10, [.int 0, .ref mw, .ref mn, .ref mc, .ref mv, .ref mt, .int 0, .int 0, .int 0, .int 0, .int 0, .long 0, .int 0, .int 0, .int 0, .int (-1), .ref ml, .ref mh, .ref mj, .ref ms, .ref mg, .ref md, .int 0, .ref mk, .int (-1), .int 0, .long 0, .int 0, .int 0, .ref z29, .int 0, .ref z31, .ref z32, .ref z33, .ref z34, .ref z35, .int 0, .ref z37, .int 0, .ref z39, .int 0, .int 0, .int 0, .ref z43, .ref z44, .ref z45, .ref z46, .ref z47, .int 0, .ref z49, .ref z50, .ref z51, .int 0, .int 0])) := ⟨_, rfl⟩
  rw [← e_f1] at hw
  have hf_ml : f1 ml = .inl (cy 1, 5, .inl (fun _ => 0)) := (congrFun e_f1 ml).trans (z_up_ne (z_tne hf_ml hf_me (m := 140) (n := 10) rfl rfl (by decide)) hf_ml)
  have hf_mh : f1 mh = .inl (cy 1, 30, .inl (fun _ => 0)) := (congrFun e_f1 mh).trans (z_up_ne (z_tne hf_mh hf_me (m := 340) (n := 10) rfl rfl (by decide)) hf_mh)
  have hf_me : f1 me = .inr (10, [.int 0, .ref mw, .ref mn, .ref mc, .ref mv, .ref mt, .int 0, .int 0, .int 0, .int 0, .int 0, .long 0, .int 0, .int 0, .int 0, .int (-1), .ref ml, .ref mh, .ref mj, .ref ms, .ref mg, .ref md, .int 0, .ref mk, .int (-1), .int 0, .long 0, .int 0, .int 0, .ref z29, .int 0, .ref z31, .ref z32, .ref z33, .ref z34, .ref z35, .int 0, .ref z37, .int 0, .ref z39, .int 0, .int 0, .int 0, .ref z43, .ref z44, .ref z45, .ref z46, .ref z47, .int 0, .ref z49, .ref z50, .ref z51, .int 0, .int 0]) := (congrFun e_f1 me).trans z_up_self
  have hfr : ∀ b ∈ L, b ≠ me → f1 b = f b := fun b hb h0 => (congrFun e_f1 b).trans (z_up_ne h0 (hfr b hb h0))
  refine lv_aload_n hx hb dX10_best_5 rfl (lv_at hl 0 rfl) ?_
  refine lv_iload_n hx hb dX10_best_6 rfl (lv_at hl 1 rfl) ?_
  refine z_calliV (cells := 0) (slots := 0) (b := me) (As := [.int xa]) (rest := []) (ci := 10) (q0 := (RX10, TX10, 54)) ⟨hx, hb, hml, hown, hT⟩ (c_X10_isDrive l hm_me hm_mh hf_me hf_mh) (cwV 1 hT (z_goodV (fun _ h => h) kw_1482 kw_1484 kw_50 kw_96 kw_1485) rfl rfl rfl (by decide +kernel) ⟨by decide, by decide⟩) z_mv hKK hK hw hA hm_me hf_me rfl rfl rfl hl.1 rfl (Nat.le_of_ble_eq_true rfl) dX10_best_7 ⟨by decide, by decide⟩ (fun r2 u H locs hp hw => ?_)
  obtain ⟨rfl, hp⟩ := hp
  have hw : z_H D vwCl (z_A L sz) s.heap L f1 H locs := hw
  obtain rfl := hp
  refine z_if_eq (tgt := 25) hx hb (show (0 : Int32).toInt = 0 by decide) dX10_best_10 (by decide) (fun _ => ?_) (fun h => absurd h (by decide))
  refine lv_bipush (v := (-2)) hx hb dX10_best_25 (by decide) ?_
  exact z_iret hx hb hr hlk (by decide) (by decide) hw (⟨hsub, hfr, by decide⟩) dX10_best_27

set_option maxHeartbeats 2000000 in
set_option maxRecDepth 100000 in
theorem c_X10_split (l : Launch) {D : va_G} {cy : Nat → ClassId} {L : List Nat} {f : Nat → va_E} {sz : Nat} {me mw mn mc mv mt ml mh mj ms mg md mk z29 z31 z32 z33 z34 z35 z37 z39 z43 z44 z45 z46 z47 z49 z50 z51 : Nat}  {xa xb : Int32} (hm_me : me ∈ L) (hm_ml : ml ∈ L) (hm_mh : mh ∈ L) (hf_me : f me = .inr (10, [.int 0, .ref mw, .ref mn, .ref mc, .ref mv, .ref mt, .int 0, .int 0, .int 0, .int 0, .int 0, .long 0, .int 0, .int 0, .int 0, .int (-1), .ref ml, .ref mh, .ref mj, .ref ms, .ref mg, .ref md, .int 0, .ref mk, .int (-1), .int 0, .long 0, .int 0, .int 0, .ref z29, .int 0, .ref z31, .ref z32, .ref z33, .ref z34, .ref z35, .int 0, .ref z37, .int 0, .ref z39, .int 0, .int 0, .int 0, .ref z43, .ref z44, .ref z45, .ref z46, .ref z47, .int 0, .ref z49, .ref z50, .ref z51, .int 0, .int 0])) (hf_ml : f ml = .inl (cy 1, 5, .inl (fun _ => 0))) (hf_mh : f mh = .inl (cy 1, 30, .inl (fun _ => 0))) : Met l yX10_split (z_ws yX10_split cX10_split 10 (some .int)) (z_R 6 0 0) (va_Pc [.ref me, .int xa, .int xb] (z_Pre D vwCl (z_K D cy) L f sz)) (z_Qi D vwCl (fun r u => (∀ b ∈ L, b ∈ u.1) ∧ (∀ b ∈ L, b ≠ me → u.2 b = f b) ∧ ((r.toInt = -2))) L sz) 0 0 (z_A L sz) := by
  refine z_met (cc := cX10_split) (maxL := 10) (ret := (some .int)) (lv := [(0, .ref me), (1, .int xa), (2, .int xb)]) (by decide) rfl (Nat.le_of_ble_eq_true rfl) rfl ?_
  intro p e s m below meth c ls hx hb hr hlk hml hown hnm hts hKK hA hw hl
  have hK := hKK.1
  have hown : s.vm.findClass RX10 = some m.cls := hown
  have hT : ∀ w ∈ lw_all, w.before ([.ref me, .int xa, .int xb] : List Value).toArray s = true := fun w h => hts w (z_cons w h)
  have hsub : ∀ b ∈ L, b ∈ L := fun _ h => h
  have hfr : ∀ b ∈ L, b ≠ me → f b = f b := fun _ _ _ => rfl
  refine lv_aload_n hx hb dX10_split_0 rfl (lv_at hl 0 rfl) ?_
  refine lv_iconst (v := 0) hx hb dX10_split_1 (by decide) ?_
  refine z_put (C := RX10) (T := TX10) (N := 54) (ci := 10) (v := .int 0) (fs' := [.int 0, .ref mw, .ref mn, .ref mc, .ref mv, .ref mt, .int 0, .int 0, .int 0, .int 0, .int 0, .long 0, .int 0, .int 0, .int 0, .int (-1), .ref ml, .ref mh, .ref mj, .ref ms, .ref mg, .ref md, .int 0, .ref mk, .int (-1), .int 0, .long 0, .int 0, .int 0, .ref z29, .int 0, .ref z31, .ref z32, .ref z33, .ref z34, .ref z35, .int 0, .ref z37, .int 0, .ref z39, .int 0, .int 0, .int 0, .ref z43, .ref z44, .ref z45, .ref z46, .ref z47, .int 0, .ref z49, .ref z50, .ref z51, .int 0, .int 0]) hx hb hT zin_X10 tyX10_ok nmX10 hown hK hw hm_me hf_me rfl 0 (by decide) (hT _ kw_1168) rfl rfl rfl (Nat.le_of_ble_eq_true rfl) rfl dX10_split_2 (fun H locs hw => ?_)
  obtain ⟨f1, e_f1⟩ : ∃ z, z = va_up f me (.inr (10, [.int 0, .ref mw, .ref mn, .ref mc, .ref mv, .ref mt, .int 0, .int 0, .int 0, .int 0, .int 0, .long 0, .int 0, .int 0, .int 0, .int (-1), .ref ml, .ref mh, .ref mj, .ref ms, .ref mg, .ref md, .int 0, .ref mk, .int (-1), .int 0, .long 0, .int 0, .int 0, .ref z29, .int 0, .ref z31, .ref z32, .ref z33, .ref z34, .ref z35, .int 0, .ref z37, .int 0, .ref z39, .int 0, .int 0, .int 0, .ref z43, .ref z44, .ref z45, .ref z46, .ref z47, .int 0, .ref z49, .ref z50, .ref z51, .int 0, .int 0])) := ⟨_, rfl⟩
  rw [← e_f1] at hw
  have hf_ml : f1 ml = .inl (cy 1, 5, .inl (fun _ => 0)) := (congrFun e_f1 ml).trans (z_up_ne (z_tne hf_ml hf_me (m := 140) (n := 10) rfl rfl (by decide)) hf_ml)
  have hf_mh : f1 mh = .inl (cy 1, 30, .inl (fun _ => 0)) := (congrFun e_f1 mh).trans (z_up_ne (z_tne hf_mh hf_me (m := 340) (n := 10) rfl rfl (by decide)) hf_mh)
  have hf_me : f1 me = .inr (10, [.int 0, .ref mw, .ref mn, .ref mc, .ref mv, .ref mt, .int 0, .int 0, .int 0, .int 0, .int 0, .long 0, .int 0, .int 0, .int 0, .int (-1), .ref ml, .ref mh, .ref mj, .ref ms, .ref mg, .ref md, .int 0, .ref mk, .int (-1), .int 0, .long 0, .int 0, .int 0, .ref z29, .int 0, .ref z31, .ref z32, .ref z33, .ref z34, .ref z35, .int 0, .ref z37, .int 0, .ref z39, .int 0, .int 0, .int 0, .ref z43, .ref z44, .ref z45, .ref z46, .ref z47, .int 0, .ref z49, .ref z50, .ref z51, .int 0, .int 0]) := (congrFun e_f1 me).trans z_up_self
  have hfr : ∀ b ∈ L, b ≠ me → f1 b = f b := fun b hb h0 => (congrFun e_f1 b).trans (z_up_ne h0 (hfr b hb h0))
  refine lv_aload_n hx hb dX10_split_5 rfl (lv_at hl 0 rfl) ?_
  refine lv_iload_n hx hb dX10_split_6 rfl (lv_at hl 1 rfl) ?_
  refine z_calliV (cells := 0) (slots := 0) (b := me) (As := [.int xa]) (rest := []) (ci := 10) (q0 := (RX10, TX10, 54)) ⟨hx, hb, hml, hown, hT⟩ (c_X10_isDrive l hm_me hm_mh hf_me hf_mh) (cwV 1 hT (z_goodV (fun _ h => h) kw_1482 kw_1484 kw_50 kw_96 kw_1485) rfl rfl rfl (by decide +kernel) ⟨by decide, by decide⟩) z_mv hKK hK hw hA hm_me hf_me rfl rfl rfl hl.1 rfl (Nat.le_of_ble_eq_true rfl) dX10_split_7 ⟨by decide, by decide⟩ (fun r2 u H locs hp hw => ?_)
  obtain ⟨rfl, hp⟩ := hp
  have hw : z_H D vwCl (z_A L sz) s.heap L f1 H locs := hw
  obtain rfl := hp
  refine z_if_eq (tgt := 25) hx hb (show (0 : Int32).toInt = 0 by decide) dX10_split_10 (by decide) (fun _ => ?_) (fun h => absurd h (by decide))
  refine lv_bipush (v := (-2)) hx hb dX10_split_25 (by decide) ?_
  exact z_iret hx hb hr hlk (by decide) (by decide) hw (⟨hsub, hfr, by decide⟩) dX10_split_27

set_option maxHeartbeats 2000000 in
set_option maxRecDepth 100000 in
theorem c_X10_rest (l : Launch) {D : va_G} {cy : Nat → ClassId} {L : List Nat} {f : Nat → va_E} {sz : Nat} {me mw mn mc mv mt ml mh mj ms mg md mk z29 z31 z32 z33 z34 z35 z37 z39 z43 z44 z45 z46 z47 z49 z50 z51 : Nat}  (hm_me : me ∈ L) (hm_ml : ml ∈ L) (hm_mh : mh ∈ L) (hf_me : f me = .inr (10, [.int 0, .ref mw, .ref mn, .ref mc, .ref mv, .ref mt, .int 0, .int 0, .int 0, .int 0, .int 0, .long 0, .int 0, .int 0, .int 0, .int (-1), .ref ml, .ref mh, .ref mj, .ref ms, .ref mg, .ref md, .int 0, .ref mk, .int (-1), .int 0, .long 0, .int 0, .int 0, .ref z29, .int 0, .ref z31, .ref z32, .ref z33, .ref z34, .ref z35, .int 0, .ref z37, .int 0, .ref z39, .int 0, .int 0, .int 0, .ref z43, .ref z44, .ref z45, .ref z46, .ref z47, .int 0, .ref z49, .ref z50, .ref z51, .int 0, .int 0])) (hf_ml : f ml = .inl (cy 1, 5, .inl (fun _ => 0))) (hf_mh : f mh = .inl (cy 1, 30, .inl (fun _ => 0))) : Met l yX10_rest (z_ws yX10_rest cX10_rest 1 (some .int)) (z_R 6 0 0) (va_Pc [.ref me] (z_Pre D vwCl (z_K D cy) L f sz)) (z_Qi D vwCl (fun r u => (∀ b ∈ L, b ∈ u.1) ∧ (∀ b ∈ L, b ≠ me → u.2 b = f b) ∧ ((r.toInt = -2))) L sz) 0 0 (z_A L sz) := by
  refine z_met (cc := cX10_rest) (maxL := 1) (ret := (some .int)) (lv := [(0, .ref me)]) (by decide) rfl (Nat.le_of_ble_eq_true rfl) rfl ?_
  intro p e s m below meth c ls hx hb hr hlk hml hown hnm hts hKK hA hw hl
  have hK := hKK.1
  have hown : s.vm.findClass RX10 = some m.cls := hown
  have hT : ∀ w ∈ lw_all, w.before ([.ref me] : List Value).toArray s = true := fun w h => hts w (z_cons w h)
  have hsub : ∀ b ∈ L, b ∈ L := fun _ h => h
  have hfr : ∀ b ∈ L, b ≠ me → f b = f b := fun _ _ _ => rfl
  refine lv_aload_n hx hb dX10_rest_0 rfl (lv_at hl 0 rfl) ?_
  refine lv_iconst (v := 0) hx hb dX10_rest_1 (by decide) ?_
  refine z_put (C := RX10) (T := TX10) (N := 54) (ci := 10) (v := .int 0) (fs' := [.int 0, .ref mw, .ref mn, .ref mc, .ref mv, .ref mt, .int 0, .int 0, .int 0, .int 0, .int 0, .long 0, .int 0, .int 0, .int 0, .int (-1), .ref ml, .ref mh, .ref mj, .ref ms, .ref mg, .ref md, .int 0, .ref mk, .int (-1), .int 0, .long 0, .int 0, .int 0, .ref z29, .int 0, .ref z31, .ref z32, .ref z33, .ref z34, .ref z35, .int 0, .ref z37, .int 0, .ref z39, .int 0, .int 0, .int 0, .ref z43, .ref z44, .ref z45, .ref z46, .ref z47, .int 0, .ref z49, .ref z50, .ref z51, .int 0, .int 0]) hx hb hT zin_X10 tyX10_ok nmX10 hown hK hw hm_me hf_me rfl 0 (by decide) (hT _ kw_1168) rfl rfl rfl (Nat.le_of_ble_eq_true rfl) rfl dX10_rest_2 (fun H locs hw => ?_)
  obtain ⟨f1, e_f1⟩ : ∃ z, z = va_up f me (.inr (10, [.int 0, .ref mw, .ref mn, .ref mc, .ref mv, .ref mt, .int 0, .int 0, .int 0, .int 0, .int 0, .long 0, .int 0, .int 0, .int 0, .int (-1), .ref ml, .ref mh, .ref mj, .ref ms, .ref mg, .ref md, .int 0, .ref mk, .int (-1), .int 0, .long 0, .int 0, .int 0, .ref z29, .int 0, .ref z31, .ref z32, .ref z33, .ref z34, .ref z35, .int 0, .ref z37, .int 0, .ref z39, .int 0, .int 0, .int 0, .ref z43, .ref z44, .ref z45, .ref z46, .ref z47, .int 0, .ref z49, .ref z50, .ref z51, .int 0, .int 0])) := ⟨_, rfl⟩
  rw [← e_f1] at hw
  have hf_ml : f1 ml = .inl (cy 1, 5, .inl (fun _ => 0)) := (congrFun e_f1 ml).trans (z_up_ne (z_tne hf_ml hf_me (m := 140) (n := 10) rfl rfl (by decide)) hf_ml)
  have hf_mh : f1 mh = .inl (cy 1, 30, .inl (fun _ => 0)) := (congrFun e_f1 mh).trans (z_up_ne (z_tne hf_mh hf_me (m := 340) (n := 10) rfl rfl (by decide)) hf_mh)
  have hf_me : f1 me = .inr (10, [.int 0, .ref mw, .ref mn, .ref mc, .ref mv, .ref mt, .int 0, .int 0, .int 0, .int 0, .int 0, .long 0, .int 0, .int 0, .int 0, .int (-1), .ref ml, .ref mh, .ref mj, .ref ms, .ref mg, .ref md, .int 0, .ref mk, .int (-1), .int 0, .long 0, .int 0, .int 0, .ref z29, .int 0, .ref z31, .ref z32, .ref z33, .ref z34, .ref z35, .int 0, .ref z37, .int 0, .ref z39, .int 0, .int 0, .int 0, .ref z43, .ref z44, .ref z45, .ref z46, .ref z47, .int 0, .ref z49, .ref z50, .ref z51, .int 0, .int 0]) := (congrFun e_f1 me).trans z_up_self
  have hfr : ∀ b ∈ L, b ≠ me → f1 b = f b := fun b hb h0 => (congrFun e_f1 b).trans (z_up_ne h0 (hfr b hb h0))
  refine lv_aload_n hx hb dX10_rest_5 rfl (lv_at hl 0 rfl) ?_
  refine z_calliV (cells := 0) (slots := 0) (b := me) (As := []) (rest := []) (ci := 10) (q0 := (RX10, TX10, 54)) ⟨hx, hb, hml, hown, hT⟩ (c_X10_isMoor l hm_me hm_ml hf_me hf_ml) (cwV 0 hT (z_goodV (fun _ h => h) kw_1507 kw_1509 kw_54 kw_96 kw_1510) rfl rfl rfl (by decide +kernel) ⟨by decide, by decide⟩) z_mv hKK hK hw hA hm_me hf_me rfl rfl rfl hl.1 rfl (Nat.le_of_ble_eq_true rfl) dX10_rest_6 ⟨by decide, by decide⟩ (fun r2 u H locs hp hw => ?_)
  obtain ⟨rfl, hp⟩ := hp
  have hw : z_H D vwCl (z_A L sz) s.heap L f1 H locs := hw
  obtain rfl := hp
  refine z_if_eq (tgt := 19) hx hb (show (0 : Int32).toInt = 0 by decide) dX10_rest_9 (by decide) (fun _ => ?_) (fun h => absurd h (by decide))
  refine lv_bipush (v := (-2)) hx hb dX10_rest_19 (by decide) ?_
  exact z_iret hx hb hr hlk (by decide) (by decide) hw (⟨hsub, hfr, by decide⟩) dX10_rest_21

set_option maxHeartbeats 2000000 in
set_option maxRecDepth 100000 in
theorem c_X10_rests (l : Launch) {D : va_G} {cy : Nat → ClassId} {L : List Nat} {f : Nat → va_E} {sz : Nat} {me mw mn mc mv mt ml mh mj ms mg md mk z29 z31 z32 z33 z34 z35 z37 z39 z43 z44 z45 z46 z47 z49 z50 z51 : Nat}  {xa : Int32} (hm_me : me ∈ L) (hm_ml : ml ∈ L) (hm_mh : mh ∈ L) (hf_me : f me = .inr (10, [.int 0, .ref mw, .ref mn, .ref mc, .ref mv, .ref mt, .int 0, .int 0, .int 0, .int 0, .int 0, .long 0, .int 0, .int 0, .int 0, .int (-1), .ref ml, .ref mh, .ref mj, .ref ms, .ref mg, .ref md, .int 0, .ref mk, .int (-1), .int 0, .long 0, .int 0, .int 0, .ref z29, .int 0, .ref z31, .ref z32, .ref z33, .ref z34, .ref z35, .int 0, .ref z37, .int 0, .ref z39, .int 0, .int 0, .int 0, .ref z43, .ref z44, .ref z45, .ref z46, .ref z47, .int 0, .ref z49, .ref z50, .ref z51, .int 0, .int 0])) (hf_ml : f ml = .inl (cy 1, 5, .inl (fun _ => 0))) (hf_mh : f mh = .inl (cy 1, 30, .inl (fun _ => 0))) : Met l yX10_rests (z_ws yX10_rests cX10_rests 2 (some .int)) (z_R 6 0 0) (va_Pc [.ref me, .int xa] (z_Pre D vwCl (z_K D cy) L f sz)) (z_Qi D vwCl (fun r u => (∀ b ∈ L, b ∈ u.1) ∧ (∀ b ∈ L, b ≠ me → u.2 b = f b) ∧ ((r.toInt = -2))) L sz) 0 0 (z_A L sz) := by
  refine z_met (cc := cX10_rests) (maxL := 2) (ret := (some .int)) (lv := [(0, .ref me), (1, .int xa)]) (by decide) rfl (Nat.le_of_ble_eq_true rfl) rfl ?_
  intro p e s m below meth c ls hx hb hr hlk hml hown hnm hts hKK hA hw hl
  have hK := hKK.1
  have hown : s.vm.findClass RX10 = some m.cls := hown
  have hT : ∀ w ∈ lw_all, w.before ([.ref me, .int xa] : List Value).toArray s = true := fun w h => hts w (z_cons w h)
  have hsub : ∀ b ∈ L, b ∈ L := fun _ h => h
  have hfr : ∀ b ∈ L, b ≠ me → f b = f b := fun _ _ _ => rfl
  refine lv_aload_n hx hb dX10_rests_0 rfl (lv_at hl 0 rfl) ?_
  refine lv_iconst (v := 0) hx hb dX10_rests_1 (by decide) ?_
  refine z_put (C := RX10) (T := TX10) (N := 54) (ci := 10) (v := .int 0) (fs' := [.int 0, .ref mw, .ref mn, .ref mc, .ref mv, .ref mt, .int 0, .int 0, .int 0, .int 0, .int 0, .long 0, .int 0, .int 0, .int 0, .int (-1), .ref ml, .ref mh, .ref mj, .ref ms, .ref mg, .ref md, .int 0, .ref mk, .int (-1), .int 0, .long 0, .int 0, .int 0, .ref z29, .int 0, .ref z31, .ref z32, .ref z33, .ref z34, .ref z35, .int 0, .ref z37, .int 0, .ref z39, .int 0, .int 0, .int 0, .ref z43, .ref z44, .ref z45, .ref z46, .ref z47, .int 0, .ref z49, .ref z50, .ref z51, .int 0, .int 0]) hx hb hT zin_X10 tyX10_ok nmX10 hown hK hw hm_me hf_me rfl 0 (by decide) (hT _ kw_1168) rfl rfl rfl (Nat.le_of_ble_eq_true rfl) rfl dX10_rests_2 (fun H locs hw => ?_)
  obtain ⟨f1, e_f1⟩ : ∃ z, z = va_up f me (.inr (10, [.int 0, .ref mw, .ref mn, .ref mc, .ref mv, .ref mt, .int 0, .int 0, .int 0, .int 0, .int 0, .long 0, .int 0, .int 0, .int 0, .int (-1), .ref ml, .ref mh, .ref mj, .ref ms, .ref mg, .ref md, .int 0, .ref mk, .int (-1), .int 0, .long 0, .int 0, .int 0, .ref z29, .int 0, .ref z31, .ref z32, .ref z33, .ref z34, .ref z35, .int 0, .ref z37, .int 0, .ref z39, .int 0, .int 0, .int 0, .ref z43, .ref z44, .ref z45, .ref z46, .ref z47, .int 0, .ref z49, .ref z50, .ref z51, .int 0, .int 0])) := ⟨_, rfl⟩
  rw [← e_f1] at hw
  have hf_ml : f1 ml = .inl (cy 1, 5, .inl (fun _ => 0)) := (congrFun e_f1 ml).trans (z_up_ne (z_tne hf_ml hf_me (m := 140) (n := 10) rfl rfl (by decide)) hf_ml)
  have hf_mh : f1 mh = .inl (cy 1, 30, .inl (fun _ => 0)) := (congrFun e_f1 mh).trans (z_up_ne (z_tne hf_mh hf_me (m := 340) (n := 10) rfl rfl (by decide)) hf_mh)
  have hf_me : f1 me = .inr (10, [.int 0, .ref mw, .ref mn, .ref mc, .ref mv, .ref mt, .int 0, .int 0, .int 0, .int 0, .int 0, .long 0, .int 0, .int 0, .int 0, .int (-1), .ref ml, .ref mh, .ref mj, .ref ms, .ref mg, .ref md, .int 0, .ref mk, .int (-1), .int 0, .long 0, .int 0, .int 0, .ref z29, .int 0, .ref z31, .ref z32, .ref z33, .ref z34, .ref z35, .int 0, .ref z37, .int 0, .ref z39, .int 0, .int 0, .int 0, .ref z43, .ref z44, .ref z45, .ref z46, .ref z47, .int 0, .ref z49, .ref z50, .ref z51, .int 0, .int 0]) := (congrFun e_f1 me).trans z_up_self
  have hfr : ∀ b ∈ L, b ≠ me → f1 b = f b := fun b hb h0 => (congrFun e_f1 b).trans (z_up_ne h0 (hfr b hb h0))
  refine lv_aload_n hx hb dX10_rests_5 rfl (lv_at hl 0 rfl) ?_
  refine z_calliV (cells := 0) (slots := 0) (b := me) (As := []) (rest := []) (ci := 10) (q0 := (RX10, TX10, 54)) ⟨hx, hb, hml, hown, hT⟩ (c_X10_isMoor l hm_me hm_ml hf_me hf_ml) (cwV 0 hT (z_goodV (fun _ h => h) kw_1507 kw_1509 kw_54 kw_96 kw_1510) rfl rfl rfl (by decide +kernel) ⟨by decide, by decide⟩) z_mv hKK hK hw hA hm_me hf_me rfl rfl rfl hl.1 rfl (Nat.le_of_ble_eq_true rfl) dX10_rests_6 ⟨by decide, by decide⟩ (fun r2 u H locs hp hw => ?_)
  obtain ⟨rfl, hp⟩ := hp
  have hw : z_H D vwCl (z_A L sz) s.heap L f1 H locs := hw
  obtain rfl := hp
  refine z_if_eq (tgt := 32) hx hb (show (0 : Int32).toInt = 0 by decide) dX10_rests_9 (by decide) (fun _ => ?_) (fun h => absurd h (by decide))
  refine lv_bipush (v := (-2)) hx hb dX10_rests_32 (by decide) ?_
  exact z_iret hx hb hr hlk (by decide) (by decide) hw (⟨hsub, hfr, by decide⟩) dX10_rests_34

set_option maxHeartbeats 2000000 in
set_option maxRecDepth 100000 in
theorem c_X10_sent (l : Launch) {D : va_G} {cy : Nat → ClassId} {L : List Nat} {f : Nat → va_E} {sz : Nat} {me mw mn mc mv mt ml mh mj ms mg md mk z29 z31 z32 z33 z34 z35 z37 z39 z43 z44 z45 z46 z47 z49 z50 z51 : Nat}  {xa xb : Int32} (hm_me : me ∈ L) (hm_ml : ml ∈ L) (hm_mh : mh ∈ L) (hf_me : f me = .inr (10, [.int 0, .ref mw, .ref mn, .ref mc, .ref mv, .ref mt, .int 0, .int 0, .int 0, .int 0, .int 0, .long 0, .int 0, .int 0, .int 0, .int (-1), .ref ml, .ref mh, .ref mj, .ref ms, .ref mg, .ref md, .int 0, .ref mk, .int (-1), .int 0, .long 0, .int 0, .int 0, .ref z29, .int 0, .ref z31, .ref z32, .ref z33, .ref z34, .ref z35, .int 0, .ref z37, .int 0, .ref z39, .int 0, .int 0, .int 0, .ref z43, .ref z44, .ref z45, .ref z46, .ref z47, .int 0, .ref z49, .ref z50, .ref z51, .int 0, .int 0])) (hf_ml : f ml = .inl (cy 1, 5, .inl (fun _ => 0))) (hf_mh : f mh = .inl (cy 1, 30, .inl (fun _ => 0))) : Met l yX10_sent (z_ws yX10_sent cX10_sent 3 (some .int)) (z_R 6 0 0) (va_Pc [.ref me, .int xa, .int xb] (z_Pre D vwCl (z_K D cy) L f sz)) (z_Qi D vwCl (fun r u => (∀ b ∈ L, b ∈ u.1) ∧ (∀ b ∈ L, b ≠ me → u.2 b = f b) ∧ ((r.toInt = -2))) L sz) 0 0 (z_A L sz) := by
  refine z_met (cc := cX10_sent) (maxL := 3) (ret := (some .int)) (lv := [(0, .ref me), (1, .int xa), (2, .int xb)]) (by decide) rfl (Nat.le_of_ble_eq_true rfl) rfl ?_
  intro p e s m below meth c ls hx hb hr hlk hml hown hnm hts hKK hA hw hl
  have hK := hKK.1
  have hown : s.vm.findClass RX10 = some m.cls := hown
  have hT : ∀ w ∈ lw_all, w.before ([.ref me, .int xa, .int xb] : List Value).toArray s = true := fun w h => hts w (z_cons w h)
  have hsub : ∀ b ∈ L, b ∈ L := fun _ h => h
  have hfr : ∀ b ∈ L, b ≠ me → f b = f b := fun _ _ _ => rfl
  refine lv_aload_n hx hb dX10_sent_0 rfl (lv_at hl 0 rfl) ?_
  refine lv_iconst (v := 0) hx hb dX10_sent_1 (by decide) ?_
  refine z_put (C := RX10) (T := TX10) (N := 54) (ci := 10) (v := .int 0) (fs' := [.int 0, .ref mw, .ref mn, .ref mc, .ref mv, .ref mt, .int 0, .int 0, .int 0, .int 0, .int 0, .long 0, .int 0, .int 0, .int 0, .int (-1), .ref ml, .ref mh, .ref mj, .ref ms, .ref mg, .ref md, .int 0, .ref mk, .int (-1), .int 0, .long 0, .int 0, .int 0, .ref z29, .int 0, .ref z31, .ref z32, .ref z33, .ref z34, .ref z35, .int 0, .ref z37, .int 0, .ref z39, .int 0, .int 0, .int 0, .ref z43, .ref z44, .ref z45, .ref z46, .ref z47, .int 0, .ref z49, .ref z50, .ref z51, .int 0, .int 0]) hx hb hT zin_X10 tyX10_ok nmX10 hown hK hw hm_me hf_me rfl 0 (by decide) (hT _ kw_1168) rfl rfl rfl (Nat.le_of_ble_eq_true rfl) rfl dX10_sent_2 (fun H locs hw => ?_)
  obtain ⟨f1, e_f1⟩ : ∃ z, z = va_up f me (.inr (10, [.int 0, .ref mw, .ref mn, .ref mc, .ref mv, .ref mt, .int 0, .int 0, .int 0, .int 0, .int 0, .long 0, .int 0, .int 0, .int 0, .int (-1), .ref ml, .ref mh, .ref mj, .ref ms, .ref mg, .ref md, .int 0, .ref mk, .int (-1), .int 0, .long 0, .int 0, .int 0, .ref z29, .int 0, .ref z31, .ref z32, .ref z33, .ref z34, .ref z35, .int 0, .ref z37, .int 0, .ref z39, .int 0, .int 0, .int 0, .ref z43, .ref z44, .ref z45, .ref z46, .ref z47, .int 0, .ref z49, .ref z50, .ref z51, .int 0, .int 0])) := ⟨_, rfl⟩
  rw [← e_f1] at hw
  have hf_ml : f1 ml = .inl (cy 1, 5, .inl (fun _ => 0)) := (congrFun e_f1 ml).trans (z_up_ne (z_tne hf_ml hf_me (m := 140) (n := 10) rfl rfl (by decide)) hf_ml)
  have hf_mh : f1 mh = .inl (cy 1, 30, .inl (fun _ => 0)) := (congrFun e_f1 mh).trans (z_up_ne (z_tne hf_mh hf_me (m := 340) (n := 10) rfl rfl (by decide)) hf_mh)
  have hf_me : f1 me = .inr (10, [.int 0, .ref mw, .ref mn, .ref mc, .ref mv, .ref mt, .int 0, .int 0, .int 0, .int 0, .int 0, .long 0, .int 0, .int 0, .int 0, .int (-1), .ref ml, .ref mh, .ref mj, .ref ms, .ref mg, .ref md, .int 0, .ref mk, .int (-1), .int 0, .long 0, .int 0, .int 0, .ref z29, .int 0, .ref z31, .ref z32, .ref z33, .ref z34, .ref z35, .int 0, .ref z37, .int 0, .ref z39, .int 0, .int 0, .int 0, .ref z43, .ref z44, .ref z45, .ref z46, .ref z47, .int 0, .ref z49, .ref z50, .ref z51, .int 0, .int 0]) := (congrFun e_f1 me).trans z_up_self
  have hfr : ∀ b ∈ L, b ≠ me → f1 b = f b := fun b hb h0 => (congrFun e_f1 b).trans (z_up_ne h0 (hfr b hb h0))
  refine lv_aload_n hx hb dX10_sent_5 rfl (lv_at hl 0 rfl) ?_
  refine lv_iload_n hx hb dX10_sent_6 rfl (lv_at hl 1 rfl) ?_
  refine z_calliV (cells := 0) (slots := 0) (b := me) (As := [.int xa]) (rest := []) (ci := 10) (q0 := (RX10, TX10, 54)) ⟨hx, hb, hml, hown, hT⟩ (c_X10_isDrive l hm_me hm_mh hf_me hf_mh) (cwV 1 hT (z_goodV (fun _ h => h) kw_1482 kw_1484 kw_50 kw_96 kw_1485) rfl rfl rfl (by decide +kernel) ⟨by decide, by decide⟩) z_mv hKK hK hw hA hm_me hf_me rfl rfl rfl hl.1 rfl (Nat.le_of_ble_eq_true rfl) dX10_sent_7 ⟨by decide, by decide⟩ (fun r2 u H locs hp hw => ?_)
  obtain ⟨rfl, hp⟩ := hp
  have hw : z_H D vwCl (z_A L sz) s.heap L f1 H locs := hw
  obtain rfl := hp
  refine z_if_eq (tgt := 25) hx hb (show (0 : Int32).toInt = 0 by decide) dX10_sent_10 (by decide) (fun _ => ?_) (fun h => absurd h (by decide))
  refine lv_bipush (v := (-2)) hx hb dX10_sent_25 (by decide) ?_
  exact z_iret hx hb hr hlk (by decide) (by decide) hw (⟨hsub, hfr, by decide⟩) dX10_sent_27

set_option maxHeartbeats 2000000 in
set_option maxRecDepth 100000 in
theorem c_X10_harm (l : Launch) {D : va_G} {cy : Nat → ClassId} {L : List Nat} {f : Nat → va_E} {sz : Nat} {me mw mn mc mv mt ml mh mj ms mg md mk z29 z31 z32 z33 z34 z35 z37 z39 z43 z44 z45 z46 z47 z49 z50 z51 : Nat}  {xa : Int32} (hm_me : me ∈ L) (hm_ml : ml ∈ L) (hm_mh : mh ∈ L) (hf_me : f me = .inr (10, [.int 0, .ref mw, .ref mn, .ref mc, .ref mv, .ref mt, .int 0, .int 0, .int 0, .int 0, .int 0, .long 0, .int 0, .int 0, .int 0, .int (-1), .ref ml, .ref mh, .ref mj, .ref ms, .ref mg, .ref md, .int 0, .ref mk, .int (-1), .int 0, .long 0, .int 0, .int 0, .ref z29, .int 0, .ref z31, .ref z32, .ref z33, .ref z34, .ref z35, .int 0, .ref z37, .int 0, .ref z39, .int 0, .int 0, .int 0, .ref z43, .ref z44, .ref z45, .ref z46, .ref z47, .int 0, .ref z49, .ref z50, .ref z51, .int 0, .int 0])) (hf_ml : f ml = .inl (cy 1, 5, .inl (fun _ => 0))) (hf_mh : f mh = .inl (cy 1, 30, .inl (fun _ => 0))) : Met l yX10_harm (z_ws yX10_harm cX10_harm 3 (some .int)) (z_R 6 0 0) (va_Pc [.ref me, .int xa] (z_Pre D vwCl (z_K D cy) L f sz)) (z_Qi D vwCl (fun r u => (∀ b ∈ L, b ∈ u.1) ∧ (∀ b ∈ L, b ≠ me → u.2 b = f b) ∧ ((r.toInt = -2))) L sz) 0 0 (z_A L sz) := by
  refine z_met (cc := cX10_harm) (maxL := 3) (ret := (some .int)) (lv := [(0, .ref me), (1, .int xa)]) (by decide) rfl (Nat.le_of_ble_eq_true rfl) rfl ?_
  intro p e s m below meth c ls hx hb hr hlk hml hown hnm hts hKK hA hw hl
  have hK := hKK.1
  have hown : s.vm.findClass RX10 = some m.cls := hown
  have hT : ∀ w ∈ lw_all, w.before ([.ref me, .int xa] : List Value).toArray s = true := fun w h => hts w (z_cons w h)
  have hsub : ∀ b ∈ L, b ∈ L := fun _ h => h
  have hfr : ∀ b ∈ L, b ≠ me → f b = f b := fun _ _ _ => rfl
  refine lv_aload_n hx hb dX10_harm_0 rfl (lv_at hl 0 rfl) ?_
  refine lv_iconst (v := 0) hx hb dX10_harm_1 (by decide) ?_
  refine z_put (C := RX10) (T := TX10) (N := 54) (ci := 10) (v := .int 0) (fs' := [.int 0, .ref mw, .ref mn, .ref mc, .ref mv, .ref mt, .int 0, .int 0, .int 0, .int 0, .int 0, .long 0, .int 0, .int 0, .int 0, .int (-1), .ref ml, .ref mh, .ref mj, .ref ms, .ref mg, .ref md, .int 0, .ref mk, .int (-1), .int 0, .long 0, .int 0, .int 0, .ref z29, .int 0, .ref z31, .ref z32, .ref z33, .ref z34, .ref z35, .int 0, .ref z37, .int 0, .ref z39, .int 0, .int 0, .int 0, .ref z43, .ref z44, .ref z45, .ref z46, .ref z47, .int 0, .ref z49, .ref z50, .ref z51, .int 0, .int 0]) hx hb hT zin_X10 tyX10_ok nmX10 hown hK hw hm_me hf_me rfl 0 (by decide) (hT _ kw_1168) rfl rfl rfl (Nat.le_of_ble_eq_true rfl) rfl dX10_harm_2 (fun H locs hw => ?_)
  obtain ⟨f1, e_f1⟩ : ∃ z, z = va_up f me (.inr (10, [.int 0, .ref mw, .ref mn, .ref mc, .ref mv, .ref mt, .int 0, .int 0, .int 0, .int 0, .int 0, .long 0, .int 0, .int 0, .int 0, .int (-1), .ref ml, .ref mh, .ref mj, .ref ms, .ref mg, .ref md, .int 0, .ref mk, .int (-1), .int 0, .long 0, .int 0, .int 0, .ref z29, .int 0, .ref z31, .ref z32, .ref z33, .ref z34, .ref z35, .int 0, .ref z37, .int 0, .ref z39, .int 0, .int 0, .int 0, .ref z43, .ref z44, .ref z45, .ref z46, .ref z47, .int 0, .ref z49, .ref z50, .ref z51, .int 0, .int 0])) := ⟨_, rfl⟩
  rw [← e_f1] at hw
  have hf_ml : f1 ml = .inl (cy 1, 5, .inl (fun _ => 0)) := (congrFun e_f1 ml).trans (z_up_ne (z_tne hf_ml hf_me (m := 140) (n := 10) rfl rfl (by decide)) hf_ml)
  have hf_mh : f1 mh = .inl (cy 1, 30, .inl (fun _ => 0)) := (congrFun e_f1 mh).trans (z_up_ne (z_tne hf_mh hf_me (m := 340) (n := 10) rfl rfl (by decide)) hf_mh)
  have hf_me : f1 me = .inr (10, [.int 0, .ref mw, .ref mn, .ref mc, .ref mv, .ref mt, .int 0, .int 0, .int 0, .int 0, .int 0, .long 0, .int 0, .int 0, .int 0, .int (-1), .ref ml, .ref mh, .ref mj, .ref ms, .ref mg, .ref md, .int 0, .ref mk, .int (-1), .int 0, .long 0, .int 0, .int 0, .ref z29, .int 0, .ref z31, .ref z32, .ref z33, .ref z34, .ref z35, .int 0, .ref z37, .int 0, .ref z39, .int 0, .int 0, .int 0, .ref z43, .ref z44, .ref z45, .ref z46, .ref z47, .int 0, .ref z49, .ref z50, .ref z51, .int 0, .int 0]) := (congrFun e_f1 me).trans z_up_self
  have hfr : ∀ b ∈ L, b ≠ me → f1 b = f b := fun b hb h0 => (congrFun e_f1 b).trans (z_up_ne h0 (hfr b hb h0))
  refine lv_aload_n hx hb dX10_harm_5 rfl (lv_at hl 0 rfl) ?_
  refine lv_iload_n hx hb dX10_harm_6 rfl (lv_at hl 1 rfl) ?_
  refine z_calliV (cells := 0) (slots := 0) (b := me) (As := [.int xa]) (rest := []) (ci := 10) (q0 := (RX10, TX10, 54)) ⟨hx, hb, hml, hown, hT⟩ (c_X10_isDrive l hm_me hm_mh hf_me hf_mh) (cwV 1 hT (z_goodV (fun _ h => h) kw_1482 kw_1484 kw_50 kw_96 kw_1485) rfl rfl rfl (by decide +kernel) ⟨by decide, by decide⟩) z_mv hKK hK hw hA hm_me hf_me rfl rfl rfl hl.1 rfl (Nat.le_of_ble_eq_true rfl) dX10_harm_7 ⟨by decide, by decide⟩ (fun r2 u H locs hp hw => ?_)
  obtain ⟨rfl, hp⟩ := hp
  have hw : z_H D vwCl (z_A L sz) s.heap L f1 H locs := hw
  obtain rfl := hp
  refine z_if_ne (tgt := 16) hx hb (show (0 : Int32).toInt = 0 by decide) dX10_harm_10 (by decide) (fun h => absurd h (by decide)) (fun _ => ?_)
  refine lv_bipush (v := (-2)) hx hb dX10_harm_13 (by decide) ?_
  exact z_iret hx hb hr hlk (by decide) (by decide) hw (⟨hsub, hfr, by decide⟩) dX10_harm_15

set_option maxHeartbeats 2000000 in
set_option maxRecDepth 100000 in
theorem c_X10_ewe (l : Launch) {D : va_G} {cy : Nat → ClassId} {L : List Nat} {f : Nat → va_E} {sz : Nat} {me mw mn mc mv mt ml mh mj ms mg md mk z29 z31 z32 z33 z34 z35 z37 z39 z43 z44 z45 z46 z47 z49 z50 z51 : Nat}  {xa xb xc xd : Int32} (hm_me : me ∈ L) (hm_ml : ml ∈ L) (hm_mh : mh ∈ L) (hf_me : f me = .inr (10, [.int 0, .ref mw, .ref mn, .ref mc, .ref mv, .ref mt, .int 0, .int 0, .int 0, .int 0, .int 0, .long 0, .int 0, .int 0, .int 0, .int (-1), .ref ml, .ref mh, .ref mj, .ref ms, .ref mg, .ref md, .int 0, .ref mk, .int (-1), .int 0, .long 0, .int 0, .int 0, .ref z29, .int 0, .ref z31, .ref z32, .ref z33, .ref z34, .ref z35, .int 0, .ref z37, .int 0, .ref z39, .int 0, .int 0, .int 0, .ref z43, .ref z44, .ref z45, .ref z46, .ref z47, .int 0, .ref z49, .ref z50, .ref z51, .int 0, .int 0])) (hf_ml : f ml = .inl (cy 1, 5, .inl (fun _ => 0))) (hf_mh : f mh = .inl (cy 1, 30, .inl (fun _ => 0))) : Met l yX10_ewe (z_ws yX10_ewe cX10_ewe 5 (some .int)) (z_R 6 0 0) (va_Pc [.ref me, .int xa, .int xb, .int xc, .int xd] (z_Pre D vwCl (z_K D cy) L f sz)) (z_Qi D vwCl (fun r u => (∀ b ∈ L, b ∈ u.1) ∧ (∀ b ∈ L, b ≠ me → u.2 b = f b) ∧ ((r.toInt = -2))) L sz) 0 0 (z_A L sz) := by
  refine z_met (cc := cX10_ewe) (maxL := 5) (ret := (some .int)) (lv := [(0, .ref me), (1, .int xa), (2, .int xb), (3, .int xc), (4, .int xd)]) (by decide) rfl (Nat.le_of_ble_eq_true rfl) rfl ?_
  intro p e s m below meth c ls hx hb hr hlk hml hown hnm hts hKK hA hw hl
  have hK := hKK.1
  have hown : s.vm.findClass RX10 = some m.cls := hown
  have hT : ∀ w ∈ lw_all, w.before ([.ref me, .int xa, .int xb, .int xc, .int xd] : List Value).toArray s = true := fun w h => hts w (z_cons w h)
  have hsub : ∀ b ∈ L, b ∈ L := fun _ h => h
  have hfr : ∀ b ∈ L, b ≠ me → f b = f b := fun _ _ _ => rfl
  refine lv_aload_n hx hb dX10_ewe_0 rfl (lv_at hl 0 rfl) ?_
  refine lv_iconst (v := 0) hx hb dX10_ewe_1 (by decide) ?_
  refine z_put (C := RX10) (T := TX10) (N := 54) (ci := 10) (v := .int 0) (fs' := [.int 0, .ref mw, .ref mn, .ref mc, .ref mv, .ref mt, .int 0, .int 0, .int 0, .int 0, .int 0, .long 0, .int 0, .int 0, .int 0, .int (-1), .ref ml, .ref mh, .ref mj, .ref ms, .ref mg, .ref md, .int 0, .ref mk, .int (-1), .int 0, .long 0, .int 0, .int 0, .ref z29, .int 0, .ref z31, .ref z32, .ref z33, .ref z34, .ref z35, .int 0, .ref z37, .int 0, .ref z39, .int 0, .int 0, .int 0, .ref z43, .ref z44, .ref z45, .ref z46, .ref z47, .int 0, .ref z49, .ref z50, .ref z51, .int 0, .int 0]) hx hb hT zin_X10 tyX10_ok nmX10 hown hK hw hm_me hf_me rfl 0 (by decide) (hT _ kw_1168) rfl rfl rfl (Nat.le_of_ble_eq_true rfl) rfl dX10_ewe_2 (fun H locs hw => ?_)
  obtain ⟨f1, e_f1⟩ : ∃ z, z = va_up f me (.inr (10, [.int 0, .ref mw, .ref mn, .ref mc, .ref mv, .ref mt, .int 0, .int 0, .int 0, .int 0, .int 0, .long 0, .int 0, .int 0, .int 0, .int (-1), .ref ml, .ref mh, .ref mj, .ref ms, .ref mg, .ref md, .int 0, .ref mk, .int (-1), .int 0, .long 0, .int 0, .int 0, .ref z29, .int 0, .ref z31, .ref z32, .ref z33, .ref z34, .ref z35, .int 0, .ref z37, .int 0, .ref z39, .int 0, .int 0, .int 0, .ref z43, .ref z44, .ref z45, .ref z46, .ref z47, .int 0, .ref z49, .ref z50, .ref z51, .int 0, .int 0])) := ⟨_, rfl⟩
  rw [← e_f1] at hw
  have hf_ml : f1 ml = .inl (cy 1, 5, .inl (fun _ => 0)) := (congrFun e_f1 ml).trans (z_up_ne (z_tne hf_ml hf_me (m := 140) (n := 10) rfl rfl (by decide)) hf_ml)
  have hf_mh : f1 mh = .inl (cy 1, 30, .inl (fun _ => 0)) := (congrFun e_f1 mh).trans (z_up_ne (z_tne hf_mh hf_me (m := 340) (n := 10) rfl rfl (by decide)) hf_mh)
  have hf_me : f1 me = .inr (10, [.int 0, .ref mw, .ref mn, .ref mc, .ref mv, .ref mt, .int 0, .int 0, .int 0, .int 0, .int 0, .long 0, .int 0, .int 0, .int 0, .int (-1), .ref ml, .ref mh, .ref mj, .ref ms, .ref mg, .ref md, .int 0, .ref mk, .int (-1), .int 0, .long 0, .int 0, .int 0, .ref z29, .int 0, .ref z31, .ref z32, .ref z33, .ref z34, .ref z35, .int 0, .ref z37, .int 0, .ref z39, .int 0, .int 0, .int 0, .ref z43, .ref z44, .ref z45, .ref z46, .ref z47, .int 0, .ref z49, .ref z50, .ref z51, .int 0, .int 0]) := (congrFun e_f1 me).trans z_up_self
  have hfr : ∀ b ∈ L, b ≠ me → f1 b = f b := fun b hb h0 => (congrFun e_f1 b).trans (z_up_ne h0 (hfr b hb h0))
  refine lv_aload_n hx hb dX10_ewe_5 rfl (lv_at hl 0 rfl) ?_
  refine lv_iload_n hx hb dX10_ewe_6 rfl (lv_at hl 1 rfl) ?_
  refine lv_i2l hx hb dX10_ewe_7 rfl ?_
  refine lv_topl (fun w2 e_w2 => ?_)
  have i_w2 : w2.toInt = xa.toInt := z_i2l e_w2 rfl
  refine z_calliV (cells := 0) (slots := 0) (b := me) (As := [.long w2]) (rest := []) (ci := 10) (q0 := (RX10, TX10, 54)) ⟨hx, hb, hml, hown, hT⟩ (c_X10_isOwner l hm_me hm_ml hf_me hf_ml) (cwV 1 hT (z_goodV (fun _ h => h) kw_1604 kw_1606 kw_69 kw_96 kw_1607) rfl rfl rfl (by decide +kernel) ⟨by decide, by decide⟩) z_mv hKK hK hw hA hm_me hf_me rfl rfl rfl hl.1 rfl (Nat.le_of_ble_eq_true rfl) dX10_ewe_8 ⟨by decide, by decide⟩ (fun r3 u H locs hp hw => ?_)
  obtain ⟨rfl, hp⟩ := hp
  have hw : z_H D vwCl (z_A L sz) s.heap L f1 H locs := hw
  obtain rfl := hp
  refine z_if_eq (tgt := 50) hx hb (show (0 : Int32).toInt = 0 by decide) dX10_ewe_11 (by decide) (fun _ => ?_) (fun h => absurd h (by decide))
  refine lv_bipush (v := (-2)) hx hb dX10_ewe_50 (by decide) ?_
  exact z_iret hx hb hr hlk (by decide) (by decide) hw (⟨hsub, hfr, by decide⟩) dX10_ewe_52

set_option maxHeartbeats 2000000 in
set_option maxRecDepth 100000 in
theorem c_X10_waits (l : Launch) {D : va_G} {cy : Nat → ClassId} {L : List Nat} {f : Nat → va_E} {sz : Nat} {me mw mn mc mv mt ml mh mj ms mg md mk z29 z31 z32 z33 z34 z35 z37 z39 z43 z44 z45 z46 z47 z49 z50 z51 : Nat}  {xa xb xc xd : Int32} (hm_me : me ∈ L) (hm_ml : ml ∈ L) (hm_mh : mh ∈ L) (hf_me : f me = .inr (10, [.int 0, .ref mw, .ref mn, .ref mc, .ref mv, .ref mt, .int 0, .int 0, .int 0, .int 0, .int 0, .long 0, .int 0, .int 0, .int 0, .int (-1), .ref ml, .ref mh, .ref mj, .ref ms, .ref mg, .ref md, .int 0, .ref mk, .int (-1), .int 0, .long 0, .int 0, .int 0, .ref z29, .int 0, .ref z31, .ref z32, .ref z33, .ref z34, .ref z35, .int 0, .ref z37, .int 0, .ref z39, .int 0, .int 0, .int 0, .ref z43, .ref z44, .ref z45, .ref z46, .ref z47, .int 0, .ref z49, .ref z50, .ref z51, .int 0, .int 0])) (hf_ml : f ml = .inl (cy 1, 5, .inl (fun _ => 0))) (hf_mh : f mh = .inl (cy 1, 30, .inl (fun _ => 0))) : Met l yX10_waits (z_ws yX10_waits cX10_waits 9 (some .int)) (z_R 6 0 0) (va_Pc [.ref me, .int xa, .int xb, .int xc, .int xd] (z_Pre D vwCl (z_K D cy) L f sz)) (z_Qi D vwCl (fun r u => (∀ b ∈ L, b ∈ u.1) ∧ (∀ b ∈ L, b ≠ me → u.2 b = f b) ∧ ((r.toInt = -2))) L sz) 0 0 (z_A L sz) := by
  refine z_met (cc := cX10_waits) (maxL := 9) (ret := (some .int)) (lv := [(0, .ref me), (1, .int xa), (2, .int xb), (3, .int xc), (4, .int xd)]) (by decide) rfl (Nat.le_of_ble_eq_true rfl) rfl ?_
  intro p e s m below meth c ls hx hb hr hlk hml hown hnm hts hKK hA hw hl
  have hK := hKK.1
  have hown : s.vm.findClass RX10 = some m.cls := hown
  have hT : ∀ w ∈ lw_all, w.before ([.ref me, .int xa, .int xb, .int xc, .int xd] : List Value).toArray s = true := fun w h => hts w (z_cons w h)
  have hsub : ∀ b ∈ L, b ∈ L := fun _ h => h
  have hfr : ∀ b ∈ L, b ≠ me → f b = f b := fun _ _ _ => rfl
  refine lv_aload_n hx hb dX10_waits_0 rfl (lv_at hl 0 rfl) ?_
  refine lv_iconst (v := 0) hx hb dX10_waits_1 (by decide) ?_
  refine z_put (C := RX10) (T := TX10) (N := 54) (ci := 10) (v := .int 0) (fs' := [.int 0, .ref mw, .ref mn, .ref mc, .ref mv, .ref mt, .int 0, .int 0, .int 0, .int 0, .int 0, .long 0, .int 0, .int 0, .int 0, .int (-1), .ref ml, .ref mh, .ref mj, .ref ms, .ref mg, .ref md, .int 0, .ref mk, .int (-1), .int 0, .long 0, .int 0, .int 0, .ref z29, .int 0, .ref z31, .ref z32, .ref z33, .ref z34, .ref z35, .int 0, .ref z37, .int 0, .ref z39, .int 0, .int 0, .int 0, .ref z43, .ref z44, .ref z45, .ref z46, .ref z47, .int 0, .ref z49, .ref z50, .ref z51, .int 0, .int 0]) hx hb hT zin_X10 tyX10_ok nmX10 hown hK hw hm_me hf_me rfl 0 (by decide) (hT _ kw_1168) rfl rfl rfl (Nat.le_of_ble_eq_true rfl) rfl dX10_waits_2 (fun H locs hw => ?_)
  obtain ⟨f1, e_f1⟩ : ∃ z, z = va_up f me (.inr (10, [.int 0, .ref mw, .ref mn, .ref mc, .ref mv, .ref mt, .int 0, .int 0, .int 0, .int 0, .int 0, .long 0, .int 0, .int 0, .int 0, .int (-1), .ref ml, .ref mh, .ref mj, .ref ms, .ref mg, .ref md, .int 0, .ref mk, .int (-1), .int 0, .long 0, .int 0, .int 0, .ref z29, .int 0, .ref z31, .ref z32, .ref z33, .ref z34, .ref z35, .int 0, .ref z37, .int 0, .ref z39, .int 0, .int 0, .int 0, .ref z43, .ref z44, .ref z45, .ref z46, .ref z47, .int 0, .ref z49, .ref z50, .ref z51, .int 0, .int 0])) := ⟨_, rfl⟩
  rw [← e_f1] at hw
  have hf_ml : f1 ml = .inl (cy 1, 5, .inl (fun _ => 0)) := (congrFun e_f1 ml).trans (z_up_ne (z_tne hf_ml hf_me (m := 140) (n := 10) rfl rfl (by decide)) hf_ml)
  have hf_mh : f1 mh = .inl (cy 1, 30, .inl (fun _ => 0)) := (congrFun e_f1 mh).trans (z_up_ne (z_tne hf_mh hf_me (m := 340) (n := 10) rfl rfl (by decide)) hf_mh)
  have hf_me : f1 me = .inr (10, [.int 0, .ref mw, .ref mn, .ref mc, .ref mv, .ref mt, .int 0, .int 0, .int 0, .int 0, .int 0, .long 0, .int 0, .int 0, .int 0, .int (-1), .ref ml, .ref mh, .ref mj, .ref ms, .ref mg, .ref md, .int 0, .ref mk, .int (-1), .int 0, .long 0, .int 0, .int 0, .ref z29, .int 0, .ref z31, .ref z32, .ref z33, .ref z34, .ref z35, .int 0, .ref z37, .int 0, .ref z39, .int 0, .int 0, .int 0, .ref z43, .ref z44, .ref z45, .ref z46, .ref z47, .int 0, .ref z49, .ref z50, .ref z51, .int 0, .int 0]) := (congrFun e_f1 me).trans z_up_self
  have hfr : ∀ b ∈ L, b ≠ me → f1 b = f b := fun b hb h0 => (congrFun e_f1 b).trans (z_up_ne h0 (hfr b hb h0))
  refine lv_aload_n hx hb dX10_waits_5 rfl (lv_at hl 0 rfl) ?_
  refine lv_iload_n hx hb dX10_waits_6 rfl (lv_at hl 1 rfl) ?_
  refine lv_i2l hx hb dX10_waits_7 rfl ?_
  refine lv_topl (fun w2 e_w2 => ?_)
  have i_w2 : w2.toInt = xa.toInt := z_i2l e_w2 rfl
  refine z_calliV (cells := 0) (slots := 0) (b := me) (As := [.long w2]) (rest := []) (ci := 10) (q0 := (RX10, TX10, 54)) ⟨hx, hb, hml, hown, hT⟩ (c_X10_isOwner l hm_me hm_ml hf_me hf_ml) (cwV 1 hT (z_goodV (fun _ h => h) kw_1604 kw_1606 kw_69 kw_96 kw_1607) rfl rfl rfl (by decide +kernel) ⟨by decide, by decide⟩) z_mv hKK hK hw hA hm_me hf_me rfl rfl rfl hl.1 rfl (Nat.le_of_ble_eq_true rfl) dX10_waits_8 ⟨by decide, by decide⟩ (fun r3 u H locs hp hw => ?_)
  obtain ⟨rfl, hp⟩ := hp
  have hw : z_H D vwCl (z_A L sz) s.heap L f1 H locs := hw
  obtain rfl := hp
  refine z_if_eq (tgt := 41) hx hb (show (0 : Int32).toInt = 0 by decide) dX10_waits_11 (by decide) (fun _ => ?_) (fun h => absurd h (by decide))
  refine lv_bipush (v := (-2)) hx hb dX10_waits_41 (by decide) ?_
  exact z_iret hx hb hr hlk (by decide) (by decide) hw (⟨hsub, hfr, by decide⟩) dX10_waits_43

set_option maxHeartbeats 2000000 in
set_option maxRecDepth 100000 in
theorem c_X10_ring (l : Launch) {D : va_G} {cy : Nat → ClassId} {L : List Nat} {f : Nat → va_E} {sz : Nat} {me mw mn mc mv mt ml mh mj ms mg md mk z29 z31 z32 z33 z34 z35 z37 z39 z43 z44 z45 z46 z47 z49 z50 z51 : Nat}  {xa xb xc : Int32} (hm_me : me ∈ L) (hm_ml : ml ∈ L) (hm_mh : mh ∈ L) (hf_me : f me = .inr (10, [.int 0, .ref mw, .ref mn, .ref mc, .ref mv, .ref mt, .int 0, .int 0, .int 0, .int 0, .int 0, .long 0, .int 0, .int 0, .int 0, .int (-1), .ref ml, .ref mh, .ref mj, .ref ms, .ref mg, .ref md, .int 0, .ref mk, .int (-1), .int 0, .long 0, .int 0, .int 0, .ref z29, .int 0, .ref z31, .ref z32, .ref z33, .ref z34, .ref z35, .int 0, .ref z37, .int 0, .ref z39, .int 0, .int 0, .int 0, .ref z43, .ref z44, .ref z45, .ref z46, .ref z47, .int 0, .ref z49, .ref z50, .ref z51, .int 0, .int 0])) (hf_ml : f ml = .inl (cy 1, 5, .inl (fun _ => 0))) (hf_mh : f mh = .inl (cy 1, 30, .inl (fun _ => 0))) : Met l yX10_ring (z_ws yX10_ring cX10_ring 7 (some .int)) (z_R 6 0 0) (va_Pc [.ref me, .int xa, .int xb, .int xc] (z_Pre D vwCl (z_K D cy) L f sz)) (z_Qi D vwCl (fun r u => (∀ b ∈ L, b ∈ u.1) ∧ (∀ b ∈ L, b ≠ me → u.2 b = f b) ∧ ((r.toInt = -2))) L sz) 0 0 (z_A L sz) := by
  refine z_met (cc := cX10_ring) (maxL := 7) (ret := (some .int)) (lv := [(0, .ref me), (1, .int xa), (2, .int xb), (3, .int xc)]) (by decide) rfl (Nat.le_of_ble_eq_true rfl) rfl ?_
  intro p e s m below meth c ls hx hb hr hlk hml hown hnm hts hKK hA hw hl
  have hK := hKK.1
  have hown : s.vm.findClass RX10 = some m.cls := hown
  have hT : ∀ w ∈ lw_all, w.before ([.ref me, .int xa, .int xb, .int xc] : List Value).toArray s = true := fun w h => hts w (z_cons w h)
  have hsub : ∀ b ∈ L, b ∈ L := fun _ h => h
  have hfr : ∀ b ∈ L, b ≠ me → f b = f b := fun _ _ _ => rfl
  refine lv_aload_n hx hb dX10_ring_0 rfl (lv_at hl 0 rfl) ?_
  refine lv_iconst (v := 0) hx hb dX10_ring_1 (by decide) ?_
  refine z_put (C := RX10) (T := TX10) (N := 54) (ci := 10) (v := .int 0) (fs' := [.int 0, .ref mw, .ref mn, .ref mc, .ref mv, .ref mt, .int 0, .int 0, .int 0, .int 0, .int 0, .long 0, .int 0, .int 0, .int 0, .int (-1), .ref ml, .ref mh, .ref mj, .ref ms, .ref mg, .ref md, .int 0, .ref mk, .int (-1), .int 0, .long 0, .int 0, .int 0, .ref z29, .int 0, .ref z31, .ref z32, .ref z33, .ref z34, .ref z35, .int 0, .ref z37, .int 0, .ref z39, .int 0, .int 0, .int 0, .ref z43, .ref z44, .ref z45, .ref z46, .ref z47, .int 0, .ref z49, .ref z50, .ref z51, .int 0, .int 0]) hx hb hT zin_X10 tyX10_ok nmX10 hown hK hw hm_me hf_me rfl 0 (by decide) (hT _ kw_1168) rfl rfl rfl (Nat.le_of_ble_eq_true rfl) rfl dX10_ring_2 (fun H locs hw => ?_)
  obtain ⟨f1, e_f1⟩ : ∃ z, z = va_up f me (.inr (10, [.int 0, .ref mw, .ref mn, .ref mc, .ref mv, .ref mt, .int 0, .int 0, .int 0, .int 0, .int 0, .long 0, .int 0, .int 0, .int 0, .int (-1), .ref ml, .ref mh, .ref mj, .ref ms, .ref mg, .ref md, .int 0, .ref mk, .int (-1), .int 0, .long 0, .int 0, .int 0, .ref z29, .int 0, .ref z31, .ref z32, .ref z33, .ref z34, .ref z35, .int 0, .ref z37, .int 0, .ref z39, .int 0, .int 0, .int 0, .ref z43, .ref z44, .ref z45, .ref z46, .ref z47, .int 0, .ref z49, .ref z50, .ref z51, .int 0, .int 0])) := ⟨_, rfl⟩
  rw [← e_f1] at hw
  have hf_ml : f1 ml = .inl (cy 1, 5, .inl (fun _ => 0)) := (congrFun e_f1 ml).trans (z_up_ne (z_tne hf_ml hf_me (m := 140) (n := 10) rfl rfl (by decide)) hf_ml)
  have hf_mh : f1 mh = .inl (cy 1, 30, .inl (fun _ => 0)) := (congrFun e_f1 mh).trans (z_up_ne (z_tne hf_mh hf_me (m := 340) (n := 10) rfl rfl (by decide)) hf_mh)
  have hf_me : f1 me = .inr (10, [.int 0, .ref mw, .ref mn, .ref mc, .ref mv, .ref mt, .int 0, .int 0, .int 0, .int 0, .int 0, .long 0, .int 0, .int 0, .int 0, .int (-1), .ref ml, .ref mh, .ref mj, .ref ms, .ref mg, .ref md, .int 0, .ref mk, .int (-1), .int 0, .long 0, .int 0, .int 0, .ref z29, .int 0, .ref z31, .ref z32, .ref z33, .ref z34, .ref z35, .int 0, .ref z37, .int 0, .ref z39, .int 0, .int 0, .int 0, .ref z43, .ref z44, .ref z45, .ref z46, .ref z47, .int 0, .ref z49, .ref z50, .ref z51, .int 0, .int 0]) := (congrFun e_f1 me).trans z_up_self
  have hfr : ∀ b ∈ L, b ≠ me → f1 b = f b := fun b hb h0 => (congrFun e_f1 b).trans (z_up_ne h0 (hfr b hb h0))
  refine lv_aload_n hx hb dX10_ring_5 rfl (lv_at hl 0 rfl) ?_
  refine lv_iload_n hx hb dX10_ring_6 rfl (lv_at hl 1 rfl) ?_
  refine z_calliV (cells := 0) (slots := 0) (b := me) (As := [.int xa]) (rest := []) (ci := 10) (q0 := (RX10, TX10, 54)) ⟨hx, hb, hml, hown, hT⟩ (c_X10_isGap l hm_me hm_mh hf_me hf_mh) (cwV 1 hT (z_goodV (fun _ h => h) kw_1519 kw_1521 kw_55 kw_96 kw_1522) rfl rfl rfl (by decide +kernel) ⟨by decide, by decide⟩) z_mv hKK hK hw hA hm_me hf_me rfl rfl rfl hl.1 rfl (Nat.le_of_ble_eq_true rfl) dX10_ring_7 ⟨by decide, by decide⟩ (fun r2 u H locs hp hw => ?_)
  obtain ⟨rfl, hp⟩ := hp
  have hw : z_H D vwCl (z_A L sz) s.heap L f1 H locs := hw
  obtain rfl := hp
  refine z_if_eq (tgt := 37) hx hb (show (0 : Int32).toInt = 0 by decide) dX10_ring_10 (by decide) (fun _ => ?_) (fun h => absurd h (by decide))
  refine lv_bipush (v := (-2)) hx hb dX10_ring_37 (by decide) ?_
  exact z_iret hx hb hr hlk (by decide) (by decide) hw (⟨hsub, hfr, by decide⟩) dX10_ring_39

set_option maxHeartbeats 2000000 in
set_option maxRecDepth 100000 in
theorem c_X10_rounds (l : Launch) {D : va_G} {cy : Nat → ClassId} {L : List Nat} {f : Nat → va_E} {sz : Nat} {me mw mn mc mv mt ml mh mj ms mg md mk z29 z31 z32 z33 z34 z35 z37 z39 z43 z44 z45 z46 z47 z49 z50 z51 : Nat}  {xa xb : Int32} (hm_me : me ∈ L) (hm_ml : ml ∈ L) (hm_mh : mh ∈ L) (hf_me : f me = .inr (10, [.int 0, .ref mw, .ref mn, .ref mc, .ref mv, .ref mt, .int 0, .int 0, .int 0, .int 0, .int 0, .long 0, .int 0, .int 0, .int 0, .int (-1), .ref ml, .ref mh, .ref mj, .ref ms, .ref mg, .ref md, .int 0, .ref mk, .int (-1), .int 0, .long 0, .int 0, .int 0, .ref z29, .int 0, .ref z31, .ref z32, .ref z33, .ref z34, .ref z35, .int 0, .ref z37, .int 0, .ref z39, .int 0, .int 0, .int 0, .ref z43, .ref z44, .ref z45, .ref z46, .ref z47, .int 0, .ref z49, .ref z50, .ref z51, .int 0, .int 0])) (hf_ml : f ml = .inl (cy 1, 5, .inl (fun _ => 0))) (hf_mh : f mh = .inl (cy 1, 30, .inl (fun _ => 0))) : Met l yX10_rounds (z_ws yX10_rounds cX10_rounds 6 (some .int)) (z_R 6 0 0) (va_Pc [.ref me, .int xa, .int xb] (z_Pre D vwCl (z_K D cy) L f sz)) (z_Qi D vwCl (fun r u => (∀ b ∈ L, b ∈ u.1) ∧ (∀ b ∈ L, b ≠ me → u.2 b = f b) ∧ ((r.toInt = -2))) L sz) 0 0 (z_A L sz) := by
  refine z_met (cc := cX10_rounds) (maxL := 6) (ret := (some .int)) (lv := [(0, .ref me), (1, .int xa), (2, .int xb)]) (by decide) rfl (Nat.le_of_ble_eq_true rfl) rfl ?_
  intro p e s m below meth c ls hx hb hr hlk hml hown hnm hts hKK hA hw hl
  have hK := hKK.1
  have hown : s.vm.findClass RX10 = some m.cls := hown
  have hT : ∀ w ∈ lw_all, w.before ([.ref me, .int xa, .int xb] : List Value).toArray s = true := fun w h => hts w (z_cons w h)
  have hsub : ∀ b ∈ L, b ∈ L := fun _ h => h
  have hfr : ∀ b ∈ L, b ≠ me → f b = f b := fun _ _ _ => rfl
  refine lv_aload_n hx hb dX10_rounds_0 rfl (lv_at hl 0 rfl) ?_
  refine lv_iconst (v := 0) hx hb dX10_rounds_1 (by decide) ?_
  refine z_put (C := RX10) (T := TX10) (N := 54) (ci := 10) (v := .int 0) (fs' := [.int 0, .ref mw, .ref mn, .ref mc, .ref mv, .ref mt, .int 0, .int 0, .int 0, .int 0, .int 0, .long 0, .int 0, .int 0, .int 0, .int (-1), .ref ml, .ref mh, .ref mj, .ref ms, .ref mg, .ref md, .int 0, .ref mk, .int (-1), .int 0, .long 0, .int 0, .int 0, .ref z29, .int 0, .ref z31, .ref z32, .ref z33, .ref z34, .ref z35, .int 0, .ref z37, .int 0, .ref z39, .int 0, .int 0, .int 0, .ref z43, .ref z44, .ref z45, .ref z46, .ref z47, .int 0, .ref z49, .ref z50, .ref z51, .int 0, .int 0]) hx hb hT zin_X10 tyX10_ok nmX10 hown hK hw hm_me hf_me rfl 0 (by decide) (hT _ kw_1168) rfl rfl rfl (Nat.le_of_ble_eq_true rfl) rfl dX10_rounds_2 (fun H locs hw => ?_)
  obtain ⟨f1, e_f1⟩ : ∃ z, z = va_up f me (.inr (10, [.int 0, .ref mw, .ref mn, .ref mc, .ref mv, .ref mt, .int 0, .int 0, .int 0, .int 0, .int 0, .long 0, .int 0, .int 0, .int 0, .int (-1), .ref ml, .ref mh, .ref mj, .ref ms, .ref mg, .ref md, .int 0, .ref mk, .int (-1), .int 0, .long 0, .int 0, .int 0, .ref z29, .int 0, .ref z31, .ref z32, .ref z33, .ref z34, .ref z35, .int 0, .ref z37, .int 0, .ref z39, .int 0, .int 0, .int 0, .ref z43, .ref z44, .ref z45, .ref z46, .ref z47, .int 0, .ref z49, .ref z50, .ref z51, .int 0, .int 0])) := ⟨_, rfl⟩
  rw [← e_f1] at hw
  have hf_ml : f1 ml = .inl (cy 1, 5, .inl (fun _ => 0)) := (congrFun e_f1 ml).trans (z_up_ne (z_tne hf_ml hf_me (m := 140) (n := 10) rfl rfl (by decide)) hf_ml)
  have hf_mh : f1 mh = .inl (cy 1, 30, .inl (fun _ => 0)) := (congrFun e_f1 mh).trans (z_up_ne (z_tne hf_mh hf_me (m := 340) (n := 10) rfl rfl (by decide)) hf_mh)
  have hf_me : f1 me = .inr (10, [.int 0, .ref mw, .ref mn, .ref mc, .ref mv, .ref mt, .int 0, .int 0, .int 0, .int 0, .int 0, .long 0, .int 0, .int 0, .int 0, .int (-1), .ref ml, .ref mh, .ref mj, .ref ms, .ref mg, .ref md, .int 0, .ref mk, .int (-1), .int 0, .long 0, .int 0, .int 0, .ref z29, .int 0, .ref z31, .ref z32, .ref z33, .ref z34, .ref z35, .int 0, .ref z37, .int 0, .ref z39, .int 0, .int 0, .int 0, .ref z43, .ref z44, .ref z45, .ref z46, .ref z47, .int 0, .ref z49, .ref z50, .ref z51, .int 0, .int 0]) := (congrFun e_f1 me).trans z_up_self
  have hfr : ∀ b ∈ L, b ≠ me → f1 b = f b := fun b hb h0 => (congrFun e_f1 b).trans (z_up_ne h0 (hfr b hb h0))
  refine lv_aload_n hx hb dX10_rounds_5 rfl (lv_at hl 0 rfl) ?_
  refine lv_iload_n hx hb dX10_rounds_6 rfl (lv_at hl 1 rfl) ?_
  refine z_calliV (cells := 0) (slots := 0) (b := me) (As := [.int xa]) (rest := []) (ci := 10) (q0 := (RX10, TX10, 54)) ⟨hx, hb, hml, hown, hT⟩ (c_X10_isGap l hm_me hm_mh hf_me hf_mh) (cwV 1 hT (z_goodV (fun _ h => h) kw_1519 kw_1521 kw_55 kw_96 kw_1522) rfl rfl rfl (by decide +kernel) ⟨by decide, by decide⟩) z_mv hKK hK hw hA hm_me hf_me rfl rfl rfl hl.1 rfl (Nat.le_of_ble_eq_true rfl) dX10_rounds_7 ⟨by decide, by decide⟩ (fun r2 u H locs hp hw => ?_)
  obtain ⟨rfl, hp⟩ := hp
  have hw : z_H D vwCl (z_A L sz) s.heap L f1 H locs := hw
  obtain rfl := hp
  refine z_if_eq (tgt := 25) hx hb (show (0 : Int32).toInt = 0 by decide) dX10_rounds_10 (by decide) (fun _ => ?_) (fun h => absurd h (by decide))
  refine lv_bipush (v := (-2)) hx hb dX10_rounds_25 (by decide) ?_
  exact z_iret hx hb hr hlk (by decide) (by decide) hw (⟨hsub, hfr, by decide⟩) dX10_rounds_27

set_option maxHeartbeats 2000000 in
set_option maxRecDepth 100000 in
theorem c_X10_orders (l : Launch) {D : va_G} {cy : Nat → ClassId} {L : List Nat} {f : Nat → va_E} {sz : Nat} {me mw mn mc mv mt ml mh mj ms mg md mk z29 z31 z32 z33 z34 z35 z37 z39 z43 z44 z45 z46 z47 z49 z50 z51 : Nat}  {xa xb xc : Int32} (hm_me : me ∈ L) (hm_ml : ml ∈ L) (hm_mh : mh ∈ L) (hf_me : f me = .inr (10, [.int 0, .ref mw, .ref mn, .ref mc, .ref mv, .ref mt, .int 0, .int 0, .int 0, .int 0, .int 0, .long 0, .int 0, .int 0, .int 0, .int (-1), .ref ml, .ref mh, .ref mj, .ref ms, .ref mg, .ref md, .int 0, .ref mk, .int (-1), .int 0, .long 0, .int 0, .int 0, .ref z29, .int 0, .ref z31, .ref z32, .ref z33, .ref z34, .ref z35, .int 0, .ref z37, .int 0, .ref z39, .int 0, .int 0, .int 0, .ref z43, .ref z44, .ref z45, .ref z46, .ref z47, .int 0, .ref z49, .ref z50, .ref z51, .int 0, .int 0])) (hf_ml : f ml = .inl (cy 1, 5, .inl (fun _ => 0))) (hf_mh : f mh = .inl (cy 1, 30, .inl (fun _ => 0))) : Met l yX10_orders (z_ws yX10_orders cX10_orders 5 (some .int)) (z_R 6 0 0) (va_Pc [.ref me, .int xa, .int xb, .int xc] (z_Pre D vwCl (z_K D cy) L f sz)) (z_Qi D vwCl (fun r u => (∀ b ∈ L, b ∈ u.1) ∧ (∀ b ∈ L, b ≠ me → u.2 b = f b) ∧ ((r.toInt = -2))) L sz) 0 0 (z_A L sz) := by
  refine z_met (cc := cX10_orders) (maxL := 5) (ret := (some .int)) (lv := [(0, .ref me), (1, .int xa), (2, .int xb), (3, .int xc)]) (by decide) rfl (Nat.le_of_ble_eq_true rfl) rfl ?_
  intro p e s m below meth c ls hx hb hr hlk hml hown hnm hts hKK hA hw hl
  have hK := hKK.1
  have hown : s.vm.findClass RX10 = some m.cls := hown
  have hT : ∀ w ∈ lw_all, w.before ([.ref me, .int xa, .int xb, .int xc] : List Value).toArray s = true := fun w h => hts w (z_cons w h)
  have hsub : ∀ b ∈ L, b ∈ L := fun _ h => h
  have hfr : ∀ b ∈ L, b ≠ me → f b = f b := fun _ _ _ => rfl
  refine lv_aload_n hx hb dX10_orders_0 rfl (lv_at hl 0 rfl) ?_
  refine lv_iconst (v := 0) hx hb dX10_orders_1 (by decide) ?_
  refine z_put (C := RX10) (T := TX10) (N := 54) (ci := 10) (v := .int 0) (fs' := [.int 0, .ref mw, .ref mn, .ref mc, .ref mv, .ref mt, .int 0, .int 0, .int 0, .int 0, .int 0, .long 0, .int 0, .int 0, .int 0, .int (-1), .ref ml, .ref mh, .ref mj, .ref ms, .ref mg, .ref md, .int 0, .ref mk, .int (-1), .int 0, .long 0, .int 0, .int 0, .ref z29, .int 0, .ref z31, .ref z32, .ref z33, .ref z34, .ref z35, .int 0, .ref z37, .int 0, .ref z39, .int 0, .int 0, .int 0, .ref z43, .ref z44, .ref z45, .ref z46, .ref z47, .int 0, .ref z49, .ref z50, .ref z51, .int 0, .int 0]) hx hb hT zin_X10 tyX10_ok nmX10 hown hK hw hm_me hf_me rfl 0 (by decide) (hT _ kw_1168) rfl rfl rfl (Nat.le_of_ble_eq_true rfl) rfl dX10_orders_2 (fun H locs hw => ?_)
  obtain ⟨f1, e_f1⟩ : ∃ z, z = va_up f me (.inr (10, [.int 0, .ref mw, .ref mn, .ref mc, .ref mv, .ref mt, .int 0, .int 0, .int 0, .int 0, .int 0, .long 0, .int 0, .int 0, .int 0, .int (-1), .ref ml, .ref mh, .ref mj, .ref ms, .ref mg, .ref md, .int 0, .ref mk, .int (-1), .int 0, .long 0, .int 0, .int 0, .ref z29, .int 0, .ref z31, .ref z32, .ref z33, .ref z34, .ref z35, .int 0, .ref z37, .int 0, .ref z39, .int 0, .int 0, .int 0, .ref z43, .ref z44, .ref z45, .ref z46, .ref z47, .int 0, .ref z49, .ref z50, .ref z51, .int 0, .int 0])) := ⟨_, rfl⟩
  rw [← e_f1] at hw
  have hf_ml : f1 ml = .inl (cy 1, 5, .inl (fun _ => 0)) := (congrFun e_f1 ml).trans (z_up_ne (z_tne hf_ml hf_me (m := 140) (n := 10) rfl rfl (by decide)) hf_ml)
  have hf_mh : f1 mh = .inl (cy 1, 30, .inl (fun _ => 0)) := (congrFun e_f1 mh).trans (z_up_ne (z_tne hf_mh hf_me (m := 340) (n := 10) rfl rfl (by decide)) hf_mh)
  have hf_me : f1 me = .inr (10, [.int 0, .ref mw, .ref mn, .ref mc, .ref mv, .ref mt, .int 0, .int 0, .int 0, .int 0, .int 0, .long 0, .int 0, .int 0, .int 0, .int (-1), .ref ml, .ref mh, .ref mj, .ref ms, .ref mg, .ref md, .int 0, .ref mk, .int (-1), .int 0, .long 0, .int 0, .int 0, .ref z29, .int 0, .ref z31, .ref z32, .ref z33, .ref z34, .ref z35, .int 0, .ref z37, .int 0, .ref z39, .int 0, .int 0, .int 0, .ref z43, .ref z44, .ref z45, .ref z46, .ref z47, .int 0, .ref z49, .ref z50, .ref z51, .int 0, .int 0]) := (congrFun e_f1 me).trans z_up_self
  have hfr : ∀ b ∈ L, b ≠ me → f1 b = f b := fun b hb h0 => (congrFun e_f1 b).trans (z_up_ne h0 (hfr b hb h0))
  refine lv_aload_n hx hb dX10_orders_5 rfl (lv_at hl 0 rfl) ?_
  refine lv_iload_n hx hb dX10_orders_6 rfl (lv_at hl 1 rfl) ?_
  refine lv_iload_n hx hb dX10_orders_7 rfl (lv_at hl 2 rfl) ?_
  refine lv_iload_n hx hb dX10_orders_8 rfl (lv_at hl 3 rfl) ?_
  refine z_calliV (cells := 0) (slots := 0) (b := me) (As := [.int xa, .int xb, .int xc]) (rest := []) (ci := 10) (q0 := (RX10, TX10, 54)) ⟨hx, hb, hml, hown, hT⟩ (c_X10_whyNotOrders l hm_me hm_mh hf_me hf_mh) (cwV 3 hT (z_goodV (fun _ h => h) kw_1694 kw_1696 kw_77 kw_96 kw_1697) rfl rfl rfl (by decide +kernel) ⟨by decide, by decide⟩) z_mv hKK hK hw hA hm_me hf_me rfl rfl rfl hl.1 rfl (Nat.le_of_ble_eq_true rfl) dX10_orders_9 ⟨by decide, by decide⟩ (fun r2 u H locs hp hw => ?_)
  obtain ⟨rfl, hp⟩ := hp
  have hw : z_H D vwCl (z_A L sz) s.heap L f1 H locs := hw
  obtain rfl := hp
  refine lv_istore (lv' := [(4, .int (-2)), (0, .ref me), (1, .int xa), (2, .int xb), (3, .int xc)]) hx hb dX10_orders_12 hl (by decide) rfl (fun ls hl => ?_)
  refine lv_iload hx hb dX10_orders_14 (lv_at hl 0 rfl) ?_
  refine z_if_eq (tgt := 24) hx hb (show ((-2) : Int32).toInt = (-2) by decide) dX10_orders_16 (by decide) (fun h => absurd h (by decide)) (fun _ => ?_)
  refine lv_iload hx hb dX10_orders_19 (lv_at hl 0 rfl) ?_
  refine lv_goto (tgt := 28) hx hb dX10_orders_21 (by decide) ?_
  exact z_iret hx hb hr hlk (by decide) (by decide) hw (⟨hsub, hfr, by decide⟩) dX10_orders_28

set_option maxHeartbeats 2000000 in
set_option maxRecDepth 100000 in
theorem c_X10_order (l : Launch) {D : va_G} {cy : Nat → ClassId} {L : List Nat} {f : Nat → va_E} {sz : Nat} {me mw mn mc mv mt ml mh mj ms mg md mk z29 z31 z32 z33 z34 z35 z37 z39 z43 z44 z45 z46 z47 z49 z50 z51 : Nat}  {xa xb xc xd : Int32} (hm_me : me ∈ L) (hm_ml : ml ∈ L) (hm_mh : mh ∈ L) (hf_me : f me = .inr (10, [.int 0, .ref mw, .ref mn, .ref mc, .ref mv, .ref mt, .int 0, .int 0, .int 0, .int 0, .int 0, .long 0, .int 0, .int 0, .int 0, .int (-1), .ref ml, .ref mh, .ref mj, .ref ms, .ref mg, .ref md, .int 0, .ref mk, .int (-1), .int 0, .long 0, .int 0, .int 0, .ref z29, .int 0, .ref z31, .ref z32, .ref z33, .ref z34, .ref z35, .int 0, .ref z37, .int 0, .ref z39, .int 0, .int 0, .int 0, .ref z43, .ref z44, .ref z45, .ref z46, .ref z47, .int 0, .ref z49, .ref z50, .ref z51, .int 0, .int 0])) (hf_ml : f ml = .inl (cy 1, 5, .inl (fun _ => 0))) (hf_mh : f mh = .inl (cy 1, 30, .inl (fun _ => 0))) : Met l yX10_order (z_ws yX10_order cX10_order 6 (some .int)) (z_R 6 0 0) (va_Pc [.ref me, .int xa, .int xb, .int xc, .int xd] (z_Pre D vwCl (z_K D cy) L f sz)) (z_Qi D vwCl (fun r u => (∀ b ∈ L, b ∈ u.1) ∧ (∀ b ∈ L, b ≠ me → u.2 b = f b) ∧ ((r.toInt = -2))) L sz) 0 0 (z_A L sz) := by
  refine z_met (cc := cX10_order) (maxL := 6) (ret := (some .int)) (lv := [(0, .ref me), (1, .int xa), (2, .int xb), (3, .int xc), (4, .int xd)]) (by decide) rfl (Nat.le_of_ble_eq_true rfl) rfl ?_
  intro p e s m below meth c ls hx hb hr hlk hml hown hnm hts hKK hA hw hl
  have hK := hKK.1
  have hown : s.vm.findClass RX10 = some m.cls := hown
  have hT : ∀ w ∈ lw_all, w.before ([.ref me, .int xa, .int xb, .int xc, .int xd] : List Value).toArray s = true := fun w h => hts w (z_cons w h)
  have hsub : ∀ b ∈ L, b ∈ L := fun _ h => h
  have hfr : ∀ b ∈ L, b ≠ me → f b = f b := fun _ _ _ => rfl
  refine lv_aload_n hx hb dX10_order_0 rfl (lv_at hl 0 rfl) ?_
  refine lv_iconst (v := 0) hx hb dX10_order_1 (by decide) ?_
  refine z_put (C := RX10) (T := TX10) (N := 54) (ci := 10) (v := .int 0) (fs' := [.int 0, .ref mw, .ref mn, .ref mc, .ref mv, .ref mt, .int 0, .int 0, .int 0, .int 0, .int 0, .long 0, .int 0, .int 0, .int 0, .int (-1), .ref ml, .ref mh, .ref mj, .ref ms, .ref mg, .ref md, .int 0, .ref mk, .int (-1), .int 0, .long 0, .int 0, .int 0, .ref z29, .int 0, .ref z31, .ref z32, .ref z33, .ref z34, .ref z35, .int 0, .ref z37, .int 0, .ref z39, .int 0, .int 0, .int 0, .ref z43, .ref z44, .ref z45, .ref z46, .ref z47, .int 0, .ref z49, .ref z50, .ref z51, .int 0, .int 0]) hx hb hT zin_X10 tyX10_ok nmX10 hown hK hw hm_me hf_me rfl 0 (by decide) (hT _ kw_1168) rfl rfl rfl (Nat.le_of_ble_eq_true rfl) rfl dX10_order_2 (fun H locs hw => ?_)
  obtain ⟨f1, e_f1⟩ : ∃ z, z = va_up f me (.inr (10, [.int 0, .ref mw, .ref mn, .ref mc, .ref mv, .ref mt, .int 0, .int 0, .int 0, .int 0, .int 0, .long 0, .int 0, .int 0, .int 0, .int (-1), .ref ml, .ref mh, .ref mj, .ref ms, .ref mg, .ref md, .int 0, .ref mk, .int (-1), .int 0, .long 0, .int 0, .int 0, .ref z29, .int 0, .ref z31, .ref z32, .ref z33, .ref z34, .ref z35, .int 0, .ref z37, .int 0, .ref z39, .int 0, .int 0, .int 0, .ref z43, .ref z44, .ref z45, .ref z46, .ref z47, .int 0, .ref z49, .ref z50, .ref z51, .int 0, .int 0])) := ⟨_, rfl⟩
  rw [← e_f1] at hw
  have hf_ml : f1 ml = .inl (cy 1, 5, .inl (fun _ => 0)) := (congrFun e_f1 ml).trans (z_up_ne (z_tne hf_ml hf_me (m := 140) (n := 10) rfl rfl (by decide)) hf_ml)
  have hf_mh : f1 mh = .inl (cy 1, 30, .inl (fun _ => 0)) := (congrFun e_f1 mh).trans (z_up_ne (z_tne hf_mh hf_me (m := 340) (n := 10) rfl rfl (by decide)) hf_mh)
  have hf_me : f1 me = .inr (10, [.int 0, .ref mw, .ref mn, .ref mc, .ref mv, .ref mt, .int 0, .int 0, .int 0, .int 0, .int 0, .long 0, .int 0, .int 0, .int 0, .int (-1), .ref ml, .ref mh, .ref mj, .ref ms, .ref mg, .ref md, .int 0, .ref mk, .int (-1), .int 0, .long 0, .int 0, .int 0, .ref z29, .int 0, .ref z31, .ref z32, .ref z33, .ref z34, .ref z35, .int 0, .ref z37, .int 0, .ref z39, .int 0, .int 0, .int 0, .ref z43, .ref z44, .ref z45, .ref z46, .ref z47, .int 0, .ref z49, .ref z50, .ref z51, .int 0, .int 0]) := (congrFun e_f1 me).trans z_up_self
  have hfr : ∀ b ∈ L, b ≠ me → f1 b = f b := fun b hb h0 => (congrFun e_f1 b).trans (z_up_ne h0 (hfr b hb h0))
  refine lv_aload_n hx hb dX10_order_5 rfl (lv_at hl 0 rfl) ?_
  refine lv_iload_n hx hb dX10_order_6 rfl (lv_at hl 1 rfl) ?_
  refine lv_iload_n hx hb dX10_order_7 rfl (lv_at hl 2 rfl) ?_
  refine lv_iload_n hx hb dX10_order_8 rfl (lv_at hl 3 rfl) ?_
  refine z_calliV (cells := 0) (slots := 0) (b := me) (As := [.int xa, .int xb, .int xc]) (rest := []) (ci := 10) (q0 := (RX10, TX10, 54)) ⟨hx, hb, hml, hown, hT⟩ (c_X10_whyNotOrders l hm_me hm_mh hf_me hf_mh) (cwV 3 hT (z_goodV (fun _ h => h) kw_1694 kw_1696 kw_77 kw_96 kw_1697) rfl rfl rfl (by decide +kernel) ⟨by decide, by decide⟩) z_mv hKK hK hw hA hm_me hf_me rfl rfl rfl hl.1 rfl (Nat.le_of_ble_eq_true rfl) dX10_order_9 ⟨by decide, by decide⟩ (fun r2 u H locs hp hw => ?_)
  obtain ⟨rfl, hp⟩ := hp
  have hw : z_H D vwCl (z_A L sz) s.heap L f1 H locs := hw
  obtain rfl := hp
  refine lv_istore (lv' := [(5, .int (-2)), (0, .ref me), (1, .int xa), (2, .int xb), (3, .int xc), (4, .int xd)]) hx hb dX10_order_12 hl (by decide) rfl (fun ls hl => ?_)
  refine lv_iload hx hb dX10_order_14 (lv_at hl 0 rfl) ?_
  refine z_if_eq (tgt := 24) hx hb (show ((-2) : Int32).toInt = (-2) by decide) dX10_order_16 (by decide) (fun h => absurd h (by decide)) (fun _ => ?_)
  refine lv_iload hx hb dX10_order_19 (lv_at hl 0 rfl) ?_
  refine lv_goto (tgt := 59) hx hb dX10_order_21 (by decide) ?_
  exact z_iret hx hb hr hlk (by decide) (by decide) hw (⟨hsub, hfr, by decide⟩) dX10_order_59

set_option maxHeartbeats 2000000 in
set_option maxRecDepth 100000 in
theorem c_X10_sure (l : Launch) {D : va_G} {cy : Nat → ClassId} {L : List Nat} {f : Nat → va_E} {sz : Nat} {me mw mn mc mv mt ml mh mj ms mg md mk z29 z31 z32 z33 z34 z35 z37 z39 z43 z44 z45 z46 z47 z49 z50 z51 : Nat}  {xa xb xc xd : Int32} (hm_me : me ∈ L) (hm_ml : ml ∈ L) (hm_mh : mh ∈ L) (hf_me : f me = .inr (10, [.int 0, .ref mw, .ref mn, .ref mc, .ref mv, .ref mt, .int 0, .int 0, .int 0, .int 0, .int 0, .long 0, .int 0, .int 0, .int 0, .int (-1), .ref ml, .ref mh, .ref mj, .ref ms, .ref mg, .ref md, .int 0, .ref mk, .int (-1), .int 0, .long 0, .int 0, .int 0, .ref z29, .int 0, .ref z31, .ref z32, .ref z33, .ref z34, .ref z35, .int 0, .ref z37, .int 0, .ref z39, .int 0, .int 0, .int 0, .ref z43, .ref z44, .ref z45, .ref z46, .ref z47, .int 0, .ref z49, .ref z50, .ref z51, .int 0, .int 0])) (hf_ml : f ml = .inl (cy 1, 5, .inl (fun _ => 0))) (hf_mh : f mh = .inl (cy 1, 30, .inl (fun _ => 0))) : Met l yX10_sure (z_ws yX10_sure cX10_sure 6 (some .int)) (z_R 6 0 0) (va_Pc [.ref me, .int xa, .int xb, .int xc, .int xd] (z_Pre D vwCl (z_K D cy) L f sz)) (z_Qi D vwCl (fun r u => (∀ b ∈ L, b ∈ u.1) ∧ (∀ b ∈ L, b ≠ me → u.2 b = f b) ∧ ((r.toInt = -2))) L sz) 0 0 (z_A L sz) := by
  refine z_met (cc := cX10_sure) (maxL := 6) (ret := (some .int)) (lv := [(0, .ref me), (1, .int xa), (2, .int xb), (3, .int xc), (4, .int xd)]) (by decide) rfl (Nat.le_of_ble_eq_true rfl) rfl ?_
  intro p e s m below meth c ls hx hb hr hlk hml hown hnm hts hKK hA hw hl
  have hK := hKK.1
  have hown : s.vm.findClass RX10 = some m.cls := hown
  have hT : ∀ w ∈ lw_all, w.before ([.ref me, .int xa, .int xb, .int xc, .int xd] : List Value).toArray s = true := fun w h => hts w (z_cons w h)
  have hsub : ∀ b ∈ L, b ∈ L := fun _ h => h
  have hfr : ∀ b ∈ L, b ≠ me → f b = f b := fun _ _ _ => rfl
  refine lv_aload_n hx hb dX10_sure_0 rfl (lv_at hl 0 rfl) ?_
  refine lv_iconst (v := 0) hx hb dX10_sure_1 (by decide) ?_
  refine z_put (C := RX10) (T := TX10) (N := 54) (ci := 10) (v := .int 0) (fs' := [.int 0, .ref mw, .ref mn, .ref mc, .ref mv, .ref mt, .int 0, .int 0, .int 0, .int 0, .int 0, .long 0, .int 0, .int 0, .int 0, .int (-1), .ref ml, .ref mh, .ref mj, .ref ms, .ref mg, .ref md, .int 0, .ref mk, .int (-1), .int 0, .long 0, .int 0, .int 0, .ref z29, .int 0, .ref z31, .ref z32, .ref z33, .ref z34, .ref z35, .int 0, .ref z37, .int 0, .ref z39, .int 0, .int 0, .int 0, .ref z43, .ref z44, .ref z45, .ref z46, .ref z47, .int 0, .ref z49, .ref z50, .ref z51, .int 0, .int 0]) hx hb hT zin_X10 tyX10_ok nmX10 hown hK hw hm_me hf_me rfl 0 (by decide) (hT _ kw_1168) rfl rfl rfl (Nat.le_of_ble_eq_true rfl) rfl dX10_sure_2 (fun H locs hw => ?_)
  obtain ⟨f1, e_f1⟩ : ∃ z, z = va_up f me (.inr (10, [.int 0, .ref mw, .ref mn, .ref mc, .ref mv, .ref mt, .int 0, .int 0, .int 0, .int 0, .int 0, .long 0, .int 0, .int 0, .int 0, .int (-1), .ref ml, .ref mh, .ref mj, .ref ms, .ref mg, .ref md, .int 0, .ref mk, .int (-1), .int 0, .long 0, .int 0, .int 0, .ref z29, .int 0, .ref z31, .ref z32, .ref z33, .ref z34, .ref z35, .int 0, .ref z37, .int 0, .ref z39, .int 0, .int 0, .int 0, .ref z43, .ref z44, .ref z45, .ref z46, .ref z47, .int 0, .ref z49, .ref z50, .ref z51, .int 0, .int 0])) := ⟨_, rfl⟩
  rw [← e_f1] at hw
  have hf_ml : f1 ml = .inl (cy 1, 5, .inl (fun _ => 0)) := (congrFun e_f1 ml).trans (z_up_ne (z_tne hf_ml hf_me (m := 140) (n := 10) rfl rfl (by decide)) hf_ml)
  have hf_mh : f1 mh = .inl (cy 1, 30, .inl (fun _ => 0)) := (congrFun e_f1 mh).trans (z_up_ne (z_tne hf_mh hf_me (m := 340) (n := 10) rfl rfl (by decide)) hf_mh)
  have hf_me : f1 me = .inr (10, [.int 0, .ref mw, .ref mn, .ref mc, .ref mv, .ref mt, .int 0, .int 0, .int 0, .int 0, .int 0, .long 0, .int 0, .int 0, .int 0, .int (-1), .ref ml, .ref mh, .ref mj, .ref ms, .ref mg, .ref md, .int 0, .ref mk, .int (-1), .int 0, .long 0, .int 0, .int 0, .ref z29, .int 0, .ref z31, .ref z32, .ref z33, .ref z34, .ref z35, .int 0, .ref z37, .int 0, .ref z39, .int 0, .int 0, .int 0, .ref z43, .ref z44, .ref z45, .ref z46, .ref z47, .int 0, .ref z49, .ref z50, .ref z51, .int 0, .int 0]) := (congrFun e_f1 me).trans z_up_self
  have hfr : ∀ b ∈ L, b ≠ me → f1 b = f b := fun b hb h0 => (congrFun e_f1 b).trans (z_up_ne h0 (hfr b hb h0))
  refine lv_aload_n hx hb dX10_sure_5 rfl (lv_at hl 0 rfl) ?_
  refine lv_iload hx hb dX10_sure_6 (lv_at hl 4 rfl) ?_
  refine z_calliV (cells := 0) (slots := 0) (b := me) (As := [.int xd]) (rest := []) (ci := 10) (q0 := (RX10, TX10, 54)) ⟨hx, hb, hml, hown, hT⟩ (c_X10_isDrive l hm_me hm_mh hf_me hf_mh) (cwV 1 hT (z_goodV (fun _ h => h) kw_1482 kw_1484 kw_50 kw_96 kw_1485) rfl rfl rfl (by decide +kernel) ⟨by decide, by decide⟩) z_mv hKK hK hw hA hm_me hf_me rfl rfl rfl hl.1 rfl (Nat.le_of_ble_eq_true rfl) dX10_sure_8 ⟨by decide, by decide⟩ (fun r2 u H locs hp hw => ?_)
  obtain ⟨rfl, hp⟩ := hp
  have hw : z_H D vwCl (z_A L sz) s.heap L f1 H locs := hw
  obtain rfl := hp
  refine z_if_ne (tgt := 17) hx hb (show (0 : Int32).toInt = 0 by decide) dX10_sure_11 (by decide) (fun h => absurd h (by decide)) (fun _ => ?_)
  refine lv_bipush (v := (-2)) hx hb dX10_sure_14 (by decide) ?_
  exact z_iret hx hb hr hlk (by decide) (by decide) hw (⟨hsub, hfr, by decide⟩) dX10_sure_16

set_option maxHeartbeats 2000000 in
set_option maxRecDepth 100000 in
theorem c_X10_wrong (l : Launch) {D : va_G} {cy : Nat → ClassId} {L : List Nat} {f : Nat → va_E} {sz : Nat} {me mw mn mc mv mt ml mh mj ms mg md mk z29 z31 z32 z33 z34 z35 z37 z39 z43 z44 z45 z46 z47 z49 z50 z51 : Nat}  {xa xb : Int32} (hm_me : me ∈ L) (hm_ml : ml ∈ L) (hm_mh : mh ∈ L) (hf_me : f me = .inr (10, [.int 0, .ref mw, .ref mn, .ref mc, .ref mv, .ref mt, .int 0, .int 0, .int 0, .int 0, .int 0, .long 0, .int 0, .int 0, .int 0, .int (-1), .ref ml, .ref mh, .ref mj, .ref ms, .ref mg, .ref md, .int 0, .ref mk, .int (-1), .int 0, .long 0, .int 0, .int 0, .ref z29, .int 0, .ref z31, .ref z32, .ref z33, .ref z34, .ref z35, .int 0, .ref z37, .int 0, .ref z39, .int 0, .int 0, .int 0, .ref z43, .ref z44, .ref z45, .ref z46, .ref z47, .int 0, .ref z49, .ref z50, .ref z51, .int 0, .int 0])) (hf_ml : f ml = .inl (cy 1, 5, .inl (fun _ => 0))) (hf_mh : f mh = .inl (cy 1, 30, .inl (fun _ => 0))) : Met l yX10_wrong (z_ws yX10_wrong cX10_wrong 6 (some .int)) (z_R 6 0 0) (va_Pc [.ref me, .int xa, .int xb] (z_Pre D vwCl (z_K D cy) L f sz)) (z_Qi D vwCl (fun r u => (∀ b ∈ L, b ∈ u.1) ∧ (∀ b ∈ L, b ≠ me → u.2 b = f b) ∧ ((r.toInt = -2))) L sz) 0 0 (z_A L sz) := by
  refine z_met (cc := cX10_wrong) (maxL := 6) (ret := (some .int)) (lv := [(0, .ref me), (1, .int xa), (2, .int xb)]) (by decide) rfl (Nat.le_of_ble_eq_true rfl) rfl ?_
  intro p e s m below meth c ls hx hb hr hlk hml hown hnm hts hKK hA hw hl
  have hK := hKK.1
  have hown : s.vm.findClass RX10 = some m.cls := hown
  have hT : ∀ w ∈ lw_all, w.before ([.ref me, .int xa, .int xb] : List Value).toArray s = true := fun w h => hts w (z_cons w h)
  have hsub : ∀ b ∈ L, b ∈ L := fun _ h => h
  have hfr : ∀ b ∈ L, b ≠ me → f b = f b := fun _ _ _ => rfl
  refine lv_aload_n hx hb dX10_wrong_0 rfl (lv_at hl 0 rfl) ?_
  refine lv_iconst (v := 0) hx hb dX10_wrong_1 (by decide) ?_
  refine z_put (C := RX10) (T := TX10) (N := 54) (ci := 10) (v := .int 0) (fs' := [.int 0, .ref mw, .ref mn, .ref mc, .ref mv, .ref mt, .int 0, .int 0, .int 0, .int 0, .int 0, .long 0, .int 0, .int 0, .int 0, .int (-1), .ref ml, .ref mh, .ref mj, .ref ms, .ref mg, .ref md, .int 0, .ref mk, .int (-1), .int 0, .long 0, .int 0, .int 0, .ref z29, .int 0, .ref z31, .ref z32, .ref z33, .ref z34, .ref z35, .int 0, .ref z37, .int 0, .ref z39, .int 0, .int 0, .int 0, .ref z43, .ref z44, .ref z45, .ref z46, .ref z47, .int 0, .ref z49, .ref z50, .ref z51, .int 0, .int 0]) hx hb hT zin_X10 tyX10_ok nmX10 hown hK hw hm_me hf_me rfl 0 (by decide) (hT _ kw_1168) rfl rfl rfl (Nat.le_of_ble_eq_true rfl) rfl dX10_wrong_2 (fun H locs hw => ?_)
  obtain ⟨f1, e_f1⟩ : ∃ z, z = va_up f me (.inr (10, [.int 0, .ref mw, .ref mn, .ref mc, .ref mv, .ref mt, .int 0, .int 0, .int 0, .int 0, .int 0, .long 0, .int 0, .int 0, .int 0, .int (-1), .ref ml, .ref mh, .ref mj, .ref ms, .ref mg, .ref md, .int 0, .ref mk, .int (-1), .int 0, .long 0, .int 0, .int 0, .ref z29, .int 0, .ref z31, .ref z32, .ref z33, .ref z34, .ref z35, .int 0, .ref z37, .int 0, .ref z39, .int 0, .int 0, .int 0, .ref z43, .ref z44, .ref z45, .ref z46, .ref z47, .int 0, .ref z49, .ref z50, .ref z51, .int 0, .int 0])) := ⟨_, rfl⟩
  rw [← e_f1] at hw
  have hf_ml : f1 ml = .inl (cy 1, 5, .inl (fun _ => 0)) := (congrFun e_f1 ml).trans (z_up_ne (z_tne hf_ml hf_me (m := 140) (n := 10) rfl rfl (by decide)) hf_ml)
  have hf_mh : f1 mh = .inl (cy 1, 30, .inl (fun _ => 0)) := (congrFun e_f1 mh).trans (z_up_ne (z_tne hf_mh hf_me (m := 340) (n := 10) rfl rfl (by decide)) hf_mh)
  have hf_me : f1 me = .inr (10, [.int 0, .ref mw, .ref mn, .ref mc, .ref mv, .ref mt, .int 0, .int 0, .int 0, .int 0, .int 0, .long 0, .int 0, .int 0, .int 0, .int (-1), .ref ml, .ref mh, .ref mj, .ref ms, .ref mg, .ref md, .int 0, .ref mk, .int (-1), .int 0, .long 0, .int 0, .int 0, .ref z29, .int 0, .ref z31, .ref z32, .ref z33, .ref z34, .ref z35, .int 0, .ref z37, .int 0, .ref z39, .int 0, .int 0, .int 0, .ref z43, .ref z44, .ref z45, .ref z46, .ref z47, .int 0, .ref z49, .ref z50, .ref z51, .int 0, .int 0]) := (congrFun e_f1 me).trans z_up_self
  have hfr : ∀ b ∈ L, b ≠ me → f1 b = f b := fun b hb h0 => (congrFun e_f1 b).trans (z_up_ne h0 (hfr b hb h0))
  refine lv_aload_n hx hb dX10_wrong_5 rfl (lv_at hl 0 rfl) ?_
  refine lv_iload_n hx hb dX10_wrong_6 rfl (lv_at hl 1 rfl) ?_
  refine lv_iload_n hx hb dX10_wrong_7 rfl (lv_at hl 2 rfl) ?_
  refine z_calliV (cells := 0) (slots := 0) (b := me) (As := [.int xa, .int xb]) (rest := []) (ci := 10) (q0 := (RX10, TX10, 54)) ⟨hx, hb, hml, hown, hT⟩ (c_X10_whyNotCounts l hm_me hm_mh hf_me hf_mh) (cwV 2 hT (z_goodV (fun _ h => h) kw_1722 kw_1724 kw_81 kw_96 kw_1725) rfl rfl rfl (by decide +kernel) ⟨by decide, by decide⟩) z_mv hKK hK hw hA hm_me hf_me rfl rfl rfl hl.1 rfl (Nat.le_of_ble_eq_true rfl) dX10_wrong_8 ⟨by decide, by decide⟩ (fun r2 u H locs hp hw => ?_)
  obtain ⟨rfl, hp⟩ := hp
  have hw : z_H D vwCl (z_A L sz) s.heap L f1 H locs := hw
  obtain rfl := hp
  refine lv_istore_n (lv' := [(3, .int (-2)), (0, .ref me), (1, .int xa), (2, .int xb)]) hx hb dX10_wrong_11 rfl hl (by decide) rfl (fun ls hl => ?_)
  refine lv_iload_n hx hb dX10_wrong_12 rfl (lv_at hl 0 rfl) ?_
  refine z_if_eq (tgt := 18) hx hb (show ((-2) : Int32).toInt = (-2) by decide) dX10_wrong_13 (by decide) (fun h => absurd h (by decide)) (fun _ => ?_)
  refine lv_iload_n hx hb dX10_wrong_16 rfl (lv_at hl 0 rfl) ?_
  exact z_iret hx hb hr hlk (by decide) (by decide) hw (⟨hsub, hfr, by decide⟩) dX10_wrong_17

set_option maxHeartbeats 2000000 in
set_option maxRecDepth 100000 in
theorem c_X10_anew (l : Launch) {D : va_G} {cy : Nat → ClassId} {L : List Nat} {f : Nat → va_E} {sz : Nat} {me mw mn mc mv mt ml mh mj ms mg md mk z29 z31 z32 z33 z34 z35 z37 z39 z43 z44 z45 z46 z47 z49 z50 z51 : Nat}  {xa xb : Int32} (hm_me : me ∈ L) (hm_ml : ml ∈ L) (hm_mh : mh ∈ L) (hf_me : f me = .inr (10, [.int 0, .ref mw, .ref mn, .ref mc, .ref mv, .ref mt, .int 0, .int 0, .int 0, .int 0, .int 0, .long 0, .int 0, .int 0, .int 0, .int (-1), .ref ml, .ref mh, .ref mj, .ref ms, .ref mg, .ref md, .int 0, .ref mk, .int (-1), .int 0, .long 0, .int 0, .int 0, .ref z29, .int 0, .ref z31, .ref z32, .ref z33, .ref z34, .ref z35, .int 0, .ref z37, .int 0, .ref z39, .int 0, .int 0, .int 0, .ref z43, .ref z44, .ref z45, .ref z46, .ref z47, .int 0, .ref z49, .ref z50, .ref z51, .int 0, .int 0])) (hf_ml : f ml = .inl (cy 1, 5, .inl (fun _ => 0))) (hf_mh : f mh = .inl (cy 1, 30, .inl (fun _ => 0))) : Met l yX10_anew (z_ws yX10_anew cX10_anew 7 (some .int)) (z_R 6 0 0) (va_Pc [.ref me, .int xa, .int xb] (z_Pre D vwCl (z_K D cy) L f sz)) (z_Qi D vwCl (fun r u => (∀ b ∈ L, b ∈ u.1) ∧ (∀ b ∈ L, b ≠ me → u.2 b = f b) ∧ ((r.toInt = -2))) L sz) 0 0 (z_A L sz) := by
  refine z_met (cc := cX10_anew) (maxL := 7) (ret := (some .int)) (lv := [(0, .ref me), (1, .int xa), (2, .int xb)]) (by decide) rfl (Nat.le_of_ble_eq_true rfl) rfl ?_
  intro p e s m below meth c ls hx hb hr hlk hml hown hnm hts hKK hA hw hl
  have hK := hKK.1
  have hown : s.vm.findClass RX10 = some m.cls := hown
  have hT : ∀ w ∈ lw_all, w.before ([.ref me, .int xa, .int xb] : List Value).toArray s = true := fun w h => hts w (z_cons w h)
  have hsub : ∀ b ∈ L, b ∈ L := fun _ h => h
  have hfr : ∀ b ∈ L, b ≠ me → f b = f b := fun _ _ _ => rfl
  refine lv_aload_n hx hb dX10_anew_0 rfl (lv_at hl 0 rfl) ?_
  refine lv_iconst (v := 0) hx hb dX10_anew_1 (by decide) ?_
  refine z_put (C := RX10) (T := TX10) (N := 54) (ci := 10) (v := .int 0) (fs' := [.int 0, .ref mw, .ref mn, .ref mc, .ref mv, .ref mt, .int 0, .int 0, .int 0, .int 0, .int 0, .long 0, .int 0, .int 0, .int 0, .int (-1), .ref ml, .ref mh, .ref mj, .ref ms, .ref mg, .ref md, .int 0, .ref mk, .int (-1), .int 0, .long 0, .int 0, .int 0, .ref z29, .int 0, .ref z31, .ref z32, .ref z33, .ref z34, .ref z35, .int 0, .ref z37, .int 0, .ref z39, .int 0, .int 0, .int 0, .ref z43, .ref z44, .ref z45, .ref z46, .ref z47, .int 0, .ref z49, .ref z50, .ref z51, .int 0, .int 0]) hx hb hT zin_X10 tyX10_ok nmX10 hown hK hw hm_me hf_me rfl 0 (by decide) (hT _ kw_1168) rfl rfl rfl (Nat.le_of_ble_eq_true rfl) rfl dX10_anew_2 (fun H locs hw => ?_)
  obtain ⟨f1, e_f1⟩ : ∃ z, z = va_up f me (.inr (10, [.int 0, .ref mw, .ref mn, .ref mc, .ref mv, .ref mt, .int 0, .int 0, .int 0, .int 0, .int 0, .long 0, .int 0, .int 0, .int 0, .int (-1), .ref ml, .ref mh, .ref mj, .ref ms, .ref mg, .ref md, .int 0, .ref mk, .int (-1), .int 0, .long 0, .int 0, .int 0, .ref z29, .int 0, .ref z31, .ref z32, .ref z33, .ref z34, .ref z35, .int 0, .ref z37, .int 0, .ref z39, .int 0, .int 0, .int 0, .ref z43, .ref z44, .ref z45, .ref z46, .ref z47, .int 0, .ref z49, .ref z50, .ref z51, .int 0, .int 0])) := ⟨_, rfl⟩
  rw [← e_f1] at hw
  have hf_ml : f1 ml = .inl (cy 1, 5, .inl (fun _ => 0)) := (congrFun e_f1 ml).trans (z_up_ne (z_tne hf_ml hf_me (m := 140) (n := 10) rfl rfl (by decide)) hf_ml)
  have hf_mh : f1 mh = .inl (cy 1, 30, .inl (fun _ => 0)) := (congrFun e_f1 mh).trans (z_up_ne (z_tne hf_mh hf_me (m := 340) (n := 10) rfl rfl (by decide)) hf_mh)
  have hf_me : f1 me = .inr (10, [.int 0, .ref mw, .ref mn, .ref mc, .ref mv, .ref mt, .int 0, .int 0, .int 0, .int 0, .int 0, .long 0, .int 0, .int 0, .int 0, .int (-1), .ref ml, .ref mh, .ref mj, .ref ms, .ref mg, .ref md, .int 0, .ref mk, .int (-1), .int 0, .long 0, .int 0, .int 0, .ref z29, .int 0, .ref z31, .ref z32, .ref z33, .ref z34, .ref z35, .int 0, .ref z37, .int 0, .ref z39, .int 0, .int 0, .int 0, .ref z43, .ref z44, .ref z45, .ref z46, .ref z47, .int 0, .ref z49, .ref z50, .ref z51, .int 0, .int 0]) := (congrFun e_f1 me).trans z_up_self
  have hfr : ∀ b ∈ L, b ≠ me → f1 b = f b := fun b hb h0 => (congrFun e_f1 b).trans (z_up_ne h0 (hfr b hb h0))
  refine lv_aload_n hx hb dX10_anew_5 rfl (lv_at hl 0 rfl) ?_
  refine lv_iload_n hx hb dX10_anew_6 rfl (lv_at hl 1 rfl) ?_
  refine lv_iload_n hx hb dX10_anew_7 rfl (lv_at hl 2 rfl) ?_
  refine z_calliV (cells := 0) (slots := 0) (b := me) (As := [.int xa, .int xb]) (rest := []) (ci := 10) (q0 := (RX10, TX10, 54)) ⟨hx, hb, hml, hown, hT⟩ (c_X10_whyNotCounts l hm_me hm_mh hf_me hf_mh) (cwV 2 hT (z_goodV (fun _ h => h) kw_1722 kw_1724 kw_81 kw_96 kw_1725) rfl rfl rfl (by decide +kernel) ⟨by decide, by decide⟩) z_mv hKK hK hw hA hm_me hf_me rfl rfl rfl hl.1 rfl (Nat.le_of_ble_eq_true rfl) dX10_anew_8 ⟨by decide, by decide⟩ (fun r2 u H locs hp hw => ?_)
  obtain ⟨rfl, hp⟩ := hp
  have hw : z_H D vwCl (z_A L sz) s.heap L f1 H locs := hw
  obtain rfl := hp
  refine lv_istore_n (lv' := [(3, .int (-2)), (0, .ref me), (1, .int xa), (2, .int xb)]) hx hb dX10_anew_11 rfl hl (by decide) rfl (fun ls hl => ?_)
  refine lv_iload_n hx hb dX10_anew_12 rfl (lv_at hl 0 rfl) ?_
  refine z_if_eq (tgt := 18) hx hb (show ((-2) : Int32).toInt = (-2) by decide) dX10_anew_13 (by decide) (fun h => absurd h (by decide)) (fun _ => ?_)
  refine lv_iload_n hx hb dX10_anew_16 rfl (lv_at hl 0 rfl) ?_
  exact z_iret hx hb hr hlk (by decide) (by decide) hw (⟨hsub, hfr, by decide⟩) dX10_anew_17

set_option maxHeartbeats 2000000 in
set_option maxRecDepth 100000 in
theorem c_X10_mixed (l : Launch) {D : va_G} {cy : Nat → ClassId} {L : List Nat} {f : Nat → va_E} {sz : Nat} {me mw mn mc mv mt ml mh mj ms mg md mk z29 z31 z32 z33 z34 z35 z37 z39 z43 z44 z45 z46 z47 z49 z50 z51 : Nat}  {xa xb : Int32} (hm_me : me ∈ L) (hm_ml : ml ∈ L) (hm_mh : mh ∈ L) (hf_me : f me = .inr (10, [.int 0, .ref mw, .ref mn, .ref mc, .ref mv, .ref mt, .int 0, .int 0, .int 0, .int 0, .int 0, .long 0, .int 0, .int 0, .int 0, .int (-1), .ref ml, .ref mh, .ref mj, .ref ms, .ref mg, .ref md, .int 0, .ref mk, .int (-1), .int 0, .long 0, .int 0, .int 0, .ref z29, .int 0, .ref z31, .ref z32, .ref z33, .ref z34, .ref z35, .int 0, .ref z37, .int 0, .ref z39, .int 0, .int 0, .int 0, .ref z43, .ref z44, .ref z45, .ref z46, .ref z47, .int 0, .ref z49, .ref z50, .ref z51, .int 0, .int 0])) (hf_ml : f ml = .inl (cy 1, 5, .inl (fun _ => 0))) (hf_mh : f mh = .inl (cy 1, 30, .inl (fun _ => 0))) : Met l yX10_mixed (z_ws yX10_mixed cX10_mixed 3 (some .int)) (z_R 6 0 0) (va_Pc [.ref me, .int xa, .int xb] (z_Pre D vwCl (z_K D cy) L f sz)) (z_Qi D vwCl (fun r u => (∀ b ∈ L, b ∈ u.1) ∧ (∀ b ∈ L, b ≠ me → u.2 b = f b) ∧ ((r.toInt = -2))) L sz) 0 0 (z_A L sz) := by
  refine z_met (cc := cX10_mixed) (maxL := 3) (ret := (some .int)) (lv := [(0, .ref me), (1, .int xa), (2, .int xb)]) (by decide) rfl (Nat.le_of_ble_eq_true rfl) rfl ?_
  intro p e s m below meth c ls hx hb hr hlk hml hown hnm hts hKK hA hw hl
  have hK := hKK.1
  have hown : s.vm.findClass RX10 = some m.cls := hown
  have hT : ∀ w ∈ lw_all, w.before ([.ref me, .int xa, .int xb] : List Value).toArray s = true := fun w h => hts w (z_cons w h)
  have hsub : ∀ b ∈ L, b ∈ L := fun _ h => h
  have hfr : ∀ b ∈ L, b ≠ me → f b = f b := fun _ _ _ => rfl
  refine lv_aload_n hx hb dX10_mixed_0 rfl (lv_at hl 0 rfl) ?_
  refine lv_iconst (v := 0) hx hb dX10_mixed_1 (by decide) ?_
  refine z_put (C := RX10) (T := TX10) (N := 54) (ci := 10) (v := .int 0) (fs' := [.int 0, .ref mw, .ref mn, .ref mc, .ref mv, .ref mt, .int 0, .int 0, .int 0, .int 0, .int 0, .long 0, .int 0, .int 0, .int 0, .int (-1), .ref ml, .ref mh, .ref mj, .ref ms, .ref mg, .ref md, .int 0, .ref mk, .int (-1), .int 0, .long 0, .int 0, .int 0, .ref z29, .int 0, .ref z31, .ref z32, .ref z33, .ref z34, .ref z35, .int 0, .ref z37, .int 0, .ref z39, .int 0, .int 0, .int 0, .ref z43, .ref z44, .ref z45, .ref z46, .ref z47, .int 0, .ref z49, .ref z50, .ref z51, .int 0, .int 0]) hx hb hT zin_X10 tyX10_ok nmX10 hown hK hw hm_me hf_me rfl 0 (by decide) (hT _ kw_1168) rfl rfl rfl (Nat.le_of_ble_eq_true rfl) rfl dX10_mixed_2 (fun H locs hw => ?_)
  obtain ⟨f1, e_f1⟩ : ∃ z, z = va_up f me (.inr (10, [.int 0, .ref mw, .ref mn, .ref mc, .ref mv, .ref mt, .int 0, .int 0, .int 0, .int 0, .int 0, .long 0, .int 0, .int 0, .int 0, .int (-1), .ref ml, .ref mh, .ref mj, .ref ms, .ref mg, .ref md, .int 0, .ref mk, .int (-1), .int 0, .long 0, .int 0, .int 0, .ref z29, .int 0, .ref z31, .ref z32, .ref z33, .ref z34, .ref z35, .int 0, .ref z37, .int 0, .ref z39, .int 0, .int 0, .int 0, .ref z43, .ref z44, .ref z45, .ref z46, .ref z47, .int 0, .ref z49, .ref z50, .ref z51, .int 0, .int 0])) := ⟨_, rfl⟩
  rw [← e_f1] at hw
  have hf_ml : f1 ml = .inl (cy 1, 5, .inl (fun _ => 0)) := (congrFun e_f1 ml).trans (z_up_ne (z_tne hf_ml hf_me (m := 140) (n := 10) rfl rfl (by decide)) hf_ml)
  have hf_mh : f1 mh = .inl (cy 1, 30, .inl (fun _ => 0)) := (congrFun e_f1 mh).trans (z_up_ne (z_tne hf_mh hf_me (m := 340) (n := 10) rfl rfl (by decide)) hf_mh)
  have hf_me : f1 me = .inr (10, [.int 0, .ref mw, .ref mn, .ref mc, .ref mv, .ref mt, .int 0, .int 0, .int 0, .int 0, .int 0, .long 0, .int 0, .int 0, .int 0, .int (-1), .ref ml, .ref mh, .ref mj, .ref ms, .ref mg, .ref md, .int 0, .ref mk, .int (-1), .int 0, .long 0, .int 0, .int 0, .ref z29, .int 0, .ref z31, .ref z32, .ref z33, .ref z34, .ref z35, .int 0, .ref z37, .int 0, .ref z39, .int 0, .int 0, .int 0, .ref z43, .ref z44, .ref z45, .ref z46, .ref z47, .int 0, .ref z49, .ref z50, .ref z51, .int 0, .int 0]) := (congrFun e_f1 me).trans z_up_self
  have hfr : ∀ b ∈ L, b ≠ me → f1 b = f b := fun b hb h0 => (congrFun e_f1 b).trans (z_up_ne h0 (hfr b hb h0))
  refine lv_iload_n hx hb dX10_mixed_5 rfl (lv_at hl 1 rfl) ?_
  refine z_calliS (cells := 0) (slots := 0) (As := [.int xa]) (rest := []) ⟨hx, hb, hml, hown, hT⟩ (c_X10_isSeed l ) (va_cwS 1 hT (z_goodS (fun _ h => h) kw_1739 kw_1740 kw_96 kw_1741) rfl rfl rfl (by decide +kernel) ⟨by decide, by decide⟩) z_mv hKK hw hA rfl hl.1 rfl (Nat.le_of_ble_eq_true rfl) dX10_mixed_6 ⟨by decide, by decide⟩ (fun r2 u H locs hp hw => ?_)
  obtain ⟨rfl, hp⟩ := hp
  have hw : z_H D vwCl (z_A L sz) s.heap L f1 H locs := hw
  rcases hp with ⟨rfl, h3⟩ | ⟨rfl, h3⟩
  · skip
    refine z_if_eq (tgt := 31) hx hb (show (1 : Int32).toInt = 1 by decide) dX10_mixed_9 (by decide) (fun h => absurd h (by decide)) (fun _ => ?_)
    refine lv_aload_n hx hb dX10_mixed_12 rfl (lv_at hl 0 rfl) ?_
    refine lv_iload_n hx hb dX10_mixed_13 rfl (lv_at hl 2 rfl) ?_
    refine lv_i2l hx hb dX10_mixed_14 rfl ?_
    refine lv_topl (fun w4 e_w4 => ?_)
    have i_w4 : w4.toInt = xb.toInt := z_i2l e_w4 rfl
    refine z_calliV (cells := 0) (slots := 0) (b := me) (As := [.long w4]) (rest := []) (ci := 10) (q0 := (RX10, TX10, 54)) ⟨hx, hb, hml, hown, hT⟩ (c_X10_isOwner l hm_me hm_ml hf_me hf_ml) (cwV 1 hT (z_goodV (fun _ h => h) kw_1604 kw_1606 kw_69 kw_96 kw_1607) rfl rfl rfl (by decide +kernel) ⟨by decide, by decide⟩) z_mv hKK hK hw hA hm_me hf_me rfl rfl rfl hl.1 rfl (Nat.le_of_ble_eq_true rfl) dX10_mixed_15 ⟨by decide, by decide⟩ (fun r5 u H locs hp hw => ?_)
    obtain ⟨rfl, hp⟩ := hp
    have hw : z_H D vwCl (z_A L sz) s.heap L f1 H locs := hw
    obtain rfl := hp
    refine z_if_eq (tgt := 31) hx hb (show (0 : Int32).toInt = 0 by decide) dX10_mixed_18 (by decide) (fun _ => ?_) (fun h => absurd h (by decide))
    refine lv_bipush (v := (-2)) hx hb dX10_mixed_31 (by decide) ?_
    exact z_iret hx hb hr hlk (by decide) (by decide) hw (⟨hsub, hfr, by decide⟩) dX10_mixed_33
  · skip
    refine z_if_eq (tgt := 31) hx hb (show (0 : Int32).toInt = 0 by decide) dX10_mixed_9 (by decide) (fun _ => ?_) (fun h => absurd h (by decide))
    refine lv_bipush (v := (-2)) hx hb dX10_mixed_31 (by decide) ?_
    exact z_iret hx hb hr hlk (by decide) (by decide) hw (⟨hsub, hfr, by decide⟩) dX10_mixed_33

set_option maxHeartbeats 2000000 in
set_option maxRecDepth 100000 in
theorem c_X10_luck (l : Launch) {D : va_G} {cy : Nat → ClassId} {L : List Nat} {f : Nat → va_E} {sz : Nat} {me mw mn mc mv mt ml mh mj ms mg md mk z29 z31 z32 z33 z34 z35 z37 z39 z43 z44 z45 z46 z47 z49 z50 z51 : Nat}  {xa xb xc : Int32} (hm_me : me ∈ L) (hm_ml : ml ∈ L) (hm_mh : mh ∈ L) (hf_me : f me = .inr (10, [.int 0, .ref mw, .ref mn, .ref mc, .ref mv, .ref mt, .int 0, .int 0, .int 0, .int 0, .int 0, .long 0, .int 0, .int 0, .int 0, .int (-1), .ref ml, .ref mh, .ref mj, .ref ms, .ref mg, .ref md, .int 0, .ref mk, .int (-1), .int 0, .long 0, .int 0, .int 0, .ref z29, .int 0, .ref z31, .ref z32, .ref z33, .ref z34, .ref z35, .int 0, .ref z37, .int 0, .ref z39, .int 0, .int 0, .int 0, .ref z43, .ref z44, .ref z45, .ref z46, .ref z47, .int 0, .ref z49, .ref z50, .ref z51, .int 0, .int 0])) (hf_ml : f ml = .inl (cy 1, 5, .inl (fun _ => 0))) (hf_mh : f mh = .inl (cy 1, 30, .inl (fun _ => 0))) : Met l yX10_luck (z_ws yX10_luck cX10_luck 7 (some .int)) (z_R 6 0 0) (va_Pc [.ref me, .int xa, .int xb, .int xc] (z_Pre D vwCl (z_K D cy) L f sz)) (z_Qi D vwCl (fun r u => (∀ b ∈ L, b ∈ u.1) ∧ (∀ b ∈ L, b ≠ me → u.2 b = f b) ∧ ((r.toInt = -2))) L sz) 0 0 (z_A L sz) := by
  refine z_met (cc := cX10_luck) (maxL := 7) (ret := (some .int)) (lv := [(0, .ref me), (1, .int xa), (2, .int xb), (3, .int xc)]) (by decide) rfl (Nat.le_of_ble_eq_true rfl) rfl ?_
  intro p e s m below meth c ls hx hb hr hlk hml hown hnm hts hKK hA hw hl
  have hK := hKK.1
  have hown : s.vm.findClass RX10 = some m.cls := hown
  have hT : ∀ w ∈ lw_all, w.before ([.ref me, .int xa, .int xb, .int xc] : List Value).toArray s = true := fun w h => hts w (z_cons w h)
  have hsub : ∀ b ∈ L, b ∈ L := fun _ h => h
  have hfr : ∀ b ∈ L, b ≠ me → f b = f b := fun _ _ _ => rfl
  refine lv_aload_n hx hb dX10_luck_0 rfl (lv_at hl 0 rfl) ?_
  refine lv_iconst (v := 0) hx hb dX10_luck_1 (by decide) ?_
  refine z_put (C := RX10) (T := TX10) (N := 54) (ci := 10) (v := .int 0) (fs' := [.int 0, .ref mw, .ref mn, .ref mc, .ref mv, .ref mt, .int 0, .int 0, .int 0, .int 0, .int 0, .long 0, .int 0, .int 0, .int 0, .int (-1), .ref ml, .ref mh, .ref mj, .ref ms, .ref mg, .ref md, .int 0, .ref mk, .int (-1), .int 0, .long 0, .int 0, .int 0, .ref z29, .int 0, .ref z31, .ref z32, .ref z33, .ref z34, .ref z35, .int 0, .ref z37, .int 0, .ref z39, .int 0, .int 0, .int 0, .ref z43, .ref z44, .ref z45, .ref z46, .ref z47, .int 0, .ref z49, .ref z50, .ref z51, .int 0, .int 0]) hx hb hT zin_X10 tyX10_ok nmX10 hown hK hw hm_me hf_me rfl 0 (by decide) (hT _ kw_1168) rfl rfl rfl (Nat.le_of_ble_eq_true rfl) rfl dX10_luck_2 (fun H locs hw => ?_)
  obtain ⟨f1, e_f1⟩ : ∃ z, z = va_up f me (.inr (10, [.int 0, .ref mw, .ref mn, .ref mc, .ref mv, .ref mt, .int 0, .int 0, .int 0, .int 0, .int 0, .long 0, .int 0, .int 0, .int 0, .int (-1), .ref ml, .ref mh, .ref mj, .ref ms, .ref mg, .ref md, .int 0, .ref mk, .int (-1), .int 0, .long 0, .int 0, .int 0, .ref z29, .int 0, .ref z31, .ref z32, .ref z33, .ref z34, .ref z35, .int 0, .ref z37, .int 0, .ref z39, .int 0, .int 0, .int 0, .ref z43, .ref z44, .ref z45, .ref z46, .ref z47, .int 0, .ref z49, .ref z50, .ref z51, .int 0, .int 0])) := ⟨_, rfl⟩
  rw [← e_f1] at hw
  have hf_ml : f1 ml = .inl (cy 1, 5, .inl (fun _ => 0)) := (congrFun e_f1 ml).trans (z_up_ne (z_tne hf_ml hf_me (m := 140) (n := 10) rfl rfl (by decide)) hf_ml)
  have hf_mh : f1 mh = .inl (cy 1, 30, .inl (fun _ => 0)) := (congrFun e_f1 mh).trans (z_up_ne (z_tne hf_mh hf_me (m := 340) (n := 10) rfl rfl (by decide)) hf_mh)
  have hf_me : f1 me = .inr (10, [.int 0, .ref mw, .ref mn, .ref mc, .ref mv, .ref mt, .int 0, .int 0, .int 0, .int 0, .int 0, .long 0, .int 0, .int 0, .int 0, .int (-1), .ref ml, .ref mh, .ref mj, .ref ms, .ref mg, .ref md, .int 0, .ref mk, .int (-1), .int 0, .long 0, .int 0, .int 0, .ref z29, .int 0, .ref z31, .ref z32, .ref z33, .ref z34, .ref z35, .int 0, .ref z37, .int 0, .ref z39, .int 0, .int 0, .int 0, .ref z43, .ref z44, .ref z45, .ref z46, .ref z47, .int 0, .ref z49, .ref z50, .ref z51, .int 0, .int 0]) := (congrFun e_f1 me).trans z_up_self
  have hfr : ∀ b ∈ L, b ≠ me → f1 b = f b := fun b hb h0 => (congrFun e_f1 b).trans (z_up_ne h0 (hfr b hb h0))
  refine lv_iload_n hx hb dX10_luck_5 rfl (lv_at hl 1 rfl) ?_
  refine z_calliS (cells := 0) (slots := 0) (As := [.int xa]) (rest := []) ⟨hx, hb, hml, hown, hT⟩ (c_X10_isSeed l ) (va_cwS 1 hT (z_goodS (fun _ h => h) kw_1739 kw_1740 kw_96 kw_1741) rfl rfl rfl (by decide +kernel) ⟨by decide, by decide⟩) z_mv hKK hw hA rfl hl.1 rfl (Nat.le_of_ble_eq_true rfl) dX10_luck_6 ⟨by decide, by decide⟩ (fun r2 u H locs hp hw => ?_)
  obtain ⟨rfl, hp⟩ := hp
  have hw : z_H D vwCl (z_A L sz) s.heap L f1 H locs := hw
  rcases hp with ⟨rfl, h3⟩ | ⟨rfl, h3⟩
  · skip
    refine z_if_eq (tgt := 33) hx hb (show (1 : Int32).toInt = 1 by decide) dX10_luck_9 (by decide) (fun h => absurd h (by decide)) (fun _ => ?_)
    refine lv_iload_n hx hb dX10_luck_12 rfl (lv_at hl 2 rfl) ?_
    refine lv_i2l hx hb dX10_luck_13 rfl ?_
    refine lv_topl (fun w4 e_w4 => ?_)
    have i_w4 : w4.toInt = xb.toInt := z_i2l e_w4 rfl
    refine lv_lconst (v := 1) hx hb dX10_luck_14 (by decide) ?_
    refine lv_ldc2 (v := 20) hx hb hown (hT _ kw_1751) dX10_luck_15 ?_
    have hz5 := (show (1 : Int64).toInt = 1 by decide)
    have hz6 := (show (20 : Int64).toInt = 20 by decide)
    refine z_calliS (cells := 0) (slots := 0) (As := [.long w4, .long 1, .long 20]) (rest := []) ⟨hx, hb, hml, hown, hT⟩ (c_X10_in l ) (va_cwS 3 hT (z_goodS (fun _ h => h) kw_1339 kw_1340 kw_96 kw_1341) rfl rfl rfl (by decide +kernel) ⟨by decide, by decide⟩) z_mv hKK hw hA rfl hl.1 rfl (Nat.le_of_ble_eq_true rfl) dX10_luck_18 ⟨by decide, by decide⟩ (fun r7 u H locs hp hw => ?_)
    obtain ⟨rfl, hp⟩ := hp
    have hw : z_H D vwCl (z_A L sz) s.heap L f1 H locs := hw
    rcases hp with ⟨rfl, h8⟩ | ⟨rfl, h8⟩
    · skip
      refine z_if_eq (tgt := 33) hx hb (show (1 : Int32).toInt = 1 by decide) dX10_luck_21 (by decide) (fun h => absurd h (by decide)) (fun _ => ?_)
      refine lv_aload_n hx hb dX10_luck_24 rfl (lv_at hl 0 rfl) ?_
      refine lv_iload_n hx hb dX10_luck_25 rfl (lv_at hl 3 rfl) ?_
      refine lv_i2l hx hb dX10_luck_26 rfl ?_
      refine lv_topl (fun w9 e_w9 => ?_)
      have i_w9 : w9.toInt = xc.toInt := z_i2l e_w9 rfl
      refine z_calliV (cells := 0) (slots := 0) (b := me) (As := [.long w9]) (rest := []) (ci := 10) (q0 := (RX10, TX10, 54)) ⟨hx, hb, hml, hown, hT⟩ (c_X10_isOwner l hm_me hm_ml hf_me hf_ml) (cwV 1 hT (z_goodV (fun _ h => h) kw_1604 kw_1606 kw_69 kw_96 kw_1607) rfl rfl rfl (by decide +kernel) ⟨by decide, by decide⟩) z_mv hKK hK hw hA hm_me hf_me rfl rfl rfl hl.1 rfl (Nat.le_of_ble_eq_true rfl) dX10_luck_27 ⟨by decide, by decide⟩ (fun r10 u H locs hp hw => ?_)
      obtain ⟨rfl, hp⟩ := hp
      have hw : z_H D vwCl (z_A L sz) s.heap L f1 H locs := hw
      obtain rfl := hp
      refine z_if_ne (tgt := 36) hx hb (show (0 : Int32).toInt = 0 by decide) dX10_luck_30 (by decide) (fun h => absurd h (by decide)) (fun _ => ?_)
      refine lv_bipush (v := (-2)) hx hb dX10_luck_33 (by decide) ?_
      exact z_iret hx hb hr hlk (by decide) (by decide) hw (⟨hsub, hfr, by decide⟩) dX10_luck_35
    · skip
      refine z_if_eq (tgt := 33) hx hb (show (0 : Int32).toInt = 0 by decide) dX10_luck_21 (by decide) (fun _ => ?_) (fun h => absurd h (by decide))
      refine lv_bipush (v := (-2)) hx hb dX10_luck_33 (by decide) ?_
      exact z_iret hx hb hr hlk (by decide) (by decide) hw (⟨hsub, hfr, by decide⟩) dX10_luck_35
  · skip
    refine z_if_eq (tgt := 33) hx hb (show (0 : Int32).toInt = 0 by decide) dX10_luck_9 (by decide) (fun _ => ?_) (fun h => absurd h (by decide))
    refine lv_bipush (v := (-2)) hx hb dX10_luck_33 (by decide) ?_
    exact z_iret hx hb hr hlk (by decide) (by decide) hw (⟨hsub, hfr, by decide⟩) dX10_luck_35

set_option maxHeartbeats 2000000 in
set_option maxRecDepth 100000 in
theorem c_X10_free (l : Launch) {D : va_G} {cy : Nat → ClassId} {L : List Nat} {f : Nat → va_E} {sz : Nat} {me mw mn mc mv mt ml mh mj ms mg md mk z29 z31 z32 z33 z34 z35 z37 z39 z43 z44 z45 z46 z47 z49 z50 z51 : Nat}  {xa : Int32} (hm_me : me ∈ L) (hm_ml : ml ∈ L) (hm_mh : mh ∈ L) (hf_me : f me = .inr (10, [.int 0, .ref mw, .ref mn, .ref mc, .ref mv, .ref mt, .int 0, .int 0, .int 0, .int 0, .int 0, .long 0, .int 0, .int 0, .int 0, .int (-1), .ref ml, .ref mh, .ref mj, .ref ms, .ref mg, .ref md, .int 0, .ref mk, .int (-1), .int 0, .long 0, .int 0, .int 0, .ref z29, .int 0, .ref z31, .ref z32, .ref z33, .ref z34, .ref z35, .int 0, .ref z37, .int 0, .ref z39, .int 0, .int 0, .int 0, .ref z43, .ref z44, .ref z45, .ref z46, .ref z47, .int 0, .ref z49, .ref z50, .ref z51, .int 0, .int 0])) (hf_ml : f ml = .inl (cy 1, 5, .inl (fun _ => 0))) (hf_mh : f mh = .inl (cy 1, 30, .inl (fun _ => 0))) : Met l yX10_free (z_ws yX10_free cX10_free 5 (some .int)) (z_R 6 0 0) (va_Pc [.ref me, .int xa] (z_Pre D vwCl (z_K D cy) L f sz)) (z_Qi D vwCl (fun r u => (∀ b ∈ L, b ∈ u.1) ∧ (∀ b ∈ L, b ≠ me → u.2 b = f b) ∧ ((r.toInt = -2))) L sz) 0 0 (z_A L sz) := by
  refine z_met (cc := cX10_free) (maxL := 5) (ret := (some .int)) (lv := [(0, .ref me), (1, .int xa)]) (by decide) rfl (Nat.le_of_ble_eq_true rfl) rfl ?_
  intro p e s m below meth c ls hx hb hr hlk hml hown hnm hts hKK hA hw hl
  have hK := hKK.1
  have hown : s.vm.findClass RX10 = some m.cls := hown
  have hT : ∀ w ∈ lw_all, w.before ([.ref me, .int xa] : List Value).toArray s = true := fun w h => hts w (z_cons w h)
  have hsub : ∀ b ∈ L, b ∈ L := fun _ h => h
  have hfr : ∀ b ∈ L, b ≠ me → f b = f b := fun _ _ _ => rfl
  refine lv_aload_n hx hb dX10_free_0 rfl (lv_at hl 0 rfl) ?_
  refine lv_iconst (v := 0) hx hb dX10_free_1 (by decide) ?_
  refine z_put (C := RX10) (T := TX10) (N := 54) (ci := 10) (v := .int 0) (fs' := [.int 0, .ref mw, .ref mn, .ref mc, .ref mv, .ref mt, .int 0, .int 0, .int 0, .int 0, .int 0, .long 0, .int 0, .int 0, .int 0, .int (-1), .ref ml, .ref mh, .ref mj, .ref ms, .ref mg, .ref md, .int 0, .ref mk, .int (-1), .int 0, .long 0, .int 0, .int 0, .ref z29, .int 0, .ref z31, .ref z32, .ref z33, .ref z34, .ref z35, .int 0, .ref z37, .int 0, .ref z39, .int 0, .int 0, .int 0, .ref z43, .ref z44, .ref z45, .ref z46, .ref z47, .int 0, .ref z49, .ref z50, .ref z51, .int 0, .int 0]) hx hb hT zin_X10 tyX10_ok nmX10 hown hK hw hm_me hf_me rfl 0 (by decide) (hT _ kw_1168) rfl rfl rfl (Nat.le_of_ble_eq_true rfl) rfl dX10_free_2 (fun H locs hw => ?_)
  obtain ⟨f1, e_f1⟩ : ∃ z, z = va_up f me (.inr (10, [.int 0, .ref mw, .ref mn, .ref mc, .ref mv, .ref mt, .int 0, .int 0, .int 0, .int 0, .int 0, .long 0, .int 0, .int 0, .int 0, .int (-1), .ref ml, .ref mh, .ref mj, .ref ms, .ref mg, .ref md, .int 0, .ref mk, .int (-1), .int 0, .long 0, .int 0, .int 0, .ref z29, .int 0, .ref z31, .ref z32, .ref z33, .ref z34, .ref z35, .int 0, .ref z37, .int 0, .ref z39, .int 0, .int 0, .int 0, .ref z43, .ref z44, .ref z45, .ref z46, .ref z47, .int 0, .ref z49, .ref z50, .ref z51, .int 0, .int 0])) := ⟨_, rfl⟩
  rw [← e_f1] at hw
  have hf_ml : f1 ml = .inl (cy 1, 5, .inl (fun _ => 0)) := (congrFun e_f1 ml).trans (z_up_ne (z_tne hf_ml hf_me (m := 140) (n := 10) rfl rfl (by decide)) hf_ml)
  have hf_mh : f1 mh = .inl (cy 1, 30, .inl (fun _ => 0)) := (congrFun e_f1 mh).trans (z_up_ne (z_tne hf_mh hf_me (m := 340) (n := 10) rfl rfl (by decide)) hf_mh)
  have hf_me : f1 me = .inr (10, [.int 0, .ref mw, .ref mn, .ref mc, .ref mv, .ref mt, .int 0, .int 0, .int 0, .int 0, .int 0, .long 0, .int 0, .int 0, .int 0, .int (-1), .ref ml, .ref mh, .ref mj, .ref ms, .ref mg, .ref md, .int 0, .ref mk, .int (-1), .int 0, .long 0, .int 0, .int 0, .ref z29, .int 0, .ref z31, .ref z32, .ref z33, .ref z34, .ref z35, .int 0, .ref z37, .int 0, .ref z39, .int 0, .int 0, .int 0, .ref z43, .ref z44, .ref z45, .ref z46, .ref z47, .int 0, .ref z49, .ref z50, .ref z51, .int 0, .int 0]) := (congrFun e_f1 me).trans z_up_self
  have hfr : ∀ b ∈ L, b ≠ me → f1 b = f b := fun b hb h0 => (congrFun e_f1 b).trans (z_up_ne h0 (hfr b hb h0))
  refine lv_aload_n hx hb dX10_free_5 rfl (lv_at hl 0 rfl) ?_
  refine lv_iload_n hx hb dX10_free_6 rfl (lv_at hl 1 rfl) ?_
  refine lv_i2l hx hb dX10_free_7 rfl ?_
  refine lv_topl (fun w2 e_w2 => ?_)
  have i_w2 : w2.toInt = xa.toInt := z_i2l e_w2 rfl
  refine z_calliV (cells := 0) (slots := 0) (b := me) (As := [.long w2]) (rest := []) (ci := 10) (q0 := (RX10, TX10, 54)) ⟨hx, hb, hml, hown, hT⟩ (c_X10_isOwner l hm_me hm_ml hf_me hf_ml) (cwV 1 hT (z_goodV (fun _ h => h) kw_1604 kw_1606 kw_69 kw_96 kw_1607) rfl rfl rfl (by decide +kernel) ⟨by decide, by decide⟩) z_mv hKK hK hw hA hm_me hf_me rfl rfl rfl hl.1 rfl (Nat.le_of_ble_eq_true rfl) dX10_free_8 ⟨by decide, by decide⟩ (fun r3 u H locs hp hw => ?_)
  obtain ⟨rfl, hp⟩ := hp
  have hw : z_H D vwCl (z_A L sz) s.heap L f1 H locs := hw
  obtain rfl := hp
  refine z_if_ne (tgt := 17) hx hb (show (0 : Int32).toInt = 0 by decide) dX10_free_11 (by decide) (fun h => absurd h (by decide)) (fun _ => ?_)
  refine lv_bipush (v := (-2)) hx hb dX10_free_14 (by decide) ?_
  exact z_iret hx hb hr hlk (by decide) (by decide) hw (⟨hsub, hfr, by decide⟩) dX10_free_16

set_option maxHeartbeats 2000000 in
set_option maxRecDepth 100000 in
theorem c_X10_all (l : Launch) {D : va_G} {cy : Nat → ClassId} {L : List Nat} {f : Nat → va_E} {sz : Nat} {me mw mn mc mv mt ml mh mj ms mg md mk z29 z31 z32 z33 z34 z35 z37 z39 z43 z44 z45 z46 z47 z49 z50 z51 : Nat}  {xa : Int32} (hm_me : me ∈ L) (hm_ml : ml ∈ L) (hm_mh : mh ∈ L) (hf_me : f me = .inr (10, [.int 0, .ref mw, .ref mn, .ref mc, .ref mv, .ref mt, .int 0, .int 0, .int 0, .int 0, .int 0, .long 0, .int 0, .int 0, .int 0, .int (-1), .ref ml, .ref mh, .ref mj, .ref ms, .ref mg, .ref md, .int 0, .ref mk, .int (-1), .int 0, .long 0, .int 0, .int 0, .ref z29, .int 0, .ref z31, .ref z32, .ref z33, .ref z34, .ref z35, .int 0, .ref z37, .int 0, .ref z39, .int 0, .int 0, .int 0, .ref z43, .ref z44, .ref z45, .ref z46, .ref z47, .int 0, .ref z49, .ref z50, .ref z51, .int 0, .int 0])) (hf_ml : f ml = .inl (cy 1, 5, .inl (fun _ => 0))) (hf_mh : f mh = .inl (cy 1, 30, .inl (fun _ => 0))) : Met l yX10_all (z_ws yX10_all cX10_all 4 (some .int)) (z_R 6 0 0) (va_Pc [.ref me, .int xa] (z_Pre D vwCl (z_K D cy) L f sz)) (z_Qi D vwCl (fun r u => (∀ b ∈ L, b ∈ u.1) ∧ (∀ b ∈ L, b ≠ me → u.2 b = f b) ∧ ((r.toInt = -2))) L sz) 0 0 (z_A L sz) := by
  refine z_met (cc := cX10_all) (maxL := 4) (ret := (some .int)) (lv := [(0, .ref me), (1, .int xa)]) (by decide) rfl (Nat.le_of_ble_eq_true rfl) rfl ?_
  intro p e s m below meth c ls hx hb hr hlk hml hown hnm hts hKK hA hw hl
  have hK := hKK.1
  have hown : s.vm.findClass RX10 = some m.cls := hown
  have hT : ∀ w ∈ lw_all, w.before ([.ref me, .int xa] : List Value).toArray s = true := fun w h => hts w (z_cons w h)
  have hsub : ∀ b ∈ L, b ∈ L := fun _ h => h
  have hfr : ∀ b ∈ L, b ≠ me → f b = f b := fun _ _ _ => rfl
  refine lv_aload_n hx hb dX10_all_0 rfl (lv_at hl 0 rfl) ?_
  refine lv_iconst (v := 0) hx hb dX10_all_1 (by decide) ?_
  refine z_put (C := RX10) (T := TX10) (N := 54) (ci := 10) (v := .int 0) (fs' := [.int 0, .ref mw, .ref mn, .ref mc, .ref mv, .ref mt, .int 0, .int 0, .int 0, .int 0, .int 0, .long 0, .int 0, .int 0, .int 0, .int (-1), .ref ml, .ref mh, .ref mj, .ref ms, .ref mg, .ref md, .int 0, .ref mk, .int (-1), .int 0, .long 0, .int 0, .int 0, .ref z29, .int 0, .ref z31, .ref z32, .ref z33, .ref z34, .ref z35, .int 0, .ref z37, .int 0, .ref z39, .int 0, .int 0, .int 0, .ref z43, .ref z44, .ref z45, .ref z46, .ref z47, .int 0, .ref z49, .ref z50, .ref z51, .int 0, .int 0]) hx hb hT zin_X10 tyX10_ok nmX10 hown hK hw hm_me hf_me rfl 0 (by decide) (hT _ kw_1168) rfl rfl rfl (Nat.le_of_ble_eq_true rfl) rfl dX10_all_2 (fun H locs hw => ?_)
  obtain ⟨f1, e_f1⟩ : ∃ z, z = va_up f me (.inr (10, [.int 0, .ref mw, .ref mn, .ref mc, .ref mv, .ref mt, .int 0, .int 0, .int 0, .int 0, .int 0, .long 0, .int 0, .int 0, .int 0, .int (-1), .ref ml, .ref mh, .ref mj, .ref ms, .ref mg, .ref md, .int 0, .ref mk, .int (-1), .int 0, .long 0, .int 0, .int 0, .ref z29, .int 0, .ref z31, .ref z32, .ref z33, .ref z34, .ref z35, .int 0, .ref z37, .int 0, .ref z39, .int 0, .int 0, .int 0, .ref z43, .ref z44, .ref z45, .ref z46, .ref z47, .int 0, .ref z49, .ref z50, .ref z51, .int 0, .int 0])) := ⟨_, rfl⟩
  rw [← e_f1] at hw
  have hf_ml : f1 ml = .inl (cy 1, 5, .inl (fun _ => 0)) := (congrFun e_f1 ml).trans (z_up_ne (z_tne hf_ml hf_me (m := 140) (n := 10) rfl rfl (by decide)) hf_ml)
  have hf_mh : f1 mh = .inl (cy 1, 30, .inl (fun _ => 0)) := (congrFun e_f1 mh).trans (z_up_ne (z_tne hf_mh hf_me (m := 340) (n := 10) rfl rfl (by decide)) hf_mh)
  have hf_me : f1 me = .inr (10, [.int 0, .ref mw, .ref mn, .ref mc, .ref mv, .ref mt, .int 0, .int 0, .int 0, .int 0, .int 0, .long 0, .int 0, .int 0, .int 0, .int (-1), .ref ml, .ref mh, .ref mj, .ref ms, .ref mg, .ref md, .int 0, .ref mk, .int (-1), .int 0, .long 0, .int 0, .int 0, .ref z29, .int 0, .ref z31, .ref z32, .ref z33, .ref z34, .ref z35, .int 0, .ref z37, .int 0, .ref z39, .int 0, .int 0, .int 0, .ref z43, .ref z44, .ref z45, .ref z46, .ref z47, .int 0, .ref z49, .ref z50, .ref z51, .int 0, .int 0]) := (congrFun e_f1 me).trans z_up_self
  have hfr : ∀ b ∈ L, b ≠ me → f1 b = f b := fun b hb h0 => (congrFun e_f1 b).trans (z_up_ne h0 (hfr b hb h0))
  refine lv_aload_n hx hb dX10_all_5 rfl (lv_at hl 0 rfl) ?_
  refine z_calliV (cells := 0) (slots := 0) (b := me) (As := []) (rest := []) (ci := 10) (q0 := (RX10, TX10, 54)) ⟨hx, hb, hml, hown, hT⟩ (c_X10_isMoor l hm_me hm_ml hf_me hf_ml) (cwV 0 hT (z_goodV (fun _ h => h) kw_1507 kw_1509 kw_54 kw_96 kw_1510) rfl rfl rfl (by decide +kernel) ⟨by decide, by decide⟩) z_mv hKK hK hw hA hm_me hf_me rfl rfl rfl hl.1 rfl (Nat.le_of_ble_eq_true rfl) dX10_all_6 ⟨by decide, by decide⟩ (fun r2 u H locs hp hw => ?_)
  obtain ⟨rfl, hp⟩ := hp
  have hw : z_H D vwCl (z_A L sz) s.heap L f1 H locs := hw
  obtain rfl := hp
  refine z_if_eq (tgt := 24) hx hb (show (0 : Int32).toInt = 0 by decide) dX10_all_9 (by decide) (fun _ => ?_) (fun h => absurd h (by decide))
  refine lv_bipush (v := (-2)) hx hb dX10_all_24 (by decide) ?_
  exact z_iret hx hb hr hlk (by decide) (by decide) hw (⟨hsub, hfr, by decide⟩) dX10_all_26

set_option maxHeartbeats 2000000 in
set_option maxRecDepth 100000 in
theorem c_X10_count (l : Launch) {D : va_G} {cy : Nat → ClassId} {L : List Nat} {f : Nat → va_E} {sz : Nat} {me mw mn mc mv mt ml mh mj ms mg md mk z29 z31 z32 z33 z34 z35 z37 z39 z43 z44 z45 z46 z47 z49 z50 z51 : Nat} {gw : Nat → Int32} {xa : Int32} (hm_me : me ∈ L) (hm_ml : ml ∈ L) (hm_mh : mh ∈ L) (hm_mw : mw ∈ L) (hf_me : f me = .inr (10, [.int 0, .ref mw, .ref mn, .ref mc, .ref mv, .ref mt, .int 0, .int 0, .int 0, .int 0, .int 0, .long 0, .int 0, .int 0, .int 0, .int (-1), .ref ml, .ref mh, .ref mj, .ref ms, .ref mg, .ref md, .int 0, .ref mk, .int (-1), .int 0, .long 0, .int 0, .int 0, .ref z29, .int 0, .ref z31, .ref z32, .ref z33, .ref z34, .ref z35, .int 0, .ref z37, .int 0, .ref z39, .int 0, .int 0, .int 0, .ref z43, .ref z44, .ref z45, .ref z46, .ref z47, .int 0, .ref z49, .ref z50, .ref z51, .int 0, .int 0])) (hf_ml : f ml = .inl (cy 1, 5, .inl (fun _ => 0))) (hf_mh : f mh = .inl (cy 1, 30, .inl (fun _ => 0))) (hf_mw : f mw = .inl (cy 1, 4, .inl gw)) (hgw : ∀ j : Nat, j < 4 → gw j = -1) : Met l yX10_count (z_ws yX10_count cX10_count 4 (some .int)) (z_R 6 0 0) (va_Pc [.ref me, .int xa] (z_Pre D vwCl (z_K D cy) L f sz)) (z_Qi D vwCl (fun r u => (∀ b ∈ L, b ∈ u.1) ∧ (∀ b ∈ L, b ≠ me → u.2 b = f b) ∧ (((r.toInt = 0 ∧ (0 ≤ xa.toInt ∧ xa.toInt ≤ 8)) ∨ (r.toInt = -1 ∧ ¬ (0 ≤ xa.toInt ∧ xa.toInt ≤ 8))))) L sz) 0 0 (z_A L sz) := by
  refine z_met (cc := cX10_count) (maxL := 4) (ret := (some .int)) (lv := [(0, .ref me), (1, .int xa)]) (by decide) rfl (Nat.le_of_ble_eq_true rfl) rfl ?_
  intro p e s m below meth c ls hx hb hr hlk hml hown hnm hts hKK hA hw hl
  have hK := hKK.1
  have hown : s.vm.findClass RX10 = some m.cls := hown
  have hT : ∀ w ∈ lw_all, w.before ([.ref me, .int xa] : List Value).toArray s = true := fun w h => hts w (z_cons w h)
  have hsub : ∀ b ∈ L, b ∈ L := fun _ h => h
  have hfr : ∀ b ∈ L, b ≠ me → f b = f b := fun _ _ _ => rfl
  refine lv_aload_n hx hb dX10_count_0 rfl (lv_at hl 0 rfl) ?_
  refine lv_iconst (v := 0) hx hb dX10_count_1 (by decide) ?_
  refine z_put (C := RX10) (T := TX10) (N := 54) (ci := 10) (v := .int 0) (fs' := [.int 0, .ref mw, .ref mn, .ref mc, .ref mv, .ref mt, .int 0, .int 0, .int 0, .int 0, .int 0, .long 0, .int 0, .int 0, .int 0, .int (-1), .ref ml, .ref mh, .ref mj, .ref ms, .ref mg, .ref md, .int 0, .ref mk, .int (-1), .int 0, .long 0, .int 0, .int 0, .ref z29, .int 0, .ref z31, .ref z32, .ref z33, .ref z34, .ref z35, .int 0, .ref z37, .int 0, .ref z39, .int 0, .int 0, .int 0, .ref z43, .ref z44, .ref z45, .ref z46, .ref z47, .int 0, .ref z49, .ref z50, .ref z51, .int 0, .int 0]) hx hb hT zin_X10 tyX10_ok nmX10 hown hK hw hm_me hf_me rfl 0 (by decide) (hT _ kw_1168) rfl rfl rfl (Nat.le_of_ble_eq_true rfl) rfl dX10_count_2 (fun H locs hw => ?_)
  obtain ⟨f1, e_f1⟩ : ∃ z, z = va_up f me (.inr (10, [.int 0, .ref mw, .ref mn, .ref mc, .ref mv, .ref mt, .int 0, .int 0, .int 0, .int 0, .int 0, .long 0, .int 0, .int 0, .int 0, .int (-1), .ref ml, .ref mh, .ref mj, .ref ms, .ref mg, .ref md, .int 0, .ref mk, .int (-1), .int 0, .long 0, .int 0, .int 0, .ref z29, .int 0, .ref z31, .ref z32, .ref z33, .ref z34, .ref z35, .int 0, .ref z37, .int 0, .ref z39, .int 0, .int 0, .int 0, .ref z43, .ref z44, .ref z45, .ref z46, .ref z47, .int 0, .ref z49, .ref z50, .ref z51, .int 0, .int 0])) := ⟨_, rfl⟩
  rw [← e_f1] at hw
  have hf_ml : f1 ml = .inl (cy 1, 5, .inl (fun _ => 0)) := (congrFun e_f1 ml).trans (z_up_ne (z_tne hf_ml hf_me (m := 140) (n := 10) rfl rfl (by decide)) hf_ml)
  have hf_mh : f1 mh = .inl (cy 1, 30, .inl (fun _ => 0)) := (congrFun e_f1 mh).trans (z_up_ne (z_tne hf_mh hf_me (m := 340) (n := 10) rfl rfl (by decide)) hf_mh)
  have hf_mw : f1 mw = .inl (cy 1, 4, .inl gw) := (congrFun e_f1 mw).trans (z_up_ne (z_tne hf_mw hf_me (m := 132) (n := 10) rfl rfl (by decide)) hf_mw)
  have hf_me : f1 me = .inr (10, [.int 0, .ref mw, .ref mn, .ref mc, .ref mv, .ref mt, .int 0, .int 0, .int 0, .int 0, .int 0, .long 0, .int 0, .int 0, .int 0, .int (-1), .ref ml, .ref mh, .ref mj, .ref ms, .ref mg, .ref md, .int 0, .ref mk, .int (-1), .int 0, .long 0, .int 0, .int 0, .ref z29, .int 0, .ref z31, .ref z32, .ref z33, .ref z34, .ref z35, .int 0, .ref z37, .int 0, .ref z39, .int 0, .int 0, .int 0, .ref z43, .ref z44, .ref z45, .ref z46, .ref z47, .int 0, .ref z49, .ref z50, .ref z51, .int 0, .int 0]) := (congrFun e_f1 me).trans z_up_self
  have hfr : ∀ b ∈ L, b ≠ me → f1 b = f b := fun b hb h0 => (congrFun e_f1 b).trans (z_up_ne h0 (hfr b hb h0))
  refine lv_iconst (v := 0) hx hb dX10_count_5 (by decide) ?_
  refine lv_istore_n (lv' := [(2, .int 0), (0, .ref me), (1, .int xa)]) hx hb dX10_count_6 rfl hl (by decide) rfl (fun ls hl => ?_)
  refine lv_iload_n hx hb dX10_count_7 rfl (lv_at hl 2 rfl) ?_
  by_cases c2 : xa.toInt < 0 ∨ 8 < xa.toInt
  · skip
    refine lv_tableOut (tgt := 147) hx hb dX10_count_8 (by rw [show xa.toInt = xa.toInt from rfl]; exact c2) (by decide) ?_
    refine lv_iconst (v := (-1)) hx hb dX10_count_147 (by decide) ?_
    exact z_iret hx hb hr hlk (by decide) (by decide) hw (⟨hsub, hfr, Or.inr ⟨by decide, by omega⟩⟩) dX10_count_148
  · skip
    have c2s : xa.toInt = 0 ∨ xa.toInt = 1 ∨ xa.toInt = 2 ∨ xa.toInt = 3 ∨ xa.toInt = 4 ∨ xa.toInt = 5 ∨ xa.toInt = 6 ∨ xa.toInt = 7 ∨ xa.toInt = 8 := by omega
    rcases c2s with c2 | c2 | c2 | c2 | c2 | c2 | c2 | c2 | c2
    · skip
      refine lv_tableIn (off := 52) (tgt := 60) hx hb dX10_count_8 (by omega) (by omega) (by rw [show xa.toInt = 0 from c2]; rfl) (by decide) ?_
      refine lv_aload_n hx hb dX10_count_60 rfl (lv_at hl 1 rfl) ?_
      refine z_get (C := RX10) (T := TX10) (N := 54) (ci := 10) (v := .ref mh) hx hb hT zin_X10 hown hK hw hm_me hf_me rfl 17 (by decide) (hT _ kw_1185) rfl dX10_count_61 ?_
      refine lv_iconst (v := 0) hx hb dX10_count_64 (by decide) ?_
      refine z_iald hx hb hK hw 1 hm_mh hf_mh rfl (z_ix (show (0 : Int32).toInt = 0 by decide) (by decide)) dX10_count_65 ?_
      refine z_lit (y := 0) rfl ?_
      exact z_iret hx hb hr hlk (by decide) (by decide) hw (⟨hsub, hfr, Or.inl ⟨by decide, by omega⟩⟩) dX10_count_66
    · skip
      refine lv_tableIn (off := 59) (tgt := 67) hx hb dX10_count_8 (by omega) (by omega) (by rw [show xa.toInt = 1 from c2]; rfl) (by decide) ?_
      refine lv_aload_n hx hb dX10_count_67 rfl (lv_at hl 1 rfl) ?_
      refine z_get (C := RX10) (T := TX10) (N := 54) (ci := 10) (v := .ref mh) hx hb hT zin_X10 hown hK hw hm_me hf_me rfl 17 (by decide) (hT _ kw_1185) rfl dX10_count_68 ?_
      refine lv_iconst (v := 1) hx hb dX10_count_71 (by decide) ?_
      refine z_iald hx hb hK hw 1 hm_mh hf_mh rfl (z_ix (show (1 : Int32).toInt = 1 by decide) (by decide)) dX10_count_72 ?_
      refine z_lit (y := 0) rfl ?_
      exact z_iret hx hb hr hlk (by decide) (by decide) hw (⟨hsub, hfr, Or.inl ⟨by decide, by omega⟩⟩) dX10_count_73
    · skip
      refine lv_tableIn (off := 66) (tgt := 74) hx hb dX10_count_8 (by omega) (by omega) (by rw [show xa.toInt = 2 from c2]; rfl) (by decide) ?_
      refine lv_aload_n hx hb dX10_count_74 rfl (lv_at hl 1 rfl) ?_
      refine z_get (C := RX10) (T := TX10) (N := 54) (ci := 10) (v := .ref mh) hx hb hT zin_X10 hown hK hw hm_me hf_me rfl 17 (by decide) (hT _ kw_1185) rfl dX10_count_75 ?_
      refine lv_iconst (v := 2) hx hb dX10_count_78 (by decide) ?_
      refine z_iald hx hb hK hw 1 hm_mh hf_mh rfl (z_ix (show (2 : Int32).toInt = 2 by decide) (by decide)) dX10_count_79 ?_
      refine z_lit (y := 0) rfl ?_
      exact z_iret hx hb hr hlk (by decide) (by decide) hw (⟨hsub, hfr, Or.inl ⟨by decide, by omega⟩⟩) dX10_count_80
    · skip
      refine lv_tableIn (off := 73) (tgt := 81) hx hb dX10_count_8 (by omega) (by omega) (by rw [show xa.toInt = 3 from c2]; rfl) (by decide) ?_
      refine lv_aload_n hx hb dX10_count_81 rfl (lv_at hl 1 rfl) ?_
      refine z_get (C := RX10) (T := TX10) (N := 54) (ci := 10) (v := .ref mh) hx hb hT zin_X10 hown hK hw hm_me hf_me rfl 17 (by decide) (hT _ kw_1185) rfl dX10_count_82 ?_
      refine lv_iconst (v := 3) hx hb dX10_count_85 (by decide) ?_
      refine z_iald hx hb hK hw 1 hm_mh hf_mh rfl (z_ix (show (3 : Int32).toInt = 3 by decide) (by decide)) dX10_count_86 ?_
      refine z_lit (y := 0) rfl ?_
      exact z_iret hx hb hr hlk (by decide) (by decide) hw (⟨hsub, hfr, Or.inl ⟨by decide, by omega⟩⟩) dX10_count_87
    · skip
      refine lv_tableIn (off := 80) (tgt := 88) hx hb dX10_count_8 (by omega) (by omega) (by rw [show xa.toInt = 4 from c2]; rfl) (by decide) ?_
      refine lv_aload_n hx hb dX10_count_88 rfl (lv_at hl 1 rfl) ?_
      refine z_get (C := RX10) (T := TX10) (N := 54) (ci := 10) (v := .ref mh) hx hb hT zin_X10 hown hK hw hm_me hf_me rfl 17 (by decide) (hT _ kw_1185) rfl dX10_count_89 ?_
      refine lv_iconst (v := 4) hx hb dX10_count_92 (by decide) ?_
      refine z_iald hx hb hK hw 1 hm_mh hf_mh rfl (z_ix (show (4 : Int32).toInt = 4 by decide) (by decide)) dX10_count_93 ?_
      refine z_lit (y := 0) rfl ?_
      exact z_iret hx hb hr hlk (by decide) (by decide) hw (⟨hsub, hfr, Or.inl ⟨by decide, by omega⟩⟩) dX10_count_94
    · skip
      refine lv_tableIn (off := 87) (tgt := 95) hx hb dX10_count_8 (by omega) (by omega) (by rw [show xa.toInt = 5 from c2]; rfl) (by decide) ?_
      refine lv_aload_n hx hb dX10_count_95 rfl (lv_at hl 1 rfl) ?_
      refine z_get (C := RX10) (T := TX10) (N := 54) (ci := 10) (v := .ref ml) hx hb hT zin_X10 hown hK hw hm_me hf_me rfl 16 (by decide) (hT _ kw_1184) rfl dX10_count_96 ?_
      refine lv_iconst (v := 0) hx hb dX10_count_99 (by decide) ?_
      refine z_iald hx hb hK hw 1 hm_ml hf_ml rfl (z_ix (show (0 : Int32).toInt = 0 by decide) (by decide)) dX10_count_100 ?_
      refine z_lit (y := 0) rfl ?_
      exact z_iret hx hb hr hlk (by decide) (by decide) hw (⟨hsub, hfr, Or.inl ⟨by decide, by omega⟩⟩) dX10_count_101
    · skip
      refine lv_tableIn (off := 94) (tgt := 102) hx hb dX10_count_8 (by omega) (by omega) (by rw [show xa.toInt = 6 from c2]; rfl) (by decide) ?_
      refine lv_aload_n hx hb dX10_count_102 rfl (lv_at hl 1 rfl) ?_
      refine z_get (C := RX10) (T := TX10) (N := 54) (ci := 10) (v := .int 0) hx hb hT zin_X10 hown hK hw hm_me hf_me rfl 6 (by decide) (hT _ kw_1174) rfl dX10_count_103 ?_
      exact z_iret hx hb hr hlk (by decide) (by decide) hw (⟨hsub, hfr, Or.inl ⟨by decide, by omega⟩⟩) dX10_count_106
    · skip
      refine lv_tableIn (off := 99) (tgt := 107) hx hb dX10_count_8 (by omega) (by omega) (by rw [show xa.toInt = 7 from c2]; rfl) (by decide) ?_
      refine lv_aload_n hx hb dX10_count_107 rfl (lv_at hl 1 rfl) ?_
      refine z_get (C := RX10) (T := TX10) (N := 54) (ci := 10) (v := .ref mh) hx hb hT zin_X10 hown hK hw hm_me hf_me rfl 17 (by decide) (hT _ kw_1185) rfl dX10_count_108 ?_
      refine lv_iconst (v := 5) hx hb dX10_count_111 (by decide) ?_
      refine z_iald hx hb hK hw 1 hm_mh hf_mh rfl (z_ix (show (5 : Int32).toInt = 5 by decide) (by decide)) dX10_count_112 ?_
      refine z_lit (y := 0) rfl ?_
      exact z_iret hx hb hr hlk (by decide) (by decide) hw (⟨hsub, hfr, Or.inl ⟨by decide, by omega⟩⟩) dX10_count_113
    · skip
      refine lv_tableIn (off := 106) (tgt := 114) hx hb dX10_count_8 (by omega) (by omega) (by rw [show xa.toInt = 8 from c2]; rfl) (by decide) ?_
      refine lv_iconst (v := 0) hx hb dX10_count_114 (by decide) ?_
      refine lv_istore_n (lv' := [(3, .int 0), (2, .int 0), (0, .ref me), (1, .int xa)]) hx hb dX10_count_115 rfl hl (by decide) rfl (fun ls hl => ?_)
      refine lv_iload_n hx hb dX10_count_116 rfl (lv_at hl 0 rfl) ?_
      refine lv_iconst (v := 4) hx hb dX10_count_117 (by decide) ?_
      refine z_icmp_ge (tgt := 145) hx hb (show (0 : Int32).toInt = 0 by decide) (show (4 : Int32).toInt = 4 by decide) dX10_count_118 (by decide) (fun h => absurd h (by decide)) (fun _ => ?_)
      refine lv_iload_n hx hb dX10_count_121 rfl (lv_at hl 1 rfl) ?_
      refine lv_aload_n hx hb dX10_count_122 rfl (lv_at hl 2 rfl) ?_
      refine z_get (C := RX10) (T := TX10) (N := 54) (ci := 10) (v := .ref mw) hx hb hT zin_X10 hown hK hw hm_me hf_me rfl 1 (by decide) (hT _ kw_1169) rfl dX10_count_123 ?_
      refine lv_iload_n hx hb dX10_count_126 rfl (lv_at hl 0 rfl) ?_
      refine z_iald hx hb hK hw 1 hm_mw hf_mw rfl (z_ix (show (0 : Int32).toInt = 0 by decide) (by decide)) dX10_count_127 ?_
      refine z_lit (y := (-1)) (hgw _ (by first | decide | exact z_cl (by omega))) ?_
      refine lv_iconst (v := (-1)) hx hb dX10_count_128 (by decide) ?_
      refine z_icmp_ne (tgt := 136) hx hb (show ((-1) : Int32).toInt = (-1) by decide) (show ((-1) : Int32).toInt = (-1) by decide) dX10_count_129 (by decide) (fun h => absurd h (by decide)) (fun _ => ?_)
      refine lv_iconst (v := 0) hx hb dX10_count_132 (by decide) ?_
      refine lv_goto (tgt := 137) hx hb dX10_count_133 (by decide) ?_
      refine lv_iadd hx hb dX10_count_137 ?_
      refine z_lit (y := 0) (by decide) ?_
      refine lv_istore_n (lv' := [(2, .int 0), (3, .int 0), (0, .ref me), (1, .int xa)]) hx hb dX10_count_138 rfl hl (by decide) rfl (fun ls hl => ?_)
      refine lv_iinc (v := 1) (lv' := [(3, .int 1), (2, .int 0), (0, .ref me), (1, .int xa)]) hx hb dX10_count_139 hl (k := 1) rfl (by decide) (by decide) rfl (fun ls hl => ?_)
      refine lv_goto (tgt := 116) hx hb dX10_count_142 (by decide) ?_
      refine lv_iload_n hx hb dX10_count_116 rfl (lv_at hl 0 rfl) ?_
      refine lv_iconst (v := 4) hx hb dX10_count_117 (by decide) ?_
      refine z_icmp_ge (tgt := 145) hx hb (show (1 : Int32).toInt = 1 by decide) (show (4 : Int32).toInt = 4 by decide) dX10_count_118 (by decide) (fun h => absurd h (by decide)) (fun _ => ?_)
      refine lv_iload_n hx hb dX10_count_121 rfl (lv_at hl 1 rfl) ?_
      refine lv_aload_n hx hb dX10_count_122 rfl (lv_at hl 2 rfl) ?_
      refine z_get (C := RX10) (T := TX10) (N := 54) (ci := 10) (v := .ref mw) hx hb hT zin_X10 hown hK hw hm_me hf_me rfl 1 (by decide) (hT _ kw_1169) rfl dX10_count_123 ?_
      refine lv_iload_n hx hb dX10_count_126 rfl (lv_at hl 0 rfl) ?_
      refine z_iald hx hb hK hw 1 hm_mw hf_mw rfl (z_ix (show (1 : Int32).toInt = 1 by decide) (by decide)) dX10_count_127 ?_
      refine z_lit (y := (-1)) (hgw _ (by first | decide | exact z_cl (by omega))) ?_
      refine lv_iconst (v := (-1)) hx hb dX10_count_128 (by decide) ?_
      refine z_icmp_ne (tgt := 136) hx hb (show ((-1) : Int32).toInt = (-1) by decide) (show ((-1) : Int32).toInt = (-1) by decide) dX10_count_129 (by decide) (fun h => absurd h (by decide)) (fun _ => ?_)
      refine lv_iconst (v := 0) hx hb dX10_count_132 (by decide) ?_
      refine lv_goto (tgt := 137) hx hb dX10_count_133 (by decide) ?_
      refine lv_iadd hx hb dX10_count_137 ?_
      refine z_lit (y := 0) (by decide) ?_
      refine lv_istore_n (lv' := [(2, .int 0), (3, .int 1), (0, .ref me), (1, .int xa)]) hx hb dX10_count_138 rfl hl (by decide) rfl (fun ls hl => ?_)
      refine lv_iinc (v := 2) (lv' := [(3, .int 2), (2, .int 0), (0, .ref me), (1, .int xa)]) hx hb dX10_count_139 hl (k := 1) rfl (by decide) (by decide) rfl (fun ls hl => ?_)
      refine lv_goto (tgt := 116) hx hb dX10_count_142 (by decide) ?_
      refine lv_iload_n hx hb dX10_count_116 rfl (lv_at hl 0 rfl) ?_
      refine lv_iconst (v := 4) hx hb dX10_count_117 (by decide) ?_
      refine z_icmp_ge (tgt := 145) hx hb (show (2 : Int32).toInt = 2 by decide) (show (4 : Int32).toInt = 4 by decide) dX10_count_118 (by decide) (fun h => absurd h (by decide)) (fun _ => ?_)
      refine lv_iload_n hx hb dX10_count_121 rfl (lv_at hl 1 rfl) ?_
      refine lv_aload_n hx hb dX10_count_122 rfl (lv_at hl 2 rfl) ?_
      refine z_get (C := RX10) (T := TX10) (N := 54) (ci := 10) (v := .ref mw) hx hb hT zin_X10 hown hK hw hm_me hf_me rfl 1 (by decide) (hT _ kw_1169) rfl dX10_count_123 ?_
      refine lv_iload_n hx hb dX10_count_126 rfl (lv_at hl 0 rfl) ?_
      refine z_iald hx hb hK hw 1 hm_mw hf_mw rfl (z_ix (show (2 : Int32).toInt = 2 by decide) (by decide)) dX10_count_127 ?_
      refine z_lit (y := (-1)) (hgw _ (by first | decide | exact z_cl (by omega))) ?_
      refine lv_iconst (v := (-1)) hx hb dX10_count_128 (by decide) ?_
      refine z_icmp_ne (tgt := 136) hx hb (show ((-1) : Int32).toInt = (-1) by decide) (show ((-1) : Int32).toInt = (-1) by decide) dX10_count_129 (by decide) (fun h => absurd h (by decide)) (fun _ => ?_)
      refine lv_iconst (v := 0) hx hb dX10_count_132 (by decide) ?_
      refine lv_goto (tgt := 137) hx hb dX10_count_133 (by decide) ?_
      refine lv_iadd hx hb dX10_count_137 ?_
      refine z_lit (y := 0) (by decide) ?_
      refine lv_istore_n (lv' := [(2, .int 0), (3, .int 2), (0, .ref me), (1, .int xa)]) hx hb dX10_count_138 rfl hl (by decide) rfl (fun ls hl => ?_)
      refine lv_iinc (v := 3) (lv' := [(3, .int 3), (2, .int 0), (0, .ref me), (1, .int xa)]) hx hb dX10_count_139 hl (k := 1) rfl (by decide) (by decide) rfl (fun ls hl => ?_)
      refine lv_goto (tgt := 116) hx hb dX10_count_142 (by decide) ?_
      refine lv_iload_n hx hb dX10_count_116 rfl (lv_at hl 0 rfl) ?_
      refine lv_iconst (v := 4) hx hb dX10_count_117 (by decide) ?_
      refine z_icmp_ge (tgt := 145) hx hb (show (3 : Int32).toInt = 3 by decide) (show (4 : Int32).toInt = 4 by decide) dX10_count_118 (by decide) (fun h => absurd h (by decide)) (fun _ => ?_)
      refine lv_iload_n hx hb dX10_count_121 rfl (lv_at hl 1 rfl) ?_
      refine lv_aload_n hx hb dX10_count_122 rfl (lv_at hl 2 rfl) ?_
      refine z_get (C := RX10) (T := TX10) (N := 54) (ci := 10) (v := .ref mw) hx hb hT zin_X10 hown hK hw hm_me hf_me rfl 1 (by decide) (hT _ kw_1169) rfl dX10_count_123 ?_
      refine lv_iload_n hx hb dX10_count_126 rfl (lv_at hl 0 rfl) ?_
      refine z_iald hx hb hK hw 1 hm_mw hf_mw rfl (z_ix (show (3 : Int32).toInt = 3 by decide) (by decide)) dX10_count_127 ?_
      refine z_lit (y := (-1)) (hgw _ (by first | decide | exact z_cl (by omega))) ?_
      refine lv_iconst (v := (-1)) hx hb dX10_count_128 (by decide) ?_
      refine z_icmp_ne (tgt := 136) hx hb (show ((-1) : Int32).toInt = (-1) by decide) (show ((-1) : Int32).toInt = (-1) by decide) dX10_count_129 (by decide) (fun h => absurd h (by decide)) (fun _ => ?_)
      refine lv_iconst (v := 0) hx hb dX10_count_132 (by decide) ?_
      refine lv_goto (tgt := 137) hx hb dX10_count_133 (by decide) ?_
      refine lv_iadd hx hb dX10_count_137 ?_
      refine z_lit (y := 0) (by decide) ?_
      refine lv_istore_n (lv' := [(2, .int 0), (3, .int 3), (0, .ref me), (1, .int xa)]) hx hb dX10_count_138 rfl hl (by decide) rfl (fun ls hl => ?_)
      refine lv_iinc (v := 4) (lv' := [(3, .int 4), (2, .int 0), (0, .ref me), (1, .int xa)]) hx hb dX10_count_139 hl (k := 1) rfl (by decide) (by decide) rfl (fun ls hl => ?_)
      refine lv_goto (tgt := 116) hx hb dX10_count_142 (by decide) ?_
      refine lv_iload_n hx hb dX10_count_116 rfl (lv_at hl 0 rfl) ?_
      refine lv_iconst (v := 4) hx hb dX10_count_117 (by decide) ?_
      refine z_icmp_ge (tgt := 145) hx hb (show (4 : Int32).toInt = 4 by decide) (show (4 : Int32).toInt = 4 by decide) dX10_count_118 (by decide) (fun _ => ?_) (fun h => absurd h (by decide))
      refine lv_iload_n hx hb dX10_count_145 rfl (lv_at hl 1 rfl) ?_
      exact z_iret hx hb hr hlk (by decide) (by decide) hw (⟨hsub, hfr, Or.inl ⟨by decide, by omega⟩⟩) dX10_count_146

set_option maxHeartbeats 2000000 in
set_option maxRecDepth 100000 in
theorem c_X10_fault (l : Launch) {D : va_G} {cy : Nat → ClassId} {L : List Nat} {f : Nat → va_E} {sz : Nat} {me mw mn mc mv mt ml mh mj ms mg md mk z29 z31 z32 z33 z34 z35 z37 z39 z43 z44 z45 z46 z47 z49 z50 z51 : Nat}  {xa : Int32} (hm_me : me ∈ L) (hf_me : f me = .inr (10, [.int 0, .ref mw, .ref mn, .ref mc, .ref mv, .ref mt, .int 0, .int 0, .int 0, .int 0, .int 0, .long 0, .int 0, .int 0, .int 0, .int (-1), .ref ml, .ref mh, .ref mj, .ref ms, .ref mg, .ref md, .int 0, .ref mk, .int (-1), .int 0, .long 0, .int 0, .int 0, .ref z29, .int 0, .ref z31, .ref z32, .ref z33, .ref z34, .ref z35, .int 0, .ref z37, .int 0, .ref z39, .int 0, .int 0, .int 0, .ref z43, .ref z44, .ref z45, .ref z46, .ref z47, .int 0, .ref z49, .ref z50, .ref z51, .int 0, .int 0])) : Met l yX10_fault (z_ws yX10_fault cX10_fault 2 (some .int)) (z_R 6 0 0) (va_Pc [.ref me, .int xa] (z_Pre D vwCl (z_K D cy) L f sz)) (z_Qi D vwCl (fun r u => (∀ b ∈ L, b ∈ u.1) ∧ (∀ b ∈ L, b ≠ me → u.2 b = f b) ∧ (((r.toInt = 0 ∧ xa.toInt = 0) ∨ (r.toInt = -1 ∧ xa.toInt ≠ 0)))) L sz) 0 0 (z_A L sz) := by
  refine z_met (cc := cX10_fault) (maxL := 2) (ret := (some .int)) (lv := [(0, .ref me), (1, .int xa)]) (by decide) rfl (Nat.le_of_ble_eq_true rfl) rfl ?_
  intro p e s m below meth c ls hx hb hr hlk hml hown hnm hts hKK hA hw hl
  have hK := hKK.1
  have hown : s.vm.findClass RX10 = some m.cls := hown
  have hT : ∀ w ∈ lw_all, w.before ([.ref me, .int xa] : List Value).toArray s = true := fun w h => hts w (z_cons w h)
  have hsub : ∀ b ∈ L, b ∈ L := fun _ h => h
  have hfr : ∀ b ∈ L, b ≠ me → f b = f b := fun _ _ _ => rfl
  refine lv_aload_n hx hb dX10_fault_0 rfl (lv_at hl 0 rfl) ?_
  refine lv_iconst (v := 0) hx hb dX10_fault_1 (by decide) ?_
  refine z_put (C := RX10) (T := TX10) (N := 54) (ci := 10) (v := .int 0) (fs' := [.int 0, .ref mw, .ref mn, .ref mc, .ref mv, .ref mt, .int 0, .int 0, .int 0, .int 0, .int 0, .long 0, .int 0, .int 0, .int 0, .int (-1), .ref ml, .ref mh, .ref mj, .ref ms, .ref mg, .ref md, .int 0, .ref mk, .int (-1), .int 0, .long 0, .int 0, .int 0, .ref z29, .int 0, .ref z31, .ref z32, .ref z33, .ref z34, .ref z35, .int 0, .ref z37, .int 0, .ref z39, .int 0, .int 0, .int 0, .ref z43, .ref z44, .ref z45, .ref z46, .ref z47, .int 0, .ref z49, .ref z50, .ref z51, .int 0, .int 0]) hx hb hT zin_X10 tyX10_ok nmX10 hown hK hw hm_me hf_me rfl 0 (by decide) (hT _ kw_1168) rfl rfl rfl (Nat.le_of_ble_eq_true rfl) rfl dX10_fault_2 (fun H locs hw => ?_)
  obtain ⟨f1, e_f1⟩ : ∃ z, z = va_up f me (.inr (10, [.int 0, .ref mw, .ref mn, .ref mc, .ref mv, .ref mt, .int 0, .int 0, .int 0, .int 0, .int 0, .long 0, .int 0, .int 0, .int 0, .int (-1), .ref ml, .ref mh, .ref mj, .ref ms, .ref mg, .ref md, .int 0, .ref mk, .int (-1), .int 0, .long 0, .int 0, .int 0, .ref z29, .int 0, .ref z31, .ref z32, .ref z33, .ref z34, .ref z35, .int 0, .ref z37, .int 0, .ref z39, .int 0, .int 0, .int 0, .ref z43, .ref z44, .ref z45, .ref z46, .ref z47, .int 0, .ref z49, .ref z50, .ref z51, .int 0, .int 0])) := ⟨_, rfl⟩
  rw [← e_f1] at hw
  have hf_me : f1 me = .inr (10, [.int 0, .ref mw, .ref mn, .ref mc, .ref mv, .ref mt, .int 0, .int 0, .int 0, .int 0, .int 0, .long 0, .int 0, .int 0, .int 0, .int (-1), .ref ml, .ref mh, .ref mj, .ref ms, .ref mg, .ref md, .int 0, .ref mk, .int (-1), .int 0, .long 0, .int 0, .int 0, .ref z29, .int 0, .ref z31, .ref z32, .ref z33, .ref z34, .ref z35, .int 0, .ref z37, .int 0, .ref z39, .int 0, .int 0, .int 0, .ref z43, .ref z44, .ref z45, .ref z46, .ref z47, .int 0, .ref z49, .ref z50, .ref z51, .int 0, .int 0]) := (congrFun e_f1 me).trans z_up_self
  have hfr : ∀ b ∈ L, b ≠ me → f1 b = f b := fun b hb h0 => (congrFun e_f1 b).trans (z_up_ne h0 (hfr b hb h0))
  refine lv_iload_n hx hb dX10_fault_5 rfl (lv_at hl 1 rfl) ?_
  refine z_if_ne (tgt := 16) hx hb rfl dX10_fault_6 (by decide) (fun c2 => ?_) (fun c2 => ?_)
  · skip
    refine lv_iload_n hx hb dX10_fault_16 rfl (lv_at hl 1 rfl) ?_
    refine lv_iconst (v := 1) hx hb dX10_fault_17 (by decide) ?_
    refine z_icmp_ne (tgt := 28) hx hb rfl (show (1 : Int32).toInt = 1 by decide) dX10_fault_18 (by decide) (fun c3 => ?_) (fun c3 => ?_)
    · skip
      refine lv_iconst (v := (-1)) hx hb dX10_fault_28 (by decide) ?_
      exact z_iret hx hb hr hlk (by decide) (by decide) hw (⟨hsub, hfr, Or.inr ⟨by decide, by omega⟩⟩) dX10_fault_29
    · skip
      refine lv_aload_n hx hb dX10_fault_21 rfl (lv_at hl 0 rfl) ?_
      refine z_get (C := RX10) (T := TX10) (N := 54) (ci := 10) (v := .int (-1)) hx hb hT zin_X10 hown hK hw hm_me hf_me rfl 15 (by decide) (hT _ kw_1183) rfl dX10_fault_22 ?_
      refine lv_goto (tgt := 29) hx hb dX10_fault_25 (by decide) ?_
      exact z_iret hx hb hr hlk (by decide) (by decide) hw (⟨hsub, hfr, Or.inr ⟨by decide, by omega⟩⟩) dX10_fault_29
  · skip
    refine lv_aload_n hx hb dX10_fault_9 rfl (lv_at hl 0 rfl) ?_
    refine z_get (C := RX10) (T := TX10) (N := 54) (ci := 10) (v := .int 0) hx hb hT zin_X10 hown hK hw hm_me hf_me rfl 14 (by decide) (hT _ kw_1182) rfl dX10_fault_10 ?_
    refine lv_goto (tgt := 29) hx hb dX10_fault_13 (by decide) ?_
    exact z_iret hx hb hr hlk (by decide) (by decide) hw (⟨hsub, hfr, Or.inl ⟨by decide, by omega⟩⟩) dX10_fault_29

set_option maxHeartbeats 2000000 in
set_option maxRecDepth 100000 in
theorem c_X10_write (l : Launch) {D : va_G} {cy : Nat → ClassId} {L : List Nat} {f : Nat → va_E} {sz : Nat} {me mw mn mc mv mt ml mh mj ms mg md mk z29 z31 z32 z33 z34 z35 z37 z39 z43 z44 z45 z46 z47 z49 z50 z51 : Nat} {gw : Nat → Int32} {xa xb : Int32} {xc : Int64} (hm_me : me ∈ L) (hm_mw : mw ∈ L) (hf_me : f me = .inr (10, [.int 0, .ref mw, .ref mn, .ref mc, .ref mv, .ref mt, .int 0, .int 0, .int 0, .int 0, .int 0, .long 0, .int 0, .int 0, .int 0, .int (-1), .ref ml, .ref mh, .ref mj, .ref ms, .ref mg, .ref md, .int 0, .ref mk, .int (-1), .int 0, .long 0, .int 0, .int 0, .ref z29, .int 0, .ref z31, .ref z32, .ref z33, .ref z34, .ref z35, .int 0, .ref z37, .int 0, .ref z39, .int 0, .int 0, .int 0, .ref z43, .ref z44, .ref z45, .ref z46, .ref z47, .int 0, .ref z49, .ref z50, .ref z51, .int 0, .int 0])) (hf_mw : f mw = .inl (cy 1, 4, .inl gw)) (hgw : ∀ j : Nat, j < 4 → gw j = -1) : Met l yX10_write (z_ws yX10_write cX10_write 5 (some .int)) (z_R 6 0 0) (va_Pc [.ref me, .int xa, .int xb, .long xc] (z_Pre D vwCl (z_K D cy) L f sz)) (z_Qi D vwCl (fun r u => (∀ b ∈ L, b ∈ u.1) ∧ (∀ b ∈ L, b ≠ me → u.2 b = f b) ∧ (((r.toInt = -6 ∧ (0 ≤ xa.toInt ∧ xa.toInt < 4)) ∨ (r.toInt = -2 ∧ ¬ (0 ≤ xa.toInt ∧ xa.toInt < 4))))) L sz) 0 0 (z_A L sz) := by
  refine z_met (cc := cX10_write) (maxL := 5) (ret := (some .int)) (lv := [(0, .ref me), (1, .int xa), (2, .int xb), (3, .long xc)]) (by decide) rfl (Nat.le_of_ble_eq_true rfl) rfl ?_
  intro p e s m below meth c ls hx hb hr hlk hml hown hnm hts hKK hA hw hl
  have hK := hKK.1
  have hown : s.vm.findClass RX10 = some m.cls := hown
  have hT : ∀ w ∈ lw_all, w.before ([.ref me, .int xa, .int xb, .long xc] : List Value).toArray s = true := fun w h => hts w (z_cons w h)
  have hsub : ∀ b ∈ L, b ∈ L := fun _ h => h
  have hfr : ∀ b ∈ L, b ≠ me → f b = f b := fun _ _ _ => rfl
  refine lv_aload_n hx hb dX10_write_0 rfl (lv_at hl 0 rfl) ?_
  refine lv_iconst (v := 0) hx hb dX10_write_1 (by decide) ?_
  refine z_put (C := RX10) (T := TX10) (N := 54) (ci := 10) (v := .int 0) (fs' := [.int 0, .ref mw, .ref mn, .ref mc, .ref mv, .ref mt, .int 0, .int 0, .int 0, .int 0, .int 0, .long 0, .int 0, .int 0, .int 0, .int (-1), .ref ml, .ref mh, .ref mj, .ref ms, .ref mg, .ref md, .int 0, .ref mk, .int (-1), .int 0, .long 0, .int 0, .int 0, .ref z29, .int 0, .ref z31, .ref z32, .ref z33, .ref z34, .ref z35, .int 0, .ref z37, .int 0, .ref z39, .int 0, .int 0, .int 0, .ref z43, .ref z44, .ref z45, .ref z46, .ref z47, .int 0, .ref z49, .ref z50, .ref z51, .int 0, .int 0]) hx hb hT zin_X10 tyX10_ok nmX10 hown hK hw hm_me hf_me rfl 0 (by decide) (hT _ kw_1168) rfl rfl rfl (Nat.le_of_ble_eq_true rfl) rfl dX10_write_2 (fun H locs hw => ?_)
  obtain ⟨f1, e_f1⟩ : ∃ z, z = va_up f me (.inr (10, [.int 0, .ref mw, .ref mn, .ref mc, .ref mv, .ref mt, .int 0, .int 0, .int 0, .int 0, .int 0, .long 0, .int 0, .int 0, .int 0, .int (-1), .ref ml, .ref mh, .ref mj, .ref ms, .ref mg, .ref md, .int 0, .ref mk, .int (-1), .int 0, .long 0, .int 0, .int 0, .ref z29, .int 0, .ref z31, .ref z32, .ref z33, .ref z34, .ref z35, .int 0, .ref z37, .int 0, .ref z39, .int 0, .int 0, .int 0, .ref z43, .ref z44, .ref z45, .ref z46, .ref z47, .int 0, .ref z49, .ref z50, .ref z51, .int 0, .int 0])) := ⟨_, rfl⟩
  rw [← e_f1] at hw
  have hf_mw : f1 mw = .inl (cy 1, 4, .inl gw) := (congrFun e_f1 mw).trans (z_up_ne (z_tne hf_mw hf_me (m := 132) (n := 10) rfl rfl (by decide)) hf_mw)
  have hf_me : f1 me = .inr (10, [.int 0, .ref mw, .ref mn, .ref mc, .ref mv, .ref mt, .int 0, .int 0, .int 0, .int 0, .int 0, .long 0, .int 0, .int 0, .int 0, .int (-1), .ref ml, .ref mh, .ref mj, .ref ms, .ref mg, .ref md, .int 0, .ref mk, .int (-1), .int 0, .long 0, .int 0, .int 0, .ref z29, .int 0, .ref z31, .ref z32, .ref z33, .ref z34, .ref z35, .int 0, .ref z37, .int 0, .ref z39, .int 0, .int 0, .int 0, .ref z43, .ref z44, .ref z45, .ref z46, .ref z47, .int 0, .ref z49, .ref z50, .ref z51, .int 0, .int 0]) := (congrFun e_f1 me).trans z_up_self
  have hfr : ∀ b ∈ L, b ≠ me → f1 b = f b := fun b hb h0 => (congrFun e_f1 b).trans (z_up_ne h0 (hfr b hb h0))
  refine lv_iload_n hx hb dX10_write_5 rfl (lv_at hl 1 rfl) ?_
  refine z_calliS (cells := 0) (slots := 0) (As := [.int xa]) (rest := []) ⟨hx, hb, hml, hown, hT⟩ (c_X10_isSlot l ) (va_cwS 1 hT (z_goodS (fun _ h => h) kw_1335 kw_1336 kw_96 kw_1337) rfl rfl rfl (by decide +kernel) ⟨by decide, by decide⟩) z_mv hKK hw hA rfl hl.1 rfl (Nat.le_of_ble_eq_true rfl) dX10_write_6 ⟨by decide, by decide⟩ (fun r2 u H locs hp hw => ?_)
  obtain ⟨rfl, hp⟩ := hp
  have hw : z_H D vwCl (z_A L sz) s.heap L f1 H locs := hw
  rcases hp with ⟨rfl, h3⟩ | ⟨rfl, h3⟩
  · skip
    refine z_if_ne (tgt := 15) hx hb (show (1 : Int32).toInt = 1 by decide) dX10_write_9 (by decide) (fun _ => ?_) (fun h => absurd h (by decide))
    refine lv_aload_n hx hb dX10_write_15 rfl (lv_at hl 0 rfl) ?_
    refine z_get (C := RX10) (T := TX10) (N := 54) (ci := 10) (v := .ref mw) hx hb hT zin_X10 hown hK hw hm_me hf_me rfl 1 (by decide) (hT _ kw_1169) rfl dX10_write_16 ?_
    refine lv_iload_n hx hb dX10_write_19 rfl (lv_at hl 1 rfl) ?_
    refine z_iald hx hb hK hw 1 hm_mw hf_mw rfl (z_ix rfl (by omega)) dX10_write_20 ?_
    refine z_lit (y := (-1)) (hgw _ (by first | decide | exact z_cl (by omega))) ?_
    refine lv_iconst (v := (-1)) hx hb dX10_write_21 (by decide) ?_
    refine z_icmp_ne (tgt := 28) hx hb (show ((-1) : Int32).toInt = (-1) by decide) (show ((-1) : Int32).toInt = (-1) by decide) dX10_write_22 (by decide) (fun h => absurd h (by decide)) (fun _ => ?_)
    refine lv_bipush (v := (-6)) hx hb dX10_write_25 (by decide) ?_
    exact z_iret hx hb hr hlk (by decide) (by decide) hw (⟨hsub, hfr, Or.inl ⟨by decide, by omega⟩⟩) dX10_write_27
  · skip
    refine z_if_ne (tgt := 15) hx hb (show (0 : Int32).toInt = 0 by decide) dX10_write_9 (by decide) (fun h => absurd h (by decide)) (fun _ => ?_)
    refine lv_bipush (v := (-2)) hx hb dX10_write_12 (by decide) ?_
    exact z_iret hx hb hr hlk (by decide) (by decide) hw (⟨hsub, hfr, Or.inr ⟨by decide, by omega⟩⟩) dX10_write_14

set_option maxHeartbeats 2000000 in
set_option maxRecDepth 100000 in
theorem c_X10_paste (l : Launch) {D : va_G} {cy : Nat → ClassId} {L : List Nat} {f : Nat → va_E} {sz : Nat} {me mw mn mc mv mt ml mh mj ms mg md mk z29 z31 z32 z33 z34 z35 z37 z39 z43 z44 z45 z46 z47 z49 z50 z51 : Nat} {gw : Nat → Int32} {xa xb xc xd xe : Int32} (hm_me : me ∈ L) (hm_mw : mw ∈ L) (hf_me : f me = .inr (10, [.int 0, .ref mw, .ref mn, .ref mc, .ref mv, .ref mt, .int 0, .int 0, .int 0, .int 0, .int 0, .long 0, .int 0, .int 0, .int 0, .int (-1), .ref ml, .ref mh, .ref mj, .ref ms, .ref mg, .ref md, .int 0, .ref mk, .int (-1), .int 0, .long 0, .int 0, .int 0, .ref z29, .int 0, .ref z31, .ref z32, .ref z33, .ref z34, .ref z35, .int 0, .ref z37, .int 0, .ref z39, .int 0, .int 0, .int 0, .ref z43, .ref z44, .ref z45, .ref z46, .ref z47, .int 0, .ref z49, .ref z50, .ref z51, .int 0, .int 0])) (hf_mw : f mw = .inl (cy 1, 4, .inl gw)) (hgw : ∀ j : Nat, j < 4 → gw j = -1) : Met l yX10_paste (z_ws yX10_paste cX10_paste 7 (some .int)) (z_R 6 0 0) (va_Pc [.ref me, .int xa, .int xb, .int xc, .int xd, .int xe] (z_Pre D vwCl (z_K D cy) L f sz)) (z_Qi D vwCl (fun r u => (∀ b ∈ L, b ∈ u.1) ∧ (∀ b ∈ L, b ≠ me → u.2 b = f b) ∧ (((r.toInt = -6 ∧ (0 ≤ xa.toInt ∧ xa.toInt < 4 ∧ 0 ≤ xc.toInt ∧ xc.toInt < 4)) ∨ (r.toInt = -2 ∧ ¬ (0 ≤ xa.toInt ∧ xa.toInt < 4 ∧ 0 ≤ xc.toInt ∧ xc.toInt < 4))))) L sz) 0 0 (z_A L sz) := by
  refine z_met (cc := cX10_paste) (maxL := 7) (ret := (some .int)) (lv := [(0, .ref me), (1, .int xa), (2, .int xb), (3, .int xc), (4, .int xd), (5, .int xe)]) (by decide) rfl (Nat.le_of_ble_eq_true rfl) rfl ?_
  intro p e s m below meth c ls hx hb hr hlk hml hown hnm hts hKK hA hw hl
  have hK := hKK.1
  have hown : s.vm.findClass RX10 = some m.cls := hown
  have hT : ∀ w ∈ lw_all, w.before ([.ref me, .int xa, .int xb, .int xc, .int xd, .int xe] : List Value).toArray s = true := fun w h => hts w (z_cons w h)
  have hsub : ∀ b ∈ L, b ∈ L := fun _ h => h
  have hfr : ∀ b ∈ L, b ≠ me → f b = f b := fun _ _ _ => rfl
  refine lv_aload_n hx hb dX10_paste_0 rfl (lv_at hl 0 rfl) ?_
  refine lv_iconst (v := 0) hx hb dX10_paste_1 (by decide) ?_
  refine z_put (C := RX10) (T := TX10) (N := 54) (ci := 10) (v := .int 0) (fs' := [.int 0, .ref mw, .ref mn, .ref mc, .ref mv, .ref mt, .int 0, .int 0, .int 0, .int 0, .int 0, .long 0, .int 0, .int 0, .int 0, .int (-1), .ref ml, .ref mh, .ref mj, .ref ms, .ref mg, .ref md, .int 0, .ref mk, .int (-1), .int 0, .long 0, .int 0, .int 0, .ref z29, .int 0, .ref z31, .ref z32, .ref z33, .ref z34, .ref z35, .int 0, .ref z37, .int 0, .ref z39, .int 0, .int 0, .int 0, .ref z43, .ref z44, .ref z45, .ref z46, .ref z47, .int 0, .ref z49, .ref z50, .ref z51, .int 0, .int 0]) hx hb hT zin_X10 tyX10_ok nmX10 hown hK hw hm_me hf_me rfl 0 (by decide) (hT _ kw_1168) rfl rfl rfl (Nat.le_of_ble_eq_true rfl) rfl dX10_paste_2 (fun H locs hw => ?_)
  obtain ⟨f1, e_f1⟩ : ∃ z, z = va_up f me (.inr (10, [.int 0, .ref mw, .ref mn, .ref mc, .ref mv, .ref mt, .int 0, .int 0, .int 0, .int 0, .int 0, .long 0, .int 0, .int 0, .int 0, .int (-1), .ref ml, .ref mh, .ref mj, .ref ms, .ref mg, .ref md, .int 0, .ref mk, .int (-1), .int 0, .long 0, .int 0, .int 0, .ref z29, .int 0, .ref z31, .ref z32, .ref z33, .ref z34, .ref z35, .int 0, .ref z37, .int 0, .ref z39, .int 0, .int 0, .int 0, .ref z43, .ref z44, .ref z45, .ref z46, .ref z47, .int 0, .ref z49, .ref z50, .ref z51, .int 0, .int 0])) := ⟨_, rfl⟩
  rw [← e_f1] at hw
  have hf_mw : f1 mw = .inl (cy 1, 4, .inl gw) := (congrFun e_f1 mw).trans (z_up_ne (z_tne hf_mw hf_me (m := 132) (n := 10) rfl rfl (by decide)) hf_mw)
  have hf_me : f1 me = .inr (10, [.int 0, .ref mw, .ref mn, .ref mc, .ref mv, .ref mt, .int 0, .int 0, .int 0, .int 0, .int 0, .long 0, .int 0, .int 0, .int 0, .int (-1), .ref ml, .ref mh, .ref mj, .ref ms, .ref mg, .ref md, .int 0, .ref mk, .int (-1), .int 0, .long 0, .int 0, .int 0, .ref z29, .int 0, .ref z31, .ref z32, .ref z33, .ref z34, .ref z35, .int 0, .ref z37, .int 0, .ref z39, .int 0, .int 0, .int 0, .ref z43, .ref z44, .ref z45, .ref z46, .ref z47, .int 0, .ref z49, .ref z50, .ref z51, .int 0, .int 0]) := (congrFun e_f1 me).trans z_up_self
  have hfr : ∀ b ∈ L, b ≠ me → f1 b = f b := fun b hb h0 => (congrFun e_f1 b).trans (z_up_ne h0 (hfr b hb h0))
  refine lv_iload_n hx hb dX10_paste_5 rfl (lv_at hl 1 rfl) ?_
  refine z_calliS (cells := 0) (slots := 0) (As := [.int xa]) (rest := []) ⟨hx, hb, hml, hown, hT⟩ (c_X10_isSlot l ) (va_cwS 1 hT (z_goodS (fun _ h => h) kw_1335 kw_1336 kw_96 kw_1337) rfl rfl rfl (by decide +kernel) ⟨by decide, by decide⟩) z_mv hKK hw hA rfl hl.1 rfl (Nat.le_of_ble_eq_true rfl) dX10_paste_6 ⟨by decide, by decide⟩ (fun r2 u H locs hp hw => ?_)
  obtain ⟨rfl, hp⟩ := hp
  have hw : z_H D vwCl (z_A L sz) s.heap L f1 H locs := hw
  rcases hp with ⟨rfl, h3⟩ | ⟨rfl, h3⟩
  · skip
    refine z_if_eq (tgt := 19) hx hb (show (1 : Int32).toInt = 1 by decide) dX10_paste_9 (by decide) (fun h => absurd h (by decide)) (fun _ => ?_)
    refine lv_iload_n hx hb dX10_paste_12 rfl (lv_at hl 3 rfl) ?_
    refine z_calliS (cells := 0) (slots := 0) (As := [.int xc]) (rest := []) ⟨hx, hb, hml, hown, hT⟩ (c_X10_isSlot l ) (va_cwS 1 hT (z_goodS (fun _ h => h) kw_1335 kw_1336 kw_96 kw_1337) rfl rfl rfl (by decide +kernel) ⟨by decide, by decide⟩) z_mv hKK hw hA rfl hl.1 rfl (Nat.le_of_ble_eq_true rfl) dX10_paste_13 ⟨by decide, by decide⟩ (fun r4 u H locs hp hw => ?_)
    obtain ⟨rfl, hp⟩ := hp
    have hw : z_H D vwCl (z_A L sz) s.heap L f1 H locs := hw
    rcases hp with ⟨rfl, h5⟩ | ⟨rfl, h5⟩
    · skip
      refine z_if_ne (tgt := 22) hx hb (show (1 : Int32).toInt = 1 by decide) dX10_paste_16 (by decide) (fun _ => ?_) (fun h => absurd h (by decide))
      refine lv_aload_n hx hb dX10_paste_22 rfl (lv_at hl 0 rfl) ?_
      refine z_get (C := RX10) (T := TX10) (N := 54) (ci := 10) (v := .ref mw) hx hb hT zin_X10 hown hK hw hm_me hf_me rfl 1 (by decide) (hT _ kw_1169) rfl dX10_paste_23 ?_
      refine lv_iload_n hx hb dX10_paste_26 rfl (lv_at hl 1 rfl) ?_
      refine z_iald hx hb hK hw 1 hm_mw hf_mw rfl (z_ix rfl (by omega)) dX10_paste_27 ?_
      refine z_lit (y := (-1)) (hgw _ (by first | decide | exact z_cl (by omega))) ?_
      refine lv_iconst (v := (-1)) hx hb dX10_paste_28 (by decide) ?_
      refine z_icmp_eq (tgt := 42) hx hb (show ((-1) : Int32).toInt = (-1) by decide) (show ((-1) : Int32).toInt = (-1) by decide) dX10_paste_29 (by decide) (fun _ => ?_) (fun h => absurd h (by decide))
      refine lv_bipush (v := (-6)) hx hb dX10_paste_42 (by decide) ?_
      exact z_iret hx hb hr hlk (by decide) (by decide) hw (⟨hsub, hfr, Or.inl ⟨by decide, by omega⟩⟩) dX10_paste_44
    · skip
      refine z_if_ne (tgt := 22) hx hb (show (0 : Int32).toInt = 0 by decide) dX10_paste_16 (by decide) (fun h => absurd h (by decide)) (fun _ => ?_)
      refine lv_bipush (v := (-2)) hx hb dX10_paste_19 (by decide) ?_
      exact z_iret hx hb hr hlk (by decide) (by decide) hw (⟨hsub, hfr, Or.inr ⟨by decide, by omega⟩⟩) dX10_paste_21
  · skip
    refine z_if_eq (tgt := 19) hx hb (show (0 : Int32).toInt = 0 by decide) dX10_paste_9 (by decide) (fun _ => ?_) (fun h => absurd h (by decide))
    refine lv_bipush (v := (-2)) hx hb dX10_paste_19 (by decide) ?_
    exact z_iret hx hb hr hlk (by decide) (by decide) hw (⟨hsub, hfr, Or.inr ⟨by decide, by omega⟩⟩) dX10_paste_21

set_option maxHeartbeats 2000000 in
set_option maxRecDepth 100000 in
theorem c_X10_back (l : Launch) {D : va_G} {cy : Nat → ClassId} {L : List Nat} {f : Nat → va_E} {sz : Nat} {me mw mn mc mv mt ml mh mj ms mg md mk z29 z31 z32 z33 z34 z35 z37 z39 z43 z44 z45 z46 z47 z49 z50 z51 : Nat}  {xa : Int32} (hm_me : me ∈ L) (hm_mk : mk ∈ L) (hf_me : f me = .inr (10, [.int 0, .ref mw, .ref mn, .ref mc, .ref mv, .ref mt, .int 0, .int 0, .int 0, .int 0, .int 0, .long 0, .int 0, .int 0, .int 0, .int (-1), .ref ml, .ref mh, .ref mj, .ref ms, .ref mg, .ref md, .int 0, .ref mk, .int (-1), .int 0, .long 0, .int 0, .int 0, .ref z29, .int 0, .ref z31, .ref z32, .ref z33, .ref z34, .ref z35, .int 0, .ref z37, .int 0, .ref z39, .int 0, .int 0, .int 0, .ref z43, .ref z44, .ref z45, .ref z46, .ref z47, .int 0, .ref z49, .ref z50, .ref z51, .int 0, .int 0])) (hf_mk : f mk = .inl (cy 3, 3, .inl (fun _ => 0))) : Met l yX10_back (z_ws yX10_back cX10_back 2 (some .int)) (z_R 6 0 0) (va_Pc [.ref me, .int xa] (z_Pre D vwCl (z_K D cy) L f sz)) (z_Qi D vwCl (fun r u => (∀ b ∈ L, b ∈ u.1) ∧ (∀ b ∈ L, b ≠ me → u.2 b = f b) ∧ (((r.toInt = -6 ∧ (0 ≤ xa.toInt ∧ xa.toInt < 3)) ∨ (r.toInt = -2 ∧ ¬ (0 ≤ xa.toInt ∧ xa.toInt < 3))))) L sz) 0 0 (z_A L sz) := by
  refine z_met (cc := cX10_back) (maxL := 2) (ret := (some .int)) (lv := [(0, .ref me), (1, .int xa)]) (by decide) rfl (Nat.le_of_ble_eq_true rfl) rfl ?_
  intro p e s m below meth c ls hx hb hr hlk hml hown hnm hts hKK hA hw hl
  have hK := hKK.1
  have hown : s.vm.findClass RX10 = some m.cls := hown
  have hT : ∀ w ∈ lw_all, w.before ([.ref me, .int xa] : List Value).toArray s = true := fun w h => hts w (z_cons w h)
  have hsub : ∀ b ∈ L, b ∈ L := fun _ h => h
  have hfr : ∀ b ∈ L, b ≠ me → f b = f b := fun _ _ _ => rfl
  refine lv_aload_n hx hb dX10_back_0 rfl (lv_at hl 0 rfl) ?_
  refine lv_iconst (v := 0) hx hb dX10_back_1 (by decide) ?_
  refine z_put (C := RX10) (T := TX10) (N := 54) (ci := 10) (v := .int 0) (fs' := [.int 0, .ref mw, .ref mn, .ref mc, .ref mv, .ref mt, .int 0, .int 0, .int 0, .int 0, .int 0, .long 0, .int 0, .int 0, .int 0, .int (-1), .ref ml, .ref mh, .ref mj, .ref ms, .ref mg, .ref md, .int 0, .ref mk, .int (-1), .int 0, .long 0, .int 0, .int 0, .ref z29, .int 0, .ref z31, .ref z32, .ref z33, .ref z34, .ref z35, .int 0, .ref z37, .int 0, .ref z39, .int 0, .int 0, .int 0, .ref z43, .ref z44, .ref z45, .ref z46, .ref z47, .int 0, .ref z49, .ref z50, .ref z51, .int 0, .int 0]) hx hb hT zin_X10 tyX10_ok nmX10 hown hK hw hm_me hf_me rfl 0 (by decide) (hT _ kw_1168) rfl rfl rfl (Nat.le_of_ble_eq_true rfl) rfl dX10_back_2 (fun H locs hw => ?_)
  obtain ⟨f1, e_f1⟩ : ∃ z, z = va_up f me (.inr (10, [.int 0, .ref mw, .ref mn, .ref mc, .ref mv, .ref mt, .int 0, .int 0, .int 0, .int 0, .int 0, .long 0, .int 0, .int 0, .int 0, .int (-1), .ref ml, .ref mh, .ref mj, .ref ms, .ref mg, .ref md, .int 0, .ref mk, .int (-1), .int 0, .long 0, .int 0, .int 0, .ref z29, .int 0, .ref z31, .ref z32, .ref z33, .ref z34, .ref z35, .int 0, .ref z37, .int 0, .ref z39, .int 0, .int 0, .int 0, .ref z43, .ref z44, .ref z45, .ref z46, .ref z47, .int 0, .ref z49, .ref z50, .ref z51, .int 0, .int 0])) := ⟨_, rfl⟩
  rw [← e_f1] at hw
  have hf_mk : f1 mk = .inl (cy 3, 3, .inl (fun _ => 0)) := (congrFun e_f1 mk).trans (z_up_ne (z_tne hf_mk hf_me (m := 124) (n := 10) rfl rfl (by decide)) hf_mk)
  have hf_me : f1 me = .inr (10, [.int 0, .ref mw, .ref mn, .ref mc, .ref mv, .ref mt, .int 0, .int 0, .int 0, .int 0, .int 0, .long 0, .int 0, .int 0, .int 0, .int (-1), .ref ml, .ref mh, .ref mj, .ref ms, .ref mg, .ref md, .int 0, .ref mk, .int (-1), .int 0, .long 0, .int 0, .int 0, .ref z29, .int 0, .ref z31, .ref z32, .ref z33, .ref z34, .ref z35, .int 0, .ref z37, .int 0, .ref z39, .int 0, .int 0, .int 0, .ref z43, .ref z44, .ref z45, .ref z46, .ref z47, .int 0, .ref z49, .ref z50, .ref z51, .int 0, .int 0]) := (congrFun e_f1 me).trans z_up_self
  have hfr : ∀ b ∈ L, b ≠ me → f1 b = f b := fun b hb h0 => (congrFun e_f1 b).trans (z_up_ne h0 (hfr b hb h0))
  refine lv_iload_n hx hb dX10_back_5 rfl (lv_at hl 1 rfl) ?_
  refine lv_i2l hx hb dX10_back_6 rfl ?_
  refine lv_topl (fun w2 e_w2 => ?_)
  have i_w2 : w2.toInt = xa.toInt := z_i2l e_w2 rfl
  refine lv_lconst (v := 0) hx hb dX10_back_7 (by decide) ?_
  refine lv_ldc2 (v := 2) hx hb hown (hT _ kw_1512) dX10_back_8 ?_
  have hz3 := (show (0 : Int64).toInt = 0 by decide)
  have hz4 := (show (2 : Int64).toInt = 2 by decide)
  refine z_calliS (cells := 0) (slots := 0) (As := [.long w2, .long 0, .long 2]) (rest := []) ⟨hx, hb, hml, hown, hT⟩ (c_X10_in l ) (va_cwS 3 hT (z_goodS (fun _ h => h) kw_1339 kw_1340 kw_96 kw_1341) rfl rfl rfl (by decide +kernel) ⟨by decide, by decide⟩) z_mv hKK hw hA rfl hl.1 rfl (Nat.le_of_ble_eq_true rfl) dX10_back_11 ⟨by decide, by decide⟩ (fun r5 u H locs hp hw => ?_)
  obtain ⟨rfl, hp⟩ := hp
  have hw : z_H D vwCl (z_A L sz) s.heap L f1 H locs := hw
  rcases hp with ⟨rfl, h6⟩ | ⟨rfl, h6⟩
  · skip
    refine z_if_ne (tgt := 20) hx hb (show (1 : Int32).toInt = 1 by decide) dX10_back_14 (by decide) (fun _ => ?_) (fun h => absurd h (by decide))
    refine lv_aload_n hx hb dX10_back_20 rfl (lv_at hl 0 rfl) ?_
    refine z_get (C := RX10) (T := TX10) (N := 54) (ci := 10) (v := .ref mk) hx hb hT zin_X10 hown hK hw hm_me hf_me rfl 23 (by decide) (hT _ kw_1191) rfl dX10_back_21 ?_
    refine lv_iload_n hx hb dX10_back_24 rfl (lv_at hl 1 rfl) ?_
    refine z_zald hx hb hK hw 3 hm_mk hf_mk rfl (z_ix rfl (by omega)) dX10_back_25 ?_
    refine z_lit (y := 0) rfl ?_
    refine z_if_ne (tgt := 32) hx hb (show (0 : Int32).toInt = 0 by decide) dX10_back_26 (by decide) (fun h => absurd h (by decide)) (fun _ => ?_)
    refine lv_bipush (v := (-6)) hx hb dX10_back_29 (by decide) ?_
    exact z_iret hx hb hr hlk (by decide) (by decide) hw (⟨hsub, hfr, Or.inl ⟨by decide, by omega⟩⟩) dX10_back_31
  · skip
    refine z_if_ne (tgt := 20) hx hb (show (0 : Int32).toInt = 0 by decide) dX10_back_14 (by decide) (fun h => absurd h (by decide)) (fun _ => ?_)
    refine lv_bipush (v := (-2)) hx hb dX10_back_17 (by decide) ?_
    exact z_iret hx hb hr hlk (by decide) (by decide) hw (⟨hsub, hfr, Or.inr ⟨by decide, by omega⟩⟩) dX10_back_19

set_option maxHeartbeats 2000000 in
set_option maxRecDepth 100000 in
theorem c_X10_end (l : Launch) {D : va_G} {cy : Nat → ClassId} {L : List Nat} {f : Nat → va_E} {sz : Nat} {me mw mn mc mv mt ml mh mj ms mg md mk z29 z31 z32 z33 z34 z35 z37 z39 z43 z44 z45 z46 z47 z49 z50 z51 : Nat}  {xa : Int32} (hm_me : me ∈ L) (hf_me : f me = .inr (10, [.int 0, .ref mw, .ref mn, .ref mc, .ref mv, .ref mt, .int 0, .int 0, .int 0, .int 0, .int 0, .long 0, .int 0, .int 0, .int 0, .int (-1), .ref ml, .ref mh, .ref mj, .ref ms, .ref mg, .ref md, .int 0, .ref mk, .int (-1), .int 0, .long 0, .int 0, .int 0, .ref z29, .int 0, .ref z31, .ref z32, .ref z33, .ref z34, .ref z35, .int 0, .ref z37, .int 0, .ref z39, .int 0, .int 0, .int 0, .ref z43, .ref z44, .ref z45, .ref z46, .ref z47, .int 0, .ref z49, .ref z50, .ref z51, .int 0, .int 0])) : Met l yX10_end (z_ws yX10_end cX10_end 2 (some .int)) (z_R 6 0 0) (va_Pc [.ref me, .int xa] (z_Pre D vwCl (z_K D cy) L f sz)) (z_Qi D vwCl (fun r u => (∀ b ∈ L, b ∈ u.1) ∧ (∀ b ∈ L, b ≠ me → u.2 b = f b) ∧ (((r.toInt = 0 ∧ xa.toInt = 0) ∨ (r.toInt = -1 ∧ xa.toInt ≠ 0)))) L sz) 0 0 (z_A L sz) := by
  refine z_met (cc := cX10_end) (maxL := 2) (ret := (some .int)) (lv := [(0, .ref me), (1, .int xa)]) (by decide) rfl (Nat.le_of_ble_eq_true rfl) rfl ?_
  intro p e s m below meth c ls hx hb hr hlk hml hown hnm hts hKK hA hw hl
  have hK := hKK.1
  have hown : s.vm.findClass RX10 = some m.cls := hown
  have hT : ∀ w ∈ lw_all, w.before ([.ref me, .int xa] : List Value).toArray s = true := fun w h => hts w (z_cons w h)
  have hsub : ∀ b ∈ L, b ∈ L := fun _ h => h
  have hfr : ∀ b ∈ L, b ≠ me → f b = f b := fun _ _ _ => rfl
  refine lv_aload_n hx hb dX10_end_0 rfl (lv_at hl 0 rfl) ?_
  refine lv_iconst (v := 0) hx hb dX10_end_1 (by decide) ?_
  refine z_put (C := RX10) (T := TX10) (N := 54) (ci := 10) (v := .int 0) (fs' := [.int 0, .ref mw, .ref mn, .ref mc, .ref mv, .ref mt, .int 0, .int 0, .int 0, .int 0, .int 0, .long 0, .int 0, .int 0, .int 0, .int (-1), .ref ml, .ref mh, .ref mj, .ref ms, .ref mg, .ref md, .int 0, .ref mk, .int (-1), .int 0, .long 0, .int 0, .int 0, .ref z29, .int 0, .ref z31, .ref z32, .ref z33, .ref z34, .ref z35, .int 0, .ref z37, .int 0, .ref z39, .int 0, .int 0, .int 0, .ref z43, .ref z44, .ref z45, .ref z46, .ref z47, .int 0, .ref z49, .ref z50, .ref z51, .int 0, .int 0]) hx hb hT zin_X10 tyX10_ok nmX10 hown hK hw hm_me hf_me rfl 0 (by decide) (hT _ kw_1168) rfl rfl rfl (Nat.le_of_ble_eq_true rfl) rfl dX10_end_2 (fun H locs hw => ?_)
  obtain ⟨f1, e_f1⟩ : ∃ z, z = va_up f me (.inr (10, [.int 0, .ref mw, .ref mn, .ref mc, .ref mv, .ref mt, .int 0, .int 0, .int 0, .int 0, .int 0, .long 0, .int 0, .int 0, .int 0, .int (-1), .ref ml, .ref mh, .ref mj, .ref ms, .ref mg, .ref md, .int 0, .ref mk, .int (-1), .int 0, .long 0, .int 0, .int 0, .ref z29, .int 0, .ref z31, .ref z32, .ref z33, .ref z34, .ref z35, .int 0, .ref z37, .int 0, .ref z39, .int 0, .int 0, .int 0, .ref z43, .ref z44, .ref z45, .ref z46, .ref z47, .int 0, .ref z49, .ref z50, .ref z51, .int 0, .int 0])) := ⟨_, rfl⟩
  rw [← e_f1] at hw
  have hf_me : f1 me = .inr (10, [.int 0, .ref mw, .ref mn, .ref mc, .ref mv, .ref mt, .int 0, .int 0, .int 0, .int 0, .int 0, .long 0, .int 0, .int 0, .int 0, .int (-1), .ref ml, .ref mh, .ref mj, .ref ms, .ref mg, .ref md, .int 0, .ref mk, .int (-1), .int 0, .long 0, .int 0, .int 0, .ref z29, .int 0, .ref z31, .ref z32, .ref z33, .ref z34, .ref z35, .int 0, .ref z37, .int 0, .ref z39, .int 0, .int 0, .int 0, .ref z43, .ref z44, .ref z45, .ref z46, .ref z47, .int 0, .ref z49, .ref z50, .ref z51, .int 0, .int 0]) := (congrFun e_f1 me).trans z_up_self
  have hfr : ∀ b ∈ L, b ≠ me → f1 b = f b := fun b hb h0 => (congrFun e_f1 b).trans (z_up_ne h0 (hfr b hb h0))
  refine lv_iload_n hx hb dX10_end_5 rfl (lv_at hl 1 rfl) ?_
  refine lv_i2l hx hb dX10_end_6 rfl ?_
  refine lv_topl (fun w2 e_w2 => ?_)
  have i_w2 : w2.toInt = xa.toInt := z_i2l e_w2 rfl
  refine lv_lconst (v := 0) hx hb dX10_end_7 (by decide) ?_
  refine lv_aload_n hx hb dX10_end_8 rfl (lv_at hl 0 rfl) ?_
  refine z_get (C := RX10) (T := TX10) (N := 54) (ci := 10) (v := .int 0) hx hb hT zin_X10 hown hK hw hm_me hf_me rfl 6 (by decide) (hT _ kw_1174) rfl dX10_end_9 ?_
  refine lv_i2l (v := 0) hx hb dX10_end_12 (by decide) ?_
  have hz3 := (show (0 : Int64).toInt = 0 by decide)
  have hz4 := (show (0 : Int64).toInt = 0 by decide)
  refine z_calliS (cells := 0) (slots := 0) (As := [.long w2, .long 0, .long 0]) (rest := []) ⟨hx, hb, hml, hown, hT⟩ (c_X10_in l ) (va_cwS 3 hT (z_goodS (fun _ h => h) kw_1339 kw_1340 kw_96 kw_1341) rfl rfl rfl (by decide +kernel) ⟨by decide, by decide⟩) z_mv hKK hw hA rfl hl.1 rfl (Nat.le_of_ble_eq_true rfl) dX10_end_13 ⟨by decide, by decide⟩ (fun r5 u H locs hp hw => ?_)
  obtain ⟨rfl, hp⟩ := hp
  have hw : z_H D vwCl (z_A L sz) s.heap L f1 H locs := hw
  rcases hp with ⟨rfl, h6⟩ | ⟨rfl, h6⟩
  · skip
    refine z_if_ne (tgt := 21) hx hb (show (1 : Int32).toInt = 1 by decide) dX10_end_16 (by decide) (fun _ => ?_) (fun h => absurd h (by decide))
    refine lv_aload_n hx hb dX10_end_21 rfl (lv_at hl 0 rfl) ?_
    refine lv_iload_n hx hb dX10_end_22 rfl (lv_at hl 1 rfl) ?_
    refine z_put (C := RX10) (T := TX10) (N := 54) (ci := 10) (v := .int xa) (fs' := [.int 0, .ref mw, .ref mn, .ref mc, .ref mv, .ref mt, .int xa, .int 0, .int 0, .int 0, .int 0, .long 0, .int 0, .int 0, .int 0, .int (-1), .ref ml, .ref mh, .ref mj, .ref ms, .ref mg, .ref md, .int 0, .ref mk, .int (-1), .int 0, .long 0, .int 0, .int 0, .ref z29, .int 0, .ref z31, .ref z32, .ref z33, .ref z34, .ref z35, .int 0, .ref z37, .int 0, .ref z39, .int 0, .int 0, .int 0, .ref z43, .ref z44, .ref z45, .ref z46, .ref z47, .int 0, .ref z49, .ref z50, .ref z51, .int 0, .int 0]) hx hb hT zin_X10 tyX10_ok nmX10 hown hK hw hm_me hf_me rfl 6 (by decide) (hT _ kw_1174) rfl rfl rfl (Nat.le_of_ble_eq_true rfl) rfl dX10_end_23 (fun H locs hw => ?_)
    obtain ⟨f7, e_f7⟩ : ∃ z, z = va_up f1 me (.inr (10, [.int 0, .ref mw, .ref mn, .ref mc, .ref mv, .ref mt, .int xa, .int 0, .int 0, .int 0, .int 0, .long 0, .int 0, .int 0, .int 0, .int (-1), .ref ml, .ref mh, .ref mj, .ref ms, .ref mg, .ref md, .int 0, .ref mk, .int (-1), .int 0, .long 0, .int 0, .int 0, .ref z29, .int 0, .ref z31, .ref z32, .ref z33, .ref z34, .ref z35, .int 0, .ref z37, .int 0, .ref z39, .int 0, .int 0, .int 0, .ref z43, .ref z44, .ref z45, .ref z46, .ref z47, .int 0, .ref z49, .ref z50, .ref z51, .int 0, .int 0])) := ⟨_, rfl⟩
    rw [← e_f7] at hw
    have hf_me : f7 me = .inr (10, [.int 0, .ref mw, .ref mn, .ref mc, .ref mv, .ref mt, .int xa, .int 0, .int 0, .int 0, .int 0, .long 0, .int 0, .int 0, .int 0, .int (-1), .ref ml, .ref mh, .ref mj, .ref ms, .ref mg, .ref md, .int 0, .ref mk, .int (-1), .int 0, .long 0, .int 0, .int 0, .ref z29, .int 0, .ref z31, .ref z32, .ref z33, .ref z34, .ref z35, .int 0, .ref z37, .int 0, .ref z39, .int 0, .int 0, .int 0, .ref z43, .ref z44, .ref z45, .ref z46, .ref z47, .int 0, .ref z49, .ref z50, .ref z51, .int 0, .int 0]) := (congrFun e_f7 me).trans z_up_self
    have hfr : ∀ b ∈ L, b ≠ me → f7 b = f b := fun b hb h0 => (congrFun e_f7 b).trans (z_up_ne h0 (hfr b hb h0))
    refine lv_iload_n hx hb dX10_end_26 rfl (lv_at hl 1 rfl) ?_
    exact z_iret hx hb hr hlk (by decide) (by decide) hw (⟨hsub, hfr, Or.inl ⟨by omega, by omega⟩⟩) dX10_end_27
  · skip
    refine z_if_ne (tgt := 21) hx hb (show (0 : Int32).toInt = 0 by decide) dX10_end_16 (by decide) (fun h => absurd h (by decide)) (fun _ => ?_)
    refine lv_iconst (v := (-1)) hx hb dX10_end_19 (by decide) ?_
    exact z_iret hx hb hr hlk (by decide) (by decide) hw (⟨hsub, hfr, Or.inr ⟨by decide, by omega⟩⟩) dX10_end_20

set_option maxHeartbeats 2000000 in
set_option maxRecDepth 100000 in
theorem c_X10_four (l : Launch) {D : va_G} {cy : Nat → ClassId} {L : List Nat} {f : Nat → va_E} {sz : Nat} {me mw mn mc mv mt ml mh mj ms mg md mk z29 z31 z32 z33 z34 z35 z37 z39 z43 z44 z45 z46 z47 z49 z50 z51 : Nat} {gt : Nat → Int32} {tv fw : Int32} (hm_me : me ∈ L) (hm_mt : mt ∈ L) (hf_me : f me = .inr (10, [.int 0, .ref mw, .ref mn, .ref mc, .ref mv, .ref mt, .int tv, .int 0, .int 0, .int 0, .int 0, .long 0, .int 0, .int 0, .int 0, .int (-1), .ref ml, .ref mh, .ref mj, .ref ms, .ref mg, .ref md, .int 0, .ref mk, .int (-1), .int 0, .long 0, .int 0, .int 0, .ref z29, .int 0, .ref z31, .ref z32, .ref z33, .ref z34, .ref z35, .int 0, .ref z37, .int 0, .ref z39, .int 0, .int 0, .int 0, .ref z43, .ref z44, .ref z45, .ref z46, .ref z47, .int 0, .ref z49, .ref z50, .ref z51, .int 0, .int 0])) (hf_mt : f mt = .inl (cy 0, 1600, .inl gt)) (hlen : 0 ≤ tv.toInt ∧ tv.toInt ≤ 1596) : Met l yX10_four (z_ws yX10_four cX10_four 3 none) (z_R 1 0 0) (va_Pc [.ref me, .int fw] (z_Pre D vwCl (z_K D cy) L f sz)) (z_Qv D vwCl (fun u => (∀ b ∈ L, b ∈ u.1) ∧ (∀ b ∈ L, b ≠ me → b ≠ mt → u.2 b = f b) ∧ (∃ (g2 : Nat → Int32) (tv2 : Int32), (u.2 me = .inr (10, [.int 0, .ref mw, .ref mn, .ref mc, .ref mv, .ref mt, .int tv2, .int 0, .int 0, .int 0, .int 0, .long 0, .int 0, .int 0, .int 0, .int (-1), .ref ml, .ref mh, .ref mj, .ref ms, .ref mg, .ref md, .int 0, .ref mk, .int (-1), .int 0, .long 0, .int 0, .int 0, .ref z29, .int 0, .ref z31, .ref z32, .ref z33, .ref z34, .ref z35, .int 0, .ref z37, .int 0, .ref z39, .int 0, .int 0, .int 0, .ref z43, .ref z44, .ref z45, .ref z46, .ref z47, .int 0, .ref z49, .ref z50, .ref z51, .int 0, .int 0])) ∧ (u.2 mt = .inl (cy 0, 1600, .inl g2)) ∧ (tv2.toInt = tv.toInt + 4))) L sz) 0 0 (z_A L sz) := by
  refine z_met (cc := cX10_four) (maxL := 3) (ret := none) (lv := [(0, .ref me), (1, .int fw)]) (by decide) rfl (Nat.le_of_ble_eq_true rfl) rfl ?_
  intro p e s m below meth c ls hx hb hr hlk hml hown hnm hts hKK hA hw hl
  have hK := hKK.1
  have hown : s.vm.findClass RX10 = some m.cls := hown
  have hT : ∀ w ∈ lw_all, w.before ([.ref me, .int fw] : List Value).toArray s = true := fun w h => hts w (z_cons w h)
  have hsub : ∀ b ∈ L, b ∈ L := fun _ h => h
  have hfr : ∀ b ∈ L, b ≠ me → b ≠ mt → f b = f b := fun _ _ _ _ => rfl
  refine lv_bipush (v := 24) hx hb dX10_four_0 (by decide) ?_
  refine lv_istore_n (lv' := [(2, .int 24), (0, .ref me), (1, .int fw)]) hx hb dX10_four_2 rfl hl (by decide) rfl (fun ls hl => ?_)
  refine lv_iload_n hx hb dX10_four_3 rfl (lv_at hl 0 rfl) ?_
  refine z_if_lt (tgt := 36) hx hb (show (24 : Int32).toInt = 24 by decide) dX10_four_4 (by decide) (fun h => absurd h (by decide)) (fun _ => ?_)
  refine lv_aload_n hx hb dX10_four_7 rfl (lv_at hl 1 rfl) ?_
  refine z_get (C := RX10) (T := TX10) (N := 54) (ci := 10) (v := .ref mt) hx hb hT zin_X10 hown hK hw hm_me hf_me rfl 5 (by decide) (hT _ kw_1173) rfl dX10_four_8 ?_
  refine lv_aload_n hx hb dX10_four_11 rfl (lv_at hl 1 rfl) ?_
  refine z_get (C := RX10) (T := TX10) (N := 54) (ci := 10) (v := .int tv) hx hb hT zin_X10 hown hK hw hm_me hf_me rfl 6 (by decide) (hT _ kw_1174) rfl dX10_four_12 ?_
  refine lv_iload_n hx hb dX10_four_15 rfl (lv_at hl 2 rfl) ?_
  refine lv_iload_n hx hb dX10_four_16 rfl (lv_at hl 0 rfl) ?_
  refine lv_ishr hx hb dX10_four_17 ?_
  refine lv_topi (fun w1 e_w1 => ?_)
  refine lv_i2b hx hb dX10_four_18 rfl ?_
  refine lv_topi (fun w2 e_w2 => ?_)
  refine z_bast hx hb hK hw 0 hm_mt hf_mt rfl (z_ix rfl (by omega)) dX10_four_19 (fun H locs hw => ?_)
  obtain ⟨f4, e_f4⟩ : ∃ z, z = va_up f mt (.inl (cy 0, 1600, .inl (upd gt tv.toNatClampNeg (vp_nar .byte w2)))) := ⟨_, rfl⟩
  rw [← e_f4] at hw
  have hf_me : f4 me = .inr (10, [.int 0, .ref mw, .ref mn, .ref mc, .ref mv, .ref mt, .int tv, .int 0, .int 0, .int 0, .int 0, .long 0, .int 0, .int 0, .int 0, .int (-1), .ref ml, .ref mh, .ref mj, .ref ms, .ref mg, .ref md, .int 0, .ref mk, .int (-1), .int 0, .long 0, .int 0, .int 0, .ref z29, .int 0, .ref z31, .ref z32, .ref z33, .ref z34, .ref z35, .int 0, .ref z37, .int 0, .ref z39, .int 0, .int 0, .int 0, .ref z43, .ref z44, .ref z45, .ref z46, .ref z47, .int 0, .ref z49, .ref z50, .ref z51, .int 0, .int 0]) := (congrFun e_f4 me).trans (z_up_ne (z_tne hf_me hf_mt (m := 10) (n := 12900) rfl rfl (by decide)) hf_me)
  have hf_mt : f4 mt = .inl (cy 0, 1600, .inl (upd gt tv.toNatClampNeg (vp_nar .byte w2))) := (congrFun e_f4 mt).trans z_up_self
  have hfr : ∀ b ∈ L, b ≠ me → b ≠ mt → f4 b = f b := fun b hb h0 h1 => (congrFun e_f4 b).trans (z_up_ne h1 (hfr b hb h0 h1))
  obtain ⟨g3, e_g3⟩ : ∃ z, z = (upd gt tv.toNatClampNeg (vp_nar .byte w2)) := ⟨_, rfl⟩
  rw [← e_g3] at hf_mt
  refine lv_aload_n hx hb dX10_four_20 rfl (lv_at hl 1 rfl) ?_
  refine lv_dup hx hb dX10_four_21 rfl ?_
  refine z_get (C := RX10) (T := TX10) (N := 54) (ci := 10) (v := .int tv) hx hb hT zin_X10 hown hK hw hm_me hf_me rfl 6 (by decide) (hT _ kw_1174) rfl dX10_four_22 ?_
  refine lv_iconst (v := 1) hx hb dX10_four_25 (by decide) ?_
  refine lv_iadd hx hb dX10_four_26 ?_
  refine lv_topi (fun w5 e_w5 => ?_)
  have i_w5 : w5.toInt = (tv.toInt + 1) := z_add e_w5 rfl (show (1 : Int32).toInt = 1 by decide) (by omega)
  refine z_put (C := RX10) (T := TX10) (N := 54) (ci := 10) (v := .int w5) (fs' := [.int 0, .ref mw, .ref mn, .ref mc, .ref mv, .ref mt, .int w5, .int 0, .int 0, .int 0, .int 0, .long 0, .int 0, .int 0, .int 0, .int (-1), .ref ml, .ref mh, .ref mj, .ref ms, .ref mg, .ref md, .int 0, .ref mk, .int (-1), .int 0, .long 0, .int 0, .int 0, .ref z29, .int 0, .ref z31, .ref z32, .ref z33, .ref z34, .ref z35, .int 0, .ref z37, .int 0, .ref z39, .int 0, .int 0, .int 0, .ref z43, .ref z44, .ref z45, .ref z46, .ref z47, .int 0, .ref z49, .ref z50, .ref z51, .int 0, .int 0]) hx hb hT zin_X10 tyX10_ok nmX10 hown hK hw hm_me hf_me rfl 6 (by decide) (hT _ kw_1174) rfl rfl rfl (Nat.le_of_ble_eq_true rfl) rfl dX10_four_27 (fun H locs hw => ?_)
  obtain ⟨f6, e_f6⟩ : ∃ z, z = va_up f4 me (.inr (10, [.int 0, .ref mw, .ref mn, .ref mc, .ref mv, .ref mt, .int w5, .int 0, .int 0, .int 0, .int 0, .long 0, .int 0, .int 0, .int 0, .int (-1), .ref ml, .ref mh, .ref mj, .ref ms, .ref mg, .ref md, .int 0, .ref mk, .int (-1), .int 0, .long 0, .int 0, .int 0, .ref z29, .int 0, .ref z31, .ref z32, .ref z33, .ref z34, .ref z35, .int 0, .ref z37, .int 0, .ref z39, .int 0, .int 0, .int 0, .ref z43, .ref z44, .ref z45, .ref z46, .ref z47, .int 0, .ref z49, .ref z50, .ref z51, .int 0, .int 0])) := ⟨_, rfl⟩
  rw [← e_f6] at hw
  have hf_mt : f6 mt = .inl (cy 0, 1600, .inl g3) := (congrFun e_f6 mt).trans (z_up_ne (z_tne hf_mt hf_me (m := 12900) (n := 10) rfl rfl (by decide)) hf_mt)
  have hf_me : f6 me = .inr (10, [.int 0, .ref mw, .ref mn, .ref mc, .ref mv, .ref mt, .int w5, .int 0, .int 0, .int 0, .int 0, .long 0, .int 0, .int 0, .int 0, .int (-1), .ref ml, .ref mh, .ref mj, .ref ms, .ref mg, .ref md, .int 0, .ref mk, .int (-1), .int 0, .long 0, .int 0, .int 0, .ref z29, .int 0, .ref z31, .ref z32, .ref z33, .ref z34, .ref z35, .int 0, .ref z37, .int 0, .ref z39, .int 0, .int 0, .int 0, .ref z43, .ref z44, .ref z45, .ref z46, .ref z47, .int 0, .ref z49, .ref z50, .ref z51, .int 0, .int 0]) := (congrFun e_f6 me).trans z_up_self
  have hfr : ∀ b ∈ L, b ≠ me → b ≠ mt → f6 b = f b := fun b hb h0 h1 => (congrFun e_f6 b).trans (z_up_ne h0 (hfr b hb h0 h1))
  refine lv_iinc (v := 16) (lv' := [(2, .int 16), (0, .ref me), (1, .int fw)]) hx hb dX10_four_30 hl (k := 0) rfl (by decide) (by decide) rfl (fun ls hl => ?_)
  refine lv_goto (tgt := 3) hx hb dX10_four_33 (by decide) ?_
  refine lv_iload_n hx hb dX10_four_3 rfl (lv_at hl 0 rfl) ?_
  refine z_if_lt (tgt := 36) hx hb (show (16 : Int32).toInt = 16 by decide) dX10_four_4 (by decide) (fun h => absurd h (by decide)) (fun _ => ?_)
  refine lv_aload_n hx hb dX10_four_7 rfl (lv_at hl 1 rfl) ?_
  refine z_get (C := RX10) (T := TX10) (N := 54) (ci := 10) (v := .ref mt) hx hb hT zin_X10 hown hK hw hm_me hf_me rfl 5 (by decide) (hT _ kw_1173) rfl dX10_four_8 ?_
  refine lv_aload_n hx hb dX10_four_11 rfl (lv_at hl 1 rfl) ?_
  refine z_get (C := RX10) (T := TX10) (N := 54) (ci := 10) (v := .int w5) hx hb hT zin_X10 hown hK hw hm_me hf_me rfl 6 (by decide) (hT _ kw_1174) rfl dX10_four_12 ?_
  refine lv_iload_n hx hb dX10_four_15 rfl (lv_at hl 2 rfl) ?_
  refine lv_iload_n hx hb dX10_four_16 rfl (lv_at hl 0 rfl) ?_
  refine lv_ishr hx hb dX10_four_17 ?_
  refine lv_topi (fun w7 e_w7 => ?_)
  refine lv_i2b hx hb dX10_four_18 rfl ?_
  refine lv_topi (fun w8 e_w8 => ?_)
  refine z_bast hx hb hK hw 0 hm_mt hf_mt rfl (z_ix i_w5 (by omega)) dX10_four_19 (fun H locs hw => ?_)
  obtain ⟨f10, e_f10⟩ : ∃ z, z = va_up f6 mt (.inl (cy 0, 1600, .inl (upd g3 w5.toNatClampNeg (vp_nar .byte w8)))) := ⟨_, rfl⟩
  rw [← e_f10] at hw
  have hf_me : f10 me = .inr (10, [.int 0, .ref mw, .ref mn, .ref mc, .ref mv, .ref mt, .int w5, .int 0, .int 0, .int 0, .int 0, .long 0, .int 0, .int 0, .int 0, .int (-1), .ref ml, .ref mh, .ref mj, .ref ms, .ref mg, .ref md, .int 0, .ref mk, .int (-1), .int 0, .long 0, .int 0, .int 0, .ref z29, .int 0, .ref z31, .ref z32, .ref z33, .ref z34, .ref z35, .int 0, .ref z37, .int 0, .ref z39, .int 0, .int 0, .int 0, .ref z43, .ref z44, .ref z45, .ref z46, .ref z47, .int 0, .ref z49, .ref z50, .ref z51, .int 0, .int 0]) := (congrFun e_f10 me).trans (z_up_ne (z_tne hf_me hf_mt (m := 10) (n := 12900) rfl rfl (by decide)) hf_me)
  have hf_mt : f10 mt = .inl (cy 0, 1600, .inl (upd g3 w5.toNatClampNeg (vp_nar .byte w8))) := (congrFun e_f10 mt).trans z_up_self
  have hfr : ∀ b ∈ L, b ≠ me → b ≠ mt → f10 b = f b := fun b hb h0 h1 => (congrFun e_f10 b).trans (z_up_ne h1 (hfr b hb h0 h1))
  obtain ⟨g9, e_g9⟩ : ∃ z, z = (upd g3 w5.toNatClampNeg (vp_nar .byte w8)) := ⟨_, rfl⟩
  rw [← e_g9] at hf_mt
  refine lv_aload_n hx hb dX10_four_20 rfl (lv_at hl 1 rfl) ?_
  refine lv_dup hx hb dX10_four_21 rfl ?_
  refine z_get (C := RX10) (T := TX10) (N := 54) (ci := 10) (v := .int w5) hx hb hT zin_X10 hown hK hw hm_me hf_me rfl 6 (by decide) (hT _ kw_1174) rfl dX10_four_22 ?_
  refine lv_iconst (v := 1) hx hb dX10_four_25 (by decide) ?_
  refine lv_iadd hx hb dX10_four_26 ?_
  refine lv_topi (fun w11 e_w11 => ?_)
  have i_w11 : w11.toInt = ((tv.toInt + 1) + 1) := z_add e_w11 i_w5 (show (1 : Int32).toInt = 1 by decide) (by omega)
  refine z_put (C := RX10) (T := TX10) (N := 54) (ci := 10) (v := .int w11) (fs' := [.int 0, .ref mw, .ref mn, .ref mc, .ref mv, .ref mt, .int w11, .int 0, .int 0, .int 0, .int 0, .long 0, .int 0, .int 0, .int 0, .int (-1), .ref ml, .ref mh, .ref mj, .ref ms, .ref mg, .ref md, .int 0, .ref mk, .int (-1), .int 0, .long 0, .int 0, .int 0, .ref z29, .int 0, .ref z31, .ref z32, .ref z33, .ref z34, .ref z35, .int 0, .ref z37, .int 0, .ref z39, .int 0, .int 0, .int 0, .ref z43, .ref z44, .ref z45, .ref z46, .ref z47, .int 0, .ref z49, .ref z50, .ref z51, .int 0, .int 0]) hx hb hT zin_X10 tyX10_ok nmX10 hown hK hw hm_me hf_me rfl 6 (by decide) (hT _ kw_1174) rfl rfl rfl (Nat.le_of_ble_eq_true rfl) rfl dX10_four_27 (fun H locs hw => ?_)
  obtain ⟨f12, e_f12⟩ : ∃ z, z = va_up f10 me (.inr (10, [.int 0, .ref mw, .ref mn, .ref mc, .ref mv, .ref mt, .int w11, .int 0, .int 0, .int 0, .int 0, .long 0, .int 0, .int 0, .int 0, .int (-1), .ref ml, .ref mh, .ref mj, .ref ms, .ref mg, .ref md, .int 0, .ref mk, .int (-1), .int 0, .long 0, .int 0, .int 0, .ref z29, .int 0, .ref z31, .ref z32, .ref z33, .ref z34, .ref z35, .int 0, .ref z37, .int 0, .ref z39, .int 0, .int 0, .int 0, .ref z43, .ref z44, .ref z45, .ref z46, .ref z47, .int 0, .ref z49, .ref z50, .ref z51, .int 0, .int 0])) := ⟨_, rfl⟩
  rw [← e_f12] at hw
  have hf_mt : f12 mt = .inl (cy 0, 1600, .inl g9) := (congrFun e_f12 mt).trans (z_up_ne (z_tne hf_mt hf_me (m := 12900) (n := 10) rfl rfl (by decide)) hf_mt)
  have hf_me : f12 me = .inr (10, [.int 0, .ref mw, .ref mn, .ref mc, .ref mv, .ref mt, .int w11, .int 0, .int 0, .int 0, .int 0, .long 0, .int 0, .int 0, .int 0, .int (-1), .ref ml, .ref mh, .ref mj, .ref ms, .ref mg, .ref md, .int 0, .ref mk, .int (-1), .int 0, .long 0, .int 0, .int 0, .ref z29, .int 0, .ref z31, .ref z32, .ref z33, .ref z34, .ref z35, .int 0, .ref z37, .int 0, .ref z39, .int 0, .int 0, .int 0, .ref z43, .ref z44, .ref z45, .ref z46, .ref z47, .int 0, .ref z49, .ref z50, .ref z51, .int 0, .int 0]) := (congrFun e_f12 me).trans z_up_self
  have hfr : ∀ b ∈ L, b ≠ me → b ≠ mt → f12 b = f b := fun b hb h0 h1 => (congrFun e_f12 b).trans (z_up_ne h0 (hfr b hb h0 h1))
  refine lv_iinc (v := 8) (lv' := [(2, .int 8), (0, .ref me), (1, .int fw)]) hx hb dX10_four_30 hl (k := 0) rfl (by decide) (by decide) rfl (fun ls hl => ?_)
  refine lv_goto (tgt := 3) hx hb dX10_four_33 (by decide) ?_
  refine lv_iload_n hx hb dX10_four_3 rfl (lv_at hl 0 rfl) ?_
  refine z_if_lt (tgt := 36) hx hb (show (8 : Int32).toInt = 8 by decide) dX10_four_4 (by decide) (fun h => absurd h (by decide)) (fun _ => ?_)
  refine lv_aload_n hx hb dX10_four_7 rfl (lv_at hl 1 rfl) ?_
  refine z_get (C := RX10) (T := TX10) (N := 54) (ci := 10) (v := .ref mt) hx hb hT zin_X10 hown hK hw hm_me hf_me rfl 5 (by decide) (hT _ kw_1173) rfl dX10_four_8 ?_
  refine lv_aload_n hx hb dX10_four_11 rfl (lv_at hl 1 rfl) ?_
  refine z_get (C := RX10) (T := TX10) (N := 54) (ci := 10) (v := .int w11) hx hb hT zin_X10 hown hK hw hm_me hf_me rfl 6 (by decide) (hT _ kw_1174) rfl dX10_four_12 ?_
  refine lv_iload_n hx hb dX10_four_15 rfl (lv_at hl 2 rfl) ?_
  refine lv_iload_n hx hb dX10_four_16 rfl (lv_at hl 0 rfl) ?_
  refine lv_ishr hx hb dX10_four_17 ?_
  refine lv_topi (fun w13 e_w13 => ?_)
  refine lv_i2b hx hb dX10_four_18 rfl ?_
  refine lv_topi (fun w14 e_w14 => ?_)
  refine z_bast hx hb hK hw 0 hm_mt hf_mt rfl (z_ix i_w11 (by omega)) dX10_four_19 (fun H locs hw => ?_)
  obtain ⟨f16, e_f16⟩ : ∃ z, z = va_up f12 mt (.inl (cy 0, 1600, .inl (upd g9 w11.toNatClampNeg (vp_nar .byte w14)))) := ⟨_, rfl⟩
  rw [← e_f16] at hw
  have hf_me : f16 me = .inr (10, [.int 0, .ref mw, .ref mn, .ref mc, .ref mv, .ref mt, .int w11, .int 0, .int 0, .int 0, .int 0, .long 0, .int 0, .int 0, .int 0, .int (-1), .ref ml, .ref mh, .ref mj, .ref ms, .ref mg, .ref md, .int 0, .ref mk, .int (-1), .int 0, .long 0, .int 0, .int 0, .ref z29, .int 0, .ref z31, .ref z32, .ref z33, .ref z34, .ref z35, .int 0, .ref z37, .int 0, .ref z39, .int 0, .int 0, .int 0, .ref z43, .ref z44, .ref z45, .ref z46, .ref z47, .int 0, .ref z49, .ref z50, .ref z51, .int 0, .int 0]) := (congrFun e_f16 me).trans (z_up_ne (z_tne hf_me hf_mt (m := 10) (n := 12900) rfl rfl (by decide)) hf_me)
  have hf_mt : f16 mt = .inl (cy 0, 1600, .inl (upd g9 w11.toNatClampNeg (vp_nar .byte w14))) := (congrFun e_f16 mt).trans z_up_self
  have hfr : ∀ b ∈ L, b ≠ me → b ≠ mt → f16 b = f b := fun b hb h0 h1 => (congrFun e_f16 b).trans (z_up_ne h1 (hfr b hb h0 h1))
  obtain ⟨g15, e_g15⟩ : ∃ z, z = (upd g9 w11.toNatClampNeg (vp_nar .byte w14)) := ⟨_, rfl⟩
  rw [← e_g15] at hf_mt
  refine lv_aload_n hx hb dX10_four_20 rfl (lv_at hl 1 rfl) ?_
  refine lv_dup hx hb dX10_four_21 rfl ?_
  refine z_get (C := RX10) (T := TX10) (N := 54) (ci := 10) (v := .int w11) hx hb hT zin_X10 hown hK hw hm_me hf_me rfl 6 (by decide) (hT _ kw_1174) rfl dX10_four_22 ?_
  refine lv_iconst (v := 1) hx hb dX10_four_25 (by decide) ?_
  refine lv_iadd hx hb dX10_four_26 ?_
  refine lv_topi (fun w17 e_w17 => ?_)
  have i_w17 : w17.toInt = (((tv.toInt + 1) + 1) + 1) := z_add e_w17 i_w11 (show (1 : Int32).toInt = 1 by decide) (by omega)
  refine z_put (C := RX10) (T := TX10) (N := 54) (ci := 10) (v := .int w17) (fs' := [.int 0, .ref mw, .ref mn, .ref mc, .ref mv, .ref mt, .int w17, .int 0, .int 0, .int 0, .int 0, .long 0, .int 0, .int 0, .int 0, .int (-1), .ref ml, .ref mh, .ref mj, .ref ms, .ref mg, .ref md, .int 0, .ref mk, .int (-1), .int 0, .long 0, .int 0, .int 0, .ref z29, .int 0, .ref z31, .ref z32, .ref z33, .ref z34, .ref z35, .int 0, .ref z37, .int 0, .ref z39, .int 0, .int 0, .int 0, .ref z43, .ref z44, .ref z45, .ref z46, .ref z47, .int 0, .ref z49, .ref z50, .ref z51, .int 0, .int 0]) hx hb hT zin_X10 tyX10_ok nmX10 hown hK hw hm_me hf_me rfl 6 (by decide) (hT _ kw_1174) rfl rfl rfl (Nat.le_of_ble_eq_true rfl) rfl dX10_four_27 (fun H locs hw => ?_)
  obtain ⟨f18, e_f18⟩ : ∃ z, z = va_up f16 me (.inr (10, [.int 0, .ref mw, .ref mn, .ref mc, .ref mv, .ref mt, .int w17, .int 0, .int 0, .int 0, .int 0, .long 0, .int 0, .int 0, .int 0, .int (-1), .ref ml, .ref mh, .ref mj, .ref ms, .ref mg, .ref md, .int 0, .ref mk, .int (-1), .int 0, .long 0, .int 0, .int 0, .ref z29, .int 0, .ref z31, .ref z32, .ref z33, .ref z34, .ref z35, .int 0, .ref z37, .int 0, .ref z39, .int 0, .int 0, .int 0, .ref z43, .ref z44, .ref z45, .ref z46, .ref z47, .int 0, .ref z49, .ref z50, .ref z51, .int 0, .int 0])) := ⟨_, rfl⟩
  rw [← e_f18] at hw
  have hf_mt : f18 mt = .inl (cy 0, 1600, .inl g15) := (congrFun e_f18 mt).trans (z_up_ne (z_tne hf_mt hf_me (m := 12900) (n := 10) rfl rfl (by decide)) hf_mt)
  have hf_me : f18 me = .inr (10, [.int 0, .ref mw, .ref mn, .ref mc, .ref mv, .ref mt, .int w17, .int 0, .int 0, .int 0, .int 0, .long 0, .int 0, .int 0, .int 0, .int (-1), .ref ml, .ref mh, .ref mj, .ref ms, .ref mg, .ref md, .int 0, .ref mk, .int (-1), .int 0, .long 0, .int 0, .int 0, .ref z29, .int 0, .ref z31, .ref z32, .ref z33, .ref z34, .ref z35, .int 0, .ref z37, .int 0, .ref z39, .int 0, .int 0, .int 0, .ref z43, .ref z44, .ref z45, .ref z46, .ref z47, .int 0, .ref z49, .ref z50, .ref z51, .int 0, .int 0]) := (congrFun e_f18 me).trans z_up_self
  have hfr : ∀ b ∈ L, b ≠ me → b ≠ mt → f18 b = f b := fun b hb h0 h1 => (congrFun e_f18 b).trans (z_up_ne h0 (hfr b hb h0 h1))
  refine lv_iinc (v := 0) (lv' := [(2, .int 0), (0, .ref me), (1, .int fw)]) hx hb dX10_four_30 hl (k := 0) rfl (by decide) (by decide) rfl (fun ls hl => ?_)
  refine lv_goto (tgt := 3) hx hb dX10_four_33 (by decide) ?_
  refine lv_iload_n hx hb dX10_four_3 rfl (lv_at hl 0 rfl) ?_
  refine z_if_lt (tgt := 36) hx hb (show (0 : Int32).toInt = 0 by decide) dX10_four_4 (by decide) (fun h => absurd h (by decide)) (fun _ => ?_)
  refine lv_aload_n hx hb dX10_four_7 rfl (lv_at hl 1 rfl) ?_
  refine z_get (C := RX10) (T := TX10) (N := 54) (ci := 10) (v := .ref mt) hx hb hT zin_X10 hown hK hw hm_me hf_me rfl 5 (by decide) (hT _ kw_1173) rfl dX10_four_8 ?_
  refine lv_aload_n hx hb dX10_four_11 rfl (lv_at hl 1 rfl) ?_
  refine z_get (C := RX10) (T := TX10) (N := 54) (ci := 10) (v := .int w17) hx hb hT zin_X10 hown hK hw hm_me hf_me rfl 6 (by decide) (hT _ kw_1174) rfl dX10_four_12 ?_
  refine lv_iload_n hx hb dX10_four_15 rfl (lv_at hl 2 rfl) ?_
  refine lv_iload_n hx hb dX10_four_16 rfl (lv_at hl 0 rfl) ?_
  refine lv_ishr hx hb dX10_four_17 ?_
  refine lv_topi (fun w19 e_w19 => ?_)
  refine lv_i2b hx hb dX10_four_18 rfl ?_
  refine lv_topi (fun w20 e_w20 => ?_)
  refine z_bast hx hb hK hw 0 hm_mt hf_mt rfl (z_ix i_w17 (by omega)) dX10_four_19 (fun H locs hw => ?_)
  obtain ⟨f22, e_f22⟩ : ∃ z, z = va_up f18 mt (.inl (cy 0, 1600, .inl (upd g15 w17.toNatClampNeg (vp_nar .byte w20)))) := ⟨_, rfl⟩
  rw [← e_f22] at hw
  have hf_me : f22 me = .inr (10, [.int 0, .ref mw, .ref mn, .ref mc, .ref mv, .ref mt, .int w17, .int 0, .int 0, .int 0, .int 0, .long 0, .int 0, .int 0, .int 0, .int (-1), .ref ml, .ref mh, .ref mj, .ref ms, .ref mg, .ref md, .int 0, .ref mk, .int (-1), .int 0, .long 0, .int 0, .int 0, .ref z29, .int 0, .ref z31, .ref z32, .ref z33, .ref z34, .ref z35, .int 0, .ref z37, .int 0, .ref z39, .int 0, .int 0, .int 0, .ref z43, .ref z44, .ref z45, .ref z46, .ref z47, .int 0, .ref z49, .ref z50, .ref z51, .int 0, .int 0]) := (congrFun e_f22 me).trans (z_up_ne (z_tne hf_me hf_mt (m := 10) (n := 12900) rfl rfl (by decide)) hf_me)
  have hf_mt : f22 mt = .inl (cy 0, 1600, .inl (upd g15 w17.toNatClampNeg (vp_nar .byte w20))) := (congrFun e_f22 mt).trans z_up_self
  have hfr : ∀ b ∈ L, b ≠ me → b ≠ mt → f22 b = f b := fun b hb h0 h1 => (congrFun e_f22 b).trans (z_up_ne h1 (hfr b hb h0 h1))
  obtain ⟨g21, e_g21⟩ : ∃ z, z = (upd g15 w17.toNatClampNeg (vp_nar .byte w20)) := ⟨_, rfl⟩
  rw [← e_g21] at hf_mt
  refine lv_aload_n hx hb dX10_four_20 rfl (lv_at hl 1 rfl) ?_
  refine lv_dup hx hb dX10_four_21 rfl ?_
  refine z_get (C := RX10) (T := TX10) (N := 54) (ci := 10) (v := .int w17) hx hb hT zin_X10 hown hK hw hm_me hf_me rfl 6 (by decide) (hT _ kw_1174) rfl dX10_four_22 ?_
  refine lv_iconst (v := 1) hx hb dX10_four_25 (by decide) ?_
  refine lv_iadd hx hb dX10_four_26 ?_
  refine lv_topi (fun w23 e_w23 => ?_)
  have i_w23 : w23.toInt = ((((tv.toInt + 1) + 1) + 1) + 1) := z_add e_w23 i_w17 (show (1 : Int32).toInt = 1 by decide) (by omega)
  refine z_put (C := RX10) (T := TX10) (N := 54) (ci := 10) (v := .int w23) (fs' := [.int 0, .ref mw, .ref mn, .ref mc, .ref mv, .ref mt, .int w23, .int 0, .int 0, .int 0, .int 0, .long 0, .int 0, .int 0, .int 0, .int (-1), .ref ml, .ref mh, .ref mj, .ref ms, .ref mg, .ref md, .int 0, .ref mk, .int (-1), .int 0, .long 0, .int 0, .int 0, .ref z29, .int 0, .ref z31, .ref z32, .ref z33, .ref z34, .ref z35, .int 0, .ref z37, .int 0, .ref z39, .int 0, .int 0, .int 0, .ref z43, .ref z44, .ref z45, .ref z46, .ref z47, .int 0, .ref z49, .ref z50, .ref z51, .int 0, .int 0]) hx hb hT zin_X10 tyX10_ok nmX10 hown hK hw hm_me hf_me rfl 6 (by decide) (hT _ kw_1174) rfl rfl rfl (Nat.le_of_ble_eq_true rfl) rfl dX10_four_27 (fun H locs hw => ?_)
  obtain ⟨f24, e_f24⟩ : ∃ z, z = va_up f22 me (.inr (10, [.int 0, .ref mw, .ref mn, .ref mc, .ref mv, .ref mt, .int w23, .int 0, .int 0, .int 0, .int 0, .long 0, .int 0, .int 0, .int 0, .int (-1), .ref ml, .ref mh, .ref mj, .ref ms, .ref mg, .ref md, .int 0, .ref mk, .int (-1), .int 0, .long 0, .int 0, .int 0, .ref z29, .int 0, .ref z31, .ref z32, .ref z33, .ref z34, .ref z35, .int 0, .ref z37, .int 0, .ref z39, .int 0, .int 0, .int 0, .ref z43, .ref z44, .ref z45, .ref z46, .ref z47, .int 0, .ref z49, .ref z50, .ref z51, .int 0, .int 0])) := ⟨_, rfl⟩
  rw [← e_f24] at hw
  have hf_mt : f24 mt = .inl (cy 0, 1600, .inl g21) := (congrFun e_f24 mt).trans (z_up_ne (z_tne hf_mt hf_me (m := 12900) (n := 10) rfl rfl (by decide)) hf_mt)
  have hf_me : f24 me = .inr (10, [.int 0, .ref mw, .ref mn, .ref mc, .ref mv, .ref mt, .int w23, .int 0, .int 0, .int 0, .int 0, .long 0, .int 0, .int 0, .int 0, .int (-1), .ref ml, .ref mh, .ref mj, .ref ms, .ref mg, .ref md, .int 0, .ref mk, .int (-1), .int 0, .long 0, .int 0, .int 0, .ref z29, .int 0, .ref z31, .ref z32, .ref z33, .ref z34, .ref z35, .int 0, .ref z37, .int 0, .ref z39, .int 0, .int 0, .int 0, .ref z43, .ref z44, .ref z45, .ref z46, .ref z47, .int 0, .ref z49, .ref z50, .ref z51, .int 0, .int 0]) := (congrFun e_f24 me).trans z_up_self
  have hfr : ∀ b ∈ L, b ≠ me → b ≠ mt → f24 b = f b := fun b hb h0 h1 => (congrFun e_f24 b).trans (z_up_ne h0 (hfr b hb h0 h1))
  refine lv_iinc (v := (-8)) (lv' := [(2, .int (-8)), (0, .ref me), (1, .int fw)]) hx hb dX10_four_30 hl (k := 0) rfl (by decide) (by decide) rfl (fun ls hl => ?_)
  refine lv_goto (tgt := 3) hx hb dX10_four_33 (by decide) ?_
  refine lv_iload_n hx hb dX10_four_3 rfl (lv_at hl 0 rfl) ?_
  refine z_if_lt (tgt := 36) hx hb (show ((-8) : Int32).toInt = (-8) by decide) dX10_four_4 (by decide) (fun _ => ?_) (fun h => absurd h (by decide))
  exact z_vret hx hb hr hlk (by decide) (by decide) hw (⟨hsub, hfr, g21, w23, hf_me, hf_mt, by omega⟩) dX10_four_36

set_option maxHeartbeats 2000000 in
set_option maxRecDepth 100000 in
theorem c_X10_feed (l : Launch) {D : va_G} {cy : Nat → ClassId} {L : List Nat} {f : Nat → va_E} {sz : Nat} {me mw mn mc mv mt ml mh mj ms mg md mk z29 z31 z32 z33 z34 z35 z37 z39 z43 z44 z45 z46 z47 z49 z50 z51 : Nat}  {xa xb xc xd xe : Int32} (hm_me : me ∈ L) (hm_mt : mt ∈ L) (hf_me : f me = .inr (10, [.int 0, .ref mw, .ref mn, .ref mc, .ref mv, .ref mt, .int 0, .int 0, .int 0, .int 0, .int 0, .long 0, .int 0, .int 0, .int 0, .int (-1), .ref ml, .ref mh, .ref mj, .ref ms, .ref mg, .ref md, .int 0, .ref mk, .int (-1), .int 0, .long 0, .int 0, .int 0, .ref z29, .int 0, .ref z31, .ref z32, .ref z33, .ref z34, .ref z35, .int 0, .ref z37, .int 0, .ref z39, .int 0, .int 0, .int 0, .ref z43, .ref z44, .ref z45, .ref z46, .ref z47, .int 0, .ref z49, .ref z50, .ref z51, .int 0, .int 0])) (hf_mt : f mt = .inl (cy 0, 1600, .inl (fun _ => 0))) : Met l yX10_feed (z_ws yX10_feed cX10_feed 6 (some .int)) (z_R 6 0 0) (va_Pc [.ref me, .int xa, .int xb, .int xc, .int xd, .int xe] (z_Pre D vwCl (z_K D cy) L f sz)) (z_Qi D vwCl (fun r u => (∀ b ∈ L, b ∈ u.1) ∧ (∀ b ∈ L, b ≠ me → b ≠ mt → u.2 b = f b) ∧ ((r.toInt = 20))) L sz) 0 0 (z_A L sz) := by
  refine z_met (cc := cX10_feed) (maxL := 6) (ret := (some .int)) (lv := [(0, .ref me), (1, .int xa), (2, .int xb), (3, .int xc), (4, .int xd), (5, .int xe)]) (by decide) rfl (Nat.le_of_ble_eq_true rfl) rfl ?_
  intro p e s m below meth c ls hx hb hr hlk hml hown hnm hts hKK hA hw hl
  have hK := hKK.1
  have hown : s.vm.findClass RX10 = some m.cls := hown
  have hT : ∀ w ∈ lw_all, w.before ([.ref me, .int xa, .int xb, .int xc, .int xd, .int xe] : List Value).toArray s = true := fun w h => hts w (z_cons w h)
  have hsub : ∀ b ∈ L, b ∈ L := fun _ h => h
  have hfr : ∀ b ∈ L, b ≠ me → b ≠ mt → f b = f b := fun _ _ _ _ => rfl
  have hz : (0 : Int32).toInt = 0 := by decide
  refine lv_aload_n hx hb dX10_feed_0 rfl (lv_at hl 0 rfl) ?_
  refine lv_iconst (v := 0) hx hb dX10_feed_1 (by decide) ?_
  refine z_put (C := RX10) (T := TX10) (N := 54) (ci := 10) (v := .int 0) (fs' := [.int 0, .ref mw, .ref mn, .ref mc, .ref mv, .ref mt, .int 0, .int 0, .int 0, .int 0, .int 0, .long 0, .int 0, .int 0, .int 0, .int (-1), .ref ml, .ref mh, .ref mj, .ref ms, .ref mg, .ref md, .int 0, .ref mk, .int (-1), .int 0, .long 0, .int 0, .int 0, .ref z29, .int 0, .ref z31, .ref z32, .ref z33, .ref z34, .ref z35, .int 0, .ref z37, .int 0, .ref z39, .int 0, .int 0, .int 0, .ref z43, .ref z44, .ref z45, .ref z46, .ref z47, .int 0, .ref z49, .ref z50, .ref z51, .int 0, .int 0]) hx hb hT zin_X10 tyX10_ok nmX10 hown hK hw hm_me hf_me rfl 0 (by decide) (hT _ kw_1168) rfl rfl rfl (Nat.le_of_ble_eq_true rfl) rfl dX10_feed_2 (fun H locs hw => ?_)
  obtain ⟨f1, e_f1⟩ : ∃ z, z = va_up f me (.inr (10, [.int 0, .ref mw, .ref mn, .ref mc, .ref mv, .ref mt, .int 0, .int 0, .int 0, .int 0, .int 0, .long 0, .int 0, .int 0, .int 0, .int (-1), .ref ml, .ref mh, .ref mj, .ref ms, .ref mg, .ref md, .int 0, .ref mk, .int (-1), .int 0, .long 0, .int 0, .int 0, .ref z29, .int 0, .ref z31, .ref z32, .ref z33, .ref z34, .ref z35, .int 0, .ref z37, .int 0, .ref z39, .int 0, .int 0, .int 0, .ref z43, .ref z44, .ref z45, .ref z46, .ref z47, .int 0, .ref z49, .ref z50, .ref z51, .int 0, .int 0])) := ⟨_, rfl⟩
  rw [← e_f1] at hw
  have hf_mt : f1 mt = .inl (cy 0, 1600, .inl (fun _ => 0)) := (congrFun e_f1 mt).trans (z_up_ne (z_tne hf_mt hf_me (m := 12900) (n := 10) rfl rfl (by decide)) hf_mt)
  have hf_me : f1 me = .inr (10, [.int 0, .ref mw, .ref mn, .ref mc, .ref mv, .ref mt, .int 0, .int 0, .int 0, .int 0, .int 0, .long 0, .int 0, .int 0, .int 0, .int (-1), .ref ml, .ref mh, .ref mj, .ref ms, .ref mg, .ref md, .int 0, .ref mk, .int (-1), .int 0, .long 0, .int 0, .int 0, .ref z29, .int 0, .ref z31, .ref z32, .ref z33, .ref z34, .ref z35, .int 0, .ref z37, .int 0, .ref z39, .int 0, .int 0, .int 0, .ref z43, .ref z44, .ref z45, .ref z46, .ref z47, .int 0, .ref z49, .ref z50, .ref z51, .int 0, .int 0]) := (congrFun e_f1 me).trans z_up_self
  have hfr : ∀ b ∈ L, b ≠ me → b ≠ mt → f1 b = f b := fun b hb h0 h1 => (congrFun e_f1 b).trans (z_up_ne h0 (hfr b hb h0 h1))
  refine lv_aload_n hx hb dX10_feed_5 rfl (lv_at hl 0 rfl) ?_
  refine z_get (C := RX10) (T := TX10) (N := 54) (ci := 10) (v := .int 0) hx hb hT zin_X10 hown hK hw hm_me hf_me rfl 6 (by decide) (hT _ kw_1174) rfl dX10_feed_6 ?_
  refine lv_bipush (v := 20) hx hb dX10_feed_9 (by decide) ?_
  refine lv_iadd hx hb dX10_feed_11 ?_
  refine z_lit (y := 20) (by decide) ?_
  refine lv_sipush (v := 1600) hx hb dX10_feed_12 (by decide) ?_
  refine z_icmp_le (tgt := 20) hx hb (show (20 : Int32).toInt = 20 by decide) (show (1600 : Int32).toInt = 1600 by decide) dX10_feed_15 (by decide) (fun _ => ?_) (fun h => absurd h (by decide))
  refine lv_aload_n hx hb dX10_feed_20 rfl (lv_at hl 0 rfl) ?_
  refine lv_iload_n hx hb dX10_feed_21 rfl (lv_at hl 1 rfl) ?_
  refine z_callvV (cells := 0) (slots := 0) (b := me) (As := [.int xa]) (rest := []) (ci := 10) (q0 := (RX10, TX10, 54)) ⟨hx, hb, hml, hown, hT⟩ (c_X10_four l hm_me hm_mt hf_me hf_mt (by first | omega | decide | assumption)) (cwV 1 hT (z_goodV (fun _ h => h) kw_1357 kw_1359 kw_31 kw_96 kw_1360) rfl rfl rfl (by decide +kernel) ⟨by decide, by decide⟩) z_mv hKK hK hw hA hm_me hf_me rfl rfl rfl hl.1 rfl (Nat.le_of_ble_eq_true rfl) dX10_feed_22 ⟨by decide, by decide⟩ (fun u H locs hp hw => ?_)
  obtain ⟨L2, f3⟩ := u
  obtain ⟨hsb, hfm, g2_4, tv2_5, ha_0, ha_1, hp⟩ := hp
  have hw : z_H D vwCl (z_A L sz) s.heap L2 f3 H locs := hw
  have hfr : ∀ b ∈ L, b ≠ me → b ≠ mt → f3 b = f b := fun b hb h0 h1 => (hfm b (hsub b hb) h0 h1).trans (hfr b hb h0 h1)
  have hsub : ∀ b ∈ L, b ∈ L2 := fun b h => hsb b (hsub b h)
  have hm_me : me ∈ L2 := hsb _ hm_me
  have hm_mt : mt ∈ L2 := hsb _ hm_mt
  have hf_me : f3 me = .inr (10, [.int 0, .ref mw, .ref mn, .ref mc, .ref mv, .ref mt, .int tv2_5, .int 0, .int 0, .int 0, .int 0, .long 0, .int 0, .int 0, .int 0, .int (-1), .ref ml, .ref mh, .ref mj, .ref ms, .ref mg, .ref md, .int 0, .ref mk, .int (-1), .int 0, .long 0, .int 0, .int 0, .ref z29, .int 0, .ref z31, .ref z32, .ref z33, .ref z34, .ref z35, .int 0, .ref z37, .int 0, .ref z39, .int 0, .int 0, .int 0, .ref z43, .ref z44, .ref z45, .ref z46, .ref z47, .int 0, .ref z49, .ref z50, .ref z51, .int 0, .int 0]) := ha_0
  have hf_mt : f3 mt = .inl (cy 0, 1600, .inl g2_4) := ha_1
  have hp1 := hp
  refine lv_aload_n hx hb dX10_feed_25 rfl (lv_at hl 0 rfl) ?_
  refine lv_iload_n hx hb dX10_feed_26 rfl (lv_at hl 2 rfl) ?_
  refine z_callvV (cells := 0) (slots := 0) (b := me) (As := [.int xb]) (rest := []) (ci := 10) (q0 := (RX10, TX10, 54)) ⟨hx, hb, hml, hown, hT⟩ (c_X10_four l hm_me hm_mt hf_me hf_mt (by first | omega | decide | assumption)) (cwV 1 hT (z_goodV (fun _ h => h) kw_1357 kw_1359 kw_31 kw_96 kw_1360) rfl rfl rfl (by decide +kernel) ⟨by decide, by decide⟩) z_mv hKK hK hw hA hm_me hf_me rfl rfl rfl hl.1 rfl (Nat.le_of_ble_eq_true rfl) dX10_feed_27 ⟨by decide, by decide⟩ (fun u H locs hp hw => ?_)
  obtain ⟨L6, f7⟩ := u
  obtain ⟨hsb, hfm, g2_8, tv2_9, ha_0, ha_1, hp⟩ := hp
  have hw : z_H D vwCl (z_A L sz) s.heap L6 f7 H locs := hw
  have hfr : ∀ b ∈ L, b ≠ me → b ≠ mt → f7 b = f b := fun b hb h0 h1 => (hfm b (hsub b hb) h0 h1).trans (hfr b hb h0 h1)
  have hsub : ∀ b ∈ L, b ∈ L6 := fun b h => hsb b (hsub b h)
  have hm_me : me ∈ L6 := hsb _ hm_me
  have hm_mt : mt ∈ L6 := hsb _ hm_mt
  have hf_me : f7 me = .inr (10, [.int 0, .ref mw, .ref mn, .ref mc, .ref mv, .ref mt, .int tv2_9, .int 0, .int 0, .int 0, .int 0, .long 0, .int 0, .int 0, .int 0, .int (-1), .ref ml, .ref mh, .ref mj, .ref ms, .ref mg, .ref md, .int 0, .ref mk, .int (-1), .int 0, .long 0, .int 0, .int 0, .ref z29, .int 0, .ref z31, .ref z32, .ref z33, .ref z34, .ref z35, .int 0, .ref z37, .int 0, .ref z39, .int 0, .int 0, .int 0, .ref z43, .ref z44, .ref z45, .ref z46, .ref z47, .int 0, .ref z49, .ref z50, .ref z51, .int 0, .int 0]) := ha_0
  have hf_mt : f7 mt = .inl (cy 0, 1600, .inl g2_8) := ha_1
  have hp2 := hp
  refine lv_aload_n hx hb dX10_feed_30 rfl (lv_at hl 0 rfl) ?_
  refine lv_iload_n hx hb dX10_feed_31 rfl (lv_at hl 3 rfl) ?_
  refine z_callvV (cells := 0) (slots := 0) (b := me) (As := [.int xc]) (rest := []) (ci := 10) (q0 := (RX10, TX10, 54)) ⟨hx, hb, hml, hown, hT⟩ (c_X10_four l hm_me hm_mt hf_me hf_mt (by first | omega | decide | assumption)) (cwV 1 hT (z_goodV (fun _ h => h) kw_1357 kw_1359 kw_31 kw_96 kw_1360) rfl rfl rfl (by decide +kernel) ⟨by decide, by decide⟩) z_mv hKK hK hw hA hm_me hf_me rfl rfl rfl hl.1 rfl (Nat.le_of_ble_eq_true rfl) dX10_feed_32 ⟨by decide, by decide⟩ (fun u H locs hp hw => ?_)
  obtain ⟨L10, f11⟩ := u
  obtain ⟨hsb, hfm, g2_12, tv2_13, ha_0, ha_1, hp⟩ := hp
  have hw : z_H D vwCl (z_A L sz) s.heap L10 f11 H locs := hw
  have hfr : ∀ b ∈ L, b ≠ me → b ≠ mt → f11 b = f b := fun b hb h0 h1 => (hfm b (hsub b hb) h0 h1).trans (hfr b hb h0 h1)
  have hsub : ∀ b ∈ L, b ∈ L10 := fun b h => hsb b (hsub b h)
  have hm_me : me ∈ L10 := hsb _ hm_me
  have hm_mt : mt ∈ L10 := hsb _ hm_mt
  have hf_me : f11 me = .inr (10, [.int 0, .ref mw, .ref mn, .ref mc, .ref mv, .ref mt, .int tv2_13, .int 0, .int 0, .int 0, .int 0, .long 0, .int 0, .int 0, .int 0, .int (-1), .ref ml, .ref mh, .ref mj, .ref ms, .ref mg, .ref md, .int 0, .ref mk, .int (-1), .int 0, .long 0, .int 0, .int 0, .ref z29, .int 0, .ref z31, .ref z32, .ref z33, .ref z34, .ref z35, .int 0, .ref z37, .int 0, .ref z39, .int 0, .int 0, .int 0, .ref z43, .ref z44, .ref z45, .ref z46, .ref z47, .int 0, .ref z49, .ref z50, .ref z51, .int 0, .int 0]) := ha_0
  have hf_mt : f11 mt = .inl (cy 0, 1600, .inl g2_12) := ha_1
  have hp3 := hp
  refine lv_aload_n hx hb dX10_feed_35 rfl (lv_at hl 0 rfl) ?_
  refine lv_iload hx hb dX10_feed_36 (lv_at hl 4 rfl) ?_
  refine z_callvV (cells := 0) (slots := 0) (b := me) (As := [.int xd]) (rest := []) (ci := 10) (q0 := (RX10, TX10, 54)) ⟨hx, hb, hml, hown, hT⟩ (c_X10_four l hm_me hm_mt hf_me hf_mt (by first | omega | decide | assumption)) (cwV 1 hT (z_goodV (fun _ h => h) kw_1357 kw_1359 kw_31 kw_96 kw_1360) rfl rfl rfl (by decide +kernel) ⟨by decide, by decide⟩) z_mv hKK hK hw hA hm_me hf_me rfl rfl rfl hl.1 rfl (Nat.le_of_ble_eq_true rfl) dX10_feed_38 ⟨by decide, by decide⟩ (fun u H locs hp hw => ?_)
  obtain ⟨L14, f15⟩ := u
  obtain ⟨hsb, hfm, g2_16, tv2_17, ha_0, ha_1, hp⟩ := hp
  have hw : z_H D vwCl (z_A L sz) s.heap L14 f15 H locs := hw
  have hfr : ∀ b ∈ L, b ≠ me → b ≠ mt → f15 b = f b := fun b hb h0 h1 => (hfm b (hsub b hb) h0 h1).trans (hfr b hb h0 h1)
  have hsub : ∀ b ∈ L, b ∈ L14 := fun b h => hsb b (hsub b h)
  have hm_me : me ∈ L14 := hsb _ hm_me
  have hm_mt : mt ∈ L14 := hsb _ hm_mt
  have hf_me : f15 me = .inr (10, [.int 0, .ref mw, .ref mn, .ref mc, .ref mv, .ref mt, .int tv2_17, .int 0, .int 0, .int 0, .int 0, .long 0, .int 0, .int 0, .int 0, .int (-1), .ref ml, .ref mh, .ref mj, .ref ms, .ref mg, .ref md, .int 0, .ref mk, .int (-1), .int 0, .long 0, .int 0, .int 0, .ref z29, .int 0, .ref z31, .ref z32, .ref z33, .ref z34, .ref z35, .int 0, .ref z37, .int 0, .ref z39, .int 0, .int 0, .int 0, .ref z43, .ref z44, .ref z45, .ref z46, .ref z47, .int 0, .ref z49, .ref z50, .ref z51, .int 0, .int 0]) := ha_0
  have hf_mt : f15 mt = .inl (cy 0, 1600, .inl g2_16) := ha_1
  have hp4 := hp
  refine lv_aload_n hx hb dX10_feed_41 rfl (lv_at hl 0 rfl) ?_
  refine lv_iload hx hb dX10_feed_42 (lv_at hl 5 rfl) ?_
  refine z_callvV (cells := 0) (slots := 0) (b := me) (As := [.int xe]) (rest := []) (ci := 10) (q0 := (RX10, TX10, 54)) ⟨hx, hb, hml, hown, hT⟩ (c_X10_four l hm_me hm_mt hf_me hf_mt (by first | omega | decide | assumption)) (cwV 1 hT (z_goodV (fun _ h => h) kw_1357 kw_1359 kw_31 kw_96 kw_1360) rfl rfl rfl (by decide +kernel) ⟨by decide, by decide⟩) z_mv hKK hK hw hA hm_me hf_me rfl rfl rfl hl.1 rfl (Nat.le_of_ble_eq_true rfl) dX10_feed_44 ⟨by decide, by decide⟩ (fun u H locs hp hw => ?_)
  obtain ⟨L18, f19⟩ := u
  obtain ⟨hsb, hfm, g2_20, tv2_21, ha_0, ha_1, hp⟩ := hp
  have hw : z_H D vwCl (z_A L sz) s.heap L18 f19 H locs := hw
  have hfr : ∀ b ∈ L, b ≠ me → b ≠ mt → f19 b = f b := fun b hb h0 h1 => (hfm b (hsub b hb) h0 h1).trans (hfr b hb h0 h1)
  have hsub : ∀ b ∈ L, b ∈ L18 := fun b h => hsb b (hsub b h)
  have hm_me : me ∈ L18 := hsb _ hm_me
  have hm_mt : mt ∈ L18 := hsb _ hm_mt
  have hf_me : f19 me = .inr (10, [.int 0, .ref mw, .ref mn, .ref mc, .ref mv, .ref mt, .int tv2_21, .int 0, .int 0, .int 0, .int 0, .long 0, .int 0, .int 0, .int 0, .int (-1), .ref ml, .ref mh, .ref mj, .ref ms, .ref mg, .ref md, .int 0, .ref mk, .int (-1), .int 0, .long 0, .int 0, .int 0, .ref z29, .int 0, .ref z31, .ref z32, .ref z33, .ref z34, .ref z35, .int 0, .ref z37, .int 0, .ref z39, .int 0, .int 0, .int 0, .ref z43, .ref z44, .ref z45, .ref z46, .ref z47, .int 0, .ref z49, .ref z50, .ref z51, .int 0, .int 0]) := ha_0
  have hf_mt : f19 mt = .inl (cy 0, 1600, .inl g2_20) := ha_1
  have hp5 := hp
  refine lv_aload_n hx hb dX10_feed_47 rfl (lv_at hl 0 rfl) ?_
  refine z_get (C := RX10) (T := TX10) (N := 54) (ci := 10) (v := .int tv2_21) hx hb hT zin_X10 hown hK hw hm_me hf_me rfl 6 (by decide) (hT _ kw_1174) rfl dX10_feed_48 ?_
  exact z_iret hx hb hr hlk (by decide) (by decide) hw (⟨hsub, hfr, by omega⟩) dX10_feed_51
