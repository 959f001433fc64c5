set_option maxHeartbeats 4000000 in
set_option maxRecDepth 100000 in
theorem c_X2_hasGap (l : Launch) {D : va_G} {cy : Nat → ClassId} {L : List Nat} {f : Nat → va_E} {sz : Nat} {mo la sa mi da : Nat} {v0 v1 v2 v3 v4 v5 v6 : Int32} {g : Int32} (hm_mo : mo ∈ L) (hf_mo : f mo = .inr (2, [.int v0, .int v1, .int v2, .int v3, .int v4, .int v5, .int v6, .ref la, .ref sa, .ref mi, .ref da])) : Met l yX2_hasGap (z_ws yX2_hasGap cX2_hasGap 2 (some .boolean)) (z_R 1 0 0) (va_Pc [.ref mo, .int g] (z_Pre D vwCl (z_K D cy) L f sz)) (z_Qi D vwCl (fun r u => u = (L, f) ∧ ((r = 1 ∧ (0 ≤ g.toInt ∧ g.toInt < v1.toInt)) ∨ (r = 0 ∧ ¬ (0 ≤ g.toInt ∧ g.toInt < v1.toInt)))) L sz) 0 0 (z_A L sz) := by
  refine z_met (cc := cX2_hasGap) (maxL := 2) (ret := (some .boolean)) (lv := [(0, .ref mo), (1, .int g)]) (by decide) rfl (Nat.le_of_ble_eq_true rfl) rfl ?_
  intro p e s m below meth c ls hx hb hr hlk hml hown hnm hts hKK hA hw hl
  have hK := hKK.1
  have hown : s.vm.findClass RX2 = some m.cls := hown
  have hT : ∀ w ∈ lw_all, w.before ([.ref mo, .int g] : List Value).toArray s = true := fun w h => hts w (z_cons w h)
  refine lv_iload_n hx hb dX2_hasGap_0 rfl (lv_at hl 1 rfl) ?_
  refine z_if_lt (tgt := 16) hx hb rfl dX2_hasGap_1 (by decide) (fun c1 => ?_) (fun c1 => ?_)
  · skip
    refine lv_iconst (v := 0) hx hb dX2_hasGap_16 (by decide) ?_
    exact z_zret hx hb hr rfl hlk (by decide) (by decide) hw (⟨rfl, Or.inr ⟨rfl, by omega⟩⟩) dX2_hasGap_17
  · skip
    refine lv_iload_n hx hb dX2_hasGap_4 rfl (lv_at hl 1 rfl) ?_
    refine lv_aload_n hx hb dX2_hasGap_5 rfl (lv_at hl 0 rfl) ?_
    refine z_get (C := RX2) (T := TX2) (N := 11) (ci := 2) (v := .int v1) hx hb hT zin_X2 hown hK hw hm_mo hf_mo rfl 1 (by decide) (hT _ kw_207) rfl dX2_hasGap_6 ?_
    refine z_icmp_ge (tgt := 16) hx hb rfl rfl dX2_hasGap_9 (by decide) (fun c2 => ?_) (fun c2 => ?_)
    · skip
      refine lv_iconst (v := 0) hx hb dX2_hasGap_16 (by decide) ?_
      exact z_zret hx hb hr rfl hlk (by decide) (by decide) hw (⟨rfl, Or.inr ⟨rfl, by omega⟩⟩) dX2_hasGap_17
    · skip
      refine lv_iconst (v := 1) hx hb dX2_hasGap_12 (by decide) ?_
      refine lv_goto (tgt := 17) hx hb dX2_hasGap_13 (by decide) ?_
      exact z_zret hx hb hr rfl hlk (by decide) (by decide) hw (⟨rfl, Or.inl ⟨rfl, by omega⟩⟩) dX2_hasGap_17

set_option maxHeartbeats 4000000 in
set_option maxRecDepth 100000 in
theorem c_X2_hasDay (l : Launch) {D : va_G} {cy : Nat → ClassId} {L : List Nat} {f : Nat → va_E} {sz : Nat} {mo la sa mi da : Nat} {v0 v1 v2 v3 v4 v5 v6 : Int32} {g : Int32} (hm_mo : mo ∈ L) (hf_mo : f mo = .inr (2, [.int v0, .int v1, .int v2, .int v3, .int v4, .int v5, .int v6, .ref la, .ref sa, .ref mi, .ref da])) : Met l yX2_hasDay (z_ws yX2_hasDay cX2_hasDay 2 (some .boolean)) (z_R 1 0 0) (va_Pc [.ref mo, .int g] (z_Pre D vwCl (z_K D cy) L f sz)) (z_Qi D vwCl (fun r u => u = (L, f) ∧ ((r = 1 ∧ (0 ≤ g.toInt ∧ g.toInt < v2.toInt)) ∨ (r = 0 ∧ ¬ (0 ≤ g.toInt ∧ g.toInt < v2.toInt)))) L sz) 0 0 (z_A L sz) := by
  refine z_met (cc := cX2_hasDay) (maxL := 2) (ret := (some .boolean)) (lv := [(0, .ref mo), (1, .int g)]) (by decide) rfl (Nat.le_of_ble_eq_true rfl) rfl ?_
  intro p e s m below meth c ls hx hb hr hlk hml hown hnm hts hKK hA hw hl
  have hK := hKK.1
  have hown : s.vm.findClass RX2 = some m.cls := hown
  have hT : ∀ w ∈ lw_all, w.before ([.ref mo, .int g] : List Value).toArray s = true := fun w h => hts w (z_cons w h)
  refine lv_iload_n hx hb dX2_hasDay_0 rfl (lv_at hl 1 rfl) ?_
  refine z_if_lt (tgt := 16) hx hb rfl dX2_hasDay_1 (by decide) (fun c1 => ?_) (fun c1 => ?_)
  · skip
    refine lv_iconst (v := 0) hx hb dX2_hasDay_16 (by decide) ?_
    exact z_zret hx hb hr rfl hlk (by decide) (by decide) hw (⟨rfl, Or.inr ⟨rfl, by omega⟩⟩) dX2_hasDay_17
  · skip
    refine lv_iload_n hx hb dX2_hasDay_4 rfl (lv_at hl 1 rfl) ?_
    refine lv_aload_n hx hb dX2_hasDay_5 rfl (lv_at hl 0 rfl) ?_
    refine z_get (C := RX2) (T := TX2) (N := 11) (ci := 2) (v := .int v2) hx hb hT zin_X2 hown hK hw hm_mo hf_mo rfl 2 (by decide) (hT _ kw_211) rfl dX2_hasDay_6 ?_
    refine z_icmp_ge (tgt := 16) hx hb rfl rfl dX2_hasDay_9 (by decide) (fun c2 => ?_) (fun c2 => ?_)
    · skip
      refine lv_iconst (v := 0) hx hb dX2_hasDay_16 (by decide) ?_
      exact z_zret hx hb hr rfl hlk (by decide) (by decide) hw (⟨rfl, Or.inr ⟨rfl, by omega⟩⟩) dX2_hasDay_17
    · skip
      refine lv_iconst (v := 1) hx hb dX2_hasDay_12 (by decide) ?_
      refine lv_goto (tgt := 17) hx hb dX2_hasDay_13 (by decide) ?_
      exact z_zret hx hb hr rfl hlk (by decide) (by decide) hw (⟨rfl, Or.inl ⟨rfl, by omega⟩⟩) dX2_hasDay_17

set_option maxHeartbeats 4000000 in
set_option maxRecDepth 100000 in
theorem c_X2_hasOwner (l : Launch) {D : va_G} {cy : Nat → ClassId} {L : List Nat} {f : Nat → va_E} {sz : Nat} {mo la sa mi da : Nat} {v0 v1 v2 v3 v4 v5 v6 : Int32} {g : Int32} (hm_mo : mo ∈ L) (hf_mo : f mo = .inr (2, [.int v0, .int v1, .int v2, .int v3, .int v4, .int v5, .int v6, .ref la, .ref sa, .ref mi, .ref da])) : Met l yX2_hasOwner (z_ws yX2_hasOwner cX2_hasOwner 2 (some .boolean)) (z_R 1 0 0) (va_Pc [.ref mo, .int g] (z_Pre D vwCl (z_K D cy) L f sz)) (z_Qi D vwCl (fun r u => u = (L, f) ∧ ((r = 1 ∧ (0 ≤ g.toInt ∧ g.toInt < v3.toInt)) ∨ (r = 0 ∧ ¬ (0 ≤ g.toInt ∧ g.toInt < v3.toInt)))) L sz) 0 0 (z_A L sz) := by
  refine z_met (cc := cX2_hasOwner) (maxL := 2) (ret := (some .boolean)) (lv := [(0, .ref mo), (1, .int g)]) (by decide) rfl (Nat.le_of_ble_eq_true rfl) rfl ?_
  intro p e s m below meth c ls hx hb hr hlk hml hown hnm hts hKK hA hw hl
  have hK := hKK.1
  have hown : s.vm.findClass RX2 = some m.cls := hown
  have hT : ∀ w ∈ lw_all, w.before ([.ref mo, .int g] : List Value).toArray s = true := fun w h => hts w (z_cons w h)
  refine lv_iload_n hx hb dX2_hasOwner_0 rfl (lv_at hl 1 rfl) ?_
  refine z_if_lt (tgt := 16) hx hb rfl dX2_hasOwner_1 (by decide) (fun c1 => ?_) (fun c1 => ?_)
  · skip
    refine lv_iconst (v := 0) hx hb dX2_hasOwner_16 (by decide) ?_
    exact z_zret hx hb hr rfl hlk (by decide) (by decide) hw (⟨rfl, Or.inr ⟨rfl, by omega⟩⟩) dX2_hasOwner_17
  · skip
    refine lv_iload_n hx hb dX2_hasOwner_4 rfl (lv_at hl 1 rfl) ?_
    refine lv_aload_n hx hb dX2_hasOwner_5 rfl (lv_at hl 0 rfl) ?_
    refine z_get (C := RX2) (T := TX2) (N := 11) (ci := 2) (v := .int v3) hx hb hT zin_X2 hown hK hw hm_mo hf_mo rfl 3 (by decide) (hT _ kw_215) rfl dX2_hasOwner_6 ?_
    refine z_icmp_ge (tgt := 16) hx hb rfl rfl dX2_hasOwner_9 (by decide) (fun c2 => ?_) (fun c2 => ?_)
    · skip
      refine lv_iconst (v := 0) hx hb dX2_hasOwner_16 (by decide) ?_
      exact z_zret hx hb hr rfl hlk (by decide) (by decide) hw (⟨rfl, Or.inr ⟨rfl, by omega⟩⟩) dX2_hasOwner_17
    · skip
      refine lv_iconst (v := 1) hx hb dX2_hasOwner_12 (by decide) ?_
      refine lv_goto (tgt := 17) hx hb dX2_hasOwner_13 (by decide) ?_
      exact z_zret hx hb hr rfl hlk (by decide) (by decide) hw (⟨rfl, Or.inl ⟨rfl, by omega⟩⟩) dX2_hasOwner_17

set_option maxHeartbeats 4000000 in
set_option maxRecDepth 100000 in
theorem c_X2_hasDrive (l : Launch) {D : va_G} {cy : Nat → ClassId} {L : List Nat} {f : Nat → va_E} {sz : Nat} {mo la sa mi da : Nat} {v0 v1 v2 v3 v4 v5 v6 : Int32} {g : Int32} (hm_mo : mo ∈ L) (hf_mo : f mo = .inr (2, [.int v0, .int v1, .int v2, .int v3, .int v4, .int v5, .int v6, .ref la, .ref sa, .ref mi, .ref da])) : Met l yX2_hasDrive (z_ws yX2_hasDrive cX2_hasDrive 2 (some .boolean)) (z_R 1 0 0) (va_Pc [.ref mo, .int g] (z_Pre D vwCl (z_K D cy) L f sz)) (z_Qi D vwCl (fun r u => u = (L, f) ∧ ((r = 1 ∧ (0 ≤ g.toInt ∧ g.toInt < v5.toInt)) ∨ (r = 0 ∧ ¬ (0 ≤ g.toInt ∧ g.toInt < v5.toInt)))) L sz) 0 0 (z_A L sz) := by
  refine z_met (cc := cX2_hasDrive) (maxL := 2) (ret := (some .boolean)) (lv := [(0, .ref mo), (1, .int g)]) (by decide) rfl (Nat.le_of_ble_eq_true rfl) rfl ?_
  intro p e s m below meth c ls hx hb hr hlk hml hown hnm hts hKK hA hw hl
  have hK := hKK.1
  have hown : s.vm.findClass RX2 = some m.cls := hown
  have hT : ∀ w ∈ lw_all, w.before ([.ref mo, .int g] : List Value).toArray s = true := fun w h => hts w (z_cons w h)
  refine lv_iload_n hx hb dX2_hasDrive_0 rfl (lv_at hl 1 rfl) ?_
  refine z_if_lt (tgt := 16) hx hb rfl dX2_hasDrive_1 (by decide) (fun c1 => ?_) (fun c1 => ?_)
  · skip
    refine lv_iconst (v := 0) hx hb dX2_hasDrive_16 (by decide) ?_
    exact z_zret hx hb hr rfl hlk (by decide) (by decide) hw (⟨rfl, Or.inr ⟨rfl, by omega⟩⟩) dX2_hasDrive_17
  · skip
    refine lv_iload_n hx hb dX2_hasDrive_4 rfl (lv_at hl 1 rfl) ?_
    refine lv_aload_n hx hb dX2_hasDrive_5 rfl (lv_at hl 0 rfl) ?_
    refine z_get (C := RX2) (T := TX2) (N := 11) (ci := 2) (v := .int v5) hx hb hT zin_X2 hown hK hw hm_mo hf_mo rfl 5 (by decide) (hT _ kw_222) rfl dX2_hasDrive_6 ?_
    refine z_icmp_ge (tgt := 16) hx hb rfl rfl dX2_hasDrive_9 (by decide) (fun c2 => ?_) (fun c2 => ?_)
    · skip
      refine lv_iconst (v := 0) hx hb dX2_hasDrive_16 (by decide) ?_
      exact z_zret hx hb hr rfl hlk (by decide) (by decide) hw (⟨rfl, Or.inr ⟨rfl, by omega⟩⟩) dX2_hasDrive_17
    · skip
      refine lv_iconst (v := 1) hx hb dX2_hasDrive_12 (by decide) ?_
      refine lv_goto (tgt := 17) hx hb dX2_hasDrive_13 (by decide) ?_
      exact z_zret hx hb hr rfl hlk (by decide) (by decide) hw (⟨rfl, Or.inl ⟨rfl, by omega⟩⟩) dX2_hasDrive_17

set_option maxHeartbeats 4000000 in
set_option maxRecDepth 100000 in
theorem c_X2_isTold (l : Launch) {D : va_G} {cy : Nat → ClassId} {L : List Nat} {f : Nat → va_E} {sz : Nat} {mo la sa mi da : Nat} {v0 v1 v2 v3 v4 v5 v6 : Int32} (hm_mo : mo ∈ L) (hf_mo : f mo = .inr (2, [.int v0, .int v1, .int v2, .int v3, .int v4, .int v5, .int v6, .ref la, .ref sa, .ref mi, .ref da])) : Met l yX2_isTold (z_ws yX2_isTold cX2_isTold 1 (some .boolean)) (z_R 1 0 0) (va_Pc [.ref mo] (z_Pre D vwCl (z_K D cy) L f sz)) (z_Qi D vwCl (fun r u => u = (L, f) ∧ ((r = 1 ∧ 0 < v0.toInt) ∨ (r = 0 ∧ v0.toInt ≤ 0))) L sz) 0 0 (z_A L sz) := by
  refine z_met (cc := cX2_isTold) (maxL := 1) (ret := (some .boolean)) (lv := [(0, .ref mo)]) (by decide) rfl (Nat.le_of_ble_eq_true rfl) rfl ?_
  intro p e s m below meth c ls hx hb hr hlk hml hown hnm hts hKK hA hw hl
  have hK := hKK.1
  have hown : s.vm.findClass RX2 = some m.cls := hown
  have hT : ∀ w ∈ lw_all, w.before ([.ref mo] : List Value).toArray s = true := fun w h => hts w (z_cons w h)
  refine lv_aload_n hx hb dX2_isTold_0 rfl (lv_at hl 0 rfl) ?_
  refine z_get (C := RX2) (T := TX2) (N := 11) (ci := 2) (v := .int v0) hx hb hT zin_X2 hown hK hw hm_mo hf_mo rfl 0 (by decide) (hT _ kw_204) rfl dX2_isTold_1 ?_
  refine z_if_le (tgt := 11) hx hb rfl dX2_isTold_4 (by decide) (fun c1 => ?_) (fun c1 => ?_)
  · skip
    refine lv_iconst (v := 0) hx hb dX2_isTold_11 (by decide) ?_
    exact z_zret hx hb hr rfl hlk (by decide) (by decide) hw (⟨rfl, Or.inr ⟨rfl, by omega⟩⟩) dX2_isTold_12
  · skip
    refine lv_iconst (v := 1) hx hb dX2_isTold_7 (by decide) ?_
    refine lv_goto (tgt := 12) hx hb dX2_isTold_8 (by decide) ?_
    exact z_zret hx hb hr rfl hlk (by decide) (by decide) hw (⟨rfl, Or.inl ⟨rfl, by omega⟩⟩) dX2_isTold_12

set_option maxHeartbeats 4000000 in
set_option maxRecDepth 100000 in
theorem c_X6_isSlot (l : Launch) {D : va_G} {cy : Nat → ClassId} {L : List Nat} {f : Nat → va_E} {sz : Nat} {g : Int32}  : Met l yX6_isSlot (z_ws yX6_isSlot cX6_isSlot 1 (some .boolean)) (z_R 1 0 0) (va_Pc [.int g] (z_Pre D vwCl (z_K D cy) L f sz)) (z_Qi D vwCl (fun r u => u = (L, f) ∧ ((r = 1 ∧ (0 ≤ g.toInt ∧ g.toInt < 4)) ∨ (r = 0 ∧ ¬ (0 ≤ g.toInt ∧ g.toInt < 4)))) L sz) 0 0 (z_A L sz) := by
  refine z_met (cc := cX6_isSlot) (maxL := 1) (ret := (some .boolean)) (lv := [(0, .int g)]) (by decide) rfl (Nat.le_of_ble_eq_true rfl) rfl ?_
  intro p e s m below meth c ls hx hb hr hlk hml hown hnm hts hKK hA hw hl
  have hK := hKK.1
  have hown : s.vm.findClass RX6 = some m.cls := hown
  have hT : ∀ w ∈ lw_all, w.before ([.int g] : List Value).toArray s = true := fun w h => hts w (z_cons w h)
  refine lv_iload_n hx hb dX6_isSlot_0 rfl (lv_at hl 0 rfl) ?_
  refine z_if_lt (tgt := 13) hx hb rfl dX6_isSlot_1 (by decide) (fun c1 => ?_) (fun c1 => ?_)
  · skip
    refine lv_iconst (v := 0) hx hb dX6_isSlot_13 (by decide) ?_
    exact z_zret hx hb hr rfl hlk (by decide) (by decide) hw (⟨rfl, Or.inr ⟨rfl, by omega⟩⟩) dX6_isSlot_14
  · skip
    refine lv_iload_n hx hb dX6_isSlot_4 rfl (lv_at hl 0 rfl) ?_
    refine lv_iconst (v := 4) hx hb dX6_isSlot_5 (by decide) ?_
    refine z_icmp_ge (tgt := 13) hx hb rfl (show (4 : Int32).toInt = 4 by decide) dX6_isSlot_6 (by decide) (fun c2 => ?_) (fun c2 => ?_)
    · skip
      refine lv_iconst (v := 0) hx hb dX6_isSlot_13 (by decide) ?_
      exact z_zret hx hb hr rfl hlk (by decide) (by decide) hw (⟨rfl, Or.inr ⟨rfl, by omega⟩⟩) dX6_isSlot_14
    · skip
      refine lv_iconst (v := 1) hx hb dX6_isSlot_9 (by decide) ?_
      refine lv_goto (tgt := 14) hx hb dX6_isSlot_10 (by decide) ?_
      exact z_zret hx hb hr rfl hlk (by decide) (by decide) hw (⟨rfl, Or.inl ⟨rfl, by omega⟩⟩) dX6_isSlot_14

set_option maxHeartbeats 4000000 in
set_option maxRecDepth 100000 in
theorem c_X10_in (l : Launch) {D : va_G} {cy : Nat → ClassId} {L : List Nat} {f : Nat → va_E} {sz : Nat} {x y z : Int64}  : Met l yX10_in (z_ws yX10_in cX10_in 6 (some .boolean)) (z_R 1 0 0) (va_Pc [.long x, .long y, .long z] (z_Pre D vwCl (z_K D cy) L f sz)) (z_Qi D vwCl (fun r u => u = (L, f) ∧ ((r = 1 ∧ (y.toInt ≤ x.toInt ∧ x.toInt ≤ z.toInt)) ∨ (r = 0 ∧ ¬ (y.toInt ≤ x.toInt ∧ x.toInt ≤ z.toInt)))) L sz) 0 0 (z_A L sz) := by
  refine z_met (cc := cX10_in) (maxL := 6) (ret := (some .boolean)) (lv := [(0, .long x), (2, .long y), (4, .long z)]) (by decide) rfl (Nat.le_of_ble_eq_true rfl) rfl ?_
  intro p e s m below meth c ls hx hb hr hlk hml hown hnm hts hKK hA hw hl
  have hK := hKK.1
  have hown : s.vm.findClass RX10 = some m.cls := hown
  have hT : ∀ w ∈ lw_all, w.before ([.long x, .long y, .long z] : List Value).toArray s = true := fun w h => hts w (z_cons w h)
  refine lv_lload_n hx hb dX10_in_0 rfl (lv_at hl 0 rfl) ?_
  refine lv_lload_n hx hb dX10_in_1 rfl (lv_at hl 1 rfl) ?_
  refine W.lcmp hx hb dX10_in_2 ?_
  refine lv_topi (fun w1 e_w1 => ?_)
  have i_w1 := z_lc e_w1 rfl rfl
  refine z_if_lt (tgt := 17) hx hb rfl dX10_in_3 (by decide) (fun c2 => ?_) (fun c2 => ?_)
  · skip
    refine lv_iconst (v := 0) hx hb dX10_in_17 (by decide) ?_
    exact z_zret hx hb hr rfl hlk (by decide) (by decide) hw (⟨rfl, Or.inr ⟨rfl, by omega⟩⟩) dX10_in_18
  · skip
    refine lv_lload_n hx hb dX10_in_6 rfl (lv_at hl 0 rfl) ?_
    refine lv_lload hx hb dX10_in_7 (lv_at hl 2 rfl) ?_
    refine W.lcmp hx hb dX10_in_9 ?_
    refine lv_topi (fun w3 e_w3 => ?_)
    have i_w3 := z_lc e_w3 rfl rfl
    refine z_if_gt (tgt := 17) hx hb rfl dX10_in_10 (by decide) (fun c4 => ?_) (fun c4 => ?_)
    · skip
      refine lv_iconst (v := 0) hx hb dX10_in_17 (by decide) ?_
      exact z_zret hx hb hr rfl hlk (by decide) (by decide) hw (⟨rfl, Or.inr ⟨rfl, by omega⟩⟩) dX10_in_18
    · skip
      refine lv_iconst (v := 1) hx hb dX10_in_13 (by decide) ?_
      refine lv_goto (tgt := 18) hx hb dX10_in_14 (by decide) ?_
      exact z_zret hx hb hr rfl hlk (by decide) (by decide) hw (⟨rfl, Or.inl ⟨rfl, by omega⟩⟩) dX10_in_18

set_option maxHeartbeats 4000000 in
set_option maxRecDepth 100000 in
theorem c_J7_fill_53178 (l : Launch) {D : va_G} {cy : Nat → ClassId} {L : List Nat} {f : Nat → va_E} {sz : Nat} {a nn : Nat} {g : Nat → Int32} {v : Int32} (hm_a : a ∈ L) (hf_a : f a = .inl (cy 1, nn, .inl g)) (hnn : nn < 2147483648) : Met l yJ7_fill_53178 (z_ws yJ7_fill_53178 cJ7_fill_53178 4 none) (z_R 1 0 0) (va_Pc [.ref a, .int v] (z_Pre D vwCl (z_K D cy) L f sz)) (z_Qv D vwCl (fun u => (∀ b ∈ L, b ∈ u.1) ∧ (∀ b ∈ L, b ≠ a → u.2 b = f b) ∧ (∃ (g2 : Nat → Int32), (u.2 a = .inl (cy 1, nn, .inl g2)) ∧ (∀ j : Nat, j < nn → g2 j = v))) L sz) 0 0 (z_A L sz) := by
  refine z_met (cc := cJ7_fill_53178) (maxL := 4) (ret := none) (lv := [(0, .ref a), (1, .int v)]) (by decide) rfl (Nat.le_of_ble_eq_true rfl) rfl ?_
  intro p e s m below meth c ls hx hb hr hlk hml hown hnm hts hKK hA hw hl
  have hK := hKK.1
  have hown : s.vm.findClass RJ7 = some m.cls := hown
  have hT : ∀ w ∈ lw_all, w.before ([.ref a, .int v] : List Value).toArray s = true := fun w h => hts w (z_cons w h)
  have hsub : ∀ b ∈ L, b ∈ L := fun _ h => h
  have hfr : ∀ b ∈ L, b ≠ a → f b = f b := fun _ _ _ => rfl
  refine lv_iconst (v := 0) hx hb dJ7_fill_53178_0 (by decide) ?_
  refine lv_istore_n (lv' := [(2, .int 0), (0, .ref a), (1, .int v)]) hx hb dJ7_fill_53178_1 rfl hl (by decide) rfl (fun ls hl => ?_)
  refine lv_aload_n hx hb dJ7_fill_53178_2 rfl (lv_at hl 1 rfl) ?_
  refine z_alen (v := (nI nn)) hx hb hK hw 1 hm_a hf_a rfl rfl dJ7_fill_53178_3 ?_
  refine lv_istore_n (lv' := [(3, .int (nI nn)), (2, .int 0), (0, .ref a), (1, .int v)]) hx hb dJ7_fill_53178_4 rfl hl (by decide) rfl (fun ls hl => ?_)
  have hzk : (0 : Int32).toInt = 0 := by decide
  refine z_loop (fun n H locs ls => ∃ (K1 : Int32) (G3 : Nat → Int32) (f2 : Nat → va_E), (n = (nn - K1.toInt).toNat) ∧ (0 ≤ K1.toInt) ∧ (K1.toInt ≤ nn) ∧ (∀ j : Nat, (j : Int) < K1.toInt → G3 j = v) ∧ (z_H D vwCl (z_A L sz) s.heap L f2 H locs) ∧ (f2 a = .inl (cy 1, nn, .inl G3)) ∧ (∀ b ∈ L, b ≠ a → f2 b = f b) ∧ (lv_has ls 4 [(3, .int (nI nn)), (2, .int K1), (0, .ref a), (1, .int v)])) _ ⟨0, g, f, rfl, (by first | decide | omega), (by first | decide | omega), (fun j hj => absurd hj (by rw [show (0 : Int32).toInt = 0 from rfl]; omega)), hw, hf_a, hfr, (lv_sub hl [0, 1, 2, 3] rfl)⟩ (fun n H locs ls hI ih => ?_)
  obtain ⟨K1, G3, f2, hn, hk0, hk1, hi0, hw, hf_a, hfr, hl⟩ := hI
  refine lv_iload_n hx hb dJ7_fill_53178_5 rfl (lv_at hl 1 rfl) ?_
  refine lv_iload_n hx hb dJ7_fill_53178_6 rfl (lv_at hl 0 rfl) ?_
  refine z_icmp_ge (tgt := 20) hx hb rfl (nI_toInt hnn) dJ7_fill_53178_7 (by decide) (fun c4 => ?_) (fun c4 => ?_)
  · skip
    exact z_vret hx hb hr hlk (by decide) (by decide) hw (⟨hsub, hfr, _, hf_a, fun j hj => hi0 j (by omega)⟩) dJ7_fill_53178_20
  · skip
    refine lv_aload_n hx hb dJ7_fill_53178_10 rfl (lv_at hl 2 rfl) ?_
    refine lv_iload_n hx hb dJ7_fill_53178_11 rfl (lv_at hl 1 rfl) ?_
    refine lv_iload_n hx hb dJ7_fill_53178_12 rfl (lv_at hl 3 rfl) ?_
    refine z_iast hx hb hK hw 1 hm_a hf_a rfl (z_ix rfl (by omega)) dJ7_fill_53178_13 (fun H locs hw => ?_)
    obtain ⟨f6, e_f6⟩ : ∃ z, z = va_up f2 a (.inl (cy 1, nn, .inl (upd G3 K1.toNatClampNeg v))) := ⟨_, rfl⟩
    rw [← e_f6] at hw
    have hf_a : f6 a = .inl (cy 1, nn, .inl (upd G3 K1.toNatClampNeg v)) := (congrFun e_f6 a).trans z_up_self
    have hfr : ∀ b ∈ L, b ≠ a → f6 b = f b := fun b hb h0 => (congrFun e_f6 b).trans (z_up_ne h0 (hfr b hb h0))
    obtain ⟨g5, e_g5⟩ : ∃ z, z = (upd G3 K1.toNatClampNeg v) := ⟨_, rfl⟩
    rw [← e_g5] at hf_a
    obtain ⟨k7, e_k7⟩ : ∃ z : Int32, z = K1 + 1 := ⟨_, rfl⟩
    refine lv_iinc (v := k7) (lv' := [(2, .int k7), (3, .int (nI nn)), (0, .ref a), (1, .int v)]) hx hb dJ7_fill_53178_14 hl (k := 1) rfl (by rw [e_k7]; rfl) (by decide) rfl (fun ls hl => ?_)
    have i_k7 : k7.toInt = (K1.toInt + 1) := z_add e_k7 rfl (by decide) (by omega)
    refine lv_goto (tgt := 5) hx hb dJ7_fill_53178_17 (by decide) ?_
    exact ih _ (by omega) _ _ _ ⟨k7, g5, f6, rfl, (by first | decide | omega), (by first | decide | omega), (z_updlt hk0 i_k7 e_g5 hi0), hw, hf_a, hfr, (lv_sub hl [1, 0, 2, 3] rfl)⟩

set_option maxHeartbeats 4000000 in
set_option maxRecDepth 100000 in
theorem c_J7_fill_d0a16 (l : Launch) {D : va_G} {cy : Nat → ClassId} {L : List Nat} {f : Nat → va_E} {sz : Nat} {a nn : Nat} {g : Nat → Int64} {v : Int64} (hm_a : a ∈ L) (hf_a : f a = .inl (cy 2, nn, .inr (.inl g))) (hnn : nn < 2147483648) : Met l yJ7_fill_d0a16 (z_ws yJ7_fill_d0a16 cJ7_fill_d0a16 5 none) (z_R 1 0 0) (va_Pc [.ref a, .long v] (z_Pre D vwCl (z_K D cy) L f sz)) (z_Qv D vwCl (fun u => (∀ b ∈ L, b ∈ u.1) ∧ (∀ b ∈ L, b ≠ a → u.2 b = f b) ∧ (∃ (g2 : Nat → Int64), (u.2 a = .inl (cy 2, nn, .inr (.inl g2))) ∧ (∀ j : Nat, j < nn → g2 j = v))) L sz) 0 0 (z_A L sz) := by
  refine z_met (cc := cJ7_fill_d0a16) (maxL := 5) (ret := none) (lv := [(0, .ref a), (1, .long v)]) (by decide) rfl (Nat.le_of_ble_eq_true rfl) rfl ?_
  intro p e s m below meth c ls hx hb hr hlk hml hown hnm hts hKK hA hw hl
  have hK := hKK.1
  have hown : s.vm.findClass RJ7 = some m.cls := hown
  have hT : ∀ w ∈ lw_all, w.before ([.ref a, .long v] : List Value).toArray s = true := fun w h => hts w (z_cons w h)
  have hsub : ∀ b ∈ L, b ∈ L := fun _ h => h
  have hfr : ∀ b ∈ L, b ≠ a → f b = f b := fun _ _ _ => rfl
  refine lv_iconst (v := 0) hx hb dJ7_fill_d0a16_0 (by decide) ?_
  refine lv_istore_n (lv' := [(3, .int 0), (0, .ref a), (1, .long v)]) hx hb dJ7_fill_d0a16_1 rfl hl (by decide) rfl (fun ls hl => ?_)
  refine lv_aload_n hx hb dJ7_fill_d0a16_2 rfl (lv_at hl 1 rfl) ?_
  refine z_alen (v := (nI nn)) hx hb hK hw 2 hm_a hf_a rfl rfl dJ7_fill_d0a16_3 ?_
  refine lv_istore (lv' := [(4, .int (nI nn)), (3, .int 0), (0, .ref a), (1, .long v)]) hx hb dJ7_fill_d0a16_4 hl (by decide) rfl (fun ls hl => ?_)
  have hzk : (0 : Int32).toInt = 0 := by decide
  refine z_loop (fun n H locs ls => ∃ (K1 : Int32) (G3 : Nat → Int64) (f2 : Nat → va_E), (n = (nn - K1.toInt).toNat) ∧ (0 ≤ K1.toInt) ∧ (K1.toInt ≤ nn) ∧ (∀ j : Nat, (j : Int) < K1.toInt → G3 j = v) ∧ (z_H D vwCl (z_A L sz) s.heap L f2 H locs) ∧ (f2 a = .inl (cy 2, nn, .inr (.inl G3))) ∧ (∀ b ∈ L, b ≠ a → f2 b = f b) ∧ (lv_has ls 5 [(4, .int (nI nn)), (3, .int K1), (0, .ref a), (1, .long v)])) _ ⟨0, g, f, rfl, (by first | decide | omega), (by first | decide | omega), (fun j hj => absurd hj (by rw [show (0 : Int32).toInt = 0 from rfl]; omega)), hw, hf_a, hfr, (lv_sub hl [0, 1, 2, 3] rfl)⟩ (fun n H locs ls hI ih => ?_)
  obtain ⟨K1, G3, f2, hn, hk0, hk1, hi0, hw, hf_a, hfr, hl⟩ := hI
  refine lv_iload_n hx hb dJ7_fill_d0a16_6 rfl (lv_at hl 1 rfl) ?_
  refine lv_iload hx hb dJ7_fill_d0a16_7 (lv_at hl 0 rfl) ?_
  refine z_icmp_ge (tgt := 22) hx hb rfl (nI_toInt hnn) dJ7_fill_d0a16_9 (by decide) (fun c4 => ?_) (fun c4 => ?_)
  · skip
    exact z_vret hx hb hr hlk (by decide) (by decide) hw (⟨hsub, hfr, _, hf_a, fun j hj => hi0 j (by omega)⟩) dJ7_fill_d0a16_22
  · skip
    refine lv_aload_n hx hb dJ7_fill_d0a16_12 rfl (lv_at hl 2 rfl) ?_
    refine lv_iload_n hx hb dJ7_fill_d0a16_13 rfl (lv_at hl 1 rfl) ?_
    refine lv_lload_n hx hb dJ7_fill_d0a16_14 rfl (lv_at hl 3 rfl) ?_
    refine z_last hx hb hK hw 2 hm_a hf_a rfl (z_ix rfl (by omega)) dJ7_fill_d0a16_15 (fun H locs hw => ?_)
    obtain ⟨f6, e_f6⟩ : ∃ z, z = va_up f2 a (.inl (cy 2, nn, .inr (.inl (vp_updL G3 K1.toNatClampNeg v)))) := ⟨_, rfl⟩
    rw [← e_f6] at hw
    have hf_a : f6 a = .inl (cy 2, nn, .inr (.inl (vp_updL G3 K1.toNatClampNeg v))) := (congrFun e_f6 a).trans z_up_self
    have hfr : ∀ b ∈ L, b ≠ a → f6 b = f b := fun b hb h0 => (congrFun e_f6 b).trans (z_up_ne h0 (hfr b hb h0))
    obtain ⟨g5, e_g5⟩ : ∃ z, z = (vp_updL G3 K1.toNatClampNeg v) := ⟨_, rfl⟩
    rw [← e_g5] at hf_a
    obtain ⟨k7, e_k7⟩ : ∃ z : Int32, z = K1 + 1 := ⟨_, rfl⟩
    refine lv_iinc (v := k7) (lv' := [(3, .int k7), (4, .int (nI nn)), (0, .ref a), (1, .long v)]) hx hb dJ7_fill_d0a16_16 hl (k := 1) rfl (by rw [e_k7]; rfl) (by decide) rfl (fun ls hl => ?_)
    have i_k7 : k7.toInt = (K1.toInt + 1) := z_add e_k7 rfl (by decide) (by omega)
    refine lv_goto (tgt := 6) hx hb dJ7_fill_d0a16_19 (by decide) ?_
    exact ih _ (by omega) _ _ _ ⟨k7, g5, f6, rfl, (by first | decide | omega), (by first | decide | omega), (z_updltL hk0 i_k7 e_g5 hi0), hw, hf_a, hfr, (lv_sub hl [1, 0, 2, 3] rfl)⟩
