set_option maxHeartbeats 2000000 in
set_option maxRecDepth 100000 in
theorem c_X9_isRing (l : Launch) {D : va_G} {cy : Nat → ClassId} {L : List Nat} {f : Nat → va_E} {sz : Nat} {hs tp rd mo dr im kp sl wk pl ex mx : Nat} {la sa mi da : Nat} {xa xb : Int32} (hm_hs : hs ∈ L) (hm_mo : mo ∈ L) (hf_hs : f hs = .inr (9, [.ref tp, .ref rd, .ref mo, .ref dr, .ref im, .ref kp, .ref sl, .ref wk, .ref pl, .ref ex, .ref mx])) (hf_mo : f mo = .inr (2, [.int 0, .int 0, .int 0, .int 0, .int 0, .int 0, .int 0, .ref la, .ref sa, .ref mi, .ref da])) : Met l yX9_isRing (z_ws yX9_isRing cX9_isRing 3 (some .boolean)) (z_R 2 0 0) (va_Pc [.ref hs, .int xa, .int xb] (z_Pre D vwCl (z_K D cy) L f sz)) (z_Qi D vwCl (fun r u => u = (L, f) ∧ (r = 0)) L sz) 0 0 (z_A L sz) := by
  refine z_met (cc := cX9_isRing) (maxL := 3) (ret := (some .boolean)) (lv := [(0, .ref hs), (1, .int xa), (2, .int xb)]) (by decide) rfl (Nat.le_of_ble_eq_true rfl) rfl ?_
  intro p e s m below meth c ls hx hb hr hlk hml hown hnm hts hKK hA hw hl
  have hK := hKK.1
  have hown : s.vm.findClass RX9 = some m.cls := hown
  have hT : ∀ w ∈ lw_all, w.before ([.ref hs, .int xa, .int xb] : List Value).toArray s = true := fun w h => hts w (z_cons w h)
  refine lv_aload_n hx hb dX9_isRing_0 rfl (lv_at hl 0 rfl) ?_
  refine z_get (C := RX9) (T := TX9) (N := 11) (ci := 9) (v := .ref mo) hx hb hT zin_X9 hown hK hw hm_hs hf_hs rfl 2 (by decide) (hT _ kw_479) rfl dX9_isRing_1 ?_
  refine lv_iload_n hx hb dX9_isRing_4 rfl (lv_at hl 1 rfl) ?_
  refine z_calliV (cells := 0) (slots := 0) (b := mo) (As := [.int xa]) (rest := []) (ci := 2) (q0 := (RX2, TX2, 11)) ⟨hx, hb, hml, hown, hT⟩ (c_X2_hasGap l hm_mo hf_mo) (cwV 1 hT (z_goodV (fun _ h => h) kw_736 kw_737 kw_738 kw_87 kw_739) rfl rfl rfl (by decide +kernel) ⟨by decide, by decide⟩) z_mv hKK hK hw hA hm_mo hf_mo rfl rfl rfl hl.1 rfl (Nat.le_of_ble_eq_true rfl) dX9_isRing_5 ⟨by decide, by decide⟩ (fun r1 u H locs hp hw => ?_)
  obtain ⟨rfl, hp⟩ := hp
  have hw : z_H D vwCl (z_A L sz) s.heap L f H locs := hw
  rcases hp with ⟨rfl, h2⟩ | ⟨rfl, h2⟩
  · exact absurd (Int.lt_of_le_of_lt h2.1 h2.2) (by decide)
  · skip
    refine z_if_eq (tgt := 27) hx hb (show (0 : Int32).toInt = 0 by decide) dX9_isRing_8 (by decide) (fun _ => ?_) (fun h => absurd h (by decide))
    refine lv_iconst (v := 0) hx hb dX9_isRing_27 (by decide) ?_
    exact z_zret hx hb hr rfl hlk (by decide) (by decide) hw (⟨rfl, rfl⟩) dX9_isRing_28

set_option maxHeartbeats 2000000 in
set_option maxRecDepth 100000 in
theorem c_X9_explain (l : Launch) {D : va_G} {cy : Nat → ClassId} {L : List Nat} {f : Nat → va_E} {sz : Nat} {hs tp rd mo dr im kp sl wk pl ex mx : Nat} {la sa mi da : Nat} {xa xb xc : Int32} (hm_hs : hs ∈ L) (hm_mo : mo ∈ L) (hf_hs : f hs = .inr (9, [.ref tp, .ref rd, .ref mo, .ref dr, .ref im, .ref kp, .ref sl, .ref wk, .ref pl, .ref ex, .ref mx])) (hf_mo : f mo = .inr (2, [.int 0, .int 0, .int 0, .int 0, .int 0, .int 0, .int 0, .ref la, .ref sa, .ref mi, .ref da])) : Met l yX9_explain (z_ws yX9_explain cX9_explain 4 (some .int)) (z_R 2 0 0) (va_Pc [.ref hs, .int xa, .int xb, .int xc] (z_Pre D vwCl (z_K D cy) L f sz)) (z_Qi D vwCl (fun r u => u = (L, f) ∧ (r = (-2))) L sz) 0 0 (z_A L sz) := by
  refine z_met (cc := cX9_explain) (maxL := 4) (ret := (some .int)) (lv := [(0, .ref hs), (1, .int xa), (2, .int xb), (3, .int xc)]) (by decide) rfl (Nat.le_of_ble_eq_true rfl) rfl ?_
  intro p e s m below meth c ls hx hb hr hlk hml hown hnm hts hKK hA hw hl
  have hK := hKK.1
  have hown : s.vm.findClass RX9 = some m.cls := hown
  have hT : ∀ w ∈ lw_all, w.before ([.ref hs, .int xa, .int xb, .int xc] : List Value).toArray s = true := fun w h => hts w (z_cons w h)
  refine lv_iload_n hx hb dX9_explain_0 rfl (lv_at hl 1 rfl) ?_
  refine z_calliS (cells := 0) (slots := 0) (As := [.int xa]) (rest := []) ⟨hx, hb, hml, hown, hT⟩ (c_X6_isSlot l ) (va_cwS 1 hT (z_goodS (fun _ h => h) kw_999 kw_1000 kw_90 kw_1001) rfl rfl rfl (by decide +kernel) ⟨by decide, by decide⟩) z_mv hKK hw hA rfl hl.1 rfl (Nat.le_of_ble_eq_true rfl) dX9_explain_1 ⟨by decide, by decide⟩ (fun r1 u H locs hp hw => ?_)
  obtain ⟨rfl, hp⟩ := hp
  have hw : z_H D vwCl (z_A L sz) s.heap L f H locs := hw
  rcases hp with ⟨rfl, h2⟩ | ⟨rfl, h2⟩
  · skip
    refine z_if_eq (tgt := 29) hx hb (show (1 : Int32).toInt = 1 by decide) dX9_explain_4 (by decide) (fun h => absurd h (by decide)) (fun _ => ?_)
    refine lv_aload_n hx hb dX9_explain_7 rfl (lv_at hl 0 rfl) ?_
    refine z_get (C := RX9) (T := TX9) (N := 11) (ci := 9) (v := .ref mo) hx hb hT zin_X9 hown hK hw hm_hs hf_hs rfl 2 (by decide) (hT _ kw_479) rfl dX9_explain_8 ?_
    refine lv_iload_n hx hb dX9_explain_11 rfl (lv_at hl 2 rfl) ?_
    refine z_calliV (cells := 0) (slots := 0) (b := mo) (As := [.int xb]) (rest := []) (ci := 2) (q0 := (RX2, TX2, 11)) ⟨hx, hb, hml, hown, hT⟩ (c_X2_hasGap l hm_mo hf_mo) (cwV 1 hT (z_goodV (fun _ h => h) kw_736 kw_737 kw_738 kw_87 kw_739) rfl rfl rfl (by decide +kernel) ⟨by decide, by decide⟩) z_mv hKK hK hw hA hm_mo hf_mo rfl rfl rfl hl.1 rfl (Nat.le_of_ble_eq_true rfl) dX9_explain_12 ⟨by decide, by decide⟩ (fun r3 u H locs hp hw => ?_)
    obtain ⟨rfl, hp⟩ := hp
    have hw : z_H D vwCl (z_A L sz) s.heap L f H locs := hw
    rcases hp with ⟨rfl, h4⟩ | ⟨rfl, h4⟩
    · exact absurd (Int.lt_of_le_of_lt h4.1 h4.2) (by decide)
    · skip
      refine z_if_eq (tgt := 29) hx hb (show (0 : Int32).toInt = 0 by decide) dX9_explain_15 (by decide) (fun _ => ?_) (fun h => absurd h (by decide))
      refine lv_bipush (v := (-2)) hx hb dX9_explain_29 (by decide) ?_
      exact z_iret hx hb hr hlk (by decide) (by decide) hw (⟨rfl, rfl⟩) dX9_explain_31
  · skip
    refine z_if_eq (tgt := 29) hx hb (show (0 : Int32).toInt = 0 by decide) dX9_explain_4 (by decide) (fun _ => ?_) (fun h => absurd h (by decide))
    refine lv_bipush (v := (-2)) hx hb dX9_explain_29 (by decide) ?_
    exact z_iret hx hb hr hlk (by decide) (by decide) hw (⟨rfl, rfl⟩) dX9_explain_31

set_option maxHeartbeats 2000000 in
set_option maxRecDepth 100000 in
theorem c_X9_askTold (l : Launch) {D : va_G} {cy : Nat → ClassId} {L : List Nat} {f : Nat → va_E} {sz : Nat} {hs tp rd mo dr im kp sl wk pl ex mx : Nat} {la sa mi da : Nat} {xa xb : Int32} (hm_hs : hs ∈ L) (hm_mo : mo ∈ L) (hf_hs : f hs = .inr (9, [.ref tp, .ref rd, .ref mo, .ref dr, .ref im, .ref kp, .ref sl, .ref wk, .ref pl, .ref ex, .ref mx])) (hf_mo : f mo = .inr (2, [.int 0, .int 0, .int 0, .int 0, .int 0, .int 0, .int 0, .ref la, .ref sa, .ref mi, .ref da])) : Met l yX9_askTold (z_ws yX9_askTold cX9_askTold 3 (some .int)) (z_R 2 0 0) (va_Pc [.ref hs, .int xa, .int xb] (z_Pre D vwCl (z_K D cy) L f sz)) (z_Qi D vwCl (fun r u => u = (L, f) ∧ (r = (-2))) L sz) 0 0 (z_A L sz) := by
  refine z_met (cc := cX9_askTold) (maxL := 3) (ret := (some .int)) (lv := [(0, .ref hs), (1, .int xa), (2, .int xb)]) (by decide) rfl (Nat.le_of_ble_eq_true rfl) rfl ?_
  intro p e s m below meth c ls hx hb hr hlk hml hown hnm hts hKK hA hw hl
  have hK := hKK.1
  have hown : s.vm.findClass RX9 = some m.cls := hown
  have hT : ∀ w ∈ lw_all, w.before ([.ref hs, .int xa, .int xb] : List Value).toArray s = true := fun w h => hts w (z_cons w h)
  refine lv_iload_n hx hb dX9_askTold_0 rfl (lv_at hl 1 rfl) ?_
  refine z_calliS (cells := 0) (slots := 0) (As := [.int xa]) (rest := []) ⟨hx, hb, hml, hown, hT⟩ (c_X6_isSlot l ) (va_cwS 1 hT (z_goodS (fun _ h => h) kw_999 kw_1000 kw_90 kw_1001) rfl rfl rfl (by decide +kernel) ⟨by decide, by decide⟩) z_mv hKK hw hA rfl hl.1 rfl (Nat.le_of_ble_eq_true rfl) dX9_askTold_1 ⟨by decide, by decide⟩ (fun r1 u H locs hp hw => ?_)
  obtain ⟨rfl, hp⟩ := hp
  have hw : z_H D vwCl (z_A L sz) s.heap L f H locs := hw
  rcases hp with ⟨rfl, h2⟩ | ⟨rfl, h2⟩
  · skip
    refine z_if_eq (tgt := 18) hx hb (show (1 : Int32).toInt = 1 by decide) dX9_askTold_4 (by decide) (fun h => absurd h (by decide)) (fun _ => ?_)
    refine lv_aload_n hx hb dX9_askTold_7 rfl (lv_at hl 0 rfl) ?_
    refine z_get (C := RX9) (T := TX9) (N := 11) (ci := 9) (v := .ref mo) hx hb hT zin_X9 hown hK hw hm_hs hf_hs rfl 2 (by decide) (hT _ kw_479) rfl dX9_askTold_8 ?_
    refine lv_iload_n hx hb dX9_askTold_11 rfl (lv_at hl 2 rfl) ?_
    refine z_calliV (cells := 0) (slots := 0) (b := mo) (As := [.int xb]) (rest := []) (ci := 2) (q0 := (RX2, TX2, 11)) ⟨hx, hb, hml, hown, hT⟩ (c_X2_hasDay l hm_mo hf_mo) (cwV 1 hT (z_goodV (fun _ h => h) kw_751 kw_752 kw_753 kw_87 kw_754) rfl rfl rfl (by decide +kernel) ⟨by decide, by decide⟩) z_mv hKK hK hw hA hm_mo hf_mo rfl rfl rfl hl.1 rfl (Nat.le_of_ble_eq_true rfl) dX9_askTold_12 ⟨by decide, by decide⟩ (fun r3 u H locs hp hw => ?_)
    obtain ⟨rfl, hp⟩ := hp
    have hw : z_H D vwCl (z_A L sz) s.heap L f H locs := hw
    rcases hp with ⟨rfl, h4⟩ | ⟨rfl, h4⟩
    · exact absurd (Int.lt_of_le_of_lt h4.1 h4.2) (by decide)
    · skip
      refine z_if_ne (tgt := 21) hx hb (show (0 : Int32).toInt = 0 by decide) dX9_askTold_15 (by decide) (fun h => absurd h (by decide)) (fun _ => ?_)
      refine lv_bipush (v := (-2)) hx hb dX9_askTold_18 (by decide) ?_
      exact z_iret hx hb hr hlk (by decide) (by decide) hw (⟨rfl, rfl⟩) dX9_askTold_20
  · skip
    refine z_if_eq (tgt := 18) hx hb (show (0 : Int32).toInt = 0 by decide) dX9_askTold_4 (by decide) (fun _ => ?_) (fun h => absurd h (by decide))
    refine lv_bipush (v := (-2)) hx hb dX9_askTold_18 (by decide) ?_
    exact z_iret hx hb hr hlk (by decide) (by decide) hw (⟨rfl, rfl⟩) dX9_askTold_20

set_option maxHeartbeats 2000000 in
set_option maxRecDepth 100000 in
theorem c_X9_drive (l : Launch) {D : va_G} {cy : Nat → ClassId} {L : List Nat} {f : Nat → va_E} {sz : Nat} {hs tp rd mo dr im kp sl wk pl ex mx : Nat} {la sa mi da : Nat} {xa xb : Int32} (hm_hs : hs ∈ L) (hm_mo : mo ∈ L) (hf_hs : f hs = .inr (9, [.ref tp, .ref rd, .ref mo, .ref dr, .ref im, .ref kp, .ref sl, .ref wk, .ref pl, .ref ex, .ref mx])) (hf_mo : f mo = .inr (2, [.int 0, .int 0, .int 0, .int 0, .int 0, .int 0, .int 0, .ref la, .ref sa, .ref mi, .ref da])) : Met l yX9_drive (z_ws yX9_drive cX9_drive 4 (some .int)) (z_R 3 0 0) (va_Pc [.ref hs, .int xa, .int xb] (z_Pre D vwCl (z_K D cy) L f sz)) (z_Qi D vwCl (fun r u => u = (L, f) ∧ (r.toInt = -2)) L sz) 0 0 (z_A L sz) := by
  refine z_met (cc := cX9_drive) (maxL := 4) (ret := (some .int)) (lv := [(0, .ref hs), (1, .int xa), (2, .int xb)]) (by decide) rfl (Nat.le_of_ble_eq_true rfl) rfl ?_
  intro p e s m below meth c ls hx hb hr hlk hml hown hnm hts hKK hA hw hl
  have hK := hKK.1
  have hown : s.vm.findClass RX9 = some m.cls := hown
  have hT : ∀ w ∈ lw_all, w.before ([.ref hs, .int xa, .int xb] : List Value).toArray s = true := fun w h => hts w (z_cons w h)
  refine lv_aload_n hx hb dX9_drive_0 rfl (lv_at hl 0 rfl) ?_
  refine z_get (C := RX9) (T := TX9) (N := 11) (ci := 9) (v := .ref mo) hx hb hT zin_X9 hown hK hw hm_hs hf_hs rfl 2 (by decide) (hT _ kw_479) rfl dX9_drive_1 ?_
  refine lv_iload_n hx hb dX9_drive_4 rfl (lv_at hl 1 rfl) ?_
  refine z_calliV (cells := 0) (slots := 0) (b := mo) (As := [.int xa]) (rest := []) (ci := 2) (q0 := (RX2, TX2, 11)) ⟨hx, hb, hml, hown, hT⟩ (c_X2_hasDrive l hm_mo hf_mo) (cwV 1 hT (z_goodV (fun _ h => h) kw_709 kw_710 kw_711 kw_87 kw_712) rfl rfl rfl (by decide +kernel) ⟨by decide, by decide⟩) z_mv hKK hK hw hA hm_mo hf_mo rfl rfl rfl hl.1 rfl (Nat.le_of_ble_eq_true rfl) dX9_drive_5 ⟨by decide, by decide⟩ (fun r1 u H locs hp hw => ?_)
  obtain ⟨rfl, hp⟩ := hp
  have hw : z_H D vwCl (z_A L sz) s.heap L f H locs := hw
  rcases hp with ⟨rfl, h2⟩ | ⟨rfl, h2⟩
  · exact absurd (Int.lt_of_le_of_lt h2.1 h2.2) (by decide)
  · skip
    refine z_if_ne (tgt := 14) hx hb (show (0 : Int32).toInt = 0 by decide) dX9_drive_8 (by decide) (fun h => absurd h (by decide)) (fun _ => ?_)
    refine lv_bipush (v := (-2)) hx hb dX9_drive_11 (by decide) ?_
    exact z_iret hx hb hr hlk (by decide) (by decide) hw (⟨rfl, by decide⟩) dX9_drive_13

set_option maxHeartbeats 2000000 in
set_option maxRecDepth 100000 in
theorem c_X9_goes (l : Launch) {D : va_G} {cy : Nat → ClassId} {L : List Nat} {f : Nat → va_E} {sz : Nat} {hs tp rd mo dr im kp sl wk pl ex mx : Nat} {la sa mi da : Nat} {xa : Int32} (hm_hs : hs ∈ L) (hm_mo : mo ∈ L) (hf_hs : f hs = .inr (9, [.ref tp, .ref rd, .ref mo, .ref dr, .ref im, .ref kp, .ref sl, .ref wk, .ref pl, .ref ex, .ref mx])) (hf_mo : f mo = .inr (2, [.int 0, .int 0, .int 0, .int 0, .int 0, .int 0, .int 0, .ref la, .ref sa, .ref mi, .ref da])) : Met l yX9_goes (z_ws yX9_goes cX9_goes 2 (some .int)) (z_R 3 0 0) (va_Pc [.ref hs, .int xa] (z_Pre D vwCl (z_K D cy) L f sz)) (z_Qi D vwCl (fun r u => u = (L, f) ∧ (r.toInt = -2)) L sz) 0 0 (z_A L sz) := by
  refine z_met (cc := cX9_goes) (maxL := 2) (ret := (some .int)) (lv := [(0, .ref hs), (1, .int xa)]) (by decide) rfl (Nat.le_of_ble_eq_true rfl) rfl ?_
  intro p e s m below meth c ls hx hb hr hlk hml hown hnm hts hKK hA hw hl
  have hK := hKK.1
  have hown : s.vm.findClass RX9 = some m.cls := hown
  have hT : ∀ w ∈ lw_all, w.before ([.ref hs, .int xa] : List Value).toArray s = true := fun w h => hts w (z_cons w h)
  refine lv_aload_n hx hb dX9_goes_0 rfl (lv_at hl 0 rfl) ?_
  refine z_get (C := RX9) (T := TX9) (N := 11) (ci := 9) (v := .ref mo) hx hb hT zin_X9 hown hK hw hm_hs hf_hs rfl 2 (by decide) (hT _ kw_479) rfl dX9_goes_1 ?_
  refine lv_iload_n hx hb dX9_goes_4 rfl (lv_at hl 1 rfl) ?_
  refine z_calliV (cells := 0) (slots := 0) (b := mo) (As := [.int xa]) (rest := []) (ci := 2) (q0 := (RX2, TX2, 11)) ⟨hx, hb, hml, hown, hT⟩ (c_X2_hasDrive l hm_mo hf_mo) (cwV 1 hT (z_goodV (fun _ h => h) kw_709 kw_710 kw_711 kw_87 kw_712) rfl rfl rfl (by decide +kernel) ⟨by decide, by decide⟩) z_mv hKK hK hw hA hm_mo hf_mo rfl rfl rfl hl.1 rfl (Nat.le_of_ble_eq_true rfl) dX9_goes_5 ⟨by decide, by decide⟩ (fun r1 u H locs hp hw => ?_)
  obtain ⟨rfl, hp⟩ := hp
  have hw : z_H D vwCl (z_A L sz) s.heap L f H locs := hw
  rcases hp with ⟨rfl, h2⟩ | ⟨rfl, h2⟩
  · exact absurd (Int.lt_of_le_of_lt h2.1 h2.2) (by decide)
  · skip
    refine z_if_eq (tgt := 22) hx hb (show (0 : Int32).toInt = 0 by decide) dX9_goes_8 (by decide) (fun _ => ?_) (fun h => absurd h (by decide))
    refine lv_bipush (v := (-2)) hx hb dX9_goes_22 (by decide) ?_
    exact z_iret hx hb hr hlk (by decide) (by decide) hw (⟨rfl, by decide⟩) dX9_goes_24

set_option maxHeartbeats 2000000 in
set_option maxRecDepth 100000 in
theorem c_X9_law (l : Launch) {D : va_G} {cy : Nat → ClassId} {L : List Nat} {f : Nat → va_E} {sz : Nat} {hs tp rd mo dr im kp sl wk pl ex mx : Nat} {la sa mi da : Nat} {xa xb : Int32} (hm_hs : hs ∈ L) (hm_mo : mo ∈ L) (hf_hs : f hs = .inr (9, [.ref tp, .ref rd, .ref mo, .ref dr, .ref im, .ref kp, .ref sl, .ref wk, .ref pl, .ref ex, .ref mx])) (hf_mo : f mo = .inr (2, [.int 0, .int 0, .int 0, .int 0, .int 0, .int 0, .int 0, .ref la, .ref sa, .ref mi, .ref da])) : Met l yX9_law (z_ws yX9_law cX9_law 4 (some .int)) (z_R 3 0 0) (va_Pc [.ref hs, .int xa, .int xb] (z_Pre D vwCl (z_K D cy) L f sz)) (z_Qi D vwCl (fun r u => u = (L, f) ∧ (r.toInt = -2)) L sz) 0 0 (z_A L sz) := by
  refine z_met (cc := cX9_law) (maxL := 4) (ret := (some .int)) (lv := [(0, .ref hs), (1, .int xa), (2, .int xb)]) (by decide) rfl (Nat.le_of_ble_eq_true rfl) rfl ?_
  intro p e s m below meth c ls hx hb hr hlk hml hown hnm hts hKK hA hw hl
  have hK := hKK.1
  have hown : s.vm.findClass RX9 = some m.cls := hown
  have hT : ∀ w ∈ lw_all, w.before ([.ref hs, .int xa, .int xb] : List Value).toArray s = true := fun w h => hts w (z_cons w h)
  refine lv_aload_n hx hb dX9_law_0 rfl (lv_at hl 0 rfl) ?_
  refine z_get (C := RX9) (T := TX9) (N := 11) (ci := 9) (v := .ref mo) hx hb hT zin_X9 hown hK hw hm_hs hf_hs rfl 2 (by decide) (hT _ kw_479) rfl dX9_law_1 ?_
  refine z_calliV (cells := 0) (slots := 0) (b := mo) (As := []) (rest := []) (ci := 2) (q0 := (RX2, TX2, 11)) ⟨hx, hb, hml, hown, hT⟩ (c_X2_isTold l hm_mo hf_mo) (cwV 0 hT (z_goodV (fun _ h => h) kw_725 kw_726 kw_727 kw_87 kw_728) rfl rfl rfl (by decide +kernel) ⟨by decide, by decide⟩) z_mv hKK hK hw hA hm_mo hf_mo rfl rfl rfl hl.1 rfl (Nat.le_of_ble_eq_true rfl) dX9_law_4 ⟨by decide, by decide⟩ (fun r1 u H locs hp hw => ?_)
  obtain ⟨rfl, hp⟩ := hp
  have hw : z_H D vwCl (z_A L sz) s.heap L f H locs := hw
  rcases hp with ⟨rfl, h2⟩ | ⟨rfl, h2⟩
  · exact absurd h2 (by decide)
  · skip
    refine z_if_eq (tgt := 18) hx hb (show (0 : Int32).toInt = 0 by decide) dX9_law_7 (by decide) (fun _ => ?_) (fun h => absurd h (by decide))
    refine lv_bipush (v := (-2)) hx hb dX9_law_18 (by decide) ?_
    exact z_iret hx hb hr hlk (by decide) (by decide) hw (⟨rfl, by decide⟩) dX9_law_20

set_option maxHeartbeats 2000000 in
set_option maxRecDepth 100000 in
theorem c_X9_sets (l : Launch) {D : va_G} {cy : Nat → ClassId} {L : List Nat} {f : Nat → va_E} {sz : Nat} {hs tp rd mo dr im kp sl wk pl ex mx : Nat} {la sa mi da : Nat} {xa xb xc : Int32} (hm_hs : hs ∈ L) (hm_mo : mo ∈ L) (hf_hs : f hs = .inr (9, [.ref tp, .ref rd, .ref mo, .ref dr, .ref im, .ref kp, .ref sl, .ref wk, .ref pl, .ref ex, .ref mx])) (hf_mo : f mo = .inr (2, [.int 0, .int 0, .int 0, .int 0, .int 0, .int 0, .int 0, .ref la, .ref sa, .ref mi, .ref da])) : Met l yX9_sets (z_ws yX9_sets cX9_sets 6 (some .int)) (z_R 3 0 0) (va_Pc [.ref hs, .int xa, .int xb, .int xc] (z_Pre D vwCl (z_K D cy) L f sz)) (z_Qi D vwCl (fun r u => u = (L, f) ∧ (r.toInt = -2)) L sz) 0 0 (z_A L sz) := by
  refine z_met (cc := cX9_sets) (maxL := 6) (ret := (some .int)) (lv := [(0, .ref hs), (1, .int xa), (2, .int xb), (3, .int xc)]) (by decide) rfl (Nat.le_of_ble_eq_true rfl) rfl ?_
  intro p e s m below meth c ls hx hb hr hlk hml hown hnm hts hKK hA hw hl
  have hK := hKK.1
  have hown : s.vm.findClass RX9 = some m.cls := hown
  have hT : ∀ w ∈ lw_all, w.before ([.ref hs, .int xa, .int xb, .int xc] : List Value).toArray s = true := fun w h => hts w (z_cons w h)
  refine lv_aload_n hx hb dX9_sets_0 rfl (lv_at hl 0 rfl) ?_
  refine z_get (C := RX9) (T := TX9) (N := 11) (ci := 9) (v := .ref mo) hx hb hT zin_X9 hown hK hw hm_hs hf_hs rfl 2 (by decide) (hT _ kw_479) rfl dX9_sets_1 ?_
  refine lv_iload_n hx hb dX9_sets_4 rfl (lv_at hl 1 rfl) ?_
  refine z_calliV (cells := 0) (slots := 0) (b := mo) (As := [.int xa]) (rest := []) (ci := 2) (q0 := (RX2, TX2, 11)) ⟨hx, hb, hml, hown, hT⟩ (c_X2_hasDrive l hm_mo hf_mo) (cwV 1 hT (z_goodV (fun _ h => h) kw_709 kw_710 kw_711 kw_87 kw_712) rfl rfl rfl (by decide +kernel) ⟨by decide, by decide⟩) z_mv hKK hK hw hA hm_mo hf_mo rfl rfl rfl hl.1 rfl (Nat.le_of_ble_eq_true rfl) dX9_sets_5 ⟨by decide, by decide⟩ (fun r1 u H locs hp hw => ?_)
  obtain ⟨rfl, hp⟩ := hp
  have hw : z_H D vwCl (z_A L sz) s.heap L f H locs := hw
  rcases hp with ⟨rfl, h2⟩ | ⟨rfl, h2⟩
  · exact absurd (Int.lt_of_le_of_lt h2.1 h2.2) (by decide)
  · skip
    refine z_if_eq (tgt := 29) hx hb (show (0 : Int32).toInt = 0 by decide) dX9_sets_8 (by decide) (fun _ => ?_) (fun h => absurd h (by decide))
    refine lv_bipush (v := (-2)) hx hb dX9_sets_29 (by decide) ?_
    exact z_iret hx hb hr hlk (by decide) (by decide) hw (⟨rfl, by decide⟩) dX9_sets_31

set_option maxHeartbeats 2000000 in
set_option maxRecDepth 100000 in
theorem c_X9_counter (l : Launch) {D : va_G} {cy : Nat → ClassId} {L : List Nat} {f : Nat → va_E} {sz : Nat} {hs tp rd mo dr im kp sl wk pl ex mx : Nat} {la sa mi da : Nat} {xa xb xc : Int32} (hm_hs : hs ∈ L) (hm_mo : mo ∈ L) (hf_hs : f hs = .inr (9, [.ref tp, .ref rd, .ref mo, .ref dr, .ref im, .ref kp, .ref sl, .ref wk, .ref pl, .ref ex, .ref mx])) (hf_mo : f mo = .inr (2, [.int 0, .int 0, .int 0, .int 0, .int 0, .int 0, .int 0, .ref la, .ref sa, .ref mi, .ref da])) : Met l yX9_counter (z_ws yX9_counter cX9_counter 4 (some .int)) (z_R 3 0 0) (va_Pc [.ref hs, .int xa, .int xb, .int xc] (z_Pre D vwCl (z_K D cy) L f sz)) (z_Qi D vwCl (fun r u => u = (L, f) ∧ (r.toInt = -2)) L sz) 0 0 (z_A L sz) := by
  refine z_met (cc := cX9_counter) (maxL := 4) (ret := (some .int)) (lv := [(0, .ref hs), (1, .int xa), (2, .int xb), (3, .int xc)]) (by decide) rfl (Nat.le_of_ble_eq_true rfl) rfl ?_
  intro p e s m below meth c ls hx hb hr hlk hml hown hnm hts hKK hA hw hl
  have hK := hKK.1
  have hown : s.vm.findClass RX9 = some m.cls := hown
  have hT : ∀ w ∈ lw_all, w.before ([.ref hs, .int xa, .int xb, .int xc] : List Value).toArray s = true := fun w h => hts w (z_cons w h)
  refine lv_aload_n hx hb dX9_counter_0 rfl (lv_at hl 0 rfl) ?_
  refine z_get (C := RX9) (T := TX9) (N := 11) (ci := 9) (v := .ref mo) hx hb hT zin_X9 hown hK hw hm_hs hf_hs rfl 2 (by decide) (hT _ kw_479) rfl dX9_counter_1 ?_
  refine lv_iload_n hx hb dX9_counter_4 rfl (lv_at hl 1 rfl) ?_
  refine z_calliV (cells := 0) (slots := 0) (b := mo) (As := [.int xa]) (rest := []) (ci := 2) (q0 := (RX2, TX2, 11)) ⟨hx, hb, hml, hown, hT⟩ (c_X2_hasGap l hm_mo hf_mo) (cwV 1 hT (z_goodV (fun _ h => h) kw_736 kw_737 kw_738 kw_87 kw_739) rfl rfl rfl (by decide +kernel) ⟨by decide, by decide⟩) z_mv hKK hK hw hA hm_mo hf_mo rfl rfl rfl hl.1 rfl (Nat.le_of_ble_eq_true rfl) dX9_counter_5 ⟨by decide, by decide⟩ (fun r1 u H locs hp hw => ?_)
  obtain ⟨rfl, hp⟩ := hp
  have hw : z_H D vwCl (z_A L sz) s.heap L f H locs := hw
  rcases hp with ⟨rfl, h2⟩ | ⟨rfl, h2⟩
  · exact absurd (Int.lt_of_le_of_lt h2.1 h2.2) (by decide)
  · skip
    refine z_if_eq (tgt := 29) hx hb (show (0 : Int32).toInt = 0 by decide) dX9_counter_8 (by decide) (fun _ => ?_) (fun h => absurd h (by decide))
    refine lv_bipush (v := (-2)) hx hb dX9_counter_29 (by decide) ?_
    exact z_iret hx hb hr hlk (by decide) (by decide) hw (⟨rfl, by decide⟩) dX9_counter_31

set_option maxHeartbeats 2000000 in
set_option maxRecDepth 100000 in
theorem c_X9_through (l : Launch) {D : va_G} {cy : Nat → ClassId} {L : List Nat} {f : Nat → va_E} {sz : Nat} {hs tp rd mo dr im kp sl wk pl ex mx : Nat} {la sa mi da : Nat} {xa xb xc : Int32} (hm_hs : hs ∈ L) (hm_mo : mo ∈ L) (hf_hs : f hs = .inr (9, [.ref tp, .ref rd, .ref mo, .ref dr, .ref im, .ref kp, .ref sl, .ref wk, .ref pl, .ref ex, .ref mx])) (hf_mo : f mo = .inr (2, [.int 0, .int 0, .int 0, .int 0, .int 0, .int 0, .int 0, .ref la, .ref sa, .ref mi, .ref da])) : Met l yX9_through (z_ws yX9_through cX9_through 4 (some .int)) (z_R 3 0 0) (va_Pc [.ref hs, .int xa, .int xb, .int xc] (z_Pre D vwCl (z_K D cy) L f sz)) (z_Qi D vwCl (fun r u => u = (L, f) ∧ (r.toInt = -2)) L sz) 0 0 (z_A L sz) := by
  refine z_met (cc := cX9_through) (maxL := 4) (ret := (some .int)) (lv := [(0, .ref hs), (1, .int xa), (2, .int xb), (3, .int xc)]) (by decide) rfl (Nat.le_of_ble_eq_true rfl) rfl ?_
  intro p e s m below meth c ls hx hb hr hlk hml hown hnm hts hKK hA hw hl
  have hK := hKK.1
  have hown : s.vm.findClass RX9 = some m.cls := hown
  have hT : ∀ w ∈ lw_all, w.before ([.ref hs, .int xa, .int xb, .int xc] : List Value).toArray s = true := fun w h => hts w (z_cons w h)
  refine lv_aload_n hx hb dX9_through_0 rfl (lv_at hl 0 rfl) ?_
  refine z_get (C := RX9) (T := TX9) (N := 11) (ci := 9) (v := .ref mo) hx hb hT zin_X9 hown hK hw hm_hs hf_hs rfl 2 (by decide) (hT _ kw_479) rfl dX9_through_1 ?_
  refine lv_iload_n hx hb dX9_through_4 rfl (lv_at hl 1 rfl) ?_
  refine z_calliV (cells := 0) (slots := 0) (b := mo) (As := [.int xa]) (rest := []) (ci := 2) (q0 := (RX2, TX2, 11)) ⟨hx, hb, hml, hown, hT⟩ (c_X2_hasGap l hm_mo hf_mo) (cwV 1 hT (z_goodV (fun _ h => h) kw_736 kw_737 kw_738 kw_87 kw_739) rfl rfl rfl (by decide +kernel) ⟨by decide, by decide⟩) z_mv hKK hK hw hA hm_mo hf_mo rfl rfl rfl hl.1 rfl (Nat.le_of_ble_eq_true rfl) dX9_through_5 ⟨by decide, by decide⟩ (fun r1 u H locs hp hw => ?_)
  obtain ⟨rfl, hp⟩ := hp
  have hw : z_H D vwCl (z_A L sz) s.heap L f H locs := hw
  rcases hp with ⟨rfl, h2⟩ | ⟨rfl, h2⟩
  · exact absurd (Int.lt_of_le_of_lt h2.1 h2.2) (by decide)
  · skip
    refine z_if_eq (tgt := 31) hx hb (show (0 : Int32).toInt = 0 by decide) dX9_through_8 (by decide) (fun _ => ?_) (fun h => absurd h (by decide))
    refine lv_bipush (v := (-2)) hx hb dX9_through_31 (by decide) ?_
    exact z_iret hx hb hr hlk (by decide) (by decide) hw (⟨rfl, by decide⟩) dX9_through_33

set_option maxHeartbeats 2000000 in
set_option maxRecDepth 100000 in
theorem c_X9_dues (l : Launch) {D : va_G} {cy : Nat → ClassId} {L : List Nat} {f : Nat → va_E} {sz : Nat} {hs tp rd mo dr im kp sl wk pl ex mx : Nat} {la sa mi da : Nat} (hm_hs : hs ∈ L) (hm_mo : mo ∈ L) (hf_hs : f hs = .inr (9, [.ref tp, .ref rd, .ref mo, .ref dr, .ref im, .ref kp, .ref sl, .ref wk, .ref pl, .ref ex, .ref mx])) (hf_mo : f mo = .inr (2, [.int 0, .int 0, .int 0, .int 0, .int 0, .int 0, .int 0, .ref la, .ref sa, .ref mi, .ref da])) : Met l yX9_dues (z_ws yX9_dues cX9_dues 1 (some .int)) (z_R 3 0 0) (va_Pc [.ref hs] (z_Pre D vwCl (z_K D cy) L f sz)) (z_Qi D vwCl (fun r u => u = (L, f) ∧ (r.toInt = -2)) L sz) 0 0 (z_A L sz) := by
  refine z_met (cc := cX9_dues) (maxL := 1) (ret := (some .int)) (lv := [(0, .ref hs)]) (by decide) rfl (Nat.le_of_ble_eq_true rfl) rfl ?_
  intro p e s m below meth c ls hx hb hr hlk hml hown hnm hts hKK hA hw hl
  have hK := hKK.1
  have hown : s.vm.findClass RX9 = some m.cls := hown
  have hT : ∀ w ∈ lw_all, w.before ([.ref hs] : List Value).toArray s = true := fun w h => hts w (z_cons w h)
  refine lv_aload_n hx hb dX9_dues_0 rfl (lv_at hl 0 rfl) ?_
  refine z_get (C := RX9) (T := TX9) (N := 11) (ci := 9) (v := .ref mo) hx hb hT zin_X9 hown hK hw hm_hs hf_hs rfl 2 (by decide) (hT _ kw_479) rfl dX9_dues_1 ?_
  refine z_calliV (cells := 0) (slots := 0) (b := mo) (As := []) (rest := []) (ci := 2) (q0 := (RX2, TX2, 11)) ⟨hx, hb, hml, hown, hT⟩ (c_X2_isTold l hm_mo hf_mo) (cwV 0 hT (z_goodV (fun _ h => h) kw_725 kw_726 kw_727 kw_87 kw_728) rfl rfl rfl (by decide +kernel) ⟨by decide, by decide⟩) z_mv hKK hK hw hA hm_mo hf_mo rfl rfl rfl hl.1 rfl (Nat.le_of_ble_eq_true rfl) dX9_dues_4 ⟨by decide, by decide⟩ (fun r1 u H locs hp hw => ?_)
  obtain ⟨rfl, hp⟩ := hp
  have hw : z_H D vwCl (z_A L sz) s.heap L f H locs := hw
  rcases hp with ⟨rfl, h2⟩ | ⟨rfl, h2⟩
  · exact absurd h2 (by decide)
  · skip
    refine z_if_eq (tgt := 24) hx hb (show (0 : Int32).toInt = 0 by decide) dX9_dues_7 (by decide) (fun _ => ?_) (fun h => absurd h (by decide))
    refine lv_bipush (v := (-2)) hx hb dX9_dues_24 (by decide) ?_
    exact z_iret hx hb hr hlk (by decide) (by decide) hw (⟨rfl, by decide⟩) dX9_dues_26

set_option maxHeartbeats 2000000 in
set_option maxRecDepth 100000 in
theorem c_X9_due (l : Launch) {D : va_G} {cy : Nat → ClassId} {L : List Nat} {f : Nat → va_E} {sz : Nat} {hs tp rd mo dr im kp sl wk pl ex mx : Nat} {la sa mi da : Nat} {xa xb : Int32} (hm_hs : hs ∈ L) (hm_mo : mo ∈ L) (hf_hs : f hs = .inr (9, [.ref tp, .ref rd, .ref mo, .ref dr, .ref im, .ref kp, .ref sl, .ref wk, .ref pl, .ref ex, .ref mx])) (hf_mo : f mo = .inr (2, [.int 0, .int 0, .int 0, .int 0, .int 0, .int 0, .int 0, .ref la, .ref sa, .ref mi, .ref da])) : Met l yX9_due (z_ws yX9_due cX9_due 4 (some .int)) (z_R 3 0 0) (va_Pc [.ref hs, .int xa, .int xb] (z_Pre D vwCl (z_K D cy) L f sz)) (z_Qi D vwCl (fun r u => u = (L, f) ∧ (r.toInt = -2)) L sz) 0 0 (z_A L sz) := by
  refine z_met (cc := cX9_due) (maxL := 4) (ret := (some .int)) (lv := [(0, .ref hs), (1, .int xa), (2, .int xb)]) (by decide) rfl (Nat.le_of_ble_eq_true rfl) rfl ?_
  intro p e s m below meth c ls hx hb hr hlk hml hown hnm hts hKK hA hw hl
  have hK := hKK.1
  have hown : s.vm.findClass RX9 = some m.cls := hown
  have hT : ∀ w ∈ lw_all, w.before ([.ref hs, .int xa, .int xb] : List Value).toArray s = true := fun w h => hts w (z_cons w h)
  refine lv_aload_n hx hb dX9_due_0 rfl (lv_at hl 0 rfl) ?_
  refine z_get (C := RX9) (T := TX9) (N := 11) (ci := 9) (v := .ref mo) hx hb hT zin_X9 hown hK hw hm_hs hf_hs rfl 2 (by decide) (hT _ kw_479) rfl dX9_due_1 ?_
  refine z_calliV (cells := 0) (slots := 0) (b := mo) (As := []) (rest := []) (ci := 2) (q0 := (RX2, TX2, 11)) ⟨hx, hb, hml, hown, hT⟩ (c_X2_isTold l hm_mo hf_mo) (cwV 0 hT (z_goodV (fun _ h => h) kw_725 kw_726 kw_727 kw_87 kw_728) rfl rfl rfl (by decide +kernel) ⟨by decide, by decide⟩) z_mv hKK hK hw hA hm_mo hf_mo rfl rfl rfl hl.1 rfl (Nat.le_of_ble_eq_true rfl) dX9_due_4 ⟨by decide, by decide⟩ (fun r1 u H locs hp hw => ?_)
  obtain ⟨rfl, hp⟩ := hp
  have hw : z_H D vwCl (z_A L sz) s.heap L f H locs := hw
  rcases hp with ⟨rfl, h2⟩ | ⟨rfl, h2⟩
  · exact absurd h2 (by decide)
  · skip
    refine z_if_eq (tgt := 19) hx hb (show (0 : Int32).toInt = 0 by decide) dX9_due_7 (by decide) (fun _ => ?_) (fun h => absurd h (by decide))
    refine lv_bipush (v := (-2)) hx hb dX9_due_19 (by decide) ?_
    exact z_iret hx hb hr hlk (by decide) (by decide) hw (⟨rfl, by decide⟩) dX9_due_21

set_option maxHeartbeats 2000000 in
set_option maxRecDepth 100000 in
theorem c_X9_paid (l : Launch) {D : va_G} {cy : Nat → ClassId} {L : List Nat} {f : Nat → va_E} {sz : Nat} {hs tp rd mo dr im kp sl wk pl ex mx : Nat} {la sa mi da : Nat} {xa : Int32} (hm_hs : hs ∈ L) (hm_mo : mo ∈ L) (hf_hs : f hs = .inr (9, [.ref tp, .ref rd, .ref mo, .ref dr, .ref im, .ref kp, .ref sl, .ref wk, .ref pl, .ref ex, .ref mx])) (hf_mo : f mo = .inr (2, [.int 0, .int 0, .int 0, .int 0, .int 0, .int 0, .int 0, .ref la, .ref sa, .ref mi, .ref da])) : Met l yX9_paid (z_ws yX9_paid cX9_paid 2 (some .int)) (z_R 3 0 0) (va_Pc [.ref hs, .int xa] (z_Pre D vwCl (z_K D cy) L f sz)) (z_Qi D vwCl (fun r u => u = (L, f) ∧ (r.toInt = -2)) L sz) 0 0 (z_A L sz) := by
  refine z_met (cc := cX9_paid) (maxL := 2) (ret := (some .int)) (lv := [(0, .ref hs), (1, .int xa)]) (by decide) rfl (Nat.le_of_ble_eq_true rfl) rfl ?_
  intro p e s m below meth c ls hx hb hr hlk hml hown hnm hts hKK hA hw hl
  have hK := hKK.1
  have hown : s.vm.findClass RX9 = some m.cls := hown
  have hT : ∀ w ∈ lw_all, w.before ([.ref hs, .int xa] : List Value).toArray s = true := fun w h => hts w (z_cons w h)
  refine lv_aload_n hx hb dX9_paid_0 rfl (lv_at hl 0 rfl) ?_
  refine z_get (C := RX9) (T := TX9) (N := 11) (ci := 9) (v := .ref mo) hx hb hT zin_X9 hown hK hw hm_hs hf_hs rfl 2 (by decide) (hT _ kw_479) rfl dX9_paid_1 ?_
  refine lv_iload_n hx hb dX9_paid_4 rfl (lv_at hl 1 rfl) ?_
  refine z_calliV (cells := 0) (slots := 0) (b := mo) (As := [.int xa]) (rest := []) (ci := 2) (q0 := (RX2, TX2, 11)) ⟨hx, hb, hml, hown, hT⟩ (c_X2_hasOwner l hm_mo hf_mo) (cwV 1 hT (z_goodV (fun _ h => h) kw_858 kw_859 kw_860 kw_87 kw_861) rfl rfl rfl (by decide +kernel) ⟨by decide, by decide⟩) z_mv hKK hK hw hA hm_mo hf_mo rfl rfl rfl hl.1 rfl (Nat.le_of_ble_eq_true rfl) dX9_paid_5 ⟨by decide, by decide⟩ (fun r1 u H locs hp hw => ?_)
  obtain ⟨rfl, hp⟩ := hp
  have hw : z_H D vwCl (z_A L sz) s.heap L f H locs := hw
  rcases hp with ⟨rfl, h2⟩ | ⟨rfl, h2⟩
  · exact absurd (Int.lt_of_le_of_lt h2.1 h2.2) (by decide)
  · skip
    refine z_if_ne (tgt := 14) hx hb (show (0 : Int32).toInt = 0 by decide) dX9_paid_8 (by decide) (fun h => absurd h (by decide)) (fun _ => ?_)
    refine lv_bipush (v := (-2)) hx hb dX9_paid_11 (by decide) ?_
    exact z_iret hx hb hr hlk (by decide) (by decide) hw (⟨rfl, by decide⟩) dX9_paid_13

set_option maxHeartbeats 2000000 in
set_option maxRecDepth 100000 in
theorem c_X9_pays (l : Launch) {D : va_G} {cy : Nat → ClassId} {L : List Nat} {f : Nat → va_E} {sz : Nat} {hs tp rd mo dr im kp sl wk pl ex mx : Nat} {la sa mi da : Nat} {xa xb : Int32} (hm_hs : hs ∈ L) (hm_mo : mo ∈ L) (hf_hs : f hs = .inr (9, [.ref tp, .ref rd, .ref mo, .ref dr, .ref im, .ref kp, .ref sl, .ref wk, .ref pl, .ref ex, .ref mx])) (hf_mo : f mo = .inr (2, [.int 0, .int 0, .int 0, .int 0, .int 0, .int 0, .int 0, .ref la, .ref sa, .ref mi, .ref da])) : Met l yX9_pays (z_ws yX9_pays cX9_pays 3 (some .int)) (z_R 3 0 0) (va_Pc [.ref hs, .int xa, .int xb] (z_Pre D vwCl (z_K D cy) L f sz)) (z_Qi D vwCl (fun r u => u = (L, f) ∧ (r.toInt = -2)) L sz) 0 0 (z_A L sz) := by
  refine z_met (cc := cX9_pays) (maxL := 3) (ret := (some .int)) (lv := [(0, .ref hs), (1, .int xa), (2, .int xb)]) (by decide) rfl (Nat.le_of_ble_eq_true rfl) rfl ?_
  intro p e s m below meth c ls hx hb hr hlk hml hown hnm hts hKK hA hw hl
  have hK := hKK.1
  have hown : s.vm.findClass RX9 = some m.cls := hown
  have hT : ∀ w ∈ lw_all, w.before ([.ref hs, .int xa, .int xb] : List Value).toArray s = true := fun w h => hts w (z_cons w h)
  refine lv_aload_n hx hb dX9_pays_0 rfl (lv_at hl 0 rfl) ?_
  refine z_get (C := RX9) (T := TX9) (N := 11) (ci := 9) (v := .ref mo) hx hb hT zin_X9 hown hK hw hm_hs hf_hs rfl 2 (by decide) (hT _ kw_479) rfl dX9_pays_1 ?_
  refine lv_iload_n hx hb dX9_pays_4 rfl (lv_at hl 1 rfl) ?_
  refine z_calliV (cells := 0) (slots := 0) (b := mo) (As := [.int xa]) (rest := []) (ci := 2) (q0 := (RX2, TX2, 11)) ⟨hx, hb, hml, hown, hT⟩ (c_X2_hasOwner l hm_mo hf_mo) (cwV 1 hT (z_goodV (fun _ h => h) kw_858 kw_859 kw_860 kw_87 kw_861) rfl rfl rfl (by decide +kernel) ⟨by decide, by decide⟩) z_mv hKK hK hw hA hm_mo hf_mo rfl rfl rfl hl.1 rfl (Nat.le_of_ble_eq_true rfl) dX9_pays_5 ⟨by decide, by decide⟩ (fun r1 u H locs hp hw => ?_)
  obtain ⟨rfl, hp⟩ := hp
  have hw : z_H D vwCl (z_A L sz) s.heap L f H locs := hw
  rcases hp with ⟨rfl, h2⟩ | ⟨rfl, h2⟩
  · exact absurd (Int.lt_of_le_of_lt h2.1 h2.2) (by decide)
  · skip
    refine z_if_eq (tgt := 22) hx hb (show (0 : Int32).toInt = 0 by decide) dX9_pays_8 (by decide) (fun _ => ?_) (fun h => absurd h (by decide))
    refine lv_bipush (v := (-2)) hx hb dX9_pays_22 (by decide) ?_
    exact z_iret hx hb hr hlk (by decide) (by decide) hw (⟨rfl, by decide⟩) dX9_pays_24

set_option maxHeartbeats 2000000 in
set_option maxRecDepth 100000 in
theorem c_X9_worst (l : Launch) {D : va_G} {cy : Nat → ClassId} {L : List Nat} {f : Nat → va_E} {sz : Nat} {hs tp rd mo dr im kp sl wk pl ex mx : Nat} {la sa mi da : Nat} (hm_hs : hs ∈ L) (hm_mo : mo ∈ L) (hf_hs : f hs = .inr (9, [.ref tp, .ref rd, .ref mo, .ref dr, .ref im, .ref kp, .ref sl, .ref wk, .ref pl, .ref ex, .ref mx])) (hf_mo : f mo = .inr (2, [.int 0, .int 0, .int 0, .int 0, .int 0, .int 0, .int 0, .ref la, .ref sa, .ref mi, .ref da])) : Met l yX9_worst (z_ws yX9_worst cX9_worst 4 (some .int)) (z_R 3 0 0) (va_Pc [.ref hs] (z_Pre D vwCl (z_K D cy) L f sz)) (z_Qi D vwCl (fun r u => u = (L, f) ∧ (r.toInt = -2)) L sz) 0 0 (z_A L sz) := by
  refine z_met (cc := cX9_worst) (maxL := 4) (ret := (some .int)) (lv := [(0, .ref hs)]) (by decide) rfl (Nat.le_of_ble_eq_true rfl) rfl ?_
  intro p e s m below meth c ls hx hb hr hlk hml hown hnm hts hKK hA hw hl
  have hK := hKK.1
  have hown : s.vm.findClass RX9 = some m.cls := hown
  have hT : ∀ w ∈ lw_all, w.before ([.ref hs] : List Value).toArray s = true := fun w h => hts w (z_cons w h)
  refine lv_aload_n hx hb dX9_worst_0 rfl (lv_at hl 0 rfl) ?_
  refine z_get (C := RX9) (T := TX9) (N := 11) (ci := 9) (v := .ref mo) hx hb hT zin_X9 hown hK hw hm_hs hf_hs rfl 2 (by decide) (hT _ kw_479) rfl dX9_worst_1 ?_
  refine z_calliV (cells := 0) (slots := 0) (b := mo) (As := []) (rest := []) (ci := 2) (q0 := (RX2, TX2, 11)) ⟨hx, hb, hml, hown, hT⟩ (c_X2_isTold l hm_mo hf_mo) (cwV 0 hT (z_goodV (fun _ h => h) kw_725 kw_726 kw_727 kw_87 kw_728) rfl rfl rfl (by decide +kernel) ⟨by decide, by decide⟩) z_mv hKK hK hw hA hm_mo hf_mo rfl rfl rfl hl.1 rfl (Nat.le_of_ble_eq_true rfl) dX9_worst_4 ⟨by decide, by decide⟩ (fun r1 u H locs hp hw => ?_)
  obtain ⟨rfl, hp⟩ := hp
  have hw : z_H D vwCl (z_A L sz) s.heap L f H locs := hw
  rcases hp with ⟨rfl, h2⟩ | ⟨rfl, h2⟩
  · exact absurd h2 (by decide)
  · skip
    refine z_if_ne (tgt := 13) hx hb (show (0 : Int32).toInt = 0 by decide) dX9_worst_7 (by decide) (fun h => absurd h (by decide)) (fun _ => ?_)
    refine lv_bipush (v := (-2)) hx hb dX9_worst_10 (by decide) ?_
    exact z_iret hx hb hr hlk (by decide) (by decide) hw (⟨rfl, by decide⟩) dX9_worst_12

set_option maxHeartbeats 2000000 in
set_option maxRecDepth 100000 in
theorem c_X9_left (l : Launch) {D : va_G} {cy : Nat → ClassId} {L : List Nat} {f : Nat → va_E} {sz : Nat} {hs tp rd mo dr im kp sl wk pl ex mx : Nat} {la sa mi da : Nat} {xa : Int32} (hm_hs : hs ∈ L) (hm_mo : mo ∈ L) (hf_hs : f hs = .inr (9, [.ref tp, .ref rd, .ref mo, .ref dr, .ref im, .ref kp, .ref sl, .ref wk, .ref pl, .ref ex, .ref mx])) (hf_mo : f mo = .inr (2, [.int 0, .int 0, .int 0, .int 0, .int 0, .int 0, .int 0, .ref la, .ref sa, .ref mi, .ref da])) : Met l yX9_left (z_ws yX9_left cX9_left 2 (some .int)) (z_R 3 0 0) (va_Pc [.ref hs, .int xa] (z_Pre D vwCl (z_K D cy) L f sz)) (z_Qi D vwCl (fun r u => u = (L, f) ∧ (r.toInt = -2)) L sz) 0 0 (z_A L sz) := by
  refine z_met (cc := cX9_left) (maxL := 2) (ret := (some .int)) (lv := [(0, .ref hs), (1, .int xa)]) (by decide) rfl (Nat.le_of_ble_eq_true rfl) rfl ?_
  intro p e s m below meth c ls hx hb hr hlk hml hown hnm hts hKK hA hw hl
  have hK := hKK.1
  have hown : s.vm.findClass RX9 = some m.cls := hown
  have hT : ∀ w ∈ lw_all, w.before ([.ref hs, .int xa] : List Value).toArray s = true := fun w h => hts w (z_cons w h)
  refine lv_aload_n hx hb dX9_left_0 rfl (lv_at hl 0 rfl) ?_
  refine z_get (C := RX9) (T := TX9) (N := 11) (ci := 9) (v := .ref mo) hx hb hT zin_X9 hown hK hw hm_hs hf_hs rfl 2 (by decide) (hT _ kw_479) rfl dX9_left_1 ?_
  refine lv_iload_n hx hb dX9_left_4 rfl (lv_at hl 1 rfl) ?_
  refine z_calliV (cells := 0) (slots := 0) (b := mo) (As := [.int xa]) (rest := []) (ci := 2) (q0 := (RX2, TX2, 11)) ⟨hx, hb, hml, hown, hT⟩ (c_X2_hasGap l hm_mo hf_mo) (cwV 1 hT (z_goodV (fun _ h => h) kw_736 kw_737 kw_738 kw_87 kw_739) rfl rfl rfl (by decide +kernel) ⟨by decide, by decide⟩) z_mv hKK hK hw hA hm_mo hf_mo rfl rfl rfl hl.1 rfl (Nat.le_of_ble_eq_true rfl) dX9_left_5 ⟨by decide, by decide⟩ (fun r1 u H locs hp hw => ?_)
  obtain ⟨rfl, hp⟩ := hp
  have hw : z_H D vwCl (z_A L sz) s.heap L f H locs := hw
  rcases hp with ⟨rfl, h2⟩ | ⟨rfl, h2⟩
  · exact absurd (Int.lt_of_le_of_lt h2.1 h2.2) (by decide)
  · skip
    refine z_if_eq (tgt := 26) hx hb (show (0 : Int32).toInt = 0 by decide) dX9_left_8 (by decide) (fun _ => ?_) (fun h => absurd h (by decide))
    refine lv_bipush (v := (-2)) hx hb dX9_left_26 (by decide) ?_
    exact z_iret hx hb hr hlk (by decide) (by decide) hw (⟨rfl, by decide⟩) dX9_left_28

set_option maxHeartbeats 2000000 in
set_option maxRecDepth 100000 in
theorem c_X9_best (l : Launch) {D : va_G} {cy : Nat → ClassId} {L : List Nat} {f : Nat → va_E} {sz : Nat} {hs tp rd mo dr im kp sl wk pl ex mx : Nat} {la sa mi da : Nat} {xa xb : Int32} (hm_hs : hs ∈ L) (hm_mo : mo ∈ L) (hf_hs : f hs = .inr (9, [.ref tp, .ref rd, .ref mo, .ref dr, .ref im, .ref kp, .ref sl, .ref wk, .ref pl, .ref ex, .ref mx])) (hf_mo : f mo = .inr (2, [.int 0, .int 0, .int 0, .int 0, .int 0, .int 0, .int 0, .ref la, .ref sa, .ref mi, .ref da])) : Met l yX9_best (z_ws yX9_best cX9_best 3 (some .int)) (z_R 3 0 0) (va_Pc [.ref hs, .int xa, .int xb] (z_Pre D vwCl (z_K D cy) L f sz)) (z_Qi D vwCl (fun r u => u = (L, f) ∧ (r.toInt = -2)) L sz) 0 0 (z_A L sz) := by
  refine z_met (cc := cX9_best) (maxL := 3) (ret := (some .int)) (lv := [(0, .ref hs), (1, .int xa), (2, .int xb)]) (by decide) rfl (Nat.le_of_ble_eq_true rfl) rfl ?_
  intro p e s m below meth c ls hx hb hr hlk hml hown hnm hts hKK hA hw hl
  have hK := hKK.1
  have hown : s.vm.findClass RX9 = some m.cls := hown
  have hT : ∀ w ∈ lw_all, w.before ([.ref hs, .int xa, .int xb] : List Value).toArray s = true := fun w h => hts w (z_cons w h)
  refine lv_aload_n hx hb dX9_best_0 rfl (lv_at hl 0 rfl) ?_
  refine z_get (C := RX9) (T := TX9) (N := 11) (ci := 9) (v := .ref mo) hx hb hT zin_X9 hown hK hw hm_hs hf_hs rfl 2 (by decide) (hT _ kw_479) rfl dX9_best_1 ?_
  refine lv_iload_n hx hb dX9_best_4 rfl (lv_at hl 1 rfl) ?_
  refine z_calliV (cells := 0) (slots := 0) (b := mo) (As := [.int xa]) (rest := []) (ci := 2) (q0 := (RX2, TX2, 11)) ⟨hx, hb, hml, hown, hT⟩ (c_X2_hasDrive l hm_mo hf_mo) (cwV 1 hT (z_goodV (fun _ h => h) kw_709 kw_710 kw_711 kw_87 kw_712) rfl rfl rfl (by decide +kernel) ⟨by decide, by decide⟩) z_mv hKK hK hw hA hm_mo hf_mo rfl rfl rfl hl.1 rfl (Nat.le_of_ble_eq_true rfl) dX9_best_5 ⟨by decide, by decide⟩ (fun r1 u H locs hp hw => ?_)
  obtain ⟨rfl, hp⟩ := hp
  have hw : z_H D vwCl (z_A L sz) s.heap L f H locs := hw
  rcases hp with ⟨rfl, h2⟩ | ⟨rfl, h2⟩
  · exact absurd (Int.lt_of_le_of_lt h2.1 h2.2) (by decide)
  · skip
    refine z_if_eq (tgt := 20) hx hb (show (0 : Int32).toInt = 0 by decide) dX9_best_8 (by decide) (fun _ => ?_) (fun h => absurd h (by decide))
    refine lv_bipush (v := (-2)) hx hb dX9_best_20 (by decide) ?_
    exact z_iret hx hb hr hlk (by decide) (by decide) hw (⟨rfl, by decide⟩) dX9_best_22

set_option maxHeartbeats 2000000 in
set_option maxRecDepth 100000 in
theorem c_X9_split (l : Launch) {D : va_G} {cy : Nat → ClassId} {L : List Nat} {f : Nat → va_E} {sz : Nat} {hs tp rd mo dr im kp sl wk pl ex mx : Nat} {la sa mi da : Nat} {xa xb : Int32} (hm_hs : hs ∈ L) (hm_mo : mo ∈ L) (hf_hs : f hs = .inr (9, [.ref tp, .ref rd, .ref mo, .ref dr, .ref im, .ref kp, .ref sl, .ref wk, .ref pl, .ref ex, .ref mx])) (hf_mo : f mo = .inr (2, [.int 0, .int 0, .int 0, .int 0, .int 0, .int 0, .int 0, .ref la, .ref sa, .ref mi, .ref da])) : Met l yX9_split (z_ws yX9_split cX9_split 3 (some .int)) (z_R 3 0 0) (va_Pc [.ref hs, .int xa, .int xb] (z_Pre D vwCl (z_K D cy) L f sz)) (z_Qi D vwCl (fun r u => u = (L, f) ∧ (r.toInt = -2)) L sz) 0 0 (z_A L sz) := by
  refine z_met (cc := cX9_split) (maxL := 3) (ret := (some .int)) (lv := [(0, .ref hs), (1, .int xa), (2, .int xb)]) (by decide) rfl (Nat.le_of_ble_eq_true rfl) rfl ?_
  intro p e s m below meth c ls hx hb hr hlk hml hown hnm hts hKK hA hw hl
  have hK := hKK.1
  have hown : s.vm.findClass RX9 = some m.cls := hown
  have hT : ∀ w ∈ lw_all, w.before ([.ref hs, .int xa, .int xb] : List Value).toArray s = true := fun w h => hts w (z_cons w h)
  refine lv_aload_n hx hb dX9_split_0 rfl (lv_at hl 0 rfl) ?_
  refine z_get (C := RX9) (T := TX9) (N := 11) (ci := 9) (v := .ref mo) hx hb hT zin_X9 hown hK hw hm_hs hf_hs rfl 2 (by decide) (hT _ kw_479) rfl dX9_split_1 ?_
  refine lv_iload_n hx hb dX9_split_4 rfl (lv_at hl 1 rfl) ?_
  refine z_calliV (cells := 0) (slots := 0) (b := mo) (As := [.int xa]) (rest := []) (ci := 2) (q0 := (RX2, TX2, 11)) ⟨hx, hb, hml, hown, hT⟩ (c_X2_hasDrive l hm_mo hf_mo) (cwV 1 hT (z_goodV (fun _ h => h) kw_709 kw_710 kw_711 kw_87 kw_712) rfl rfl rfl (by decide +kernel) ⟨by decide, by decide⟩) z_mv hKK hK hw hA hm_mo hf_mo rfl rfl rfl hl.1 rfl (Nat.le_of_ble_eq_true rfl) dX9_split_5 ⟨by decide, by decide⟩ (fun r1 u H locs hp hw => ?_)
  obtain ⟨rfl, hp⟩ := hp
  have hw : z_H D vwCl (z_A L sz) s.heap L f H locs := hw
  rcases hp with ⟨rfl, h2⟩ | ⟨rfl, h2⟩
  · exact absurd (Int.lt_of_le_of_lt h2.1 h2.2) (by decide)
  · skip
    refine z_if_eq (tgt := 20) hx hb (show (0 : Int32).toInt = 0 by decide) dX9_split_8 (by decide) (fun _ => ?_) (fun h => absurd h (by decide))
    refine lv_bipush (v := (-2)) hx hb dX9_split_20 (by decide) ?_
    exact z_iret hx hb hr hlk (by decide) (by decide) hw (⟨rfl, by decide⟩) dX9_split_22

set_option maxHeartbeats 2000000 in
set_option maxRecDepth 100000 in
theorem c_X9_rest (l : Launch) {D : va_G} {cy : Nat → ClassId} {L : List Nat} {f : Nat → va_E} {sz : Nat} {hs tp rd mo dr im kp sl wk pl ex mx : Nat} {la sa mi da : Nat} (hm_hs : hs ∈ L) (hm_mo : mo ∈ L) (hf_hs : f hs = .inr (9, [.ref tp, .ref rd, .ref mo, .ref dr, .ref im, .ref kp, .ref sl, .ref wk, .ref pl, .ref ex, .ref mx])) (hf_mo : f mo = .inr (2, [.int 0, .int 0, .int 0, .int 0, .int 0, .int 0, .int 0, .ref la, .ref sa, .ref mi, .ref da])) : Met l yX9_rest (z_ws yX9_rest cX9_rest 1 (some .int)) (z_R 3 0 0) (va_Pc [.ref hs] (z_Pre D vwCl (z_K D cy) L f sz)) (z_Qi D vwCl (fun r u => u = (L, f) ∧ (r.toInt = -2)) L sz) 0 0 (z_A L sz) := by
  refine z_met (cc := cX9_rest) (maxL := 1) (ret := (some .int)) (lv := [(0, .ref hs)]) (by decide) rfl (Nat.le_of_ble_eq_true rfl) rfl ?_
  intro p e s m below meth c ls hx hb hr hlk hml hown hnm hts hKK hA hw hl
  have hK := hKK.1
  have hown : s.vm.findClass RX9 = some m.cls := hown
  have hT : ∀ w ∈ lw_all, w.before ([.ref hs] : List Value).toArray s = true := fun w h => hts w (z_cons w h)
  refine lv_aload_n hx hb dX9_rest_0 rfl (lv_at hl 0 rfl) ?_
  refine z_get (C := RX9) (T := TX9) (N := 11) (ci := 9) (v := .ref mo) hx hb hT zin_X9 hown hK hw hm_hs hf_hs rfl 2 (by decide) (hT _ kw_479) rfl dX9_rest_1 ?_
  refine z_calliV (cells := 0) (slots := 0) (b := mo) (As := []) (rest := []) (ci := 2) (q0 := (RX2, TX2, 11)) ⟨hx, hb, hml, hown, hT⟩ (c_X2_isTold l hm_mo hf_mo) (cwV 0 hT (z_goodV (fun _ h => h) kw_725 kw_726 kw_727 kw_87 kw_728) rfl rfl rfl (by decide +kernel) ⟨by decide, by decide⟩) z_mv hKK hK hw hA hm_mo hf_mo rfl rfl rfl hl.1 rfl (Nat.le_of_ble_eq_true rfl) dX9_rest_4 ⟨by decide, by decide⟩ (fun r1 u H locs hp hw => ?_)
  obtain ⟨rfl, hp⟩ := hp
  have hw : z_H D vwCl (z_A L sz) s.heap L f H locs := hw
  rcases hp with ⟨rfl, h2⟩ | ⟨rfl, h2⟩
  · exact absurd h2 (by decide)
  · skip
    refine z_if_ne (tgt := 13) hx hb (show (0 : Int32).toInt = 0 by decide) dX9_rest_7 (by decide) (fun h => absurd h (by decide)) (fun _ => ?_)
    refine lv_bipush (v := (-2)) hx hb dX9_rest_10 (by decide) ?_
    exact z_iret hx hb hr hlk (by decide) (by decide) hw (⟨rfl, by decide⟩) dX9_rest_12

set_option maxHeartbeats 2000000 in
set_option maxRecDepth 100000 in
theorem c_X9_rests (l : Launch) {D : va_G} {cy : Nat → ClassId} {L : List Nat} {f : Nat → va_E} {sz : Nat} {hs tp rd mo dr im kp sl wk pl ex mx : Nat} {la sa mi da : Nat} {xa : Int32} (hm_hs : hs ∈ L) (hm_mo : mo ∈ L) (hf_hs : f hs = .inr (9, [.ref tp, .ref rd, .ref mo, .ref dr, .ref im, .ref kp, .ref sl, .ref wk, .ref pl, .ref ex, .ref mx])) (hf_mo : f mo = .inr (2, [.int 0, .int 0, .int 0, .int 0, .int 0, .int 0, .int 0, .ref la, .ref sa, .ref mi, .ref da])) : Met l yX9_rests (z_ws yX9_rests cX9_rests 2 (some .int)) (z_R 3 0 0) (va_Pc [.ref hs, .int xa] (z_Pre D vwCl (z_K D cy) L f sz)) (z_Qi D vwCl (fun r u => u = (L, f) ∧ (r.toInt = -2)) L sz) 0 0 (z_A L sz) := by
  refine z_met (cc := cX9_rests) (maxL := 2) (ret := (some .int)) (lv := [(0, .ref hs), (1, .int xa)]) (by decide) rfl (Nat.le_of_ble_eq_true rfl) rfl ?_
  intro p e s m below meth c ls hx hb hr hlk hml hown hnm hts hKK hA hw hl
  have hK := hKK.1
  have hown : s.vm.findClass RX9 = some m.cls := hown
  have hT : ∀ w ∈ lw_all, w.before ([.ref hs, .int xa] : List Value).toArray s = true := fun w h => hts w (z_cons w h)
  refine lv_aload_n hx hb dX9_rests_0 rfl (lv_at hl 0 rfl) ?_
  refine z_get (C := RX9) (T := TX9) (N := 11) (ci := 9) (v := .ref mo) hx hb hT zin_X9 hown hK hw hm_hs hf_hs rfl 2 (by decide) (hT _ kw_479) rfl dX9_rests_1 ?_
  refine z_calliV (cells := 0) (slots := 0) (b := mo) (As := []) (rest := []) (ci := 2) (q0 := (RX2, TX2, 11)) ⟨hx, hb, hml, hown, hT⟩ (c_X2_isTold l hm_mo hf_mo) (cwV 0 hT (z_goodV (fun _ h => h) kw_725 kw_726 kw_727 kw_87 kw_728) rfl rfl rfl (by decide +kernel) ⟨by decide, by decide⟩) z_mv hKK hK hw hA hm_mo hf_mo rfl rfl rfl hl.1 rfl (Nat.le_of_ble_eq_true rfl) dX9_rests_4 ⟨by decide, by decide⟩ (fun r1 u H locs hp hw => ?_)
  obtain ⟨rfl, hp⟩ := hp
  have hw : z_H D vwCl (z_A L sz) s.heap L f H locs := hw
  rcases hp with ⟨rfl, h2⟩ | ⟨rfl, h2⟩
  · exact absurd h2 (by decide)
  · skip
    refine z_if_eq (tgt := 20) hx hb (show (0 : Int32).toInt = 0 by decide) dX9_rests_7 (by decide) (fun _ => ?_) (fun h => absurd h (by decide))
    refine lv_bipush (v := (-2)) hx hb dX9_rests_20 (by decide) ?_
    exact z_iret hx hb hr hlk (by decide) (by decide) hw (⟨rfl, by decide⟩) dX9_rests_22

set_option maxHeartbeats 2000000 in
set_option maxRecDepth 100000 in
theorem c_X9_sent (l : Launch) {D : va_G} {cy : Nat → ClassId} {L : List Nat} {f : Nat → va_E} {sz : Nat} {hs tp rd mo dr im kp sl wk pl ex mx : Nat} {la sa mi da : Nat} {xa xb : Int32} (hm_hs : hs ∈ L) (hm_mo : mo ∈ L) (hf_hs : f hs = .inr (9, [.ref tp, .ref rd, .ref mo, .ref dr, .ref im, .ref kp, .ref sl, .ref wk, .ref pl, .ref ex, .ref mx])) (hf_mo : f mo = .inr (2, [.int 0, .int 0, .int 0, .int 0, .int 0, .int 0, .int 0, .ref la, .ref sa, .ref mi, .ref da])) : Met l yX9_sent (z_ws yX9_sent cX9_sent 3 (some .int)) (z_R 3 0 0) (va_Pc [.ref hs, .int xa, .int xb] (z_Pre D vwCl (z_K D cy) L f sz)) (z_Qi D vwCl (fun r u => u = (L, f) ∧ (r.toInt = -2)) L sz) 0 0 (z_A L sz) := by
  refine z_met (cc := cX9_sent) (maxL := 3) (ret := (some .int)) (lv := [(0, .ref hs), (1, .int xa), (2, .int xb)]) (by decide) rfl (Nat.le_of_ble_eq_true rfl) rfl ?_
  intro p e s m below meth c ls hx hb hr hlk hml hown hnm hts hKK hA hw hl
  have hK := hKK.1
  have hown : s.vm.findClass RX9 = some m.cls := hown
  have hT : ∀ w ∈ lw_all, w.before ([.ref hs, .int xa, .int xb] : List Value).toArray s = true := fun w h => hts w (z_cons w h)
  refine lv_aload_n hx hb dX9_sent_0 rfl (lv_at hl 0 rfl) ?_
  refine z_get (C := RX9) (T := TX9) (N := 11) (ci := 9) (v := .ref mo) hx hb hT zin_X9 hown hK hw hm_hs hf_hs rfl 2 (by decide) (hT _ kw_479) rfl dX9_sent_1 ?_
  refine lv_iload_n hx hb dX9_sent_4 rfl (lv_at hl 1 rfl) ?_
  refine z_calliV (cells := 0) (slots := 0) (b := mo) (As := [.int xa]) (rest := []) (ci := 2) (q0 := (RX2, TX2, 11)) ⟨hx, hb, hml, hown, hT⟩ (c_X2_hasDrive l hm_mo hf_mo) (cwV 1 hT (z_goodV (fun _ h => h) kw_709 kw_710 kw_711 kw_87 kw_712) rfl rfl rfl (by decide +kernel) ⟨by decide, by decide⟩) z_mv hKK hK hw hA hm_mo hf_mo rfl rfl rfl hl.1 rfl (Nat.le_of_ble_eq_true rfl) dX9_sent_5 ⟨by decide, by decide⟩ (fun r1 u H locs hp hw => ?_)
  obtain ⟨rfl, hp⟩ := hp
  have hw : z_H D vwCl (z_A L sz) s.heap L f H locs := hw
  rcases hp with ⟨rfl, h2⟩ | ⟨rfl, h2⟩
  · exact absurd (Int.lt_of_le_of_lt h2.1 h2.2) (by decide)
  · skip
    refine z_if_eq (tgt := 21) hx hb (show (0 : Int32).toInt = 0 by decide) dX9_sent_8 (by decide) (fun _ => ?_) (fun h => absurd h (by decide))
    refine lv_bipush (v := (-2)) hx hb dX9_sent_21 (by decide) ?_
    exact z_iret hx hb hr hlk (by decide) (by decide) hw (⟨rfl, by decide⟩) dX9_sent_23

set_option maxHeartbeats 2000000 in
set_option maxRecDepth 100000 in
theorem c_X9_harm (l : Launch) {D : va_G} {cy : Nat → ClassId} {L : List Nat} {f : Nat → va_E} {sz : Nat} {hs tp rd mo dr im kp sl wk pl ex mx : Nat} {la sa mi da : Nat} {xa : Int32} (hm_hs : hs ∈ L) (hm_mo : mo ∈ L) (hf_hs : f hs = .inr (9, [.ref tp, .ref rd, .ref mo, .ref dr, .ref im, .ref kp, .ref sl, .ref wk, .ref pl, .ref ex, .ref mx])) (hf_mo : f mo = .inr (2, [.int 0, .int 0, .int 0, .int 0, .int 0, .int 0, .int 0, .ref la, .ref sa, .ref mi, .ref da])) : Met l yX9_harm (z_ws yX9_harm cX9_harm 4 (some .int)) (z_R 3 0 0) (va_Pc [.ref hs, .int xa] (z_Pre D vwCl (z_K D cy) L f sz)) (z_Qi D vwCl (fun r u => u = (L, f) ∧ (r.toInt = -2)) L sz) 0 0 (z_A L sz) := by
  refine z_met (cc := cX9_harm) (maxL := 4) (ret := (some .int)) (lv := [(0, .ref hs), (1, .int xa)]) (by decide) rfl (Nat.le_of_ble_eq_true rfl) rfl ?_
  intro p e s m below meth c ls hx hb hr hlk hml hown hnm hts hKK hA hw hl
  have hK := hKK.1
  have hown : s.vm.findClass RX9 = some m.cls := hown
  have hT : ∀ w ∈ lw_all, w.before ([.ref hs, .int xa] : List Value).toArray s = true := fun w h => hts w (z_cons w h)
  refine lv_aload_n hx hb dX9_harm_0 rfl (lv_at hl 0 rfl) ?_
  refine z_get (C := RX9) (T := TX9) (N := 11) (ci := 9) (v := .ref mo) hx hb hT zin_X9 hown hK hw hm_hs hf_hs rfl 2 (by decide) (hT _ kw_479) rfl dX9_harm_1 ?_
  refine lv_iload_n hx hb dX9_harm_4 rfl (lv_at hl 1 rfl) ?_
  refine z_calliV (cells := 0) (slots := 0) (b := mo) (As := [.int xa]) (rest := []) (ci := 2) (q0 := (RX2, TX2, 11)) ⟨hx, hb, hml, hown, hT⟩ (c_X2_hasDrive l hm_mo hf_mo) (cwV 1 hT (z_goodV (fun _ h => h) kw_709 kw_710 kw_711 kw_87 kw_712) rfl rfl rfl (by decide +kernel) ⟨by decide, by decide⟩) z_mv hKK hK hw hA hm_mo hf_mo rfl rfl rfl hl.1 rfl (Nat.le_of_ble_eq_true rfl) dX9_harm_5 ⟨by decide, by decide⟩ (fun r1 u H locs hp hw => ?_)
  obtain ⟨rfl, hp⟩ := hp
  have hw : z_H D vwCl (z_A L sz) s.heap L f H locs := hw
  rcases hp with ⟨rfl, h2⟩ | ⟨rfl, h2⟩
  · exact absurd (Int.lt_of_le_of_lt h2.1 h2.2) (by decide)
  · skip
    refine z_if_ne (tgt := 14) hx hb (show (0 : Int32).toInt = 0 by decide) dX9_harm_8 (by decide) (fun h => absurd h (by decide)) (fun _ => ?_)
    refine lv_bipush (v := (-2)) hx hb dX9_harm_11 (by decide) ?_
    exact z_iret hx hb hr hlk (by decide) (by decide) hw (⟨rfl, by decide⟩) dX9_harm_13

set_option maxHeartbeats 2000000 in
set_option maxRecDepth 100000 in
theorem c_X9_ewe (l : Launch) {D : va_G} {cy : Nat → ClassId} {L : List Nat} {f : Nat → va_E} {sz : Nat} {hs tp rd mo dr im kp sl wk pl ex mx : Nat} {la sa mi da : Nat} {xa xb xc xd : Int32} (hm_hs : hs ∈ L) (hm_mo : mo ∈ L) (hf_hs : f hs = .inr (9, [.ref tp, .ref rd, .ref mo, .ref dr, .ref im, .ref kp, .ref sl, .ref wk, .ref pl, .ref ex, .ref mx])) (hf_mo : f mo = .inr (2, [.int 0, .int 0, .int 0, .int 0, .int 0, .int 0, .int 0, .ref la, .ref sa, .ref mi, .ref da])) : Met l yX9_ewe (z_ws yX9_ewe cX9_ewe 5 (some .int)) (z_R 3 0 0) (va_Pc [.ref hs, .int xa, .int xb, .int xc, .int xd] (z_Pre D vwCl (z_K D cy) L f sz)) (z_Qi D vwCl (fun r u => u = (L, f) ∧ (r.toInt = -2)) L sz) 0 0 (z_A L sz) := by
  refine z_met (cc := cX9_ewe) (maxL := 5) (ret := (some .int)) (lv := [(0, .ref hs), (1, .int xa), (2, .int xb), (3, .int xc), (4, .int xd)]) (by decide) rfl (Nat.le_of_ble_eq_true rfl) rfl ?_
  intro p e s m below meth c ls hx hb hr hlk hml hown hnm hts hKK hA hw hl
  have hK := hKK.1
  have hown : s.vm.findClass RX9 = some m.cls := hown
  have hT : ∀ w ∈ lw_all, w.before ([.ref hs, .int xa, .int xb, .int xc, .int xd] : List Value).toArray s = true := fun w h => hts w (z_cons w h)
  refine lv_aload_n hx hb dX9_ewe_0 rfl (lv_at hl 0 rfl) ?_
  refine z_get (C := RX9) (T := TX9) (N := 11) (ci := 9) (v := .ref mo) hx hb hT zin_X9 hown hK hw hm_hs hf_hs rfl 2 (by decide) (hT _ kw_479) rfl dX9_ewe_1 ?_
  refine lv_iload_n hx hb dX9_ewe_4 rfl (lv_at hl 1 rfl) ?_
  refine z_calliV (cells := 0) (slots := 0) (b := mo) (As := [.int xa]) (rest := []) (ci := 2) (q0 := (RX2, TX2, 11)) ⟨hx, hb, hml, hown, hT⟩ (c_X2_hasOwner l hm_mo hf_mo) (cwV 1 hT (z_goodV (fun _ h => h) kw_858 kw_859 kw_860 kw_87 kw_861) rfl rfl rfl (by decide +kernel) ⟨by decide, by decide⟩) z_mv hKK hK hw hA hm_mo hf_mo rfl rfl rfl hl.1 rfl (Nat.le_of_ble_eq_true rfl) dX9_ewe_5 ⟨by decide, by decide⟩ (fun r1 u H locs hp hw => ?_)
  obtain ⟨rfl, hp⟩ := hp
  have hw : z_H D vwCl (z_A L sz) s.heap L f H locs := hw
  rcases hp with ⟨rfl, h2⟩ | ⟨rfl, h2⟩
  · exact absurd (Int.lt_of_le_of_lt h2.1 h2.2) (by decide)
  · skip
    refine z_if_eq (tgt := 41) hx hb (show (0 : Int32).toInt = 0 by decide) dX9_ewe_8 (by decide) (fun _ => ?_) (fun h => absurd h (by decide))
    refine lv_bipush (v := (-2)) hx hb dX9_ewe_41 (by decide) ?_
    exact z_iret hx hb hr hlk (by decide) (by decide) hw (⟨rfl, by decide⟩) dX9_ewe_43

set_option maxHeartbeats 2000000 in
set_option maxRecDepth 100000 in
theorem c_X9_waits (l : Launch) {D : va_G} {cy : Nat → ClassId} {L : List Nat} {f : Nat → va_E} {sz : Nat} {hs tp rd mo dr im kp sl wk pl ex mx : Nat} {la sa mi da : Nat} {xa xb xc xd : Int32} (hm_hs : hs ∈ L) (hm_mo : mo ∈ L) (hf_hs : f hs = .inr (9, [.ref tp, .ref rd, .ref mo, .ref dr, .ref im, .ref kp, .ref sl, .ref wk, .ref pl, .ref ex, .ref mx])) (hf_mo : f mo = .inr (2, [.int 0, .int 0, .int 0, .int 0, .int 0, .int 0, .int 0, .ref la, .ref sa, .ref mi, .ref da])) : Met l yX9_waits (z_ws yX9_waits cX9_waits 9 (some .int)) (z_R 3 0 0) (va_Pc [.ref hs, .int xa, .int xb, .int xc, .int xd] (z_Pre D vwCl (z_K D cy) L f sz)) (z_Qi D vwCl (fun r u => u = (L, f) ∧ (r.toInt = -2)) L sz) 0 0 (z_A L sz) := by
  refine z_met (cc := cX9_waits) (maxL := 9) (ret := (some .int)) (lv := [(0, .ref hs), (1, .int xa), (2, .int xb), (3, .int xc), (4, .int xd)]) (by decide) rfl (Nat.le_of_ble_eq_true rfl) rfl ?_
  intro p e s m below meth c ls hx hb hr hlk hml hown hnm hts hKK hA hw hl
  have hK := hKK.1
  have hown : s.vm.findClass RX9 = some m.cls := hown
  have hT : ∀ w ∈ lw_all, w.before ([.ref hs, .int xa, .int xb, .int xc, .int xd] : List Value).toArray s = true := fun w h => hts w (z_cons w h)
  refine lv_aload_n hx hb dX9_waits_0 rfl (lv_at hl 0 rfl) ?_
  refine z_get (C := RX9) (T := TX9) (N := 11) (ci := 9) (v := .ref mo) hx hb hT zin_X9 hown hK hw hm_hs hf_hs rfl 2 (by decide) (hT _ kw_479) rfl dX9_waits_1 ?_
  refine lv_iload_n hx hb dX9_waits_4 rfl (lv_at hl 1 rfl) ?_
  refine z_calliV (cells := 0) (slots := 0) (b := mo) (As := [.int xa]) (rest := []) (ci := 2) (q0 := (RX2, TX2, 11)) ⟨hx, hb, hml, hown, hT⟩ (c_X2_hasOwner l hm_mo hf_mo) (cwV 1 hT (z_goodV (fun _ h => h) kw_858 kw_859 kw_860 kw_87 kw_861) rfl rfl rfl (by decide +kernel) ⟨by decide, by decide⟩) z_mv hKK hK hw hA hm_mo hf_mo rfl rfl rfl hl.1 rfl (Nat.le_of_ble_eq_true rfl) dX9_waits_5 ⟨by decide, by decide⟩ (fun r1 u H locs hp hw => ?_)
  obtain ⟨rfl, hp⟩ := hp
  have hw : z_H D vwCl (z_A L sz) s.heap L f H locs := hw
  rcases hp with ⟨rfl, h2⟩ | ⟨rfl, h2⟩
  · exact absurd (Int.lt_of_le_of_lt h2.1 h2.2) (by decide)
  · skip
    refine z_if_eq (tgt := 44) hx hb (show (0 : Int32).toInt = 0 by decide) dX9_waits_8 (by decide) (fun _ => ?_) (fun h => absurd h (by decide))
    refine lv_bipush (v := (-2)) hx hb dX9_waits_44 (by decide) ?_
    exact z_iret hx hb hr hlk (by decide) (by decide) hw (⟨rfl, by decide⟩) dX9_waits_46

set_option maxHeartbeats 2000000 in
set_option maxRecDepth 100000 in
theorem c_X9_ring (l : Launch) {D : va_G} {cy : Nat → ClassId} {L : List Nat} {f : Nat → va_E} {sz : Nat} {hs tp rd mo dr im kp sl wk pl ex mx : Nat} {la sa mi da : Nat} {xa xb xc : Int32} (hm_hs : hs ∈ L) (hm_mo : mo ∈ L) (hf_hs : f hs = .inr (9, [.ref tp, .ref rd, .ref mo, .ref dr, .ref im, .ref kp, .ref sl, .ref wk, .ref pl, .ref ex, .ref mx])) (hf_mo : f mo = .inr (2, [.int 0, .int 0, .int 0, .int 0, .int 0, .int 0, .int 0, .ref la, .ref sa, .ref mi, .ref da])) : Met l yX9_ring (z_ws yX9_ring cX9_ring 4 (some .int)) (z_R 3 0 0) (va_Pc [.ref hs, .int xa, .int xb, .int xc] (z_Pre D vwCl (z_K D cy) L f sz)) (z_Qi D vwCl (fun r u => u = (L, f) ∧ (r.toInt = -2)) L sz) 0 0 (z_A L sz) := by
  refine z_met (cc := cX9_ring) (maxL := 4) (ret := (some .int)) (lv := [(0, .ref hs), (1, .int xa), (2, .int xb), (3, .int xc)]) (by decide) rfl (Nat.le_of_ble_eq_true rfl) rfl ?_
  intro p e s m below meth c ls hx hb hr hlk hml hown hnm hts hKK hA hw hl
  have hK := hKK.1
  have hown : s.vm.findClass RX9 = some m.cls := hown
  have hT : ∀ w ∈ lw_all, w.before ([.ref hs, .int xa, .int xb, .int xc] : List Value).toArray s = true := fun w h => hts w (z_cons w h)
  refine lv_aload_n hx hb dX9_ring_0 rfl (lv_at hl 0 rfl) ?_
  refine lv_iload_n hx hb dX9_ring_1 rfl (lv_at hl 1 rfl) ?_
  refine lv_iload_n hx hb dX9_ring_2 rfl (lv_at hl 2 rfl) ?_
  refine z_calliV (cells := 0) (slots := 0) (b := hs) (As := [.int xa, .int xb]) (rest := []) (ci := 9) (q0 := (RX9, TX9, 11)) ⟨hx, hb, hml, hown, hT⟩ (c_X9_isRing l hm_hs hm_mo hf_hs hf_mo) (cwV 2 hT (z_goodV (fun _ h => h) kw_981 kw_983 kw_19 kw_85 kw_984) rfl rfl rfl (by decide +kernel) ⟨by decide, by decide⟩) z_mv hKK hK hw hA hm_hs hf_hs rfl rfl rfl hl.1 rfl (Nat.le_of_ble_eq_true rfl) dX9_ring_3 ⟨by decide, by decide⟩ (fun r1 u H locs hp hw => ?_)
  obtain ⟨rfl, hp⟩ := hp
  have hw : z_H D vwCl (z_A L sz) s.heap L f H locs := hw
  obtain rfl := hp
  refine z_if_eq (tgt := 19) hx hb (show (0 : Int32).toInt = 0 by decide) dX9_ring_6 (by decide) (fun _ => ?_) (fun h => absurd h (by decide))
  refine lv_bipush (v := (-2)) hx hb dX9_ring_19 (by decide) ?_
  exact z_iret hx hb hr hlk (by decide) (by decide) hw (⟨rfl, by decide⟩) dX9_ring_21

set_option maxHeartbeats 2000000 in
set_option maxRecDepth 100000 in
theorem c_X9_rounds (l : Launch) {D : va_G} {cy : Nat → ClassId} {L : List Nat} {f : Nat → va_E} {sz : Nat} {hs tp rd mo dr im kp sl wk pl ex mx : Nat} {la sa mi da : Nat} {xa xb : Int32} (hm_hs : hs ∈ L) (hm_mo : mo ∈ L) (hf_hs : f hs = .inr (9, [.ref tp, .ref rd, .ref mo, .ref dr, .ref im, .ref kp, .ref sl, .ref wk, .ref pl, .ref ex, .ref mx])) (hf_mo : f mo = .inr (2, [.int 0, .int 0, .int 0, .int 0, .int 0, .int 0, .int 0, .ref la, .ref sa, .ref mi, .ref da])) : Met l yX9_rounds (z_ws yX9_rounds cX9_rounds 6 (some .int)) (z_R 3 0 0) (va_Pc [.ref hs, .int xa, .int xb] (z_Pre D vwCl (z_K D cy) L f sz)) (z_Qi D vwCl (fun r u => u = (L, f) ∧ (r.toInt = -2)) L sz) 0 0 (z_A L sz) := by
  refine z_met (cc := cX9_rounds) (maxL := 6) (ret := (some .int)) (lv := [(0, .ref hs), (1, .int xa), (2, .int xb)]) (by decide) rfl (Nat.le_of_ble_eq_true rfl) rfl ?_
  intro p e s m below meth c ls hx hb hr hlk hml hown hnm hts hKK hA hw hl
  have hK := hKK.1
  have hown : s.vm.findClass RX9 = some m.cls := hown
  have hT : ∀ w ∈ lw_all, w.before ([.ref hs, .int xa, .int xb] : List Value).toArray s = true := fun w h => hts w (z_cons w h)
  refine lv_aload_n hx hb dX9_rounds_0 rfl (lv_at hl 0 rfl) ?_
  refine lv_iload_n hx hb dX9_rounds_1 rfl (lv_at hl 1 rfl) ?_
  refine lv_iload_n hx hb dX9_rounds_2 rfl (lv_at hl 2 rfl) ?_
  refine z_calliV (cells := 0) (slots := 0) (b := hs) (As := [.int xa, .int xb]) (rest := []) (ci := 9) (q0 := (RX9, TX9, 11)) ⟨hx, hb, hml, hown, hT⟩ (c_X9_isRing l hm_hs hm_mo hf_hs hf_mo) (cwV 2 hT (z_goodV (fun _ h => h) kw_981 kw_983 kw_19 kw_85 kw_984) rfl rfl rfl (by decide +kernel) ⟨by decide, by decide⟩) z_mv hKK hK hw hA hm_hs hf_hs rfl rfl rfl hl.1 rfl (Nat.le_of_ble_eq_true rfl) dX9_rounds_3 ⟨by decide, by decide⟩ (fun r1 u H locs hp hw => ?_)
  obtain ⟨rfl, hp⟩ := hp
  have hw : z_H D vwCl (z_A L sz) s.heap L f H locs := hw
  obtain rfl := hp
  refine z_if_ne (tgt := 12) hx hb (show (0 : Int32).toInt = 0 by decide) dX9_rounds_6 (by decide) (fun h => absurd h (by decide)) (fun _ => ?_)
  refine lv_bipush (v := (-2)) hx hb dX9_rounds_9 (by decide) ?_
  exact z_iret hx hb hr hlk (by decide) (by decide) hw (⟨rfl, by decide⟩) dX9_rounds_11

set_option maxHeartbeats 2000000 in
set_option maxRecDepth 100000 in
theorem c_X9_orders (l : Launch) {D : va_G} {cy : Nat → ClassId} {L : List Nat} {f : Nat → va_E} {sz : Nat} {hs tp rd mo dr im kp sl wk pl ex mx : Nat} {la sa mi da : Nat} {xa xb xc : Int32} (hm_hs : hs ∈ L) (hm_mo : mo ∈ L) (hf_hs : f hs = .inr (9, [.ref tp, .ref rd, .ref mo, .ref dr, .ref im, .ref kp, .ref sl, .ref wk, .ref pl, .ref ex, .ref mx])) (hf_mo : f mo = .inr (2, [.int 0, .int 0, .int 0, .int 0, .int 0, .int 0, .int 0, .ref la, .ref sa, .ref mi, .ref da])) : Met l yX9_orders (z_ws yX9_orders cX9_orders 5 (some .int)) (z_R 3 0 0) (va_Pc [.ref hs, .int xa, .int xb, .int xc] (z_Pre D vwCl (z_K D cy) L f sz)) (z_Qi D vwCl (fun r u => u = (L, f) ∧ (r.toInt = -2)) L sz) 0 0 (z_A L sz) := by
  refine z_met (cc := cX9_orders) (maxL := 5) (ret := (some .int)) (lv := [(0, .ref hs), (1, .int xa), (2, .int xb), (3, .int xc)]) (by decide) rfl (Nat.le_of_ble_eq_true rfl) rfl ?_
  intro p e s m below meth c ls hx hb hr hlk hml hown hnm hts hKK hA hw hl
  have hK := hKK.1
  have hown : s.vm.findClass RX9 = some m.cls := hown
  have hT : ∀ w ∈ lw_all, w.before ([.ref hs, .int xa, .int xb, .int xc] : List Value).toArray s = true := fun w h => hts w (z_cons w h)
  refine lv_aload_n hx hb dX9_orders_0 rfl (lv_at hl 0 rfl) ?_
  refine lv_iload_n hx hb dX9_orders_1 rfl (lv_at hl 1 rfl) ?_
  refine lv_iload_n hx hb dX9_orders_2 rfl (lv_at hl 2 rfl) ?_
  refine lv_iload_n hx hb dX9_orders_3 rfl (lv_at hl 3 rfl) ?_
  refine z_calliV (cells := 0) (slots := 0) (b := hs) (As := [.int xa, .int xb, .int xc]) (rest := []) (ci := 9) (q0 := (RX9, TX9, 11)) ⟨hx, hb, hml, hown, hT⟩ (c_X9_explain l hm_hs hm_mo hf_hs hf_mo) (cwV 3 hT (z_goodV (fun _ h => h) kw_995 kw_997 kw_20 kw_85 kw_998) rfl rfl rfl (by decide +kernel) ⟨by decide, by decide⟩) z_mv hKK hK hw hA hm_hs hf_hs rfl rfl rfl hl.1 rfl (Nat.le_of_ble_eq_true rfl) dX9_orders_4 ⟨by decide, by decide⟩ (fun r1 u H locs hp hw => ?_)
  obtain ⟨rfl, hp⟩ := hp
  have hw : z_H D vwCl (z_A L sz) s.heap L f H locs := hw
  obtain rfl := hp
  refine lv_istore (lv' := [(4, .int (-2)), (0, .ref hs), (1, .int xa), (2, .int xb), (3, .int xc)]) hx hb dX9_orders_7 hl (by decide) rfl (fun ls hl => ?_)
  refine lv_iload hx hb dX9_orders_9 (lv_at hl 0 rfl) ?_
  refine z_if_eq (tgt := 19) hx hb (show ((-2) : Int32).toInt = (-2) by decide) dX9_orders_11 (by decide) (fun h => absurd h (by decide)) (fun _ => ?_)
  refine lv_iload hx hb dX9_orders_14 (lv_at hl 0 rfl) ?_
  refine lv_goto (tgt := 26) hx hb dX9_orders_16 (by decide) ?_
  exact z_iret hx hb hr hlk (by decide) (by decide) hw (⟨rfl, by decide⟩) dX9_orders_26

set_option maxHeartbeats 2000000 in
set_option maxRecDepth 100000 in
theorem c_X9_order (l : Launch) {D : va_G} {cy : Nat → ClassId} {L : List Nat} {f : Nat → va_E} {sz : Nat} {hs tp rd mo dr im kp sl wk pl ex mx : Nat} {la sa mi da : Nat} {xa xb xc xd : Int32} (hm_hs : hs ∈ L) (hm_mo : mo ∈ L) (hf_hs : f hs = .inr (9, [.ref tp, .ref rd, .ref mo, .ref dr, .ref im, .ref kp, .ref sl, .ref wk, .ref pl, .ref ex, .ref mx])) (hf_mo : f mo = .inr (2, [.int 0, .int 0, .int 0, .int 0, .int 0, .int 0, .int 0, .ref la, .ref sa, .ref mi, .ref da])) : Met l yX9_order (z_ws yX9_order cX9_order 6 (some .int)) (z_R 3 0 0) (va_Pc [.ref hs, .int xa, .int xb, .int xc, .int xd] (z_Pre D vwCl (z_K D cy) L f sz)) (z_Qi D vwCl (fun r u => u = (L, f) ∧ (r.toInt = -2)) L sz) 0 0 (z_A L sz) := by
  refine z_met (cc := cX9_order) (maxL := 6) (ret := (some .int)) (lv := [(0, .ref hs), (1, .int xa), (2, .int xb), (3, .int xc), (4, .int xd)]) (by decide) rfl (Nat.le_of_ble_eq_true rfl) rfl ?_
  intro p e s m below meth c ls hx hb hr hlk hml hown hnm hts hKK hA hw hl
  have hK := hKK.1
  have hown : s.vm.findClass RX9 = some m.cls := hown
  have hT : ∀ w ∈ lw_all, w.before ([.ref hs, .int xa, .int xb, .int xc, .int xd] : List Value).toArray s = true := fun w h => hts w (z_cons w h)
  refine lv_aload_n hx hb dX9_order_0 rfl (lv_at hl 0 rfl) ?_
  refine lv_iload_n hx hb dX9_order_1 rfl (lv_at hl 1 rfl) ?_
  refine lv_iload_n hx hb dX9_order_2 rfl (lv_at hl 2 rfl) ?_
  refine lv_iload_n hx hb dX9_order_3 rfl (lv_at hl 3 rfl) ?_
  refine z_calliV (cells := 0) (slots := 0) (b := hs) (As := [.int xa, .int xb, .int xc]) (rest := []) (ci := 9) (q0 := (RX9, TX9, 11)) ⟨hx, hb, hml, hown, hT⟩ (c_X9_explain l hm_hs hm_mo hf_hs hf_mo) (cwV 3 hT (z_goodV (fun _ h => h) kw_995 kw_997 kw_20 kw_85 kw_998) rfl rfl rfl (by decide +kernel) ⟨by decide, by decide⟩) z_mv hKK hK hw hA hm_hs hf_hs rfl rfl rfl hl.1 rfl (Nat.le_of_ble_eq_true rfl) dX9_order_4 ⟨by decide, by decide⟩ (fun r1 u H locs hp hw => ?_)
  obtain ⟨rfl, hp⟩ := hp
  have hw : z_H D vwCl (z_A L sz) s.heap L f H locs := hw
  obtain rfl := hp
  refine lv_istore (lv' := [(5, .int (-2)), (0, .ref hs), (1, .int xa), (2, .int xb), (3, .int xc), (4, .int xd)]) hx hb dX9_order_7 hl (by decide) rfl (fun ls hl => ?_)
  refine lv_iload hx hb dX9_order_9 (lv_at hl 0 rfl) ?_
  refine z_if_eq (tgt := 17) hx hb (show ((-2) : Int32).toInt = (-2) by decide) dX9_order_11 (by decide) (fun h => absurd h (by decide)) (fun _ => ?_)
  refine lv_iload hx hb dX9_order_14 (lv_at hl 0 rfl) ?_
  exact z_iret hx hb hr hlk (by decide) (by decide) hw (⟨rfl, by decide⟩) dX9_order_16

set_option maxHeartbeats 2000000 in
set_option maxRecDepth 100000 in
theorem c_X9_sure (l : Launch) {D : va_G} {cy : Nat → ClassId} {L : List Nat} {f : Nat → va_E} {sz : Nat} {hs tp rd mo dr im kp sl wk pl ex mx : Nat} {la sa mi da : Nat} {xa xb xc xd : Int32} (hm_hs : hs ∈ L) (hm_mo : mo ∈ L) (hf_hs : f hs = .inr (9, [.ref tp, .ref rd, .ref mo, .ref dr, .ref im, .ref kp, .ref sl, .ref wk, .ref pl, .ref ex, .ref mx])) (hf_mo : f mo = .inr (2, [.int 0, .int 0, .int 0, .int 0, .int 0, .int 0, .int 0, .ref la, .ref sa, .ref mi, .ref da])) : Met l yX9_sure (z_ws yX9_sure cX9_sure 6 (some .int)) (z_R 3 0 0) (va_Pc [.ref hs, .int xa, .int xb, .int xc, .int xd] (z_Pre D vwCl (z_K D cy) L f sz)) (z_Qi D vwCl (fun r u => u = (L, f) ∧ (r.toInt = -2)) L sz) 0 0 (z_A L sz) := by
  refine z_met (cc := cX9_sure) (maxL := 6) (ret := (some .int)) (lv := [(0, .ref hs), (1, .int xa), (2, .int xb), (3, .int xc), (4, .int xd)]) (by decide) rfl (Nat.le_of_ble_eq_true rfl) rfl ?_
  intro p e s m below meth c ls hx hb hr hlk hml hown hnm hts hKK hA hw hl
  have hK := hKK.1
  have hown : s.vm.findClass RX9 = some m.cls := hown
  have hT : ∀ w ∈ lw_all, w.before ([.ref hs, .int xa, .int xb, .int xc, .int xd] : List Value).toArray s = true := fun w h => hts w (z_cons w h)
  refine lv_aload_n hx hb dX9_sure_0 rfl (lv_at hl 0 rfl) ?_
  refine z_get (C := RX9) (T := TX9) (N := 11) (ci := 9) (v := .ref mo) hx hb hT zin_X9 hown hK hw hm_hs hf_hs rfl 2 (by decide) (hT _ kw_479) rfl dX9_sure_1 ?_
  refine lv_iload hx hb dX9_sure_4 (lv_at hl 4 rfl) ?_
  refine z_calliV (cells := 0) (slots := 0) (b := mo) (As := [.int xd]) (rest := []) (ci := 2) (q0 := (RX2, TX2, 11)) ⟨hx, hb, hml, hown, hT⟩ (c_X2_hasDrive l hm_mo hf_mo) (cwV 1 hT (z_goodV (fun _ h => h) kw_709 kw_710 kw_711 kw_87 kw_712) rfl rfl rfl (by decide +kernel) ⟨by decide, by decide⟩) z_mv hKK hK hw hA hm_mo hf_mo rfl rfl rfl hl.1 rfl (Nat.le_of_ble_eq_true rfl) dX9_sure_6 ⟨by decide, by decide⟩ (fun r1 u H locs hp hw => ?_)
  obtain ⟨rfl, hp⟩ := hp
  have hw : z_H D vwCl (z_A L sz) s.heap L f H locs := hw
  rcases hp with ⟨rfl, h2⟩ | ⟨rfl, h2⟩
  · exact absurd (Int.lt_of_le_of_lt h2.1 h2.2) (by decide)
  · skip
    refine z_if_ne (tgt := 15) hx hb (show (0 : Int32).toInt = 0 by decide) dX9_sure_9 (by decide) (fun h => absurd h (by decide)) (fun _ => ?_)
    refine lv_bipush (v := (-2)) hx hb dX9_sure_12 (by decide) ?_
    exact z_iret hx hb hr hlk (by decide) (by decide) hw (⟨rfl, by decide⟩) dX9_sure_14

set_option maxHeartbeats 2000000 in
set_option maxRecDepth 100000 in
theorem c_X9_wrong (l : Launch) {D : va_G} {cy : Nat → ClassId} {L : List Nat} {f : Nat → va_E} {sz : Nat} {hs tp rd mo dr im kp sl wk pl ex mx : Nat} {la sa mi da : Nat} {xa xb : Int32} (hm_hs : hs ∈ L) (hm_mo : mo ∈ L) (hf_hs : f hs = .inr (9, [.ref tp, .ref rd, .ref mo, .ref dr, .ref im, .ref kp, .ref sl, .ref wk, .ref pl, .ref ex, .ref mx])) (hf_mo : f mo = .inr (2, [.int 0, .int 0, .int 0, .int 0, .int 0, .int 0, .int 0, .ref la, .ref sa, .ref mi, .ref da])) : Met l yX9_wrong (z_ws yX9_wrong cX9_wrong 6 (some .int)) (z_R 3 0 0) (va_Pc [.ref hs, .int xa, .int xb] (z_Pre D vwCl (z_K D cy) L f sz)) (z_Qi D vwCl (fun r u => u = (L, f) ∧ (r.toInt = -2)) L sz) 0 0 (z_A L sz) := by
  refine z_met (cc := cX9_wrong) (maxL := 6) (ret := (some .int)) (lv := [(0, .ref hs), (1, .int xa), (2, .int xb)]) (by decide) rfl (Nat.le_of_ble_eq_true rfl) rfl ?_
  intro p e s m below meth c ls hx hb hr hlk hml hown hnm hts hKK hA hw hl
  have hK := hKK.1
  have hown : s.vm.findClass RX9 = some m.cls := hown
  have hT : ∀ w ∈ lw_all, w.before ([.ref hs, .int xa, .int xb] : List Value).toArray s = true := fun w h => hts w (z_cons w h)
  refine lv_aload_n hx hb dX9_wrong_0 rfl (lv_at hl 0 rfl) ?_
  refine lv_iload_n hx hb dX9_wrong_1 rfl (lv_at hl 1 rfl) ?_
  refine lv_iload_n hx hb dX9_wrong_2 rfl (lv_at hl 2 rfl) ?_
  refine z_calliV (cells := 0) (slots := 0) (b := hs) (As := [.int xa, .int xb]) (rest := []) (ci := 9) (q0 := (RX9, TX9, 11)) ⟨hx, hb, hml, hown, hT⟩ (c_X9_askTold l hm_hs hm_mo hf_hs hf_mo) (cwV 2 hT (z_goodV (fun _ h => h) kw_1055 kw_1057 kw_25 kw_85 kw_1058) rfl rfl rfl (by decide +kernel) ⟨by decide, by decide⟩) z_mv hKK hK hw hA hm_hs hf_hs rfl rfl rfl hl.1 rfl (Nat.le_of_ble_eq_true rfl) dX9_wrong_3 ⟨by decide, by decide⟩ (fun r1 u H locs hp hw => ?_)
  obtain ⟨rfl, hp⟩ := hp
  have hw : z_H D vwCl (z_A L sz) s.heap L f H locs := hw
  obtain rfl := hp
  refine lv_istore_n (lv' := [(3, .int (-2)), (0, .ref hs), (1, .int xa), (2, .int xb)]) hx hb dX9_wrong_6 rfl hl (by decide) rfl (fun ls hl => ?_)
  refine lv_iload_n hx hb dX9_wrong_7 rfl (lv_at hl 0 rfl) ?_
  refine z_if_eq (tgt := 13) hx hb (show ((-2) : Int32).toInt = (-2) by decide) dX9_wrong_8 (by decide) (fun h => absurd h (by decide)) (fun _ => ?_)
  refine lv_iload_n hx hb dX9_wrong_11 rfl (lv_at hl 0 rfl) ?_
  exact z_iret hx hb hr hlk (by decide) (by decide) hw (⟨rfl, by decide⟩) dX9_wrong_12

set_option maxHeartbeats 2000000 in
set_option maxRecDepth 100000 in
theorem c_X9_anew (l : Launch) {D : va_G} {cy : Nat → ClassId} {L : List Nat} {f : Nat → va_E} {sz : Nat} {hs tp rd mo dr im kp sl wk pl ex mx : Nat} {la sa mi da : Nat} {xa xb : Int32} (hm_hs : hs ∈ L) (hm_mo : mo ∈ L) (hf_hs : f hs = .inr (9, [.ref tp, .ref rd, .ref mo, .ref dr, .ref im, .ref kp, .ref sl, .ref wk, .ref pl, .ref ex, .ref mx])) (hf_mo : f mo = .inr (2, [.int 0, .int 0, .int 0, .int 0, .int 0, .int 0, .int 0, .ref la, .ref sa, .ref mi, .ref da])) : Met l yX9_anew (z_ws yX9_anew cX9_anew 7 (some .int)) (z_R 3 0 0) (va_Pc [.ref hs, .int xa, .int xb] (z_Pre D vwCl (z_K D cy) L f sz)) (z_Qi D vwCl (fun r u => u = (L, f) ∧ (r.toInt = -2)) L sz) 0 0 (z_A L sz) := by
  refine z_met (cc := cX9_anew) (maxL := 7) (ret := (some .int)) (lv := [(0, .ref hs), (1, .int xa), (2, .int xb)]) (by decide) rfl (Nat.le_of_ble_eq_true rfl) rfl ?_
  intro p e s m below meth c ls hx hb hr hlk hml hown hnm hts hKK hA hw hl
  have hK := hKK.1
  have hown : s.vm.findClass RX9 = some m.cls := hown
  have hT : ∀ w ∈ lw_all, w.before ([.ref hs, .int xa, .int xb] : List Value).toArray s = true := fun w h => hts w (z_cons w h)
  refine lv_aload_n hx hb dX9_anew_0 rfl (lv_at hl 0 rfl) ?_
  refine lv_iload_n hx hb dX9_anew_1 rfl (lv_at hl 1 rfl) ?_
  refine lv_iload_n hx hb dX9_anew_2 rfl (lv_at hl 2 rfl) ?_
  refine z_calliV (cells := 0) (slots := 0) (b := hs) (As := [.int xa, .int xb]) (rest := []) (ci := 9) (q0 := (RX9, TX9, 11)) ⟨hx, hb, hml, hown, hT⟩ (c_X9_askTold l hm_hs hm_mo hf_hs hf_mo) (cwV 2 hT (z_goodV (fun _ h => h) kw_1055 kw_1057 kw_25 kw_85 kw_1058) rfl rfl rfl (by decide +kernel) ⟨by decide, by decide⟩) z_mv hKK hK hw hA hm_hs hf_hs rfl rfl rfl hl.1 rfl (Nat.le_of_ble_eq_true rfl) dX9_anew_3 ⟨by decide, by decide⟩ (fun r1 u H locs hp hw => ?_)
  obtain ⟨rfl, hp⟩ := hp
  have hw : z_H D vwCl (z_A L sz) s.heap L f H locs := hw
  obtain rfl := hp
  refine lv_istore_n (lv' := [(3, .int (-2)), (0, .ref hs), (1, .int xa), (2, .int xb)]) hx hb dX9_anew_6 rfl hl (by decide) rfl (fun ls hl => ?_)
  refine lv_iload_n hx hb dX9_anew_7 rfl (lv_at hl 0 rfl) ?_
  refine z_if_eq (tgt := 13) hx hb (show ((-2) : Int32).toInt = (-2) by decide) dX9_anew_8 (by decide) (fun h => absurd h (by decide)) (fun _ => ?_)
  refine lv_iload_n hx hb dX9_anew_11 rfl (lv_at hl 0 rfl) ?_
  exact z_iret hx hb hr hlk (by decide) (by decide) hw (⟨rfl, by decide⟩) dX9_anew_12

set_option maxHeartbeats 2000000 in
set_option maxRecDepth 100000 in
theorem c_X9_mixed (l : Launch) {D : va_G} {cy : Nat → ClassId} {L : List Nat} {f : Nat → va_E} {sz : Nat} {hs tp rd mo dr im kp sl wk pl ex mx : Nat} {la sa mi da : Nat} {xa xb : Int32} (hm_hs : hs ∈ L) (hm_mo : mo ∈ L) (hf_hs : f hs = .inr (9, [.ref tp, .ref rd, .ref mo, .ref dr, .ref im, .ref kp, .ref sl, .ref wk, .ref pl, .ref ex, .ref mx])) (hf_mo : f mo = .inr (2, [.int 0, .int 0, .int 0, .int 0, .int 0, .int 0, .int 0, .ref la, .ref sa, .ref mi, .ref da])) : Met l yX9_mixed (z_ws yX9_mixed cX9_mixed 3 (some .int)) (z_R 3 0 0) (va_Pc [.ref hs, .int xa, .int xb] (z_Pre D vwCl (z_K D cy) L f sz)) (z_Qi D vwCl (fun r u => u = (L, f) ∧ (r.toInt = -2)) L sz) 0 0 (z_A L sz) := by
  refine z_met (cc := cX9_mixed) (maxL := 3) (ret := (some .int)) (lv := [(0, .ref hs), (1, .int xa), (2, .int xb)]) (by decide) rfl (Nat.le_of_ble_eq_true rfl) rfl ?_
  intro p e s m below meth c ls hx hb hr hlk hml hown hnm hts hKK hA hw hl
  have hK := hKK.1
  have hown : s.vm.findClass RX9 = some m.cls := hown
  have hT : ∀ w ∈ lw_all, w.before ([.ref hs, .int xa, .int xb] : List Value).toArray s = true := fun w h => hts w (z_cons w h)
  refine lv_aload_n hx hb dX9_mixed_0 rfl (lv_at hl 0 rfl) ?_
  refine z_get (C := RX9) (T := TX9) (N := 11) (ci := 9) (v := .ref mo) hx hb hT zin_X9 hown hK hw hm_hs hf_hs rfl 2 (by decide) (hT _ kw_479) rfl dX9_mixed_1 ?_
  refine lv_iload_n hx hb dX9_mixed_4 rfl (lv_at hl 2 rfl) ?_
  refine z_calliV (cells := 0) (slots := 0) (b := mo) (As := [.int xb]) (rest := []) (ci := 2) (q0 := (RX2, TX2, 11)) ⟨hx, hb, hml, hown, hT⟩ (c_X2_hasOwner l hm_mo hf_mo) (cwV 1 hT (z_goodV (fun _ h => h) kw_858 kw_859 kw_860 kw_87 kw_861) rfl rfl rfl (by decide +kernel) ⟨by decide, by decide⟩) z_mv hKK hK hw hA hm_mo hf_mo rfl rfl rfl hl.1 rfl (Nat.le_of_ble_eq_true rfl) dX9_mixed_5 ⟨by decide, by decide⟩ (fun r1 u H locs hp hw => ?_)
  obtain ⟨rfl, hp⟩ := hp
  have hw : z_H D vwCl (z_A L sz) s.heap L f H locs := hw
  rcases hp with ⟨rfl, h2⟩ | ⟨rfl, h2⟩
  · exact absurd (Int.lt_of_le_of_lt h2.1 h2.2) (by decide)
  · skip
    refine z_if_eq (tgt := 18) hx hb (show (0 : Int32).toInt = 0 by decide) dX9_mixed_8 (by decide) (fun _ => ?_) (fun h => absurd h (by decide))
    refine lv_bipush (v := (-2)) hx hb dX9_mixed_18 (by decide) ?_
    exact z_iret hx hb hr hlk (by decide) (by decide) hw (⟨rfl, by decide⟩) dX9_mixed_20

set_option maxHeartbeats 2000000 in
set_option maxRecDepth 100000 in
theorem c_X9_luck (l : Launch) {D : va_G} {cy : Nat → ClassId} {L : List Nat} {f : Nat → va_E} {sz : Nat} {hs tp rd mo dr im kp sl wk pl ex mx : Nat} {la sa mi da : Nat} {xa xb xc : Int32} (hm_hs : hs ∈ L) (hm_mo : mo ∈ L) (hf_hs : f hs = .inr (9, [.ref tp, .ref rd, .ref mo, .ref dr, .ref im, .ref kp, .ref sl, .ref wk, .ref pl, .ref ex, .ref mx])) (hf_mo : f mo = .inr (2, [.int 0, .int 0, .int 0, .int 0, .int 0, .int 0, .int 0, .ref la, .ref sa, .ref mi, .ref da])) : Met l yX9_luck (z_ws yX9_luck cX9_luck 7 (some .int)) (z_R 3 0 0) (va_Pc [.ref hs, .int xa, .int xb, .int xc] (z_Pre D vwCl (z_K D cy) L f sz)) (z_Qi D vwCl (fun r u => u = (L, f) ∧ (r.toInt = -2)) L sz) 0 0 (z_A L sz) := by
  refine z_met (cc := cX9_luck) (maxL := 7) (ret := (some .int)) (lv := [(0, .ref hs), (1, .int xa), (2, .int xb), (3, .int xc)]) (by decide) rfl (Nat.le_of_ble_eq_true rfl) rfl ?_
  intro p e s m below meth c ls hx hb hr hlk hml hown hnm hts hKK hA hw hl
  have hK := hKK.1
  have hown : s.vm.findClass RX9 = some m.cls := hown
  have hT : ∀ w ∈ lw_all, w.before ([.ref hs, .int xa, .int xb, .int xc] : List Value).toArray s = true := fun w h => hts w (z_cons w h)
  refine lv_aload_n hx hb dX9_luck_0 rfl (lv_at hl 0 rfl) ?_
  refine z_get (C := RX9) (T := TX9) (N := 11) (ci := 9) (v := .ref mo) hx hb hT zin_X9 hown hK hw hm_hs hf_hs rfl 2 (by decide) (hT _ kw_479) rfl dX9_luck_1 ?_
  refine lv_iload_n hx hb dX9_luck_4 rfl (lv_at hl 3 rfl) ?_
  refine z_calliV (cells := 0) (slots := 0) (b := mo) (As := [.int xc]) (rest := []) (ci := 2) (q0 := (RX2, TX2, 11)) ⟨hx, hb, hml, hown, hT⟩ (c_X2_hasOwner l hm_mo hf_mo) (cwV 1 hT (z_goodV (fun _ h => h) kw_858 kw_859 kw_860 kw_87 kw_861) rfl rfl rfl (by decide +kernel) ⟨by decide, by decide⟩) z_mv hKK hK hw hA hm_mo hf_mo rfl rfl rfl hl.1 rfl (Nat.le_of_ble_eq_true rfl) dX9_luck_5 ⟨by decide, by decide⟩ (fun r1 u H locs hp hw => ?_)
  obtain ⟨rfl, hp⟩ := hp
  have hw : z_H D vwCl (z_A L sz) s.heap L f H locs := hw
  rcases hp with ⟨rfl, h2⟩ | ⟨rfl, h2⟩
  · exact absurd (Int.lt_of_le_of_lt h2.1 h2.2) (by decide)
  · skip
    refine z_if_eq (tgt := 29) hx hb (show (0 : Int32).toInt = 0 by decide) dX9_luck_8 (by decide) (fun _ => ?_) (fun h => absurd h (by decide))
    refine lv_bipush (v := (-2)) hx hb dX9_luck_29 (by decide) ?_
    exact z_iret hx hb hr hlk (by decide) (by decide) hw (⟨rfl, by decide⟩) dX9_luck_31

set_option maxHeartbeats 2000000 in
set_option maxRecDepth 100000 in
theorem c_X9_free (l : Launch) {D : va_G} {cy : Nat → ClassId} {L : List Nat} {f : Nat → va_E} {sz : Nat} {hs tp rd mo dr im kp sl wk pl ex mx : Nat} {la sa mi da : Nat} {xa : Int32} (hm_hs : hs ∈ L) (hm_mo : mo ∈ L) (hf_hs : f hs = .inr (9, [.ref tp, .ref rd, .ref mo, .ref dr, .ref im, .ref kp, .ref sl, .ref wk, .ref pl, .ref ex, .ref mx])) (hf_mo : f mo = .inr (2, [.int 0, .int 0, .int 0, .int 0, .int 0, .int 0, .int 0, .ref la, .ref sa, .ref mi, .ref da])) : Met l yX9_free (z_ws yX9_free cX9_free 3 (some .int)) (z_R 3 0 0) (va_Pc [.ref hs, .int xa] (z_Pre D vwCl (z_K D cy) L f sz)) (z_Qi D vwCl (fun r u => u = (L, f) ∧ (r.toInt = -2)) L sz) 0 0 (z_A L sz) := by
  refine z_met (cc := cX9_free) (maxL := 3) (ret := (some .int)) (lv := [(0, .ref hs), (1, .int xa)]) (by decide) rfl (Nat.le_of_ble_eq_true rfl) rfl ?_
  intro p e s m below meth c ls hx hb hr hlk hml hown hnm hts hKK hA hw hl
  have hK := hKK.1
  have hown : s.vm.findClass RX9 = some m.cls := hown
  have hT : ∀ w ∈ lw_all, w.before ([.ref hs, .int xa] : List Value).toArray s = true := fun w h => hts w (z_cons w h)
  refine lv_aload_n hx hb dX9_free_0 rfl (lv_at hl 0 rfl) ?_
  refine z_get (C := RX9) (T := TX9) (N := 11) (ci := 9) (v := .ref mo) hx hb hT zin_X9 hown hK hw hm_hs hf_hs rfl 2 (by decide) (hT _ kw_479) rfl dX9_free_1 ?_
  refine lv_iload_n hx hb dX9_free_4 rfl (lv_at hl 1 rfl) ?_
  refine z_calliV (cells := 0) (slots := 0) (b := mo) (As := [.int xa]) (rest := []) (ci := 2) (q0 := (RX2, TX2, 11)) ⟨hx, hb, hml, hown, hT⟩ (c_X2_hasOwner l hm_mo hf_mo) (cwV 1 hT (z_goodV (fun _ h => h) kw_858 kw_859 kw_860 kw_87 kw_861) rfl rfl rfl (by decide +kernel) ⟨by decide, by decide⟩) z_mv hKK hK hw hA hm_mo hf_mo rfl rfl rfl hl.1 rfl (Nat.le_of_ble_eq_true rfl) dX9_free_5 ⟨by decide, by decide⟩ (fun r1 u H locs hp hw => ?_)
  obtain ⟨rfl, hp⟩ := hp
  have hw : z_H D vwCl (z_A L sz) s.heap L f H locs := hw
  rcases hp with ⟨rfl, h2⟩ | ⟨rfl, h2⟩
  · exact absurd (Int.lt_of_le_of_lt h2.1 h2.2) (by decide)
  · skip
    refine z_if_ne (tgt := 14) hx hb (show (0 : Int32).toInt = 0 by decide) dX9_free_8 (by decide) (fun h => absurd h (by decide)) (fun _ => ?_)
    refine lv_bipush (v := (-2)) hx hb dX9_free_11 (by decide) ?_
    exact z_iret hx hb hr hlk (by decide) (by decide) hw (⟨rfl, by decide⟩) dX9_free_13

set_option maxHeartbeats 2000000 in
set_option maxRecDepth 100000 in
theorem c_X9_all (l : Launch) {D : va_G} {cy : Nat → ClassId} {L : List Nat} {f : Nat → va_E} {sz : Nat} {hs tp rd mo dr im kp sl wk pl ex mx : Nat} {la sa mi da : Nat} {xa : Int32} (hm_hs : hs ∈ L) (hm_mo : mo ∈ L) (hf_hs : f hs = .inr (9, [.ref tp, .ref rd, .ref mo, .ref dr, .ref im, .ref kp, .ref sl, .ref wk, .ref pl, .ref ex, .ref mx])) (hf_mo : f mo = .inr (2, [.int 0, .int 0, .int 0, .int 0, .int 0, .int 0, .int 0, .ref la, .ref sa, .ref mi, .ref da])) : Met l yX9_all (z_ws yX9_all cX9_all 2 (some .int)) (z_R 3 0 0) (va_Pc [.ref hs, .int xa] (z_Pre D vwCl (z_K D cy) L f sz)) (z_Qi D vwCl (fun r u => u = (L, f) ∧ (r.toInt = -2)) L sz) 0 0 (z_A L sz) := by
  refine z_met (cc := cX9_all) (maxL := 2) (ret := (some .int)) (lv := [(0, .ref hs), (1, .int xa)]) (by decide) rfl (Nat.le_of_ble_eq_true rfl) rfl ?_
  intro p e s m below meth c ls hx hb hr hlk hml hown hnm hts hKK hA hw hl
  have hK := hKK.1
  have hown : s.vm.findClass RX9 = some m.cls := hown
  have hT : ∀ w ∈ lw_all, w.before ([.ref hs, .int xa] : List Value).toArray s = true := fun w h => hts w (z_cons w h)
  refine lv_aload_n hx hb dX9_all_0 rfl (lv_at hl 0 rfl) ?_
  refine z_get (C := RX9) (T := TX9) (N := 11) (ci := 9) (v := .ref mo) hx hb hT zin_X9 hown hK hw hm_hs hf_hs rfl 2 (by decide) (hT _ kw_479) rfl dX9_all_1 ?_
  refine z_calliV (cells := 0) (slots := 0) (b := mo) (As := []) (rest := []) (ci := 2) (q0 := (RX2, TX2, 11)) ⟨hx, hb, hml, hown, hT⟩ (c_X2_isTold l hm_mo hf_mo) (cwV 0 hT (z_goodV (fun _ h => h) kw_725 kw_726 kw_727 kw_87 kw_728) rfl rfl rfl (by decide +kernel) ⟨by decide, by decide⟩) z_mv hKK hK hw hA hm_mo hf_mo rfl rfl rfl hl.1 rfl (Nat.le_of_ble_eq_true rfl) dX9_all_4 ⟨by decide, by decide⟩ (fun r1 u H locs hp hw => ?_)
  obtain ⟨rfl, hp⟩ := hp
  have hw : z_H D vwCl (z_A L sz) s.heap L f H locs := hw
  rcases hp with ⟨rfl, h2⟩ | ⟨rfl, h2⟩
  · exact absurd h2 (by decide)
  · skip
    refine z_if_eq (tgt := 19) hx hb (show (0 : Int32).toInt = 0 by decide) dX9_all_7 (by decide) (fun _ => ?_) (fun h => absurd h (by decide))
    refine lv_bipush (v := (-2)) hx hb dX9_all_19 (by decide) ?_
    exact z_iret hx hb hr hlk (by decide) (by decide) hw (⟨rfl, by decide⟩) dX9_all_21

set_option maxHeartbeats 2000000 in
set_option maxRecDepth 100000 in
theorem c_X6_hasRow (l : Launch) {D : va_G} {cy : Nat → ClassId} {L : List Nat} {f : Nat → va_E} {sz : Nat} {sl nu wi si : Nat} {gs : Nat → Int32} {g : Int32} (hm_sl : sl ∈ L) (hm_si : si ∈ L) (hf_sl : f sl = .inr (6, [.ref nu, .ref wi, .ref si])) (hf_si : f si = .inl (cy 1, 4, .inl gs)) (hgs : ∀ j : Nat, j < 4 → gs j = -1) (hsl : 0 ≤ g.toInt ∧ g.toInt < 4) : Met l yX6_hasRow (z_ws yX6_hasRow cX6_hasRow 2 (some .boolean)) (z_R 1 0 0) (va_Pc [.ref sl, .int g] (z_Pre D vwCl (z_K D cy) L f sz)) (z_Qi D vwCl (fun r u => u = (L, f) ∧ (r = 0)) L sz) 0 0 (z_A L sz) := by
  refine z_met (cc := cX6_hasRow) (maxL := 2) (ret := (some .boolean)) (lv := [(0, .ref sl), (1, .int g)]) (by decide) rfl (Nat.le_of_ble_eq_true rfl) rfl ?_
  intro p e s m below meth c ls hx hb hr hlk hml hown hnm hts hKK hA hw hl
  have hK := hKK.1
  have hown : s.vm.findClass RX6 = some m.cls := hown
  have hT : ∀ w ∈ lw_all, w.before ([.ref sl, .int g] : List Value).toArray s = true := fun w h => hts w (z_cons w h)
  refine lv_aload_n hx hb dX6_hasRow_0 rfl (lv_at hl 0 rfl) ?_
  refine z_get (C := RX6) (T := TX6) (N := 3) (ci := 6) (v := .ref si) hx hb hT zin_X6 hown hK hw hm_sl hf_sl rfl 2 (by decide) (hT _ kw_324) rfl dX6_hasRow_1 ?_
  refine lv_iload_n hx hb dX6_hasRow_4 rfl (lv_at hl 1 rfl) ?_
  refine z_iald hx hb hK hw 1 hm_si hf_si rfl (z_ix rfl (by omega)) dX6_hasRow_5 ?_
  refine z_lit (y := (-1)) (hgs _ (z_cl hsl)) ?_
  refine lv_iconst (v := (-1)) hx hb dX6_hasRow_6 (by decide) ?_
  refine z_icmp_eq (tgt := 14) hx hb (show ((-1) : Int32).toInt = (-1) by decide) (show ((-1) : Int32).toInt = (-1) by decide) dX6_hasRow_7 (by decide) (fun _ => ?_) (fun h => absurd h (by decide))
  refine lv_iconst (v := 0) hx hb dX6_hasRow_14 (by decide) ?_
  exact z_zret hx hb hr rfl hlk (by decide) (by decide) hw (⟨rfl, rfl⟩) dX6_hasRow_15

set_option maxHeartbeats 2000000 in
set_option maxRecDepth 100000 in
theorem c_X6_rows (l : Launch) {D : va_G} {cy : Nat → ClassId} {L : List Nat} {f : Nat → va_E} {sz : Nat} {sl nu wi si : Nat} {gs : Nat → Int32} (hm_sl : sl ∈ L) (hm_si : si ∈ L) (hf_sl : f sl = .inr (6, [.ref nu, .ref wi, .ref si])) (hf_si : f si = .inl (cy 1, 4, .inl gs)) (hgs : ∀ j : Nat, j < 4 → gs j = -1) : Met l yX6_rows (z_ws yX6_rows cX6_rows 3 (some .int)) (z_R 2 0 0) (va_Pc [.ref sl] (z_Pre D vwCl (z_K D cy) L f sz)) (z_Qi D vwCl (fun r u => u = (L, f) ∧ (r = 0)) L sz) 0 0 (z_A L sz) := by
  refine z_met (cc := cX6_rows) (maxL := 3) (ret := (some .int)) (lv := [(0, .ref sl)]) (by decide) rfl (Nat.le_of_ble_eq_true rfl) rfl ?_
  intro p e s m below meth c ls hx hb hr hlk hml hown hnm hts hKK hA hw hl
  have hK := hKK.1
  have hown : s.vm.findClass RX6 = some m.cls := hown
  have hT : ∀ w ∈ lw_all, w.before ([.ref sl] : List Value).toArray s = true := fun w h => hts w (z_cons w h)
  refine lv_iconst (v := 0) hx hb dX6_rows_0 (by decide) ?_
  refine lv_istore_n (lv' := [(1, .int 0), (0, .ref sl)]) hx hb dX6_rows_1 rfl hl (by decide) rfl (fun ls hl => ?_)
  refine lv_iconst (v := 0) hx hb dX6_rows_2 (by decide) ?_
  refine lv_istore_n (lv' := [(2, .int 0), (1, .int 0), (0, .ref sl)]) hx hb dX6_rows_3 rfl hl (by decide) rfl (fun ls hl => ?_)
  refine lv_iload_n hx hb dX6_rows_4 rfl (lv_at hl 0 rfl) ?_
  refine lv_iconst (v := 4) hx hb dX6_rows_5 (by decide) ?_
  refine z_icmp_ge (tgt := 26) hx hb (show (0 : Int32).toInt = 0 by decide) (show (4 : Int32).toInt = 4 by decide) dX6_rows_6 (by decide) (fun h => absurd h (by decide)) (fun _ => ?_)
  refine lv_aload_n hx hb dX6_rows_9 rfl (lv_at hl 2 rfl) ?_
  refine lv_iload_n hx hb dX6_rows_10 rfl (lv_at hl 0 rfl) ?_
  refine z_calliV (cells := 0) (slots := 0) (b := sl) (As := [.int 0]) (rest := []) (ci := 6) (q0 := (RX6, TX6, 3)) ⟨hx, hb, hml, hown, hT⟩ (c_X6_hasRow l hm_sl hm_si hf_sl hf_si hgs (by first | omega | decide | assumption)) (cwV 1 hT (z_goodV (fun _ h => h) kw_1126 kw_1003 kw_1004 kw_90 kw_1005) rfl rfl rfl (by decide +kernel) ⟨by decide, by decide⟩) z_mv hKK hK hw hA hm_sl hf_sl rfl rfl rfl hl.1 rfl (Nat.le_of_ble_eq_true rfl) dX6_rows_11 ⟨by decide, by decide⟩ (fun r1 u H locs hp hw => ?_)
  obtain ⟨rfl, hp⟩ := hp
  have hw : z_H D vwCl (z_A L sz) s.heap L f H locs := hw
  obtain rfl := hp
  refine z_if_eq (tgt := 20) hx hb (show (0 : Int32).toInt = 0 by decide) dX6_rows_14 (by decide) (fun _ => ?_) (fun h => absurd h (by decide))
  refine lv_iinc (v := 1) (lv' := [(2, .int 1), (1, .int 0), (0, .ref sl)]) hx hb dX6_rows_20 hl (k := 0) rfl (by decide) (by decide) rfl (fun ls hl => ?_)
  refine lv_goto (tgt := 4) hx hb dX6_rows_23 (by decide) ?_
  refine lv_iload_n hx hb dX6_rows_4 rfl (lv_at hl 0 rfl) ?_
  refine lv_iconst (v := 4) hx hb dX6_rows_5 (by decide) ?_
  refine z_icmp_ge (tgt := 26) hx hb (show (1 : Int32).toInt = 1 by decide) (show (4 : Int32).toInt = 4 by decide) dX6_rows_6 (by decide) (fun h => absurd h (by decide)) (fun _ => ?_)
  refine lv_aload_n hx hb dX6_rows_9 rfl (lv_at hl 2 rfl) ?_
  refine lv_iload_n hx hb dX6_rows_10 rfl (lv_at hl 0 rfl) ?_
  refine z_calliV (cells := 0) (slots := 0) (b := sl) (As := [.int 1]) (rest := []) (ci := 6) (q0 := (RX6, TX6, 3)) ⟨hx, hb, hml, hown, hT⟩ (c_X6_hasRow l hm_sl hm_si hf_sl hf_si hgs (by first | omega | decide | assumption)) (cwV 1 hT (z_goodV (fun _ h => h) kw_1126 kw_1003 kw_1004 kw_90 kw_1005) rfl rfl rfl (by decide +kernel) ⟨by decide, by decide⟩) z_mv hKK hK hw hA hm_sl hf_sl rfl rfl rfl hl.1 rfl (Nat.le_of_ble_eq_true rfl) dX6_rows_11 ⟨by decide, by decide⟩ (fun r2 u H locs hp hw => ?_)
  obtain ⟨rfl, hp⟩ := hp
  have hw : z_H D vwCl (z_A L sz) s.heap L f H locs := hw
  obtain rfl := hp
  refine z_if_eq (tgt := 20) hx hb (show (0 : Int32).toInt = 0 by decide) dX6_rows_14 (by decide) (fun _ => ?_) (fun h => absurd h (by decide))
  refine lv_iinc (v := 2) (lv' := [(2, .int 2), (1, .int 0), (0, .ref sl)]) hx hb dX6_rows_20 hl (k := 0) rfl (by decide) (by decide) rfl (fun ls hl => ?_)
  refine lv_goto (tgt := 4) hx hb dX6_rows_23 (by decide) ?_
  refine lv_iload_n hx hb dX6_rows_4 rfl (lv_at hl 0 rfl) ?_
  refine lv_iconst (v := 4) hx hb dX6_rows_5 (by decide) ?_
  refine z_icmp_ge (tgt := 26) hx hb (show (2 : Int32).toInt = 2 by decide) (show (4 : Int32).toInt = 4 by decide) dX6_rows_6 (by decide) (fun h => absurd h (by decide)) (fun _ => ?_)
  refine lv_aload_n hx hb dX6_rows_9 rfl (lv_at hl 2 rfl) ?_
  refine lv_iload_n hx hb dX6_rows_10 rfl (lv_at hl 0 rfl) ?_
  refine z_calliV (cells := 0) (slots := 0) (b := sl) (As := [.int 2]) (rest := []) (ci := 6) (q0 := (RX6, TX6, 3)) ⟨hx, hb, hml, hown, hT⟩ (c_X6_hasRow l hm_sl hm_si hf_sl hf_si hgs (by first | omega | decide | assumption)) (cwV 1 hT (z_goodV (fun _ h => h) kw_1126 kw_1003 kw_1004 kw_90 kw_1005) rfl rfl rfl (by decide +kernel) ⟨by decide, by decide⟩) z_mv hKK hK hw hA hm_sl hf_sl rfl rfl rfl hl.1 rfl (Nat.le_of_ble_eq_true rfl) dX6_rows_11 ⟨by decide, by decide⟩ (fun r3 u H locs hp hw => ?_)
  obtain ⟨rfl, hp⟩ := hp
  have hw : z_H D vwCl (z_A L sz) s.heap L f H locs := hw
  obtain rfl := hp
  refine z_if_eq (tgt := 20) hx hb (show (0 : Int32).toInt = 0 by decide) dX6_rows_14 (by decide) (fun _ => ?_) (fun h => absurd h (by decide))
  refine lv_iinc (v := 3) (lv' := [(2, .int 3), (1, .int 0), (0, .ref sl)]) hx hb dX6_rows_20 hl (k := 0) rfl (by decide) (by decide) rfl (fun ls hl => ?_)
  refine lv_goto (tgt := 4) hx hb dX6_rows_23 (by decide) ?_
  refine lv_iload_n hx hb dX6_rows_4 rfl (lv_at hl 0 rfl) ?_
  refine lv_iconst (v := 4) hx hb dX6_rows_5 (by decide) ?_
  refine z_icmp_ge (tgt := 26) hx hb (show (3 : Int32).toInt = 3 by decide) (show (4 : Int32).toInt = 4 by decide) dX6_rows_6 (by decide) (fun h => absurd h (by decide)) (fun _ => ?_)
  refine lv_aload_n hx hb dX6_rows_9 rfl (lv_at hl 2 rfl) ?_
  refine lv_iload_n hx hb dX6_rows_10 rfl (lv_at hl 0 rfl) ?_
  refine z_calliV (cells := 0) (slots := 0) (b := sl) (As := [.int 3]) (rest := []) (ci := 6) (q0 := (RX6, TX6, 3)) ⟨hx, hb, hml, hown, hT⟩ (c_X6_hasRow l hm_sl hm_si hf_sl hf_si hgs (by first | omega | decide | assumption)) (cwV 1 hT (z_goodV (fun _ h => h) kw_1126 kw_1003 kw_1004 kw_90 kw_1005) rfl rfl rfl (by decide +kernel) ⟨by decide, by decide⟩) z_mv hKK hK hw hA hm_sl hf_sl rfl rfl rfl hl.1 rfl (Nat.le_of_ble_eq_true rfl) dX6_rows_11 ⟨by decide, by decide⟩ (fun r4 u H locs hp hw => ?_)
  obtain ⟨rfl, hp⟩ := hp
  have hw : z_H D vwCl (z_A L sz) s.heap L f H locs := hw
  obtain rfl := hp
  refine z_if_eq (tgt := 20) hx hb (show (0 : Int32).toInt = 0 by decide) dX6_rows_14 (by decide) (fun _ => ?_) (fun h => absurd h (by decide))
  refine lv_iinc (v := 4) (lv' := [(2, .int 4), (1, .int 0), (0, .ref sl)]) hx hb dX6_rows_20 hl (k := 0) rfl (by decide) (by decide) rfl (fun ls hl => ?_)
  refine lv_goto (tgt := 4) hx hb dX6_rows_23 (by decide) ?_
  refine lv_iload_n hx hb dX6_rows_4 rfl (lv_at hl 0 rfl) ?_
  refine lv_iconst (v := 4) hx hb dX6_rows_5 (by decide) ?_
  refine z_icmp_ge (tgt := 26) hx hb (show (4 : Int32).toInt = 4 by decide) (show (4 : Int32).toInt = 4 by decide) dX6_rows_6 (by decide) (fun _ => ?_) (fun h => absurd h (by decide))
  refine lv_iload_n hx hb dX6_rows_26 rfl (lv_at hl 1 rfl) ?_
  exact z_iret hx hb hr hlk (by decide) (by decide) hw (⟨rfl, rfl⟩) dX6_rows_27

set_option maxHeartbeats 2000000 in
set_option maxRecDepth 100000 in
theorem c_X9_count (l : Launch) {D : va_G} {cy : Nat → ClassId} {L : List Nat} {f : Nat → va_E} {sz : Nat} {hs tp rd mo dr im kp sl wk pl ex mx : Nat} {nu wi si : Nat} {gs : Nat → Int32} {la sa mi da : Nat} {ba : Nat} {xa : Int32} (hm_hs : hs ∈ L) (hm_mo : mo ∈ L) (hm_tp : tp ∈ L) (hm_sl : sl ∈ L) (hm_si : si ∈ L) (hf_hs : f hs = .inr (9, [.ref tp, .ref rd, .ref mo, .ref dr, .ref im, .ref kp, .ref sl, .ref wk, .ref pl, .ref ex, .ref mx])) (hf_mo : f mo = .inr (2, [.int 0, .int 0, .int 0, .int 0, .int 0, .int 0, .int 0, .ref la, .ref sa, .ref mi, .ref da])) (hf_tp : f tp = .inr (7, [.ref ba, .int 0])) (hf_sl : f sl = .inr (6, [.ref nu, .ref wi, .ref si])) (hf_si : f si = .inl (cy 1, 4, .inl gs)) (hgs : ∀ j : Nat, j < 4 → gs j = -1) : Met l yX9_count (z_ws yX9_count cX9_count 2 (some .int)) (z_R 3 0 0) (va_Pc [.ref hs, .int xa] (z_Pre D vwCl (z_K D cy) L f sz)) (z_Qi D vwCl (fun r u => u = (L, f) ∧ ((r.toInt = 0 ∧ (0 ≤ xa.toInt ∧ xa.toInt ≤ 8)) ∨ (r.toInt = -1 ∧ ¬ (0 ≤ xa.toInt ∧ xa.toInt ≤ 8)))) L sz) 0 0 (z_A L sz) := by
  refine z_met (cc := cX9_count) (maxL := 2) (ret := (some .int)) (lv := [(0, .ref hs), (1, .int xa)]) (by decide) rfl (Nat.le_of_ble_eq_true rfl) rfl ?_
  intro p e s m below meth c ls hx hb hr hlk hml hown hnm hts hKK hA hw hl
  have hK := hKK.1
  have hown : s.vm.findClass RX9 = some m.cls := hown
  have hT : ∀ w ∈ lw_all, w.before ([.ref hs, .int xa] : List Value).toArray s = true := fun w h => hts w (z_cons w h)
  refine lv_iload_n hx hb dX9_count_0 rfl (lv_at hl 1 rfl) ?_
  by_cases c1 : xa.toInt < 0 ∨ 8 < xa.toInt
  · skip
    refine lv_tableOut (tgt := 124) hx hb dX9_count_1 (by rw [show xa.toInt = xa.toInt from rfl]; exact c1) (by decide) ?_
    refine lv_iconst (v := (-1)) hx hb dX9_count_124 (by decide) ?_
    exact z_iret hx hb hr hlk (by decide) (by decide) hw (⟨rfl, Or.inr ⟨by decide, by omega⟩⟩) dX9_count_125
  · skip
    have c1s : xa.toInt = 0 ∨ xa.toInt = 1 ∨ xa.toInt = 2 ∨ xa.toInt = 3 ∨ xa.toInt = 4 ∨ xa.toInt = 5 ∨ xa.toInt = 6 ∨ xa.toInt = 7 ∨ xa.toInt = 8 := by omega
    rcases c1s with c1 | c1 | c1 | c1 | c1 | c1 | c1 | c1 | c1
    · skip
      refine lv_tableIn (off := 51) (tgt := 52) hx hb dX9_count_1 (by omega) (by omega) (by rw [show xa.toInt = 0 from c1]; rfl) (by decide) ?_
      refine lv_aload_n hx hb dX9_count_52 rfl (lv_at hl 0 rfl) ?_
      refine z_get (C := RX9) (T := TX9) (N := 11) (ci := 9) (v := .ref mo) hx hb hT zin_X9 hown hK hw hm_hs hf_hs rfl 2 (by decide) (hT _ kw_479) rfl dX9_count_53 ?_
      refine z_get (C := RX2) (T := TX2) (N := 11) (ci := 2) (v := .int 0) hx hb hT zin_X2 hown hK hw hm_mo hf_mo rfl 1 (by decide) (hT _ kw_210) rfl dX9_count_56 ?_
      exact z_iret hx hb hr hlk (by decide) (by decide) hw (⟨rfl, Or.inl ⟨by decide, by omega⟩⟩) dX9_count_59
    · skip
      refine lv_tableIn (off := 59) (tgt := 60) hx hb dX9_count_1 (by omega) (by omega) (by rw [show xa.toInt = 1 from c1]; rfl) (by decide) ?_
      refine lv_aload_n hx hb dX9_count_60 rfl (lv_at hl 0 rfl) ?_
      refine z_get (C := RX9) (T := TX9) (N := 11) (ci := 9) (v := .ref mo) hx hb hT zin_X9 hown hK hw hm_hs hf_hs rfl 2 (by decide) (hT _ kw_479) rfl dX9_count_61 ?_
      refine z_get (C := RX2) (T := TX2) (N := 11) (ci := 2) (v := .int 0) hx hb hT zin_X2 hown hK hw hm_mo hf_mo rfl 2 (by decide) (hT _ kw_214) rfl dX9_count_64 ?_
      exact z_iret hx hb hr hlk (by decide) (by decide) hw (⟨rfl, Or.inl ⟨by decide, by omega⟩⟩) dX9_count_67
    · skip
      refine lv_tableIn (off := 67) (tgt := 68) hx hb dX9_count_1 (by omega) (by omega) (by rw [show xa.toInt = 2 from c1]; rfl) (by decide) ?_
      refine lv_aload_n hx hb dX9_count_68 rfl (lv_at hl 0 rfl) ?_
      refine z_get (C := RX9) (T := TX9) (N := 11) (ci := 9) (v := .ref mo) hx hb hT zin_X9 hown hK hw hm_hs hf_hs rfl 2 (by decide) (hT _ kw_479) rfl dX9_count_69 ?_
      refine z_get (C := RX2) (T := TX2) (N := 11) (ci := 2) (v := .int 0) hx hb hT zin_X2 hown hK hw hm_mo hf_mo rfl 3 (by decide) (hT _ kw_217) rfl dX9_count_72 ?_
      exact z_iret hx hb hr hlk (by decide) (by decide) hw (⟨rfl, Or.inl ⟨by decide, by omega⟩⟩) dX9_count_75
    · skip
      refine lv_tableIn (off := 75) (tgt := 76) hx hb dX9_count_1 (by omega) (by omega) (by rw [show xa.toInt = 3 from c1]; rfl) (by decide) ?_
      refine lv_aload_n hx hb dX9_count_76 rfl (lv_at hl 0 rfl) ?_
      refine z_get (C := RX9) (T := TX9) (N := 11) (ci := 9) (v := .ref mo) hx hb hT zin_X9 hown hK hw hm_hs hf_hs rfl 2 (by decide) (hT _ kw_479) rfl dX9_count_77 ?_
      refine z_get (C := RX2) (T := TX2) (N := 11) (ci := 2) (v := .int 0) hx hb hT zin_X2 hown hK hw hm_mo hf_mo rfl 5 (by decide) (hT _ kw_226) rfl dX9_count_80 ?_
      exact z_iret hx hb hr hlk (by decide) (by decide) hw (⟨rfl, Or.inl ⟨by decide, by omega⟩⟩) dX9_count_83
    · skip
      refine lv_tableIn (off := 83) (tgt := 84) hx hb dX9_count_1 (by omega) (by omega) (by rw [show xa.toInt = 4 from c1]; rfl) (by decide) ?_
      refine lv_aload_n hx hb dX9_count_84 rfl (lv_at hl 0 rfl) ?_
      refine z_get (C := RX9) (T := TX9) (N := 11) (ci := 9) (v := .ref mo) hx hb hT zin_X9 hown hK hw hm_hs hf_hs rfl 2 (by decide) (hT _ kw_479) rfl dX9_count_85 ?_
      refine z_get (C := RX2) (T := TX2) (N := 11) (ci := 2) (v := .int 0) hx hb hT zin_X2 hown hK hw hm_mo hf_mo rfl 6 (by decide) (hT _ kw_229) rfl dX9_count_88 ?_
      exact z_iret hx hb hr hlk (by decide) (by decide) hw (⟨rfl, Or.inl ⟨by decide, by omega⟩⟩) dX9_count_91
    · skip
      refine lv_tableIn (off := 91) (tgt := 92) hx hb dX9_count_1 (by omega) (by omega) (by rw [show xa.toInt = 5 from c1]; rfl) (by decide) ?_
      refine lv_aload_n hx hb dX9_count_92 rfl (lv_at hl 0 rfl) ?_
      refine z_get (C := RX9) (T := TX9) (N := 11) (ci := 9) (v := .ref mo) hx hb hT zin_X9 hown hK hw hm_hs hf_hs rfl 2 (by decide) (hT _ kw_479) rfl dX9_count_93 ?_
      refine z_get (C := RX2) (T := TX2) (N := 11) (ci := 2) (v := .int 0) hx hb hT zin_X2 hown hK hw hm_mo hf_mo rfl 0 (by decide) (hT _ kw_205) rfl dX9_count_96 ?_
      exact z_iret hx hb hr hlk (by decide) (by decide) hw (⟨rfl, Or.inl ⟨by decide, by omega⟩⟩) dX9_count_99
    · skip
      refine lv_tableIn (off := 99) (tgt := 100) hx hb dX9_count_1 (by omega) (by omega) (by rw [show xa.toInt = 6 from c1]; rfl) (by decide) ?_
      refine lv_aload_n hx hb dX9_count_100 rfl (lv_at hl 0 rfl) ?_
      refine z_get (C := RX9) (T := TX9) (N := 11) (ci := 9) (v := .ref tp) hx hb hT zin_X9 hown hK hw hm_hs hf_hs rfl 0 (by decide) (hT _ kw_477) rfl dX9_count_101 ?_
      refine z_get (C := RX7) (T := TX7) (N := 2) (ci := 7) (v := .int 0) hx hb hT zin_X7 hown hK hw hm_tp hf_tp rfl 1 (by decide) (hT _ kw_119) rfl dX9_count_104 ?_
      exact z_iret hx hb hr hlk (by decide) (by decide) hw (⟨rfl, Or.inl ⟨by decide, by omega⟩⟩) dX9_count_107
    · skip
      refine lv_tableIn (off := 107) (tgt := 108) hx hb dX9_count_1 (by omega) (by omega) (by rw [show xa.toInt = 7 from c1]; rfl) (by decide) ?_
      refine lv_aload_n hx hb dX9_count_108 rfl (lv_at hl 0 rfl) ?_
      refine z_get (C := RX9) (T := TX9) (N := 11) (ci := 9) (v := .ref mo) hx hb hT zin_X9 hown hK hw hm_hs hf_hs rfl 2 (by decide) (hT _ kw_479) rfl dX9_count_109 ?_
      refine z_get (C := RX2) (T := TX2) (N := 11) (ci := 2) (v := .int 0) hx hb hT zin_X2 hown hK hw hm_mo hf_mo rfl 4 (by decide) (hT _ kw_220) rfl dX9_count_112 ?_
      exact z_iret hx hb hr hlk (by decide) (by decide) hw (⟨rfl, Or.inl ⟨by decide, by omega⟩⟩) dX9_count_115
    · skip
      refine lv_tableIn (off := 115) (tgt := 116) hx hb dX9_count_1 (by omega) (by omega) (by rw [show xa.toInt = 8 from c1]; rfl) (by decide) ?_
      refine lv_aload_n hx hb dX9_count_116 rfl (lv_at hl 0 rfl) ?_
      refine z_get (C := RX9) (T := TX9) (N := 11) (ci := 9) (v := .ref sl) hx hb hT zin_X9 hown hK hw hm_hs hf_hs rfl 6 (by decide) (hT _ kw_483) rfl dX9_count_117 ?_
      refine z_calliV (cells := 0) (slots := 0) (b := sl) (As := []) (rest := []) (ci := 6) (q0 := (RX6, TX6, 3)) ⟨hx, hb, hml, hown, hT⟩ (c_X6_rows l hm_sl hm_si hf_sl hf_si hgs) (cwV 0 hT (z_goodV (fun _ h => h) kw_1122 kw_1123 kw_1124 kw_90 kw_1125) rfl rfl rfl (by decide +kernel) ⟨by decide, by decide⟩) z_mv hKK hK hw hA hm_sl hf_sl rfl rfl rfl hl.1 rfl (Nat.le_of_ble_eq_true rfl) dX9_count_120 ⟨by decide, by decide⟩ (fun r2 u H locs hp hw => ?_)
      obtain ⟨rfl, hp⟩ := hp
      have hw : z_H D vwCl (z_A L sz) s.heap L f H locs := hw
      obtain rfl := hp
      exact z_iret hx hb hr hlk (by decide) (by decide) hw (⟨rfl, Or.inl ⟨by decide, by omega⟩⟩) dX9_count_123

set_option maxHeartbeats 2000000 in
set_option maxRecDepth 100000 in
theorem c_X9_fault (l : Launch) {D : va_G} {cy : Nat → ClassId} {L : List Nat} {f : Nat → va_E} {sz : Nat} {hs tp rd mo dr im kp sl wk pl ex mx : Nat} {xa : Int32} (hm_hs : hs ∈ L) (hm_rd : rd ∈ L) (hf_hs : f hs = .inr (9, [.ref tp, .ref rd, .ref mo, .ref dr, .ref im, .ref kp, .ref sl, .ref wk, .ref pl, .ref ex, .ref mx])) (hf_rd : f rd = .inr (5, [.int 0, .int (-1), .ref tp, .ref dr, .int 0, .int 0, .int 0, .int 0, .int 0])) : Met l yX9_fault (z_ws yX9_fault cX9_fault 2 (some .int)) (z_R 3 0 0) (va_Pc [.ref hs, .int xa] (z_Pre D vwCl (z_K D cy) L f sz)) (z_Qi D vwCl (fun r u => u = (L, f) ∧ ((r.toInt = 0 ∧ xa.toInt = 0) ∨ (r.toInt = -1 ∧ xa.toInt ≠ 0))) L sz) 0 0 (z_A L sz) := by
  refine z_met (cc := cX9_fault) (maxL := 2) (ret := (some .int)) (lv := [(0, .ref hs), (1, .int xa)]) (by decide) rfl (Nat.le_of_ble_eq_true rfl) rfl ?_
  intro p e s m below meth c ls hx hb hr hlk hml hown hnm hts hKK hA hw hl
  have hK := hKK.1
  have hown : s.vm.findClass RX9 = some m.cls := hown
  have hT : ∀ w ∈ lw_all, w.before ([.ref hs, .int xa] : List Value).toArray s = true := fun w h => hts w (z_cons w h)
  refine lv_iload_n hx hb dX9_fault_0 rfl (lv_at hl 1 rfl) ?_
  refine z_if_ne (tgt := 12) hx hb rfl dX9_fault_1 (by decide) (fun c1 => ?_) (fun c1 => ?_)
  · skip
    refine lv_iload_n hx hb dX9_fault_12 rfl (lv_at hl 1 rfl) ?_
    refine lv_iconst (v := 1) hx hb dX9_fault_13 (by decide) ?_
    refine z_icmp_ne (tgt := 27) hx hb rfl (show (1 : Int32).toInt = 1 by decide) dX9_fault_14 (by decide) (fun c2 => ?_) (fun c2 => ?_)
    · skip
      refine lv_iconst (v := (-1)) hx hb dX9_fault_27 (by decide) ?_
      exact z_iret hx hb hr hlk (by decide) (by decide) hw (⟨rfl, Or.inr ⟨by decide, by omega⟩⟩) dX9_fault_28
    · skip
      refine lv_aload_n hx hb dX9_fault_17 rfl (lv_at hl 0 rfl) ?_
      refine z_get (C := RX9) (T := TX9) (N := 11) (ci := 9) (v := .ref rd) hx hb hT zin_X9 hown hK hw hm_hs hf_hs rfl 1 (by decide) (hT _ kw_478) rfl dX9_fault_18 ?_
      refine z_get (C := RX5) (T := TX5) (N := 9) (ci := 5) (v := .int (-1)) hx hb hT zin_X5 hown hK hw hm_rd hf_rd rfl 1 (by decide) (hT _ kw_280) rfl dX9_fault_21 ?_
      refine lv_goto (tgt := 28) hx hb dX9_fault_24 (by decide) ?_
      exact z_iret hx hb hr hlk (by decide) (by decide) hw (⟨rfl, Or.inr ⟨by decide, by omega⟩⟩) dX9_fault_28
  · skip
    refine lv_aload_n hx hb dX9_fault_4 rfl (lv_at hl 0 rfl) ?_
    refine z_get (C := RX9) (T := TX9) (N := 11) (ci := 9) (v := .ref rd) hx hb hT zin_X9 hown hK hw hm_hs hf_hs rfl 1 (by decide) (hT _ kw_478) rfl dX9_fault_5 ?_
    refine z_get (C := RX5) (T := TX5) (N := 9) (ci := 5) (v := .int 0) hx hb hT zin_X5 hown hK hw hm_rd hf_rd rfl 0 (by decide) (hT _ kw_278) rfl dX9_fault_8 ?_
    exact z_iret hx hb hr hlk (by decide) (by decide) hw (⟨rfl, Or.inl ⟨by decide, by omega⟩⟩) dX9_fault_11

set_option maxHeartbeats 2000000 in
set_option maxRecDepth 100000 in
theorem c_X9_write (l : Launch) {D : va_G} {cy : Nat → ClassId} {L : List Nat} {f : Nat → va_E} {sz : Nat} {hs tp rd mo dr im kp sl wk pl ex mx : Nat} {nu wi si : Nat} {gs : Nat → Int32} {xa xb : Int32} {xc : Int64} (hm_hs : hs ∈ L) (hm_sl : sl ∈ L) (hm_si : si ∈ L) (hf_hs : f hs = .inr (9, [.ref tp, .ref rd, .ref mo, .ref dr, .ref im, .ref kp, .ref sl, .ref wk, .ref pl, .ref ex, .ref mx])) (hf_sl : f sl = .inr (6, [.ref nu, .ref wi, .ref si])) (hf_si : f si = .inl (cy 1, 4, .inl gs)) (hgs : ∀ j : Nat, j < 4 → gs j = -1) : Met l yX9_write (z_ws yX9_write cX9_write 5 (some .int)) (z_R 3 0 0) (va_Pc [.ref hs, .int xa, .int xb, .long xc] (z_Pre D vwCl (z_K D cy) L f sz)) (z_Qi D vwCl (fun r u => u = (L, f) ∧ ((r.toInt = -6 ∧ (0 ≤ xa.toInt ∧ xa.toInt < 4)) ∨ (r.toInt = -2 ∧ ¬ (0 ≤ xa.toInt ∧ xa.toInt < 4)))) L sz) 0 0 (z_A L sz) := by
  refine z_met (cc := cX9_write) (maxL := 5) (ret := (some .int)) (lv := [(0, .ref hs), (1, .int xa), (2, .int xb), (3, .long xc)]) (by decide) rfl (Nat.le_of_ble_eq_true rfl) rfl ?_
  intro p e s m below meth c ls hx hb hr hlk hml hown hnm hts hKK hA hw hl
  have hK := hKK.1
  have hown : s.vm.findClass RX9 = some m.cls := hown
  have hT : ∀ w ∈ lw_all, w.before ([.ref hs, .int xa, .int xb, .long xc] : List Value).toArray s = true := fun w h => hts w (z_cons w h)
  refine lv_iload_n hx hb dX9_write_0 rfl (lv_at hl 1 rfl) ?_
  refine z_calliS (cells := 0) (slots := 0) (As := [.int xa]) (rest := []) ⟨hx, hb, hml, hown, hT⟩ (c_X6_isSlot l ) (va_cwS 1 hT (z_goodS (fun _ h => h) kw_999 kw_1000 kw_90 kw_1001) rfl rfl rfl (by decide +kernel) ⟨by decide, by decide⟩) z_mv hKK hw hA rfl hl.1 rfl (Nat.le_of_ble_eq_true rfl) dX9_write_1 ⟨by decide, by decide⟩ (fun r1 u H locs hp hw => ?_)
  obtain ⟨rfl, hp⟩ := hp
  have hw : z_H D vwCl (z_A L sz) s.heap L f H locs := hw
  rcases hp with ⟨rfl, h2⟩ | ⟨rfl, h2⟩
  · skip
    refine z_if_ne (tgt := 10) hx hb (show (1 : Int32).toInt = 1 by decide) dX9_write_4 (by decide) (fun _ => ?_) (fun h => absurd h (by decide))
    refine lv_aload_n hx hb dX9_write_10 rfl (lv_at hl 0 rfl) ?_
    refine z_get (C := RX9) (T := TX9) (N := 11) (ci := 9) (v := .ref sl) hx hb hT zin_X9 hown hK hw hm_hs hf_hs rfl 6 (by decide) (hT _ kw_483) rfl dX9_write_11 ?_
    refine lv_iload_n hx hb dX9_write_14 rfl (lv_at hl 1 rfl) ?_
    refine z_calliV (cells := 0) (slots := 0) (b := sl) (As := [.int xa]) (rest := []) (ci := 6) (q0 := (RX6, TX6, 3)) ⟨hx, hb, hml, hown, hT⟩ (c_X6_hasRow l hm_sl hm_si hf_sl hf_si hgs (by first | omega | decide | assumption)) (cwV 1 hT (z_goodV (fun _ h => h) kw_1002 kw_1003 kw_1004 kw_90 kw_1005) rfl rfl rfl (by decide +kernel) ⟨by decide, by decide⟩) z_mv hKK hK hw hA hm_sl hf_sl rfl rfl rfl hl.1 rfl (Nat.le_of_ble_eq_true rfl) dX9_write_15 ⟨by decide, by decide⟩ (fun r3 u H locs hp hw => ?_)
    obtain ⟨rfl, hp⟩ := hp
    have hw : z_H D vwCl (z_A L sz) s.heap L f H locs := hw
    obtain rfl := hp
    refine z_if_ne (tgt := 24) hx hb (show (0 : Int32).toInt = 0 by decide) dX9_write_18 (by decide) (fun h => absurd h (by decide)) (fun _ => ?_)
    refine lv_bipush (v := (-6)) hx hb dX9_write_21 (by decide) ?_
    exact z_iret hx hb hr hlk (by decide) (by decide) hw (⟨rfl, Or.inl ⟨by decide, by omega⟩⟩) dX9_write_23
  · skip
    refine z_if_ne (tgt := 10) hx hb (show (0 : Int32).toInt = 0 by decide) dX9_write_4 (by decide) (fun h => absurd h (by decide)) (fun _ => ?_)
    refine lv_bipush (v := (-2)) hx hb dX9_write_7 (by decide) ?_
    exact z_iret hx hb hr hlk (by decide) (by decide) hw (⟨rfl, Or.inr ⟨by decide, by omega⟩⟩) dX9_write_9

set_option maxHeartbeats 2000000 in
set_option maxRecDepth 100000 in
theorem c_X9_paste (l : Launch) {D : va_G} {cy : Nat → ClassId} {L : List Nat} {f : Nat → va_E} {sz : Nat} {hs tp rd mo dr im kp sl wk pl ex mx : Nat} {nu wi si : Nat} {gs : Nat → Int32} {xa xb xc xd xe : Int32} (hm_hs : hs ∈ L) (hm_sl : sl ∈ L) (hm_si : si ∈ L) (hf_hs : f hs = .inr (9, [.ref tp, .ref rd, .ref mo, .ref dr, .ref im, .ref kp, .ref sl, .ref wk, .ref pl, .ref ex, .ref mx])) (hf_sl : f sl = .inr (6, [.ref nu, .ref wi, .ref si])) (hf_si : f si = .inl (cy 1, 4, .inl gs)) (hgs : ∀ j : Nat, j < 4 → gs j = -1) : Met l yX9_paste (z_ws yX9_paste cX9_paste 6 (some .int)) (z_R 3 0 0) (va_Pc [.ref hs, .int xa, .int xb, .int xc, .int xd, .int xe] (z_Pre D vwCl (z_K D cy) L f sz)) (z_Qi D vwCl (fun r u => u = (L, f) ∧ ((r.toInt = -6 ∧ (0 ≤ xa.toInt ∧ xa.toInt < 4 ∧ 0 ≤ xc.toInt ∧ xc.toInt < 4)) ∨ (r.toInt = -2 ∧ ¬ (0 ≤ xa.toInt ∧ xa.toInt < 4 ∧ 0 ≤ xc.toInt ∧ xc.toInt < 4)))) L sz) 0 0 (z_A L sz) := by
  refine z_met (cc := cX9_paste) (maxL := 6) (ret := (some .int)) (lv := [(0, .ref hs), (1, .int xa), (2, .int xb), (3, .int xc), (4, .int xd), (5, .int xe)]) (by decide) rfl (Nat.le_of_ble_eq_true rfl) rfl ?_
  intro p e s m below meth c ls hx hb hr hlk hml hown hnm hts hKK hA hw hl
  have hK := hKK.1
  have hown : s.vm.findClass RX9 = some m.cls := hown
  have hT : ∀ w ∈ lw_all, w.before ([.ref hs, .int xa, .int xb, .int xc, .int xd, .int xe] : List Value).toArray s = true := fun w h => hts w (z_cons w h)
  refine lv_iload_n hx hb dX9_paste_0 rfl (lv_at hl 1 rfl) ?_
  refine z_calliS (cells := 0) (slots := 0) (As := [.int xa]) (rest := []) ⟨hx, hb, hml, hown, hT⟩ (c_X6_isSlot l ) (va_cwS 1 hT (z_goodS (fun _ h => h) kw_999 kw_1000 kw_90 kw_1001) rfl rfl rfl (by decide +kernel) ⟨by decide, by decide⟩) z_mv hKK hw hA rfl hl.1 rfl (Nat.le_of_ble_eq_true rfl) dX9_paste_1 ⟨by decide, by decide⟩ (fun r1 u H locs hp hw => ?_)
  obtain ⟨rfl, hp⟩ := hp
  have hw : z_H D vwCl (z_A L sz) s.heap L f H locs := hw
  rcases hp with ⟨rfl, h2⟩ | ⟨rfl, h2⟩
  · skip
    refine z_if_eq (tgt := 14) hx hb (show (1 : Int32).toInt = 1 by decide) dX9_paste_4 (by decide) (fun h => absurd h (by decide)) (fun _ => ?_)
    refine lv_iload_n hx hb dX9_paste_7 rfl (lv_at hl 3 rfl) ?_
    refine z_calliS (cells := 0) (slots := 0) (As := [.int xc]) (rest := []) ⟨hx, hb, hml, hown, hT⟩ (c_X6_isSlot l ) (va_cwS 1 hT (z_goodS (fun _ h => h) kw_999 kw_1000 kw_90 kw_1001) rfl rfl rfl (by decide +kernel) ⟨by decide, by decide⟩) z_mv hKK hw hA rfl hl.1 rfl (Nat.le_of_ble_eq_true rfl) dX9_paste_8 ⟨by decide, by decide⟩ (fun r3 u H locs hp hw => ?_)
    obtain ⟨rfl, hp⟩ := hp
    have hw : z_H D vwCl (z_A L sz) s.heap L f H locs := hw
    rcases hp with ⟨rfl, h4⟩ | ⟨rfl, h4⟩
    · skip
      refine z_if_ne (tgt := 17) hx hb (show (1 : Int32).toInt = 1 by decide) dX9_paste_11 (by decide) (fun _ => ?_) (fun h => absurd h (by decide))
      refine lv_aload_n hx hb dX9_paste_17 rfl (lv_at hl 0 rfl) ?_
      refine z_get (C := RX9) (T := TX9) (N := 11) (ci := 9) (v := .ref sl) hx hb hT zin_X9 hown hK hw hm_hs hf_hs rfl 6 (by decide) (hT _ kw_483) rfl dX9_paste_18 ?_
      refine lv_iload_n hx hb dX9_paste_21 rfl (lv_at hl 1 rfl) ?_
      refine z_calliV (cells := 0) (slots := 0) (b := sl) (As := [.int xa]) (rest := []) (ci := 6) (q0 := (RX6, TX6, 3)) ⟨hx, hb, hml, hown, hT⟩ (c_X6_hasRow l hm_sl hm_si hf_sl hf_si hgs (by first | omega | decide | assumption)) (cwV 1 hT (z_goodV (fun _ h => h) kw_1002 kw_1003 kw_1004 kw_90 kw_1005) rfl rfl rfl (by decide +kernel) ⟨by decide, by decide⟩) z_mv hKK hK hw hA hm_sl hf_sl rfl rfl rfl hl.1 rfl (Nat.le_of_ble_eq_true rfl) dX9_paste_22 ⟨by decide, by decide⟩ (fun r5 u H locs hp hw => ?_)
      obtain ⟨rfl, hp⟩ := hp
      have hw : z_H D vwCl (z_A L sz) s.heap L f H locs := hw
      obtain rfl := hp
      refine z_if_eq (tgt := 39) hx hb (show (0 : Int32).toInt = 0 by decide) dX9_paste_25 (by decide) (fun _ => ?_) (fun h => absurd h (by decide))
      refine lv_bipush (v := (-6)) hx hb dX9_paste_39 (by decide) ?_
      exact z_iret hx hb hr hlk (by decide) (by decide) hw (⟨rfl, Or.inl ⟨by decide, by omega⟩⟩) dX9_paste_41
    · skip
      refine z_if_ne (tgt := 17) hx hb (show (0 : Int32).toInt = 0 by decide) dX9_paste_11 (by decide) (fun h => absurd h (by decide)) (fun _ => ?_)
      refine lv_bipush (v := (-2)) hx hb dX9_paste_14 (by decide) ?_
      exact z_iret hx hb hr hlk (by decide) (by decide) hw (⟨rfl, Or.inr ⟨by decide, by omega⟩⟩) dX9_paste_16
  · skip
    refine z_if_eq (tgt := 14) hx hb (show (0 : Int32).toInt = 0 by decide) dX9_paste_4 (by decide) (fun _ => ?_) (fun h => absurd h (by decide))
    refine lv_bipush (v := (-2)) hx hb dX9_paste_14 (by decide) ?_
    exact z_iret hx hb hr hlk (by decide) (by decide) hw (⟨rfl, Or.inr ⟨by decide, by omega⟩⟩) dX9_paste_16

set_option maxHeartbeats 2000000 in
set_option maxRecDepth 100000 in
theorem c_X9_back (l : Launch) {D : va_G} {cy : Nat → ClassId} {L : List Nat} {f : Nat → va_E} {sz : Nat} {hs tp rd mo dr im kp sl wk pl ex mx : Nat} {xa : Int32} (hm_hs : hs ∈ L) (hm_kp : kp ∈ L) (hf_hs : f hs = .inr (9, [.ref tp, .ref rd, .ref mo, .ref dr, .ref im, .ref kp, .ref sl, .ref wk, .ref pl, .ref ex, .ref mx])) (hf_kp : f kp = .inl (cy 3, 3, .inl (fun _ => 0))) : Met l yX9_back (z_ws yX9_back cX9_back 2 (some .int)) (z_R 3 0 0) (va_Pc [.ref hs, .int xa] (z_Pre D vwCl (z_K D cy) L f sz)) (z_Qi D vwCl (fun r u => u = (L, f) ∧ ((r.toInt = -6 ∧ (0 ≤ xa.toInt ∧ xa.toInt < 3)) ∨ (r.toInt = -2 ∧ ¬ (0 ≤ xa.toInt ∧ xa.toInt < 3)))) L sz) 0 0 (z_A L sz) := by
  refine z_met (cc := cX9_back) (maxL := 2) (ret := (some .int)) (lv := [(0, .ref hs), (1, .int xa)]) (by decide) rfl (Nat.le_of_ble_eq_true rfl) rfl ?_
  intro p e s m below meth c ls hx hb hr hlk hml hown hnm hts hKK hA hw hl
  have hK := hKK.1
  have hown : s.vm.findClass RX9 = some m.cls := hown
  have hT : ∀ w ∈ lw_all, w.before ([.ref hs, .int xa] : List Value).toArray s = true := fun w h => hts w (z_cons w h)
  refine lv_iload_n hx hb dX9_back_0 rfl (lv_at hl 1 rfl) ?_
  refine z_if_lt (tgt := 9) hx hb rfl dX9_back_1 (by decide) (fun c1 => ?_) (fun c1 => ?_)
  · skip
    refine lv_bipush (v := (-2)) hx hb dX9_back_9 (by decide) ?_
    exact z_iret hx hb hr hlk (by decide) (by decide) hw (⟨rfl, Or.inr ⟨by decide, by omega⟩⟩) dX9_back_11
  · skip
    refine lv_iload_n hx hb dX9_back_4 rfl (lv_at hl 1 rfl) ?_
    refine lv_iconst (v := 3) hx hb dX9_back_5 (by decide) ?_
    refine z_icmp_lt (tgt := 12) hx hb rfl (show (3 : Int32).toInt = 3 by decide) dX9_back_6 (by decide) (fun c2 => ?_) (fun c2 => ?_)
    · skip
      refine lv_aload_n hx hb dX9_back_12 rfl (lv_at hl 0 rfl) ?_
      refine z_get (C := RX9) (T := TX9) (N := 11) (ci := 9) (v := .ref kp) hx hb hT zin_X9 hown hK hw hm_hs hf_hs rfl 5 (by decide) (hT _ kw_482) rfl dX9_back_13 ?_
      refine lv_iload_n hx hb dX9_back_16 rfl (lv_at hl 1 rfl) ?_
      refine z_zald hx hb hK hw 3 hm_kp hf_kp rfl (z_ix rfl (by omega)) dX9_back_17 ?_
      refine z_lit (y := 0) rfl ?_
      refine z_if_ne (tgt := 24) hx hb (show (0 : Int32).toInt = 0 by decide) dX9_back_18 (by decide) (fun h => absurd h (by decide)) (fun _ => ?_)
      refine lv_bipush (v := (-6)) hx hb dX9_back_21 (by decide) ?_
      exact z_iret hx hb hr hlk (by decide) (by decide) hw (⟨rfl, Or.inl ⟨by decide, by omega⟩⟩) dX9_back_23
    · skip
      refine lv_bipush (v := (-2)) hx hb dX9_back_9 (by decide) ?_
      exact z_iret hx hb hr hlk (by decide) (by decide) hw (⟨rfl, Or.inr ⟨by decide, by omega⟩⟩) dX9_back_11

set_option maxHeartbeats 2000000 in
set_option maxRecDepth 100000 in
theorem c_X9_end (l : Launch) {D : va_G} {cy : Nat → ClassId} {L : List Nat} {f : Nat → va_E} {sz : Nat} {hs tp rd mo dr im kp sl wk pl ex mx : Nat} {ba : Nat} {xa : Int32} (hm_hs : hs ∈ L) (hm_tp : tp ∈ L) (hf_hs : f hs = .inr (9, [.ref tp, .ref rd, .ref mo, .ref dr, .ref im, .ref kp, .ref sl, .ref wk, .ref pl, .ref ex, .ref mx])) (hf_tp : f tp = .inr (7, [.ref ba, .int 0])) : Met l yX9_end (z_ws yX9_end cX9_end 2 (some .int)) (z_R 3 0 0) (va_Pc [.ref hs, .int xa] (z_Pre D vwCl (z_K D cy) L f sz)) (z_Qi D vwCl (fun r u => (∀ b ∈ L, b ∈ u.1) ∧ (∀ b ∈ L, b ≠ tp → u.2 b = f b) ∧ (((r.toInt = 0 ∧ xa.toInt = 0) ∨ (r.toInt = -1 ∧ xa.toInt ≠ 0)))) L sz) 0 0 (z_A L sz) := by
  refine z_met (cc := cX9_end) (maxL := 2) (ret := (some .int)) (lv := [(0, .ref hs), (1, .int xa)]) (by decide) rfl (Nat.le_of_ble_eq_true rfl) rfl ?_
  intro p e s m below meth c ls hx hb hr hlk hml hown hnm hts hKK hA hw hl
  have hK := hKK.1
  have hown : s.vm.findClass RX9 = some m.cls := hown
  have hT : ∀ w ∈ lw_all, w.before ([.ref hs, .int xa] : List Value).toArray s = true := fun w h => hts w (z_cons w h)
  have hsub : ∀ b ∈ L, b ∈ L := fun _ h => h
  have hfr : ∀ b ∈ L, b ≠ tp → f b = f b := fun _ _ _ => rfl
  refine lv_iload_n hx hb dX9_end_0 rfl (lv_at hl 1 rfl) ?_
  refine z_if_lt (tgt := 15) hx hb rfl dX9_end_1 (by decide) (fun c1 => ?_) (fun c1 => ?_)
  · skip
    refine lv_iconst (v := (-1)) hx hb dX9_end_15 (by decide) ?_
    exact z_iret hx hb hr hlk (by decide) (by decide) hw (⟨hsub, hfr, Or.inr ⟨by decide, by omega⟩⟩) dX9_end_16
  · skip
    refine lv_iload_n hx hb dX9_end_4 rfl (lv_at hl 1 rfl) ?_
    refine lv_aload_n hx hb dX9_end_5 rfl (lv_at hl 0 rfl) ?_
    refine z_get (C := RX9) (T := TX9) (N := 11) (ci := 9) (v := .ref tp) hx hb hT zin_X9 hown hK hw hm_hs hf_hs rfl 0 (by decide) (hT _ kw_477) rfl dX9_end_6 ?_
    refine z_get (C := RX7) (T := TX7) (N := 2) (ci := 7) (v := .int 0) hx hb hT zin_X7 hown hK hw hm_tp hf_tp rfl 1 (by decide) (hT _ kw_119) rfl dX9_end_9 ?_
    refine z_icmp_le (tgt := 17) hx hb rfl (show (0 : Int32).toInt = 0 by decide) dX9_end_12 (by decide) (fun c2 => ?_) (fun c2 => ?_)
    · skip
      refine lv_aload_n hx hb dX9_end_17 rfl (lv_at hl 0 rfl) ?_
      refine z_get (C := RX9) (T := TX9) (N := 11) (ci := 9) (v := .ref tp) hx hb hT zin_X9 hown hK hw hm_hs hf_hs rfl 0 (by decide) (hT _ kw_477) rfl dX9_end_18 ?_
      refine lv_iload_n hx hb dX9_end_21 rfl (lv_at hl 1 rfl) ?_
      refine z_put (C := RX7) (T := TX7) (N := 2) (ci := 7) (v := .int xa) (fs' := [.ref ba, .int xa]) hx hb hT zin_X7 tyX7_ok nmX7 hown hK hw hm_tp hf_tp rfl 1 (by decide) (hT _ kw_119) rfl rfl rfl (Nat.le_of_ble_eq_true rfl) rfl dX9_end_22 (fun H locs hw => ?_)
      obtain ⟨f3, e_f3⟩ : ∃ z, z = va_up f tp (.inr (7, [.ref ba, .int xa])) := ⟨_, rfl⟩
      rw [← e_f3] at hw
      have hf_hs : f3 hs = .inr (9, [.ref tp, .ref rd, .ref mo, .ref dr, .ref im, .ref kp, .ref sl, .ref wk, .ref pl, .ref ex, .ref mx]) := (congrFun e_f3 hs).trans (z_up_ne (z_tne hf_hs hf_tp (m := 9) (n := 7) rfl rfl (by decide)) hf_hs)
      have hf_tp : f3 tp = .inr (7, [.ref ba, .int xa]) := (congrFun e_f3 tp).trans z_up_self
      have hfr : ∀ b ∈ L, b ≠ tp → f3 b = f b := fun b hb h0 => (congrFun e_f3 b).trans (z_up_ne h0 (hfr b hb h0))
      refine lv_iload_n hx hb dX9_end_25 rfl (lv_at hl 1 rfl) ?_
      exact z_iret hx hb hr hlk (by decide) (by decide) hw (⟨hsub, hfr, Or.inl ⟨by omega, by omega⟩⟩) dX9_end_26
    · skip
      refine lv_iconst (v := (-1)) hx hb dX9_end_15 (by decide) ?_
      exact z_iret hx hb hr hlk (by decide) (by decide) hw (⟨hsub, hfr, Or.inr ⟨by decide, by omega⟩⟩) dX9_end_16

set_option maxHeartbeats 2000000 in
set_option maxRecDepth 100000 in
theorem c_X7_append (l : Launch) {D : va_G} {cy : Nat → ClassId} {L : List Nat} {f : Nat → va_E} {sz : Nat} {tp ba : Nat} {g : Nat → Int32} {len fw : Int32} (hm_tp : tp ∈ L) (hm_ba : ba ∈ L) (hf_tp : f tp = .inr (7, [.ref ba, .int len])) (hf_ba : f ba = .inl (cy 0, 1600, .inl g)) (hlen : 0 ≤ len.toInt ∧ len.toInt ≤ 1596) : Met l yX7_append (z_ws yX7_append cX7_append 3 none) (z_R 1 0 0) (va_Pc [.ref tp, .int fw] (z_Pre D vwCl (z_K D cy) L f sz)) (z_Qv D vwCl (fun u => (∀ b ∈ L, b ∈ u.1) ∧ (∀ b ∈ L, b ≠ tp → b ≠ ba → u.2 b = f b) ∧ (∃ (g2 : Nat → Int32) (len2 : Int32), (u.2 tp = .inr (7, [.ref ba, .int len2])) ∧ (u.2 ba = .inl (cy 0, 1600, .inl g2)) ∧ (len2.toInt = len.toInt + 4))) L sz) 0 0 (z_A L sz) := by
  refine z_met (cc := cX7_append) (maxL := 3) (ret := none) (lv := [(0, .ref tp), (1, .int fw)]) (by decide) rfl (Nat.le_of_ble_eq_true rfl) rfl ?_
  intro p e s m below meth c ls hx hb hr hlk hml hown hnm hts hKK hA hw hl
  have hK := hKK.1
  have hown : s.vm.findClass RX7 = some m.cls := hown
  have hT : ∀ w ∈ lw_all, w.before ([.ref tp, .int fw] : List Value).toArray s = true := fun w h => hts w (z_cons w h)
  have hsub : ∀ b ∈ L, b ∈ L := fun _ h => h
  have hfr : ∀ b ∈ L, b ≠ tp → b ≠ ba → f b = f b := fun _ _ _ _ => rfl
  refine lv_bipush (v := 24) hx hb dX7_append_0 (by decide) ?_
  refine lv_istore_n (lv' := [(2, .int 24), (0, .ref tp), (1, .int fw)]) hx hb dX7_append_2 rfl hl (by decide) rfl (fun ls hl => ?_)
  refine lv_iload_n hx hb dX7_append_3 rfl (lv_at hl 0 rfl) ?_
  refine z_if_lt (tgt := 46) hx hb (show (24 : Int32).toInt = 24 by decide) dX7_append_4 (by decide) (fun h => absurd h (by decide)) (fun _ => ?_)
  refine lv_aload_n hx hb dX7_append_7 rfl (lv_at hl 1 rfl) ?_
  refine z_get (C := RX7) (T := TX7) (N := 2) (ci := 7) (v := .int len) hx hb hT zin_X7 hown hK hw hm_tp hf_tp rfl 1 (by decide) (hT _ kw_120) rfl dX7_append_8 ?_
  refine lv_sipush (v := 1600) hx hb dX7_append_11 (by decide) ?_
  refine z_icmp_ge (tgt := 46) hx hb rfl (show (1600 : Int32).toInt = 1600 by decide) dX7_append_14 (by decide) (fun c1 => False.elim (by omega)) (fun c1 => ?_)
  refine lv_aload_n hx hb dX7_append_17 rfl (lv_at hl 1 rfl) ?_
  refine z_get (C := RX7) (T := TX7) (N := 2) (ci := 7) (v := .ref ba) hx hb hT zin_X7 hown hK hw hm_tp hf_tp rfl 0 (by decide) (hT _ kw_117) rfl dX7_append_18 ?_
  refine lv_aload_n hx hb dX7_append_21 rfl (lv_at hl 1 rfl) ?_
  refine z_get (C := RX7) (T := TX7) (N := 2) (ci := 7) (v := .int len) hx hb hT zin_X7 hown hK hw hm_tp hf_tp rfl 1 (by decide) (hT _ kw_120) rfl dX7_append_22 ?_
  refine lv_iload_n hx hb dX7_append_25 rfl (lv_at hl 2 rfl) ?_
  refine lv_iload_n hx hb dX7_append_26 rfl (lv_at hl 0 rfl) ?_
  refine lv_ishr hx hb dX7_append_27 ?_
  refine lv_topi (fun w2 e_w2 => ?_)
  refine lv_i2b hx hb dX7_append_28 rfl ?_
  refine lv_topi (fun w3 e_w3 => ?_)
  refine z_bast hx hb hK hw 0 hm_ba hf_ba rfl (z_ix rfl (by omega)) dX7_append_29 (fun H locs hw => ?_)
  obtain ⟨f5, e_f5⟩ : ∃ z, z = va_up f ba (.inl (cy 0, 1600, .inl (upd g len.toNatClampNeg (vp_nar .byte w3)))) := ⟨_, rfl⟩
  rw [← e_f5] at hw
  have hf_tp : f5 tp = .inr (7, [.ref ba, .int len]) := (congrFun e_f5 tp).trans (z_up_ne (z_tne hf_tp hf_ba (m := 7) (n := 12900) rfl rfl (by decide)) hf_tp)
  have hf_ba : f5 ba = .inl (cy 0, 1600, .inl (upd g len.toNatClampNeg (vp_nar .byte w3))) := (congrFun e_f5 ba).trans z_up_self
  have hfr : ∀ b ∈ L, b ≠ tp → b ≠ ba → f5 b = f b := fun b hb h0 h1 => (congrFun e_f5 b).trans (z_up_ne h1 (hfr b hb h0 h1))
  obtain ⟨g4, e_g4⟩ : ∃ z, z = (upd g len.toNatClampNeg (vp_nar .byte w3)) := ⟨_, rfl⟩
  rw [← e_g4] at hf_ba
  refine lv_aload_n hx hb dX7_append_30 rfl (lv_at hl 1 rfl) ?_
  refine lv_dup hx hb dX7_append_31 rfl ?_
  refine z_get (C := RX7) (T := TX7) (N := 2) (ci := 7) (v := .int len) hx hb hT zin_X7 hown hK hw hm_tp hf_tp rfl 1 (by decide) (hT _ kw_120) rfl dX7_append_32 ?_
  refine lv_iconst (v := 1) hx hb dX7_append_35 (by decide) ?_
  refine lv_iadd hx hb dX7_append_36 ?_
  refine lv_topi (fun w6 e_w6 => ?_)
  have i_w6 : w6.toInt = (len.toInt + 1) := z_add e_w6 rfl (show (1 : Int32).toInt = 1 by decide) (by omega)
  refine z_put (C := RX7) (T := TX7) (N := 2) (ci := 7) (v := .int w6) (fs' := [.ref ba, .int w6]) hx hb hT zin_X7 tyX7_ok nmX7 hown hK hw hm_tp hf_tp rfl 1 (by decide) (hT _ kw_120) rfl rfl rfl (Nat.le_of_ble_eq_true rfl) rfl dX7_append_37 (fun H locs hw => ?_)
  obtain ⟨f7, e_f7⟩ : ∃ z, z = va_up f5 tp (.inr (7, [.ref ba, .int w6])) := ⟨_, rfl⟩
  rw [← e_f7] at hw
  have hf_ba : f7 ba = .inl (cy 0, 1600, .inl g4) := (congrFun e_f7 ba).trans (z_up_ne (z_tne hf_ba hf_tp (m := 12900) (n := 7) rfl rfl (by decide)) hf_ba)
  have hf_tp : f7 tp = .inr (7, [.ref ba, .int w6]) := (congrFun e_f7 tp).trans z_up_self
  have hfr : ∀ b ∈ L, b ≠ tp → b ≠ ba → f7 b = f b := fun b hb h0 h1 => (congrFun e_f7 b).trans (z_up_ne h0 (hfr b hb h0 h1))
  refine lv_iinc (v := 16) (lv' := [(2, .int 16), (0, .ref tp), (1, .int fw)]) hx hb dX7_append_40 hl (k := 0) rfl (by decide) (by decide) rfl (fun ls hl => ?_)
  refine lv_goto (tgt := 3) hx hb dX7_append_43 (by decide) ?_
  refine lv_iload_n hx hb dX7_append_3 rfl (lv_at hl 0 rfl) ?_
  refine z_if_lt (tgt := 46) hx hb (show (16 : Int32).toInt = 16 by decide) dX7_append_4 (by decide) (fun h => absurd h (by decide)) (fun _ => ?_)
  refine lv_aload_n hx hb dX7_append_7 rfl (lv_at hl 1 rfl) ?_
  refine z_get (C := RX7) (T := TX7) (N := 2) (ci := 7) (v := .int w6) hx hb hT zin_X7 hown hK hw hm_tp hf_tp rfl 1 (by decide) (hT _ kw_120) rfl dX7_append_8 ?_
  refine lv_sipush (v := 1600) hx hb dX7_append_11 (by decide) ?_
  refine z_icmp_ge (tgt := 46) hx hb i_w6 (show (1600 : Int32).toInt = 1600 by decide) dX7_append_14 (by decide) (fun c8 => False.elim (by omega)) (fun c8 => ?_)
  refine lv_aload_n hx hb dX7_append_17 rfl (lv_at hl 1 rfl) ?_
  refine z_get (C := RX7) (T := TX7) (N := 2) (ci := 7) (v := .ref ba) hx hb hT zin_X7 hown hK hw hm_tp hf_tp rfl 0 (by decide) (hT _ kw_117) rfl dX7_append_18 ?_
  refine lv_aload_n hx hb dX7_append_21 rfl (lv_at hl 1 rfl) ?_
  refine z_get (C := RX7) (T := TX7) (N := 2) (ci := 7) (v := .int w6) hx hb hT zin_X7 hown hK hw hm_tp hf_tp rfl 1 (by decide) (hT _ kw_120) rfl dX7_append_22 ?_
  refine lv_iload_n hx hb dX7_append_25 rfl (lv_at hl 2 rfl) ?_
  refine lv_iload_n hx hb dX7_append_26 rfl (lv_at hl 0 rfl) ?_
  refine lv_ishr hx hb dX7_append_27 ?_
  refine lv_topi (fun w9 e_w9 => ?_)
  refine lv_i2b hx hb dX7_append_28 rfl ?_
  refine lv_topi (fun w10 e_w10 => ?_)
  refine z_bast hx hb hK hw 0 hm_ba hf_ba rfl (z_ix i_w6 (by omega)) dX7_append_29 (fun H locs hw => ?_)
  obtain ⟨f12, e_f12⟩ : ∃ z, z = va_up f7 ba (.inl (cy 0, 1600, .inl (upd g4 w6.toNatClampNeg (vp_nar .byte w10)))) := ⟨_, rfl⟩
  rw [← e_f12] at hw
  have hf_tp : f12 tp = .inr (7, [.ref ba, .int w6]) := (congrFun e_f12 tp).trans (z_up_ne (z_tne hf_tp hf_ba (m := 7) (n := 12900) rfl rfl (by decide)) hf_tp)
  have hf_ba : f12 ba = .inl (cy 0, 1600, .inl (upd g4 w6.toNatClampNeg (vp_nar .byte w10))) := (congrFun e_f12 ba).trans z_up_self
  have hfr : ∀ b ∈ L, b ≠ tp → b ≠ ba → f12 b = f b := fun b hb h0 h1 => (congrFun e_f12 b).trans (z_up_ne h1 (hfr b hb h0 h1))
  obtain ⟨g11, e_g11⟩ : ∃ z, z = (upd g4 w6.toNatClampNeg (vp_nar .byte w10)) := ⟨_, rfl⟩
  rw [← e_g11] at hf_ba
  refine lv_aload_n hx hb dX7_append_30 rfl (lv_at hl 1 rfl) ?_
  refine lv_dup hx hb dX7_append_31 rfl ?_
  refine z_get (C := RX7) (T := TX7) (N := 2) (ci := 7) (v := .int w6) hx hb hT zin_X7 hown hK hw hm_tp hf_tp rfl 1 (by decide) (hT _ kw_120) rfl dX7_append_32 ?_
  refine lv_iconst (v := 1) hx hb dX7_append_35 (by decide) ?_
  refine lv_iadd hx hb dX7_append_36 ?_
  refine lv_topi (fun w13 e_w13 => ?_)
  have i_w13 : w13.toInt = ((len.toInt + 1) + 1) := z_add e_w13 i_w6 (show (1 : Int32).toInt = 1 by decide) (by omega)
  refine z_put (C := RX7) (T := TX7) (N := 2) (ci := 7) (v := .int w13) (fs' := [.ref ba, .int w13]) hx hb hT zin_X7 tyX7_ok nmX7 hown hK hw hm_tp hf_tp rfl 1 (by decide) (hT _ kw_120) rfl rfl rfl (Nat.le_of_ble_eq_true rfl) rfl dX7_append_37 (fun H locs hw => ?_)
  obtain ⟨f14, e_f14⟩ : ∃ z, z = va_up f12 tp (.inr (7, [.ref ba, .int w13])) := ⟨_, rfl⟩
  rw [← e_f14] at hw
  have hf_ba : f14 ba = .inl (cy 0, 1600, .inl g11) := (congrFun e_f14 ba).trans (z_up_ne (z_tne hf_ba hf_tp (m := 12900) (n := 7) rfl rfl (by decide)) hf_ba)
  have hf_tp : f14 tp = .inr (7, [.ref ba, .int w13]) := (congrFun e_f14 tp).trans z_up_self
  have hfr : ∀ b ∈ L, b ≠ tp → b ≠ ba → f14 b = f b := fun b hb h0 h1 => (congrFun e_f14 b).trans (z_up_ne h0 (hfr b hb h0 h1))
  refine lv_iinc (v := 8) (lv' := [(2, .int 8), (0, .ref tp), (1, .int fw)]) hx hb dX7_append_40 hl (k := 0) rfl (by decide) (by decide) rfl (fun ls hl => ?_)
  refine lv_goto (tgt := 3) hx hb dX7_append_43 (by decide) ?_
  refine lv_iload_n hx hb dX7_append_3 rfl (lv_at hl 0 rfl) ?_
  refine z_if_lt (tgt := 46) hx hb (show (8 : Int32).toInt = 8 by decide) dX7_append_4 (by decide) (fun h => absurd h (by decide)) (fun _ => ?_)
  refine lv_aload_n hx hb dX7_append_7 rfl (lv_at hl 1 rfl) ?_
  refine z_get (C := RX7) (T := TX7) (N := 2) (ci := 7) (v := .int w13) hx hb hT zin_X7 hown hK hw hm_tp hf_tp rfl 1 (by decide) (hT _ kw_120) rfl dX7_append_8 ?_
  refine lv_sipush (v := 1600) hx hb dX7_append_11 (by decide) ?_
  refine z_icmp_ge (tgt := 46) hx hb i_w13 (show (1600 : Int32).toInt = 1600 by decide) dX7_append_14 (by decide) (fun c15 => False.elim (by omega)) (fun c15 => ?_)
  refine lv_aload_n hx hb dX7_append_17 rfl (lv_at hl 1 rfl) ?_
  refine z_get (C := RX7) (T := TX7) (N := 2) (ci := 7) (v := .ref ba) hx hb hT zin_X7 hown hK hw hm_tp hf_tp rfl 0 (by decide) (hT _ kw_117) rfl dX7_append_18 ?_
  refine lv_aload_n hx hb dX7_append_21 rfl (lv_at hl 1 rfl) ?_
  refine z_get (C := RX7) (T := TX7) (N := 2) (ci := 7) (v := .int w13) hx hb hT zin_X7 hown hK hw hm_tp hf_tp rfl 1 (by decide) (hT _ kw_120) rfl dX7_append_22 ?_
  refine lv_iload_n hx hb dX7_append_25 rfl (lv_at hl 2 rfl) ?_
  refine lv_iload_n hx hb dX7_append_26 rfl (lv_at hl 0 rfl) ?_
  refine lv_ishr hx hb dX7_append_27 ?_
  refine lv_topi (fun w16 e_w16 => ?_)
  refine lv_i2b hx hb dX7_append_28 rfl ?_
  refine lv_topi (fun w17 e_w17 => ?_)
  refine z_bast hx hb hK hw 0 hm_ba hf_ba rfl (z_ix i_w13 (by omega)) dX7_append_29 (fun H locs hw => ?_)
  obtain ⟨f19, e_f19⟩ : ∃ z, z = va_up f14 ba (.inl (cy 0, 1600, .inl (upd g11 w13.toNatClampNeg (vp_nar .byte w17)))) := ⟨_, rfl⟩
  rw [← e_f19] at hw
  have hf_tp : f19 tp = .inr (7, [.ref ba, .int w13]) := (congrFun e_f19 tp).trans (z_up_ne (z_tne hf_tp hf_ba (m := 7) (n := 12900) rfl rfl (by decide)) hf_tp)
  have hf_ba : f19 ba = .inl (cy 0, 1600, .inl (upd g11 w13.toNatClampNeg (vp_nar .byte w17))) := (congrFun e_f19 ba).trans z_up_self
  have hfr : ∀ b ∈ L, b ≠ tp → b ≠ ba → f19 b = f b := fun b hb h0 h1 => (congrFun e_f19 b).trans (z_up_ne h1 (hfr b hb h0 h1))
  obtain ⟨g18, e_g18⟩ : ∃ z, z = (upd g11 w13.toNatClampNeg (vp_nar .byte w17)) := ⟨_, rfl⟩
  rw [← e_g18] at hf_ba
  refine lv_aload_n hx hb dX7_append_30 rfl (lv_at hl 1 rfl) ?_
  refine lv_dup hx hb dX7_append_31 rfl ?_
  refine z_get (C := RX7) (T := TX7) (N := 2) (ci := 7) (v := .int w13) hx hb hT zin_X7 hown hK hw hm_tp hf_tp rfl 1 (by decide) (hT _ kw_120) rfl dX7_append_32 ?_
  refine lv_iconst (v := 1) hx hb dX7_append_35 (by decide) ?_
  refine lv_iadd hx hb dX7_append_36 ?_
  refine lv_topi (fun w20 e_w20 => ?_)
  have i_w20 : w20.toInt = (((len.toInt + 1) + 1) + 1) := z_add e_w20 i_w13 (show (1 : Int32).toInt = 1 by decide) (by omega)
  refine z_put (C := RX7) (T := TX7) (N := 2) (ci := 7) (v := .int w20) (fs' := [.ref ba, .int w20]) hx hb hT zin_X7 tyX7_ok nmX7 hown hK hw hm_tp hf_tp rfl 1 (by decide) (hT _ kw_120) rfl rfl rfl (Nat.le_of_ble_eq_true rfl) rfl dX7_append_37 (fun H locs hw => ?_)
  obtain ⟨f21, e_f21⟩ : ∃ z, z = va_up f19 tp (.inr (7, [.ref ba, .int w20])) := ⟨_, rfl⟩
  rw [← e_f21] at hw
  have hf_ba : f21 ba = .inl (cy 0, 1600, .inl g18) := (congrFun e_f21 ba).trans (z_up_ne (z_tne hf_ba hf_tp (m := 12900) (n := 7) rfl rfl (by decide)) hf_ba)
  have hf_tp : f21 tp = .inr (7, [.ref ba, .int w20]) := (congrFun e_f21 tp).trans z_up_self
  have hfr : ∀ b ∈ L, b ≠ tp → b ≠ ba → f21 b = f b := fun b hb h0 h1 => (congrFun e_f21 b).trans (z_up_ne h0 (hfr b hb h0 h1))
  refine lv_iinc (v := 0) (lv' := [(2, .int 0), (0, .ref tp), (1, .int fw)]) hx hb dX7_append_40 hl (k := 0) rfl (by decide) (by decide) rfl (fun ls hl => ?_)
  refine lv_goto (tgt := 3) hx hb dX7_append_43 (by decide) ?_
  refine lv_iload_n hx hb dX7_append_3 rfl (lv_at hl 0 rfl) ?_
  refine z_if_lt (tgt := 46) hx hb (show (0 : Int32).toInt = 0 by decide) dX7_append_4 (by decide) (fun h => absurd h (by decide)) (fun _ => ?_)
  refine lv_aload_n hx hb dX7_append_7 rfl (lv_at hl 1 rfl) ?_
  refine z_get (C := RX7) (T := TX7) (N := 2) (ci := 7) (v := .int w20) hx hb hT zin_X7 hown hK hw hm_tp hf_tp rfl 1 (by decide) (hT _ kw_120) rfl dX7_append_8 ?_
  refine lv_sipush (v := 1600) hx hb dX7_append_11 (by decide) ?_
  refine z_icmp_ge (tgt := 46) hx hb i_w20 (show (1600 : Int32).toInt = 1600 by decide) dX7_append_14 (by decide) (fun c22 => False.elim (by omega)) (fun c22 => ?_)
  refine lv_aload_n hx hb dX7_append_17 rfl (lv_at hl 1 rfl) ?_
  refine z_get (C := RX7) (T := TX7) (N := 2) (ci := 7) (v := .ref ba) hx hb hT zin_X7 hown hK hw hm_tp hf_tp rfl 0 (by decide) (hT _ kw_117) rfl dX7_append_18 ?_
  refine lv_aload_n hx hb dX7_append_21 rfl (lv_at hl 1 rfl) ?_
  refine z_get (C := RX7) (T := TX7) (N := 2) (ci := 7) (v := .int w20) hx hb hT zin_X7 hown hK hw hm_tp hf_tp rfl 1 (by decide) (hT _ kw_120) rfl dX7_append_22 ?_
  refine lv_iload_n hx hb dX7_append_25 rfl (lv_at hl 2 rfl) ?_
  refine lv_iload_n hx hb dX7_append_26 rfl (lv_at hl 0 rfl) ?_
  refine lv_ishr hx hb dX7_append_27 ?_
  refine lv_topi (fun w23 e_w23 => ?_)
  refine lv_i2b hx hb dX7_append_28 rfl ?_
  refine lv_topi (fun w24 e_w24 => ?_)
  refine z_bast hx hb hK hw 0 hm_ba hf_ba rfl (z_ix i_w20 (by omega)) dX7_append_29 (fun H locs hw => ?_)
  obtain ⟨f26, e_f26⟩ : ∃ z, z = va_up f21 ba (.inl (cy 0, 1600, .inl (upd g18 w20.toNatClampNeg (vp_nar .byte w24)))) := ⟨_, rfl⟩
  rw [← e_f26] at hw
  have hf_tp : f26 tp = .inr (7, [.ref ba, .int w20]) := (congrFun e_f26 tp).trans (z_up_ne (z_tne hf_tp hf_ba (m := 7) (n := 12900) rfl rfl (by decide)) hf_tp)
  have hf_ba : f26 ba = .inl (cy 0, 1600, .inl (upd g18 w20.toNatClampNeg (vp_nar .byte w24))) := (congrFun e_f26 ba).trans z_up_self
  have hfr : ∀ b ∈ L, b ≠ tp → b ≠ ba → f26 b = f b := fun b hb h0 h1 => (congrFun e_f26 b).trans (z_up_ne h1 (hfr b hb h0 h1))
  obtain ⟨g25, e_g25⟩ : ∃ z, z = (upd g18 w20.toNatClampNeg (vp_nar .byte w24)) := ⟨_, rfl⟩
  rw [← e_g25] at hf_ba
  refine lv_aload_n hx hb dX7_append_30 rfl (lv_at hl 1 rfl) ?_
  refine lv_dup hx hb dX7_append_31 rfl ?_
  refine z_get (C := RX7) (T := TX7) (N := 2) (ci := 7) (v := .int w20) hx hb hT zin_X7 hown hK hw hm_tp hf_tp rfl 1 (by decide) (hT _ kw_120) rfl dX7_append_32 ?_
  refine lv_iconst (v := 1) hx hb dX7_append_35 (by decide) ?_
  refine lv_iadd hx hb dX7_append_36 ?_
  refine lv_topi (fun w27 e_w27 => ?_)
  have i_w27 : w27.toInt = ((((len.toInt + 1) + 1) + 1) + 1) := z_add e_w27 i_w20 (show (1 : Int32).toInt = 1 by decide) (by omega)
  refine z_put (C := RX7) (T := TX7) (N := 2) (ci := 7) (v := .int w27) (fs' := [.ref ba, .int w27]) hx hb hT zin_X7 tyX7_ok nmX7 hown hK hw hm_tp hf_tp rfl 1 (by decide) (hT _ kw_120) rfl rfl rfl (Nat.le_of_ble_eq_true rfl) rfl dX7_append_37 (fun H locs hw => ?_)
  obtain ⟨f28, e_f28⟩ : ∃ z, z = va_up f26 tp (.inr (7, [.ref ba, .int w27])) := ⟨_, rfl⟩
  rw [← e_f28] at hw
  have hf_ba : f28 ba = .inl (cy 0, 1600, .inl g25) := (congrFun e_f28 ba).trans (z_up_ne (z_tne hf_ba hf_tp (m := 12900) (n := 7) rfl rfl (by decide)) hf_ba)
  have hf_tp : f28 tp = .inr (7, [.ref ba, .int w27]) := (congrFun e_f28 tp).trans z_up_self
  have hfr : ∀ b ∈ L, b ≠ tp → b ≠ ba → f28 b = f b := fun b hb h0 h1 => (congrFun e_f28 b).trans (z_up_ne h0 (hfr b hb h0 h1))
  refine lv_iinc (v := (-8)) (lv' := [(2, .int (-8)), (0, .ref tp), (1, .int fw)]) hx hb dX7_append_40 hl (k := 0) rfl (by decide) (by decide) rfl (fun ls hl => ?_)
  refine lv_goto (tgt := 3) hx hb dX7_append_43 (by decide) ?_
  refine lv_iload_n hx hb dX7_append_3 rfl (lv_at hl 0 rfl) ?_
  refine z_if_lt (tgt := 46) hx hb (show ((-8) : Int32).toInt = (-8) by decide) dX7_append_4 (by decide) (fun _ => ?_) (fun h => absurd h (by decide))
  exact z_vret hx hb hr hlk (by decide) (by decide) hw (⟨hsub, hfr, g25, w27, hf_tp, hf_ba, by omega⟩) dX7_append_46

set_option maxHeartbeats 2000000 in
set_option maxRecDepth 100000 in
theorem c_X9_feed (l : Launch) {D : va_G} {cy : Nat → ClassId} {L : List Nat} {f : Nat → va_E} {sz : Nat} {hs tp rd mo dr im kp sl wk pl ex mx : Nat} {ba : Nat} {xa xb xc xd xe : Int32} (hm_hs : hs ∈ L) (hm_tp : tp ∈ L) (hm_ba : ba ∈ L) (hf_hs : f hs = .inr (9, [.ref tp, .ref rd, .ref mo, .ref dr, .ref im, .ref kp, .ref sl, .ref wk, .ref pl, .ref ex, .ref mx])) (hf_tp : f tp = .inr (7, [.ref ba, .int 0])) (hf_ba : f ba = .inl (cy 0, 1600, .inl (fun _ => 0))) : Met l yX9_feed (z_ws yX9_feed cX9_feed 6 (some .int)) (z_R 3 0 0) (va_Pc [.ref hs, .int xa, .int xb, .int xc, .int xd, .int xe] (z_Pre D vwCl (z_K D cy) L f sz)) (z_Qi D vwCl (fun r u => (∀ b ∈ L, b ∈ u.1) ∧ (∀ b ∈ L, b ≠ tp → b ≠ ba → u.2 b = f b) ∧ ((r.toInt = 20))) L sz) 0 0 (z_A L sz) := by
  refine z_met (cc := cX9_feed) (maxL := 6) (ret := (some .int)) (lv := [(0, .ref hs), (1, .int xa), (2, .int xb), (3, .int xc), (4, .int xd), (5, .int xe)]) (by decide) rfl (Nat.le_of_ble_eq_true rfl) rfl ?_
  intro p e s m below meth c ls hx hb hr hlk hml hown hnm hts hKK hA hw hl
  have hK := hKK.1
  have hown : s.vm.findClass RX9 = some m.cls := hown
  have hT : ∀ w ∈ lw_all, w.before ([.ref hs, .int xa, .int xb, .int xc, .int xd, .int xe] : List Value).toArray s = true := fun w h => hts w (z_cons w h)
  have hsub : ∀ b ∈ L, b ∈ L := fun _ h => h
  have hfr : ∀ b ∈ L, b ≠ tp → b ≠ ba → f b = f b := fun _ _ _ _ => rfl
  have hz : (0 : Int32).toInt = 0 := by decide
  refine lv_aload_n hx hb dX9_feed_0 rfl (lv_at hl 0 rfl) ?_
  refine z_get (C := RX9) (T := TX9) (N := 11) (ci := 9) (v := .ref tp) hx hb hT zin_X9 hown hK hw hm_hs hf_hs rfl 0 (by decide) (hT _ kw_477) rfl dX9_feed_1 ?_
  refine z_get (C := RX7) (T := TX7) (N := 2) (ci := 7) (v := .int 0) hx hb hT zin_X7 hown hK hw hm_tp hf_tp rfl 1 (by decide) (hT _ kw_119) rfl dX9_feed_4 ?_
  refine lv_sipush (v := 1580) hx hb dX9_feed_7 (by decide) ?_
  refine z_icmp_le (tgt := 15) hx hb (show (0 : Int32).toInt = 0 by decide) (show (1580 : Int32).toInt = 1580 by decide) dX9_feed_10 (by decide) (fun _ => ?_) (fun h => absurd h (by decide))
  refine lv_aload_n hx hb dX9_feed_15 rfl (lv_at hl 0 rfl) ?_
  refine z_get (C := RX9) (T := TX9) (N := 11) (ci := 9) (v := .ref tp) hx hb hT zin_X9 hown hK hw hm_hs hf_hs rfl 0 (by decide) (hT _ kw_477) rfl dX9_feed_16 ?_
  refine lv_iload_n hx hb dX9_feed_19 rfl (lv_at hl 1 rfl) ?_
  refine z_callvV (cells := 0) (slots := 0) (b := tp) (As := [.int xa]) (rest := []) (ci := 7) (q0 := (RX7, TX7, 2)) ⟨hx, hb, hml, hown, hT⟩ (c_X7_append l hm_tp hm_ba hf_tp hf_ba (by first | omega | decide | assumption)) (cwV 1 hT (z_goodV (fun _ h => h) kw_515 kw_516 kw_517 kw_86 kw_518) rfl rfl rfl (by decide +kernel) ⟨by decide, by decide⟩) z_mv hKK hK hw hA hm_tp hf_tp rfl rfl rfl hl.1 rfl (Nat.le_of_ble_eq_true rfl) dX9_feed_20 ⟨by decide, by decide⟩ (fun u H locs hp hw => ?_)
  obtain ⟨L1, f2⟩ := u
  obtain ⟨hsb, hfm, g2_3, len2_4, ha_0, ha_1, hp⟩ := hp
  have hw : z_H D vwCl (z_A L sz) s.heap L1 f2 H locs := hw
  have hfr : ∀ b ∈ L, b ≠ tp → b ≠ ba → f2 b = f b := fun b hb h0 h1 => (hfm b (hsub b hb) h0 h1).trans (hfr b hb h0 h1)
  have hsub : ∀ b ∈ L, b ∈ L1 := fun b h => hsb b (hsub b h)
  have hf_hs : f2 hs = .inr (9, [.ref tp, .ref rd, .ref mo, .ref dr, .ref im, .ref kp, .ref sl, .ref wk, .ref pl, .ref ex, .ref mx]) := (hfm hs hm_hs (z_tne hf_hs hf_tp (m := 9) (n := 7) rfl rfl (by decide)) (z_tne hf_hs hf_ba (m := 9) (n := 12900) rfl rfl (by decide))).trans hf_hs
  have hm_hs : hs ∈ L1 := hsb _ hm_hs
  have hm_tp : tp ∈ L1 := hsb _ hm_tp
  have hm_ba : ba ∈ L1 := hsb _ hm_ba
  have hf_tp : f2 tp = .inr (7, [.ref ba, .int len2_4]) := ha_0
  have hf_ba : f2 ba = .inl (cy 0, 1600, .inl g2_3) := ha_1
  have hp1 := hp
  refine lv_aload_n hx hb dX9_feed_23 rfl (lv_at hl 0 rfl) ?_
  refine z_get (C := RX9) (T := TX9) (N := 11) (ci := 9) (v := .ref tp) hx hb hT zin_X9 hown hK hw hm_hs hf_hs rfl 0 (by decide) (hT _ kw_477) rfl dX9_feed_24 ?_
  refine lv_iload_n hx hb dX9_feed_27 rfl (lv_at hl 2 rfl) ?_
  refine z_callvV (cells := 0) (slots := 0) (b := tp) (As := [.int xb]) (rest := []) (ci := 7) (q0 := (RX7, TX7, 2)) ⟨hx, hb, hml, hown, hT⟩ (c_X7_append l hm_tp hm_ba hf_tp hf_ba (by first | omega | decide | assumption)) (cwV 1 hT (z_goodV (fun _ h => h) kw_515 kw_516 kw_517 kw_86 kw_518) rfl rfl rfl (by decide +kernel) ⟨by decide, by decide⟩) z_mv hKK hK hw hA hm_tp hf_tp rfl rfl rfl hl.1 rfl (Nat.le_of_ble_eq_true rfl) dX9_feed_28 ⟨by decide, by decide⟩ (fun u H locs hp hw => ?_)
  obtain ⟨L5, f6⟩ := u
  obtain ⟨hsb, hfm, g2_7, len2_8, ha_0, ha_1, hp⟩ := hp
  have hw : z_H D vwCl (z_A L sz) s.heap L5 f6 H locs := hw
  have hfr : ∀ b ∈ L, b ≠ tp → b ≠ ba → f6 b = f b := fun b hb h0 h1 => (hfm b (hsub b hb) h0 h1).trans (hfr b hb h0 h1)
  have hsub : ∀ b ∈ L, b ∈ L5 := fun b h => hsb b (hsub b h)
  have hf_hs : f6 hs = .inr (9, [.ref tp, .ref rd, .ref mo, .ref dr, .ref im, .ref kp, .ref sl, .ref wk, .ref pl, .ref ex, .ref mx]) := (hfm hs hm_hs (z_tne hf_hs hf_tp (m := 9) (n := 7) rfl rfl (by decide)) (z_tne hf_hs hf_ba (m := 9) (n := 12900) rfl rfl (by decide))).trans hf_hs
  have hm_hs : hs ∈ L5 := hsb _ hm_hs
  have hm_tp : tp ∈ L5 := hsb _ hm_tp
  have hm_ba : ba ∈ L5 := hsb _ hm_ba
  have hf_tp : f6 tp = .inr (7, [.ref ba, .int len2_8]) := ha_0
  have hf_ba : f6 ba = .inl (cy 0, 1600, .inl g2_7) := ha_1
  have hp2 := hp
  refine lv_aload_n hx hb dX9_feed_31 rfl (lv_at hl 0 rfl) ?_
  refine z_get (C := RX9) (T := TX9) (N := 11) (ci := 9) (v := .ref tp) hx hb hT zin_X9 hown hK hw hm_hs hf_hs rfl 0 (by decide) (hT _ kw_477) rfl dX9_feed_32 ?_
  refine lv_iload_n hx hb dX9_feed_35 rfl (lv_at hl 3 rfl) ?_
  refine z_callvV (cells := 0) (slots := 0) (b := tp) (As := [.int xc]) (rest := []) (ci := 7) (q0 := (RX7, TX7, 2)) ⟨hx, hb, hml, hown, hT⟩ (c_X7_append l hm_tp hm_ba hf_tp hf_ba (by first | omega | decide | assumption)) (cwV 1 hT (z_goodV (fun _ h => h) kw_515 kw_516 kw_517 kw_86 kw_518) rfl rfl rfl (by decide +kernel) ⟨by decide, by decide⟩) z_mv hKK hK hw hA hm_tp hf_tp rfl rfl rfl hl.1 rfl (Nat.le_of_ble_eq_true rfl) dX9_feed_36 ⟨by decide, by decide⟩ (fun u H locs hp hw => ?_)
  obtain ⟨L9, f10⟩ := u
  obtain ⟨hsb, hfm, g2_11, len2_12, ha_0, ha_1, hp⟩ := hp
  have hw : z_H D vwCl (z_A L sz) s.heap L9 f10 H locs := hw
  have hfr : ∀ b ∈ L, b ≠ tp → b ≠ ba → f10 b = f b := fun b hb h0 h1 => (hfm b (hsub b hb) h0 h1).trans (hfr b hb h0 h1)
  have hsub : ∀ b ∈ L, b ∈ L9 := fun b h => hsb b (hsub b h)
  have hf_hs : f10 hs = .inr (9, [.ref tp, .ref rd, .ref mo, .ref dr, .ref im, .ref kp, .ref sl, .ref wk, .ref pl, .ref ex, .ref mx]) := (hfm hs hm_hs (z_tne hf_hs hf_tp (m := 9) (n := 7) rfl rfl (by decide)) (z_tne hf_hs hf_ba (m := 9) (n := 12900) rfl rfl (by decide))).trans hf_hs
  have hm_hs : hs ∈ L9 := hsb _ hm_hs
  have hm_tp : tp ∈ L9 := hsb _ hm_tp
  have hm_ba : ba ∈ L9 := hsb _ hm_ba
  have hf_tp : f10 tp = .inr (7, [.ref ba, .int len2_12]) := ha_0
  have hf_ba : f10 ba = .inl (cy 0, 1600, .inl g2_11) := ha_1
  have hp3 := hp
  refine lv_aload_n hx hb dX9_feed_39 rfl (lv_at hl 0 rfl) ?_
  refine z_get (C := RX9) (T := TX9) (N := 11) (ci := 9) (v := .ref tp) hx hb hT zin_X9 hown hK hw hm_hs hf_hs rfl 0 (by decide) (hT _ kw_477) rfl dX9_feed_40 ?_
  refine lv_iload hx hb dX9_feed_43 (lv_at hl 4 rfl) ?_
  refine z_callvV (cells := 0) (slots := 0) (b := tp) (As := [.int xd]) (rest := []) (ci := 7) (q0 := (RX7, TX7, 2)) ⟨hx, hb, hml, hown, hT⟩ (c_X7_append l hm_tp hm_ba hf_tp hf_ba (by first | omega | decide | assumption)) (cwV 1 hT (z_goodV (fun _ h => h) kw_515 kw_516 kw_517 kw_86 kw_518) rfl rfl rfl (by decide +kernel) ⟨by decide, by decide⟩) z_mv hKK hK hw hA hm_tp hf_tp rfl rfl rfl hl.1 rfl (Nat.le_of_ble_eq_true rfl) dX9_feed_45 ⟨by decide, by decide⟩ (fun u H locs hp hw => ?_)
  obtain ⟨L13, f14⟩ := u
  obtain ⟨hsb, hfm, g2_15, len2_16, ha_0, ha_1, hp⟩ := hp
  have hw : z_H D vwCl (z_A L sz) s.heap L13 f14 H locs := hw
  have hfr : ∀ b ∈ L, b ≠ tp → b ≠ ba → f14 b = f b := fun b hb h0 h1 => (hfm b (hsub b hb) h0 h1).trans (hfr b hb h0 h1)
  have hsub : ∀ b ∈ L, b ∈ L13 := fun b h => hsb b (hsub b h)
  have hf_hs : f14 hs = .inr (9, [.ref tp, .ref rd, .ref mo, .ref dr, .ref im, .ref kp, .ref sl, .ref wk, .ref pl, .ref ex, .ref mx]) := (hfm hs hm_hs (z_tne hf_hs hf_tp (m := 9) (n := 7) rfl rfl (by decide)) (z_tne hf_hs hf_ba (m := 9) (n := 12900) rfl rfl (by decide))).trans hf_hs
  have hm_hs : hs ∈ L13 := hsb _ hm_hs
  have hm_tp : tp ∈ L13 := hsb _ hm_tp
  have hm_ba : ba ∈ L13 := hsb _ hm_ba
  have hf_tp : f14 tp = .inr (7, [.ref ba, .int len2_16]) := ha_0
  have hf_ba : f14 ba = .inl (cy 0, 1600, .inl g2_15) := ha_1
  have hp4 := hp
  refine lv_aload_n hx hb dX9_feed_48 rfl (lv_at hl 0 rfl) ?_
  refine z_get (C := RX9) (T := TX9) (N := 11) (ci := 9) (v := .ref tp) hx hb hT zin_X9 hown hK hw hm_hs hf_hs rfl 0 (by decide) (hT _ kw_477) rfl dX9_feed_49 ?_
  refine lv_iload hx hb dX9_feed_52 (lv_at hl 5 rfl) ?_
  refine z_callvV (cells := 0) (slots := 0) (b := tp) (As := [.int xe]) (rest := []) (ci := 7) (q0 := (RX7, TX7, 2)) ⟨hx, hb, hml, hown, hT⟩ (c_X7_append l hm_tp hm_ba hf_tp hf_ba (by first | omega | decide | assumption)) (cwV 1 hT (z_goodV (fun _ h => h) kw_515 kw_516 kw_517 kw_86 kw_518) rfl rfl rfl (by decide +kernel) ⟨by decide, by decide⟩) z_mv hKK hK hw hA hm_tp hf_tp rfl rfl rfl hl.1 rfl (Nat.le_of_ble_eq_true rfl) dX9_feed_54 ⟨by decide, by decide⟩ (fun u H locs hp hw => ?_)
  obtain ⟨L17, f18⟩ := u
  obtain ⟨hsb, hfm, g2_19, len2_20, ha_0, ha_1, hp⟩ := hp
  have hw : z_H D vwCl (z_A L sz) s.heap L17 f18 H locs := hw
  have hfr : ∀ b ∈ L, b ≠ tp → b ≠ ba → f18 b = f b := fun b hb h0 h1 => (hfm b (hsub b hb) h0 h1).trans (hfr b hb h0 h1)
  have hsub : ∀ b ∈ L, b ∈ L17 := fun b h => hsb b (hsub b h)
  have hf_hs : f18 hs = .inr (9, [.ref tp, .ref rd, .ref mo, .ref dr, .ref im, .ref kp, .ref sl, .ref wk, .ref pl, .ref ex, .ref mx]) := (hfm hs hm_hs (z_tne hf_hs hf_tp (m := 9) (n := 7) rfl rfl (by decide)) (z_tne hf_hs hf_ba (m := 9) (n := 12900) rfl rfl (by decide))).trans hf_hs
  have hm_hs : hs ∈ L17 := hsb _ hm_hs
  have hm_tp : tp ∈ L17 := hsb _ hm_tp
  have hm_ba : ba ∈ L17 := hsb _ hm_ba
  have hf_tp : f18 tp = .inr (7, [.ref ba, .int len2_20]) := ha_0
  have hf_ba : f18 ba = .inl (cy 0, 1600, .inl g2_19) := ha_1
  have hp5 := hp
  refine lv_aload_n hx hb dX9_feed_57 rfl (lv_at hl 0 rfl) ?_
  refine z_get (C := RX9) (T := TX9) (N := 11) (ci := 9) (v := .ref tp) hx hb hT zin_X9 hown hK hw hm_hs hf_hs rfl 0 (by decide) (hT _ kw_477) rfl dX9_feed_58 ?_
  refine z_get (C := RX7) (T := TX7) (N := 2) (ci := 7) (v := .int len2_20) hx hb hT zin_X7 hown hK hw hm_tp hf_tp rfl 1 (by decide) (hT _ kw_119) rfl dX9_feed_61 ?_
  exact z_iret hx hb hr hlk (by decide) (by decide) hw (⟨hsub, hfr, by omega⟩) dX9_feed_64
