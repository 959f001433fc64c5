set_option maxHeartbeats 2000000 in
set_option maxRecDepth 100000 in
theorem c_X9_isHour (l : Launch) {D : va_G} {cy : Nat → ClassId} {L : List Nat} {f : Nat → va_E} {sz : Nat} {adK adV : Nat → Nat} {ho : Int32}  : Met l yX9_isHour (z_ws yX9_isHour cX9_isHour 1 (some .boolean)) (z_R 1 0 0) (va_Pc [.int ho] (z_Pre D vwCl (z_KK D cy adK adV) L f sz)) (z_Qi D vwCl (fun r u => u = (L, f) ∧ ((r = 1 ∧ (0 ≤ ho.toInt ∧ ho.toInt ≤ 23)) ∨ (r = 0 ∧ True))) L sz) 0 0 (z_A L sz) := by
  refine z_met (cc := cX9_isHour) (maxL := 1) (ret := (some .boolean)) (lv := [(0, .int ho)]) (by decide) rfl (Nat.le_of_ble_eq_true rfl) rfl ?_
  intro p e s m below meth c ls hx hb hr hlk hml hown hnm hts hKK hA hw hl
  have hK := hKK.1.1
  have hown : s.vm.findClass RX9 = some m.cls := hown
  have hT : ∀ w ∈ lw_all, w.before ([.int ho] : List Value).toArray s = true := fun w h => hts w (z_cons w h)
  refine lv_iload_n hx hb dX9_isHour_0 rfl (lv_at hl 0 rfl) ?_
  refine z_if_lt (tgt := 14) hx hb rfl dX9_isHour_1 (by decide) (fun c1 => ?_) (fun c1 => ?_)
  · skip
    refine lv_iconst (v := 0) hx hb dX9_isHour_14 (by decide) ?_
    exact z_zret hx hb hr rfl hlk (by decide) (by decide) hw (⟨rfl, Or.inr ⟨rfl, trivial⟩⟩) dX9_isHour_15
  · skip
    refine lv_iload_n hx hb dX9_isHour_4 rfl (lv_at hl 0 rfl) ?_
    refine lv_bipush (v := 24) hx hb dX9_isHour_5 (by decide) ?_
    refine z_icmp_ge (tgt := 14) hx hb rfl (show (24 : Int32).toInt = 24 by decide) dX9_isHour_7 (by decide) (fun c2 => ?_) (fun c2 => ?_)
    · skip
      refine lv_iconst (v := 0) hx hb dX9_isHour_14 (by decide) ?_
      exact z_zret hx hb hr rfl hlk (by decide) (by decide) hw (⟨rfl, Or.inr ⟨rfl, trivial⟩⟩) dX9_isHour_15
    · skip
      refine lv_iconst (v := 1) hx hb dX9_isHour_10 (by decide) ?_
      refine lv_goto (tgt := 15) hx hb dX9_isHour_11 (by decide) ?_
      exact z_zret hx hb hr rfl hlk (by decide) (by decide) hw (⟨rfl, Or.inl ⟨rfl, by omega⟩⟩) dX9_isHour_15

set_option maxHeartbeats 2000000 in
set_option maxRecDepth 100000 in
theorem c_X9_isSeed (l : Launch) {D : va_G} {cy : Nat → ClassId} {L : List Nat} {f : Nat → va_E} {sz : Nat} {adK adV : Nat → Nat} {ho : Int32}  : Met l yX9_isSeed (z_ws yX9_isSeed cX9_isSeed 1 (some .boolean)) (z_R 1 0 0) (va_Pc [.int ho] (z_Pre D vwCl (z_KK D cy adK adV) L f sz)) (z_Qi D vwCl (fun r u => u = (L, f) ∧ ((r = 1 ∧ (0 ≤ ho.toInt ∧ ho.toInt ≤ 2000000000)) ∨ (r = 0 ∧ True))) L sz) 0 0 (z_A L sz) := by
  refine z_met (cc := cX9_isSeed) (maxL := 1) (ret := (some .boolean)) (lv := [(0, .int ho)]) (by decide) rfl (Nat.le_of_ble_eq_true rfl) rfl ?_
  intro p e s m below meth c ls hx hb hr hlk hml hown hnm hts hKK hA hw hl
  have hK := hKK.1.1
  have hown : s.vm.findClass RX9 = some m.cls := hown
  have hT : ∀ w ∈ lw_all, w.before ([.int ho] : List Value).toArray s = true := fun w h => hts w (z_cons w h)
  refine lv_iload_n hx hb dX9_isSeed_0 rfl (lv_at hl 0 rfl) ?_
  refine z_if_lt (tgt := 15) hx hb rfl dX9_isSeed_1 (by decide) (fun c1 => ?_) (fun c1 => ?_)
  · skip
    refine lv_iconst (v := 0) hx hb dX9_isSeed_15 (by decide) ?_
    exact z_zret hx hb hr rfl hlk (by decide) (by decide) hw (⟨rfl, Or.inr ⟨rfl, trivial⟩⟩) dX9_isSeed_16
  · skip
    refine lv_iload_n hx hb dX9_isSeed_4 rfl (lv_at hl 0 rfl) ?_
    refine lv_ldcw (v := 2000000000) hx hb hown (hT _ kw_1070) dX9_isSeed_5 ?_
    refine z_icmp_gt (tgt := 15) hx hb rfl (show (2000000000 : Int32).toInt = 2000000000 by decide) dX9_isSeed_8 (by decide) (fun c2 => ?_) (fun c2 => ?_)
    · skip
      refine lv_iconst (v := 0) hx hb dX9_isSeed_15 (by decide) ?_
      exact z_zret hx hb hr rfl hlk (by decide) (by decide) hw (⟨rfl, Or.inr ⟨rfl, trivial⟩⟩) dX9_isSeed_16
    · skip
      refine lv_iconst (v := 1) hx hb dX9_isSeed_11 (by decide) ?_
      refine lv_goto (tgt := 16) hx hb dX9_isSeed_12 (by decide) ?_
      exact z_zret hx hb hr rfl hlk (by decide) (by decide) hw (⟨rfl, Or.inl ⟨rfl, by omega⟩⟩) dX9_isSeed_16

set_option maxHeartbeats 2000000 in
set_option maxRecDepth 100000 in
theorem c_X9_isLaw (l : Launch) {D : va_G} {cy : Nat → ClassId} {L : List Nat} {f : Nat → va_E} {sz : Nat} {adK adV : Nat → Nat} {wh nn : Int32}  : Met l yX9_isLaw (z_ws yX9_isLaw cX9_isLaw 2 (some .boolean)) (z_R 1 0 0) (va_Pc [.int wh, .int nn] (z_Pre D vwCl (z_KK D cy adK adV) L f sz)) (z_Qi D vwCl (fun r u => u = (L, f) ∧ ((r = 1 ∧ (0 ≤ wh.toInt ∧ wh.toInt ≤ 4 ∧ 0 ≤ nn.toInt ∧ nn.toInt ≤ 999)) ∨ (r = 0 ∧ True))) L sz) 0 0 (z_A L sz) := by
  refine z_met (cc := cX9_isLaw) (maxL := 2) (ret := (some .boolean)) (lv := [(0, .int wh), (1, .int nn)]) (by decide) rfl (Nat.le_of_ble_eq_true rfl) rfl ?_
  intro p e s m below meth c ls hx hb hr hlk hml hown hnm hts hKK hA hw hl
  have hK := hKK.1.1
  have hown : s.vm.findClass RX9 = some m.cls := hown
  have hT : ∀ w ∈ lw_all, w.before ([.int wh, .int nn] : List Value).toArray s = true := fun w h => hts w (z_cons w h)
  refine lv_iload_n hx hb dX9_isLaw_0 rfl (lv_at hl 0 rfl) ?_
  by_cases c1 : wh.toInt < 0 ∨ 4 < wh.toInt
  · skip
    refine lv_tableOut (tgt := 85) hx hb dX9_isLaw_1 (by rw [show wh.toInt = wh.toInt from rfl]; exact c1) (by decide) ?_
    refine lv_iconst (v := 0) hx hb dX9_isLaw_85 (by decide) ?_
    exact z_zret hx hb hr rfl hlk (by decide) (by decide) hw (⟨rfl, Or.inr ⟨rfl, trivial⟩⟩) dX9_isLaw_86
  · skip
    have c1s : wh.toInt = 0 ∨ wh.toInt = 1 ∨ wh.toInt = 2 ∨ wh.toInt = 3 ∨ wh.toInt = 4 := by omega
    rcases c1s with c1 | c1 | c1 | c1 | c1
    · skip
      refine lv_tableIn (off := 35) (tgt := 36) hx hb dX9_isLaw_1 (by omega) (by omega) (by rw [show wh.toInt = 0 from c1]; rfl) (by decide) ?_
      refine lv_iload_n hx hb dX9_isLaw_36 rfl (lv_at hl 1 rfl) ?_
      refine z_if_eq (tgt := 45) hx hb rfl dX9_isLaw_37 (by decide) (fun c2 => ?_) (fun c2 => ?_)
      · skip
        refine lv_iconst (v := 1) hx hb dX9_isLaw_45 (by decide) ?_
        refine lv_goto (tgt := 50) hx hb dX9_isLaw_46 (by decide) ?_
        exact z_zret hx hb hr rfl hlk (by decide) (by decide) hw (⟨rfl, Or.inl ⟨rfl, by omega⟩⟩) dX9_isLaw_50
      · skip
        refine lv_iload_n hx hb dX9_isLaw_40 rfl (lv_at hl 1 rfl) ?_
        refine lv_iconst (v := 1) hx hb dX9_isLaw_41 (by decide) ?_
        refine z_icmp_ne (tgt := 49) hx hb rfl (show (1 : Int32).toInt = 1 by decide) dX9_isLaw_42 (by decide) (fun c3 => ?_) (fun c3 => ?_)
        · skip
          refine lv_iconst (v := 0) hx hb dX9_isLaw_49 (by decide) ?_
          exact z_zret hx hb hr rfl hlk (by decide) (by decide) hw (⟨rfl, Or.inr ⟨rfl, trivial⟩⟩) dX9_isLaw_50
        · skip
          refine lv_iconst (v := 1) hx hb dX9_isLaw_45 (by decide) ?_
          refine lv_goto (tgt := 50) hx hb dX9_isLaw_46 (by decide) ?_
          exact z_zret hx hb hr rfl hlk (by decide) (by decide) hw (⟨rfl, Or.inl ⟨rfl, by omega⟩⟩) dX9_isLaw_50
    · skip
      refine lv_tableIn (off := 35) (tgt := 36) hx hb dX9_isLaw_1 (by omega) (by omega) (by rw [show wh.toInt = 1 from c1]; rfl) (by decide) ?_
      refine lv_iload_n hx hb dX9_isLaw_36 rfl (lv_at hl 1 rfl) ?_
      refine z_if_eq (tgt := 45) hx hb rfl dX9_isLaw_37 (by decide) (fun c4 => ?_) (fun c4 => ?_)
      · skip
        refine lv_iconst (v := 1) hx hb dX9_isLaw_45 (by decide) ?_
        refine lv_goto (tgt := 50) hx hb dX9_isLaw_46 (by decide) ?_
        exact z_zret hx hb hr rfl hlk (by decide) (by decide) hw (⟨rfl, Or.inl ⟨rfl, by omega⟩⟩) dX9_isLaw_50
      · skip
        refine lv_iload_n hx hb dX9_isLaw_40 rfl (lv_at hl 1 rfl) ?_
        refine lv_iconst (v := 1) hx hb dX9_isLaw_41 (by decide) ?_
        refine z_icmp_ne (tgt := 49) hx hb rfl (show (1 : Int32).toInt = 1 by decide) dX9_isLaw_42 (by decide) (fun c5 => ?_) (fun c5 => ?_)
        · skip
          refine lv_iconst (v := 0) hx hb dX9_isLaw_49 (by decide) ?_
          exact z_zret hx hb hr rfl hlk (by decide) (by decide) hw (⟨rfl, Or.inr ⟨rfl, trivial⟩⟩) dX9_isLaw_50
        · skip
          refine lv_iconst (v := 1) hx hb dX9_isLaw_45 (by decide) ?_
          refine lv_goto (tgt := 50) hx hb dX9_isLaw_46 (by decide) ?_
          exact z_zret hx hb hr rfl hlk (by decide) (by decide) hw (⟨rfl, Or.inl ⟨rfl, by omega⟩⟩) dX9_isLaw_50
    · skip
      refine lv_tableIn (off := 35) (tgt := 36) hx hb dX9_isLaw_1 (by omega) (by omega) (by rw [show wh.toInt = 2 from c1]; rfl) (by decide) ?_
      refine lv_iload_n hx hb dX9_isLaw_36 rfl (lv_at hl 1 rfl) ?_
      refine z_if_eq (tgt := 45) hx hb rfl dX9_isLaw_37 (by decide) (fun c6 => ?_) (fun c6 => ?_)
      · skip
        refine lv_iconst (v := 1) hx hb dX9_isLaw_45 (by decide) ?_
        refine lv_goto (tgt := 50) hx hb dX9_isLaw_46 (by decide) ?_
        exact z_zret hx hb hr rfl hlk (by decide) (by decide) hw (⟨rfl, Or.inl ⟨rfl, by omega⟩⟩) dX9_isLaw_50
      · skip
        refine lv_iload_n hx hb dX9_isLaw_40 rfl (lv_at hl 1 rfl) ?_
        refine lv_iconst (v := 1) hx hb dX9_isLaw_41 (by decide) ?_
        refine z_icmp_ne (tgt := 49) hx hb rfl (show (1 : Int32).toInt = 1 by decide) dX9_isLaw_42 (by decide) (fun c7 => ?_) (fun c7 => ?_)
        · skip
          refine lv_iconst (v := 0) hx hb dX9_isLaw_49 (by decide) ?_
          exact z_zret hx hb hr rfl hlk (by decide) (by decide) hw (⟨rfl, Or.inr ⟨rfl, trivial⟩⟩) dX9_isLaw_50
        · skip
          refine lv_iconst (v := 1) hx hb dX9_isLaw_45 (by decide) ?_
          refine lv_goto (tgt := 50) hx hb dX9_isLaw_46 (by decide) ?_
          exact z_zret hx hb hr rfl hlk (by decide) (by decide) hw (⟨rfl, Or.inl ⟨rfl, by omega⟩⟩) dX9_isLaw_50
    · skip
      refine lv_tableIn (off := 50) (tgt := 51) hx hb dX9_isLaw_1 (by omega) (by omega) (by rw [show wh.toInt = 3 from c1]; rfl) (by decide) ?_
      refine lv_iload_n hx hb dX9_isLaw_51 rfl (lv_at hl 1 rfl) ?_
      refine lv_iconst (v := 2) hx hb dX9_isLaw_52 (by decide) ?_
      refine z_icmp_lt (tgt := 66) hx hb rfl (show (2 : Int32).toInt = 2 by decide) dX9_isLaw_53 (by decide) (fun c8 => ?_) (fun c8 => ?_)
      · skip
        refine lv_iconst (v := 0) hx hb dX9_isLaw_66 (by decide) ?_
        exact z_zret hx hb hr rfl hlk (by decide) (by decide) hw (⟨rfl, Or.inr ⟨rfl, trivial⟩⟩) dX9_isLaw_67
      · skip
        refine lv_iload_n hx hb dX9_isLaw_56 rfl (lv_at hl 1 rfl) ?_
        refine lv_bipush (v := 100) hx hb dX9_isLaw_57 (by decide) ?_
        refine z_icmp_gt (tgt := 66) hx hb rfl (show (100 : Int32).toInt = 100 by decide) dX9_isLaw_59 (by decide) (fun c9 => ?_) (fun c9 => ?_)
        · skip
          refine lv_iconst (v := 0) hx hb dX9_isLaw_66 (by decide) ?_
          exact z_zret hx hb hr rfl hlk (by decide) (by decide) hw (⟨rfl, Or.inr ⟨rfl, trivial⟩⟩) dX9_isLaw_67
        · skip
          refine lv_iconst (v := 1) hx hb dX9_isLaw_62 (by decide) ?_
          refine lv_goto (tgt := 67) hx hb dX9_isLaw_63 (by decide) ?_
          exact z_zret hx hb hr rfl hlk (by decide) (by decide) hw (⟨rfl, Or.inl ⟨rfl, by omega⟩⟩) dX9_isLaw_67
    · skip
      refine lv_tableIn (off := 67) (tgt := 68) hx hb dX9_isLaw_1 (by omega) (by omega) (by rw [show wh.toInt = 4 from c1]; rfl) (by decide) ?_
      refine lv_iload_n hx hb dX9_isLaw_68 rfl (lv_at hl 1 rfl) ?_
      refine z_if_lt (tgt := 83) hx hb rfl dX9_isLaw_69 (by decide) (fun c10 => ?_) (fun c10 => ?_)
      · skip
        refine lv_iconst (v := 0) hx hb dX9_isLaw_83 (by decide) ?_
        exact z_zret hx hb hr rfl hlk (by decide) (by decide) hw (⟨rfl, Or.inr ⟨rfl, trivial⟩⟩) dX9_isLaw_84
      · skip
        refine lv_iload_n hx hb dX9_isLaw_72 rfl (lv_at hl 1 rfl) ?_
        refine lv_sipush (v := 999) hx hb dX9_isLaw_73 (by decide) ?_
        refine z_icmp_gt (tgt := 83) hx hb rfl (show (999 : Int32).toInt = 999 by decide) dX9_isLaw_76 (by decide) (fun c11 => ?_) (fun c11 => ?_)
        · skip
          refine lv_iconst (v := 0) hx hb dX9_isLaw_83 (by decide) ?_
          exact z_zret hx hb hr rfl hlk (by decide) (by decide) hw (⟨rfl, Or.inr ⟨rfl, trivial⟩⟩) dX9_isLaw_84
        · skip
          refine lv_iconst (v := 1) hx hb dX9_isLaw_79 (by decide) ?_
          refine lv_goto (tgt := 84) hx hb dX9_isLaw_80 (by decide) ?_
          exact z_zret hx hb hr rfl hlk (by decide) (by decide) hw (⟨rfl, Or.inl ⟨rfl, by omega⟩⟩) dX9_isLaw_84

set_option maxHeartbeats 2000000 in
set_option maxRecDepth 100000 in
theorem c_X9_isRing (l : Launch) {D : va_G} {cy : Nat → ClassId} {L : List Nat} {f : Nat → va_E} {sz : Nat} {adK adV : Nat → Nat} {xo tp rd mo dmo im kp sl wk pl oo mx : Nat} {la sa mi da : Nat} {v0 v1 v2 v3 v4 v5 v6 : Int32} {ga nn : Int32} (hm_xo : xo ∈ L) (hm_mo : mo ∈ L) (hf_xo : f xo = .inr (9, [.ref tp, .ref rd, .ref mo, .ref dmo, .ref im, .ref kp, .ref sl, .ref wk, .ref pl, .ref oo, .ref mx])) (hf_mo : f mo = .inr (2, [.int v0, .int v1, .int v2, .int v3, .int v4, .int v5, .int v6, .ref la, .ref sa, .ref mi, .ref da])) : Met l yX9_isRing (z_ws yX9_isRing cX9_isRing 3 (some .boolean)) (z_R 2 0 0) (va_Pc [.ref xo, .int ga, .int nn] (z_Pre D vwCl (z_KK D cy adK adV) L f sz)) (z_Qi D vwCl (fun r u => u = (L, f) ∧ ((r = 1 ∧ (0 ≤ ga.toInt ∧ ga.toInt < v1.toInt ∧ 1 ≤ nn.toInt ∧ nn.toInt ≤ 999)) ∨ (r = 0 ∧ True))) L sz) 0 0 (z_A L sz) := by
  refine z_met (cc := cX9_isRing) (maxL := 3) (ret := (some .boolean)) (lv := [(0, .ref xo), (1, .int ga), (2, .int nn)]) (by decide) rfl (Nat.le_of_ble_eq_true rfl) rfl ?_
  intro p e s m below meth c ls hx hb hr hlk hml hown hnm hts hKK hA hw hl
  have hK := hKK.1.1
  have hown : s.vm.findClass RX9 = some m.cls := hown
  have hT : ∀ w ∈ lw_all, w.before ([.ref xo, .int ga, .int nn] : List Value).toArray s = true := fun w h => hts w (z_cons w h)
  refine lv_aload_n hx hb dX9_isRing_0 rfl (lv_at hl 0 rfl) ?_
  refine z_get (C := RX9) (T := TX9) (N := 11) (ci := 9) (v := .ref mo) hx hb hT zin_X9 hown hK hw hm_xo hf_xo rfl 2 (by decide) (hT _ kw_479) rfl dX9_isRing_1 ?_
  refine lv_iload_n hx hb dX9_isRing_4 rfl (lv_at hl 1 rfl) ?_
  refine z_calliV (cells := 0) (slots := 0) (b := mo) (As := [.int ga]) (rest := []) (ci := 2) (q0 := (RX2, TX2, 11)) ⟨hx, hb, hml, hown, hT⟩ (c_X2_hasGap l hm_mo hf_mo) (cwV 1 hT (z_goodV (fun _ h => h) kw_736 kw_737 kw_738 kw_87 kw_739) rfl rfl rfl (by decide +kernel) ⟨by decide, by decide⟩) z_mv hKK hK hw hA hm_mo hf_mo rfl rfl rfl hl.1 rfl (Nat.le_of_ble_eq_true rfl) dX9_isRing_5 ⟨by decide, by decide⟩ (fun r1 u H locs hp hw => ?_)
  obtain ⟨rfl, hp⟩ := hp
  have hw : z_H D vwCl (z_A L sz) s.heap L f H locs := hw
  rcases hp with ⟨rfl, h2⟩ | ⟨rfl, h2⟩
  · skip
    refine z_if_eq (tgt := 27) hx hb (show (1 : Int32).toInt = 1 by decide) dX9_isRing_8 (by decide) (fun h => absurd h (by decide)) (fun _ => ?_)
    refine lv_iload_n hx hb dX9_isRing_11 rfl (lv_at hl 2 rfl) ?_
    refine lv_iconst (v := 1) hx hb dX9_isRing_12 (by decide) ?_
    refine z_icmp_lt (tgt := 27) hx hb rfl (show (1 : Int32).toInt = 1 by decide) dX9_isRing_13 (by decide) (fun c3 => ?_) (fun c3 => ?_)
    · skip
      refine lv_iconst (v := 0) hx hb dX9_isRing_27 (by decide) ?_
      exact z_zret hx hb hr rfl hlk (by decide) (by decide) hw (⟨rfl, Or.inr ⟨rfl, trivial⟩⟩) dX9_isRing_28
    · skip
      refine lv_iload_n hx hb dX9_isRing_16 rfl (lv_at hl 2 rfl) ?_
      refine lv_sipush (v := 999) hx hb dX9_isRing_17 (by decide) ?_
      refine z_icmp_gt (tgt := 27) hx hb rfl (show (999 : Int32).toInt = 999 by decide) dX9_isRing_20 (by decide) (fun c4 => ?_) (fun c4 => ?_)
      · skip
        refine lv_iconst (v := 0) hx hb dX9_isRing_27 (by decide) ?_
        exact z_zret hx hb hr rfl hlk (by decide) (by decide) hw (⟨rfl, Or.inr ⟨rfl, trivial⟩⟩) dX9_isRing_28
      · skip
        refine lv_iconst (v := 1) hx hb dX9_isRing_23 (by decide) ?_
        refine lv_goto (tgt := 28) hx hb dX9_isRing_24 (by decide) ?_
        exact z_zret hx hb hr rfl hlk (by decide) (by decide) hw (⟨rfl, Or.inl ⟨rfl, by omega⟩⟩) dX9_isRing_28
  · skip
    refine z_if_eq (tgt := 27) hx hb (show (0 : Int32).toInt = 0 by decide) dX9_isRing_8 (by decide) (fun _ => ?_) (fun h => absurd h (by decide))
    refine lv_iconst (v := 0) hx hb dX9_isRing_27 (by decide) ?_
    exact z_zret hx hb hr rfl hlk (by decide) (by decide) hw (⟨rfl, Or.inr ⟨rfl, trivial⟩⟩) dX9_isRing_28

set_option maxHeartbeats 2000000 in
set_option maxRecDepth 100000 in
theorem c_X9_feed (l : Launch) {D : va_G} {cy : Nat → ClassId} {L : List Nat} {f : Nat → va_E} {sz : Nat} {adK adV : Nat → Nat} {xo tp rd mo dmo im kp sl wk pl oo mx : Nat} {tb : Nat} {tl : Int32} {gt : Nat → Int32} {a0 a1 a2 a3 a4 : Int32} (hm_xo : xo ∈ L) (hm_tp : tp ∈ L) (hm_tb : tb ∈ L) (hf_xo : f xo = .inr (9, [.ref tp, .ref rd, .ref mo, .ref dmo, .ref im, .ref kp, .ref sl, .ref wk, .ref pl, .ref oo, .ref mx])) (hf_tp : f tp = .inr (7, [.ref tb, .int tl])) (hf_tb : f tb = .inl (cy 0, 1600, .inl gt)) (htl : 0 ≤ tl.toInt ∧ tl.toInt ≤ 1600) : Met l yX9_feed (z_ws yX9_feed cX9_feed 6 (some .int)) (z_R 2 0 0) (va_Pc [.ref xo, .int a0, .int a1, .int a2, .int a3, .int a4] (z_Pre D vwCl (z_KK D cy adK adV) L f sz)) (z_Qi D vwCl (fun r u => L = u.1 ∧ (∀ b ∈ L, b ≠ tp → b ≠ tb → u.2 b = f b) ∧ (∃ (l2 : Int32) (g2 : Nat → Int32), (u.2 tp = .inr (7, [.ref tb, .int l2])) ∧ (u.2 tb = .inl (cy 0, 1600, .inl g2)) ∧ (0 ≤ l2.toInt ∧ l2.toInt ≤ 1600))) L sz) 0 0 (z_A L sz) := by
  refine z_met (cc := cX9_feed) (maxL := 6) (ret := (some .int)) (lv := [(0, .ref xo), (1, .int a0), (2, .int a1), (3, .int a2), (4, .int a3), (5, .int a4)]) (by decide) rfl (Nat.le_of_ble_eq_true rfl) rfl ?_
  intro p e s m below meth c ls hx hb hr hlk hml hown hnm hts hKK hA hw hl
  have hK := hKK.1.1
  have hown : s.vm.findClass RX9 = some m.cls := hown
  have hT : ∀ w ∈ lw_all, w.before ([.ref xo, .int a0, .int a1, .int a2, .int a3, .int a4] : List Value).toArray s = true := fun w h => hts w (z_cons w h)
  have hsub : L = L := rfl
  have hfr : ∀ b ∈ L, b ≠ tp → b ≠ tb → f b = f b := fun _ _ _ _ => rfl
  refine lv_aload_n hx hb dX9_feed_0 rfl (lv_at hl 0 rfl) ?_
  refine z_get (C := RX9) (T := TX9) (N := 11) (ci := 9) (v := .ref tp) hx hb hT zin_X9 hown hK hw hm_xo hf_xo rfl 0 (by decide) (hT _ kw_477) rfl dX9_feed_1 ?_
  refine z_get (C := RX7) (T := TX7) (N := 2) (ci := 7) (v := .int tl) hx hb hT zin_X7 hown hK hw hm_tp hf_tp rfl 1 (by decide) (hT _ kw_119) rfl dX9_feed_4 ?_
  refine lv_sipush (v := 1580) hx hb dX9_feed_7 (by decide) ?_
  refine z_icmp_le (tgt := 15) hx hb rfl (show (1580 : Int32).toInt = 1580 by decide) dX9_feed_10 (by decide) (fun c1 => ?_) (fun c1 => ?_)
  · skip
    refine lv_aload_n hx hb dX9_feed_15 rfl (lv_at hl 0 rfl) ?_
    refine z_get (C := RX9) (T := TX9) (N := 11) (ci := 9) (v := .ref tp) hx hb hT zin_X9 hown hK hw hm_xo hf_xo rfl 0 (by decide) (hT _ kw_477) rfl dX9_feed_16 ?_
    refine lv_iload_n hx hb dX9_feed_19 rfl (lv_at hl 1 rfl) ?_
    refine z_callvV (cells := 0) (slots := 0) (b := tp) (As := [.int a0]) (rest := []) (ci := 7) (q0 := (RX7, TX7, 2)) ⟨hx, hb, hml, hown, hT⟩ (c_X7_append l hm_tp hm_tb hf_tp hf_tb (by first | omega | decide | assumption)) (cwV 1 hT (z_goodV (fun _ h => h) kw_515 kw_516 kw_517 kw_86 kw_518) rfl rfl rfl (by decide +kernel) ⟨by decide, by decide⟩) z_mv hKK hK hw hA hm_tp hf_tp rfl rfl rfl hl.1 rfl (Nat.le_of_ble_eq_true rfl) dX9_feed_20 ⟨by decide, by decide⟩ (fun u H locs hp hw => ?_)
    obtain ⟨L2, f3⟩ := u
    obtain ⟨hsb, hfm, l2_4, g2_5, ha_0, ha_1, hp⟩ := hp
    have hsb : L = L2 := hsb
    subst hsb
    have hsb : ∀ b ∈ L, b ∈ L := fun _ h => h
    have hw : z_H D vwCl (z_A L sz) s.heap L f3 H locs := hw
    have hfr : ∀ b ∈ L, b ≠ tp → b ≠ tb → f3 b = f b := fun b hb h0 h1 => (hfm b hb h0 h1).trans (hfr b hb h0 h1)
    have hf_xo : f3 xo = .inr (9, [.ref tp, .ref rd, .ref mo, .ref dmo, .ref im, .ref kp, .ref sl, .ref wk, .ref pl, .ref oo, .ref mx]) := (hfm xo hm_xo (z_tne hf_xo hf_tp (m := 9) (n := 7) rfl rfl (by decide)) (z_tne hf_xo hf_tb (m := 9) (n := 12900) rfl rfl (by decide))).trans hf_xo
    have hf_tp : f3 tp = .inr (7, [.ref tb, .int l2_4]) := ha_0
    have hf_tb : f3 tb = .inl (cy 0, 1600, .inl g2_5) := ha_1
    have hq6 := hp
    refine lv_aload_n hx hb dX9_feed_23 rfl (lv_at hl 0 rfl) ?_
    refine z_get (C := RX9) (T := TX9) (N := 11) (ci := 9) (v := .ref tp) hx hb hT zin_X9 hown hK hw hm_xo hf_xo rfl 0 (by decide) (hT _ kw_477) rfl dX9_feed_24 ?_
    refine lv_iload_n hx hb dX9_feed_27 rfl (lv_at hl 2 rfl) ?_
    refine z_callvV (cells := 0) (slots := 0) (b := tp) (As := [.int a1]) (rest := []) (ci := 7) (q0 := (RX7, TX7, 2)) ⟨hx, hb, hml, hown, hT⟩ (c_X7_append l hm_tp hm_tb hf_tp hf_tb (by first | omega | decide | assumption)) (cwV 1 hT (z_goodV (fun _ h => h) kw_515 kw_516 kw_517 kw_86 kw_518) rfl rfl rfl (by decide +kernel) ⟨by decide, by decide⟩) z_mv hKK hK hw hA hm_tp hf_tp rfl rfl rfl hl.1 rfl (Nat.le_of_ble_eq_true rfl) dX9_feed_28 ⟨by decide, by decide⟩ (fun u H locs hp hw => ?_)
    obtain ⟨L7, f8⟩ := u
    obtain ⟨hsb, hfm, l2_9, g2_10, ha_0, ha_1, hp⟩ := hp
    have hsb : L = L7 := hsb
    subst hsb
    have hsb : ∀ b ∈ L, b ∈ L := fun _ h => h
    have hw : z_H D vwCl (z_A L sz) s.heap L f8 H locs := hw
    have hfr : ∀ b ∈ L, b ≠ tp → b ≠ tb → f8 b = f b := fun b hb h0 h1 => (hfm b hb h0 h1).trans (hfr b hb h0 h1)
    have hf_xo : f8 xo = .inr (9, [.ref tp, .ref rd, .ref mo, .ref dmo, .ref im, .ref kp, .ref sl, .ref wk, .ref pl, .ref oo, .ref mx]) := (hfm xo hm_xo (z_tne hf_xo hf_tp (m := 9) (n := 7) rfl rfl (by decide)) (z_tne hf_xo hf_tb (m := 9) (n := 12900) rfl rfl (by decide))).trans hf_xo
    have hf_tp : f8 tp = .inr (7, [.ref tb, .int l2_9]) := ha_0
    have hf_tb : f8 tb = .inl (cy 0, 1600, .inl g2_10) := ha_1
    have hq11 := hp
    refine lv_aload_n hx hb dX9_feed_31 rfl (lv_at hl 0 rfl) ?_
    refine z_get (C := RX9) (T := TX9) (N := 11) (ci := 9) (v := .ref tp) hx hb hT zin_X9 hown hK hw hm_xo hf_xo rfl 0 (by decide) (hT _ kw_477) rfl dX9_feed_32 ?_
    refine lv_iload_n hx hb dX9_feed_35 rfl (lv_at hl 3 rfl) ?_
    refine z_callvV (cells := 0) (slots := 0) (b := tp) (As := [.int a2]) (rest := []) (ci := 7) (q0 := (RX7, TX7, 2)) ⟨hx, hb, hml, hown, hT⟩ (c_X7_append l hm_tp hm_tb hf_tp hf_tb (by first | omega | decide | assumption)) (cwV 1 hT (z_goodV (fun _ h => h) kw_515 kw_516 kw_517 kw_86 kw_518) rfl rfl rfl (by decide +kernel) ⟨by decide, by decide⟩) z_mv hKK hK hw hA hm_tp hf_tp rfl rfl rfl hl.1 rfl (Nat.le_of_ble_eq_true rfl) dX9_feed_36 ⟨by decide, by decide⟩ (fun u H locs hp hw => ?_)
    obtain ⟨L12, f13⟩ := u
    obtain ⟨hsb, hfm, l2_14, g2_15, ha_0, ha_1, hp⟩ := hp
    have hsb : L = L12 := hsb
    subst hsb
    have hsb : ∀ b ∈ L, b ∈ L := fun _ h => h
    have hw : z_H D vwCl (z_A L sz) s.heap L f13 H locs := hw
    have hfr : ∀ b ∈ L, b ≠ tp → b ≠ tb → f13 b = f b := fun b hb h0 h1 => (hfm b hb h0 h1).trans (hfr b hb h0 h1)
    have hf_xo : f13 xo = .inr (9, [.ref tp, .ref rd, .ref mo, .ref dmo, .ref im, .ref kp, .ref sl, .ref wk, .ref pl, .ref oo, .ref mx]) := (hfm xo hm_xo (z_tne hf_xo hf_tp (m := 9) (n := 7) rfl rfl (by decide)) (z_tne hf_xo hf_tb (m := 9) (n := 12900) rfl rfl (by decide))).trans hf_xo
    have hf_tp : f13 tp = .inr (7, [.ref tb, .int l2_14]) := ha_0
    have hf_tb : f13 tb = .inl (cy 0, 1600, .inl g2_15) := ha_1
    have hq16 := hp
    refine lv_aload_n hx hb dX9_feed_39 rfl (lv_at hl 0 rfl) ?_
    refine z_get (C := RX9) (T := TX9) (N := 11) (ci := 9) (v := .ref tp) hx hb hT zin_X9 hown hK hw hm_xo hf_xo rfl 0 (by decide) (hT _ kw_477) rfl dX9_feed_40 ?_
    refine lv_iload hx hb dX9_feed_43 (lv_at hl 4 rfl) ?_
    refine z_callvV (cells := 0) (slots := 0) (b := tp) (As := [.int a3]) (rest := []) (ci := 7) (q0 := (RX7, TX7, 2)) ⟨hx, hb, hml, hown, hT⟩ (c_X7_append l hm_tp hm_tb hf_tp hf_tb (by first | omega | decide | assumption)) (cwV 1 hT (z_goodV (fun _ h => h) kw_515 kw_516 kw_517 kw_86 kw_518) rfl rfl rfl (by decide +kernel) ⟨by decide, by decide⟩) z_mv hKK hK hw hA hm_tp hf_tp rfl rfl rfl hl.1 rfl (Nat.le_of_ble_eq_true rfl) dX9_feed_45 ⟨by decide, by decide⟩ (fun u H locs hp hw => ?_)
    obtain ⟨L17, f18⟩ := u
    obtain ⟨hsb, hfm, l2_19, g2_20, ha_0, ha_1, hp⟩ := hp
    have hsb : L = L17 := hsb
    subst hsb
    have hsb : ∀ b ∈ L, b ∈ L := fun _ h => h
    have hw : z_H D vwCl (z_A L sz) s.heap L f18 H locs := hw
    have hfr : ∀ b ∈ L, b ≠ tp → b ≠ tb → f18 b = f b := fun b hb h0 h1 => (hfm b hb h0 h1).trans (hfr b hb h0 h1)
    have hf_xo : f18 xo = .inr (9, [.ref tp, .ref rd, .ref mo, .ref dmo, .ref im, .ref kp, .ref sl, .ref wk, .ref pl, .ref oo, .ref mx]) := (hfm xo hm_xo (z_tne hf_xo hf_tp (m := 9) (n := 7) rfl rfl (by decide)) (z_tne hf_xo hf_tb (m := 9) (n := 12900) rfl rfl (by decide))).trans hf_xo
    have hf_tp : f18 tp = .inr (7, [.ref tb, .int l2_19]) := ha_0
    have hf_tb : f18 tb = .inl (cy 0, 1600, .inl g2_20) := ha_1
    have hq21 := hp
    refine lv_aload_n hx hb dX9_feed_48 rfl (lv_at hl 0 rfl) ?_
    refine z_get (C := RX9) (T := TX9) (N := 11) (ci := 9) (v := .ref tp) hx hb hT zin_X9 hown hK hw hm_xo hf_xo rfl 0 (by decide) (hT _ kw_477) rfl dX9_feed_49 ?_
    refine lv_iload hx hb dX9_feed_52 (lv_at hl 5 rfl) ?_
    refine z_callvV (cells := 0) (slots := 0) (b := tp) (As := [.int a4]) (rest := []) (ci := 7) (q0 := (RX7, TX7, 2)) ⟨hx, hb, hml, hown, hT⟩ (c_X7_append l hm_tp hm_tb hf_tp hf_tb (by first | omega | decide | assumption)) (cwV 1 hT (z_goodV (fun _ h => h) kw_515 kw_516 kw_517 kw_86 kw_518) rfl rfl rfl (by decide +kernel) ⟨by decide, by decide⟩) z_mv hKK hK hw hA hm_tp hf_tp rfl rfl rfl hl.1 rfl (Nat.le_of_ble_eq_true rfl) dX9_feed_54 ⟨by decide, by decide⟩ (fun u H locs hp hw => ?_)
    obtain ⟨L22, f23⟩ := u
    obtain ⟨hsb, hfm, l2_24, g2_25, ha_0, ha_1, hp⟩ := hp
    have hsb : L = L22 := hsb
    subst hsb
    have hsb : ∀ b ∈ L, b ∈ L := fun _ h => h
    have hw : z_H D vwCl (z_A L sz) s.heap L f23 H locs := hw
    have hfr : ∀ b ∈ L, b ≠ tp → b ≠ tb → f23 b = f b := fun b hb h0 h1 => (hfm b hb h0 h1).trans (hfr b hb h0 h1)
    have hf_xo : f23 xo = .inr (9, [.ref tp, .ref rd, .ref mo, .ref dmo, .ref im, .ref kp, .ref sl, .ref wk, .ref pl, .ref oo, .ref mx]) := (hfm xo hm_xo (z_tne hf_xo hf_tp (m := 9) (n := 7) rfl rfl (by decide)) (z_tne hf_xo hf_tb (m := 9) (n := 12900) rfl rfl (by decide))).trans hf_xo
    have hf_tp : f23 tp = .inr (7, [.ref tb, .int l2_24]) := ha_0
    have hf_tb : f23 tb = .inl (cy 0, 1600, .inl g2_25) := ha_1
    have hq26 := hp
    refine lv_aload_n hx hb dX9_feed_57 rfl (lv_at hl 0 rfl) ?_
    refine z_get (C := RX9) (T := TX9) (N := 11) (ci := 9) (v := .ref tp) hx hb hT zin_X9 hown hK hw hm_xo hf_xo rfl 0 (by decide) (hT _ kw_477) rfl dX9_feed_58 ?_
    refine z_get (C := RX7) (T := TX7) (N := 2) (ci := 7) (v := .int l2_24) hx hb hT zin_X7 hown hK hw hm_tp hf_tp rfl 1 (by decide) (hT _ kw_119) rfl dX9_feed_61 ?_
    exact z_iret hx hb hr hlk (by decide) (by decide) hw (⟨hsub, hfr, l2_24, g2_25, hf_tp, hf_tb, by omega⟩) dX9_feed_64
  · skip
    refine lv_iconst (v := (-1)) hx hb dX9_feed_13 (by decide) ?_
    exact z_iret hx hb hr hlk (by decide) (by decide) hw (⟨hsub, hfr, tl, gt, hf_tp, hf_tb, by omega⟩) dX9_feed_14

set_option maxHeartbeats 2000000 in
set_option maxRecDepth 100000 in
theorem c_X9_end (l : Launch) {D : va_G} {cy : Nat → ClassId} {L : List Nat} {f : Nat → va_E} {sz : Nat} {adK adV : Nat → Nat} {xo tp rd mo dmo im kp sl wk pl oo mx : Nat} {tb : Nat} {tl : Int32}  {nn : Int32} (hm_xo : xo ∈ L) (hm_tp : tp ∈ L) (hf_xo : f xo = .inr (9, [.ref tp, .ref rd, .ref mo, .ref dmo, .ref im, .ref kp, .ref sl, .ref wk, .ref pl, .ref oo, .ref mx])) (hf_tp : f tp = .inr (7, [.ref tb, .int tl])) (htl : 0 ≤ tl.toInt ∧ tl.toInt ≤ 1600) : Met l yX9_end (z_ws yX9_end cX9_end 2 (some .int)) (z_R 1 0 0) (va_Pc [.ref xo, .int nn] (z_Pre D vwCl (z_KK D cy adK adV) L f sz)) (z_Qi D vwCl (fun r u => L = u.1 ∧ (∀ b ∈ L, b ≠ tp → u.2 b = f b) ∧ (∃ (l2 : Int32), (u.2 tp = .inr (7, [.ref tb, .int l2])) ∧ (0 ≤ l2.toInt ∧ l2.toInt ≤ 1600))) L sz) 0 0 (z_A L sz) := by
  refine z_met (cc := cX9_end) (maxL := 2) (ret := (some .int)) (lv := [(0, .ref xo), (1, .int nn)]) (by decide) rfl (Nat.le_of_ble_eq_true rfl) rfl ?_
  intro p e s m below meth c ls hx hb hr hlk hml hown hnm hts hKK hA hw hl
  have hK := hKK.1.1
  have hown : s.vm.findClass RX9 = some m.cls := hown
  have hT : ∀ w ∈ lw_all, w.before ([.ref xo, .int nn] : List Value).toArray s = true := fun w h => hts w (z_cons w h)
  have hsub : L = L := rfl
  have hfr : ∀ b ∈ L, b ≠ tp → f b = f b := fun _ _ _ => rfl
  refine lv_iload_n hx hb dX9_end_0 rfl (lv_at hl 1 rfl) ?_
  refine z_if_lt (tgt := 15) hx hb rfl dX9_end_1 (by decide) (fun c1 => ?_) (fun c1 => ?_)
  · skip
    refine lv_iconst (v := (-1)) hx hb dX9_end_15 (by decide) ?_
    exact z_iret hx hb hr hlk (by decide) (by decide) hw (⟨hsub, hfr, tl, hf_tp, by omega⟩) dX9_end_16
  · skip
    refine lv_iload_n hx hb dX9_end_4 rfl (lv_at hl 1 rfl) ?_
    refine lv_aload_n hx hb dX9_end_5 rfl (lv_at hl 0 rfl) ?_
    refine z_get (C := RX9) (T := TX9) (N := 11) (ci := 9) (v := .ref tp) hx hb hT zin_X9 hown hK hw hm_xo hf_xo rfl 0 (by decide) (hT _ kw_477) rfl dX9_end_6 ?_
    refine z_get (C := RX7) (T := TX7) (N := 2) (ci := 7) (v := .int tl) hx hb hT zin_X7 hown hK hw hm_tp hf_tp rfl 1 (by decide) (hT _ kw_119) rfl dX9_end_9 ?_
    refine z_icmp_le (tgt := 17) hx hb rfl rfl dX9_end_12 (by decide) (fun c2 => ?_) (fun c2 => ?_)
    · skip
      refine lv_aload_n hx hb dX9_end_17 rfl (lv_at hl 0 rfl) ?_
      refine z_get (C := RX9) (T := TX9) (N := 11) (ci := 9) (v := .ref tp) hx hb hT zin_X9 hown hK hw hm_xo hf_xo rfl 0 (by decide) (hT _ kw_477) rfl dX9_end_18 ?_
      refine lv_iload_n hx hb dX9_end_21 rfl (lv_at hl 1 rfl) ?_
      refine z_put (C := RX7) (T := TX7) (N := 2) (ci := 7) (v := .int nn) (fs' := [.ref tb, .int nn]) hx hb hT zin_X7 tyX7_ok nmX7 hown hK hw hm_tp hf_tp rfl 1 (by decide) (hT _ kw_119) rfl rfl rfl (Nat.le_of_ble_eq_true rfl) rfl dX9_end_22 (fun H locs hw => ?_)
      obtain ⟨f3, e_f3⟩ : ∃ z, z = va_up f tp (.inr (7, [.ref tb, .int nn])) := ⟨_, rfl⟩
      rw [← e_f3] at hw
      have hf_xo : f3 xo = .inr (9, [.ref tp, .ref rd, .ref mo, .ref dmo, .ref im, .ref kp, .ref sl, .ref wk, .ref pl, .ref oo, .ref mx]) := (congrFun e_f3 xo).trans (z_up_ne (z_tne hf_xo hf_tp (m := 9) (n := 7) rfl rfl (by decide)) hf_xo)
      have hf_tp : f3 tp = .inr (7, [.ref tb, .int nn]) := (congrFun e_f3 tp).trans z_up_self
      have hfr : ∀ b ∈ L, b ≠ tp → f3 b = f b := fun b hb h0 => (congrFun e_f3 b).trans (z_up_ne h0 (hfr b hb h0))
      refine lv_iload_n hx hb dX9_end_25 rfl (lv_at hl 1 rfl) ?_
      exact z_iret hx hb hr hlk (by decide) (by decide) hw (⟨hsub, hfr, nn, hf_tp, by omega⟩) dX9_end_26
    · skip
      refine lv_iconst (v := (-1)) hx hb dX9_end_15 (by decide) ?_
      exact z_iret hx hb hr hlk (by decide) (by decide) hw (⟨hsub, hfr, tl, hf_tp, by omega⟩) dX9_end_16

set_option maxHeartbeats 2000000 in
set_option maxRecDepth 100000 in
theorem c_X9_fault (l : Launch) {D : va_G} {cy : Nat → ClassId} {L : List Nat} {f : Nat → va_E} {sz : Nat} {adK adV : Nat → Nat} {xo tp rd mo dmo im kp sl wk pl oo mx : Nat}  {fa fp ot_ ki ra rn rv : Int32}   {wh : Int32} (hm_xo : xo ∈ L) (hm_rd : rd ∈ L) (hf_xo : f xo = .inr (9, [.ref tp, .ref rd, .ref mo, .ref dmo, .ref im, .ref kp, .ref sl, .ref wk, .ref pl, .ref oo, .ref mx])) (hf_rd : f rd = .inr (5, [.int fa, .int fp, .ref tp, .ref dmo, .int ot_, .int ki, .int ra, .int rn, .int rv])) : Met l yX9_fault (z_ws yX9_fault cX9_fault 2 (some .int)) (z_R 1 0 0) (va_Pc [.ref xo, .int wh] (z_Pre D vwCl (z_KK D cy adK adV) L f sz)) (z_Qi D vwCl (fun r u => u = (L, f) ∧ (True)) L sz) 0 0 (z_A L sz) := by
  refine z_met (cc := cX9_fault) (maxL := 2) (ret := (some .int)) (lv := [(0, .ref xo), (1, .int wh)]) (by decide) rfl (Nat.le_of_ble_eq_true rfl) rfl ?_
  intro p e s m below meth c ls hx hb hr hlk hml hown hnm hts hKK hA hw hl
  have hK := hKK.1.1
  have hown : s.vm.findClass RX9 = some m.cls := hown
  have hT : ∀ w ∈ lw_all, w.before ([.ref xo, .int wh] : List Value).toArray s = true := fun w h => hts w (z_cons w h)
  refine lv_iload_n hx hb dX9_fault_0 rfl (lv_at hl 1 rfl) ?_
  refine z_if_ne (tgt := 12) hx hb rfl dX9_fault_1 (by decide) (fun c1 => ?_) (fun c1 => ?_)
  · skip
    refine lv_iload_n hx hb dX9_fault_12 rfl (lv_at hl 1 rfl) ?_
    refine lv_iconst (v := 1) hx hb dX9_fault_13 (by decide) ?_
    refine z_icmp_ne (tgt := 27) hx hb rfl (show (1 : Int32).toInt = 1 by decide) dX9_fault_14 (by decide) (fun c2 => ?_) (fun c2 => ?_)
    · skip
      refine lv_iconst (v := (-1)) hx hb dX9_fault_27 (by decide) ?_
      exact z_iret hx hb hr hlk (by decide) (by decide) hw (⟨rfl, trivial⟩) dX9_fault_28
    · skip
      refine lv_aload_n hx hb dX9_fault_17 rfl (lv_at hl 0 rfl) ?_
      refine z_get (C := RX9) (T := TX9) (N := 11) (ci := 9) (v := .ref rd) hx hb hT zin_X9 hown hK hw hm_xo hf_xo rfl 1 (by decide) (hT _ kw_478) rfl dX9_fault_18 ?_
      refine z_get (C := RX5) (T := TX5) (N := 9) (ci := 5) (v := .int fp) hx hb hT zin_X5 hown hK hw hm_rd hf_rd rfl 1 (by decide) (hT _ kw_280) rfl dX9_fault_21 ?_
      refine lv_goto (tgt := 28) hx hb dX9_fault_24 (by decide) ?_
      exact z_iret hx hb hr hlk (by decide) (by decide) hw (⟨rfl, trivial⟩) dX9_fault_28
  · skip
    refine lv_aload_n hx hb dX9_fault_4 rfl (lv_at hl 0 rfl) ?_
    refine z_get (C := RX9) (T := TX9) (N := 11) (ci := 9) (v := .ref rd) hx hb hT zin_X9 hown hK hw hm_xo hf_xo rfl 1 (by decide) (hT _ kw_478) rfl dX9_fault_5 ?_
    refine z_get (C := RX5) (T := TX5) (N := 9) (ci := 5) (v := .int fa) hx hb hT zin_X5 hown hK hw hm_rd hf_rd rfl 0 (by decide) (hT _ kw_278) rfl dX9_fault_8 ?_
    exact z_iret hx hb hr hlk (by decide) (by decide) hw (⟨rfl, trivial⟩) dX9_fault_11

set_option maxHeartbeats 2000000 in
set_option maxRecDepth 100000 in
theorem c_X9_drive (l : Launch) {D : va_G} {cy : Nat → ClassId} {L : List Nat} {f : Nat → va_E} {sz : Nat} {adK adV : Nat → Nat} {xo tp rd mo dmo im kp sl wk pl oo mx : Nat} {la sa mi da : Nat} {v0 v1 v2 v3 v4 v5 v6 : Int32} {gd : Nat → Option Nat} {dv : Nat → Nat} {nu wh : Int32} (hm_xo : xo ∈ L) (hm_mo : mo ∈ L) (hm_da : da ∈ L) (hf_xo : f xo = .inr (9, [.ref tp, .ref rd, .ref mo, .ref dmo, .ref im, .ref kp, .ref sl, .ref wk, .ref pl, .ref oo, .ref mx])) (hf_mo : f mo = .inr (2, [.int v0, .int v1, .int v2, .int v3, .int v4, .int v5, .int v6, .ref la, .ref sa, .ref mi, .ref da])) (hf_da : f da = .inl (cy 4, 13, .inr (.inr (.inr (.inr gd))))) (hg_da : ∀ i : Nat, i < 13 → gd i = some (dv i)) (hd_da : z_Drv L f dv 13) (hv5 : 0 ≤ v5.toInt ∧ v5.toInt ≤ 12) : Met l yX9_drive (z_ws yX9_drive cX9_drive 4 (some .int)) (z_R 2 0 0) (va_Pc [.ref xo, .int nu, .int wh] (z_Pre D vwCl (z_KK D cy adK adV) L f sz)) (z_Qi D vwCl (fun r u => u = (L, f) ∧ (True)) L sz) 0 0 (z_A L sz) := by
  refine z_met (cc := cX9_drive) (maxL := 4) (ret := (some .int)) (lv := [(0, .ref xo), (1, .int nu), (2, .int wh)]) (by decide) rfl (Nat.le_of_ble_eq_true rfl) rfl ?_
  intro p e s m below meth c ls hx hb hr hlk hml hown hnm hts hKK hA hw hl
  have hK := hKK.1.1
  have hown : s.vm.findClass RX9 = some m.cls := hown
  have hT : ∀ w ∈ lw_all, w.before ([.ref xo, .int nu, .int wh] : List Value).toArray s = true := fun w h => hts w (z_cons w h)
  refine lv_aload_n hx hb dX9_drive_0 rfl (lv_at hl 0 rfl) ?_
  refine z_get (C := RX9) (T := TX9) (N := 11) (ci := 9) (v := .ref mo) hx hb hT zin_X9 hown hK hw hm_xo hf_xo rfl 2 (by decide) (hT _ kw_479) rfl dX9_drive_1 ?_
  refine lv_iload_n hx hb dX9_drive_4 rfl (lv_at hl 1 rfl) ?_
  refine z_calliV (cells := 0) (slots := 0) (b := mo) (As := [.int nu]) (rest := []) (ci := 2) (q0 := (RX2, TX2, 11)) ⟨hx, hb, hml, hown, hT⟩ (c_X2_hasDrive l hm_mo hf_mo) (cwV 1 hT (z_goodV (fun _ h => h) kw_709 kw_710 kw_711 kw_87 kw_712) rfl rfl rfl (by decide +kernel) ⟨by decide, by decide⟩) z_mv hKK hK hw hA hm_mo hf_mo rfl rfl rfl hl.1 rfl (Nat.le_of_ble_eq_true rfl) dX9_drive_5 ⟨by decide, by decide⟩ (fun r1 u H locs hp hw => ?_)
  obtain ⟨rfl, hp⟩ := hp
  have hw : z_H D vwCl (z_A L sz) s.heap L f H locs := hw
  rcases hp with ⟨rfl, h2⟩ | ⟨rfl, h2⟩
  · skip
    refine z_if_ne (tgt := 14) hx hb (show (1 : Int32).toInt = 1 by decide) dX9_drive_8 (by decide) (fun _ => ?_) (fun h => absurd h (by decide))
    refine lv_aload_n hx hb dX9_drive_14 rfl (lv_at hl 0 rfl) ?_
    refine z_get (C := RX9) (T := TX9) (N := 11) (ci := 9) (v := .ref mo) hx hb hT zin_X9 hown hK hw hm_xo hf_xo rfl 2 (by decide) (hT _ kw_479) rfl dX9_drive_15 ?_
    refine z_get (C := RX2) (T := TX2) (N := 11) (ci := 2) (v := .ref da) hx hb hT zin_X2 hown hK hw hm_mo hf_mo rfl 10 (by decide) (hT _ kw_245) rfl dX9_drive_18 ?_
    refine lv_iload_n hx hb dX9_drive_21 rfl (lv_at hl 1 rfl) ?_
    obtain ⟨dq3, e_dq3⟩ : ∃ z, z = dv nu.toNatClampNeg := ⟨_, rfl⟩
    have hi_dq3 : nu.toNatClampNeg < 13 := z_clI rfl (by omega)
    refine z_aald (b := dq3) hx hb hK hw 4 hm_da hf_da rfl (z_ix rfl (by omega)) (by rw [e_dq3]; exact hg_da _ hi_dq3) dX9_drive_22 ?_
    obtain ⟨hm_dq3, do4, dg5, dd6, dh7, ds8, dl9, dp10, dm11, hf_dq3, hr_do4, hr_dg5, hr_dd6, hr_dh7, hr_ds8, hr_dl9, hr_dp10, hr_dm11⟩ := hd_da _ hi_dq3
    rw [← e_dq3] at hm_dq3 hf_dq3
    refine lv_astore_n (lv' := [(3, .ref dq3), (0, .ref xo), (1, .int nu), (2, .int wh)]) hx hb dX9_drive_23 rfl hl (by decide) rfl (fun ls hl => ?_)
    refine lv_iload_n hx hb dX9_drive_24 rfl (lv_at hl 3 rfl) ?_
    by_cases c12 : wh.toInt < 0 ∨ 7 < wh.toInt
    · skip
      refine lv_tableOut (tgt := 112) hx hb dX9_drive_25 (by rw [show wh.toInt = wh.toInt from rfl]; exact c12) (by decide) ?_
      refine lv_bipush (v := (-2)) hx hb dX9_drive_112 (by decide) ?_
      exact z_iret hx hb hr hlk (by decide) (by decide) hw (⟨rfl, trivial⟩) dX9_drive_114
    · skip
      have c12s : wh.toInt = 0 ∨ wh.toInt = 1 ∨ wh.toInt = 2 ∨ wh.toInt = 3 ∨ wh.toInt = 4 ∨ wh.toInt = 5 ∨ wh.toInt = 6 ∨ wh.toInt = 7 := by omega
      rcases c12s with c12 | c12 | c12 | c12 | c12 | c12 | c12 | c12
      · skip
        refine lv_tableIn (off := 47) (tgt := 72) hx hb dX9_drive_25 (by omega) (by omega) (by rw [show wh.toInt = 0 from c12]; rfl) (by decide) ?_
        refine lv_aload_n hx hb dX9_drive_72 rfl (lv_at hl 0 rfl) ?_
        refine z_get (C := RX0) (T := TX0) (N := 8) (ci := 0) (v := .int do4) hx hb hT zin_X0 hown hK hw hm_dq3 hf_dq3 rfl 0 (by decide) (hT _ kw_143) rfl dX9_drive_73 ?_
        exact z_iret hx hb hr hlk (by decide) (by decide) hw (⟨rfl, trivial⟩) dX9_drive_76
      · skip
        refine lv_tableIn (off := 52) (tgt := 77) hx hb dX9_drive_25 (by omega) (by omega) (by rw [show wh.toInt = 1 from c12]; rfl) (by decide) ?_
        refine lv_aload_n hx hb dX9_drive_77 rfl (lv_at hl 0 rfl) ?_
        refine z_get (C := RX0) (T := TX0) (N := 8) (ci := 0) (v := .int dg5) hx hb hT zin_X0 hown hK hw hm_dq3 hf_dq3 rfl 1 (by decide) (hT _ kw_149) rfl dX9_drive_78 ?_
        exact z_iret hx hb hr hlk (by decide) (by decide) hw (⟨rfl, trivial⟩) dX9_drive_81
      · skip
        refine lv_tableIn (off := 57) (tgt := 82) hx hb dX9_drive_25 (by omega) (by omega) (by rw [show wh.toInt = 2 from c12]; rfl) (by decide) ?_
        refine lv_aload_n hx hb dX9_drive_82 rfl (lv_at hl 0 rfl) ?_
        refine z_get (C := RX0) (T := TX0) (N := 8) (ci := 0) (v := .int dd6) hx hb hT zin_X0 hown hK hw hm_dq3 hf_dq3 rfl 2 (by decide) (hT _ kw_153) rfl dX9_drive_83 ?_
        exact z_iret hx hb hr hlk (by decide) (by decide) hw (⟨rfl, trivial⟩) dX9_drive_86
      · skip
        refine lv_tableIn (off := 62) (tgt := 87) hx hb dX9_drive_25 (by omega) (by omega) (by rw [show wh.toInt = 3 from c12]; rfl) (by decide) ?_
        refine lv_aload_n hx hb dX9_drive_87 rfl (lv_at hl 0 rfl) ?_
        refine z_get (C := RX0) (T := TX0) (N := 8) (ci := 0) (v := .int dh7) hx hb hT zin_X0 hown hK hw hm_dq3 hf_dq3 rfl 3 (by decide) (hT _ kw_159) rfl dX9_drive_88 ?_
        exact z_iret hx hb hr hlk (by decide) (by decide) hw (⟨rfl, trivial⟩) dX9_drive_91
      · skip
        refine lv_tableIn (off := 67) (tgt := 92) hx hb dX9_drive_25 (by omega) (by omega) (by rw [show wh.toInt = 4 from c12]; rfl) (by decide) ?_
        refine lv_aload_n hx hb dX9_drive_92 rfl (lv_at hl 0 rfl) ?_
        refine z_get (C := RX0) (T := TX0) (N := 8) (ci := 0) (v := .int ds8) hx hb hT zin_X0 hown hK hw hm_dq3 hf_dq3 rfl 4 (by decide) (hT _ kw_165) rfl dX9_drive_93 ?_
        exact z_iret hx hb hr hlk (by decide) (by decide) hw (⟨rfl, trivial⟩) dX9_drive_96
      · skip
        refine lv_tableIn (off := 72) (tgt := 97) hx hb dX9_drive_25 (by omega) (by omega) (by rw [show wh.toInt = 5 from c12]; rfl) (by decide) ?_
        refine lv_aload_n hx hb dX9_drive_97 rfl (lv_at hl 0 rfl) ?_
        refine z_get (C := RX0) (T := TX0) (N := 8) (ci := 0) (v := .int dl9) hx hb hT zin_X0 hown hK hw hm_dq3 hf_dq3 rfl 5 (by decide) (hT _ kw_171) rfl dX9_drive_98 ?_
        exact z_iret hx hb hr hlk (by decide) (by decide) hw (⟨rfl, trivial⟩) dX9_drive_101
      · skip
        refine lv_tableIn (off := 77) (tgt := 102) hx hb dX9_drive_25 (by omega) (by omega) (by rw [show wh.toInt = 6 from c12]; rfl) (by decide) ?_
        refine lv_aload_n hx hb dX9_drive_102 rfl (lv_at hl 0 rfl) ?_
        refine z_get (C := RX0) (T := TX0) (N := 8) (ci := 0) (v := .int dp10) hx hb hT zin_X0 hown hK hw hm_dq3 hf_dq3 rfl 6 (by decide) (hT _ kw_176) rfl dX9_drive_103 ?_
        exact z_iret hx hb hr hlk (by decide) (by decide) hw (⟨rfl, trivial⟩) dX9_drive_106
      · skip
        refine lv_tableIn (off := 82) (tgt := 107) hx hb dX9_drive_25 (by omega) (by omega) (by rw [show wh.toInt = 7 from c12]; rfl) (by decide) ?_
        refine lv_aload_n hx hb dX9_drive_107 rfl (lv_at hl 0 rfl) ?_
        refine z_get (C := RX0) (T := TX0) (N := 8) (ci := 0) (v := .int dm11) hx hb hT zin_X0 hown hK hw hm_dq3 hf_dq3 rfl 7 (by decide) (hT _ kw_182) rfl dX9_drive_108 ?_
        exact z_iret hx hb hr hlk (by decide) (by decide) hw (⟨rfl, trivial⟩) dX9_drive_111
  · skip
    refine z_if_ne (tgt := 14) hx hb (show (0 : Int32).toInt = 0 by decide) dX9_drive_8 (by decide) (fun h => absurd h (by decide)) (fun _ => ?_)
    refine lv_bipush (v := (-2)) hx hb dX9_drive_11 (by decide) ?_
    exact z_iret hx hb hr hlk (by decide) (by decide) hw (⟨rfl, trivial⟩) dX9_drive_13

set_option maxHeartbeats 2000000 in
set_option maxRecDepth 100000 in
theorem c_X9_goes (l : Launch) {D : va_G} {cy : Nat → ClassId} {L : List Nat} {f : Nat → va_E} {sz : Nat} {adK adV : Nat → Nat} {xo tp rd mo dmo im kp sl wk pl oo mx : Nat} {la sa mi da : Nat} {v0 v1 v2 v3 v4 v5 v6 : Int32} {gd : Nat → Option Nat} {dv : Nat → Nat} {nu : Int32} (hm_xo : xo ∈ L) (hm_mo : mo ∈ L) (hm_da : da ∈ L) (hf_xo : f xo = .inr (9, [.ref tp, .ref rd, .ref mo, .ref dmo, .ref im, .ref kp, .ref sl, .ref wk, .ref pl, .ref oo, .ref mx])) (hf_mo : f mo = .inr (2, [.int v0, .int v1, .int v2, .int v3, .int v4, .int v5, .int v6, .ref la, .ref sa, .ref mi, .ref da])) (hf_da : f da = .inl (cy 4, 13, .inr (.inr (.inr (.inr gd))))) (hg_da : ∀ i : Nat, i < 13 → gd i = some (dv i)) (hd_da : z_Drv L f dv 13) (hv2 : 0 ≤ v2.toInt ∧ v2.toInt ≤ 9) (hv5 : 0 ≤ v5.toInt ∧ v5.toInt ≤ 12) : Met l yX9_goes (z_ws yX9_goes cX9_goes 2 (some .int)) (z_R 2 0 0) (va_Pc [.ref xo, .int nu] (z_Pre D vwCl (z_KK D cy adK adV) L f sz)) (z_Qi D vwCl (fun r u => u = (L, f) ∧ (True)) L sz) 0 0 (z_A L sz) := by
  refine z_met (cc := cX9_goes) (maxL := 2) (ret := (some .int)) (lv := [(0, .ref xo), (1, .int nu)]) (by decide) rfl (Nat.le_of_ble_eq_true rfl) rfl ?_
  intro p e s m below meth c ls hx hb hr hlk hml hown hnm hts hKK hA hw hl
  have hK := hKK.1.1
  have hown : s.vm.findClass RX9 = some m.cls := hown
  have hT : ∀ w ∈ lw_all, w.before ([.ref xo, .int nu] : List Value).toArray s = true := fun w h => hts w (z_cons w h)
  refine lv_aload_n hx hb dX9_goes_0 rfl (lv_at hl 0 rfl) ?_
  refine z_get (C := RX9) (T := TX9) (N := 11) (ci := 9) (v := .ref mo) hx hb hT zin_X9 hown hK hw hm_xo hf_xo rfl 2 (by decide) (hT _ kw_479) rfl dX9_goes_1 ?_
  refine lv_iload_n hx hb dX9_goes_4 rfl (lv_at hl 1 rfl) ?_
  refine z_calliV (cells := 0) (slots := 0) (b := mo) (As := [.int nu]) (rest := []) (ci := 2) (q0 := (RX2, TX2, 11)) ⟨hx, hb, hml, hown, hT⟩ (c_X2_hasDrive l hm_mo hf_mo) (cwV 1 hT (z_goodV (fun _ h => h) kw_709 kw_710 kw_711 kw_87 kw_712) rfl rfl rfl (by decide +kernel) ⟨by decide, by decide⟩) z_mv hKK hK hw hA hm_mo hf_mo rfl rfl rfl hl.1 rfl (Nat.le_of_ble_eq_true rfl) dX9_goes_5 ⟨by decide, by decide⟩ (fun r1 u H locs hp hw => ?_)
  obtain ⟨rfl, hp⟩ := hp
  have hw : z_H D vwCl (z_A L sz) s.heap L f H locs := hw
  rcases hp with ⟨rfl, h2⟩ | ⟨rfl, h2⟩
  · skip
    refine z_if_eq (tgt := 22) hx hb (show (1 : Int32).toInt = 1 by decide) dX9_goes_8 (by decide) (fun h => absurd h (by decide)) (fun _ => ?_)
    refine lv_aload_n hx hb dX9_goes_11 rfl (lv_at hl 0 rfl) ?_
    refine z_get (C := RX9) (T := TX9) (N := 11) (ci := 9) (v := .ref mo) hx hb hT zin_X9 hown hK hw hm_xo hf_xo rfl 2 (by decide) (hT _ kw_479) rfl dX9_goes_12 ?_
    refine lv_iload_n hx hb dX9_goes_15 rfl (lv_at hl 1 rfl) ?_
    refine z_calliV (cells := 0) (slots := 0) (b := mo) (As := [.int nu]) (rest := []) (ci := 2) (q0 := (RX2, TX2, 11)) ⟨hx, hb, hml, hown, hT⟩ (c_X2_passage l hm_mo hm_da hf_mo hf_da hg_da hd_da (by first | omega | decide | assumption) (by first | omega | decide | assumption)) (cwV 1 hT (z_goodV (fun _ h => h) kw_717 kw_718 kw_719 kw_87 kw_720) rfl rfl rfl (by decide +kernel) ⟨by decide, by decide⟩) z_mv hKK hK hw hA hm_mo hf_mo rfl rfl rfl hl.1 rfl (Nat.le_of_ble_eq_true rfl) dX9_goes_16 ⟨by decide, by decide⟩ (fun r3 u H locs hp hw => ?_)
    obtain ⟨rfl, hp⟩ := hp
    have hw : z_H D vwCl (z_A L sz) s.heap L f H locs := hw
    refine lv_goto (tgt := 24) hx hb dX9_goes_19 (by decide) ?_
    exact z_iret hx hb hr hlk (by decide) (by decide) hw (⟨rfl, trivial⟩) dX9_goes_24
  · skip
    refine z_if_eq (tgt := 22) hx hb (show (0 : Int32).toInt = 0 by decide) dX9_goes_8 (by decide) (fun _ => ?_) (fun h => absurd h (by decide))
    refine lv_bipush (v := (-2)) hx hb dX9_goes_22 (by decide) ?_
    exact z_iret hx hb hr hlk (by decide) (by decide) hw (⟨rfl, trivial⟩) dX9_goes_24

set_option maxHeartbeats 2000000 in
set_option maxRecDepth 100000 in
theorem c_X9_law (l : Launch) {D : va_G} {cy : Nat → ClassId} {L : List Nat} {f : Nat → va_E} {sz : Nat} {adK adV : Nat → Nat} {xo tp rd mo dmo im kp sl wk pl oo mx : Nat} {la sa mi da : Nat} {v0 v1 v2 v3 v4 v5 v6 : Int32} {gl : Nat → Int32} {wh nn : Int32} (hm_xo : xo ∈ L) (hm_mo : mo ∈ L) (hm_la : la ∈ L) (hf_xo : f xo = .inr (9, [.ref tp, .ref rd, .ref mo, .ref dmo, .ref im, .ref kp, .ref sl, .ref wk, .ref pl, .ref oo, .ref mx])) (hf_mo : f mo = .inr (2, [.int v0, .int v1, .int v2, .int v3, .int v4, .int v5, .int v6, .ref la, .ref sa, .ref mi, .ref da])) (hf_la : f la = .inl (cy 1, 5, .inl gl)) (hgl : ∀ j : Nat, 0 ≤ (gl j).toInt ∧ (gl j).toInt ≤ 999) : Met l yX9_law (z_ws yX9_law cX9_law 4 (some .int)) (z_R 2 0 0) (va_Pc [.ref xo, .int wh, .int nn] (z_Pre D vwCl (z_KK D cy adK adV) L f sz)) (z_Qi D vwCl (fun r u => L = u.1 ∧ (∀ b ∈ L, b ≠ la → u.2 b = f b) ∧ (∃ (g2 : Nat → Int32), (u.2 la = .inl (cy 1, 5, .inl g2)) ∧ (∀ j : Nat, 0 ≤ (g2 j).toInt ∧ (g2 j).toInt ≤ 999))) L sz) 0 0 (z_A L sz) := by
  refine z_met (cc := cX9_law) (maxL := 4) (ret := (some .int)) (lv := [(0, .ref xo), (1, .int wh), (2, .int nn)]) (by decide) rfl (Nat.le_of_ble_eq_true rfl) rfl ?_
  intro p e s m below meth c ls hx hb hr hlk hml hown hnm hts hKK hA hw hl
  have hK := hKK.1.1
  have hown : s.vm.findClass RX9 = some m.cls := hown
  have hT : ∀ w ∈ lw_all, w.before ([.ref xo, .int wh, .int nn] : List Value).toArray s = true := fun w h => hts w (z_cons w h)
  have hsub : L = L := rfl
  have hfr : ∀ b ∈ L, b ≠ la → f b = f b := fun _ _ _ => rfl
  refine lv_aload_n hx hb dX9_law_0 rfl (lv_at hl 0 rfl) ?_
  refine z_get (C := RX9) (T := TX9) (N := 11) (ci := 9) (v := .ref mo) hx hb hT zin_X9 hown hK hw hm_xo hf_xo rfl 2 (by decide) (hT _ kw_479) rfl dX9_law_1 ?_
  refine z_calliV (cells := 0) (slots := 0) (b := mo) (As := []) (rest := []) (ci := 2) (q0 := (RX2, TX2, 11)) ⟨hx, hb, hml, hown, hT⟩ (c_X2_isTold l hm_mo hf_mo) (cwV 0 hT (z_goodV (fun _ h => h) kw_725 kw_726 kw_727 kw_87 kw_728) rfl rfl rfl (by decide +kernel) ⟨by decide, by decide⟩) z_mv hKK hK hw hA hm_mo hf_mo rfl rfl rfl hl.1 rfl (Nat.le_of_ble_eq_true rfl) dX9_law_4 ⟨by decide, by decide⟩ (fun r1 u H locs hp hw => ?_)
  obtain ⟨rfl, hp⟩ := hp
  have hw : z_H D vwCl (z_A L sz) s.heap L f H locs := hw
  rcases hp with ⟨rfl, h2⟩ | ⟨rfl, h2⟩
  · skip
    refine z_if_eq (tgt := 18) hx hb (show (1 : Int32).toInt = 1 by decide) dX9_law_7 (by decide) (fun h => absurd h (by decide)) (fun _ => ?_)
    refine lv_iload_n hx hb dX9_law_10 rfl (lv_at hl 1 rfl) ?_
    refine lv_iload_n hx hb dX9_law_11 rfl (lv_at hl 2 rfl) ?_
    refine z_calliS (cells := 0) (slots := 0) (As := [.int wh, .int nn]) (rest := []) ⟨hx, hb, hml, hown, hT⟩ (c_X9_isLaw l ) (va_cwS 2 hT (z_goodS (fun _ h => h) kw_729 kw_730 kw_85 kw_731) rfl rfl rfl (by decide +kernel) ⟨by decide, by decide⟩) z_mv hKK hw hA rfl hl.1 rfl (Nat.le_of_ble_eq_true rfl) dX9_law_12 ⟨by decide, by decide⟩ (fun r3 u H locs hp hw => ?_)
    obtain ⟨rfl, hp⟩ := hp
    have hw : z_H D vwCl (z_A L sz) s.heap L f H locs := hw
    rcases hp with ⟨rfl, h4⟩ | ⟨rfl, h4⟩
    · skip
      refine z_if_ne (tgt := 21) hx hb (show (1 : Int32).toInt = 1 by decide) dX9_law_15 (by decide) (fun _ => ?_) (fun h => absurd h (by decide))
      refine lv_aload_n hx hb dX9_law_21 rfl (lv_at hl 0 rfl) ?_
      refine z_get (C := RX9) (T := TX9) (N := 11) (ci := 9) (v := .ref mo) hx hb hT zin_X9 hown hK hw hm_xo hf_xo rfl 2 (by decide) (hT _ kw_479) rfl dX9_law_22 ?_
      refine z_get (C := RX2) (T := TX2) (N := 11) (ci := 2) (v := .ref la) hx hb hT zin_X2 hown hK hw hm_mo hf_mo rfl 7 (by decide) (hT _ kw_234) rfl dX9_law_25 ?_
      refine lv_iload_n hx hb dX9_law_28 rfl (lv_at hl 1 rfl) ?_
      refine z_iald hx hb hK hw 1 hm_la hf_la rfl (z_ix rfl (by omega)) dX9_law_29 ?_
      refine lv_topi (fun w5 e_w5 => ?_)
      refine lv_istore_n (lv' := [(3, .int w5), (0, .ref xo), (1, .int wh), (2, .int nn)]) hx hb dX9_law_30 rfl hl (by decide) rfl (fun ls hl => ?_)
      refine lv_aload_n hx hb dX9_law_31 rfl (lv_at hl 1 rfl) ?_
      refine z_get (C := RX9) (T := TX9) (N := 11) (ci := 9) (v := .ref mo) hx hb hT zin_X9 hown hK hw hm_xo hf_xo rfl 2 (by decide) (hT _ kw_479) rfl dX9_law_32 ?_
      refine z_get (C := RX2) (T := TX2) (N := 11) (ci := 2) (v := .ref la) hx hb hT zin_X2 hown hK hw hm_mo hf_mo rfl 7 (by decide) (hT _ kw_234) rfl dX9_law_35 ?_
      refine lv_iload_n hx hb dX9_law_38 rfl (lv_at hl 2 rfl) ?_
      refine lv_iload_n hx hb dX9_law_39 rfl (lv_at hl 3 rfl) ?_
      refine z_iast hx hb hK hw 1 hm_la hf_la rfl (z_ix rfl (by omega)) dX9_law_40 (fun H locs hw => ?_)
      obtain ⟨f7, e_f7⟩ : ∃ z, z = va_up f la (.inl (cy 1, 5, .inl (upd gl wh.toNatClampNeg nn))) := ⟨_, rfl⟩
      rw [← e_f7] at hw
      have hf_xo : f7 xo = .inr (9, [.ref tp, .ref rd, .ref mo, .ref dmo, .ref im, .ref kp, .ref sl, .ref wk, .ref pl, .ref oo, .ref mx]) := (congrFun e_f7 xo).trans (z_up_ne (z_tne hf_xo hf_la (m := 9) (n := 140) rfl rfl (by decide)) hf_xo)
      have hf_mo : f7 mo = .inr (2, [.int v0, .int v1, .int v2, .int v3, .int v4, .int v5, .int v6, .ref la, .ref sa, .ref mi, .ref da]) := (congrFun e_f7 mo).trans (z_up_ne (z_tne hf_mo hf_la (m := 2) (n := 140) rfl rfl (by decide)) hf_mo)
      have hf_la : f7 la = .inl (cy 1, 5, .inl (upd gl wh.toNatClampNeg nn)) := (congrFun e_f7 la).trans z_up_self
      have hfr : ∀ b ∈ L, b ≠ la → f7 b = f b := fun b hb h0 => (congrFun e_f7 b).trans (z_up_ne h0 (hfr b hb h0))
      obtain ⟨g6, e_g6⟩ : ∃ z, z = (upd gl wh.toNatClampNeg nn) := ⟨_, rfl⟩
      rw [← e_g6] at hf_la
      refine lv_iload_n hx hb dX9_law_41 rfl (lv_at hl 0 rfl) ?_
      exact z_iret hx hb hr hlk (by decide) (by decide) hw (⟨hsub, hfr, g6, hf_la, z_updP (P := fun x : Int32 => 0 ≤ x.toInt ∧ x.toInt ≤ 999) hgl e_g6 (show _ ∧ _ by omega)⟩) dX9_law_42
    · skip
      refine z_if_ne (tgt := 21) hx hb (show (0 : Int32).toInt = 0 by decide) dX9_law_15 (by decide) (fun h => absurd h (by decide)) (fun _ => ?_)
      refine lv_bipush (v := (-2)) hx hb dX9_law_18 (by decide) ?_
      exact z_iret hx hb hr hlk (by decide) (by decide) hw (⟨hsub, hfr, gl, hf_la, hgl⟩) dX9_law_20
  · skip
    refine z_if_eq (tgt := 18) hx hb (show (0 : Int32).toInt = 0 by decide) dX9_law_7 (by decide) (fun _ => ?_) (fun h => absurd h (by decide))
    refine lv_bipush (v := (-2)) hx hb dX9_law_18 (by decide) ?_
    exact z_iret hx hb hr hlk (by decide) (by decide) hw (⟨hsub, hfr, gl, hf_la, hgl⟩) dX9_law_20

set_option maxHeartbeats 2000000 in
set_option maxRecDepth 100000 in
theorem c_X9_sets (l : Launch) {D : va_G} {cy : Nat → ClassId} {L : List Nat} {f : Nat → va_E} {sz : Nat} {adK adV : Nat → Nat} {xo tp rd mo dmo im kp sl wk pl oo mx : Nat} {la sa mi da : Nat} {v0 v1 v2 v3 v4 v5 v6 : Int32} {gd : Nat → Option Nat} {dv : Nat → Nat} {nu ga ho : Int32} (hm_xo : xo ∈ L) (hm_mo : mo ∈ L) (hm_da : da ∈ L) (hf_xo : f xo = .inr (9, [.ref tp, .ref rd, .ref mo, .ref dmo, .ref im, .ref kp, .ref sl, .ref wk, .ref pl, .ref oo, .ref mx])) (hf_mo : f mo = .inr (2, [.int v0, .int v1, .int v2, .int v3, .int v4, .int v5, .int v6, .ref la, .ref sa, .ref mi, .ref da])) (hf_da : f da = .inl (cy 4, 13, .inr (.inr (.inr (.inr gd))))) (hg_da : ∀ i : Nat, i < 13 → gd i = some (dv i)) (hd_da : z_Drv L f dv 13) (hv5 : 0 ≤ v5.toInt ∧ v5.toInt ≤ 12) (hv1 : 0 ≤ v1.toInt ∧ v1.toInt ≤ 4) : Met l yX9_sets (z_ws yX9_sets cX9_sets 6 (some .int)) (z_R 2 0 0) (va_Pc [.ref xo, .int nu, .int ga, .int ho] (z_Pre D vwCl (z_KK D cy adK adV) L f sz)) (z_Qi D vwCl (fun r u => L = u.1 ∧ (∀ b ∈ L, (∀ i : Nat, i < 13 → b ≠ dv i) → u.2 b = f b) ∧ ((z_Drv u.1 u.2 dv 13) ∧ (True))) L sz) 0 0 (z_A L sz) := by
  refine z_met (cc := cX9_sets) (maxL := 6) (ret := (some .int)) (lv := [(0, .ref xo), (1, .int nu), (2, .int ga), (3, .int ho)]) (by decide) rfl (Nat.le_of_ble_eq_true rfl) rfl ?_
  intro p e s m below meth c ls hx hb hr hlk hml hown hnm hts hKK hA hw hl
  have hK := hKK.1.1
  have hown : s.vm.findClass RX9 = some m.cls := hown
  have hT : ∀ w ∈ lw_all, w.before ([.ref xo, .int nu, .int ga, .int ho] : List Value).toArray s = true := fun w h => hts w (z_cons w h)
  have hsub : L = L := rfl
  have hfr : ∀ b ∈ L, (∀ i : Nat, i < 13 → b ≠ dv i) → f b = f b := fun _ _ _ => rfl
  refine lv_aload_n hx hb dX9_sets_0 rfl (lv_at hl 0 rfl) ?_
  refine z_get (C := RX9) (T := TX9) (N := 11) (ci := 9) (v := .ref mo) hx hb hT zin_X9 hown hK hw hm_xo hf_xo rfl 2 (by decide) (hT _ kw_479) rfl dX9_sets_1 ?_
  refine lv_iload_n hx hb dX9_sets_4 rfl (lv_at hl 1 rfl) ?_
  refine z_calliV (cells := 0) (slots := 0) (b := mo) (As := [.int nu]) (rest := []) (ci := 2) (q0 := (RX2, TX2, 11)) ⟨hx, hb, hml, hown, hT⟩ (c_X2_hasDrive l hm_mo hf_mo) (cwV 1 hT (z_goodV (fun _ h => h) kw_709 kw_710 kw_711 kw_87 kw_712) rfl rfl rfl (by decide +kernel) ⟨by decide, by decide⟩) z_mv hKK hK hw hA hm_mo hf_mo rfl rfl rfl hl.1 rfl (Nat.le_of_ble_eq_true rfl) dX9_sets_5 ⟨by decide, by decide⟩ (fun r1 u H locs hp hw => ?_)
  obtain ⟨rfl, hp⟩ := hp
  have hw : z_H D vwCl (z_A L sz) s.heap L f H locs := hw
  rcases hp with ⟨rfl, h2⟩ | ⟨rfl, h2⟩
  · skip
    refine z_if_eq (tgt := 29) hx hb (show (1 : Int32).toInt = 1 by decide) dX9_sets_8 (by decide) (fun h => absurd h (by decide)) (fun _ => ?_)
    refine lv_aload_n hx hb dX9_sets_11 rfl (lv_at hl 0 rfl) ?_
    refine z_get (C := RX9) (T := TX9) (N := 11) (ci := 9) (v := .ref mo) hx hb hT zin_X9 hown hK hw hm_xo hf_xo rfl 2 (by decide) (hT _ kw_479) rfl dX9_sets_12 ?_
    refine lv_iload_n hx hb dX9_sets_15 rfl (lv_at hl 2 rfl) ?_
    refine z_calliV (cells := 0) (slots := 0) (b := mo) (As := [.int ga]) (rest := []) (ci := 2) (q0 := (RX2, TX2, 11)) ⟨hx, hb, hml, hown, hT⟩ (c_X2_hasGap l hm_mo hf_mo) (cwV 1 hT (z_goodV (fun _ h => h) kw_736 kw_737 kw_738 kw_87 kw_739) rfl rfl rfl (by decide +kernel) ⟨by decide, by decide⟩) z_mv hKK hK hw hA hm_mo hf_mo rfl rfl rfl hl.1 rfl (Nat.le_of_ble_eq_true rfl) dX9_sets_16 ⟨by decide, by decide⟩ (fun r3 u H locs hp hw => ?_)
    obtain ⟨rfl, hp⟩ := hp
    have hw : z_H D vwCl (z_A L sz) s.heap L f H locs := hw
    rcases hp with ⟨rfl, h4⟩ | ⟨rfl, h4⟩
    · skip
      refine z_if_eq (tgt := 29) hx hb (show (1 : Int32).toInt = 1 by decide) dX9_sets_19 (by decide) (fun h => absurd h (by decide)) (fun _ => ?_)
      refine lv_iload_n hx hb dX9_sets_22 rfl (lv_at hl 3 rfl) ?_
      refine z_calliS (cells := 0) (slots := 0) (As := [.int ho]) (rest := []) ⟨hx, hb, hml, hown, hT⟩ (c_X9_isHour l ) (va_cwS 1 hT (z_goodS (fun _ h => h) kw_740 kw_741 kw_85 kw_742) rfl rfl rfl (by decide +kernel) ⟨by decide, by decide⟩) z_mv hKK hw hA rfl hl.1 rfl (Nat.le_of_ble_eq_true rfl) dX9_sets_23 ⟨by decide, by decide⟩ (fun r5 u H locs hp hw => ?_)
      obtain ⟨rfl, hp⟩ := hp
      have hw : z_H D vwCl (z_A L sz) s.heap L f H locs := hw
      rcases hp with ⟨rfl, h6⟩ | ⟨rfl, h6⟩
      · skip
        refine z_if_ne (tgt := 32) hx hb (show (1 : Int32).toInt = 1 by decide) dX9_sets_26 (by decide) (fun _ => ?_) (fun h => absurd h (by decide))
        refine lv_aload_n hx hb dX9_sets_32 rfl (lv_at hl 0 rfl) ?_
        refine z_get (C := RX9) (T := TX9) (N := 11) (ci := 9) (v := .ref mo) hx hb hT zin_X9 hown hK hw hm_xo hf_xo rfl 2 (by decide) (hT _ kw_479) rfl dX9_sets_33 ?_
        refine z_get (C := RX2) (T := TX2) (N := 11) (ci := 2) (v := .ref da) hx hb hT zin_X2 hown hK hw hm_mo hf_mo rfl 10 (by decide) (hT _ kw_245) rfl dX9_sets_36 ?_
        refine lv_iload_n hx hb dX9_sets_39 rfl (lv_at hl 1 rfl) ?_
        obtain ⟨dq7, e_dq7⟩ : ∃ z, z = dv nu.toNatClampNeg := ⟨_, rfl⟩
        have hi_dq7 : nu.toNatClampNeg < 13 := z_clI rfl (by omega)
        refine z_aald (b := dq7) hx hb hK hw 4 hm_da hf_da rfl (z_ix rfl (by omega)) (by rw [e_dq7]; exact hg_da _ hi_dq7) dX9_sets_40 ?_
        obtain ⟨hm_dq7, do8, dg9, dd10, dh11, ds12, dl13, dp14, dm15, hf_dq7, hr_do8, hr_dg9, hr_dd10, hr_dh11, hr_ds12, hr_dl13, hr_dp14, hr_dm15⟩ := hd_da _ hi_dq7
        rw [← e_dq7] at hm_dq7 hf_dq7
        refine lv_astore (lv' := [(4, .ref dq7), (0, .ref xo), (1, .int nu), (2, .int ga), (3, .int ho)]) hx hb dX9_sets_41 hl (by decide) rfl (fun ls hl => ?_)
        refine lv_aload hx hb dX9_sets_43 (lv_at hl 0 rfl) ?_
        refine z_calliV (cells := 0) (slots := 0) (b := dq7) (As := []) (rest := []) (ci := 0) (q0 := (RX0, TX0, 8)) ⟨hx, hb, hml, hown, hT⟩ (c_X0_whither l hm_dq7 hf_dq7 (by first | omega | decide | assumption) (by first | omega | decide | assumption)) (cwV 0 hT (z_goodV (fun _ h => h) kw_743 kw_744 kw_745 kw_88 kw_746) rfl rfl rfl (by decide +kernel) ⟨by decide, by decide⟩) z_mv hKK hK hw hA hm_dq7 hf_dq7 rfl rfl rfl hl.1 rfl (Nat.le_of_ble_eq_true rfl) dX9_sets_45 ⟨by decide, by decide⟩ (fun r16 u H locs hp hw => ?_)
        obtain ⟨rfl, hp⟩ := hp
        have hw : z_H D vwCl (z_A L sz) s.heap L f H locs := hw
        refine lv_istore (lv' := [(5, .int r16), (4, .ref dq7), (0, .ref xo), (1, .int nu), (2, .int ga), (3, .int ho)]) hx hb dX9_sets_48 hl (by decide) rfl (fun ls hl => ?_)
        refine lv_aload hx hb dX9_sets_50 (lv_at hl 1 rfl) ?_
        refine lv_iload_n hx hb dX9_sets_52 rfl (lv_at hl 4 rfl) ?_
        refine z_put (C := RX0) (T := TX0) (N := 8) (ci := 0) (v := .int ga) (fs' := [.int do8, .int ga, .int dd10, .int dh11, .int ds12, .int dl13, .int dp14, .int dm15]) hx hb hT zin_X0 tyX0_ok nmX0 hown hK hw hm_dq7 hf_dq7 rfl 1 (by decide) (hT _ kw_149) rfl rfl rfl (Nat.le_of_ble_eq_true rfl) rfl dX9_sets_53 (fun H locs hw => ?_)
        obtain ⟨f17, e_f17⟩ : ∃ z, z = va_up f dq7 (.inr (0, [.int do8, .int ga, .int dd10, .int dh11, .int ds12, .int dl13, .int dp14, .int dm15])) := ⟨_, rfl⟩
        rw [← e_f17] at hw
        have hf_xo : f17 xo = .inr (9, [.ref tp, .ref rd, .ref mo, .ref dmo, .ref im, .ref kp, .ref sl, .ref wk, .ref pl, .ref oo, .ref mx]) := (congrFun e_f17 xo).trans (z_up_ne (z_tne hf_xo hf_dq7 (m := 9) (n := 0) rfl rfl (by decide)) hf_xo)
        have hf_mo : f17 mo = .inr (2, [.int v0, .int v1, .int v2, .int v3, .int v4, .int v5, .int v6, .ref la, .ref sa, .ref mi, .ref da]) := (congrFun e_f17 mo).trans (z_up_ne (z_tne hf_mo hf_dq7 (m := 2) (n := 0) rfl rfl (by decide)) hf_mo)
        have hf_da : f17 da = .inl (cy 4, 13, .inr (.inr (.inr (.inr gd)))) := (congrFun e_f17 da).trans (z_up_ne (z_tne hf_da hf_dq7 (m := 206) (n := 0) rfl rfl (by decide)) hf_da)
        have hd_da : z_Drv L f17 dv 13 := z_Drv_set hd_da e_f17 ⟨_, _, _, _, _, _, _, _, rfl, by first | omega | decide, by first | omega | decide, by first | omega | decide, by first | omega | decide, by first | omega | decide, by first | omega | decide, by first | omega | decide, by first | omega | decide⟩
        have hf_dq7 : f17 dq7 = .inr (0, [.int do8, .int ga, .int dd10, .int dh11, .int ds12, .int dl13, .int dp14, .int dm15]) := (congrFun e_f17 dq7).trans z_up_self
        have hfr : ∀ b ∈ L, (∀ i : Nat, i < 13 → b ≠ dv i) → f17 b = f b := fun b hb hp0 => (congrFun e_f17 b).trans (z_up_ne (by rw [e_dq7]; exact hp0 _ hi_dq7) (hfr b hb hp0))
        refine lv_aload hx hb dX9_sets_56 (lv_at hl 1 rfl) ?_
        refine lv_iload_n hx hb dX9_sets_58 rfl (lv_at hl 5 rfl) ?_
        refine z_put (C := RX0) (T := TX0) (N := 8) (ci := 0) (v := .int ho) (fs' := [.int do8, .int ga, .int dd10, .int ho, .int ds12, .int dl13, .int dp14, .int dm15]) hx hb hT zin_X0 tyX0_ok nmX0 hown hK hw hm_dq7 hf_dq7 rfl 3 (by decide) (hT _ kw_159) rfl rfl rfl (Nat.le_of_ble_eq_true rfl) rfl dX9_sets_59 (fun H locs hw => ?_)
        obtain ⟨f18, e_f18⟩ : ∃ z, z = va_up f17 dq7 (.inr (0, [.int do8, .int ga, .int dd10, .int ho, .int ds12, .int dl13, .int dp14, .int dm15])) := ⟨_, rfl⟩
        rw [← e_f18] at hw
        have hf_xo : f18 xo = .inr (9, [.ref tp, .ref rd, .ref mo, .ref dmo, .ref im, .ref kp, .ref sl, .ref wk, .ref pl, .ref oo, .ref mx]) := (congrFun e_f18 xo).trans (z_up_ne (z_tne hf_xo hf_dq7 (m := 9) (n := 0) rfl rfl (by decide)) hf_xo)
        have hf_mo : f18 mo = .inr (2, [.int v0, .int v1, .int v2, .int v3, .int v4, .int v5, .int v6, .ref la, .ref sa, .ref mi, .ref da]) := (congrFun e_f18 mo).trans (z_up_ne (z_tne hf_mo hf_dq7 (m := 2) (n := 0) rfl rfl (by decide)) hf_mo)
        have hf_da : f18 da = .inl (cy 4, 13, .inr (.inr (.inr (.inr gd)))) := (congrFun e_f18 da).trans (z_up_ne (z_tne hf_da hf_dq7 (m := 206) (n := 0) rfl rfl (by decide)) hf_da)
        have hd_da : z_Drv L f18 dv 13 := z_Drv_set hd_da e_f18 ⟨_, _, _, _, _, _, _, _, rfl, by first | omega | decide, by first | omega | decide, by first | omega | decide, by first | omega | decide, by first | omega | decide, by first | omega | decide, by first | omega | decide, by first | omega | decide⟩
        have hf_dq7 : f18 dq7 = .inr (0, [.int do8, .int ga, .int dd10, .int ho, .int ds12, .int dl13, .int dp14, .int dm15]) := (congrFun e_f18 dq7).trans z_up_self
        have hfr : ∀ b ∈ L, (∀ i : Nat, i < 13 → b ≠ dv i) → f18 b = f b := fun b hb hp0 => (congrFun e_f18 b).trans (z_up_ne (by rw [e_dq7]; exact hp0 _ hi_dq7) (hfr b hb hp0))
        refine lv_iload hx hb dX9_sets_62 (lv_at hl 0 rfl) ?_
        exact z_iret hx hb hr hlk (by decide) (by decide) hw (⟨hsub, hfr, hd_da, trivial⟩) dX9_sets_64
      · skip
        refine z_if_ne (tgt := 32) hx hb (show (0 : Int32).toInt = 0 by decide) dX9_sets_26 (by decide) (fun h => absurd h (by decide)) (fun _ => ?_)
        refine lv_bipush (v := (-2)) hx hb dX9_sets_29 (by decide) ?_
        exact z_iret hx hb hr hlk (by decide) (by decide) hw (⟨hsub, hfr, hd_da, trivial⟩) dX9_sets_31
    · skip
      refine z_if_eq (tgt := 29) hx hb (show (0 : Int32).toInt = 0 by decide) dX9_sets_19 (by decide) (fun _ => ?_) (fun h => absurd h (by decide))
      refine lv_bipush (v := (-2)) hx hb dX9_sets_29 (by decide) ?_
      exact z_iret hx hb hr hlk (by decide) (by decide) hw (⟨hsub, hfr, hd_da, trivial⟩) dX9_sets_31
  · skip
    refine z_if_eq (tgt := 29) hx hb (show (0 : Int32).toInt = 0 by decide) dX9_sets_8 (by decide) (fun _ => ?_) (fun h => absurd h (by decide))
    refine lv_bipush (v := (-2)) hx hb dX9_sets_29 (by decide) ?_
    exact z_iret hx hb hr hlk (by decide) (by decide) hw (⟨hsub, hfr, hd_da, trivial⟩) dX9_sets_31

set_option maxHeartbeats 2000000 in
set_option maxRecDepth 100000 in
theorem c_X9_counter (l : Launch) {D : va_G} {cy : Nat → ClassId} {L : List Nat} {f : Nat → va_E} {sz : Nat} {adK adV : Nat → Nat} {xo tp rd mo dmo im kp sl wk pl oo mx : Nat} {ks ct se ow : Nat} {wn wt wd wp : Int32} {gk gc gq go : Nat → Int32} {la sa mi da : Nat} {v0 v1 v2 v3 v4 v5 v6 : Int32} {gl gs gm : Nat → Int32} {gd : Nat → Option Nat} {dv : Nat → Nat} {ga dy ho : Int32} (hm_xo : xo ∈ L) (hm_wk : wk ∈ L) (hm_ks : ks ∈ L) (hm_ct : ct ∈ L) (hm_se : se ∈ L) (hm_ow : ow ∈ L) (hm_mo : mo ∈ L) (hm_la : la ∈ L) (hm_sa : sa ∈ L) (hm_mi : mi ∈ L) (hm_da : da ∈ L) (hf_xo : f xo = .inr (9, [.ref tp, .ref rd, .ref mo, .ref dmo, .ref im, .ref kp, .ref sl, .ref wk, .ref pl, .ref oo, .ref mx])) (hf_wk : f wk = .inr (8, [.ref ks, .int wn, .ref ct, .ref se, .ref ow, .int wt, .int wd, .int wp])) (hf_ks : f ks = .inl (cy 1, 13, .inl gk)) (hf_ct : f ct = .inl (cy 1, 4, .inl gc)) (hf_se : f se = .inl (cy 1, 4, .inl gq)) (hf_ow : f ow = .inl (cy 1, 5, .inl go)) (hf_mo : f mo = .inr (2, [.int v0, .int v1, .int v2, .int v3, .int v4, .int v5, .int v6, .ref la, .ref sa, .ref mi, .ref da])) (hf_la : f la = .inl (cy 1, 5, .inl gl)) (hf_sa : f sa = .inl (cy 1, 4, .inl gs)) (hf_mi : f mi = .inl (cy 1, 36, .inl gm)) (hf_da : f da = .inl (cy 4, 13, .inr (.inr (.inr (.inr gd))))) (ne_ct_se : ct ≠ se) (ne_ct_sa : ct ≠ sa) (ne_se_sa : se ≠ sa) (ne_ow_la : ow ≠ la) (hg_da : ∀ i : Nat, i < 13 → gd i = some (dv i)) (hd_da : z_Drv L f dv 13) (hv2 : 0 ≤ v2.toInt ∧ v2.toInt ≤ 9) (hv5 : 0 ≤ v5.toInt ∧ v5.toInt ≤ 12) (hv1 : 0 ≤ v1.toInt ∧ v1.toInt ≤ 4) (hv3 : 0 ≤ v3.toInt ∧ v3.toInt ≤ 5) (hgk : ∀ j : Nat, z_key (gk j)) (hgm : ∀ j : Nat, 0 ≤ (gm j).toInt ∧ (gm j).toInt ≤ 9) (hwn : 0 ≤ wn.toInt ∧ wn.toInt ≤ 13) : Met l yX9_counter (z_ws yX9_counter cX9_counter 4 (some .int)) (z_R 5 0 0) (va_Pc [.ref xo, .int ga, .int dy, .int ho] (z_Pre D vwCl (z_KK D cy adK adV) L f sz)) (z_Qi D vwCl (fun r u => L = u.1 ∧ (∀ b ∈ L, b ≠ wk → b ≠ ks → b ≠ ct → b ≠ se → b ≠ ow → u.2 b = f b) ∧ (∃ (w2 t2 d2 p2 : Int32) (k2 c2 q2 o2 : Nat → Int32), (u.2 wk = .inr (8, [.ref ks, .int w2, .ref ct, .ref se, .ref ow, .int t2, .int d2, .int p2])) ∧ (u.2 ks = .inl (cy 1, 13, .inl k2)) ∧ (u.2 ct = .inl (cy 1, 4, .inl c2)) ∧ (u.2 se = .inl (cy 1, 4, .inl q2)) ∧ (u.2 ow = .inl (cy 1, 5, .inl o2)) ∧ ((0 ≤ w2.toInt ∧ w2.toInt ≤ 13) ∧ ∀ j : Nat, z_key (k2 j)))) L sz) 0 0 (z_A L sz) := by
  refine z_met (cc := cX9_counter) (maxL := 4) (ret := (some .int)) (lv := [(0, .ref xo), (1, .int ga), (2, .int dy), (3, .int ho)]) (by decide) rfl (Nat.le_of_ble_eq_true rfl) rfl ?_
  intro p e s m below meth c ls hx hb hr hlk hml hown hnm hts hKK hA hw hl
  have hK := hKK.1.1
  have hown : s.vm.findClass RX9 = some m.cls := hown
  have hT : ∀ w ∈ lw_all, w.before ([.ref xo, .int ga, .int dy, .int ho] : List Value).toArray s = true := fun w h => hts w (z_cons w h)
  have hsub : L = L := rfl
  have hfr : ∀ b ∈ L, b ≠ wk → b ≠ ks → b ≠ ct → b ≠ se → b ≠ ow → f b = f b := fun _ _ _ _ _ _ _ => rfl
  refine lv_aload_n hx hb dX9_counter_0 rfl (lv_at hl 0 rfl) ?_
  refine z_get (C := RX9) (T := TX9) (N := 11) (ci := 9) (v := .ref mo) hx hb hT zin_X9 hown hK hw hm_xo hf_xo rfl 2 (by decide) (hT _ kw_479) rfl dX9_counter_1 ?_
  refine lv_iload_n hx hb dX9_counter_4 rfl (lv_at hl 1 rfl) ?_
  refine z_calliV (cells := 0) (slots := 0) (b := mo) (As := [.int ga]) (rest := []) (ci := 2) (q0 := (RX2, TX2, 11)) ⟨hx, hb, hml, hown, hT⟩ (c_X2_hasGap l hm_mo hf_mo) (cwV 1 hT (z_goodV (fun _ h => h) kw_736 kw_737 kw_738 kw_87 kw_739) rfl rfl rfl (by decide +kernel) ⟨by decide, by decide⟩) z_mv hKK hK hw hA hm_mo hf_mo rfl rfl rfl hl.1 rfl (Nat.le_of_ble_eq_true rfl) dX9_counter_5 ⟨by decide, by decide⟩ (fun r1 u H locs hp hw => ?_)
  obtain ⟨rfl, hp⟩ := hp
  have hw : z_H D vwCl (z_A L sz) s.heap L f H locs := hw
  rcases hp with ⟨rfl, h2⟩ | ⟨rfl, h2⟩
  · skip
    refine z_if_eq (tgt := 29) hx hb (show (1 : Int32).toInt = 1 by decide) dX9_counter_8 (by decide) (fun h => absurd h (by decide)) (fun _ => ?_)
    refine lv_aload_n hx hb dX9_counter_11 rfl (lv_at hl 0 rfl) ?_
    refine z_get (C := RX9) (T := TX9) (N := 11) (ci := 9) (v := .ref mo) hx hb hT zin_X9 hown hK hw hm_xo hf_xo rfl 2 (by decide) (hT _ kw_479) rfl dX9_counter_12 ?_
    refine lv_iload_n hx hb dX9_counter_15 rfl (lv_at hl 2 rfl) ?_
    refine z_calliV (cells := 0) (slots := 0) (b := mo) (As := [.int dy]) (rest := []) (ci := 2) (q0 := (RX2, TX2, 11)) ⟨hx, hb, hml, hown, hT⟩ (c_X2_hasDay l hm_mo hf_mo) (cwV 1 hT (z_goodV (fun _ h => h) kw_751 kw_752 kw_753 kw_87 kw_754) rfl rfl rfl (by decide +kernel) ⟨by decide, by decide⟩) z_mv hKK hK hw hA hm_mo hf_mo rfl rfl rfl hl.1 rfl (Nat.le_of_ble_eq_true rfl) dX9_counter_16 ⟨by decide, by decide⟩ (fun r3 u H locs hp hw => ?_)
    obtain ⟨rfl, hp⟩ := hp
    have hw : z_H D vwCl (z_A L sz) s.heap L f H locs := hw
    rcases hp with ⟨rfl, h4⟩ | ⟨rfl, h4⟩
    · skip
      refine z_if_eq (tgt := 29) hx hb (show (1 : Int32).toInt = 1 by decide) dX9_counter_19 (by decide) (fun h => absurd h (by decide)) (fun _ => ?_)
      refine lv_iload_n hx hb dX9_counter_22 rfl (lv_at hl 3 rfl) ?_
      refine z_calliS (cells := 0) (slots := 0) (As := [.int ho]) (rest := []) ⟨hx, hb, hml, hown, hT⟩ (c_X9_isHour l ) (va_cwS 1 hT (z_goodS (fun _ h => h) kw_740 kw_741 kw_85 kw_742) rfl rfl rfl (by decide +kernel) ⟨by decide, by decide⟩) z_mv hKK hw hA rfl hl.1 rfl (Nat.le_of_ble_eq_true rfl) dX9_counter_23 ⟨by decide, by decide⟩ (fun r5 u H locs hp hw => ?_)
      obtain ⟨rfl, hp⟩ := hp
      have hw : z_H D vwCl (z_A L sz) s.heap L f H locs := hw
      rcases hp with ⟨rfl, h6⟩ | ⟨rfl, h6⟩
      · skip
        refine z_if_ne (tgt := 32) hx hb (show (1 : Int32).toInt = 1 by decide) dX9_counter_26 (by decide) (fun _ => ?_) (fun h => absurd h (by decide))
        refine lv_aload_n hx hb dX9_counter_32 rfl (lv_at hl 0 rfl) ?_
        refine z_get (C := RX9) (T := TX9) (N := 11) (ci := 9) (v := .ref wk) hx hb hT zin_X9 hown hK hw hm_xo hf_xo rfl 7 (by decide) (hT _ kw_484) rfl dX9_counter_33 ?_
        refine lv_aload_n hx hb dX9_counter_36 rfl (lv_at hl 0 rfl) ?_
        refine z_get (C := RX9) (T := TX9) (N := 11) (ci := 9) (v := .ref mo) hx hb hT zin_X9 hown hK hw hm_xo hf_xo rfl 2 (by decide) (hT _ kw_479) rfl dX9_counter_37 ?_
        refine lv_bipush (v := 24) hx hb dX9_counter_40 (by decide) ?_
        refine lv_iload_n hx hb dX9_counter_42 rfl (lv_at hl 2 rfl) ?_
        refine lv_imul hx hb dX9_counter_43 ?_
        refine lv_topi (fun w7 e_w7 => ?_)
        have i_w7 : w7.toInt = (24 * dy.toInt) := z_mul e_w7 (show (24 : Int32).toInt = 24 by decide) rfl (by omega)
        refine lv_iload_n hx hb dX9_counter_44 rfl (lv_at hl 3 rfl) ?_
        refine lv_iadd hx hb dX9_counter_45 ?_
        refine lv_topi (fun w8 e_w8 => ?_)
        have i_w8 : w8.toInt = ((24 * dy.toInt) + ho.toInt) := z_add e_w8 i_w7 rfl (by omega)
        refine z_callvV (cells := 0) (slots := 0) (b := wk) (As := [.ref mo, .int w8]) (rest := []) (ci := 8) (q0 := (RX8, TX8, 8)) ⟨hx, hb, hml, hown, hT⟩ (c_X8_goUntil l hm_wk hm_ks hm_ct hm_se hm_ow hm_mo hm_la hm_sa hm_mi hm_da hf_wk hf_ks hf_ct hf_se hf_ow hf_mo hf_la hf_sa hf_mi hf_da ne_ct_se ne_ct_sa ne_se_sa ne_ow_la hg_da hd_da (by first | omega | decide | assumption) (by first | omega | decide | assumption) hgk hgm) (cwV 2 hT (z_goodV (fun _ h => h) kw_755 kw_756 kw_757 kw_92 kw_758) rfl rfl rfl (by decide +kernel) ⟨by decide, by decide⟩) z_mv hKK hK hw hA hm_wk hf_wk rfl rfl rfl hl.1 rfl (Nat.le_of_ble_eq_true rfl) dX9_counter_46 ⟨by decide, by decide⟩ (fun u H locs hp hw => ?_)
        obtain ⟨L9, f10⟩ := u
        obtain ⟨hsb, hfm, w2_11, t2_12, k2_13, c2_14, q2_15, o2_16, ha_0, ha_1, ha_2, ha_3, ha_4, hp⟩ := hp
        have hsb : L = L9 := hsb
        subst hsb
        have hsb : ∀ b ∈ L, b ∈ L := fun _ h => h
        have hw : z_H D vwCl (z_A L sz) s.heap L f10 H locs := hw
        have hfr : ∀ b ∈ L, b ≠ wk → b ≠ ks → b ≠ ct → b ≠ se → b ≠ ow → f10 b = f b := fun b hb h0 h1 h2 h3 h4 => (hfm b hb h0 h1 h2 h3 h4).trans (hfr b hb h0 h1 h2 h3 h4)
        have hd_da : z_Drv L f10 dv 13 := z_Drv_fr hd_da hsb (fun b hb ht => hfm b hb (z_t0 ht hf_wk (m := 8) rfl (by decide)) (z_t0 ht hf_ks (m := 204) rfl (by decide)) (z_t0 ht hf_ct (m := 132) rfl (by decide)) (z_t0 ht hf_se (m := 132) rfl (by decide)) (z_t0 ht hf_ow (m := 140) rfl (by decide)))
        have hf_xo : f10 xo = .inr (9, [.ref tp, .ref rd, .ref mo, .ref dmo, .ref im, .ref kp, .ref sl, .ref wk, .ref pl, .ref oo, .ref mx]) := (hfm xo hm_xo (z_tne hf_xo hf_wk (m := 9) (n := 8) rfl rfl (by decide)) (z_tne hf_xo hf_ks (m := 9) (n := 204) rfl rfl (by decide)) (z_tne hf_xo hf_ct (m := 9) (n := 132) rfl rfl (by decide)) (z_tne hf_xo hf_se (m := 9) (n := 132) rfl rfl (by decide)) (z_tne hf_xo hf_ow (m := 9) (n := 140) rfl rfl (by decide))).trans hf_xo
        have hf_mo : f10 mo = .inr (2, [.int v0, .int v1, .int v2, .int v3, .int v4, .int v5, .int v6, .ref la, .ref sa, .ref mi, .ref da]) := (hfm mo hm_mo (z_tne hf_mo hf_wk (m := 2) (n := 8) rfl rfl (by decide)) (z_tne hf_mo hf_ks (m := 2) (n := 204) rfl rfl (by decide)) (z_tne hf_mo hf_ct (m := 2) (n := 132) rfl rfl (by decide)) (z_tne hf_mo hf_se (m := 2) (n := 132) rfl rfl (by decide)) (z_tne hf_mo hf_ow (m := 2) (n := 140) rfl rfl (by decide))).trans hf_mo
        have hf_la : f10 la = .inl (cy 1, 5, .inl gl) := (hfm la hm_la (z_tne hf_la hf_wk (m := 140) (n := 8) rfl rfl (by decide)) (z_tne hf_la hf_ks (m := 140) (n := 204) rfl rfl (by decide)) (z_tne hf_la hf_ct (m := 140) (n := 132) rfl rfl (by decide)) (z_tne hf_la hf_se (m := 140) (n := 132) rfl rfl (by decide)) (Ne.symm ne_ow_la)).trans hf_la
        have hf_sa : f10 sa = .inl (cy 1, 4, .inl gs) := (hfm sa hm_sa (z_tne hf_sa hf_wk (m := 132) (n := 8) rfl rfl (by decide)) (z_tne hf_sa hf_ks (m := 132) (n := 204) rfl rfl (by decide)) (Ne.symm ne_ct_sa) (Ne.symm ne_se_sa) (z_tne hf_sa hf_ow (m := 132) (n := 140) rfl rfl (by decide))).trans hf_sa
        have hf_mi : f10 mi = .inl (cy 1, 36, .inl gm) := (hfm mi hm_mi (z_tne hf_mi hf_wk (m := 388) (n := 8) rfl rfl (by decide)) (z_tne hf_mi hf_ks (m := 388) (n := 204) rfl rfl (by decide)) (z_tne hf_mi hf_ct (m := 388) (n := 132) rfl rfl (by decide)) (z_tne hf_mi hf_se (m := 388) (n := 132) rfl rfl (by decide)) (z_tne hf_mi hf_ow (m := 388) (n := 140) rfl rfl (by decide))).trans hf_mi
        have hf_da : f10 da = .inl (cy 4, 13, .inr (.inr (.inr (.inr gd)))) := (hfm da hm_da (z_tne hf_da hf_wk (m := 206) (n := 8) rfl rfl (by decide)) (z_tne hf_da hf_ks (m := 206) (n := 204) rfl rfl (by decide)) (z_tne hf_da hf_ct (m := 206) (n := 132) rfl rfl (by decide)) (z_tne hf_da hf_se (m := 206) (n := 132) rfl rfl (by decide)) (z_tne hf_da hf_ow (m := 206) (n := 140) rfl rfl (by decide))).trans hf_da
        have hf_wk : f10 wk = .inr (8, [.ref ks, .int w2_11, .ref ct, .ref se, .ref ow, .int t2_12, .int wd, .int wp]) := ha_0
        have hf_ks : f10 ks = .inl (cy 1, 13, .inl k2_13) := ha_1
        have hf_ct : f10 ct = .inl (cy 1, 4, .inl c2_14) := ha_2
        have hf_se : f10 se = .inl (cy 1, 4, .inl q2_15) := ha_3
        have hf_ow : f10 ow = .inl (cy 1, 5, .inl o2_16) := ha_4
        have hbg17 := hp
        refine lv_aload_n hx hb dX9_counter_49 rfl (lv_at hl 0 rfl) ?_
        refine z_get (C := RX9) (T := TX9) (N := 11) (ci := 9) (v := .ref wk) hx hb hT zin_X9 hown hK hw hm_xo hf_xo rfl 7 (by decide) (hT _ kw_484) rfl dX9_counter_50 ?_
        refine z_get (C := RX8) (T := TX8) (N := 8) (ci := 8) (v := .ref ct) hx hb hT zin_X8 hown hK hw hm_wk hf_wk rfl 2 (by decide) (hT _ kw_348) rfl dX9_counter_53 ?_
        refine lv_aload_n hx hb dX9_counter_56 rfl (lv_at hl 0 rfl) ?_
        refine z_get (C := RX9) (T := TX9) (N := 11) (ci := 9) (v := .ref mo) hx hb hT zin_X9 hown hK hw hm_xo hf_xo rfl 2 (by decide) (hT _ kw_479) rfl dX9_counter_57 ?_
        refine lv_iload_n hx hb dX9_counter_60 rfl (lv_at hl 1 rfl) ?_
        refine z_calliV (cells := 0) (slots := 0) (b := mo) (As := [.int ga]) (rest := [.ref ct]) (ci := 2) (q0 := (RX2, TX2, 11)) ⟨hx, hb, hml, hown, hT⟩ (c_X2_counterOf l hm_mo hm_la hf_mo hf_la (by first | omega | decide | assumption)) (cwV 1 hT (z_goodV (fun _ h => h) kw_809 kw_773 kw_774 kw_87 kw_775) rfl rfl rfl (by decide +kernel) ⟨by decide, by decide⟩) z_mv hKK hK hw hA hm_mo hf_mo rfl rfl rfl hl.1 rfl (Nat.le_of_ble_eq_true rfl) dX9_counter_61 ⟨by decide, by decide⟩ (fun r18 u H locs hp hw => ?_)
        obtain ⟨rfl, hp⟩ := hp
        have hw : z_H D vwCl (z_A L sz) s.heap L f10 H locs := hw
        refine z_iald hx hb hK hw 1 hm_ct hf_ct rfl (z_ix rfl (by omega)) dX9_counter_64 ?_
        refine lv_topi (fun w19 e_w19 => ?_)
        exact z_iret hx hb hr hlk (by decide) (by decide) hw (⟨hsub, hfr, w2_11, t2_12, wd, wp, k2_13, c2_14, q2_15, o2_16, hf_wk, hf_ks, hf_ct, hf_se, hf_ow, by omega, hbg17.2⟩) dX9_counter_65
      · skip
        refine z_if_ne (tgt := 32) hx hb (show (0 : Int32).toInt = 0 by decide) dX9_counter_26 (by decide) (fun h => absurd h (by decide)) (fun _ => ?_)
        refine lv_bipush (v := (-2)) hx hb dX9_counter_29 (by decide) ?_
        exact z_iret hx hb hr hlk (by decide) (by decide) hw (⟨hsub, hfr, wn, wt, wd, wp, gk, gc, gq, go, hf_wk, hf_ks, hf_ct, hf_se, hf_ow, by omega, hgk⟩) dX9_counter_31
    · skip
      refine z_if_eq (tgt := 29) hx hb (show (0 : Int32).toInt = 0 by decide) dX9_counter_19 (by decide) (fun _ => ?_) (fun h => absurd h (by decide))
      refine lv_bipush (v := (-2)) hx hb dX9_counter_29 (by decide) ?_
      exact z_iret hx hb hr hlk (by decide) (by decide) hw (⟨hsub, hfr, wn, wt, wd, wp, gk, gc, gq, go, hf_wk, hf_ks, hf_ct, hf_se, hf_ow, by omega, hgk⟩) dX9_counter_31
  · skip
    refine z_if_eq (tgt := 29) hx hb (show (0 : Int32).toInt = 0 by decide) dX9_counter_8 (by decide) (fun _ => ?_) (fun h => absurd h (by decide))
    refine lv_bipush (v := (-2)) hx hb dX9_counter_29 (by decide) ?_
    exact z_iret hx hb hr hlk (by decide) (by decide) hw (⟨hsub, hfr, wn, wt, wd, wp, gk, gc, gq, go, hf_wk, hf_ks, hf_ct, hf_se, hf_ow, by omega, hgk⟩) dX9_counter_31

set_option maxHeartbeats 2000000 in
set_option maxRecDepth 100000 in
theorem c_X9_through (l : Launch) {D : va_G} {cy : Nat → ClassId} {L : List Nat} {f : Nat → va_E} {sz : Nat} {adK adV : Nat → Nat} {xo tp rd mo dmo im kp sl wk pl oo mx : Nat} {la sa mi da : Nat} {v0 v1 v2 v3 v4 v5 v6 : Int32} {gl gm : Nat → Int32} {gd : Nat → Option Nat} {dv : Nat → Nat} {ga dy wh : Int32} (hm_xo : xo ∈ L) (hm_mo : mo ∈ L) (hm_la : la ∈ L) (hm_mi : mi ∈ L) (hm_da : da ∈ L) (hf_xo : f xo = .inr (9, [.ref tp, .ref rd, .ref mo, .ref dmo, .ref im, .ref kp, .ref sl, .ref wk, .ref pl, .ref oo, .ref mx])) (hf_mo : f mo = .inr (2, [.int v0, .int v1, .int v2, .int v3, .int v4, .int v5, .int v6, .ref la, .ref sa, .ref mi, .ref da])) (hf_la : f la = .inl (cy 1, 5, .inl gl)) (hf_mi : f mi = .inl (cy 1, 36, .inl gm)) (hf_da : f da = .inl (cy 4, 13, .inr (.inr (.inr (.inr gd))))) (hg_da : ∀ i : Nat, i < 13 → gd i = some (dv i)) (hd_da : z_Drv L f dv 13) (hv2 : 0 ≤ v2.toInt ∧ v2.toInt ≤ 9) (hv5 : 0 ≤ v5.toInt ∧ v5.toInt ≤ 12) (hv1 : 0 ≤ v1.toInt ∧ v1.toInt ≤ 4) (hgm : ∀ j : Nat, 0 ≤ (gm j).toInt ∧ (gm j).toInt ≤ 9) : Met l yX9_through (z_ws yX9_through cX9_through 4 (some .int)) (z_R 4 0 0) (va_Pc [.ref xo, .int ga, .int dy, .int wh] (z_Pre D vwCl (z_KK D cy adK adV) L f sz)) (z_Qi D vwCl (fun r u => u = (L, f) ∧ (True)) L sz) 0 0 (z_A L sz) := by
  refine z_met (cc := cX9_through) (maxL := 4) (ret := (some .int)) (lv := [(0, .ref xo), (1, .int ga), (2, .int dy), (3, .int wh)]) (by decide) rfl (Nat.le_of_ble_eq_true rfl) rfl ?_
  intro p e s m below meth c ls hx hb hr hlk hml hown hnm hts hKK hA hw hl
  have hK := hKK.1.1
  have hown : s.vm.findClass RX9 = some m.cls := hown
  have hT : ∀ w ∈ lw_all, w.before ([.ref xo, .int ga, .int dy, .int wh] : List Value).toArray s = true := fun w h => hts w (z_cons w h)
  refine lv_aload_n hx hb dX9_through_0 rfl (lv_at hl 0 rfl) ?_
  refine z_get (C := RX9) (T := TX9) (N := 11) (ci := 9) (v := .ref mo) hx hb hT zin_X9 hown hK hw hm_xo hf_xo rfl 2 (by decide) (hT _ kw_479) rfl dX9_through_1 ?_
  refine lv_iload_n hx hb dX9_through_4 rfl (lv_at hl 1 rfl) ?_
  refine z_calliV (cells := 0) (slots := 0) (b := mo) (As := [.int ga]) (rest := []) (ci := 2) (q0 := (RX2, TX2, 11)) ⟨hx, hb, hml, hown, hT⟩ (c_X2_hasGap l hm_mo hf_mo) (cwV 1 hT (z_goodV (fun _ h => h) kw_736 kw_737 kw_738 kw_87 kw_739) rfl rfl rfl (by decide +kernel) ⟨by decide, by decide⟩) z_mv hKK hK hw hA hm_mo hf_mo rfl rfl rfl hl.1 rfl (Nat.le_of_ble_eq_true rfl) dX9_through_5 ⟨by decide, by decide⟩ (fun r1 u H locs hp hw => ?_)
  obtain ⟨rfl, hp⟩ := hp
  have hw : z_H D vwCl (z_A L sz) s.heap L f H locs := hw
  rcases hp with ⟨rfl, h2⟩ | ⟨rfl, h2⟩
  · skip
    refine z_if_eq (tgt := 31) hx hb (show (1 : Int32).toInt = 1 by decide) dX9_through_8 (by decide) (fun h => absurd h (by decide)) (fun _ => ?_)
    refine lv_aload_n hx hb dX9_through_11 rfl (lv_at hl 0 rfl) ?_
    refine z_get (C := RX9) (T := TX9) (N := 11) (ci := 9) (v := .ref mo) hx hb hT zin_X9 hown hK hw hm_xo hf_xo rfl 2 (by decide) (hT _ kw_479) rfl dX9_through_12 ?_
    refine lv_iload_n hx hb dX9_through_15 rfl (lv_at hl 2 rfl) ?_
    refine z_calliV (cells := 0) (slots := 0) (b := mo) (As := [.int dy]) (rest := []) (ci := 2) (q0 := (RX2, TX2, 11)) ⟨hx, hb, hml, hown, hT⟩ (c_X2_hasDay l hm_mo hf_mo) (cwV 1 hT (z_goodV (fun _ h => h) kw_751 kw_752 kw_753 kw_87 kw_754) rfl rfl rfl (by decide +kernel) ⟨by decide, by decide⟩) z_mv hKK hK hw hA hm_mo hf_mo rfl rfl rfl hl.1 rfl (Nat.le_of_ble_eq_true rfl) dX9_through_16 ⟨by decide, by decide⟩ (fun r3 u H locs hp hw => ?_)
    obtain ⟨rfl, hp⟩ := hp
    have hw : z_H D vwCl (z_A L sz) s.heap L f H locs := hw
    rcases hp with ⟨rfl, h4⟩ | ⟨rfl, h4⟩
    · skip
      refine z_if_eq (tgt := 31) hx hb (show (1 : Int32).toInt = 1 by decide) dX9_through_19 (by decide) (fun h => absurd h (by decide)) (fun _ => ?_)
      refine lv_iload_n hx hb dX9_through_22 rfl (lv_at hl 3 rfl) ?_
      refine z_if_lt (tgt := 31) hx hb rfl dX9_through_23 (by decide) (fun c5 => ?_) (fun c5 => ?_)
      · skip
        refine lv_bipush (v := (-2)) hx hb dX9_through_31 (by decide) ?_
        exact z_iret hx hb hr hlk (by decide) (by decide) hw (⟨rfl, trivial⟩) dX9_through_33
      · skip
        refine lv_iload_n hx hb dX9_through_26 rfl (lv_at hl 3 rfl) ?_
        refine lv_iconst (v := 1) hx hb dX9_through_27 (by decide) ?_
        refine z_icmp_le (tgt := 34) hx hb rfl (show (1 : Int32).toInt = 1 by decide) dX9_through_28 (by decide) (fun c6 => ?_) (fun c6 => ?_)
        · skip
          refine lv_iload_n hx hb dX9_through_34 rfl (lv_at hl 3 rfl) ?_
          refine z_if_ne (tgt := 50) hx hb rfl dX9_through_35 (by decide) (fun c7 => ?_) (fun c7 => ?_)
          · skip
            refine lv_aload_n hx hb dX9_through_50 rfl (lv_at hl 0 rfl) ?_
            refine z_get (C := RX9) (T := TX9) (N := 11) (ci := 9) (v := .ref mo) hx hb hT zin_X9 hown hK hw hm_xo hf_xo rfl 2 (by decide) (hT _ kw_479) rfl dX9_through_51 ?_
            refine lv_iload_n hx hb dX9_through_54 rfl (lv_at hl 1 rfl) ?_
            refine lv_iload_n hx hb dX9_through_55 rfl (lv_at hl 2 rfl) ?_
            refine z_calliV (cells := 0) (slots := 0) (b := mo) (As := [.int ga, .int dy]) (rest := []) (ci := 2) (q0 := (RX2, TX2, 11)) ⟨hx, hb, hml, hown, hT⟩ (c_X2_countedThrough l hm_mo hm_la hm_mi hm_da hf_mo hf_la hf_mi hf_da hg_da hd_da (by first | omega | decide | assumption) (by first | omega | decide | assumption) (by first | omega | decide | assumption) (by first | omega | decide | assumption) hgm) (cwV 2 hT (z_goodV (fun _ h => h) kw_823 kw_824 kw_825 kw_87 kw_826) rfl rfl rfl (by decide +kernel) ⟨by decide, by decide⟩) z_mv hKK hK hw hA hm_mo hf_mo rfl rfl rfl hl.1 rfl (Nat.le_of_ble_eq_true rfl) dX9_through_56 ⟨by decide, by decide⟩ (fun r8 u H locs hp hw => ?_)
            obtain ⟨rfl, hp⟩ := hp
            have hw : z_H D vwCl (z_A L sz) s.heap L f H locs := hw
            exact z_iret hx hb hr hlk (by decide) (by decide) hw (⟨rfl, trivial⟩) dX9_through_59
          · skip
            refine lv_aload_n hx hb dX9_through_38 rfl (lv_at hl 0 rfl) ?_
            refine z_get (C := RX9) (T := TX9) (N := 11) (ci := 9) (v := .ref mo) hx hb hT zin_X9 hown hK hw hm_xo hf_xo rfl 2 (by decide) (hT _ kw_479) rfl dX9_through_39 ?_
            refine lv_iload_n hx hb dX9_through_42 rfl (lv_at hl 1 rfl) ?_
            refine lv_iload_n hx hb dX9_through_43 rfl (lv_at hl 2 rfl) ?_
            refine z_calliV (cells := 0) (slots := 0) (b := mo) (As := [.int ga, .int dy]) (rest := []) (ci := 2) (q0 := (RX2, TX2, 11)) ⟨hx, hb, hml, hown, hT⟩ (c_X2_beastsThrough l hm_mo hm_da hf_mo hf_da hg_da hd_da (by first | omega | decide | assumption) (by first | omega | decide | assumption)) (cwV 2 hT (z_goodV (fun _ h => h) kw_814 kw_815 kw_816 kw_87 kw_817) rfl rfl rfl (by decide +kernel) ⟨by decide, by decide⟩) z_mv hKK hK hw hA hm_mo hf_mo rfl rfl rfl hl.1 rfl (Nat.le_of_ble_eq_true rfl) dX9_through_44 ⟨by decide, by decide⟩ (fun r9 u H locs hp hw => ?_)
            obtain ⟨rfl, hp⟩ := hp
            have hw : z_H D vwCl (z_A L sz) s.heap L f H locs := hw
            refine lv_goto (tgt := 59) hx hb dX9_through_47 (by decide) ?_
            exact z_iret hx hb hr hlk (by decide) (by decide) hw (⟨rfl, trivial⟩) dX9_through_59
        · skip
          refine lv_bipush (v := (-2)) hx hb dX9_through_31 (by decide) ?_
          exact z_iret hx hb hr hlk (by decide) (by decide) hw (⟨rfl, trivial⟩) dX9_through_33
    · skip
      refine z_if_eq (tgt := 31) hx hb (show (0 : Int32).toInt = 0 by decide) dX9_through_19 (by decide) (fun _ => ?_) (fun h => absurd h (by decide))
      refine lv_bipush (v := (-2)) hx hb dX9_through_31 (by decide) ?_
      exact z_iret hx hb hr hlk (by decide) (by decide) hw (⟨rfl, trivial⟩) dX9_through_33
  · skip
    refine z_if_eq (tgt := 31) hx hb (show (0 : Int32).toInt = 0 by decide) dX9_through_8 (by decide) (fun _ => ?_) (fun h => absurd h (by decide))
    refine lv_bipush (v := (-2)) hx hb dX9_through_31 (by decide) ?_
    exact z_iret hx hb hr hlk (by decide) (by decide) hw (⟨rfl, trivial⟩) dX9_through_33

set_option maxHeartbeats 2000000 in
set_option maxRecDepth 100000 in
theorem c_X9_dues (l : Launch) {D : va_G} {cy : Nat → ClassId} {L : List Nat} {f : Nat → va_E} {sz : Nat} {adK adV : Nat → Nat} {xo tp rd mo dmo im kp sl wk pl oo mx : Nat} {ks ct se ow : Nat} {wn wt wd wp : Int32} {gk gc gq go : Nat → Int32} {la sa mi da : Nat} {v0 v1 v2 v3 v4 v5 v6 : Int32} {gl gs gm : Nat → Int32} {gd : Nat → Option Nat} {dv : Nat → Nat} (hm_xo : xo ∈ L) (hm_wk : wk ∈ L) (hm_ks : ks ∈ L) (hm_ct : ct ∈ L) (hm_se : se ∈ L) (hm_ow : ow ∈ L) (hm_mo : mo ∈ L) (hm_la : la ∈ L) (hm_sa : sa ∈ L) (hm_mi : mi ∈ L) (hm_da : da ∈ L) (hf_xo : f xo = .inr (9, [.ref tp, .ref rd, .ref mo, .ref dmo, .ref im, .ref kp, .ref sl, .ref wk, .ref pl, .ref oo, .ref mx])) (hf_wk : f wk = .inr (8, [.ref ks, .int wn, .ref ct, .ref se, .ref ow, .int wt, .int wd, .int wp])) (hf_ks : f ks = .inl (cy 1, 13, .inl gk)) (hf_ct : f ct = .inl (cy 1, 4, .inl gc)) (hf_se : f se = .inl (cy 1, 4, .inl gq)) (hf_ow : f ow = .inl (cy 1, 5, .inl go)) (hf_mo : f mo = .inr (2, [.int v0, .int v1, .int v2, .int v3, .int v4, .int v5, .int v6, .ref la, .ref sa, .ref mi, .ref da])) (hf_la : f la = .inl (cy 1, 5, .inl gl)) (hf_sa : f sa = .inl (cy 1, 4, .inl gs)) (hf_mi : f mi = .inl (cy 1, 36, .inl gm)) (hf_da : f da = .inl (cy 4, 13, .inr (.inr (.inr (.inr gd))))) (ne_ct_se : ct ≠ se) (ne_ct_sa : ct ≠ sa) (ne_se_sa : se ≠ sa) (ne_ow_la : ow ≠ la) (hg_da : ∀ i : Nat, i < 13 → gd i = some (dv i)) (hd_da : z_Drv L f dv 13) (hv2 : 0 ≤ v2.toInt ∧ v2.toInt ≤ 9) (hv5 : 0 ≤ v5.toInt ∧ v5.toInt ≤ 12) (hv1 : 0 ≤ v1.toInt ∧ v1.toInt ≤ 4) (hv3 : 0 ≤ v3.toInt ∧ v3.toInt ≤ 5) (hgk : ∀ j : Nat, z_key (gk j)) (hgm : ∀ j : Nat, 0 ≤ (gm j).toInt ∧ (gm j).toInt ≤ 9) (hwn : 0 ≤ wn.toInt ∧ wn.toInt ≤ 13) : Met l yX9_dues (z_ws yX9_dues cX9_dues 1 (some .int)) (z_R 5 0 0) (va_Pc [.ref xo] (z_Pre D vwCl (z_KK D cy adK adV) L f sz)) (z_Qi D vwCl (fun r u => L = u.1 ∧ (∀ b ∈ L, b ≠ wk → b ≠ ks → b ≠ ct → b ≠ se → b ≠ ow → u.2 b = f b) ∧ (∃ (w2 t2 d2 p2 : Int32) (k2 c2 q2 o2 : Nat → Int32), (u.2 wk = .inr (8, [.ref ks, .int w2, .ref ct, .ref se, .ref ow, .int t2, .int d2, .int p2])) ∧ (u.2 ks = .inl (cy 1, 13, .inl k2)) ∧ (u.2 ct = .inl (cy 1, 4, .inl c2)) ∧ (u.2 se = .inl (cy 1, 4, .inl q2)) ∧ (u.2 ow = .inl (cy 1, 5, .inl o2)) ∧ ((0 ≤ w2.toInt ∧ w2.toInt ≤ 13) ∧ ∀ j : Nat, z_key (k2 j)))) L sz) 0 0 (z_A L sz) := by
  refine z_met (cc := cX9_dues) (maxL := 1) (ret := (some .int)) (lv := [(0, .ref xo)]) (by decide) rfl (Nat.le_of_ble_eq_true rfl) rfl ?_
  intro p e s m below meth c ls hx hb hr hlk hml hown hnm hts hKK hA hw hl
  have hK := hKK.1.1
  have hown : s.vm.findClass RX9 = some m.cls := hown
  have hT : ∀ w ∈ lw_all, w.before ([.ref xo] : List Value).toArray s = true := fun w h => hts w (z_cons w h)
  have hsub : L = L := rfl
  have hfr : ∀ b ∈ L, b ≠ wk → b ≠ ks → b ≠ ct → b ≠ se → b ≠ ow → f b = f b := fun _ _ _ _ _ _ _ => rfl
  refine lv_aload_n hx hb dX9_dues_0 rfl (lv_at hl 0 rfl) ?_
  refine z_get (C := RX9) (T := TX9) (N := 11) (ci := 9) (v := .ref mo) hx hb hT zin_X9 hown hK hw hm_xo hf_xo rfl 2 (by decide) (hT _ kw_479) rfl dX9_dues_1 ?_
  refine z_calliV (cells := 0) (slots := 0) (b := mo) (As := []) (rest := []) (ci := 2) (q0 := (RX2, TX2, 11)) ⟨hx, hb, hml, hown, hT⟩ (c_X2_isTold l hm_mo hf_mo) (cwV 0 hT (z_goodV (fun _ h => h) kw_725 kw_726 kw_727 kw_87 kw_728) rfl rfl rfl (by decide +kernel) ⟨by decide, by decide⟩) z_mv hKK hK hw hA hm_mo hf_mo rfl rfl rfl hl.1 rfl (Nat.le_of_ble_eq_true rfl) dX9_dues_4 ⟨by decide, by decide⟩ (fun r1 u H locs hp hw => ?_)
  obtain ⟨rfl, hp⟩ := hp
  have hw : z_H D vwCl (z_A L sz) s.heap L f H locs := hw
  rcases hp with ⟨rfl, h2⟩ | ⟨rfl, h2⟩
  · skip
    refine z_if_eq (tgt := 24) hx hb (show (1 : Int32).toInt = 1 by decide) dX9_dues_7 (by decide) (fun h => absurd h (by decide)) (fun _ => ?_)
    refine lv_aload_n hx hb dX9_dues_10 rfl (lv_at hl 0 rfl) ?_
    refine z_get (C := RX9) (T := TX9) (N := 11) (ci := 9) (v := .ref wk) hx hb hT zin_X9 hown hK hw hm_xo hf_xo rfl 7 (by decide) (hT _ kw_484) rfl dX9_dues_11 ?_
    refine lv_aload_n hx hb dX9_dues_14 rfl (lv_at hl 0 rfl) ?_
    refine z_get (C := RX9) (T := TX9) (N := 11) (ci := 9) (v := .ref mo) hx hb hT zin_X9 hown hK hw hm_xo hf_xo rfl 2 (by decide) (hT _ kw_479) rfl dX9_dues_15 ?_
    refine z_calliV (cells := 0) (slots := 0) (b := wk) (As := [.ref mo]) (rest := []) (ci := 8) (q0 := (RX8, TX8, 8)) ⟨hx, hb, hml, hown, hT⟩ (c_X8_tally l hm_wk hm_ks hm_ct hm_se hm_ow hm_mo hm_la hm_sa hm_mi hm_da hf_wk hf_ks hf_ct hf_se hf_ow hf_mo hf_la hf_sa hf_mi hf_da ne_ct_se ne_ct_sa ne_se_sa ne_ow_la hg_da hd_da (by first | omega | decide | assumption) (by first | omega | decide | assumption) hgk hgm) (cwV 1 hT (z_goodV (fun _ h => h) kw_834 kw_835 kw_836 kw_92 kw_837) rfl rfl rfl (by decide +kernel) ⟨by decide, by decide⟩) z_mv hKK hK hw hA hm_wk hf_wk rfl rfl rfl hl.1 rfl (Nat.le_of_ble_eq_true rfl) dX9_dues_18 ⟨by decide, by decide⟩ (fun r3 u H locs hp hw => ?_)
    obtain ⟨L4, f5⟩ := u
    obtain ⟨hsb, hfm, w2_6, t2_7, k2_8, c2_9, q2_10, o2_11, ha_0, ha_1, ha_2, ha_3, ha_4, hp⟩ := hp
    have hsb : L = L4 := hsb
    subst hsb
    have hsb : ∀ b ∈ L, b ∈ L := fun _ h => h
    have hw : z_H D vwCl (z_A L sz) s.heap L f5 H locs := hw
    have hfr : ∀ b ∈ L, b ≠ wk → b ≠ ks → b ≠ ct → b ≠ se → b ≠ ow → f5 b = f b := fun b hb h0 h1 h2 h3 h4 => (hfm b hb h0 h1 h2 h3 h4).trans (hfr b hb h0 h1 h2 h3 h4)
    have hd_da : z_Drv L f5 dv 13 := z_Drv_fr hd_da hsb (fun b hb ht => hfm b hb (z_t0 ht hf_wk (m := 8) rfl (by decide)) (z_t0 ht hf_ks (m := 204) rfl (by decide)) (z_t0 ht hf_ct (m := 132) rfl (by decide)) (z_t0 ht hf_se (m := 132) rfl (by decide)) (z_t0 ht hf_ow (m := 140) rfl (by decide)))
    have hf_xo : f5 xo = .inr (9, [.ref tp, .ref rd, .ref mo, .ref dmo, .ref im, .ref kp, .ref sl, .ref wk, .ref pl, .ref oo, .ref mx]) := (hfm xo hm_xo (z_tne hf_xo hf_wk (m := 9) (n := 8) rfl rfl (by decide)) (z_tne hf_xo hf_ks (m := 9) (n := 204) rfl rfl (by decide)) (z_tne hf_xo hf_ct (m := 9) (n := 132) rfl rfl (by decide)) (z_tne hf_xo hf_se (m := 9) (n := 132) rfl rfl (by decide)) (z_tne hf_xo hf_ow (m := 9) (n := 140) rfl rfl (by decide))).trans hf_xo
    have hf_mo : f5 mo = .inr (2, [.int v0, .int v1, .int v2, .int v3, .int v4, .int v5, .int v6, .ref la, .ref sa, .ref mi, .ref da]) := (hfm mo hm_mo (z_tne hf_mo hf_wk (m := 2) (n := 8) rfl rfl (by decide)) (z_tne hf_mo hf_ks (m := 2) (n := 204) rfl rfl (by decide)) (z_tne hf_mo hf_ct (m := 2) (n := 132) rfl rfl (by decide)) (z_tne hf_mo hf_se (m := 2) (n := 132) rfl rfl (by decide)) (z_tne hf_mo hf_ow (m := 2) (n := 140) rfl rfl (by decide))).trans hf_mo
    have hf_la : f5 la = .inl (cy 1, 5, .inl gl) := (hfm la hm_la (z_tne hf_la hf_wk (m := 140) (n := 8) rfl rfl (by decide)) (z_tne hf_la hf_ks (m := 140) (n := 204) rfl rfl (by decide)) (z_tne hf_la hf_ct (m := 140) (n := 132) rfl rfl (by decide)) (z_tne hf_la hf_se (m := 140) (n := 132) rfl rfl (by decide)) (Ne.symm ne_ow_la)).trans hf_la
    have hf_sa : f5 sa = .inl (cy 1, 4, .inl gs) := (hfm sa hm_sa (z_tne hf_sa hf_wk (m := 132) (n := 8) rfl rfl (by decide)) (z_tne hf_sa hf_ks (m := 132) (n := 204) rfl rfl (by decide)) (Ne.symm ne_ct_sa) (Ne.symm ne_se_sa) (z_tne hf_sa hf_ow (m := 132) (n := 140) rfl rfl (by decide))).trans hf_sa
    have hf_mi : f5 mi = .inl (cy 1, 36, .inl gm) := (hfm mi hm_mi (z_tne hf_mi hf_wk (m := 388) (n := 8) rfl rfl (by decide)) (z_tne hf_mi hf_ks (m := 388) (n := 204) rfl rfl (by decide)) (z_tne hf_mi hf_ct (m := 388) (n := 132) rfl rfl (by decide)) (z_tne hf_mi hf_se (m := 388) (n := 132) rfl rfl (by decide)) (z_tne hf_mi hf_ow (m := 388) (n := 140) rfl rfl (by decide))).trans hf_mi
    have hf_da : f5 da = .inl (cy 4, 13, .inr (.inr (.inr (.inr gd)))) := (hfm da hm_da (z_tne hf_da hf_wk (m := 206) (n := 8) rfl rfl (by decide)) (z_tne hf_da hf_ks (m := 206) (n := 204) rfl rfl (by decide)) (z_tne hf_da hf_ct (m := 206) (n := 132) rfl rfl (by decide)) (z_tne hf_da hf_se (m := 206) (n := 132) rfl rfl (by decide)) (z_tne hf_da hf_ow (m := 206) (n := 140) rfl rfl (by decide))).trans hf_da
    have hf_wk : f5 wk = .inr (8, [.ref ks, .int w2_6, .ref ct, .ref se, .ref ow, .int t2_7, .int wd, .int wp]) := ha_0
    have hf_ks : f5 ks = .inl (cy 1, 13, .inl k2_8) := ha_1
    have hf_ct : f5 ct = .inl (cy 1, 4, .inl c2_9) := ha_2
    have hf_se : f5 se = .inl (cy 1, 4, .inl q2_10) := ha_3
    have hf_ow : f5 ow = .inl (cy 1, 5, .inl o2_11) := ha_4
    have hbg12 := hp
    refine lv_goto (tgt := 26) hx hb dX9_dues_21 (by decide) ?_
    exact z_iret hx hb hr hlk (by decide) (by decide) hw (⟨hsub, hfr, w2_6, t2_7, wd, wp, k2_8, c2_9, q2_10, o2_11, hf_wk, hf_ks, hf_ct, hf_se, hf_ow, by omega, hbg12.2⟩) dX9_dues_26
  · skip
    refine z_if_eq (tgt := 24) hx hb (show (0 : Int32).toInt = 0 by decide) dX9_dues_7 (by decide) (fun _ => ?_) (fun h => absurd h (by decide))
    refine lv_bipush (v := (-2)) hx hb dX9_dues_24 (by decide) ?_
    exact z_iret hx hb hr hlk (by decide) (by decide) hw (⟨hsub, hfr, wn, wt, wd, wp, gk, gc, gq, go, hf_wk, hf_ks, hf_ct, hf_se, hf_ow, by omega, hgk⟩) dX9_dues_26

set_option maxHeartbeats 2000000 in
set_option maxRecDepth 100000 in
theorem c_X9_due (l : Launch) {D : va_G} {cy : Nat → ClassId} {L : List Nat} {f : Nat → va_E} {sz : Nat} {adK adV : Nat → Nat} {xo tp rd mo dmo im kp sl wk pl oo mx : Nat} {ks ct se ow : Nat} {wn wt wd wp : Int32} {gk gc gq go : Nat → Int32} {la sa mi da : Nat} {v0 v1 v2 v3 v4 v5 v6 : Int32} {gl gs gm : Nat → Int32} {gd : Nat → Option Nat} {dv : Nat → Nat} {ii wh : Int32} (hm_xo : xo ∈ L) (hm_wk : wk ∈ L) (hm_ks : ks ∈ L) (hm_ct : ct ∈ L) (hm_se : se ∈ L) (hm_ow : ow ∈ L) (hm_mo : mo ∈ L) (hm_la : la ∈ L) (hm_sa : sa ∈ L) (hm_mi : mi ∈ L) (hm_da : da ∈ L) (hf_xo : f xo = .inr (9, [.ref tp, .ref rd, .ref mo, .ref dmo, .ref im, .ref kp, .ref sl, .ref wk, .ref pl, .ref oo, .ref mx])) (hf_wk : f wk = .inr (8, [.ref ks, .int wn, .ref ct, .ref se, .ref ow, .int wt, .int wd, .int wp])) (hf_ks : f ks = .inl (cy 1, 13, .inl gk)) (hf_ct : f ct = .inl (cy 1, 4, .inl gc)) (hf_se : f se = .inl (cy 1, 4, .inl gq)) (hf_ow : f ow = .inl (cy 1, 5, .inl go)) (hf_mo : f mo = .inr (2, [.int v0, .int v1, .int v2, .int v3, .int v4, .int v5, .int v6, .ref la, .ref sa, .ref mi, .ref da])) (hf_la : f la = .inl (cy 1, 5, .inl gl)) (hf_sa : f sa = .inl (cy 1, 4, .inl gs)) (hf_mi : f mi = .inl (cy 1, 36, .inl gm)) (hf_da : f da = .inl (cy 4, 13, .inr (.inr (.inr (.inr gd))))) (ne_ct_se : ct ≠ se) (ne_ct_sa : ct ≠ sa) (ne_se_sa : se ≠ sa) (ne_ow_la : ow ≠ la) (hg_da : ∀ i : Nat, i < 13 → gd i = some (dv i)) (hd_da : z_Drv L f dv 13) (hv2 : 0 ≤ v2.toInt ∧ v2.toInt ≤ 9) (hv5 : 0 ≤ v5.toInt ∧ v5.toInt ≤ 12) (hv1 : 0 ≤ v1.toInt ∧ v1.toInt ≤ 4) (hv3 : 0 ≤ v3.toInt ∧ v3.toInt ≤ 5) (hgk : ∀ j : Nat, z_key (gk j)) (hgm : ∀ j : Nat, 0 ≤ (gm j).toInt ∧ (gm j).toInt ≤ 9) (hwn : 0 ≤ wn.toInt ∧ wn.toInt ≤ 13) : Met l yX9_due (z_ws yX9_due cX9_due 4 (some .int)) (z_R 6 0 0) (va_Pc [.ref xo, .int ii, .int wh] (z_Pre D vwCl (z_KK D cy adK adV) L f sz)) (z_Qi D vwCl (fun r u => L = u.1 ∧ (∀ b ∈ L, b ≠ wk → b ≠ ks → b ≠ ct → b ≠ se → b ≠ ow → u.2 b = f b) ∧ (∃ (w2 t2 d2 p2 : Int32) (k2 c2 q2 o2 : Nat → Int32), (u.2 wk = .inr (8, [.ref ks, .int w2, .ref ct, .ref se, .ref ow, .int t2, .int d2, .int p2])) ∧ (u.2 ks = .inl (cy 1, 13, .inl k2)) ∧ (u.2 ct = .inl (cy 1, 4, .inl c2)) ∧ (u.2 se = .inl (cy 1, 4, .inl q2)) ∧ (u.2 ow = .inl (cy 1, 5, .inl o2)) ∧ ((0 ≤ w2.toInt ∧ w2.toInt ≤ 13) ∧ ∀ j : Nat, z_key (k2 j)))) L sz) 0 0 (z_A L sz) := by
  refine z_met (cc := cX9_due) (maxL := 4) (ret := (some .int)) (lv := [(0, .ref xo), (1, .int ii), (2, .int wh)]) (by decide) rfl (Nat.le_of_ble_eq_true rfl) rfl ?_
  intro p e s m below meth c ls hx hb hr hlk hml hown hnm hts hKK hA hw hl
  have hK := hKK.1.1
  have hown : s.vm.findClass RX9 = some m.cls := hown
  have hT : ∀ w ∈ lw_all, w.before ([.ref xo, .int ii, .int wh] : List Value).toArray s = true := fun w h => hts w (z_cons w h)
  have hsub : L = L := rfl
  have hfr : ∀ b ∈ L, b ≠ wk → b ≠ ks → b ≠ ct → b ≠ se → b ≠ ow → f b = f b := fun _ _ _ _ _ _ _ => rfl
  refine lv_aload_n hx hb dX9_due_0 rfl (lv_at hl 0 rfl) ?_
  refine z_get (C := RX9) (T := TX9) (N := 11) (ci := 9) (v := .ref mo) hx hb hT zin_X9 hown hK hw hm_xo hf_xo rfl 2 (by decide) (hT _ kw_479) rfl dX9_due_1 ?_
  refine z_calliV (cells := 0) (slots := 0) (b := mo) (As := []) (rest := []) (ci := 2) (q0 := (RX2, TX2, 11)) ⟨hx, hb, hml, hown, hT⟩ (c_X2_isTold l hm_mo hf_mo) (cwV 0 hT (z_goodV (fun _ h => h) kw_725 kw_726 kw_727 kw_87 kw_728) rfl rfl rfl (by decide +kernel) ⟨by decide, by decide⟩) z_mv hKK hK hw hA hm_mo hf_mo rfl rfl rfl hl.1 rfl (Nat.le_of_ble_eq_true rfl) dX9_due_4 ⟨by decide, by decide⟩ (fun r1 u H locs hp hw => ?_)
  obtain ⟨rfl, hp⟩ := hp
  have hw : z_H D vwCl (z_A L sz) s.heap L f H locs := hw
  rcases hp with ⟨rfl, h2⟩ | ⟨rfl, h2⟩
  · skip
    refine z_if_eq (tgt := 19) hx hb (show (1 : Int32).toInt = 1 by decide) dX9_due_7 (by decide) (fun h => absurd h (by decide)) (fun _ => ?_)
    refine lv_iload_n hx hb dX9_due_10 rfl (lv_at hl 2 rfl) ?_
    refine z_if_lt (tgt := 19) hx hb rfl dX9_due_11 (by decide) (fun c3 => ?_) (fun c3 => ?_)
    · skip
      refine lv_bipush (v := (-2)) hx hb dX9_due_19 (by decide) ?_
      exact z_iret hx hb hr hlk (by decide) (by decide) hw (⟨hsub, hfr, wn, wt, wd, wp, gk, gc, gq, go, hf_wk, hf_ks, hf_ct, hf_se, hf_ow, by omega, hgk⟩) dX9_due_21
    · skip
      refine lv_iload_n hx hb dX9_due_14 rfl (lv_at hl 2 rfl) ?_
      refine lv_iconst (v := 5) hx hb dX9_due_15 (by decide) ?_
      refine z_icmp_le (tgt := 22) hx hb rfl (show (5 : Int32).toInt = 5 by decide) dX9_due_16 (by decide) (fun c4 => ?_) (fun c4 => ?_)
      · skip
        refine lv_iload_n hx hb dX9_due_22 rfl (lv_at hl 1 rfl) ?_
        refine z_if_lt (tgt := 41) hx hb rfl dX9_due_23 (by decide) (fun c5 => ?_) (fun c5 => ?_)
        · skip
          refine lv_iconst (v := (-1)) hx hb dX9_due_41 (by decide) ?_
          exact z_iret hx hb hr hlk (by decide) (by decide) hw (⟨hsub, hfr, wn, wt, wd, wp, gk, gc, gq, go, hf_wk, hf_ks, hf_ct, hf_se, hf_ow, by omega, hgk⟩) dX9_due_42
        · skip
          refine lv_aload_n hx hb dX9_due_26 rfl (lv_at hl 0 rfl) ?_
          refine z_get (C := RX9) (T := TX9) (N := 11) (ci := 9) (v := .ref wk) hx hb hT zin_X9 hown hK hw hm_xo hf_xo rfl 7 (by decide) (hT _ kw_484) rfl dX9_due_27 ?_
          refine lv_aload_n hx hb dX9_due_30 rfl (lv_at hl 0 rfl) ?_
          refine z_get (C := RX9) (T := TX9) (N := 11) (ci := 9) (v := .ref mo) hx hb hT zin_X9 hown hK hw hm_xo hf_xo rfl 2 (by decide) (hT _ kw_479) rfl dX9_due_31 ?_
          refine lv_iload_n hx hb dX9_due_34 rfl (lv_at hl 1 rfl) ?_
          refine z_calliV (cells := 0) (slots := 0) (b := wk) (As := [.ref mo, .int ii]) (rest := []) (ci := 8) (q0 := (RX8, TX8, 8)) ⟨hx, hb, hml, hown, hT⟩ (c_X8_findDue l hm_wk hm_ks hm_ct hm_se hm_ow hm_mo hm_la hm_sa hm_mi hm_da hf_wk hf_ks hf_ct hf_se hf_ow hf_mo hf_la hf_sa hf_mi hf_da ne_ct_se ne_ct_sa ne_se_sa ne_ow_la hg_da hd_da (by first | omega | decide | assumption) (by first | omega | decide | assumption) hgk hgm) (cwV 2 hT (z_goodV (fun _ h => h) kw_842 kw_843 kw_844 kw_92 kw_845) rfl rfl rfl (by decide +kernel) ⟨by decide, by decide⟩) z_mv hKK hK hw hA hm_wk hf_wk rfl rfl rfl hl.1 rfl (Nat.le_of_ble_eq_true rfl) dX9_due_35 ⟨by decide, by decide⟩ (fun r6 u H locs hp hw => ?_)
          obtain ⟨L7, f8⟩ := u
          obtain ⟨hsb, hfm, w2_9, t2_10, d2_11, p2_12, k2_13, c2_14, q2_15, o2_16, ha_0, ha_1, ha_2, ha_3, ha_4, hp⟩ := hp
          have hsb : L = L7 := hsb
          subst hsb
          have hsb : ∀ b ∈ L, b ∈ L := fun _ h => h
          have hw : z_H D vwCl (z_A L sz) s.heap L f8 H locs := hw
          have hfr : ∀ b ∈ L, b ≠ wk → b ≠ ks → b ≠ ct → b ≠ se → b ≠ ow → f8 b = f b := fun b hb h0 h1 h2 h3 h4 => (hfm b hb h0 h1 h2 h3 h4).trans (hfr b hb h0 h1 h2 h3 h4)
          have hd_da : z_Drv L f8 dv 13 := z_Drv_fr hd_da hsb (fun b hb ht => hfm b hb (z_t0 ht hf_wk (m := 8) rfl (by decide)) (z_t0 ht hf_ks (m := 204) rfl (by decide)) (z_t0 ht hf_ct (m := 132) rfl (by decide)) (z_t0 ht hf_se (m := 132) rfl (by decide)) (z_t0 ht hf_ow (m := 140) rfl (by decide)))
          have hf_xo : f8 xo = .inr (9, [.ref tp, .ref rd, .ref mo, .ref dmo, .ref im, .ref kp, .ref sl, .ref wk, .ref pl, .ref oo, .ref mx]) := (hfm xo hm_xo (z_tne hf_xo hf_wk (m := 9) (n := 8) rfl rfl (by decide)) (z_tne hf_xo hf_ks (m := 9) (n := 204) rfl rfl (by decide)) (z_tne hf_xo hf_ct (m := 9) (n := 132) rfl rfl (by decide)) (z_tne hf_xo hf_se (m := 9) (n := 132) rfl rfl (by decide)) (z_tne hf_xo hf_ow (m := 9) (n := 140) rfl rfl (by decide))).trans hf_xo
          have hf_mo : f8 mo = .inr (2, [.int v0, .int v1, .int v2, .int v3, .int v4, .int v5, .int v6, .ref la, .ref sa, .ref mi, .ref da]) := (hfm mo hm_mo (z_tne hf_mo hf_wk (m := 2) (n := 8) rfl rfl (by decide)) (z_tne hf_mo hf_ks (m := 2) (n := 204) rfl rfl (by decide)) (z_tne hf_mo hf_ct (m := 2) (n := 132) rfl rfl (by decide)) (z_tne hf_mo hf_se (m := 2) (n := 132) rfl rfl (by decide)) (z_tne hf_mo hf_ow (m := 2) (n := 140) rfl rfl (by decide))).trans hf_mo
          have hf_la : f8 la = .inl (cy 1, 5, .inl gl) := (hfm la hm_la (z_tne hf_la hf_wk (m := 140) (n := 8) rfl rfl (by decide)) (z_tne hf_la hf_ks (m := 140) (n := 204) rfl rfl (by decide)) (z_tne hf_la hf_ct (m := 140) (n := 132) rfl rfl (by decide)) (z_tne hf_la hf_se (m := 140) (n := 132) rfl rfl (by decide)) (Ne.symm ne_ow_la)).trans hf_la
          have hf_sa : f8 sa = .inl (cy 1, 4, .inl gs) := (hfm sa hm_sa (z_tne hf_sa hf_wk (m := 132) (n := 8) rfl rfl (by decide)) (z_tne hf_sa hf_ks (m := 132) (n := 204) rfl rfl (by decide)) (Ne.symm ne_ct_sa) (Ne.symm ne_se_sa) (z_tne hf_sa hf_ow (m := 132) (n := 140) rfl rfl (by decide))).trans hf_sa
          have hf_mi : f8 mi = .inl (cy 1, 36, .inl gm) := (hfm mi hm_mi (z_tne hf_mi hf_wk (m := 388) (n := 8) rfl rfl (by decide)) (z_tne hf_mi hf_ks (m := 388) (n := 204) rfl rfl (by decide)) (z_tne hf_mi hf_ct (m := 388) (n := 132) rfl rfl (by decide)) (z_tne hf_mi hf_se (m := 388) (n := 132) rfl rfl (by decide)) (z_tne hf_mi hf_ow (m := 388) (n := 140) rfl rfl (by decide))).trans hf_mi
          have hf_da : f8 da = .inl (cy 4, 13, .inr (.inr (.inr (.inr gd)))) := (hfm da hm_da (z_tne hf_da hf_wk (m := 206) (n := 8) rfl rfl (by decide)) (z_tne hf_da hf_ks (m := 206) (n := 204) rfl rfl (by decide)) (z_tne hf_da hf_ct (m := 206) (n := 132) rfl rfl (by decide)) (z_tne hf_da hf_se (m := 206) (n := 132) rfl rfl (by decide)) (z_tne hf_da hf_ow (m := 206) (n := 140) rfl rfl (by decide))).trans hf_da
          have hf_wk : f8 wk = .inr (8, [.ref ks, .int w2_9, .ref ct, .ref se, .ref ow, .int t2_10, .int d2_11, .int p2_12]) := ha_0
          have hf_ks : f8 ks = .inl (cy 1, 13, .inl k2_13) := ha_1
          have hf_ct : f8 ct = .inl (cy 1, 4, .inl c2_14) := ha_2
          have hf_se : f8 se = .inl (cy 1, 4, .inl q2_15) := ha_3
          have hf_ow : f8 ow = .inl (cy 1, 5, .inl o2_16) := ha_4
          have hbg17 := hp
          have hp := hp.2.2
          rcases hp with ⟨rfl, h18⟩ | ⟨rfl, h18⟩
          · skip
            refine z_if_ne (tgt := 43) hx hb (show (1 : Int32).toInt = 1 by decide) dX9_due_38 (by decide) (fun _ => ?_) (fun h => absurd h (by decide))
            refine lv_aload_n hx hb dX9_due_43 rfl (lv_at hl 0 rfl) ?_
            refine z_get (C := RX9) (T := TX9) (N := 11) (ci := 9) (v := .ref wk) hx hb hT zin_X9 hown hK hw hm_xo hf_xo rfl 7 (by decide) (hT _ kw_484) rfl dX9_due_44 ?_
            refine z_get (C := RX8) (T := TX8) (N := 8) (ci := 8) (v := .int d2_11) hx hb hT zin_X8 hown hK hw hm_wk hf_wk rfl 6 (by decide) (hT _ kw_355) rfl dX9_due_47 ?_
            refine lv_istore_n (lv' := [(3, .int d2_11), (0, .ref xo), (1, .int ii), (2, .int wh)]) hx hb dX9_due_50 rfl hl (by decide) rfl (fun ls hl => ?_)
            refine lv_iload_n hx hb dX9_due_51 rfl (lv_at hl 3 rfl) ?_
            by_cases c19 : wh.toInt < 0 ∨ 4 < wh.toInt
            · skip
              refine lv_tableOut (tgt := 140) hx hb dX9_due_52 (by rw [show wh.toInt = wh.toInt from rfl]; exact c19) (by decide) ?_
              refine lv_aload_n hx hb dX9_due_140 rfl (lv_at hl 1 rfl) ?_
              refine z_get (C := RX9) (T := TX9) (N := 11) (ci := 9) (v := .ref wk) hx hb hT zin_X9 hown hK hw hm_xo hf_xo rfl 7 (by decide) (hT _ kw_484) rfl dX9_due_141 ?_
              refine z_get (C := RX8) (T := TX8) (N := 8) (ci := 8) (v := .int p2_12) hx hb hT zin_X8 hown hK hw hm_wk hf_wk rfl 7 (by decide) (hT _ kw_357) rfl dX9_due_144 ?_
              exact z_iret hx hb hr hlk (by decide) (by decide) hw (⟨hsub, hfr, w2_9, t2_10, d2_11, p2_12, k2_13, c2_14, q2_15, o2_16, hf_wk, hf_ks, hf_ct, hf_se, hf_ow, by omega, hbg17.2.1⟩) dX9_due_147
            · skip
              have c19s : wh.toInt = 0 ∨ wh.toInt = 1 ∨ wh.toInt = 2 ∨ wh.toInt = 3 ∨ wh.toInt = 4 := by omega
              rcases c19s with c19 | c19 | c19 | c19 | c19
              · skip
                refine lv_tableIn (off := 36) (tgt := 88) hx hb dX9_due_52 (by omega) (by omega) (by rw [show wh.toInt = 0 from c19]; rfl) (by decide) ?_
                refine lv_aload_n hx hb dX9_due_88 rfl (lv_at hl 1 rfl) ?_
                refine z_get (C := RX9) (T := TX9) (N := 11) (ci := 9) (v := .ref mo) hx hb hT zin_X9 hown hK hw hm_xo hf_xo rfl 2 (by decide) (hT _ kw_479) rfl dX9_due_89 ?_
                refine lv_iload_n hx hb dX9_due_92 rfl (lv_at hl 0 rfl) ?_
                refine z_calliV (cells := 0) (slots := 0) (b := mo) (As := [.int d2_11]) (rest := []) (ci := 2) (q0 := (RX2, TX2, 11)) ⟨hx, hb, hml, hown, hT⟩ (c_X2_passage l hm_mo hm_da hf_mo hf_da hg_da hd_da (by first | omega | decide | assumption) (by first | omega | decide | assumption)) (cwV 1 hT (z_goodV (fun _ h => h) kw_717 kw_718 kw_719 kw_87 kw_720) rfl rfl rfl (by decide +kernel) ⟨by decide, by decide⟩) z_mv hKK hK hw hA hm_mo hf_mo rfl rfl rfl hl.1 rfl (Nat.le_of_ble_eq_true rfl) dX9_due_93 ⟨by decide, by decide⟩ (fun r20 u H locs hp hw => ?_)
                obtain ⟨rfl, hp⟩ := hp
                have hw : z_H D vwCl (z_A L sz) s.heap L f8 H locs := hw
                refine lv_bipush (v := 24) hx hb dX9_due_96 (by decide) ?_
                refine lv_idiv hx hb dX9_due_98 (by decide) ?_
                refine lv_topi (fun w21 e_w21 => ?_)
                exact z_iret hx hb hr hlk (by decide) (by decide) hw (⟨hsub, hfr, w2_9, t2_10, d2_11, p2_12, k2_13, c2_14, q2_15, o2_16, hf_wk, hf_ks, hf_ct, hf_se, hf_ow, by omega, hbg17.2.1⟩) dX9_due_99
              · skip
                refine lv_tableIn (off := 48) (tgt := 100) hx hb dX9_due_52 (by omega) (by omega) (by rw [show wh.toInt = 1 from c19]; rfl) (by decide) ?_
                refine lv_aload_n hx hb dX9_due_100 rfl (lv_at hl 1 rfl) ?_
                refine z_get (C := RX9) (T := TX9) (N := 11) (ci := 9) (v := .ref mo) hx hb hT zin_X9 hown hK hw hm_xo hf_xo rfl 2 (by decide) (hT _ kw_479) rfl dX9_due_101 ?_
                refine lv_iload_n hx hb dX9_due_104 rfl (lv_at hl 0 rfl) ?_
                refine z_calliV (cells := 0) (slots := 0) (b := mo) (As := [.int d2_11]) (rest := []) (ci := 2) (q0 := (RX2, TX2, 11)) ⟨hx, hb, hml, hown, hT⟩ (c_X2_passage l hm_mo hm_da hf_mo hf_da hg_da hd_da (by first | omega | decide | assumption) (by first | omega | decide | assumption)) (cwV 1 hT (z_goodV (fun _ h => h) kw_717 kw_718 kw_719 kw_87 kw_720) rfl rfl rfl (by decide +kernel) ⟨by decide, by decide⟩) z_mv hKK hK hw hA hm_mo hf_mo rfl rfl rfl hl.1 rfl (Nat.le_of_ble_eq_true rfl) dX9_due_105 ⟨by decide, by decide⟩ (fun r22 u H locs hp hw => ?_)
                obtain ⟨rfl, hp⟩ := hp
                have hw : z_H D vwCl (z_A L sz) s.heap L f8 H locs := hw
                refine lv_bipush (v := 24) hx hb dX9_due_108 (by decide) ?_
                refine lv_irem hx hb dX9_due_110 (by decide) ?_
                refine lv_topi (fun w23 e_w23 => ?_)
                exact z_iret hx hb hr hlk (by decide) (by decide) hw (⟨hsub, hfr, w2_9, t2_10, d2_11, p2_12, k2_13, c2_14, q2_15, o2_16, hf_wk, hf_ks, hf_ct, hf_se, hf_ow, by omega, hbg17.2.1⟩) dX9_due_111
              · skip
                refine lv_tableIn (off := 60) (tgt := 112) hx hb dX9_due_52 (by omega) (by omega) (by rw [show wh.toInt = 2 from c19]; rfl) (by decide) ?_
                refine lv_aload_n hx hb dX9_due_112 rfl (lv_at hl 1 rfl) ?_
                refine z_get (C := RX9) (T := TX9) (N := 11) (ci := 9) (v := .ref mo) hx hb hT zin_X9 hown hK hw hm_xo hf_xo rfl 2 (by decide) (hT _ kw_479) rfl dX9_due_113 ?_
                refine z_get (C := RX2) (T := TX2) (N := 11) (ci := 2) (v := .ref da) hx hb hT zin_X2 hown hK hw hm_mo hf_mo rfl 10 (by decide) (hT _ kw_245) rfl dX9_due_116 ?_
                refine lv_iload_n hx hb dX9_due_119 rfl (lv_at hl 0 rfl) ?_
                obtain ⟨dq24, e_dq24⟩ : ∃ z, z = dv d2_11.toNatClampNeg := ⟨_, rfl⟩
                have hi_dq24 : d2_11.toNatClampNeg < 13 := z_clI rfl (by omega)
                refine z_aald (b := dq24) hx hb hK hw 4 hm_da hf_da rfl (z_ix rfl (by omega)) (by rw [e_dq24]; exact hg_da _ hi_dq24) dX9_due_120 ?_
                obtain ⟨hm_dq24, do25, dg26, dd27, dh28, ds29, dl30, dp31, dm32, hf_dq24, hr_do25, hr_dg26, hr_dd27, hr_dh28, hr_ds29, hr_dl30, hr_dp31, hr_dm32⟩ := hd_da _ hi_dq24
                rw [← e_dq24] at hm_dq24 hf_dq24
                refine z_get (C := RX0) (T := TX0) (N := 8) (ci := 0) (v := .int dg26) hx hb hT zin_X0 hown hK hw hm_dq24 hf_dq24 rfl 1 (by decide) (hT _ kw_149) rfl dX9_due_121 ?_
                exact z_iret hx hb hr hlk (by decide) (by decide) hw (⟨hsub, hfr, w2_9, t2_10, d2_11, p2_12, k2_13, c2_14, q2_15, o2_16, hf_wk, hf_ks, hf_ct, hf_se, hf_ow, by omega, hbg17.2.1⟩) dX9_due_124
              · skip
                refine lv_tableIn (off := 73) (tgt := 125) hx hb dX9_due_52 (by omega) (by omega) (by rw [show wh.toInt = 3 from c19]; rfl) (by decide) ?_
                refine lv_aload_n hx hb dX9_due_125 rfl (lv_at hl 1 rfl) ?_
                refine z_get (C := RX9) (T := TX9) (N := 11) (ci := 9) (v := .ref mo) hx hb hT zin_X9 hown hK hw hm_xo hf_xo rfl 2 (by decide) (hT _ kw_479) rfl dX9_due_126 ?_
                refine z_get (C := RX2) (T := TX2) (N := 11) (ci := 2) (v := .ref da) hx hb hT zin_X2 hown hK hw hm_mo hf_mo rfl 10 (by decide) (hT _ kw_245) rfl dX9_due_129 ?_
                refine lv_iload_n hx hb dX9_due_132 rfl (lv_at hl 0 rfl) ?_
                obtain ⟨dq33, e_dq33⟩ : ∃ z, z = dv d2_11.toNatClampNeg := ⟨_, rfl⟩
                have hi_dq33 : d2_11.toNatClampNeg < 13 := z_clI rfl (by omega)
                refine z_aald (b := dq33) hx hb hK hw 4 hm_da hf_da rfl (z_ix rfl (by omega)) (by rw [e_dq33]; exact hg_da _ hi_dq33) dX9_due_133 ?_
                obtain ⟨hm_dq33, do34, dg35, dd36, dh37, ds38, dl39, dp40, dm41, hf_dq33, hr_do34, hr_dg35, hr_dd36, hr_dh37, hr_ds38, hr_dl39, hr_dp40, hr_dm41⟩ := hd_da _ hi_dq33
                rw [← e_dq33] at hm_dq33 hf_dq33
                refine z_get (C := RX0) (T := TX0) (N := 8) (ci := 0) (v := .int dp40) hx hb hT zin_X0 hown hK hw hm_dq33 hf_dq33 rfl 6 (by decide) (hT _ kw_176) rfl dX9_due_134 ?_
                exact z_iret hx hb hr hlk (by decide) (by decide) hw (⟨hsub, hfr, w2_9, t2_10, d2_11, p2_12, k2_13, c2_14, q2_15, o2_16, hf_wk, hf_ks, hf_ct, hf_se, hf_ow, by omega, hbg17.2.1⟩) dX9_due_137
              · skip
                refine lv_tableIn (off := 86) (tgt := 138) hx hb dX9_due_52 (by omega) (by omega) (by rw [show wh.toInt = 4 from c19]; rfl) (by decide) ?_
                refine lv_iload_n hx hb dX9_due_138 rfl (lv_at hl 0 rfl) ?_
                exact z_iret hx hb hr hlk (by decide) (by decide) hw (⟨hsub, hfr, w2_9, t2_10, d2_11, p2_12, k2_13, c2_14, q2_15, o2_16, hf_wk, hf_ks, hf_ct, hf_se, hf_ow, by omega, hbg17.2.1⟩) dX9_due_139
          · skip
            refine z_if_ne (tgt := 43) hx hb (show (0 : Int32).toInt = 0 by decide) dX9_due_38 (by decide) (fun h => absurd h (by decide)) (fun _ => ?_)
            refine lv_iconst (v := (-1)) hx hb dX9_due_41 (by decide) ?_
            exact z_iret hx hb hr hlk (by decide) (by decide) hw (⟨hsub, hfr, w2_9, t2_10, d2_11, p2_12, k2_13, c2_14, q2_15, o2_16, hf_wk, hf_ks, hf_ct, hf_se, hf_ow, by omega, hbg17.2.1⟩) dX9_due_42
      · skip
        refine lv_bipush (v := (-2)) hx hb dX9_due_19 (by decide) ?_
        exact z_iret hx hb hr hlk (by decide) (by decide) hw (⟨hsub, hfr, wn, wt, wd, wp, gk, gc, gq, go, hf_wk, hf_ks, hf_ct, hf_se, hf_ow, by omega, hgk⟩) dX9_due_21
  · skip
    refine z_if_eq (tgt := 19) hx hb (show (0 : Int32).toInt = 0 by decide) dX9_due_7 (by decide) (fun _ => ?_) (fun h => absurd h (by decide))
    refine lv_bipush (v := (-2)) hx hb dX9_due_19 (by decide) ?_
    exact z_iret hx hb hr hlk (by decide) (by decide) hw (⟨hsub, hfr, wn, wt, wd, wp, gk, gc, gq, go, hf_wk, hf_ks, hf_ct, hf_se, hf_ow, by omega, hgk⟩) dX9_due_21

set_option maxHeartbeats 2000000 in
set_option maxRecDepth 100000 in
theorem c_X9_paid (l : Launch) {D : va_G} {cy : Nat → ClassId} {L : List Nat} {f : Nat → va_E} {sz : Nat} {adK adV : Nat → Nat} {xo tp rd mo dmo im kp sl wk pl oo mx : Nat} {ks ct se ow : Nat} {wn wt wd wp : Int32} {gk gc gq go : Nat → Int32} {la sa mi da : Nat} {v0 v1 v2 v3 v4 v5 v6 : Int32} {gl gs gm : Nat → Int32} {gd : Nat → Option Nat} {dv : Nat → Nat} {on : Int32} (hm_xo : xo ∈ L) (hm_wk : wk ∈ L) (hm_ks : ks ∈ L) (hm_ct : ct ∈ L) (hm_se : se ∈ L) (hm_ow : ow ∈ L) (hm_mo : mo ∈ L) (hm_la : la ∈ L) (hm_sa : sa ∈ L) (hm_mi : mi ∈ L) (hm_da : da ∈ L) (hf_xo : f xo = .inr (9, [.ref tp, .ref rd, .ref mo, .ref dmo, .ref im, .ref kp, .ref sl, .ref wk, .ref pl, .ref oo, .ref mx])) (hf_wk : f wk = .inr (8, [.ref ks, .int wn, .ref ct, .ref se, .ref ow, .int wt, .int wd, .int wp])) (hf_ks : f ks = .inl (cy 1, 13, .inl gk)) (hf_ct : f ct = .inl (cy 1, 4, .inl gc)) (hf_se : f se = .inl (cy 1, 4, .inl gq)) (hf_ow : f ow = .inl (cy 1, 5, .inl go)) (hf_mo : f mo = .inr (2, [.int v0, .int v1, .int v2, .int v3, .int v4, .int v5, .int v6, .ref la, .ref sa, .ref mi, .ref da])) (hf_la : f la = .inl (cy 1, 5, .inl gl)) (hf_sa : f sa = .inl (cy 1, 4, .inl gs)) (hf_mi : f mi = .inl (cy 1, 36, .inl gm)) (hf_da : f da = .inl (cy 4, 13, .inr (.inr (.inr (.inr gd))))) (ne_ct_se : ct ≠ se) (ne_ct_sa : ct ≠ sa) (ne_se_sa : se ≠ sa) (ne_ow_la : ow ≠ la) (hg_da : ∀ i : Nat, i < 13 → gd i = some (dv i)) (hd_da : z_Drv L f dv 13) (hv2 : 0 ≤ v2.toInt ∧ v2.toInt ≤ 9) (hv5 : 0 ≤ v5.toInt ∧ v5.toInt ≤ 12) (hv1 : 0 ≤ v1.toInt ∧ v1.toInt ≤ 4) (hv3 : 0 ≤ v3.toInt ∧ v3.toInt ≤ 5) (hgk : ∀ j : Nat, z_key (gk j)) (hgm : ∀ j : Nat, 0 ≤ (gm j).toInt ∧ (gm j).toInt ≤ 9) (hwn : 0 ≤ wn.toInt ∧ wn.toInt ≤ 13) : Met l yX9_paid (z_ws yX9_paid cX9_paid 2 (some .int)) (z_R 6 0 0) (va_Pc [.ref xo, .int on] (z_Pre D vwCl (z_KK D cy adK adV) L f sz)) (z_Qi D vwCl (fun r u => L = u.1 ∧ (∀ b ∈ L, b ≠ wk → b ≠ ks → b ≠ ct → b ≠ se → b ≠ ow → u.2 b = f b) ∧ (∃ (w2 t2 d2 p2 : Int32) (k2 c2 q2 o2 : Nat → Int32), (u.2 wk = .inr (8, [.ref ks, .int w2, .ref ct, .ref se, .ref ow, .int t2, .int d2, .int p2])) ∧ (u.2 ks = .inl (cy 1, 13, .inl k2)) ∧ (u.2 ct = .inl (cy 1, 4, .inl c2)) ∧ (u.2 se = .inl (cy 1, 4, .inl q2)) ∧ (u.2 ow = .inl (cy 1, 5, .inl o2)) ∧ ((0 ≤ w2.toInt ∧ w2.toInt ≤ 13) ∧ ∀ j : Nat, z_key (k2 j)))) L sz) 0 0 (z_A L sz) := by
  refine z_met (cc := cX9_paid) (maxL := 2) (ret := (some .int)) (lv := [(0, .ref xo), (1, .int on)]) (by decide) rfl (Nat.le_of_ble_eq_true rfl) rfl ?_
  intro p e s m below meth c ls hx hb hr hlk hml hown hnm hts hKK hA hw hl
  have hK := hKK.1.1
  have hown : s.vm.findClass RX9 = some m.cls := hown
  have hT : ∀ w ∈ lw_all, w.before ([.ref xo, .int on] : List Value).toArray s = true := fun w h => hts w (z_cons w h)
  have hsub : L = L := rfl
  have hfr : ∀ b ∈ L, b ≠ wk → b ≠ ks → b ≠ ct → b ≠ se → b ≠ ow → f b = f b := fun _ _ _ _ _ _ _ => rfl
  refine lv_aload_n hx hb dX9_paid_0 rfl (lv_at hl 0 rfl) ?_
  refine z_get (C := RX9) (T := TX9) (N := 11) (ci := 9) (v := .ref mo) hx hb hT zin_X9 hown hK hw hm_xo hf_xo rfl 2 (by decide) (hT _ kw_479) rfl dX9_paid_1 ?_
  refine lv_iload_n hx hb dX9_paid_4 rfl (lv_at hl 1 rfl) ?_
  refine z_calliV (cells := 0) (slots := 0) (b := mo) (As := [.int on]) (rest := []) (ci := 2) (q0 := (RX2, TX2, 11)) ⟨hx, hb, hml, hown, hT⟩ (c_X2_hasOwner l hm_mo hf_mo) (cwV 1 hT (z_goodV (fun _ h => h) kw_858 kw_859 kw_860 kw_87 kw_861) rfl rfl rfl (by decide +kernel) ⟨by decide, by decide⟩) z_mv hKK hK hw hA hm_mo hf_mo rfl rfl rfl hl.1 rfl (Nat.le_of_ble_eq_true rfl) dX9_paid_5 ⟨by decide, by decide⟩ (fun r1 u H locs hp hw => ?_)
  obtain ⟨rfl, hp⟩ := hp
  have hw : z_H D vwCl (z_A L sz) s.heap L f H locs := hw
  rcases hp with ⟨rfl, h2⟩ | ⟨rfl, h2⟩
  · skip
    refine z_if_ne (tgt := 14) hx hb (show (1 : Int32).toInt = 1 by decide) dX9_paid_8 (by decide) (fun _ => ?_) (fun h => absurd h (by decide))
    refine lv_aload_n hx hb dX9_paid_14 rfl (lv_at hl 0 rfl) ?_
    refine z_get (C := RX9) (T := TX9) (N := 11) (ci := 9) (v := .ref wk) hx hb hT zin_X9 hown hK hw hm_xo hf_xo rfl 7 (by decide) (hT _ kw_484) rfl dX9_paid_15 ?_
    refine lv_aload_n hx hb dX9_paid_18 rfl (lv_at hl 0 rfl) ?_
    refine z_get (C := RX9) (T := TX9) (N := 11) (ci := 9) (v := .ref mo) hx hb hT zin_X9 hown hK hw hm_xo hf_xo rfl 2 (by decide) (hT _ kw_479) rfl dX9_paid_19 ?_
    refine lv_iload_n hx hb dX9_paid_22 rfl (lv_at hl 1 rfl) ?_
    refine z_calliV (cells := 0) (slots := 0) (b := wk) (As := [.ref mo, .int on]) (rest := []) (ci := 8) (q0 := (RX8, TX8, 8)) ⟨hx, hb, hml, hown, hT⟩ (c_X8_sumOf l hm_wk hm_ks hm_ct hm_se hm_ow hm_mo hm_la hm_sa hm_mi hm_da hf_wk hf_ks hf_ct hf_se hf_ow hf_mo hf_la hf_sa hf_mi hf_da ne_ct_se ne_ct_sa ne_se_sa ne_ow_la hg_da hd_da (by first | omega | decide | assumption) (by first | omega | decide | assumption) hgk hgm (by first | omega | decide | assumption)) (cwV 2 hT (z_goodV (fun _ h => h) kw_862 kw_863 kw_864 kw_92 kw_865) rfl rfl rfl (by decide +kernel) ⟨by decide, by decide⟩) z_mv hKK hK hw hA hm_wk hf_wk rfl rfl rfl hl.1 rfl (Nat.le_of_ble_eq_true rfl) dX9_paid_23 ⟨by decide, by decide⟩ (fun r3 u H locs hp hw => ?_)
    obtain ⟨L4, f5⟩ := u
    obtain ⟨hsb, hfm, w2_6, t2_7, k2_8, c2_9, q2_10, o2_11, ha_0, ha_1, ha_2, ha_3, ha_4, hp⟩ := hp
    have hsb : L = L4 := hsb
    subst hsb
    have hsb : ∀ b ∈ L, b ∈ L := fun _ h => h
    have hw : z_H D vwCl (z_A L sz) s.heap L f5 H locs := hw
    have hfr : ∀ b ∈ L, b ≠ wk → b ≠ ks → b ≠ ct → b ≠ se → b ≠ ow → f5 b = f b := fun b hb h0 h1 h2 h3 h4 => (hfm b hb h0 h1 h2 h3 h4).trans (hfr b hb h0 h1 h2 h3 h4)
    have hd_da : z_Drv L f5 dv 13 := z_Drv_fr hd_da hsb (fun b hb ht => hfm b hb (z_t0 ht hf_wk (m := 8) rfl (by decide)) (z_t0 ht hf_ks (m := 204) rfl (by decide)) (z_t0 ht hf_ct (m := 132) rfl (by decide)) (z_t0 ht hf_se (m := 132) rfl (by decide)) (z_t0 ht hf_ow (m := 140) rfl (by decide)))
    have hf_xo : f5 xo = .inr (9, [.ref tp, .ref rd, .ref mo, .ref dmo, .ref im, .ref kp, .ref sl, .ref wk, .ref pl, .ref oo, .ref mx]) := (hfm xo hm_xo (z_tne hf_xo hf_wk (m := 9) (n := 8) rfl rfl (by decide)) (z_tne hf_xo hf_ks (m := 9) (n := 204) rfl rfl (by decide)) (z_tne hf_xo hf_ct (m := 9) (n := 132) rfl rfl (by decide)) (z_tne hf_xo hf_se (m := 9) (n := 132) rfl rfl (by decide)) (z_tne hf_xo hf_ow (m := 9) (n := 140) rfl rfl (by decide))).trans hf_xo
    have hf_mo : f5 mo = .inr (2, [.int v0, .int v1, .int v2, .int v3, .int v4, .int v5, .int v6, .ref la, .ref sa, .ref mi, .ref da]) := (hfm mo hm_mo (z_tne hf_mo hf_wk (m := 2) (n := 8) rfl rfl (by decide)) (z_tne hf_mo hf_ks (m := 2) (n := 204) rfl rfl (by decide)) (z_tne hf_mo hf_ct (m := 2) (n := 132) rfl rfl (by decide)) (z_tne hf_mo hf_se (m := 2) (n := 132) rfl rfl (by decide)) (z_tne hf_mo hf_ow (m := 2) (n := 140) rfl rfl (by decide))).trans hf_mo
    have hf_la : f5 la = .inl (cy 1, 5, .inl gl) := (hfm la hm_la (z_tne hf_la hf_wk (m := 140) (n := 8) rfl rfl (by decide)) (z_tne hf_la hf_ks (m := 140) (n := 204) rfl rfl (by decide)) (z_tne hf_la hf_ct (m := 140) (n := 132) rfl rfl (by decide)) (z_tne hf_la hf_se (m := 140) (n := 132) rfl rfl (by decide)) (Ne.symm ne_ow_la)).trans hf_la
    have hf_sa : f5 sa = .inl (cy 1, 4, .inl gs) := (hfm sa hm_sa (z_tne hf_sa hf_wk (m := 132) (n := 8) rfl rfl (by decide)) (z_tne hf_sa hf_ks (m := 132) (n := 204) rfl rfl (by decide)) (Ne.symm ne_ct_sa) (Ne.symm ne_se_sa) (z_tne hf_sa hf_ow (m := 132) (n := 140) rfl rfl (by decide))).trans hf_sa
    have hf_mi : f5 mi = .inl (cy 1, 36, .inl gm) := (hfm mi hm_mi (z_tne hf_mi hf_wk (m := 388) (n := 8) rfl rfl (by decide)) (z_tne hf_mi hf_ks (m := 388) (n := 204) rfl rfl (by decide)) (z_tne hf_mi hf_ct (m := 388) (n := 132) rfl rfl (by decide)) (z_tne hf_mi hf_se (m := 388) (n := 132) rfl rfl (by decide)) (z_tne hf_mi hf_ow (m := 388) (n := 140) rfl rfl (by decide))).trans hf_mi
    have hf_da : f5 da = .inl (cy 4, 13, .inr (.inr (.inr (.inr gd)))) := (hfm da hm_da (z_tne hf_da hf_wk (m := 206) (n := 8) rfl rfl (by decide)) (z_tne hf_da hf_ks (m := 206) (n := 204) rfl rfl (by decide)) (z_tne hf_da hf_ct (m := 206) (n := 132) rfl rfl (by decide)) (z_tne hf_da hf_se (m := 206) (n := 132) rfl rfl (by decide)) (z_tne hf_da hf_ow (m := 206) (n := 140) rfl rfl (by decide))).trans hf_da
    have hf_wk : f5 wk = .inr (8, [.ref ks, .int w2_6, .ref ct, .ref se, .ref ow, .int t2_7, .int wd, .int wp]) := ha_0
    have hf_ks : f5 ks = .inl (cy 1, 13, .inl k2_8) := ha_1
    have hf_ct : f5 ct = .inl (cy 1, 4, .inl c2_9) := ha_2
    have hf_se : f5 se = .inl (cy 1, 4, .inl q2_10) := ha_3
    have hf_ow : f5 ow = .inl (cy 1, 5, .inl o2_11) := ha_4
    have hbg12 := hp
    exact z_iret hx hb hr hlk (by decide) (by decide) hw (⟨hsub, hfr, w2_6, t2_7, wd, wp, k2_8, c2_9, q2_10, o2_11, hf_wk, hf_ks, hf_ct, hf_se, hf_ow, by omega, hbg12.2⟩) dX9_paid_26
  · skip
    refine z_if_ne (tgt := 14) hx hb (show (0 : Int32).toInt = 0 by decide) dX9_paid_8 (by decide) (fun h => absurd h (by decide)) (fun _ => ?_)
    refine lv_bipush (v := (-2)) hx hb dX9_paid_11 (by decide) ?_
    exact z_iret hx hb hr hlk (by decide) (by decide) hw (⟨hsub, hfr, wn, wt, wd, wp, gk, gc, gq, go, hf_wk, hf_ks, hf_ct, hf_se, hf_ow, by omega, hgk⟩) dX9_paid_13

set_option maxHeartbeats 2000000 in
set_option maxRecDepth 100000 in
theorem c_X9_pays (l : Launch) {D : va_G} {cy : Nat → ClassId} {L : List Nat} {f : Nat → va_E} {sz : Nat} {adK adV : Nat → Nat} {xo tp rd mo dmo im kp sl wk pl oo mx : Nat} {ks ct se ow : Nat} {wn wt wd wp : Int32} {gk gc gq go : Nat → Int32} {la sa mi da : Nat} {v0 v1 v2 v3 v4 v5 v6 : Int32} {gl gs gm : Nat → Int32} {gd : Nat → Option Nat} {dv : Nat → Nat} {on dy : Int32} (hm_xo : xo ∈ L) (hm_wk : wk ∈ L) (hm_ks : ks ∈ L) (hm_ct : ct ∈ L) (hm_se : se ∈ L) (hm_ow : ow ∈ L) (hm_mo : mo ∈ L) (hm_la : la ∈ L) (hm_sa : sa ∈ L) (hm_mi : mi ∈ L) (hm_da : da ∈ L) (hf_xo : f xo = .inr (9, [.ref tp, .ref rd, .ref mo, .ref dmo, .ref im, .ref kp, .ref sl, .ref wk, .ref pl, .ref oo, .ref mx])) (hf_wk : f wk = .inr (8, [.ref ks, .int wn, .ref ct, .ref se, .ref ow, .int wt, .int wd, .int wp])) (hf_ks : f ks = .inl (cy 1, 13, .inl gk)) (hf_ct : f ct = .inl (cy 1, 4, .inl gc)) (hf_se : f se = .inl (cy 1, 4, .inl gq)) (hf_ow : f ow = .inl (cy 1, 5, .inl go)) (hf_mo : f mo = .inr (2, [.int v0, .int v1, .int v2, .int v3, .int v4, .int v5, .int v6, .ref la, .ref sa, .ref mi, .ref da])) (hf_la : f la = .inl (cy 1, 5, .inl gl)) (hf_sa : f sa = .inl (cy 1, 4, .inl gs)) (hf_mi : f mi = .inl (cy 1, 36, .inl gm)) (hf_da : f da = .inl (cy 4, 13, .inr (.inr (.inr (.inr gd))))) (ne_ct_se : ct ≠ se) (ne_ct_sa : ct ≠ sa) (ne_se_sa : se ≠ sa) (ne_ow_la : ow ≠ la) (hg_da : ∀ i : Nat, i < 13 → gd i = some (dv i)) (hd_da : z_Drv L f dv 13) (hv2 : 0 ≤ v2.toInt ∧ v2.toInt ≤ 9) (hv5 : 0 ≤ v5.toInt ∧ v5.toInt ≤ 12) (hv1 : 0 ≤ v1.toInt ∧ v1.toInt ≤ 4) (hv3 : 0 ≤ v3.toInt ∧ v3.toInt ≤ 5) (hgk : ∀ j : Nat, z_key (gk j)) (hgm : ∀ j : Nat, 0 ≤ (gm j).toInt ∧ (gm j).toInt ≤ 9) (hwn : 0 ≤ wn.toInt ∧ wn.toInt ≤ 13) : Met l yX9_pays (z_ws yX9_pays cX9_pays 3 (some .int)) (z_R 5 0 0) (va_Pc [.ref xo, .int on, .int dy] (z_Pre D vwCl (z_KK D cy adK adV) L f sz)) (z_Qi D vwCl (fun r u => L = u.1 ∧ (∀ b ∈ L, b ≠ wk → b ≠ ks → b ≠ ct → b ≠ se → b ≠ ow → u.2 b = f b) ∧ (∃ (w2 t2 d2 p2 : Int32) (k2 c2 q2 o2 : Nat → Int32), (u.2 wk = .inr (8, [.ref ks, .int w2, .ref ct, .ref se, .ref ow, .int t2, .int d2, .int p2])) ∧ (u.2 ks = .inl (cy 1, 13, .inl k2)) ∧ (u.2 ct = .inl (cy 1, 4, .inl c2)) ∧ (u.2 se = .inl (cy 1, 4, .inl q2)) ∧ (u.2 ow = .inl (cy 1, 5, .inl o2)) ∧ ((0 ≤ w2.toInt ∧ w2.toInt ≤ 13) ∧ ∀ j : Nat, z_key (k2 j)))) L sz) 0 0 (z_A L sz) := by
  refine z_met (cc := cX9_pays) (maxL := 3) (ret := (some .int)) (lv := [(0, .ref xo), (1, .int on), (2, .int dy)]) (by decide) rfl (Nat.le_of_ble_eq_true rfl) rfl ?_
  intro p e s m below meth c ls hx hb hr hlk hml hown hnm hts hKK hA hw hl
  have hK := hKK.1.1
  have hown : s.vm.findClass RX9 = some m.cls := hown
  have hT : ∀ w ∈ lw_all, w.before ([.ref xo, .int on, .int dy] : List Value).toArray s = true := fun w h => hts w (z_cons w h)
  have hsub : L = L := rfl
  have hfr : ∀ b ∈ L, b ≠ wk → b ≠ ks → b ≠ ct → b ≠ se → b ≠ ow → f b = f b := fun _ _ _ _ _ _ _ => rfl
  refine lv_aload_n hx hb dX9_pays_0 rfl (lv_at hl 0 rfl) ?_
  refine z_get (C := RX9) (T := TX9) (N := 11) (ci := 9) (v := .ref mo) hx hb hT zin_X9 hown hK hw hm_xo hf_xo rfl 2 (by decide) (hT _ kw_479) rfl dX9_pays_1 ?_
  refine lv_iload_n hx hb dX9_pays_4 rfl (lv_at hl 1 rfl) ?_
  refine z_calliV (cells := 0) (slots := 0) (b := mo) (As := [.int on]) (rest := []) (ci := 2) (q0 := (RX2, TX2, 11)) ⟨hx, hb, hml, hown, hT⟩ (c_X2_hasOwner l hm_mo hf_mo) (cwV 1 hT (z_goodV (fun _ h => h) kw_858 kw_859 kw_860 kw_87 kw_861) rfl rfl rfl (by decide +kernel) ⟨by decide, by decide⟩) z_mv hKK hK hw hA hm_mo hf_mo rfl rfl rfl hl.1 rfl (Nat.le_of_ble_eq_true rfl) dX9_pays_5 ⟨by decide, by decide⟩ (fun r1 u H locs hp hw => ?_)
  obtain ⟨rfl, hp⟩ := hp
  have hw : z_H D vwCl (z_A L sz) s.heap L f H locs := hw
  rcases hp with ⟨rfl, h2⟩ | ⟨rfl, h2⟩
  · skip
    refine z_if_eq (tgt := 22) hx hb (show (1 : Int32).toInt = 1 by decide) dX9_pays_8 (by decide) (fun h => absurd h (by decide)) (fun _ => ?_)
    refine lv_aload_n hx hb dX9_pays_11 rfl (lv_at hl 0 rfl) ?_
    refine z_get (C := RX9) (T := TX9) (N := 11) (ci := 9) (v := .ref mo) hx hb hT zin_X9 hown hK hw hm_xo hf_xo rfl 2 (by decide) (hT _ kw_479) rfl dX9_pays_12 ?_
    refine lv_iload_n hx hb dX9_pays_15 rfl (lv_at hl 2 rfl) ?_
    refine z_calliV (cells := 0) (slots := 0) (b := mo) (As := [.int dy]) (rest := []) (ci := 2) (q0 := (RX2, TX2, 11)) ⟨hx, hb, hml, hown, hT⟩ (c_X2_hasDay l hm_mo hf_mo) (cwV 1 hT (z_goodV (fun _ h => h) kw_751 kw_752 kw_753 kw_87 kw_754) rfl rfl rfl (by decide +kernel) ⟨by decide, by decide⟩) z_mv hKK hK hw hA hm_mo hf_mo rfl rfl rfl hl.1 rfl (Nat.le_of_ble_eq_true rfl) dX9_pays_16 ⟨by decide, by decide⟩ (fun r3 u H locs hp hw => ?_)
    obtain ⟨rfl, hp⟩ := hp
    have hw : z_H D vwCl (z_A L sz) s.heap L f H locs := hw
    rcases hp with ⟨rfl, h4⟩ | ⟨rfl, h4⟩
    · skip
      refine z_if_ne (tgt := 25) hx hb (show (1 : Int32).toInt = 1 by decide) dX9_pays_19 (by decide) (fun _ => ?_) (fun h => absurd h (by decide))
      refine lv_aload_n hx hb dX9_pays_25 rfl (lv_at hl 0 rfl) ?_
      refine z_get (C := RX9) (T := TX9) (N := 11) (ci := 9) (v := .ref wk) hx hb hT zin_X9 hown hK hw hm_xo hf_xo rfl 7 (by decide) (hT _ kw_484) rfl dX9_pays_26 ?_
      refine lv_aload_n hx hb dX9_pays_29 rfl (lv_at hl 0 rfl) ?_
      refine z_get (C := RX9) (T := TX9) (N := 11) (ci := 9) (v := .ref mo) hx hb hT zin_X9 hown hK hw hm_xo hf_xo rfl 2 (by decide) (hT _ kw_479) rfl dX9_pays_30 ?_
      refine lv_iload_n hx hb dX9_pays_33 rfl (lv_at hl 1 rfl) ?_
      refine lv_iload_n hx hb dX9_pays_34 rfl (lv_at hl 2 rfl) ?_
      refine z_calliV (cells := 0) (slots := 0) (b := wk) (As := [.ref mo, .int on, .int dy]) (rest := []) (ci := 8) (q0 := (RX8, TX8, 8)) ⟨hx, hb, hml, hown, hT⟩ (c_X8_duesOn l hm_wk hm_ks hm_ct hm_se hm_ow hm_mo hm_la hm_sa hm_mi hm_da hf_wk hf_ks hf_ct hf_se hf_ow hf_mo hf_la hf_sa hf_mi hf_da ne_ct_se ne_ct_sa ne_se_sa ne_ow_la hg_da hd_da (by first | omega | decide | assumption) (by first | omega | decide | assumption) hgk hgm) (cwV 3 hT (z_goodV (fun _ h => h) kw_871 kw_872 kw_873 kw_92 kw_874) rfl rfl rfl (by decide +kernel) ⟨by decide, by decide⟩) z_mv hKK hK hw hA hm_wk hf_wk rfl rfl rfl hl.1 rfl (Nat.le_of_ble_eq_true rfl) dX9_pays_35 ⟨by decide, by decide⟩ (fun r5 u H locs hp hw => ?_)
      obtain ⟨L6, f7⟩ := u
      obtain ⟨hsb, hfm, w2_8, t2_9, k2_10, c2_11, q2_12, o2_13, ha_0, ha_1, ha_2, ha_3, ha_4, hp⟩ := hp
      have hsb : L = L6 := hsb
      subst hsb
      have hsb : ∀ b ∈ L, b ∈ L := fun _ h => h
      have hw : z_H D vwCl (z_A L sz) s.heap L f7 H locs := hw
      have hfr : ∀ b ∈ L, b ≠ wk → b ≠ ks → b ≠ ct → b ≠ se → b ≠ ow → f7 b = f b := fun b hb h0 h1 h2 h3 h4 => (hfm b hb h0 h1 h2 h3 h4).trans (hfr b hb h0 h1 h2 h3 h4)
      have hd_da : z_Drv L f7 dv 13 := z_Drv_fr hd_da hsb (fun b hb ht => hfm b hb (z_t0 ht hf_wk (m := 8) rfl (by decide)) (z_t0 ht hf_ks (m := 204) rfl (by decide)) (z_t0 ht hf_ct (m := 132) rfl (by decide)) (z_t0 ht hf_se (m := 132) rfl (by decide)) (z_t0 ht hf_ow (m := 140) rfl (by decide)))
      have hf_xo : f7 xo = .inr (9, [.ref tp, .ref rd, .ref mo, .ref dmo, .ref im, .ref kp, .ref sl, .ref wk, .ref pl, .ref oo, .ref mx]) := (hfm xo hm_xo (z_tne hf_xo hf_wk (m := 9) (n := 8) rfl rfl (by decide)) (z_tne hf_xo hf_ks (m := 9) (n := 204) rfl rfl (by decide)) (z_tne hf_xo hf_ct (m := 9) (n := 132) rfl rfl (by decide)) (z_tne hf_xo hf_se (m := 9) (n := 132) rfl rfl (by decide)) (z_tne hf_xo hf_ow (m := 9) (n := 140) rfl rfl (by decide))).trans hf_xo
      have hf_mo : f7 mo = .inr (2, [.int v0, .int v1, .int v2, .int v3, .int v4, .int v5, .int v6, .ref la, .ref sa, .ref mi, .ref da]) := (hfm mo hm_mo (z_tne hf_mo hf_wk (m := 2) (n := 8) rfl rfl (by decide)) (z_tne hf_mo hf_ks (m := 2) (n := 204) rfl rfl (by decide)) (z_tne hf_mo hf_ct (m := 2) (n := 132) rfl rfl (by decide)) (z_tne hf_mo hf_se (m := 2) (n := 132) rfl rfl (by decide)) (z_tne hf_mo hf_ow (m := 2) (n := 140) rfl rfl (by decide))).trans hf_mo
      have hf_la : f7 la = .inl (cy 1, 5, .inl gl) := (hfm la hm_la (z_tne hf_la hf_wk (m := 140) (n := 8) rfl rfl (by decide)) (z_tne hf_la hf_ks (m := 140) (n := 204) rfl rfl (by decide)) (z_tne hf_la hf_ct (m := 140) (n := 132) rfl rfl (by decide)) (z_tne hf_la hf_se (m := 140) (n := 132) rfl rfl (by decide)) (Ne.symm ne_ow_la)).trans hf_la
      have hf_sa : f7 sa = .inl (cy 1, 4, .inl gs) := (hfm sa hm_sa (z_tne hf_sa hf_wk (m := 132) (n := 8) rfl rfl (by decide)) (z_tne hf_sa hf_ks (m := 132) (n := 204) rfl rfl (by decide)) (Ne.symm ne_ct_sa) (Ne.symm ne_se_sa) (z_tne hf_sa hf_ow (m := 132) (n := 140) rfl rfl (by decide))).trans hf_sa
      have hf_mi : f7 mi = .inl (cy 1, 36, .inl gm) := (hfm mi hm_mi (z_tne hf_mi hf_wk (m := 388) (n := 8) rfl rfl (by decide)) (z_tne hf_mi hf_ks (m := 388) (n := 204) rfl rfl (by decide)) (z_tne hf_mi hf_ct (m := 388) (n := 132) rfl rfl (by decide)) (z_tne hf_mi hf_se (m := 388) (n := 132) rfl rfl (by decide)) (z_tne hf_mi hf_ow (m := 388) (n := 140) rfl rfl (by decide))).trans hf_mi
      have hf_da : f7 da = .inl (cy 4, 13, .inr (.inr (.inr (.inr gd)))) := (hfm da hm_da (z_tne hf_da hf_wk (m := 206) (n := 8) rfl rfl (by decide)) (z_tne hf_da hf_ks (m := 206) (n := 204) rfl rfl (by decide)) (z_tne hf_da hf_ct (m := 206) (n := 132) rfl rfl (by decide)) (z_tne hf_da hf_se (m := 206) (n := 132) rfl rfl (by decide)) (z_tne hf_da hf_ow (m := 206) (n := 140) rfl rfl (by decide))).trans hf_da
      have hf_wk : f7 wk = .inr (8, [.ref ks, .int w2_8, .ref ct, .ref se, .ref ow, .int t2_9, .int wd, .int wp]) := ha_0
      have hf_ks : f7 ks = .inl (cy 1, 13, .inl k2_10) := ha_1
      have hf_ct : f7 ct = .inl (cy 1, 4, .inl c2_11) := ha_2
      have hf_se : f7 se = .inl (cy 1, 4, .inl q2_12) := ha_3
      have hf_ow : f7 ow = .inl (cy 1, 5, .inl o2_13) := ha_4
      have hbg14 := hp
      exact z_iret hx hb hr hlk (by decide) (by decide) hw (⟨hsub, hfr, w2_8, t2_9, wd, wp, k2_10, c2_11, q2_12, o2_13, hf_wk, hf_ks, hf_ct, hf_se, hf_ow, by omega, hbg14.2⟩) dX9_pays_38
    · skip
      refine z_if_ne (tgt := 25) hx hb (show (0 : Int32).toInt = 0 by decide) dX9_pays_19 (by decide) (fun h => absurd h (by decide)) (fun _ => ?_)
      refine lv_bipush (v := (-2)) hx hb dX9_pays_22 (by decide) ?_
      exact z_iret hx hb hr hlk (by decide) (by decide) hw (⟨hsub, hfr, wn, wt, wd, wp, gk, gc, gq, go, hf_wk, hf_ks, hf_ct, hf_se, hf_ow, by omega, hgk⟩) dX9_pays_24
  · skip
    refine z_if_eq (tgt := 22) hx hb (show (0 : Int32).toInt = 0 by decide) dX9_pays_8 (by decide) (fun _ => ?_) (fun h => absurd h (by decide))
    refine lv_bipush (v := (-2)) hx hb dX9_pays_22 (by decide) ?_
    exact z_iret hx hb hr hlk (by decide) (by decide) hw (⟨hsub, hfr, wn, wt, wd, wp, gk, gc, gq, go, hf_wk, hf_ks, hf_ct, hf_se, hf_ow, by omega, hgk⟩) dX9_pays_24

set_option maxHeartbeats 2000000 in
set_option maxRecDepth 100000 in
theorem c_X9_worst (l : Launch) {D : va_G} {cy : Nat → ClassId} {L : List Nat} {f : Nat → va_E} {sz : Nat} {adK adV : Nat → Nat} {xo tp rd mo dmo im kp sl wk pl oo mx : Nat} {ks ct se ow : Nat} {wn wt wd wp : Int32} {gk gc gq go : Nat → Int32} {la sa mi da : Nat} {v0 v1 v2 v3 v4 v5 v6 : Int32} {gl gs gm : Nat → Int32} {gd : Nat → Option Nat} {dv : Nat → Nat} (hm_xo : xo ∈ L) (hm_wk : wk ∈ L) (hm_ks : ks ∈ L) (hm_ct : ct ∈ L) (hm_se : se ∈ L) (hm_ow : ow ∈ L) (hm_mo : mo ∈ L) (hm_la : la ∈ L) (hm_sa : sa ∈ L) (hm_mi : mi ∈ L) (hm_da : da ∈ L) (hf_xo : f xo = .inr (9, [.ref tp, .ref rd, .ref mo, .ref dmo, .ref im, .ref kp, .ref sl, .ref wk, .ref pl, .ref oo, .ref mx])) (hf_wk : f wk = .inr (8, [.ref ks, .int wn, .ref ct, .ref se, .ref ow, .int wt, .int wd, .int wp])) (hf_ks : f ks = .inl (cy 1, 13, .inl gk)) (hf_ct : f ct = .inl (cy 1, 4, .inl gc)) (hf_se : f se = .inl (cy 1, 4, .inl gq)) (hf_ow : f ow = .inl (cy 1, 5, .inl go)) (hf_mo : f mo = .inr (2, [.int v0, .int v1, .int v2, .int v3, .int v4, .int v5, .int v6, .ref la, .ref sa, .ref mi, .ref da])) (hf_la : f la = .inl (cy 1, 5, .inl gl)) (hf_sa : f sa = .inl (cy 1, 4, .inl gs)) (hf_mi : f mi = .inl (cy 1, 36, .inl gm)) (hf_da : f da = .inl (cy 4, 13, .inr (.inr (.inr (.inr gd))))) (ne_ct_se : ct ≠ se) (ne_ct_sa : ct ≠ sa) (ne_se_sa : se ≠ sa) (ne_ow_la : ow ≠ la) (hg_da : ∀ i : Nat, i < 13 → gd i = some (dv i)) (hd_da : z_Drv L f dv 13) (hv2 : 0 ≤ v2.toInt ∧ v2.toInt ≤ 9) (hv5 : 0 ≤ v5.toInt ∧ v5.toInt ≤ 12) (hv1 : 0 ≤ v1.toInt ∧ v1.toInt ≤ 4) (hv3 : 0 ≤ v3.toInt ∧ v3.toInt ≤ 5) (hgk : ∀ j : Nat, z_key (gk j)) (hgm : ∀ j : Nat, 0 ≤ (gm j).toInt ∧ (gm j).toInt ≤ 9) (hwn : 0 ≤ wn.toInt ∧ wn.toInt ≤ 13) : Met l yX9_worst (z_ws yX9_worst cX9_worst 4 (some .int)) (z_R 5 0 0) (va_Pc [.ref xo] (z_Pre D vwCl (z_KK D cy adK adV) L f sz)) (z_Qi D vwCl (fun r u => L = u.1 ∧ (∀ b ∈ L, b ≠ wk → b ≠ ks → b ≠ ct → b ≠ se → b ≠ ow → u.2 b = f b) ∧ (∃ (w2 t2 d2 p2 : Int32) (k2 c2 q2 o2 : Nat → Int32), (u.2 wk = .inr (8, [.ref ks, .int w2, .ref ct, .ref se, .ref ow, .int t2, .int d2, .int p2])) ∧ (u.2 ks = .inl (cy 1, 13, .inl k2)) ∧ (u.2 ct = .inl (cy 1, 4, .inl c2)) ∧ (u.2 se = .inl (cy 1, 4, .inl q2)) ∧ (u.2 ow = .inl (cy 1, 5, .inl o2)) ∧ ((0 ≤ w2.toInt ∧ w2.toInt ≤ 13) ∧ ∀ j : Nat, z_key (k2 j)))) L sz) 0 0 (z_A L sz) := by
  refine z_met (cc := cX9_worst) (maxL := 4) (ret := (some .int)) (lv := [(0, .ref xo)]) (by decide) rfl (Nat.le_of_ble_eq_true rfl) rfl ?_
  intro p e s m below meth c ls hx hb hr hlk hml hown hnm hts hKK hA hw hl
  have hK := hKK.1.1
  have hown : s.vm.findClass RX9 = some m.cls := hown
  have hT : ∀ w ∈ lw_all, w.before ([.ref xo] : List Value).toArray s = true := fun w h => hts w (z_cons w h)
  have hsub : L = L := rfl
  have hfr : ∀ b ∈ L, b ≠ wk → b ≠ ks → b ≠ ct → b ≠ se → b ≠ ow → f b = f b := fun _ _ _ _ _ _ _ => rfl
  refine lv_aload_n hx hb dX9_worst_0 rfl (lv_at hl 0 rfl) ?_
  refine z_get (C := RX9) (T := TX9) (N := 11) (ci := 9) (v := .ref mo) hx hb hT zin_X9 hown hK hw hm_xo hf_xo rfl 2 (by decide) (hT _ kw_479) rfl dX9_worst_1 ?_
  refine z_calliV (cells := 0) (slots := 0) (b := mo) (As := []) (rest := []) (ci := 2) (q0 := (RX2, TX2, 11)) ⟨hx, hb, hml, hown, hT⟩ (c_X2_isTold l hm_mo hf_mo) (cwV 0 hT (z_goodV (fun _ h => h) kw_725 kw_726 kw_727 kw_87 kw_728) rfl rfl rfl (by decide +kernel) ⟨by decide, by decide⟩) z_mv hKK hK hw hA hm_mo hf_mo rfl rfl rfl hl.1 rfl (Nat.le_of_ble_eq_true rfl) dX9_worst_4 ⟨by decide, by decide⟩ (fun r1 u H locs hp hw => ?_)
  obtain ⟨rfl, hp⟩ := hp
  have hw : z_H D vwCl (z_A L sz) s.heap L f H locs := hw
  rcases hp with ⟨rfl, h2⟩ | ⟨rfl, h2⟩
  · skip
    refine z_if_ne (tgt := 13) hx hb (show (1 : Int32).toInt = 1 by decide) dX9_worst_7 (by decide) (fun _ => ?_) (fun h => absurd h (by decide))
    refine lv_aload_n hx hb dX9_worst_13 rfl (lv_at hl 0 rfl) ?_
    refine z_get (C := RX9) (T := TX9) (N := 11) (ci := 9) (v := .ref wk) hx hb hT zin_X9 hown hK hw hm_xo hf_xo rfl 7 (by decide) (hT _ kw_484) rfl dX9_worst_14 ?_
    refine lv_aload_n hx hb dX9_worst_17 rfl (lv_at hl 0 rfl) ?_
    refine z_get (C := RX9) (T := TX9) (N := 11) (ci := 9) (v := .ref mo) hx hb hT zin_X9 hown hK hw hm_xo hf_xo rfl 2 (by decide) (hT _ kw_479) rfl dX9_worst_18 ?_
    refine z_calliV (cells := 0) (slots := 0) (b := wk) (As := [.ref mo]) (rest := []) (ci := 8) (q0 := (RX8, TX8, 8)) ⟨hx, hb, hml, hown, hT⟩ (c_X8_tally l hm_wk hm_ks hm_ct hm_se hm_ow hm_mo hm_la hm_sa hm_mi hm_da hf_wk hf_ks hf_ct hf_se hf_ow hf_mo hf_la hf_sa hf_mi hf_da ne_ct_se ne_ct_sa ne_se_sa ne_ow_la hg_da hd_da (by first | omega | decide | assumption) (by first | omega | decide | assumption) hgk hgm) (cwV 1 hT (z_goodV (fun _ h => h) kw_834 kw_835 kw_836 kw_92 kw_837) rfl rfl rfl (by decide +kernel) ⟨by decide, by decide⟩) z_mv hKK hK hw hA hm_wk hf_wk rfl rfl rfl hl.1 rfl (Nat.le_of_ble_eq_true rfl) dX9_worst_21 ⟨by decide, by decide⟩ (fun r3 u H locs hp hw => ?_)
    obtain ⟨L4, f5⟩ := u
    obtain ⟨hsb, hfm, w2_6, t2_7, k2_8, c2_9, q2_10, o2_11, ha_0, ha_1, ha_2, ha_3, ha_4, hp⟩ := hp
    have hsb : L = L4 := hsb
    subst hsb
    have hsb : ∀ b ∈ L, b ∈ L := fun _ h => h
    have hw : z_H D vwCl (z_A L sz) s.heap L f5 H locs := hw
    have hfr : ∀ b ∈ L, b ≠ wk → b ≠ ks → b ≠ ct → b ≠ se → b ≠ ow → f5 b = f b := fun b hb h0 h1 h2 h3 h4 => (hfm b hb h0 h1 h2 h3 h4).trans (hfr b hb h0 h1 h2 h3 h4)
    have hd_da : z_Drv L f5 dv 13 := z_Drv_fr hd_da hsb (fun b hb ht => hfm b hb (z_t0 ht hf_wk (m := 8) rfl (by decide)) (z_t0 ht hf_ks (m := 204) rfl (by decide)) (z_t0 ht hf_ct (m := 132) rfl (by decide)) (z_t0 ht hf_se (m := 132) rfl (by decide)) (z_t0 ht hf_ow (m := 140) rfl (by decide)))
    have hf_xo : f5 xo = .inr (9, [.ref tp, .ref rd, .ref mo, .ref dmo, .ref im, .ref kp, .ref sl, .ref wk, .ref pl, .ref oo, .ref mx]) := (hfm xo hm_xo (z_tne hf_xo hf_wk (m := 9) (n := 8) rfl rfl (by decide)) (z_tne hf_xo hf_ks (m := 9) (n := 204) rfl rfl (by decide)) (z_tne hf_xo hf_ct (m := 9) (n := 132) rfl rfl (by decide)) (z_tne hf_xo hf_se (m := 9) (n := 132) rfl rfl (by decide)) (z_tne hf_xo hf_ow (m := 9) (n := 140) rfl rfl (by decide))).trans hf_xo
    have hf_mo : f5 mo = .inr (2, [.int v0, .int v1, .int v2, .int v3, .int v4, .int v5, .int v6, .ref la, .ref sa, .ref mi, .ref da]) := (hfm mo hm_mo (z_tne hf_mo hf_wk (m := 2) (n := 8) rfl rfl (by decide)) (z_tne hf_mo hf_ks (m := 2) (n := 204) rfl rfl (by decide)) (z_tne hf_mo hf_ct (m := 2) (n := 132) rfl rfl (by decide)) (z_tne hf_mo hf_se (m := 2) (n := 132) rfl rfl (by decide)) (z_tne hf_mo hf_ow (m := 2) (n := 140) rfl rfl (by decide))).trans hf_mo
    have hf_la : f5 la = .inl (cy 1, 5, .inl gl) := (hfm la hm_la (z_tne hf_la hf_wk (m := 140) (n := 8) rfl rfl (by decide)) (z_tne hf_la hf_ks (m := 140) (n := 204) rfl rfl (by decide)) (z_tne hf_la hf_ct (m := 140) (n := 132) rfl rfl (by decide)) (z_tne hf_la hf_se (m := 140) (n := 132) rfl rfl (by decide)) (Ne.symm ne_ow_la)).trans hf_la
    have hf_sa : f5 sa = .inl (cy 1, 4, .inl gs) := (hfm sa hm_sa (z_tne hf_sa hf_wk (m := 132) (n := 8) rfl rfl (by decide)) (z_tne hf_sa hf_ks (m := 132) (n := 204) rfl rfl (by decide)) (Ne.symm ne_ct_sa) (Ne.symm ne_se_sa) (z_tne hf_sa hf_ow (m := 132) (n := 140) rfl rfl (by decide))).trans hf_sa
    have hf_mi : f5 mi = .inl (cy 1, 36, .inl gm) := (hfm mi hm_mi (z_tne hf_mi hf_wk (m := 388) (n := 8) rfl rfl (by decide)) (z_tne hf_mi hf_ks (m := 388) (n := 204) rfl rfl (by decide)) (z_tne hf_mi hf_ct (m := 388) (n := 132) rfl rfl (by decide)) (z_tne hf_mi hf_se (m := 388) (n := 132) rfl rfl (by decide)) (z_tne hf_mi hf_ow (m := 388) (n := 140) rfl rfl (by decide))).trans hf_mi
    have hf_da : f5 da = .inl (cy 4, 13, .inr (.inr (.inr (.inr gd)))) := (hfm da hm_da (z_tne hf_da hf_wk (m := 206) (n := 8) rfl rfl (by decide)) (z_tne hf_da hf_ks (m := 206) (n := 204) rfl rfl (by decide)) (z_tne hf_da hf_ct (m := 206) (n := 132) rfl rfl (by decide)) (z_tne hf_da hf_se (m := 206) (n := 132) rfl rfl (by decide)) (z_tne hf_da hf_ow (m := 206) (n := 140) rfl rfl (by decide))).trans hf_da
    have hf_wk : f5 wk = .inr (8, [.ref ks, .int w2_6, .ref ct, .ref se, .ref ow, .int t2_7, .int wd, .int wp]) := ha_0
    have hf_ks : f5 ks = .inl (cy 1, 13, .inl k2_8) := ha_1
    have hf_ct : f5 ct = .inl (cy 1, 4, .inl c2_9) := ha_2
    have hf_se : f5 se = .inl (cy 1, 4, .inl q2_10) := ha_3
    have hf_ow : f5 ow = .inl (cy 1, 5, .inl o2_11) := ha_4
    have hbg12 := hp
    refine lv_pop hx hb dX9_worst_24 rfl ?_
    refine lv_iconst (v := (-1)) hx hb dX9_worst_25 (by decide) ?_
    refine lv_istore_n (lv' := [(1, .int (-1)), (0, .ref xo)]) hx hb dX9_worst_26 rfl hl (by decide) rfl (fun ls hl => ?_)
    refine lv_iconst (v := 0) hx hb dX9_worst_27 (by decide) ?_
    refine lv_istore_n (lv' := [(2, .int 0), (1, .int (-1)), (0, .ref xo)]) hx hb dX9_worst_28 rfl hl (by decide) rfl (fun ls hl => ?_)
    refine lv_iconst (v := 0) hx hb dX9_worst_29 (by decide) ?_
    refine lv_istore_n (lv' := [(3, .int 0), (2, .int 0), (1, .int (-1)), (0, .ref xo)]) hx hb dX9_worst_30 rfl hl (by decide) rfl (fun ls hl => ?_)
    have hzk : (0 : Int32).toInt = 0 := by decide
    refine z_loop (fun n H locs ls => ∃ (K13 : Int32) (V15 : Int32) (V16 : Int32) (f14 : Nat → va_E), (n = (v3.toInt - K13.toInt).toNat) ∧ (0 ≤ K13.toInt) ∧ (K13.toInt ≤ v3.toInt) ∧ (z_H D vwCl (z_A L sz) s.heap L f14 H locs) ∧ (f14 xo = .inr (9, [.ref tp, .ref rd, .ref mo, .ref dmo, .ref im, .ref kp, .ref sl, .ref wk, .ref pl, .ref oo, .ref mx])) ∧ (f14 wk = .inr (8, [.ref ks, .int w2_6, .ref ct, .ref se, .ref ow, .int t2_7, .int wd, .int wp])) ∧ (f14 ks = .inl (cy 1, 13, .inl k2_8)) ∧ (f14 ct = .inl (cy 1, 4, .inl c2_9)) ∧ (f14 se = .inl (cy 1, 4, .inl q2_10)) ∧ (f14 ow = .inl (cy 1, 5, .inl o2_11)) ∧ (f14 mo = .inr (2, [.int v0, .int v1, .int v2, .int v3, .int v4, .int v5, .int v6, .ref la, .ref sa, .ref mi, .ref da])) ∧ (f14 la = .inl (cy 1, 5, .inl gl)) ∧ (f14 sa = .inl (cy 1, 4, .inl gs)) ∧ (f14 mi = .inl (cy 1, 36, .inl gm)) ∧ (f14 da = .inl (cy 4, 13, .inr (.inr (.inr (.inr gd))))) ∧ (∀ b ∈ L, b ≠ wk → b ≠ ks → b ≠ ct → b ≠ se → b ≠ ow → f14 b = f b) ∧ (z_Drv L f14 dv 13) ∧ (lv_has ls 4 [(3, .int K13), (2, .int V16), (1, .int V15), (0, .ref xo)])) _ ⟨0, (-1), 0, f5, rfl, (by first | decide | omega), (by first | decide | omega), hw, hf_xo, hf_wk, hf_ks, hf_ct, hf_se, hf_ow, hf_mo, hf_la, hf_sa, hf_mi, hf_da, hfr, hd_da, (lv_sub hl [0, 1, 2, 3] rfl)⟩ (fun n H locs ls hI ih_31 => ?_)
    obtain ⟨K13, V15, V16, f14, hn, hk0, hk1, hw, hf_xo, hf_wk, hf_ks, hf_ct, hf_se, hf_ow, hf_mo, hf_la, hf_sa, hf_mi, hf_da, hfr, hd_da, hl⟩ := hI
    refine lv_iload_n hx hb dX9_worst_31 rfl (lv_at hl 0 rfl) ?_
    refine lv_aload_n hx hb dX9_worst_32 rfl (lv_at hl 3 rfl) ?_
    refine z_get (C := RX9) (T := TX9) (N := 11) (ci := 9) (v := .ref mo) hx hb hT zin_X9 hown hK hw hm_xo hf_xo rfl 2 (by decide) (hT _ kw_479) rfl dX9_worst_33 ?_
    refine z_get (C := RX2) (T := TX2) (N := 11) (ci := 2) (v := .int v3) hx hb hT zin_X2 hown hK hw hm_mo hf_mo rfl 3 (by decide) (hT _ kw_217) rfl dX9_worst_36 ?_
    refine z_icmp_ge (tgt := 73) hx hb rfl rfl dX9_worst_39 (by decide) (fun c17 => ?_) (fun c17 => ?_)
    · skip
      refine lv_iload_n hx hb dX9_worst_73 rfl (lv_at hl 2 rfl) ?_
      exact z_iret hx hb hr hlk (by decide) (by decide) hw (⟨hsub, hfr, w2_6, t2_7, wd, wp, k2_8, c2_9, q2_10, o2_11, hf_wk, hf_ks, hf_ct, hf_se, hf_ow, by omega, hbg12.2⟩) dX9_worst_74
    · skip
      refine lv_aload_n hx hb dX9_worst_42 rfl (lv_at hl 3 rfl) ?_
      refine z_get (C := RX9) (T := TX9) (N := 11) (ci := 9) (v := .ref wk) hx hb hT zin_X9 hown hK hw hm_xo hf_xo rfl 7 (by decide) (hT _ kw_484) rfl dX9_worst_43 ?_
      refine z_get (C := RX8) (T := TX8) (N := 8) (ci := 8) (v := .ref ow) hx hb hT zin_X8 hown hK hw hm_wk hf_wk rfl 4 (by decide) (hT _ kw_353) rfl dX9_worst_46 ?_
      refine lv_iload_n hx hb dX9_worst_49 rfl (lv_at hl 0 rfl) ?_
      refine z_iald hx hb hK hw 1 hm_ow hf_ow rfl (z_ix rfl (by omega)) dX9_worst_50 ?_
      refine lv_topi (fun w18 e_w18 => ?_)
      refine lv_iload_n hx hb dX9_worst_51 rfl (lv_at hl 1 rfl) ?_
      refine z_icmp_le (tgt := 67) hx hb rfl rfl dX9_worst_52 (by decide) (fun c19 => ?_) (fun c19 => ?_)
      · skip
        obtain ⟨k20, e_k20⟩ : ∃ z : Int32, z = K13 + 1 := ⟨_, rfl⟩
        refine lv_iinc (v := k20) (lv' := [(3, .int k20), (2, .int V16), (1, .int V15), (0, .ref xo)]) hx hb dX9_worst_67 hl (k := 0) rfl (by rw [e_k20]; rfl) (by decide) rfl (fun ls hl => ?_)
        have i_k20 : k20.toInt = (K13.toInt + 1) := z_add e_k20 rfl (by decide) (by omega)
        refine lv_goto (tgt := 31) hx hb dX9_worst_70 (by decide) ?_
        exact ih_31 _ (by omega) _ _ _ ⟨k20, V15, V16, f14, rfl, (by first | decide | omega), (by first | decide | omega), hw, hf_xo, hf_wk, hf_ks, hf_ct, hf_se, hf_ow, hf_mo, hf_la, hf_sa, hf_mi, hf_da, hfr, hd_da, (lv_sub hl [0, 1, 2, 3] rfl)⟩
      · skip
        refine lv_aload_n hx hb dX9_worst_55 rfl (lv_at hl 3 rfl) ?_
        refine z_get (C := RX9) (T := TX9) (N := 11) (ci := 9) (v := .ref wk) hx hb hT zin_X9 hown hK hw hm_xo hf_xo rfl 7 (by decide) (hT _ kw_484) rfl dX9_worst_56 ?_
        refine z_get (C := RX8) (T := TX8) (N := 8) (ci := 8) (v := .ref ow) hx hb hT zin_X8 hown hK hw hm_wk hf_wk rfl 4 (by decide) (hT _ kw_353) rfl dX9_worst_59 ?_
        refine lv_iload_n hx hb dX9_worst_62 rfl (lv_at hl 0 rfl) ?_
        refine z_iald hx hb hK hw 1 hm_ow hf_ow rfl (z_ix rfl (by omega)) dX9_worst_63 ?_
        refine lv_topi (fun w21 e_w21 => ?_)
        refine lv_istore_n (lv' := [(2, .int w21), (3, .int K13), (1, .int V15), (0, .ref xo)]) hx hb dX9_worst_64 rfl hl (by decide) rfl (fun ls hl => ?_)
        refine lv_iload_n hx hb dX9_worst_65 rfl (lv_at hl 1 rfl) ?_
        refine lv_istore_n (lv' := [(1, .int K13), (2, .int w21), (3, .int K13), (0, .ref xo)]) hx hb dX9_worst_66 rfl hl (by decide) rfl (fun ls hl => ?_)
        obtain ⟨k22, e_k22⟩ : ∃ z : Int32, z = K13 + 1 := ⟨_, rfl⟩
        refine lv_iinc (v := k22) (lv' := [(3, .int k22), (1, .int K13), (2, .int w21), (0, .ref xo)]) hx hb dX9_worst_67 hl (k := 2) rfl (by rw [e_k22]; rfl) (by decide) rfl (fun ls hl => ?_)
        have i_k22 : k22.toInt = (K13.toInt + 1) := z_add e_k22 rfl (by decide) (by omega)
        refine lv_goto (tgt := 31) hx hb dX9_worst_70 (by decide) ?_
        exact ih_31 _ (by omega) _ _ _ ⟨k22, K13, w21, f14, rfl, (by first | decide | omega), (by first | decide | omega), hw, hf_xo, hf_wk, hf_ks, hf_ct, hf_se, hf_ow, hf_mo, hf_la, hf_sa, hf_mi, hf_da, hfr, hd_da, (lv_sub hl [0, 2, 1, 3] rfl)⟩
  · skip
    refine z_if_ne (tgt := 13) hx hb (show (0 : Int32).toInt = 0 by decide) dX9_worst_7 (by decide) (fun h => absurd h (by decide)) (fun _ => ?_)
    refine lv_bipush (v := (-2)) hx hb dX9_worst_10 (by decide) ?_
    exact z_iret hx hb hr hlk (by decide) (by decide) hw (⟨hsub, hfr, wn, wt, wd, wp, gk, gc, gq, go, hf_wk, hf_ks, hf_ct, hf_se, hf_ow, by omega, hgk⟩) dX9_worst_12

set_option maxHeartbeats 2000000 in
set_option maxRecDepth 100000 in
theorem c_X9_left (l : Launch) {D : va_G} {cy : Nat → ClassId} {L : List Nat} {f : Nat → va_E} {sz : Nat} {adK adV : Nat → Nat} {xo tp rd mo dmo im kp sl wk pl oo mx : Nat} {ks ct se ow : Nat} {wn wt wd wp : Int32} {gk gc gq go : Nat → Int32} {la sa mi da : Nat} {v0 v1 v2 v3 v4 v5 v6 : Int32} {gl gs gm : Nat → Int32} {gd : Nat → Option Nat} {dv : Nat → Nat} {ga : Int32} (hm_xo : xo ∈ L) (hm_wk : wk ∈ L) (hm_ks : ks ∈ L) (hm_ct : ct ∈ L) (hm_se : se ∈ L) (hm_ow : ow ∈ L) (hm_mo : mo ∈ L) (hm_la : la ∈ L) (hm_sa : sa ∈ L) (hm_mi : mi ∈ L) (hm_da : da ∈ L) (hf_xo : f xo = .inr (9, [.ref tp, .ref rd, .ref mo, .ref dmo, .ref im, .ref kp, .ref sl, .ref wk, .ref pl, .ref oo, .ref mx])) (hf_wk : f wk = .inr (8, [.ref ks, .int wn, .ref ct, .ref se, .ref ow, .int wt, .int wd, .int wp])) (hf_ks : f ks = .inl (cy 1, 13, .inl gk)) (hf_ct : f ct = .inl (cy 1, 4, .inl gc)) (hf_se : f se = .inl (cy 1, 4, .inl gq)) (hf_ow : f ow = .inl (cy 1, 5, .inl go)) (hf_mo : f mo = .inr (2, [.int v0, .int v1, .int v2, .int v3, .int v4, .int v5, .int v6, .ref la, .ref sa, .ref mi, .ref da])) (hf_la : f la = .inl (cy 1, 5, .inl gl)) (hf_sa : f sa = .inl (cy 1, 4, .inl gs)) (hf_mi : f mi = .inl (cy 1, 36, .inl gm)) (hf_da : f da = .inl (cy 4, 13, .inr (.inr (.inr (.inr gd))))) (ne_ct_se : ct ≠ se) (ne_ct_sa : ct ≠ sa) (ne_se_sa : se ≠ sa) (ne_ow_la : ow ≠ la) (hg_da : ∀ i : Nat, i < 13 → gd i = some (dv i)) (hd_da : z_Drv L f dv 13) (hv2 : 0 ≤ v2.toInt ∧ v2.toInt ≤ 9) (hv5 : 0 ≤ v5.toInt ∧ v5.toInt ≤ 12) (hv1 : 0 ≤ v1.toInt ∧ v1.toInt ≤ 4) (hv3 : 0 ≤ v3.toInt ∧ v3.toInt ≤ 5) (hgk : ∀ j : Nat, z_key (gk j)) (hgm : ∀ j : Nat, 0 ≤ (gm j).toInt ∧ (gm j).toInt ≤ 9) (hwn : 0 ≤ wn.toInt ∧ wn.toInt ≤ 13) : Met l yX9_left (z_ws yX9_left cX9_left 2 (some .int)) (z_R 7 0 0) (va_Pc [.ref xo, .int ga] (z_Pre D vwCl (z_KK D cy adK adV) L f sz)) (z_Qi D vwCl (fun r u => L = u.1 ∧ (∀ b ∈ L, b ≠ wk → b ≠ ks → b ≠ ct → b ≠ se → b ≠ ow → u.2 b = f b) ∧ (∃ (w2 t2 d2 p2 : Int32) (k2 c2 q2 o2 : Nat → Int32), (u.2 wk = .inr (8, [.ref ks, .int w2, .ref ct, .ref se, .ref ow, .int t2, .int d2, .int p2])) ∧ (u.2 ks = .inl (cy 1, 13, .inl k2)) ∧ (u.2 ct = .inl (cy 1, 4, .inl c2)) ∧ (u.2 se = .inl (cy 1, 4, .inl q2)) ∧ (u.2 ow = .inl (cy 1, 5, .inl o2)) ∧ ((0 ≤ w2.toInt ∧ w2.toInt ≤ 13) ∧ ∀ j : Nat, z_key (k2 j)))) L sz) 0 0 (z_A L sz) := by
  refine z_met (cc := cX9_left) (maxL := 2) (ret := (some .int)) (lv := [(0, .ref xo), (1, .int ga)]) (by decide) rfl (Nat.le_of_ble_eq_true rfl) rfl ?_
  intro p e s m below meth c ls hx hb hr hlk hml hown hnm hts hKK hA hw hl
  have hK := hKK.1.1
  have hown : s.vm.findClass RX9 = some m.cls := hown
  have hT : ∀ w ∈ lw_all, w.before ([.ref xo, .int ga] : List Value).toArray s = true := fun w h => hts w (z_cons w h)
  have hsub : L = L := rfl
  have hfr : ∀ b ∈ L, b ≠ wk → b ≠ ks → b ≠ ct → b ≠ se → b ≠ ow → f b = f b := fun _ _ _ _ _ _ _ => rfl
  refine lv_aload_n hx hb dX9_left_0 rfl (lv_at hl 0 rfl) ?_
  refine z_get (C := RX9) (T := TX9) (N := 11) (ci := 9) (v := .ref mo) hx hb hT zin_X9 hown hK hw hm_xo hf_xo rfl 2 (by decide) (hT _ kw_479) rfl dX9_left_1 ?_
  refine lv_iload_n hx hb dX9_left_4 rfl (lv_at hl 1 rfl) ?_
  refine z_calliV (cells := 0) (slots := 0) (b := mo) (As := [.int ga]) (rest := []) (ci := 2) (q0 := (RX2, TX2, 11)) ⟨hx, hb, hml, hown, hT⟩ (c_X2_hasGap l hm_mo hf_mo) (cwV 1 hT (z_goodV (fun _ h => h) kw_736 kw_737 kw_738 kw_87 kw_739) rfl rfl rfl (by decide +kernel) ⟨by decide, by decide⟩) z_mv hKK hK hw hA hm_mo hf_mo rfl rfl rfl hl.1 rfl (Nat.le_of_ble_eq_true rfl) dX9_left_5 ⟨by decide, by decide⟩ (fun r1 u H locs hp hw => ?_)
  obtain ⟨rfl, hp⟩ := hp
  have hw : z_H D vwCl (z_A L sz) s.heap L f H locs := hw
  rcases hp with ⟨rfl, h2⟩ | ⟨rfl, h2⟩
  · skip
    refine z_if_eq (tgt := 26) hx hb (show (1 : Int32).toInt = 1 by decide) dX9_left_8 (by decide) (fun h => absurd h (by decide)) (fun _ => ?_)
    refine lv_aload_n hx hb dX9_left_11 rfl (lv_at hl 0 rfl) ?_
    refine z_get (C := RX9) (T := TX9) (N := 11) (ci := 9) (v := .ref wk) hx hb hT zin_X9 hown hK hw hm_xo hf_xo rfl 7 (by decide) (hT _ kw_484) rfl dX9_left_12 ?_
    refine lv_aload_n hx hb dX9_left_15 rfl (lv_at hl 0 rfl) ?_
    refine z_get (C := RX9) (T := TX9) (N := 11) (ci := 9) (v := .ref mo) hx hb hT zin_X9 hown hK hw hm_xo hf_xo rfl 2 (by decide) (hT _ kw_479) rfl dX9_left_16 ?_
    refine lv_iload_n hx hb dX9_left_19 rfl (lv_at hl 1 rfl) ?_
    refine z_calliV (cells := 0) (slots := 0) (b := wk) (As := [.ref mo, .int ga]) (rest := []) (ci := 8) (q0 := (RX8, TX8, 8)) ⟨hx, hb, hml, hown, hT⟩ (c_X8_stillFree l hm_wk hm_ks hm_ct hm_se hm_ow hm_mo hm_la hm_sa hm_mi hm_da hf_wk hf_ks hf_ct hf_se hf_ow hf_mo hf_la hf_sa hf_mi hf_da ne_ct_se ne_ct_sa ne_se_sa ne_ow_la hg_da hd_da (by first | omega | decide | assumption) (by first | omega | decide | assumption) hgk hgm (by first | omega | decide | assumption)) (cwV 2 hT (z_goodV (fun _ h => h) kw_883 kw_884 kw_885 kw_92 kw_886) rfl rfl rfl (by decide +kernel) ⟨by decide, by decide⟩) z_mv hKK hK hw hA hm_wk hf_wk rfl rfl rfl hl.1 rfl (Nat.le_of_ble_eq_true rfl) dX9_left_20 ⟨by decide, by decide⟩ (fun r3 u H locs hp hw => ?_)
    obtain ⟨L4, f5⟩ := u
    obtain ⟨hsb, hfm, w2_6, t2_7, k2_8, c2_9, q2_10, o2_11, ha_0, ha_1, ha_2, ha_3, ha_4, hp⟩ := hp
    have hsb : L = L4 := hsb
    subst hsb
    have hsb : ∀ b ∈ L, b ∈ L := fun _ h => h
    have hw : z_H D vwCl (z_A L sz) s.heap L f5 H locs := hw
    have hfr : ∀ b ∈ L, b ≠ wk → b ≠ ks → b ≠ ct → b ≠ se → b ≠ ow → f5 b = f b := fun b hb h0 h1 h2 h3 h4 => (hfm b hb h0 h1 h2 h3 h4).trans (hfr b hb h0 h1 h2 h3 h4)
    have hd_da : z_Drv L f5 dv 13 := z_Drv_fr hd_da hsb (fun b hb ht => hfm b hb (z_t0 ht hf_wk (m := 8) rfl (by decide)) (z_t0 ht hf_ks (m := 204) rfl (by decide)) (z_t0 ht hf_ct (m := 132) rfl (by decide)) (z_t0 ht hf_se (m := 132) rfl (by decide)) (z_t0 ht hf_ow (m := 140) rfl (by decide)))
    have hf_xo : f5 xo = .inr (9, [.ref tp, .ref rd, .ref mo, .ref dmo, .ref im, .ref kp, .ref sl, .ref wk, .ref pl, .ref oo, .ref mx]) := (hfm xo hm_xo (z_tne hf_xo hf_wk (m := 9) (n := 8) rfl rfl (by decide)) (z_tne hf_xo hf_ks (m := 9) (n := 204) rfl rfl (by decide)) (z_tne hf_xo hf_ct (m := 9) (n := 132) rfl rfl (by decide)) (z_tne hf_xo hf_se (m := 9) (n := 132) rfl rfl (by decide)) (z_tne hf_xo hf_ow (m := 9) (n := 140) rfl rfl (by decide))).trans hf_xo
    have hf_mo : f5 mo = .inr (2, [.int v0, .int v1, .int v2, .int v3, .int v4, .int v5, .int v6, .ref la, .ref sa, .ref mi, .ref da]) := (hfm mo hm_mo (z_tne hf_mo hf_wk (m := 2) (n := 8) rfl rfl (by decide)) (z_tne hf_mo hf_ks (m := 2) (n := 204) rfl rfl (by decide)) (z_tne hf_mo hf_ct (m := 2) (n := 132) rfl rfl (by decide)) (z_tne hf_mo hf_se (m := 2) (n := 132) rfl rfl (by decide)) (z_tne hf_mo hf_ow (m := 2) (n := 140) rfl rfl (by decide))).trans hf_mo
    have hf_la : f5 la = .inl (cy 1, 5, .inl gl) := (hfm la hm_la (z_tne hf_la hf_wk (m := 140) (n := 8) rfl rfl (by decide)) (z_tne hf_la hf_ks (m := 140) (n := 204) rfl rfl (by decide)) (z_tne hf_la hf_ct (m := 140) (n := 132) rfl rfl (by decide)) (z_tne hf_la hf_se (m := 140) (n := 132) rfl rfl (by decide)) (Ne.symm ne_ow_la)).trans hf_la
    have hf_sa : f5 sa = .inl (cy 1, 4, .inl gs) := (hfm sa hm_sa (z_tne hf_sa hf_wk (m := 132) (n := 8) rfl rfl (by decide)) (z_tne hf_sa hf_ks (m := 132) (n := 204) rfl rfl (by decide)) (Ne.symm ne_ct_sa) (Ne.symm ne_se_sa) (z_tne hf_sa hf_ow (m := 132) (n := 140) rfl rfl (by decide))).trans hf_sa
    have hf_mi : f5 mi = .inl (cy 1, 36, .inl gm) := (hfm mi hm_mi (z_tne hf_mi hf_wk (m := 388) (n := 8) rfl rfl (by decide)) (z_tne hf_mi hf_ks (m := 388) (n := 204) rfl rfl (by decide)) (z_tne hf_mi hf_ct (m := 388) (n := 132) rfl rfl (by decide)) (z_tne hf_mi hf_se (m := 388) (n := 132) rfl rfl (by decide)) (z_tne hf_mi hf_ow (m := 388) (n := 140) rfl rfl (by decide))).trans hf_mi
    have hf_da : f5 da = .inl (cy 4, 13, .inr (.inr (.inr (.inr gd)))) := (hfm da hm_da (z_tne hf_da hf_wk (m := 206) (n := 8) rfl rfl (by decide)) (z_tne hf_da hf_ks (m := 206) (n := 204) rfl rfl (by decide)) (z_tne hf_da hf_ct (m := 206) (n := 132) rfl rfl (by decide)) (z_tne hf_da hf_se (m := 206) (n := 132) rfl rfl (by decide)) (z_tne hf_da hf_ow (m := 206) (n := 140) rfl rfl (by decide))).trans hf_da
    have hf_wk : f5 wk = .inr (8, [.ref ks, .int w2_6, .ref ct, .ref se, .ref ow, .int t2_7, .int wd, .int wp]) := ha_0
    have hf_ks : f5 ks = .inl (cy 1, 13, .inl k2_8) := ha_1
    have hf_ct : f5 ct = .inl (cy 1, 4, .inl c2_9) := ha_2
    have hf_se : f5 se = .inl (cy 1, 4, .inl q2_10) := ha_3
    have hf_ow : f5 ow = .inl (cy 1, 5, .inl o2_11) := ha_4
    have hbg12 := hp
    refine lv_goto (tgt := 28) hx hb dX9_left_23 (by decide) ?_
    exact z_iret hx hb hr hlk (by decide) (by decide) hw (⟨hsub, hfr, w2_6, t2_7, wd, wp, k2_8, c2_9, q2_10, o2_11, hf_wk, hf_ks, hf_ct, hf_se, hf_ow, by omega, hbg12.2⟩) dX9_left_28
  · skip
    refine z_if_eq (tgt := 26) hx hb (show (0 : Int32).toInt = 0 by decide) dX9_left_8 (by decide) (fun _ => ?_) (fun h => absurd h (by decide))
    refine lv_bipush (v := (-2)) hx hb dX9_left_26 (by decide) ?_
    exact z_iret hx hb hr hlk (by decide) (by decide) hw (⟨hsub, hfr, wn, wt, wd, wp, gk, gc, gq, go, hf_wk, hf_ks, hf_ct, hf_se, hf_ow, by omega, hgk⟩) dX9_left_28

set_option maxHeartbeats 2000000 in
set_option maxRecDepth 100000 in
theorem c_X9_ring (l : Launch) {D : va_G} {cy : Nat → ClassId} {L : List Nat} {f : Nat → va_E} {sz : Nat} {adK adV : Nat → Nat} {xo tp rd mo dmo im kp sl wk pl oo mx : Nat} {ks ct se ow : Nat} {wn wt wd wp : Int32} {gk gc gq go : Nat → Int32} {la sa mi da : Nat} {v0 v1 v2 v3 v4 v5 v6 : Int32} {gl gs gm : Nat → Int32} {gd : Nat → Option Nat} {dv : Nat → Nat} {ga nn rr_ : Int32} (hm_xo : xo ∈ L) (hm_wk : wk ∈ L) (hm_ks : ks ∈ L) (hm_ct : ct ∈ L) (hm_se : se ∈ L) (hm_ow : ow ∈ L) (hm_mo : mo ∈ L) (hm_la : la ∈ L) (hm_sa : sa ∈ L) (hm_mi : mi ∈ L) (hm_da : da ∈ L) (hf_xo : f xo = .inr (9, [.ref tp, .ref rd, .ref mo, .ref dmo, .ref im, .ref kp, .ref sl, .ref wk, .ref pl, .ref oo, .ref mx])) (hf_wk : f wk = .inr (8, [.ref ks, .int wn, .ref ct, .ref se, .ref ow, .int wt, .int wd, .int wp])) (hf_ks : f ks = .inl (cy 1, 13, .inl gk)) (hf_ct : f ct = .inl (cy 1, 4, .inl gc)) (hf_se : f se = .inl (cy 1, 4, .inl gq)) (hf_ow : f ow = .inl (cy 1, 5, .inl go)) (hf_mo : f mo = .inr (2, [.int v0, .int v1, .int v2, .int v3, .int v4, .int v5, .int v6, .ref la, .ref sa, .ref mi, .ref da])) (hf_la : f la = .inl (cy 1, 5, .inl gl)) (hf_sa : f sa = .inl (cy 1, 4, .inl gs)) (hf_mi : f mi = .inl (cy 1, 36, .inl gm)) (hf_da : f da = .inl (cy 4, 13, .inr (.inr (.inr (.inr gd))))) (ne_ct_se : ct ≠ se) (ne_ct_sa : ct ≠ sa) (ne_se_sa : se ≠ sa) (ne_ow_la : ow ≠ la) (hg_da : ∀ i : Nat, i < 13 → gd i = some (dv i)) (hd_da : z_Drv L f dv 13) (hv2 : 0 ≤ v2.toInt ∧ v2.toInt ≤ 9) (hv5 : 0 ≤ v5.toInt ∧ v5.toInt ≤ 12) (hv1 : 0 ≤ v1.toInt ∧ v1.toInt ≤ 4) (hv3 : 0 ≤ v3.toInt ∧ v3.toInt ≤ 5) (hgk : ∀ j : Nat, z_key (gk j)) (hgm : ∀ j : Nat, 0 ≤ (gm j).toInt ∧ (gm j).toInt ≤ 9) (hwn : 0 ≤ wn.toInt ∧ wn.toInt ≤ 13) : Met l yX9_ring (z_ws yX9_ring cX9_ring 4 (some .int)) (z_R 6 0 0) (va_Pc [.ref xo, .int ga, .int nn, .int rr_] (z_Pre D vwCl (z_KK D cy adK adV) L f sz)) (z_Qi D vwCl (fun r u => L = u.1 ∧ (∀ b ∈ L, b ≠ wk → b ≠ ks → b ≠ ct → b ≠ se → b ≠ ow → u.2 b = f b) ∧ (∃ (w2 t2 d2 p2 : Int32) (k2 c2 q2 o2 : Nat → Int32), (u.2 wk = .inr (8, [.ref ks, .int w2, .ref ct, .ref se, .ref ow, .int t2, .int d2, .int p2])) ∧ (u.2 ks = .inl (cy 1, 13, .inl k2)) ∧ (u.2 ct = .inl (cy 1, 4, .inl c2)) ∧ (u.2 se = .inl (cy 1, 4, .inl q2)) ∧ (u.2 ow = .inl (cy 1, 5, .inl o2)) ∧ ((0 ≤ w2.toInt ∧ w2.toInt ≤ 13) ∧ ∀ j : Nat, z_key (k2 j)))) L sz) 0 0 (z_A L sz) := by
  refine z_met (cc := cX9_ring) (maxL := 4) (ret := (some .int)) (lv := [(0, .ref xo), (1, .int ga), (2, .int nn), (3, .int rr_)]) (by decide) rfl (Nat.le_of_ble_eq_true rfl) rfl ?_
  intro p e s m below meth c ls hx hb hr hlk hml hown hnm hts hKK hA hw hl
  have hK := hKK.1.1
  have hown : s.vm.findClass RX9 = some m.cls := hown
  have hT : ∀ w ∈ lw_all, w.before ([.ref xo, .int ga, .int nn, .int rr_] : List Value).toArray s = true := fun w h => hts w (z_cons w h)
  have hsub : L = L := rfl
  have hfr : ∀ b ∈ L, b ≠ wk → b ≠ ks → b ≠ ct → b ≠ se → b ≠ ow → f b = f b := fun _ _ _ _ _ _ _ => rfl
  refine lv_aload_n hx hb dX9_ring_0 rfl (lv_at hl 0 rfl) ?_
  refine lv_iload_n hx hb dX9_ring_1 rfl (lv_at hl 1 rfl) ?_
  refine lv_iload_n hx hb dX9_ring_2 rfl (lv_at hl 2 rfl) ?_
  refine z_calliV (cells := 0) (slots := 0) (b := xo) (As := [.int ga, .int nn]) (rest := []) (ci := 9) (q0 := (RX9, TX9, 11)) ⟨hx, hb, hml, hown, hT⟩ (c_X9_isRing l hm_xo hm_mo hf_xo hf_mo) (cwV 2 hT (z_goodV (fun _ h => h) kw_981 kw_983 kw_19 kw_85 kw_984) rfl rfl rfl (by decide +kernel) ⟨by decide, by decide⟩) z_mv hKK hK hw hA hm_xo hf_xo rfl rfl rfl hl.1 rfl (Nat.le_of_ble_eq_true rfl) dX9_ring_3 ⟨by decide, by decide⟩ (fun r1 u H locs hp hw => ?_)
  obtain ⟨rfl, hp⟩ := hp
  have hw : z_H D vwCl (z_A L sz) s.heap L f H locs := hw
  rcases hp with ⟨rfl, h2⟩ | ⟨rfl, h2⟩
  · skip
    refine z_if_eq (tgt := 19) hx hb (show (1 : Int32).toInt = 1 by decide) dX9_ring_6 (by decide) (fun h => absurd h (by decide)) (fun _ => ?_)
    refine lv_iload_n hx hb dX9_ring_9 rfl (lv_at hl 3 rfl) ?_
    refine z_if_lt (tgt := 19) hx hb rfl dX9_ring_10 (by decide) (fun c3 => ?_) (fun c3 => ?_)
    · skip
      refine lv_bipush (v := (-2)) hx hb dX9_ring_19 (by decide) ?_
      exact z_iret hx hb hr hlk (by decide) (by decide) hw (⟨hsub, hfr, wn, wt, wd, wp, gk, gc, gq, go, hf_wk, hf_ks, hf_ct, hf_se, hf_ow, by omega, hgk⟩) dX9_ring_21
    · skip
      refine lv_iload_n hx hb dX9_ring_13 rfl (lv_at hl 3 rfl) ?_
      refine lv_bipush (v := 99) hx hb dX9_ring_14 (by decide) ?_
      refine z_icmp_le (tgt := 22) hx hb rfl (show (99 : Int32).toInt = 99 by decide) dX9_ring_16 (by decide) (fun c4 => ?_) (fun c4 => ?_)
      · skip
        refine lv_aload_n hx hb dX9_ring_22 rfl (lv_at hl 0 rfl) ?_
        refine z_get (C := RX9) (T := TX9) (N := 11) (ci := 9) (v := .ref wk) hx hb hT zin_X9 hown hK hw hm_xo hf_xo rfl 7 (by decide) (hT _ kw_484) rfl dX9_ring_23 ?_
        refine lv_aload_n hx hb dX9_ring_26 rfl (lv_at hl 0 rfl) ?_
        refine z_get (C := RX9) (T := TX9) (N := 11) (ci := 9) (v := .ref mo) hx hb hT zin_X9 hown hK hw hm_xo hf_xo rfl 2 (by decide) (hT _ kw_479) rfl dX9_ring_27 ?_
        refine z_callvV (cells := 0) (slots := 0) (b := wk) (As := [.ref mo]) (rest := []) (ci := 8) (q0 := (RX8, TX8, 8)) ⟨hx, hb, hml, hown, hT⟩ (c_X8_goThrough l hm_wk hm_ks hm_ct hm_se hm_ow hm_mo hm_la hm_sa hm_mi hm_da hf_wk hf_ks hf_ct hf_se hf_ow hf_mo hf_la hf_sa hf_mi hf_da ne_ct_se ne_ct_sa ne_se_sa ne_ow_la hg_da hd_da (by first | omega | decide | assumption) (by first | omega | decide | assumption) hgk hgm) (cwV 1 hT (z_goodV (fun _ h => h) kw_985 kw_888 kw_889 kw_92 kw_890) rfl rfl rfl (by decide +kernel) ⟨by decide, by decide⟩) z_mv hKK hK hw hA hm_wk hf_wk rfl rfl rfl hl.1 rfl (Nat.le_of_ble_eq_true rfl) dX9_ring_30 ⟨by decide, by decide⟩ (fun u H locs hp hw => ?_)
        obtain ⟨L5, f6⟩ := u
        obtain ⟨hsb, hfm, w2_7, t2_8, k2_9, c2_10, q2_11, o2_12, ha_0, ha_1, ha_2, ha_3, ha_4, hp⟩ := hp
        have hsb : L = L5 := hsb
        subst hsb
        have hsb : ∀ b ∈ L, b ∈ L := fun _ h => h
        have hw : z_H D vwCl (z_A L sz) s.heap L f6 H locs := hw
        have hfr : ∀ b ∈ L, b ≠ wk → b ≠ ks → b ≠ ct → b ≠ se → b ≠ ow → f6 b = f b := fun b hb h0 h1 h2 h3 h4 => (hfm b hb h0 h1 h2 h3 h4).trans (hfr b hb h0 h1 h2 h3 h4)
        have hd_da : z_Drv L f6 dv 13 := z_Drv_fr hd_da hsb (fun b hb ht => hfm b hb (z_t0 ht hf_wk (m := 8) rfl (by decide)) (z_t0 ht hf_ks (m := 204) rfl (by decide)) (z_t0 ht hf_ct (m := 132) rfl (by decide)) (z_t0 ht hf_se (m := 132) rfl (by decide)) (z_t0 ht hf_ow (m := 140) rfl (by decide)))
        have hf_xo : f6 xo = .inr (9, [.ref tp, .ref rd, .ref mo, .ref dmo, .ref im, .ref kp, .ref sl, .ref wk, .ref pl, .ref oo, .ref mx]) := (hfm xo hm_xo (z_tne hf_xo hf_wk (m := 9) (n := 8) rfl rfl (by decide)) (z_tne hf_xo hf_ks (m := 9) (n := 204) rfl rfl (by decide)) (z_tne hf_xo hf_ct (m := 9) (n := 132) rfl rfl (by decide)) (z_tne hf_xo hf_se (m := 9) (n := 132) rfl rfl (by decide)) (z_tne hf_xo hf_ow (m := 9) (n := 140) rfl rfl (by decide))).trans hf_xo
        have hf_mo : f6 mo = .inr (2, [.int v0, .int v1, .int v2, .int v3, .int v4, .int v5, .int v6, .ref la, .ref sa, .ref mi, .ref da]) := (hfm mo hm_mo (z_tne hf_mo hf_wk (m := 2) (n := 8) rfl rfl (by decide)) (z_tne hf_mo hf_ks (m := 2) (n := 204) rfl rfl (by decide)) (z_tne hf_mo hf_ct (m := 2) (n := 132) rfl rfl (by decide)) (z_tne hf_mo hf_se (m := 2) (n := 132) rfl rfl (by decide)) (z_tne hf_mo hf_ow (m := 2) (n := 140) rfl rfl (by decide))).trans hf_mo
        have hf_la : f6 la = .inl (cy 1, 5, .inl gl) := (hfm la hm_la (z_tne hf_la hf_wk (m := 140) (n := 8) rfl rfl (by decide)) (z_tne hf_la hf_ks (m := 140) (n := 204) rfl rfl (by decide)) (z_tne hf_la hf_ct (m := 140) (n := 132) rfl rfl (by decide)) (z_tne hf_la hf_se (m := 140) (n := 132) rfl rfl (by decide)) (Ne.symm ne_ow_la)).trans hf_la
        have hf_sa : f6 sa = .inl (cy 1, 4, .inl gs) := (hfm sa hm_sa (z_tne hf_sa hf_wk (m := 132) (n := 8) rfl rfl (by decide)) (z_tne hf_sa hf_ks (m := 132) (n := 204) rfl rfl (by decide)) (Ne.symm ne_ct_sa) (Ne.symm ne_se_sa) (z_tne hf_sa hf_ow (m := 132) (n := 140) rfl rfl (by decide))).trans hf_sa
        have hf_mi : f6 mi = .inl (cy 1, 36, .inl gm) := (hfm mi hm_mi (z_tne hf_mi hf_wk (m := 388) (n := 8) rfl rfl (by decide)) (z_tne hf_mi hf_ks (m := 388) (n := 204) rfl rfl (by decide)) (z_tne hf_mi hf_ct (m := 388) (n := 132) rfl rfl (by decide)) (z_tne hf_mi hf_se (m := 388) (n := 132) rfl rfl (by decide)) (z_tne hf_mi hf_ow (m := 388) (n := 140) rfl rfl (by decide))).trans hf_mi
        have hf_da : f6 da = .inl (cy 4, 13, .inr (.inr (.inr (.inr gd)))) := (hfm da hm_da (z_tne hf_da hf_wk (m := 206) (n := 8) rfl rfl (by decide)) (z_tne hf_da hf_ks (m := 206) (n := 204) rfl rfl (by decide)) (z_tne hf_da hf_ct (m := 206) (n := 132) rfl rfl (by decide)) (z_tne hf_da hf_se (m := 206) (n := 132) rfl rfl (by decide)) (z_tne hf_da hf_ow (m := 206) (n := 140) rfl rfl (by decide))).trans hf_da
        have hf_wk : f6 wk = .inr (8, [.ref ks, .int w2_7, .ref ct, .ref se, .ref ow, .int t2_8, .int wd, .int wp]) := ha_0
        have hf_ks : f6 ks = .inl (cy 1, 13, .inl k2_9) := ha_1
        have hf_ct : f6 ct = .inl (cy 1, 4, .inl c2_10) := ha_2
        have hf_se : f6 se = .inl (cy 1, 4, .inl q2_11) := ha_3
        have hf_ow : f6 ow = .inl (cy 1, 5, .inl o2_12) := ha_4
        have hbg13 := hp
        refine lv_aload_n hx hb dX9_ring_33 rfl (lv_at hl 0 rfl) ?_
        refine z_get (C := RX9) (T := TX9) (N := 11) (ci := 9) (v := .ref wk) hx hb hT zin_X9 hown hK hw hm_xo hf_xo rfl 7 (by decide) (hT _ kw_484) rfl dX9_ring_34 ?_
        refine lv_aload_n hx hb dX9_ring_37 rfl (lv_at hl 0 rfl) ?_
        refine z_get (C := RX9) (T := TX9) (N := 11) (ci := 9) (v := .ref mo) hx hb hT zin_X9 hown hK hw hm_xo hf_xo rfl 2 (by decide) (hT _ kw_479) rfl dX9_ring_38 ?_
        refine lv_iload_n hx hb dX9_ring_41 rfl (lv_at hl 1 rfl) ?_
        refine z_calliV (cells := 0) (slots := 0) (b := mo) (As := [.int ga]) (rest := [.ref wk]) (ci := 2) (q0 := (RX2, TX2, 11)) ⟨hx, hb, hml, hown, hT⟩ (c_X2_counterOf l hm_mo hm_la hf_mo hf_la (by first | omega | decide | assumption)) (cwV 1 hT (z_goodV (fun _ h => h) kw_809 kw_773 kw_774 kw_87 kw_775) rfl rfl rfl (by decide +kernel) ⟨by decide, by decide⟩) z_mv hKK hK hw hA hm_mo hf_mo rfl rfl rfl hl.1 rfl (Nat.le_of_ble_eq_true rfl) dX9_ring_42 ⟨by decide, by decide⟩ (fun r14 u H locs hp hw => ?_)
        obtain ⟨rfl, hp⟩ := hp
        have hw : z_H D vwCl (z_A L sz) s.heap L f6 H locs := hw
        refine lv_aload_n hx hb dX9_ring_45 rfl (lv_at hl 0 rfl) ?_
        refine z_get (C := RX9) (T := TX9) (N := 11) (ci := 9) (v := .ref mo) hx hb hT zin_X9 hown hK hw hm_xo hf_xo rfl 2 (by decide) (hT _ kw_479) rfl dX9_ring_46 ?_
        refine z_get (C := RX2) (T := TX2) (N := 11) (ci := 2) (v := .ref la) hx hb hT zin_X2 hown hK hw hm_mo hf_mo rfl 7 (by decide) (hT _ kw_234) rfl dX9_ring_49 ?_
        refine lv_iconst (v := 3) hx hb dX9_ring_52 (by decide) ?_
        refine z_iald hx hb hK hw 1 hm_la hf_la rfl (z_ix (show (3 : Int32).toInt = 3 by decide) (by decide)) dX9_ring_53 ?_
        refine lv_topi (fun w15 e_w15 => ?_)
        refine lv_iload_n hx hb dX9_ring_54 rfl (lv_at hl 2 rfl) ?_
        refine lv_iload_n hx hb dX9_ring_55 rfl (lv_at hl 3 rfl) ?_
        refine lv_imul hx hb dX9_ring_56 ?_
        refine lv_topi (fun w16 e_w16 => ?_)
        refine z_calliV (cells := 0) (slots := 0) (b := wk) (As := [.int r14, .int w15, .int w16]) (rest := []) (ci := 8) (q0 := (RX8, TX8, 8)) ⟨hx, hb, hml, hown, hT⟩ (c_X8_raise l hm_wk hm_ct hf_wk hf_ct (by first | omega | decide | assumption)) (cwV 3 hT (z_goodV (fun _ h => h) kw_986 kw_806 kw_807 kw_92 kw_808) rfl rfl rfl (by decide +kernel) ⟨by decide, by decide⟩) z_mv hKK hK hw hA hm_wk hf_wk rfl rfl rfl hl.1 rfl (Nat.le_of_ble_eq_true rfl) dX9_ring_57 ⟨by decide, by decide⟩ (fun r17 u H locs hp hw => ?_)
        obtain ⟨L18, f19⟩ := u
        obtain ⟨hsb, hfm, g2_20, ha_0, hp⟩ := hp
        have hsb : L = L18 := hsb
        subst hsb
        have hsb : ∀ b ∈ L, b ∈ L := fun _ h => h
        have hw : z_H D vwCl (z_A L sz) s.heap L f19 H locs := hw
        have hfr : ∀ b ∈ L, b ≠ wk → b ≠ ks → b ≠ ct → b ≠ se → b ≠ ow → f19 b = f b := fun b hb h0 h1 h2 h3 h4 => (hfm b hb h2).trans (hfr b hb h0 h1 h2 h3 h4)
        have hd_da : z_Drv L f19 dv 13 := z_Drv_fr hd_da hsb (fun b hb ht => hfm b hb (z_t0 ht hf_ct (m := 132) rfl (by decide)))
        have hf_xo : f19 xo = .inr (9, [.ref tp, .ref rd, .ref mo, .ref dmo, .ref im, .ref kp, .ref sl, .ref wk, .ref pl, .ref oo, .ref mx]) := (hfm xo hm_xo (z_tne hf_xo hf_ct (m := 9) (n := 132) rfl rfl (by decide))).trans hf_xo
        have hf_wk : f19 wk = .inr (8, [.ref ks, .int w2_7, .ref ct, .ref se, .ref ow, .int t2_8, .int wd, .int wp]) := (hfm wk hm_wk (z_tne hf_wk hf_ct (m := 8) (n := 132) rfl rfl (by decide))).trans hf_wk
        have hf_ks : f19 ks = .inl (cy 1, 13, .inl k2_9) := (hfm ks hm_ks (z_tne hf_ks hf_ct (m := 204) (n := 132) rfl rfl (by decide))).trans hf_ks
        have hf_se : f19 se = .inl (cy 1, 4, .inl q2_11) := (hfm se hm_se (Ne.symm ne_ct_se)).trans hf_se
        have hf_ow : f19 ow = .inl (cy 1, 5, .inl o2_12) := (hfm ow hm_ow (z_tne hf_ow hf_ct (m := 140) (n := 132) rfl rfl (by decide))).trans hf_ow
        have hf_mo : f19 mo = .inr (2, [.int v0, .int v1, .int v2, .int v3, .int v4, .int v5, .int v6, .ref la, .ref sa, .ref mi, .ref da]) := (hfm mo hm_mo (z_tne hf_mo hf_ct (m := 2) (n := 132) rfl rfl (by decide))).trans hf_mo
        have hf_la : f19 la = .inl (cy 1, 5, .inl gl) := (hfm la hm_la (z_tne hf_la hf_ct (m := 140) (n := 132) rfl rfl (by decide))).trans hf_la
        have hf_sa : f19 sa = .inl (cy 1, 4, .inl gs) := (hfm sa hm_sa (Ne.symm ne_ct_sa)).trans hf_sa
        have hf_mi : f19 mi = .inl (cy 1, 36, .inl gm) := (hfm mi hm_mi (z_tne hf_mi hf_ct (m := 388) (n := 132) rfl rfl (by decide))).trans hf_mi
        have hf_da : f19 da = .inl (cy 4, 13, .inr (.inr (.inr (.inr gd)))) := (hfm da hm_da (z_tne hf_da hf_ct (m := 206) (n := 132) rfl rfl (by decide))).trans hf_da
        have hf_ct : f19 ct = .inl (cy 1, 4, .inl g2_20) := ha_0
        exact z_iret hx hb hr hlk (by decide) (by decide) hw (⟨hsub, hfr, w2_7, t2_8, wd, wp, k2_9, g2_20, q2_11, o2_12, hf_wk, hf_ks, hf_ct, hf_se, hf_ow, by omega, hbg13.2⟩) dX9_ring_60
      · skip
        refine lv_bipush (v := (-2)) hx hb dX9_ring_19 (by decide) ?_
        exact z_iret hx hb hr hlk (by decide) (by decide) hw (⟨hsub, hfr, wn, wt, wd, wp, gk, gc, gq, go, hf_wk, hf_ks, hf_ct, hf_se, hf_ow, by omega, hgk⟩) dX9_ring_21
  · skip
    refine z_if_eq (tgt := 19) hx hb (show (0 : Int32).toInt = 0 by decide) dX9_ring_6 (by decide) (fun _ => ?_) (fun h => absurd h (by decide))
    refine lv_bipush (v := (-2)) hx hb dX9_ring_19 (by decide) ?_
    exact z_iret hx hb hr hlk (by decide) (by decide) hw (⟨hsub, hfr, wn, wt, wd, wp, gk, gc, gq, go, hf_wk, hf_ks, hf_ct, hf_se, hf_ow, by omega, hgk⟩) dX9_ring_21

set_option maxHeartbeats 2000000 in
set_option maxRecDepth 100000 in
theorem c_X9_rounds (l : Launch) {D : va_G} {cy : Nat → ClassId} {L : List Nat} {f : Nat → va_E} {sz : Nat} {adK adV : Nat → Nat} {xo tp rd mo dmo im kp sl wk pl oo mx : Nat} {ks ct se ow : Nat} {wn wt wd wp : Int32} {gk gc gq go : Nat → Int32} {la sa mi da : Nat} {v0 v1 v2 v3 v4 v5 v6 : Int32} {gl gs gm : Nat → Int32} {gd : Nat → Option Nat} {dv : Nat → Nat} {ga nn : Int32} (hm_xo : xo ∈ L) (hm_wk : wk ∈ L) (hm_ks : ks ∈ L) (hm_ct : ct ∈ L) (hm_se : se ∈ L) (hm_ow : ow ∈ L) (hm_mo : mo ∈ L) (hm_la : la ∈ L) (hm_sa : sa ∈ L) (hm_mi : mi ∈ L) (hm_da : da ∈ L) (hf_xo : f xo = .inr (9, [.ref tp, .ref rd, .ref mo, .ref dmo, .ref im, .ref kp, .ref sl, .ref wk, .ref pl, .ref oo, .ref mx])) (hf_wk : f wk = .inr (8, [.ref ks, .int wn, .ref ct, .ref se, .ref ow, .int wt, .int wd, .int wp])) (hf_ks : f ks = .inl (cy 1, 13, .inl gk)) (hf_ct : f ct = .inl (cy 1, 4, .inl gc)) (hf_se : f se = .inl (cy 1, 4, .inl gq)) (hf_ow : f ow = .inl (cy 1, 5, .inl go)) (hf_mo : f mo = .inr (2, [.int v0, .int v1, .int v2, .int v3, .int v4, .int v5, .int v6, .ref la, .ref sa, .ref mi, .ref da])) (hf_la : f la = .inl (cy 1, 5, .inl gl)) (hf_sa : f sa = .inl (cy 1, 4, .inl gs)) (hf_mi : f mi = .inl (cy 1, 36, .inl gm)) (hf_da : f da = .inl (cy 4, 13, .inr (.inr (.inr (.inr gd))))) (ne_ct_se : ct ≠ se) (ne_ct_sa : ct ≠ sa) (ne_se_sa : se ≠ sa) (ne_ow_la : ow ≠ la) (hg_da : ∀ i : Nat, i < 13 → gd i = some (dv i)) (hd_da : z_Drv L f dv 13) (hv2 : 0 ≤ v2.toInt ∧ v2.toInt ≤ 9) (hv5 : 0 ≤ v5.toInt ∧ v5.toInt ≤ 12) (hv1 : 0 ≤ v1.toInt ∧ v1.toInt ≤ 4) (hv3 : 0 ≤ v3.toInt ∧ v3.toInt ≤ 5) (hgk : ∀ j : Nat, z_key (gk j)) (hgm : ∀ j : Nat, 0 ≤ (gm j).toInt ∧ (gm j).toInt ≤ 9) (hwn : 0 ≤ wn.toInt ∧ wn.toInt ≤ 13) (hgl : ∀ j : Nat, 0 ≤ (gl j).toInt ∧ (gl j).toInt ≤ 999) : Met l yX9_rounds (z_ws yX9_rounds cX9_rounds 6 (some .int)) (z_R 7 0 0) (va_Pc [.ref xo, .int ga, .int nn] (z_Pre D vwCl (z_KK D cy adK adV) L f sz)) (z_Qi D vwCl (fun r u => L = u.1 ∧ (∀ b ∈ L, b ≠ wk → b ≠ ks → b ≠ ct → b ≠ se → b ≠ ow → u.2 b = f b) ∧ (∃ (w2 t2 d2 p2 : Int32) (k2 c2 q2 o2 : Nat → Int32), (u.2 wk = .inr (8, [.ref ks, .int w2, .ref ct, .ref se, .ref ow, .int t2, .int d2, .int p2])) ∧ (u.2 ks = .inl (cy 1, 13, .inl k2)) ∧ (u.2 ct = .inl (cy 1, 4, .inl c2)) ∧ (u.2 se = .inl (cy 1, 4, .inl q2)) ∧ (u.2 ow = .inl (cy 1, 5, .inl o2)) ∧ ((0 ≤ w2.toInt ∧ w2.toInt ≤ 13) ∧ ∀ j : Nat, z_key (k2 j)))) L sz) 0 0 (z_A L sz) := by
  refine z_met (cc := cX9_rounds) (maxL := 6) (ret := (some .int)) (lv := [(0, .ref xo), (1, .int ga), (2, .int nn)]) (by decide) rfl (Nat.le_of_ble_eq_true rfl) rfl ?_
  intro p e s m below meth c ls hx hb hr hlk hml hown hnm hts hKK hA hw hl
  have hK := hKK.1.1
  have hown : s.vm.findClass RX9 = some m.cls := hown
  have hT : ∀ w ∈ lw_all, w.before ([.ref xo, .int ga, .int nn] : List Value).toArray s = true := fun w h => hts w (z_cons w h)
  have hsub : L = L := rfl
  have hfr : ∀ b ∈ L, b ≠ wk → b ≠ ks → b ≠ ct → b ≠ se → b ≠ ow → f b = f b := fun _ _ _ _ _ _ _ => rfl
  refine lv_aload_n hx hb dX9_rounds_0 rfl (lv_at hl 0 rfl) ?_
  refine lv_iload_n hx hb dX9_rounds_1 rfl (lv_at hl 1 rfl) ?_
  refine lv_iload_n hx hb dX9_rounds_2 rfl (lv_at hl 2 rfl) ?_
  refine z_calliV (cells := 0) (slots := 0) (b := xo) (As := [.int ga, .int nn]) (rest := []) (ci := 9) (q0 := (RX9, TX9, 11)) ⟨hx, hb, hml, hown, hT⟩ (c_X9_isRing l hm_xo hm_mo hf_xo hf_mo) (cwV 2 hT (z_goodV (fun _ h => h) kw_981 kw_983 kw_19 kw_85 kw_984) rfl rfl rfl (by decide +kernel) ⟨by decide, by decide⟩) z_mv hKK hK hw hA hm_xo hf_xo rfl rfl rfl hl.1 rfl (Nat.le_of_ble_eq_true rfl) dX9_rounds_3 ⟨by decide, by decide⟩ (fun r1 u H locs hp hw => ?_)
  obtain ⟨rfl, hp⟩ := hp
  have hw : z_H D vwCl (z_A L sz) s.heap L f H locs := hw
  rcases hp with ⟨rfl, h2⟩ | ⟨rfl, h2⟩
  · skip
    refine z_if_ne (tgt := 12) hx hb (show (1 : Int32).toInt = 1 by decide) dX9_rounds_6 (by decide) (fun _ => ?_) (fun h => absurd h (by decide))
    refine lv_aload_n hx hb dX9_rounds_12 rfl (lv_at hl 0 rfl) ?_
    refine z_get (C := RX9) (T := TX9) (N := 11) (ci := 9) (v := .ref wk) hx hb hT zin_X9 hown hK hw hm_xo hf_xo rfl 7 (by decide) (hT _ kw_484) rfl dX9_rounds_13 ?_
    refine lv_aload_n hx hb dX9_rounds_16 rfl (lv_at hl 0 rfl) ?_
    refine z_get (C := RX9) (T := TX9) (N := 11) (ci := 9) (v := .ref mo) hx hb hT zin_X9 hown hK hw hm_xo hf_xo rfl 2 (by decide) (hT _ kw_479) rfl dX9_rounds_17 ?_
    refine lv_iload_n hx hb dX9_rounds_20 rfl (lv_at hl 1 rfl) ?_
    refine z_calliV (cells := 0) (slots := 0) (b := wk) (As := [.ref mo, .int ga]) (rest := []) (ci := 8) (q0 := (RX8, TX8, 8)) ⟨hx, hb, hml, hown, hT⟩ (c_X8_stillFree l hm_wk hm_ks hm_ct hm_se hm_ow hm_mo hm_la hm_sa hm_mi hm_da hf_wk hf_ks hf_ct hf_se hf_ow hf_mo hf_la hf_sa hf_mi hf_da ne_ct_se ne_ct_sa ne_se_sa ne_ow_la hg_da hd_da (by first | omega | decide | assumption) (by first | omega | decide | assumption) hgk hgm (by first | omega | decide | assumption)) (cwV 2 hT (z_goodV (fun _ h => h) kw_883 kw_884 kw_885 kw_92 kw_886) rfl rfl rfl (by decide +kernel) ⟨by decide, by decide⟩) z_mv hKK hK hw hA hm_wk hf_wk rfl rfl rfl hl.1 rfl (Nat.le_of_ble_eq_true rfl) dX9_rounds_21 ⟨by decide, by decide⟩ (fun r3 u H locs hp hw => ?_)
    obtain ⟨L4, f5⟩ := u
    obtain ⟨hsb, hfm, w2_6, t2_7, k2_8, c2_9, q2_10, o2_11, ha_0, ha_1, ha_2, ha_3, ha_4, hp⟩ := hp
    have hsb : L = L4 := hsb
    subst hsb
    have hsb : ∀ b ∈ L, b ∈ L := fun _ h => h
    have hw : z_H D vwCl (z_A L sz) s.heap L f5 H locs := hw
    have hfr : ∀ b ∈ L, b ≠ wk → b ≠ ks → b ≠ ct → b ≠ se → b ≠ ow → f5 b = f b := fun b hb h0 h1 h2 h3 h4 => (hfm b hb h0 h1 h2 h3 h4).trans (hfr b hb h0 h1 h2 h3 h4)
    have hd_da : z_Drv L f5 dv 13 := z_Drv_fr hd_da hsb (fun b hb ht => hfm b hb (z_t0 ht hf_wk (m := 8) rfl (by decide)) (z_t0 ht hf_ks (m := 204) rfl (by decide)) (z_t0 ht hf_ct (m := 132) rfl (by decide)) (z_t0 ht hf_se (m := 132) rfl (by decide)) (z_t0 ht hf_ow (m := 140) rfl (by decide)))
    have hf_xo : f5 xo = .inr (9, [.ref tp, .ref rd, .ref mo, .ref dmo, .ref im, .ref kp, .ref sl, .ref wk, .ref pl, .ref oo, .ref mx]) := (hfm xo hm_xo (z_tne hf_xo hf_wk (m := 9) (n := 8) rfl rfl (by decide)) (z_tne hf_xo hf_ks (m := 9) (n := 204) rfl rfl (by decide)) (z_tne hf_xo hf_ct (m := 9) (n := 132) rfl rfl (by decide)) (z_tne hf_xo hf_se (m := 9) (n := 132) rfl rfl (by decide)) (z_tne hf_xo hf_ow (m := 9) (n := 140) rfl rfl (by decide))).trans hf_xo
    have hf_mo : f5 mo = .inr (2, [.int v0, .int v1, .int v2, .int v3, .int v4, .int v5, .int v6, .ref la, .ref sa, .ref mi, .ref da]) := (hfm mo hm_mo (z_tne hf_mo hf_wk (m := 2) (n := 8) rfl rfl (by decide)) (z_tne hf_mo hf_ks (m := 2) (n := 204) rfl rfl (by decide)) (z_tne hf_mo hf_ct (m := 2) (n := 132) rfl rfl (by decide)) (z_tne hf_mo hf_se (m := 2) (n := 132) rfl rfl (by decide)) (z_tne hf_mo hf_ow (m := 2) (n := 140) rfl rfl (by decide))).trans hf_mo
    have hf_la : f5 la = .inl (cy 1, 5, .inl gl) := (hfm la hm_la (z_tne hf_la hf_wk (m := 140) (n := 8) rfl rfl (by decide)) (z_tne hf_la hf_ks (m := 140) (n := 204) rfl rfl (by decide)) (z_tne hf_la hf_ct (m := 140) (n := 132) rfl rfl (by decide)) (z_tne hf_la hf_se (m := 140) (n := 132) rfl rfl (by decide)) (Ne.symm ne_ow_la)).trans hf_la
    have hf_sa : f5 sa = .inl (cy 1, 4, .inl gs) := (hfm sa hm_sa (z_tne hf_sa hf_wk (m := 132) (n := 8) rfl rfl (by decide)) (z_tne hf_sa hf_ks (m := 132) (n := 204) rfl rfl (by decide)) (Ne.symm ne_ct_sa) (Ne.symm ne_se_sa) (z_tne hf_sa hf_ow (m := 132) (n := 140) rfl rfl (by decide))).trans hf_sa
    have hf_mi : f5 mi = .inl (cy 1, 36, .inl gm) := (hfm mi hm_mi (z_tne hf_mi hf_wk (m := 388) (n := 8) rfl rfl (by decide)) (z_tne hf_mi hf_ks (m := 388) (n := 204) rfl rfl (by decide)) (z_tne hf_mi hf_ct (m := 388) (n := 132) rfl rfl (by decide)) (z_tne hf_mi hf_se (m := 388) (n := 132) rfl rfl (by decide)) (z_tne hf_mi hf_ow (m := 388) (n := 140) rfl rfl (by decide))).trans hf_mi
    have hf_da : f5 da = .inl (cy 4, 13, .inr (.inr (.inr (.inr gd)))) := (hfm da hm_da (z_tne hf_da hf_wk (m := 206) (n := 8) rfl rfl (by decide)) (z_tne hf_da hf_ks (m := 206) (n := 204) rfl rfl (by decide)) (z_tne hf_da hf_ct (m := 206) (n := 132) rfl rfl (by decide)) (z_tne hf_da hf_se (m := 206) (n := 132) rfl rfl (by decide)) (z_tne hf_da hf_ow (m := 206) (n := 140) rfl rfl (by decide))).trans hf_da
    have hf_wk : f5 wk = .inr (8, [.ref ks, .int w2_6, .ref ct, .ref se, .ref ow, .int t2_7, .int wd, .int wp]) := ha_0
    have hf_ks : f5 ks = .inl (cy 1, 13, .inl k2_8) := ha_1
    have hf_ct : f5 ct = .inl (cy 1, 4, .inl c2_9) := ha_2
    have hf_se : f5 se = .inl (cy 1, 4, .inl q2_10) := ha_3
    have hf_ow : f5 ow = .inl (cy 1, 5, .inl o2_11) := ha_4
    have hbg12 := hp
    refine lv_istore_n (lv' := [(3, .int r3), (0, .ref xo), (1, .int ga), (2, .int nn)]) hx hb dX9_rounds_24 rfl hl (by decide) rfl (fun ls hl => ?_)
    refine lv_aload_n hx hb dX9_rounds_25 rfl (lv_at hl 1 rfl) ?_
    refine z_get (C := RX9) (T := TX9) (N := 11) (ci := 9) (v := .ref mo) hx hb hT zin_X9 hown hK hw hm_xo hf_xo rfl 2 (by decide) (hT _ kw_479) rfl dX9_rounds_26 ?_
    refine z_get (C := RX2) (T := TX2) (N := 11) (ci := 2) (v := .ref la) hx hb hT zin_X2 hown hK hw hm_mo hf_mo rfl 7 (by decide) (hT _ kw_234) rfl dX9_rounds_29 ?_
    refine lv_iconst (v := 3) hx hb dX9_rounds_32 (by decide) ?_
    refine z_iald hx hb hK hw 1 hm_la hf_la rfl (z_ix (show (3 : Int32).toInt = 3 by decide) (by decide)) dX9_rounds_33 ?_
    refine lv_topi (fun w13 e_w13 => ?_)
    have hl_w13 : 0 ≤ w13.toInt ∧ w13.toInt ≤ 999 := by rw [e_w13]; exact hgl _
    refine lv_istore (lv' := [(4, .int w13), (3, .int r3), (0, .ref xo), (1, .int ga), (2, .int nn)]) hx hb dX9_rounds_34 hl (by decide) rfl (fun ls hl => ?_)
    refine lv_iconst (v := 1) hx hb dX9_rounds_36 (by decide) ?_
    refine lv_istore (lv' := [(5, .int 1), (4, .int w13), (3, .int r3), (0, .ref xo), (1, .int ga), (2, .int nn)]) hx hb dX9_rounds_37 hl (by decide) rfl (fun ls hl => ?_)
    have hzk : (1 : Int32).toInt = 1 := by decide
    refine z_loop (fun n H locs ls => ∃ (K14 : Int32) (f15 : Nat → va_E), (n = (w13.toInt + 1 - K14.toInt).toNat) ∧ (1 ≤ K14.toInt) ∧ (K14.toInt ≤ w13.toInt + 1) ∧ (z_H D vwCl (z_A L sz) s.heap L f15 H locs) ∧ (f15 xo = .inr (9, [.ref tp, .ref rd, .ref mo, .ref dmo, .ref im, .ref kp, .ref sl, .ref wk, .ref pl, .ref oo, .ref mx])) ∧ (f15 wk = .inr (8, [.ref ks, .int w2_6, .ref ct, .ref se, .ref ow, .int t2_7, .int wd, .int wp])) ∧ (f15 ks = .inl (cy 1, 13, .inl k2_8)) ∧ (f15 ct = .inl (cy 1, 4, .inl c2_9)) ∧ (f15 se = .inl (cy 1, 4, .inl q2_10)) ∧ (f15 ow = .inl (cy 1, 5, .inl o2_11)) ∧ (f15 mo = .inr (2, [.int v0, .int v1, .int v2, .int v3, .int v4, .int v5, .int v6, .ref la, .ref sa, .ref mi, .ref da])) ∧ (f15 la = .inl (cy 1, 5, .inl gl)) ∧ (f15 sa = .inl (cy 1, 4, .inl gs)) ∧ (f15 mi = .inl (cy 1, 36, .inl gm)) ∧ (f15 da = .inl (cy 4, 13, .inr (.inr (.inr (.inr gd))))) ∧ (∀ b ∈ L, b ≠ wk → b ≠ ks → b ≠ ct → b ≠ se → b ≠ ow → f15 b = f b) ∧ (z_Drv L f15 dv 13) ∧ (lv_has ls 6 [(5, .int K14), (4, .int w13), (3, .int r3), (0, .ref xo), (1, .int ga), (2, .int nn)])) _ ⟨1, f5, rfl, (by first | decide | omega), (by first | decide | omega), hw, hf_xo, hf_wk, hf_ks, hf_ct, hf_se, hf_ow, hf_mo, hf_la, hf_sa, hf_mi, hf_da, hfr, hd_da, (lv_sub hl [0, 1, 2, 3, 4, 5] rfl)⟩ (fun n H locs ls hI ih_39 => ?_)
    obtain ⟨K14, f15, hn, hk0, hk1, hw, hf_xo, hf_wk, hf_ks, hf_ct, hf_se, hf_ow, hf_mo, hf_la, hf_sa, hf_mi, hf_da, hfr, hd_da, hl⟩ := hI
    refine lv_iload hx hb dX9_rounds_39 (lv_at hl 0 rfl) ?_
    refine lv_iload hx hb dX9_rounds_41 (lv_at hl 1 rfl) ?_
    refine z_icmp_gt (tgt := 75) hx hb rfl rfl dX9_rounds_43 (by decide) (fun c16 => ?_) (fun c16 => ?_)
    · skip
      refine lv_iconst (v := (-1)) hx hb dX9_rounds_75 (by decide) ?_
      exact z_iret hx hb hr hlk (by decide) (by decide) hw (⟨hsub, hfr, w2_6, t2_7, wd, wp, k2_8, c2_9, q2_10, o2_11, hf_wk, hf_ks, hf_ct, hf_se, hf_ow, by omega, hbg12.2⟩) dX9_rounds_76
    · skip
      refine lv_iload hx hb dX9_rounds_46 (lv_at hl 0 rfl) ?_
      refine lv_iload_n hx hb dX9_rounds_48 rfl (lv_at hl 5 rfl) ?_
      refine lv_imul hx hb dX9_rounds_49 ?_
      refine lv_topi (fun w17 e_w17 => ?_)
      refine lv_iload_n hx hb dX9_rounds_50 rfl (lv_at hl 2 rfl) ?_
      refine z_icmp_lt (tgt := 69) hx hb rfl rfl dX9_rounds_51 (by decide) (fun c18 => ?_) (fun c18 => ?_)
      · skip
        obtain ⟨k19, e_k19⟩ : ∃ z : Int32, z = K14 + 1 := ⟨_, rfl⟩
        refine lv_iinc (v := k19) (lv' := [(5, .int k19), (4, .int w13), (3, .int r3), (0, .ref xo), (1, .int ga), (2, .int nn)]) hx hb dX9_rounds_69 hl (k := 0) rfl (by rw [e_k19]; rfl) (by decide) rfl (fun ls hl => ?_)
        have i_k19 : k19.toInt = (K14.toInt + 1) := z_add e_k19 rfl (by decide) (by omega)
        refine lv_goto (tgt := 39) hx hb dX9_rounds_72 (by decide) ?_
        exact ih_39 _ (by omega) _ _ _ ⟨k19, f15, rfl, (by first | decide | omega), (by first | decide | omega), hw, hf_xo, hf_wk, hf_ks, hf_ct, hf_se, hf_ow, hf_mo, hf_la, hf_sa, hf_mi, hf_da, hfr, hd_da, (lv_sub hl [0, 1, 2, 3, 4, 5] rfl)⟩
      · skip
        refine lv_iload hx hb dX9_rounds_54 (lv_at hl 0 rfl) ?_
        refine lv_iload_n hx hb dX9_rounds_56 rfl (lv_at hl 5 rfl) ?_
        refine lv_imul hx hb dX9_rounds_57 ?_
        refine lv_topi (fun w20 e_w20 => ?_)
        refine lv_iload_n hx hb dX9_rounds_58 rfl (lv_at hl 2 rfl) ?_
        refine lv_isub hx hb dX9_rounds_59 ?_
        refine lv_topi (fun w21 e_w21 => ?_)
        refine lv_iload hx hb dX9_rounds_60 (lv_at hl 1 rfl) ?_
        refine lv_irem hx hb dX9_rounds_62 (z_ne0 rfl (by omega)) ?_
        refine lv_topi (fun w22 e_w22 => ?_)
        refine z_if_ne (tgt := 69) hx hb rfl dX9_rounds_63 (by decide) (fun c23 => ?_) (fun c23 => ?_)
        · skip
          obtain ⟨k24, e_k24⟩ : ∃ z : Int32, z = K14 + 1 := ⟨_, rfl⟩
          refine lv_iinc (v := k24) (lv' := [(5, .int k24), (4, .int w13), (3, .int r3), (0, .ref xo), (1, .int ga), (2, .int nn)]) hx hb dX9_rounds_69 hl (k := 0) rfl (by rw [e_k24]; rfl) (by decide) rfl (fun ls hl => ?_)
          have i_k24 : k24.toInt = (K14.toInt + 1) := z_add e_k24 rfl (by decide) (by omega)
          refine lv_goto (tgt := 39) hx hb dX9_rounds_72 (by decide) ?_
          exact ih_39 _ (by omega) _ _ _ ⟨k24, f15, rfl, (by first | decide | omega), (by first | decide | omega), hw, hf_xo, hf_wk, hf_ks, hf_ct, hf_se, hf_ow, hf_mo, hf_la, hf_sa, hf_mi, hf_da, hfr, hd_da, (lv_sub hl [0, 1, 2, 3, 4, 5] rfl)⟩
        · skip
          refine lv_iload hx hb dX9_rounds_66 (lv_at hl 0 rfl) ?_
          exact z_iret hx hb hr hlk (by decide) (by decide) hw (⟨hsub, hfr, w2_6, t2_7, wd, wp, k2_8, c2_9, q2_10, o2_11, hf_wk, hf_ks, hf_ct, hf_se, hf_ow, by omega, hbg12.2⟩) dX9_rounds_68
  · skip
    refine z_if_ne (tgt := 12) hx hb (show (0 : Int32).toInt = 0 by decide) dX9_rounds_6 (by decide) (fun h => absurd h (by decide)) (fun _ => ?_)
    refine lv_bipush (v := (-2)) hx hb dX9_rounds_9 (by decide) ?_
    exact z_iret hx hb hr hlk (by decide) (by decide) hw (⟨hsub, hfr, wn, wt, wd, wp, gk, gc, gq, go, hf_wk, hf_ks, hf_ct, hf_se, hf_ow, by omega, hgk⟩) dX9_rounds_11
