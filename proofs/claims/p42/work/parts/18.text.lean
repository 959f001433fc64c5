set_option maxHeartbeats 2000000 in
set_option maxRecDepth 100000 in
theorem c_J0_coder_7d493 (l : Launch) {D : va_G} {cy : Nat → ClassId} {L : List Nat} {f : Nat → va_E} {sz : Nat} {adK adV : Nat → Nat} {wi : Nat} (hwi : wi < 25) : Met l yJ0_coder_7d493 (z_ws yJ0_coder_7d493 cJ0_coder_7d493 1 (some .byte)) (z_R 1 0 0) (va_Pc [.ref (adK wi)] (z_Pre D vwCl (z_KK D cy adK adV) L f sz)) (z_Qi D vwCl (fun r u => u = (L, f) ∧ (r = 0)) L sz) 0 0 (z_A L sz) := by
  refine z_met (cc := cJ0_coder_7d493) (maxL := 1) (ret := (some .byte)) (lv := [(0, .ref (adK wi))]) (by decide) rfl (Nat.le_of_ble_eq_true rfl) rfl ?_
  intro p e s m below meth c ls hx hb hr hlk hml hown hnm hts hKK hA hw hl
  have hK := hKK.1.1
  have hown : s.vm.findClass RJ0 = some m.cls := hown
  have hT : ∀ w ∈ lw_all, w.before ([.ref (adK wi)] : List Value).toArray s = true := fun w h => hts w (z_cons w h)
  refine va_gets hx hb hKK.2.2.2.1 hw.2.2 hown (hT _ kw_582) (fun _ h => h) dJ0_coder_7d493_0 ?_
  refine z_if_eq (tgt := 13) hx hb (show (1 : Int32).toInt = 1 by decide) dJ0_coder_7d493_3 (by decide) (fun h => absurd h (by decide)) (fun _ => ?_)
  refine lv_aload_n hx hb dJ0_coder_7d493_6 rfl (lv_at hl 0 rfl) ?_
  refine vk_getf hx hb (hKK.2.1.1 wi (by first | omega | decide | assumption)).2.1 hw.2.2 hown (hT _ kw_1774) (fun _ h => h) dJ0_coder_7d493_7 ?_
  refine lv_goto (tgt := 14) hx hb dJ0_coder_7d493_10 (by decide) ?_
  exact z_zret hx hb hr rfl hlk (by decide) (by decide) hw (⟨rfl, rfl⟩) dJ0_coder_7d493_14

set_option maxHeartbeats 2000000 in
set_option maxRecDepth 100000 in
theorem c_J0_isLatin1_aae02 (l : Launch) {D : va_G} {cy : Nat → ClassId} {L : List Nat} {f : Nat → va_E} {sz : Nat} {adK adV : Nat → Nat} {wi : Nat} (hwi : wi < 25) : Met l yJ0_isLatin1_aae02 (z_ws yJ0_isLatin1_aae02 cJ0_isLatin1_aae02 1 (some .boolean)) (z_R 1 0 0) (va_Pc [.ref (adK wi)] (z_Pre D vwCl (z_KK D cy adK adV) L f sz)) (z_Qi D vwCl (fun r u => u = (L, f) ∧ (r = 1)) L sz) 0 0 (z_A L sz) := by
  refine z_met (cc := cJ0_isLatin1_aae02) (maxL := 1) (ret := (some .boolean)) (lv := [(0, .ref (adK wi))]) (by decide) rfl (Nat.le_of_ble_eq_true rfl) rfl ?_
  intro p e s m below meth c ls hx hb hr hlk hml hown hnm hts hKK hA hw hl
  have hK := hKK.1.1
  have hown : s.vm.findClass RJ0 = some m.cls := hown
  have hT : ∀ w ∈ lw_all, w.before ([.ref (adK wi)] : List Value).toArray s = true := fun w h => hts w (z_cons w h)
  refine va_gets hx hb hKK.2.2.2.1 hw.2.2 hown (hT _ kw_582) (fun _ h => h) dJ0_isLatin1_aae02_0 ?_
  refine z_if_eq (tgt := 17) hx hb (show (1 : Int32).toInt = 1 by decide) dJ0_isLatin1_aae02_3 (by decide) (fun h => absurd h (by decide)) (fun _ => ?_)
  refine lv_aload_n hx hb dJ0_isLatin1_aae02_6 rfl (lv_at hl 0 rfl) ?_
  refine vk_getf hx hb (hKK.2.1.1 wi (by first | omega | decide | assumption)).2.1 hw.2.2 hown (hT _ kw_1774) (fun _ h => h) dJ0_isLatin1_aae02_7 ?_
  refine z_if_ne (tgt := 17) hx hb (show (0 : Int32).toInt = 0 by decide) dJ0_isLatin1_aae02_10 (by decide) (fun h => absurd h (by decide)) (fun _ => ?_)
  refine lv_iconst (v := 1) hx hb dJ0_isLatin1_aae02_13 (by decide) ?_
  refine lv_goto (tgt := 18) hx hb dJ0_isLatin1_aae02_14 (by decide) ?_
  exact z_zret hx hb hr rfl hlk (by decide) (by decide) hw (⟨rfl, rfl⟩) dJ0_isLatin1_aae02_18

set_option maxHeartbeats 2000000 in
set_option maxRecDepth 100000 in
theorem c_J0_length_8abf5 (l : Launch) {D : va_G} {cy : Nat → ClassId} {L : List Nat} {f : Nat → va_E} {sz : Nat} {adK adV : Nat → Nat} {wi : Nat} (hwi : wi < 25) : Met l yJ0_length_8abf5 (z_ws yJ0_length_8abf5 cJ0_length_8abf5 1 (some .int)) (z_R 2 0 0) (va_Pc [.ref (adK wi)] (z_Pre D vwCl (z_KK D cy adK adV) L f sz)) (z_Qi D vwCl (fun r u => u = (L, f) ∧ (r.toInt = ((z_sL.getD wi 0 : Nat) : Int))) L sz) 0 0 (z_A L sz) := by
  refine z_met (cc := cJ0_length_8abf5) (maxL := 1) (ret := (some .int)) (lv := [(0, .ref (adK wi))]) (by decide) rfl (Nat.le_of_ble_eq_true rfl) rfl ?_
  intro p e s m below meth c ls hx hb hr hlk hml hown hnm hts hKK hA hw hl
  have hK := hKK.1.1
  have hown : s.vm.findClass RJ0 = some m.cls := hown
  have hT : ∀ w ∈ lw_all, w.before ([.ref (adK wi)] : List Value).toArray s = true := fun w h => hts w (z_cons w h)
  refine lv_aload_n hx hb dJ0_length_8abf5_0 rfl (lv_at hl 0 rfl) ?_
  refine vk_getf hx hb (hKK.2.1.1 wi (by first | omega | decide | assumption)).2.2.1 hw.2.2 hown (hT _ kw_1773) (fun _ h => h) dJ0_length_8abf5_1 ?_
  refine va_tlen hx hb (hKK.2.1.1 wi (by first | omega | decide | assumption)).2.2.2 hw.2.2 rfl dJ0_length_8abf5_4 ?_
  have hs7 := z_s7 (i := wi) (by first | omega | decide | assumption)
  refine lv_topi (fun w1 e_w1 => ?_)
  have i_w1 : w1.toInt = ((z_sL.getD wi 0 : Nat) : Int) := by rw [e_w1]; exact nI_toInt (by omega)
  refine lv_aload_n hx hb dJ0_length_8abf5_5 rfl (lv_at hl 0 rfl) ?_
  refine z_calliX (cells := 0) (slots := 0) (b := (adK wi)) (As := []) (rest := [.int w1]) ⟨hx, hb, hml, hown, hT⟩ (c_J0_coder_7d493 l (by first | omega | decide | assumption)) (cwV 0 hT (z_goodV (fun _ h => h) kw_578 kw_579 kw_580 kw_98 kw_581) rfl rfl rfl (by decide +kernel) ⟨by decide, by decide⟩) z_mv hKK hw hA (vk_recv hKK.2.1 (i := wi) (by first | omega | decide | assumption) hw.2.2) rfl hl.1 rfl (Nat.le_of_ble_eq_true rfl) dJ0_length_8abf5_6 ⟨by decide, by decide⟩ (fun r2 u H locs hp hw => ?_)
  obtain ⟨rfl, hp⟩ := hp
  have hw : z_H D vwCl (z_A L sz) s.heap L f H locs := hw
  obtain rfl := hp
  refine lv_ishr hx hb dJ0_length_8abf5_9 ?_
  refine lv_topi (fun w3 e_w3 => ?_)
  have i_w3 : w3.toInt = (((z_sL.getD wi 0 : Nat) : Int) / 1) := z_shrI 0 e_w3 (by decide) i_w1 (by omega)
  exact z_iret hx hb hr hlk (by decide) (by decide) hw (⟨rfl, by omega⟩) dJ0_length_8abf5_10

set_option maxHeartbeats 2000000 in
set_option maxRecDepth 100000 in
theorem c_J3_checkIndex_n (l : Launch) {D : va_G} {cy : Nat → ClassId} {L : List Nat} {f : Nat → va_E} {sz : Nat} {adK adV : Nat → Nat} {ix nx : Int32}  (hix : 0 ≤ ix.toInt ∧ ix.toInt < nx.toInt) : Met l yJ3_checkIndex_8e157 (z_ws yJ3_checkIndex_8e157 cJ3_checkIndex_8e157 3 (some .int)) (z_R 1 0 0) (va_Pc [.int ix, .int nx, .null] (z_Pre D vwCl (z_KK D cy adK adV) L f sz)) (z_Qi D vwCl (fun r u => u = (L, f) ∧ (True)) L sz) 0 0 (z_A L sz) := by
  refine z_met (cc := cJ3_checkIndex_8e157) (maxL := 3) (ret := (some .int)) (lv := [(0, .int ix), (1, .int nx), (2, .null)]) (by decide) rfl (Nat.le_of_ble_eq_true rfl) rfl ?_
  intro p e s m below meth c ls hx hb hr hlk hml hown hnm hts hKK hA hw hl
  have hK := hKK.1.1
  have hown : s.vm.findClass RJ3 = some m.cls := hown
  have hT : ∀ w ∈ lw_all, w.before ([.int ix, .int nx, .null] : List Value).toArray s = true := fun w h => hts w (z_cons w h)
  refine lv_iload_n hx hb dJ3_checkIndex_8e157_0 rfl (lv_at hl 0 rfl) ?_
  refine z_if_lt (tgt := 9) hx hb rfl dJ3_checkIndex_8e157_1 (by decide) (fun c1 => absurd c1 (by omega)) (fun c1 => ?_)
  refine lv_iload_n hx hb dJ3_checkIndex_8e157_4 rfl (lv_at hl 0 rfl) ?_
  refine lv_iload_n hx hb dJ3_checkIndex_8e157_5 rfl (lv_at hl 1 rfl) ?_
  refine z_icmp_lt (tgt := 16) hx hb rfl rfl dJ3_checkIndex_8e157_6 (by decide) (fun c2 => ?_) (fun c2 => absurd c2 (by omega))
  refine lv_iload_n hx hb dJ3_checkIndex_8e157_16 rfl (lv_at hl 0 rfl) ?_
  exact z_iret hx hb hr hlk (by decide) (by decide) hw (⟨rfl, trivial⟩) dJ3_checkIndex_8e157_17

set_option maxHeartbeats 2000000 in
set_option maxRecDepth 100000 in
theorem c_J3_checkIndex_r (l : Launch) {D : va_G} {cy : Nat → ClassId} {L : List Nat} {f : Nat → va_E} {sz : Nat} {adK adV : Nat → Nat} {ix nx : Int32} {fm : Nat} (hix : 0 ≤ ix.toInt ∧ ix.toInt < nx.toInt) : Met l yJ3_checkIndex_8e157 (z_ws yJ3_checkIndex_8e157 cJ3_checkIndex_8e157 3 (some .int)) (z_R 1 0 0) (va_Pc [.int ix, .int nx, .ref fm] (z_Pre D vwCl (z_KK D cy adK adV) L f sz)) (z_Qi D vwCl (fun r u => u = (L, f) ∧ (True)) L sz) 0 0 (z_A L sz) := by
  refine z_met (cc := cJ3_checkIndex_8e157) (maxL := 3) (ret := (some .int)) (lv := [(0, .int ix), (1, .int nx), (2, .ref fm)]) (by decide) rfl (Nat.le_of_ble_eq_true rfl) rfl ?_
  intro p e s m below meth c ls hx hb hr hlk hml hown hnm hts hKK hA hw hl
  have hK := hKK.1.1
  have hown : s.vm.findClass RJ3 = some m.cls := hown
  have hT : ∀ w ∈ lw_all, w.before ([.int ix, .int nx, .ref fm] : List Value).toArray s = true := fun w h => hts w (z_cons w h)
  refine lv_iload_n hx hb dJ3_checkIndex_8e157_0 rfl (lv_at hl 0 rfl) ?_
  refine z_if_lt (tgt := 9) hx hb rfl dJ3_checkIndex_8e157_1 (by decide) (fun c1 => absurd c1 (by omega)) (fun c1 => ?_)
  refine lv_iload_n hx hb dJ3_checkIndex_8e157_4 rfl (lv_at hl 0 rfl) ?_
  refine lv_iload_n hx hb dJ3_checkIndex_8e157_5 rfl (lv_at hl 1 rfl) ?_
  refine z_icmp_lt (tgt := 16) hx hb rfl rfl dJ3_checkIndex_8e157_6 (by decide) (fun c2 => ?_) (fun c2 => absurd c2 (by omega))
  refine lv_iload_n hx hb dJ3_checkIndex_8e157_16 rfl (lv_at hl 0 rfl) ?_
  exact z_iret hx hb hr hlk (by decide) (by decide) hw (⟨rfl, trivial⟩) dJ3_checkIndex_8e157_17

set_option maxHeartbeats 2000000 in
set_option maxRecDepth 100000 in
theorem c_J0_checkIndex_df160 (l : Launch) {D : va_G} {cy : Nat → ClassId} {L : List Nat} {f : Nat → va_E} {sz : Nat} {adK adV : Nat → Nat} {ix nx : Int32} (hix : 0 ≤ ix.toInt ∧ ix.toInt < nx.toInt) : Met l yJ0_checkIndex_df160 (z_ws yJ0_checkIndex_df160 cJ0_checkIndex_df160 2 none) (z_R 2 0 0) (va_Pc [.int ix, .int nx] (z_Pre D vwCl (z_KK D cy adK adV) L f sz)) (z_Qv D vwCl (fun u => u = (L, f) ∧ (True)) L sz) 0 0 (z_A L sz) := by
  refine z_met (cc := cJ0_checkIndex_df160) (maxL := 2) (ret := none) (lv := [(0, .int ix), (1, .int nx)]) (by decide) rfl (Nat.le_of_ble_eq_true rfl) rfl ?_
  intro p e s m below meth c ls hx hb hr hlk hml hown hnm hts hKK hA hw hl
  have hK := hKK.1.1
  have hown : s.vm.findClass RJ0 = some m.cls := hown
  have hT : ∀ w ∈ lw_all, w.before ([.int ix, .int nx] : List Value).toArray s = true := fun w h => hts w (z_cons w h)
  refine lv_iload_n hx hb dJ0_checkIndex_df160_0 rfl (lv_at hl 0 rfl) ?_
  refine lv_iload_n hx hb dJ0_checkIndex_df160_1 rfl (lv_at hl 1 rfl) ?_
  rcases hKK.2.2.2.2 with hzq | ⟨fmt, hzq⟩
  · skip
    refine va_gets hx hb hzq hw.2.2 hown (hT _ kw_598) (fun _ h => h) dJ0_checkIndex_df160_2 ?_
    refine z_calliS (cells := 0) (slots := 0) (As := [.int ix, .int nx, .null]) (rest := []) ⟨hx, hb, hml, hown, hT⟩ (c_J3_checkIndex_n l (by first | omega | decide | assumption)) (va_cwS 3 hT (z_goodS (fun _ h => h) kw_600 kw_601 kw_100 kw_602) rfl rfl rfl (by decide +kernel) ⟨by decide, by decide⟩) z_mv hKK hw hA rfl hl.1 rfl (Nat.le_of_ble_eq_true rfl) dJ0_checkIndex_df160_5 ⟨by decide, by decide⟩ (fun r1 u H locs hp hw => ?_)
    obtain ⟨rfl, hp⟩ := hp
    have hw : z_H D vwCl (z_A L sz) s.heap L f H locs := hw
    refine lv_pop hx hb dJ0_checkIndex_df160_8 rfl ?_
    exact z_vret hx hb hr hlk (by decide) (by decide) hw (⟨rfl, trivial⟩) dJ0_checkIndex_df160_9
  · skip
    refine va_gets hx hb hzq hw.2.2 hown (hT _ kw_598) (fun _ h => h) dJ0_checkIndex_df160_2 ?_
    refine z_calliS (cells := 0) (slots := 0) (As := [.int ix, .int nx, .ref fmt]) (rest := []) ⟨hx, hb, hml, hown, hT⟩ (c_J3_checkIndex_r l (by first | omega | decide | assumption)) (va_cwS 3 hT (z_goodS (fun _ h => h) kw_600 kw_601 kw_100 kw_602) rfl rfl rfl (by decide +kernel) ⟨by decide, by decide⟩) z_mv hKK hw hA rfl hl.1 rfl (Nat.le_of_ble_eq_true rfl) dJ0_checkIndex_df160_5 ⟨by decide, by decide⟩ (fun r2 u H locs hp hw => ?_)
    obtain ⟨rfl, hp⟩ := hp
    have hw : z_H D vwCl (z_A L sz) s.heap L f H locs := hw
    refine lv_pop hx hb dJ0_checkIndex_df160_8 rfl ?_
    exact z_vret hx hb hr hlk (by decide) (by decide) hw (⟨rfl, trivial⟩) dJ0_checkIndex_df160_9

set_option maxHeartbeats 2000000 in
set_option maxRecDepth 100000 in
theorem c_J1_charAt_3b067 (l : Launch) {D : va_G} {cy : Nat → ClassId} {L : List Nat} {f : Nat → va_E} {sz : Nat} {adK adV : Nat → Nat} {wi : Nat} {ix : Int32} (hwi : wi < 25) (hix : 0 ≤ ix.toInt ∧ ix.toInt < ((z_sL.getD wi 0 : Nat) : Int)) : Met l yJ1_charAt_3b067 (z_ws yJ1_charAt_3b067 cJ1_charAt_3b067 2 (some .char)) (z_R 3 0 0) (va_Pc [.ref (adV wi), .int ix] (z_Pre D vwCl (z_KK D cy adK adV) L f sz)) (z_Qi D vwCl (fun r u => u = (L, f) ∧ (narrow .char (.int r) = .int r)) L sz) 0 0 (z_A L sz) := by
  refine z_met (cc := cJ1_charAt_3b067) (maxL := 2) (ret := (some .char)) (lv := [(0, .ref (adV wi)), (1, .int ix)]) (by decide) rfl (Nat.le_of_ble_eq_true rfl) rfl ?_
  intro p e s m below meth c ls hx hb hr hlk hml hown hnm hts hKK hA hw hl
  have hK := hKK.1.1
  have hown : s.vm.findClass RJ1 = some m.cls := hown
  have hT : ∀ w ∈ lw_all, w.before ([.ref (adV wi), .int ix] : List Value).toArray s = true := fun w h => hts w (z_cons w h)
  refine lv_iload_n hx hb dJ1_charAt_3b067_0 rfl (lv_at hl 1 rfl) ?_
  refine lv_aload_n hx hb dJ1_charAt_3b067_1 rfl (lv_at hl 0 rfl) ?_
  refine va_tlen hx hb (hKK.2.1.1 wi (by first | omega | decide | assumption)).2.2.2 hw.2.2 rfl dJ1_charAt_3b067_2 ?_
  have hs7 := z_s7 (i := wi) (by first | omega | decide | assumption)
  refine lv_topi (fun w1 e_w1 => ?_)
  have i_w1 : w1.toInt = ((z_sL.getD wi 0 : Nat) : Int) := by rw [e_w1]; exact nI_toInt (by omega)
  refine z_callvS (cells := 0) (slots := 0) (As := [.int ix, .int w1]) (rest := []) ⟨hx, hb, hml, hown, hT⟩ (c_J0_checkIndex_df160 l (by first | omega | decide | assumption)) (va_cwS 2 hT (z_goodS (fun _ h => h) kw_595 kw_596 kw_98 kw_597) rfl rfl rfl (by decide +kernel) ⟨by decide, by decide⟩) z_mv hKK hw hA rfl hl.1 rfl (Nat.le_of_ble_eq_true rfl) dJ1_charAt_3b067_3 ⟨by decide, by decide⟩ (fun u H locs hp hw => ?_)
  obtain ⟨rfl, hp⟩ := hp
  have hw : z_H D vwCl (z_A L sz) s.heap L f H locs := hw
  refine lv_aload_n hx hb dJ1_charAt_3b067_6 rfl (lv_at hl 0 rfl) ?_
  refine lv_iload_n hx hb dJ1_charAt_3b067_7 rfl (lv_at hl 1 rfl) ?_
  refine va_tb hx hb (hKK.2.1.1 wi (by first | omega | decide | assumption)).2.2.2 hw.2.2 (z_ix rfl (by omega)) rfl dJ1_charAt_3b067_8 ?_
  refine lv_topi (fun w2 e_w2 => ?_)
  refine lv_sipush (v := 255) hx hb dJ1_charAt_3b067_9 (by decide) ?_
  refine lv_iand hx hb dJ1_charAt_3b067_12 ?_
  refine lv_topi (fun w3 e_w3 => ?_)
  refine lv_i2c hx hb dJ1_charAt_3b067_13 rfl ?_
  refine lv_topi (fun w4 e_w4 => ?_)
  have hc_w4 : narrow .char (.int w4) = .int w4 := by rw [e_w4]; exact pk_nc _
  exact z_zret hx hb hr hc_w4 hlk (by decide) (by decide) hw (⟨rfl, hc_w4⟩) dJ1_charAt_3b067_14

set_option maxHeartbeats 2000000 in
set_option maxRecDepth 100000 in
theorem c_J0_charAt_5068e (l : Launch) {D : va_G} {cy : Nat → ClassId} {L : List Nat} {f : Nat → va_E} {sz : Nat} {adK adV : Nat → Nat} {wi : Nat} {ix : Int32} (hwi : wi < 25) (hix : 0 ≤ ix.toInt ∧ ix.toInt < ((z_sL.getD wi 0 : Nat) : Int)) : Met l yJ0_charAt_5068e (z_ws yJ0_charAt_5068e cJ0_charAt_5068e 2 (some .char)) (z_R 4 0 0) (va_Pc [.ref (adK wi), .int ix] (z_Pre D vwCl (z_KK D cy adK adV) L f sz)) (z_Qi D vwCl (fun r u => u = (L, f) ∧ (True)) L sz) 0 0 (z_A L sz) := by
  refine z_met (cc := cJ0_charAt_5068e) (maxL := 2) (ret := (some .char)) (lv := [(0, .ref (adK wi)), (1, .int ix)]) (by decide) rfl (Nat.le_of_ble_eq_true rfl) rfl ?_
  intro p e s m below meth c ls hx hb hr hlk hml hown hnm hts hKK hA hw hl
  have hK := hKK.1.1
  have hown : s.vm.findClass RJ0 = some m.cls := hown
  have hT : ∀ w ∈ lw_all, w.before ([.ref (adK wi), .int ix] : List Value).toArray s = true := fun w h => hts w (z_cons w h)
  refine lv_aload_n hx hb dJ0_charAt_5068e_0 rfl (lv_at hl 0 rfl) ?_
  refine z_calliX (cells := 0) (slots := 0) (b := (adK wi)) (As := []) (rest := []) ⟨hx, hb, hml, hown, hT⟩ (c_J0_isLatin1_aae02 l (by first | omega | decide | assumption)) (cwV 0 hT (z_goodV (fun _ h => h) kw_588 kw_589 kw_590 kw_98 kw_591) rfl rfl rfl (by decide +kernel) ⟨by decide, by decide⟩) z_mv hKK hw hA (vk_recv hKK.2.1 (i := wi) (by first | omega | decide | assumption) hw.2.2) rfl hl.1 rfl (Nat.le_of_ble_eq_true rfl) dJ0_charAt_5068e_1 ⟨by decide, by decide⟩ (fun r1 u H locs hp hw => ?_)
  obtain ⟨rfl, hp⟩ := hp
  have hw : z_H D vwCl (z_A L sz) s.heap L f H locs := hw
  obtain rfl := hp
  refine z_if_eq (tgt := 16) hx hb (show (1 : Int32).toInt = 1 by decide) dJ0_charAt_5068e_4 (by decide) (fun h => absurd h (by decide)) (fun _ => ?_)
  refine lv_aload_n hx hb dJ0_charAt_5068e_7 rfl (lv_at hl 0 rfl) ?_
  refine vk_getf hx hb (hKK.2.1.1 wi (by first | omega | decide | assumption)).2.2.1 hw.2.2 hown (hT _ kw_1773) (fun _ h => h) dJ0_charAt_5068e_8 ?_
  refine lv_iload_n hx hb dJ0_charAt_5068e_11 rfl (lv_at hl 1 rfl) ?_
  refine z_calliS (cells := 0) (slots := 0) (As := [.ref (adV wi), .int ix]) (rest := []) ⟨hx, hb, hml, hown, hT⟩ (c_J1_charAt_3b067 l (by first | omega | decide | assumption) (by first | omega | decide | assumption)) (va_cwS 2 hT (z_goodS (fun _ h => h) kw_592 kw_593 kw_99 kw_594) rfl rfl rfl (by decide +kernel) ⟨by decide, by decide⟩) z_mv hKK hw hA rfl hl.1 rfl (Nat.le_of_ble_eq_true rfl) dJ0_charAt_5068e_12 ⟨by decide, by decide⟩ (fun r2 u H locs hp hw => ?_)
  obtain ⟨rfl, hp⟩ := hp
  have hw : z_H D vwCl (z_A L sz) s.heap L f H locs := hw
  exact z_zret hx hb hr hp hlk (by decide) (by decide) hw (⟨rfl, trivial⟩) dJ0_charAt_5068e_15
