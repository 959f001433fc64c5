set_option maxHeartbeats 2000000 in
set_option maxRecDepth 100000 in
theorem c_X6_isSlot (l : Launch) {D : va_G} {cy : Nat → ClassId} {L : List Nat} {f : Nat → va_E} {sz : Nat} {adK adV : Nat → Nat} {sn : Int32}  : Met l yX6_isSlot (z_ws yX6_isSlot cX6_isSlot 1 (some .boolean)) (z_R 1 0 0) (va_Pc [.int sn] (z_Pre D vwCl (z_KK D cy adK adV) L f sz)) (z_Qi D vwCl (fun r u => u = (L, f) ∧ ((r = 1 ∧ (0 ≤ sn.toInt ∧ sn.toInt ≤ 3)) ∨ (r = 0 ∧ ¬ (0 ≤ sn.toInt ∧ sn.toInt ≤ 3)))) L sz) 0 0 (z_A L sz) := by
  refine z_met (cc := cX6_isSlot) (maxL := 1) (ret := (some .boolean)) (lv := [(0, .int sn)]) (by decide) rfl (Nat.le_of_ble_eq_true rfl) rfl ?_
  intro p e s m below meth c ls hx hb hr hlk hml hown hnm hts hKK hA hw hl
  have hK := hKK.1.1
  have hown : s.vm.findClass RX6 = some m.cls := hown
  have hT : ∀ w ∈ lw_all, w.before ([.int sn] : List Value).toArray s = true := fun w h => hts w (z_cons w h)
  refine lv_iload_n hx hb dX6_isSlot_0 rfl (lv_at hl 0 rfl) ?_
  refine z_if_lt (tgt := 13) hx hb rfl dX6_isSlot_1 (by decide) (fun c1 => ?_) (fun c1 => ?_)
  · skip
    refine lv_iconst (v := 0) hx hb dX6_isSlot_13 (by decide) ?_
    exact z_zret hx hb hr rfl hlk (by decide) (by decide) hw (⟨rfl, Or.inr ⟨rfl, by omega⟩⟩) dX6_isSlot_14
  · skip
    refine lv_iload_n hx hb dX6_isSlot_4 rfl (lv_at hl 0 rfl) ?_
    refine lv_iconst (v := 4) hx hb dX6_isSlot_5 (by decide) ?_
    refine z_icmp_ge (tgt := 13) hx hb rfl (show (4 : Int32).toInt = 4 by decide) dX6_isSlot_6 (by decide) (fun c2 => ?_) (fun c2 => ?_)
    · skip
      refine lv_iconst (v := 0) hx hb dX6_isSlot_13 (by decide) ?_
      exact z_zret hx hb hr rfl hlk (by decide) (by decide) hw (⟨rfl, Or.inr ⟨rfl, by omega⟩⟩) dX6_isSlot_14
    · skip
      refine lv_iconst (v := 1) hx hb dX6_isSlot_9 (by decide) ?_
      refine lv_goto (tgt := 14) hx hb dX6_isSlot_10 (by decide) ?_
      exact z_zret hx hb hr rfl hlk (by decide) (by decide) hw (⟨rfl, Or.inl ⟨rfl, by omega⟩⟩) dX6_isSlot_14

set_option maxHeartbeats 2000000 in
set_option maxRecDepth 100000 in
theorem c_X6_hasRow (l : Launch) {D : va_G} {cy : Nat → ClassId} {L : List Nat} {f : Nat → va_E} {sz : Nat} {adK adV : Nat → Nat} {sl nb wi si : Nat} {gz : Nat → Int32}   {sn : Int32} (hm_sl : sl ∈ L) (hm_si : si ∈ L) (hf_sl : f sl = .inr (6, [.ref nb, .ref wi, .ref si])) (hf_si : f si = .inl (cy 1, 4, .inl gz)) (hsn : 0 ≤ sn.toInt ∧ sn.toInt ≤ 3) : Met l yX6_hasRow (z_ws yX6_hasRow cX6_hasRow 2 (some .boolean)) (z_R 1 0 0) (va_Pc [.ref sl, .int sn] (z_Pre D vwCl (z_KK D cy adK adV) L f sz)) (z_Qi D vwCl (fun r u => u = (L, f) ∧ ((r = 1 ∧ (gz sn.toNatClampNeg).toInt ≠ -1) ∨ (r = 0 ∧ (gz sn.toNatClampNeg).toInt = -1))) L sz) 0 0 (z_A L sz) := by
  refine z_met (cc := cX6_hasRow) (maxL := 2) (ret := (some .boolean)) (lv := [(0, .ref sl), (1, .int sn)]) (by decide) rfl (Nat.le_of_ble_eq_true rfl) rfl ?_
  intro p e s m below meth c ls hx hb hr hlk hml hown hnm hts hKK hA hw hl
  have hK := hKK.1.1
  have hown : s.vm.findClass RX6 = some m.cls := hown
  have hT : ∀ w ∈ lw_all, w.before ([.ref sl, .int sn] : List Value).toArray s = true := fun w h => hts w (z_cons w h)
  refine lv_aload_n hx hb dX6_hasRow_0 rfl (lv_at hl 0 rfl) ?_
  refine z_get (C := RX6) (T := TX6) (N := 3) (ci := 6) (v := .ref si) hx hb hT zin_X6 hown hK hw hm_sl hf_sl rfl 2 (by decide) (hT _ kw_324) rfl dX6_hasRow_1 ?_
  refine lv_iload_n hx hb dX6_hasRow_4 rfl (lv_at hl 1 rfl) ?_
  refine z_iald hx hb hK hw 1 hm_si hf_si rfl (z_ix rfl (by omega)) dX6_hasRow_5 ?_
  refine lv_topi (fun w1 e_w1 => ?_)
  refine lv_iconst (v := (-1)) hx hb dX6_hasRow_6 (by decide) ?_
  refine z_icmp_eq (tgt := 14) hx hb rfl (show ((-1) : Int32).toInt = (-1) by decide) dX6_hasRow_7 (by decide) (fun c2 => ?_) (fun c2 => ?_)
  · skip
    refine lv_iconst (v := 0) hx hb dX6_hasRow_14 (by decide) ?_
    exact z_zret hx hb hr rfl hlk (by decide) (by decide) hw (⟨rfl, Or.inr ⟨rfl, by rw [← e_w1]; omega⟩⟩) dX6_hasRow_15
  · skip
    refine lv_iconst (v := 1) hx hb dX6_hasRow_10 (by decide) ?_
    refine lv_goto (tgt := 15) hx hb dX6_hasRow_11 (by decide) ?_
    exact z_zret hx hb hr rfl hlk (by decide) (by decide) hw (⟨rfl, Or.inl ⟨rfl, by rw [← e_w1]; omega⟩⟩) dX6_hasRow_15

set_option maxHeartbeats 2000000 in
set_option maxRecDepth 100000 in
theorem c_X6_rows (l : Launch) {D : va_G} {cy : Nat → ClassId} {L : List Nat} {f : Nat → va_E} {sz : Nat} {adK adV : Nat → Nat} {sl nb wi si : Nat} {gz : Nat → Int32}   (hm_sl : sl ∈ L) (hm_si : si ∈ L) (hf_sl : f sl = .inr (6, [.ref nb, .ref wi, .ref si])) (hf_si : f si = .inl (cy 1, 4, .inl gz)) : Met l yX6_rows (z_ws yX6_rows cX6_rows 3 (some .int)) (z_R 2 0 0) (va_Pc [.ref sl] (z_Pre D vwCl (z_KK D cy adK adV) L f sz)) (z_Qi D vwCl (fun r u => u = (L, f) ∧ (True)) L sz) 0 0 (z_A L sz) := by
  refine z_met (cc := cX6_rows) (maxL := 3) (ret := (some .int)) (lv := [(0, .ref sl)]) (by decide) rfl (Nat.le_of_ble_eq_true rfl) rfl ?_
  intro p e s m below meth c ls hx hb hr hlk hml hown hnm hts hKK hA hw hl
  have hK := hKK.1.1
  have hown : s.vm.findClass RX6 = some m.cls := hown
  have hT : ∀ w ∈ lw_all, w.before ([.ref sl] : List Value).toArray s = true := fun w h => hts w (z_cons w h)
  refine lv_iconst (v := 0) hx hb dX6_rows_0 (by decide) ?_
  refine lv_istore_n (lv' := [(1, .int 0), (0, .ref sl)]) hx hb dX6_rows_1 rfl hl (by decide) rfl (fun ls hl => ?_)
  refine lv_iconst (v := 0) hx hb dX6_rows_2 (by decide) ?_
  refine lv_istore_n (lv' := [(2, .int 0), (1, .int 0), (0, .ref sl)]) hx hb dX6_rows_3 rfl hl (by decide) rfl (fun ls hl => ?_)
  have hzk : (0 : Int32).toInt = 0 := by decide
  refine z_loop (fun n H locs ls => ∃ (K1 : Int32) (V2 : Int32), (n = (4 - K1.toInt).toNat) ∧ (0 ≤ K1.toInt) ∧ (K1.toInt ≤ 4) ∧ (z_H D vwCl (z_A L sz) s.heap L f H locs) ∧ (lv_has ls 3 [(2, .int K1), (1, .int V2), (0, .ref sl)])) _ ⟨0, 0, rfl, (by first | decide | omega), (by first | decide | omega), hw, (lv_sub hl [0, 1, 2] rfl)⟩ (fun n H locs ls hI ih_4 => ?_)
  obtain ⟨K1, V2, hn, hk0, hk1, hw, hl⟩ := hI
  refine lv_iload_n hx hb dX6_rows_4 rfl (lv_at hl 0 rfl) ?_
  refine lv_iconst (v := 4) hx hb dX6_rows_5 (by decide) ?_
  refine z_icmp_ge (tgt := 26) hx hb rfl (show (4 : Int32).toInt = 4 by decide) dX6_rows_6 (by decide) (fun c3 => ?_) (fun c3 => ?_)
  · skip
    refine lv_iload_n hx hb dX6_rows_26 rfl (lv_at hl 1 rfl) ?_
    exact z_iret hx hb hr hlk (by decide) (by decide) hw (⟨rfl, trivial⟩) dX6_rows_27
  · skip
    refine lv_aload_n hx hb dX6_rows_9 rfl (lv_at hl 2 rfl) ?_
    refine lv_iload_n hx hb dX6_rows_10 rfl (lv_at hl 0 rfl) ?_
    refine z_calliV (cells := 0) (slots := 0) (b := sl) (As := [.int K1]) (rest := []) (ci := 6) (q0 := (RX6, TX6, 3)) ⟨hx, hb, hml, hown, hT⟩ (c_X6_hasRow l hm_sl hm_si hf_sl hf_si (by first | omega | decide | assumption)) (cwV 1 hT (z_goodV (fun _ h => h) kw_1126 kw_1003 kw_1004 kw_90 kw_1005) rfl rfl rfl (by decide +kernel) ⟨by decide, by decide⟩) z_mv hKK hK hw hA hm_sl hf_sl rfl rfl rfl hl.1 rfl (Nat.le_of_ble_eq_true rfl) dX6_rows_11 ⟨by decide, by decide⟩ (fun r4 u H locs hp hw => ?_)
    obtain ⟨rfl, hp⟩ := hp
    have hw : z_H D vwCl (z_A L sz) s.heap L f H locs := hw
    rcases hp with ⟨rfl, h5⟩ | ⟨rfl, h5⟩
    · skip
      refine z_if_eq (tgt := 20) hx hb (show (1 : Int32).toInt = 1 by decide) dX6_rows_14 (by decide) (fun h => absurd h (by decide)) (fun _ => ?_)
      obtain ⟨k6, e_k6⟩ : ∃ z : Int32, z = V2 + 1 := ⟨_, rfl⟩
      refine lv_iinc (v := k6) (lv' := [(1, .int k6), (2, .int K1), (0, .ref sl)]) hx hb dX6_rows_17 hl (k := 1) rfl (by rw [e_k6]; rfl) (by decide) rfl (fun ls hl => ?_)
      obtain ⟨k7, e_k7⟩ : ∃ z : Int32, z = K1 + 1 := ⟨_, rfl⟩
      refine lv_iinc (v := k7) (lv' := [(2, .int k7), (1, .int k6), (0, .ref sl)]) hx hb dX6_rows_20 hl (k := 1) rfl (by rw [e_k7]; rfl) (by decide) rfl (fun ls hl => ?_)
      have i_k7 : k7.toInt = (K1.toInt + 1) := z_add e_k7 rfl (by decide) (by omega)
      refine lv_goto (tgt := 4) hx hb dX6_rows_23 (by decide) ?_
      exact ih_4 _ (by omega) _ _ _ ⟨k7, k6, rfl, (by first | decide | omega), (by first | decide | omega), hw, (lv_sub hl [0, 1, 2] rfl)⟩
    · skip
      refine z_if_eq (tgt := 20) hx hb (show (0 : Int32).toInt = 0 by decide) dX6_rows_14 (by decide) (fun _ => ?_) (fun h => absurd h (by decide))
      obtain ⟨k8, e_k8⟩ : ∃ z : Int32, z = K1 + 1 := ⟨_, rfl⟩
      refine lv_iinc (v := k8) (lv' := [(2, .int k8), (1, .int V2), (0, .ref sl)]) hx hb dX6_rows_20 hl (k := 0) rfl (by rw [e_k8]; rfl) (by decide) rfl (fun ls hl => ?_)
      have i_k8 : k8.toInt = (K1.toInt + 1) := z_add e_k8 rfl (by decide) (by omega)
      refine lv_goto (tgt := 4) hx hb dX6_rows_23 (by decide) ?_
      exact ih_4 _ (by omega) _ _ _ ⟨k8, V2, rfl, (by first | decide | omega), (by first | decide | omega), hw, (lv_sub hl [0, 1, 2] rfl)⟩

set_option maxHeartbeats 2000000 in
set_option maxRecDepth 100000 in
theorem c_X6_lay (l : Launch) {D : va_G} {cy : Nat → ClassId} {L : List Nat} {f : Nat → va_E} {sz : Nat} {adK adV : Nat → Nat} {sl nb wi si rr : Nat} {gw gz : Nat → Int32} {gb : Nat → Option Nat} {gr : Nat → Int64} {sn ow nn : Int32} (hm_sl : sl ∈ L) (hm_nb : nb ∈ L) (hm_wi : wi ∈ L) (hm_si : si ∈ L) (hm_rr : rr ∈ L) (hf_sl : f sl = .inr (6, [.ref nb, .ref wi, .ref si])) (hf_nb : f nb = .inl (cy 6, 4, .inr (.inr (.inr (.inr gb))))) (hf_wi : f wi = .inl (cy 1, 4, .inl gw)) (hf_si : f si = .inl (cy 1, 4, .inl gz)) (hf_rr : f rr = .inl (cy 2, 60, .inr (.inl gr))) (ne_wi_si : wi ≠ si) (hsn : 0 ≤ sn.toInt ∧ sn.toInt ≤ 3) (hgb : gb sn.toNatClampNeg = some rr) : Met l yX6_lay (z_ws yX6_lay cX6_lay 4 none) (z_R 2 0 0) (va_Pc [.ref sl, .int sn, .int ow, .int nn] (z_Pre D vwCl (z_KK D cy adK adV) L f sz)) (z_Qv D vwCl (fun u => L = u.1 ∧ (∀ b ∈ L, b ≠ rr → b ≠ wi → b ≠ si → u.2 b = f b) ∧ (∃ (r2 : Nat → Int64), (u.2 rr = .inl (cy 2, 60, .inr (.inl r2))) ∧ (u.2 wi = .inl (cy 1, 4, .inl (upd gw sn.toNatClampNeg ow))) ∧ (u.2 si = .inl (cy 1, 4, .inl (upd gz sn.toNatClampNeg nn))) ∧ (True))) L sz) 0 0 (z_A L sz) := by
  refine z_met (cc := cX6_lay) (maxL := 4) (ret := none) (lv := [(0, .ref sl), (1, .int sn), (2, .int ow), (3, .int nn)]) (by decide) rfl (Nat.le_of_ble_eq_true rfl) rfl ?_
  intro p e s m below meth c ls hx hb hr hlk hml hown hnm hts hKK hA hw hl
  have hK := hKK.1.1
  have hown : s.vm.findClass RX6 = some m.cls := hown
  have hT : ∀ w ∈ lw_all, w.before ([.ref sl, .int sn, .int ow, .int nn] : List Value).toArray s = true := fun w h => hts w (z_cons w h)
  have hsub : L = L := rfl
  have hfr : ∀ b ∈ L, b ≠ rr → b ≠ wi → b ≠ si → f b = f b := fun _ _ _ _ _ => rfl
  refine lv_aload_n hx hb dX6_lay_0 rfl (lv_at hl 0 rfl) ?_
  refine z_get (C := RX6) (T := TX6) (N := 3) (ci := 6) (v := .ref nb) hx hb hT zin_X6 hown hK hw hm_sl hf_sl rfl 0 (by decide) (hT _ kw_319) rfl dX6_lay_1 ?_
  refine lv_iload_n hx hb dX6_lay_4 rfl (lv_at hl 1 rfl) ?_
  refine z_aaldA (b := rr) hx hb hK hw 6 hm_nb hf_nb rfl (z_ix rfl (by omega)) hgb dX6_lay_5 ?_
  refine lv_lconst (v := 0) hx hb dX6_lay_6 (by decide) ?_
  have hz1 := (show (0 : Int64).toInt = 0 by decide)
  refine z_callvS (cells := 0) (slots := 0) (As := [.ref rr, .long 0]) (rest := []) ⟨hx, hb, hml, hown, hT⟩ (c_J7_fill_d0a16 l hm_rr hf_rr (by decide)) (va_cwS 2 hT (z_goodS (fun _ h => h) kw_1143 kw_1144 kw_91 kw_1145) rfl rfl rfl (by decide +kernel) ⟨by decide, by decide⟩) z_mv hKK hw hA rfl hl.1 rfl (Nat.le_of_ble_eq_true rfl) dX6_lay_7 ⟨by decide, by decide⟩ (fun u H locs hp hw => ?_)
  obtain ⟨L2, f3⟩ := u
  obtain ⟨hsb, hfm, g2_4, ha_0, hp⟩ := hp
  have hsb : L = L2 := hsb
  subst hsb
  have hsb : ∀ b ∈ L, b ∈ L := fun _ h => h
  have hw : z_H D vwCl (z_A L sz) s.heap L f3 H locs := hw
  have hfr : ∀ b ∈ L, b ≠ rr → b ≠ wi → b ≠ si → f3 b = f b := fun b hb h0 h1 h2 => (hfm b hb h0).trans (hfr b hb h0 h1 h2)
  have hf_sl : f3 sl = .inr (6, [.ref nb, .ref wi, .ref si]) := (hfm sl hm_sl (z_tne hf_sl hf_rr (m := 6) (n := 581) rfl rfl (by decide))).trans hf_sl
  have hf_nb : f3 nb = .inl (cy 6, 4, .inr (.inr (.inr (.inr gb)))) := (hfm nb hm_nb (z_tne hf_nb hf_rr (m := 134) (n := 581) rfl rfl (by decide))).trans hf_nb
  have hf_wi : f3 wi = .inl (cy 1, 4, .inl gw) := (hfm wi hm_wi (z_tne hf_wi hf_rr (m := 132) (n := 581) rfl rfl (by decide))).trans hf_wi
  have hf_si : f3 si = .inl (cy 1, 4, .inl gz) := (hfm si hm_si (z_tne hf_si hf_rr (m := 132) (n := 581) rfl rfl (by decide))).trans hf_si
  have hf_rr : f3 rr = .inl (cy 2, 60, .inr (.inl g2_4)) := ha_0
  refine lv_aload_n hx hb dX6_lay_10 rfl (lv_at hl 0 rfl) ?_
  refine z_get (C := RX6) (T := TX6) (N := 3) (ci := 6) (v := .ref wi) hx hb hT zin_X6 hown hK hw hm_sl hf_sl rfl 1 (by decide) (hT _ kw_322) rfl dX6_lay_11 ?_
  refine lv_iload_n hx hb dX6_lay_14 rfl (lv_at hl 1 rfl) ?_
  refine lv_iload_n hx hb dX6_lay_15 rfl (lv_at hl 2 rfl) ?_
  refine z_iast hx hb hK hw 1 hm_wi hf_wi rfl (z_ix rfl (by omega)) dX6_lay_16 (fun H locs hw => ?_)
  obtain ⟨f6, e_f6⟩ : ∃ z, z = va_up f3 wi (.inl (cy 1, 4, .inl (upd gw sn.toNatClampNeg ow))) := ⟨_, rfl⟩
  rw [← e_f6] at hw
  have hf_sl : f6 sl = .inr (6, [.ref nb, .ref wi, .ref si]) := (congrFun e_f6 sl).trans (z_up_ne (z_tne hf_sl hf_wi (m := 6) (n := 132) rfl rfl (by decide)) hf_sl)
  have hf_nb : f6 nb = .inl (cy 6, 4, .inr (.inr (.inr (.inr gb)))) := (congrFun e_f6 nb).trans (z_up_ne (z_tne hf_nb hf_wi (m := 134) (n := 132) rfl rfl (by decide)) hf_nb)
  have hf_si : f6 si = .inl (cy 1, 4, .inl gz) := (congrFun e_f6 si).trans (z_up_ne (Ne.symm ne_wi_si) hf_si)
  have hf_rr : f6 rr = .inl (cy 2, 60, .inr (.inl g2_4)) := (congrFun e_f6 rr).trans (z_up_ne (z_tne hf_rr hf_wi (m := 581) (n := 132) rfl rfl (by decide)) hf_rr)
  have hf_wi : f6 wi = .inl (cy 1, 4, .inl (upd gw sn.toNatClampNeg ow)) := (congrFun e_f6 wi).trans z_up_self
  have hfr : ∀ b ∈ L, b ≠ rr → b ≠ wi → b ≠ si → f6 b = f b := fun b hb h0 h1 h2 => (congrFun e_f6 b).trans (z_up_ne h1 (hfr b hb h0 h1 h2))
  obtain ⟨g5, e_g5⟩ : ∃ z, z = (upd gw sn.toNatClampNeg ow) := ⟨_, rfl⟩
  rw [← e_g5] at hf_wi
  refine lv_aload_n hx hb dX6_lay_17 rfl (lv_at hl 0 rfl) ?_
  refine z_get (C := RX6) (T := TX6) (N := 3) (ci := 6) (v := .ref si) hx hb hT zin_X6 hown hK hw hm_sl hf_sl rfl 2 (by decide) (hT _ kw_324) rfl dX6_lay_18 ?_
  refine lv_iload_n hx hb dX6_lay_21 rfl (lv_at hl 1 rfl) ?_
  refine lv_iload_n hx hb dX6_lay_22 rfl (lv_at hl 3 rfl) ?_
  refine z_iast hx hb hK hw 1 hm_si hf_si rfl (z_ix rfl (by omega)) dX6_lay_23 (fun H locs hw => ?_)
  obtain ⟨f8, e_f8⟩ : ∃ z, z = va_up f6 si (.inl (cy 1, 4, .inl (upd gz sn.toNatClampNeg nn))) := ⟨_, rfl⟩
  rw [← e_f8] at hw
  have hf_sl : f8 sl = .inr (6, [.ref nb, .ref wi, .ref si]) := (congrFun e_f8 sl).trans (z_up_ne (z_tne hf_sl hf_si (m := 6) (n := 132) rfl rfl (by decide)) hf_sl)
  have hf_nb : f8 nb = .inl (cy 6, 4, .inr (.inr (.inr (.inr gb)))) := (congrFun e_f8 nb).trans (z_up_ne (z_tne hf_nb hf_si (m := 134) (n := 132) rfl rfl (by decide)) hf_nb)
  have hf_wi : f8 wi = .inl (cy 1, 4, .inl g5) := (congrFun e_f8 wi).trans (z_up_ne ne_wi_si hf_wi)
  have hf_rr : f8 rr = .inl (cy 2, 60, .inr (.inl g2_4)) := (congrFun e_f8 rr).trans (z_up_ne (z_tne hf_rr hf_si (m := 581) (n := 132) rfl rfl (by decide)) hf_rr)
  have hf_si : f8 si = .inl (cy 1, 4, .inl (upd gz sn.toNatClampNeg nn)) := (congrFun e_f8 si).trans z_up_self
  have hfr : ∀ b ∈ L, b ≠ rr → b ≠ wi → b ≠ si → f8 b = f b := fun b hb h0 h1 h2 => (congrFun e_f8 b).trans (z_up_ne h2 (hfr b hb h0 h1 h2))
  obtain ⟨g7, e_g7⟩ : ∃ z, z = (upd gz sn.toNatClampNeg nn) := ⟨_, rfl⟩
  rw [← e_g7] at hf_si
  exact z_vret hx hb hr hlk (by decide) (by decide) hw (⟨hsub, hfr, g2_4, hf_rr, (by rw [← e_g5]; exact hf_wi), (by rw [← e_g7]; exact hf_si), trivial⟩) dX6_lay_24

set_option maxHeartbeats 2000000 in
set_option maxRecDepth 100000 in
theorem c_X6_isWithin (l : Launch) {D : va_G} {cy : Nat → ClassId} {L : List Nat} {f : Nat → va_E} {sz : Nat} {adK adV : Nat → Nat} {sl nb wi si rr : Nat} {gz : Nat → Int32} {gb : Nat → Option Nat} {gr : Nat → Int64} {sn mx : Int32} (hm_sl : sl ∈ L) (hm_nb : nb ∈ L) (hm_si : si ∈ L) (hm_rr : rr ∈ L) (hf_sl : f sl = .inr (6, [.ref nb, .ref wi, .ref si])) (hf_nb : f nb = .inl (cy 6, 4, .inr (.inr (.inr (.inr gb))))) (hf_si : f si = .inl (cy 1, 4, .inl gz)) (hf_rr : f rr = .inl (cy 2, 60, .inr (.inl gr))) (hsn : 0 ≤ sn.toInt ∧ sn.toInt ≤ 3) (hgb : gb sn.toNatClampNeg = some rr) (hgz : ∀ j : Nat, j < 4 → -1 ≤ (gz j).toInt ∧ (gz j).toInt ≤ 60) : Met l yX6_isWithin (z_ws yX6_isWithin cX6_isWithin 4 (some .boolean)) (z_R 1 0 0) (va_Pc [.ref sl, .int sn, .int mx] (z_Pre D vwCl (z_KK D cy adK adV) L f sz)) (z_Qi D vwCl (fun r u => u = (L, f) ∧ ((r = 1 ∧ True) ∨ (r = 0 ∧ True))) L sz) 0 0 (z_A L sz) := by
  refine z_met (cc := cX6_isWithin) (maxL := 4) (ret := (some .boolean)) (lv := [(0, .ref sl), (1, .int sn), (2, .int mx)]) (by decide) rfl (Nat.le_of_ble_eq_true rfl) rfl ?_
  intro p e s m below meth c ls hx hb hr hlk hml hown hnm hts hKK hA hw hl
  have hK := hKK.1.1
  have hown : s.vm.findClass RX6 = some m.cls := hown
  have hT : ∀ w ∈ lw_all, w.before ([.ref sl, .int sn, .int mx] : List Value).toArray s = true := fun w h => hts w (z_cons w h)
  refine lv_iconst (v := 0) hx hb dX6_isWithin_0 (by decide) ?_
  refine lv_istore_n (lv' := [(3, .int 0), (0, .ref sl), (1, .int sn), (2, .int mx)]) hx hb dX6_isWithin_1 rfl hl (by decide) rfl (fun ls hl => ?_)
  have hzk : (0 : Int32).toInt = 0 := by decide
  refine z_loop (fun n H locs ls => ∃ (K1 : Int32), (n = (60 - K1.toInt).toNat) ∧ (0 ≤ K1.toInt) ∧ (K1.toInt ≤ 60) ∧ (z_H D vwCl (z_A L sz) s.heap L f H locs) ∧ (lv_has ls 4 [(3, .int K1), (0, .ref sl), (1, .int sn), (2, .int mx)])) _ ⟨0, rfl, (by first | decide | omega), (by first | decide | omega), hw, (lv_sub hl [0, 1, 2, 3] rfl)⟩ (fun n H locs ls hI ih_2 => ?_)
  obtain ⟨K1, hn, hk0, hk1, hw, hl⟩ := hI
  refine lv_iload_n hx hb dX6_isWithin_2 rfl (lv_at hl 0 rfl) ?_
  refine lv_aload_n hx hb dX6_isWithin_3 rfl (lv_at hl 1 rfl) ?_
  refine z_get (C := RX6) (T := TX6) (N := 3) (ci := 6) (v := .ref si) hx hb hT zin_X6 hown hK hw hm_sl hf_sl rfl 2 (by decide) (hT _ kw_324) rfl dX6_isWithin_4 ?_
  refine lv_iload_n hx hb dX6_isWithin_7 rfl (lv_at hl 2 rfl) ?_
  refine z_iald hx hb hK hw 1 hm_si hf_si rfl (z_ix rfl (by omega)) dX6_isWithin_8 ?_
  refine lv_topi (fun w2 e_w2 => ?_)
  have hz_w2 : -1 ≤ w2.toInt ∧ w2.toInt ≤ 60 := by rw [e_w2]; exact hgz _ (z_clI rfl (by omega))
  refine z_icmp_ge (tgt := 47) hx hb rfl rfl dX6_isWithin_9 (by decide) (fun c3 => ?_) (fun c3 => ?_)
  · skip
    refine lv_iconst (v := 1) hx hb dX6_isWithin_47 (by decide) ?_
    exact z_zret hx hb hr rfl hlk (by decide) (by decide) hw (⟨rfl, Or.inl ⟨rfl, trivial⟩⟩) dX6_isWithin_48
  · skip
    refine lv_aload_n hx hb dX6_isWithin_12 rfl (lv_at hl 1 rfl) ?_
    refine z_get (C := RX6) (T := TX6) (N := 3) (ci := 6) (v := .ref nb) hx hb hT zin_X6 hown hK hw hm_sl hf_sl rfl 0 (by decide) (hT _ kw_319) rfl dX6_isWithin_13 ?_
    refine lv_iload_n hx hb dX6_isWithin_16 rfl (lv_at hl 2 rfl) ?_
    refine z_aaldA (b := rr) hx hb hK hw 6 hm_nb hf_nb rfl (z_ix rfl (by omega)) hgb dX6_isWithin_17 ?_
    refine lv_iload_n hx hb dX6_isWithin_18 rfl (lv_at hl 0 rfl) ?_
    refine z_lald hx hb hK hw 2 hm_rr hf_rr rfl (z_ix rfl (by omega)) dX6_isWithin_19 ?_
    refine lv_topl (fun w4 e_w4 => ?_)
    refine lv_lconst (v := 0) hx hb dX6_isWithin_20 (by decide) ?_
    refine W.lcmp hx hb dX6_isWithin_21 ?_
    refine lv_topi (fun w5 e_w5 => ?_)
    have i_w5 := z_lc e_w5 rfl (show (0 : Int64).toInt = 0 by decide)
    refine z_if_lt (tgt := 39) hx hb rfl dX6_isWithin_22 (by decide) (fun c6 => ?_) (fun c6 => ?_)
    · skip
      refine lv_iconst (v := 0) hx hb dX6_isWithin_39 (by decide) ?_
      exact z_zret hx hb hr rfl hlk (by decide) (by decide) hw (⟨rfl, Or.inr ⟨rfl, trivial⟩⟩) dX6_isWithin_40
    · skip
      refine lv_aload_n hx hb dX6_isWithin_25 rfl (lv_at hl 1 rfl) ?_
      refine z_get (C := RX6) (T := TX6) (N := 3) (ci := 6) (v := .ref nb) hx hb hT zin_X6 hown hK hw hm_sl hf_sl rfl 0 (by decide) (hT _ kw_319) rfl dX6_isWithin_26 ?_
      refine lv_iload_n hx hb dX6_isWithin_29 rfl (lv_at hl 2 rfl) ?_
      refine z_aaldA (b := rr) hx hb hK hw 6 hm_nb hf_nb rfl (z_ix rfl (by omega)) hgb dX6_isWithin_30 ?_
      refine lv_iload_n hx hb dX6_isWithin_31 rfl (lv_at hl 0 rfl) ?_
      refine z_lald hx hb hK hw 2 hm_rr hf_rr rfl (z_ix rfl (by omega)) dX6_isWithin_32 ?_
      refine lv_topl (fun w7 e_w7 => ?_)
      refine lv_iload_n hx hb dX6_isWithin_33 rfl (lv_at hl 3 rfl) ?_
      refine lv_i2l hx hb dX6_isWithin_34 rfl ?_
      refine lv_topl (fun w8 e_w8 => ?_)
      have i_w8 : w8.toInt = mx.toInt := z_i2l e_w8 rfl
      refine W.lcmp hx hb dX6_isWithin_35 ?_
      refine lv_topi (fun w9 e_w9 => ?_)
      have i_w9 := z_lc e_w9 rfl i_w8
      refine z_if_le (tgt := 41) hx hb rfl dX6_isWithin_36 (by decide) (fun c10 => ?_) (fun c10 => ?_)
      · skip
        obtain ⟨k11, e_k11⟩ : ∃ z : Int32, z = K1 + 1 := ⟨_, rfl⟩
        refine lv_iinc (v := k11) (lv' := [(3, .int k11), (0, .ref sl), (1, .int sn), (2, .int mx)]) hx hb dX6_isWithin_41 hl (k := 0) rfl (by rw [e_k11]; rfl) (by decide) rfl (fun ls hl => ?_)
        have i_k11 : k11.toInt = (K1.toInt + 1) := z_add e_k11 rfl (by decide) (by omega)
        refine lv_goto (tgt := 2) hx hb dX6_isWithin_44 (by decide) ?_
        exact ih_2 _ (by omega) _ _ _ ⟨k11, rfl, (by first | decide | omega), (by first | decide | omega), hw, (lv_sub hl [0, 1, 2, 3] rfl)⟩
      · skip
        refine lv_iconst (v := 0) hx hb dX6_isWithin_39 (by decide) ?_
        exact z_zret hx hb hr rfl hlk (by decide) (by decide) hw (⟨rfl, Or.inr ⟨rfl, trivial⟩⟩) dX6_isWithin_40

set_option maxHeartbeats 2000000 in
set_option maxRecDepth 100000 in
theorem c_X6_reaches (l : Launch) {D : va_G} {cy : Nat → ClassId} {L : List Nat} {f : Nat → va_E} {sz : Nat} {adK adV : Nat → Nat} {sl nb wi si : Nat} {gz : Nat → Int32}   {sn fr nn : Int32} (hm_sl : sl ∈ L) (hm_si : si ∈ L) (hf_sl : f sl = .inr (6, [.ref nb, .ref wi, .ref si])) (hf_si : f si = .inl (cy 1, 4, .inl gz)) (hsn : 0 ≤ sn.toInt ∧ sn.toInt ≤ 3) (hgz : ∀ j : Nat, j < 4 → -1 ≤ (gz j).toInt ∧ (gz j).toInt ≤ 60) : Met l yX6_reaches (z_ws yX6_reaches cX6_reaches 4 (some .boolean)) (z_R 1 0 0) (va_Pc [.ref sl, .int sn, .int fr, .int nn] (z_Pre D vwCl (z_KK D cy adK adV) L f sz)) (z_Qi D vwCl (fun r u => u = (L, f) ∧ ((r = 1 ∧ (0 ≤ fr.toInt ∧ 0 ≤ nn.toInt ∧ fr.toInt + nn.toInt ≤ (gz sn.toNatClampNeg).toInt ∧ fr.toInt + nn.toInt ≤ 60)) ∨ (r = 0 ∧ ¬ (0 ≤ fr.toInt ∧ 0 ≤ nn.toInt ∧ fr.toInt + nn.toInt ≤ (gz sn.toNatClampNeg).toInt)))) L sz) 0 0 (z_A L sz) := by
  refine z_met (cc := cX6_reaches) (maxL := 4) (ret := (some .boolean)) (lv := [(0, .ref sl), (1, .int sn), (2, .int fr), (3, .int nn)]) (by decide) rfl (Nat.le_of_ble_eq_true rfl) rfl ?_
  intro p e s m below meth c ls hx hb hr hlk hml hown hnm hts hKK hA hw hl
  have hK := hKK.1.1
  have hown : s.vm.findClass RX6 = some m.cls := hown
  have hT : ∀ w ∈ lw_all, w.before ([.ref sl, .int sn, .int fr, .int nn] : List Value).toArray s = true := fun w h => hts w (z_cons w h)
  refine lv_iload_n hx hb dX6_reaches_0 rfl (lv_at hl 2 rfl) ?_
  refine z_if_lt (tgt := 24) hx hb rfl dX6_reaches_1 (by decide) (fun c1 => ?_) (fun c1 => ?_)
  · skip
    refine lv_iconst (v := 0) hx hb dX6_reaches_24 (by decide) ?_
    exact z_zret hx hb hr rfl hlk (by decide) (by decide) hw (⟨rfl, Or.inr ⟨rfl, by omega⟩⟩) dX6_reaches_25
  · skip
    refine lv_iload_n hx hb dX6_reaches_4 rfl (lv_at hl 3 rfl) ?_
    refine z_if_lt (tgt := 24) hx hb rfl dX6_reaches_5 (by decide) (fun c2 => ?_) (fun c2 => ?_)
    · skip
      refine lv_iconst (v := 0) hx hb dX6_reaches_24 (by decide) ?_
      exact z_zret hx hb hr rfl hlk (by decide) (by decide) hw (⟨rfl, Or.inr ⟨rfl, by omega⟩⟩) dX6_reaches_25
    · skip
      refine lv_iload_n hx hb dX6_reaches_8 rfl (lv_at hl 2 rfl) ?_
      refine lv_aload_n hx hb dX6_reaches_9 rfl (lv_at hl 0 rfl) ?_
      refine z_get (C := RX6) (T := TX6) (N := 3) (ci := 6) (v := .ref si) hx hb hT zin_X6 hown hK hw hm_sl hf_sl rfl 2 (by decide) (hT _ kw_324) rfl dX6_reaches_10 ?_
      refine lv_iload_n hx hb dX6_reaches_13 rfl (lv_at hl 1 rfl) ?_
      refine z_iald hx hb hK hw 1 hm_si hf_si rfl (z_ix rfl (by omega)) dX6_reaches_14 ?_
      refine lv_topi (fun w3 e_w3 => ?_)
      have hz_w3 : -1 ≤ w3.toInt ∧ w3.toInt ≤ 60 := by rw [e_w3]; exact hgz _ (z_clI rfl (by omega))
      have hnl := nn.toInt_le
      have hnm : Int32.maxValue.toInt = 2147483647 := by decide
      refine lv_iload_n hx hb dX6_reaches_15 rfl (lv_at hl 3 rfl) ?_
      refine lv_isub hx hb dX6_reaches_16 ?_
      refine lv_topi (fun w4 e_w4 => ?_)
      have i_w4 : w4.toInt = (w3.toInt - nn.toInt) := z_subI e_w4 rfl rfl (by omega)
      refine z_icmp_gt (tgt := 24) hx hb rfl i_w4 dX6_reaches_17 (by decide) (fun c5 => ?_) (fun c5 => ?_)
      · skip
        refine lv_iconst (v := 0) hx hb dX6_reaches_24 (by decide) ?_
        exact z_zret hx hb hr rfl hlk (by decide) (by decide) hw (⟨rfl, Or.inr ⟨rfl, by rw [← e_w3]; omega⟩⟩) dX6_reaches_25
      · skip
        refine lv_iconst (v := 1) hx hb dX6_reaches_20 (by decide) ?_
        refine lv_goto (tgt := 25) hx hb dX6_reaches_21 (by decide) ?_
        exact z_zret hx hb hr rfl hlk (by decide) (by decide) hw (⟨rfl, Or.inl ⟨rfl, by rw [← e_w3]; omega⟩⟩) dX6_reaches_25
