set_option maxHeartbeats 2000000 in
set_option maxRecDepth 100000 in
theorem c_X8_stillFree (l : Launch) {D : va_G} {cy : Nat → ClassId} {L : List Nat} {f : Nat → va_E} {sz : Nat} {adK adV : Nat → Nat} {wk ks ct se ow : Nat} {wn wt wd wp : Int32} {gk gc gq go : Nat → Int32} {mo la sa mi da : Nat} {v0 v1 v2 v3 v4 v5 v6 : Int32} {gl gs gm : Nat → Int32} {gd : Nat → Option Nat} {dv : Nat → Nat} {ga : Int32} (hm_wk : wk ∈ L) (hm_ks : ks ∈ L) (hm_ct : ct ∈ L) (hm_se : se ∈ L) (hm_ow : ow ∈ L) (hm_mo : mo ∈ L) (hm_la : la ∈ L) (hm_sa : sa ∈ L) (hm_mi : mi ∈ L) (hm_da : da ∈ L) (hf_wk : f wk = .inr (8, [.ref ks, .int wn, .ref ct, .ref se, .ref ow, .int wt, .int wd, .int wp])) (hf_ks : f ks = .inl (cy 1, 13, .inl gk)) (hf_ct : f ct = .inl (cy 1, 4, .inl gc)) (hf_se : f se = .inl (cy 1, 4, .inl gq)) (hf_ow : f ow = .inl (cy 1, 5, .inl go)) (hf_mo : f mo = .inr (2, [.int v0, .int v1, .int v2, .int v3, .int v4, .int v5, .int v6, .ref la, .ref sa, .ref mi, .ref da])) (hf_la : f la = .inl (cy 1, 5, .inl gl)) (hf_sa : f sa = .inl (cy 1, 4, .inl gs)) (hf_mi : f mi = .inl (cy 1, 36, .inl gm)) (hf_da : f da = .inl (cy 4, 13, .inr (.inr (.inr (.inr gd))))) (ne_ct_se : ct ≠ se) (ne_ct_sa : ct ≠ sa) (ne_se_sa : se ≠ sa) (ne_ow_la : ow ≠ la) (hg_da : ∀ i : Nat, i < 13 → gd i = some (dv i)) (hd_da : z_Drv L f dv 13) (hv2 : 0 ≤ v2.toInt ∧ v2.toInt ≤ 9) (hv5 : 0 ≤ v5.toInt ∧ v5.toInt ≤ 13) (hgk : ∀ j : Nat, z_key (gk j)) (hgm : ∀ j : Nat, 0 ≤ (gm j).toInt ∧ (gm j).toInt ≤ 9) (hga : 0 ≤ ga.toInt ∧ ga.toInt ≤ 3) : Met l yX8_stillFree (z_ws yX8_stillFree cX8_stillFree 3 (some .int)) (z_R 6 0 0) (va_Pc [.ref wk, .ref mo, .int ga] (z_Pre D vwCl (z_KK D cy adK adV) L f sz)) (z_Qi D vwCl (fun r u => L = u.1 ∧ (∀ b ∈ L, b ≠ wk → b ≠ ks → b ≠ ct → b ≠ se → b ≠ ow → u.2 b = f b) ∧ (∃ (w2 t2 : Int32) (k2 c2 q2 o2 : Nat → Int32), (u.2 wk = .inr (8, [.ref ks, .int w2, .ref ct, .ref se, .ref ow, .int t2, .int wd, .int wp])) ∧ (u.2 ks = .inl (cy 1, 13, .inl k2)) ∧ (u.2 ct = .inl (cy 1, 4, .inl c2)) ∧ (u.2 se = .inl (cy 1, 4, .inl q2)) ∧ (u.2 ow = .inl (cy 1, 5, .inl o2)) ∧ ((0 ≤ w2.toInt ∧ w2.toInt ≤ 13) ∧ ∀ j : Nat, z_key (k2 j)))) L sz) 0 0 (z_A L sz) := by
  refine z_met (cc := cX8_stillFree) (maxL := 3) (ret := (some .int)) (lv := [(0, .ref wk), (1, .ref mo), (2, .int ga)]) (by decide) rfl (Nat.le_of_ble_eq_true rfl) rfl ?_
  intro p e s m below meth c ls hx hb hr hlk hml hown hnm hts hKK hA hw hl
  have hK := hKK.1.1
  have hown : s.vm.findClass RX8 = some m.cls := hown
  have hT : ∀ w ∈ lw_all, w.before ([.ref wk, .ref mo, .int ga] : List Value).toArray s = true := fun w h => hts w (z_cons w h)
  have hsub : L = L := rfl
  have hfr : ∀ b ∈ L, b ≠ wk → b ≠ ks → b ≠ ct → b ≠ se → b ≠ ow → f b = f b := fun _ _ _ _ _ _ _ => rfl
  refine lv_aload_n hx hb dX8_stillFree_0 rfl (lv_at hl 0 rfl) ?_
  refine lv_aload_n hx hb dX8_stillFree_1 rfl (lv_at hl 1 rfl) ?_
  refine z_callvV (cells := 0) (slots := 0) (b := wk) (As := [.ref mo]) (rest := []) (ci := 8) (q0 := (RX8, TX8, 8)) ⟨hx, hb, hml, hown, hT⟩ (c_X8_goThrough l hm_wk hm_ks hm_ct hm_se hm_ow hm_mo hm_la hm_sa hm_mi hm_da hf_wk hf_ks hf_ct hf_se hf_ow hf_mo hf_la hf_sa hf_mi hf_da ne_ct_se ne_ct_sa ne_se_sa ne_ow_la hg_da hd_da (by first | omega | decide | assumption) (by first | omega | decide | assumption) hgk hgm) (cwV 1 hT (z_goodV (fun _ h => h) kw_887 kw_888 kw_889 kw_92 kw_890) rfl rfl rfl (by decide +kernel) ⟨by decide, by decide⟩) z_mv hKK hK hw hA hm_wk hf_wk rfl rfl rfl hl.1 rfl (Nat.le_of_ble_eq_true rfl) dX8_stillFree_2 ⟨by decide, by decide⟩ (fun u H locs hp hw => ?_)
  obtain ⟨L1, f2⟩ := u
  obtain ⟨hsb, hfm, w2_3, t2_4, k2_5, c2_6, q2_7, o2_8, ha_0, ha_1, ha_2, ha_3, ha_4, hp⟩ := hp
  have hsb : L = L1 := hsb
  subst hsb
  have hsb : ∀ b ∈ L, b ∈ L := fun _ h => h
  have hw : z_H D vwCl (z_A L sz) s.heap L f2 H locs := hw
  have hfr : ∀ b ∈ L, b ≠ wk → b ≠ ks → b ≠ ct → b ≠ se → b ≠ ow → f2 b = f b := fun b hb h0 h1 h2 h3 h4 => (hfm b hb h0 h1 h2 h3 h4).trans (hfr b hb h0 h1 h2 h3 h4)
  have hd_da : z_Drv L f2 dv 13 := z_Drv_fr hd_da hsb (fun b hb ht => hfm b hb (z_t0 ht hf_wk (m := 8) rfl (by decide)) (z_t0 ht hf_ks (m := 204) rfl (by decide)) (z_t0 ht hf_ct (m := 132) rfl (by decide)) (z_t0 ht hf_se (m := 132) rfl (by decide)) (z_t0 ht hf_ow (m := 140) rfl (by decide)))
  have hf_mo : f2 mo = .inr (2, [.int v0, .int v1, .int v2, .int v3, .int v4, .int v5, .int v6, .ref la, .ref sa, .ref mi, .ref da]) := (hfm mo hm_mo (z_tne hf_mo hf_wk (m := 2) (n := 8) rfl rfl (by decide)) (z_tne hf_mo hf_ks (m := 2) (n := 204) rfl rfl (by decide)) (z_tne hf_mo hf_ct (m := 2) (n := 132) rfl rfl (by decide)) (z_tne hf_mo hf_se (m := 2) (n := 132) rfl rfl (by decide)) (z_tne hf_mo hf_ow (m := 2) (n := 140) rfl rfl (by decide))).trans hf_mo
  have hf_la : f2 la = .inl (cy 1, 5, .inl gl) := (hfm la hm_la (z_tne hf_la hf_wk (m := 140) (n := 8) rfl rfl (by decide)) (z_tne hf_la hf_ks (m := 140) (n := 204) rfl rfl (by decide)) (z_tne hf_la hf_ct (m := 140) (n := 132) rfl rfl (by decide)) (z_tne hf_la hf_se (m := 140) (n := 132) rfl rfl (by decide)) (Ne.symm ne_ow_la)).trans hf_la
  have hf_sa : f2 sa = .inl (cy 1, 4, .inl gs) := (hfm sa hm_sa (z_tne hf_sa hf_wk (m := 132) (n := 8) rfl rfl (by decide)) (z_tne hf_sa hf_ks (m := 132) (n := 204) rfl rfl (by decide)) (Ne.symm ne_ct_sa) (Ne.symm ne_se_sa) (z_tne hf_sa hf_ow (m := 132) (n := 140) rfl rfl (by decide))).trans hf_sa
  have hf_mi : f2 mi = .inl (cy 1, 36, .inl gm) := (hfm mi hm_mi (z_tne hf_mi hf_wk (m := 388) (n := 8) rfl rfl (by decide)) (z_tne hf_mi hf_ks (m := 388) (n := 204) rfl rfl (by decide)) (z_tne hf_mi hf_ct (m := 388) (n := 132) rfl rfl (by decide)) (z_tne hf_mi hf_se (m := 388) (n := 132) rfl rfl (by decide)) (z_tne hf_mi hf_ow (m := 388) (n := 140) rfl rfl (by decide))).trans hf_mi
  have hf_da : f2 da = .inl (cy 4, 13, .inr (.inr (.inr (.inr gd)))) := (hfm da hm_da (z_tne hf_da hf_wk (m := 206) (n := 8) rfl rfl (by decide)) (z_tne hf_da hf_ks (m := 206) (n := 204) rfl rfl (by decide)) (z_tne hf_da hf_ct (m := 206) (n := 132) rfl rfl (by decide)) (z_tne hf_da hf_se (m := 206) (n := 132) rfl rfl (by decide)) (z_tne hf_da hf_ow (m := 206) (n := 140) rfl rfl (by decide))).trans hf_da
  have hf_wk : f2 wk = .inr (8, [.ref ks, .int w2_3, .ref ct, .ref se, .ref ow, .int t2_4, .int wd, .int wp]) := ha_0
  have hf_ks : f2 ks = .inl (cy 1, 13, .inl k2_5) := ha_1
  have hf_ct : f2 ct = .inl (cy 1, 4, .inl c2_6) := ha_2
  have hf_se : f2 se = .inl (cy 1, 4, .inl q2_7) := ha_3
  have hf_ow : f2 ow = .inl (cy 1, 5, .inl o2_8) := ha_4
  have hbg := hp
  refine lv_iconst (v := 1) hx hb dX8_stillFree_5 (by decide) ?_
  refine lv_aload_n hx hb dX8_stillFree_6 rfl (lv_at hl 1 rfl) ?_
  refine z_get (C := RX2) (T := TX2) (N := 11) (ci := 2) (v := .ref la) hx hb hT zin_X2 hown hK hw hm_mo hf_mo rfl 7 (by decide) (hT _ kw_233) rfl dX8_stillFree_7 ?_
  refine lv_iconst (v := 3) hx hb dX8_stillFree_10 (by decide) ?_
  refine z_iald hx hb hK hw 1 hm_la hf_la rfl (z_ix (show (3 : Int32).toInt = 3 by decide) (by decide)) dX8_stillFree_11 ?_
  refine lv_topi (fun w9 e_w9 => ?_)
  refine lv_aload_n hx hb dX8_stillFree_12 rfl (lv_at hl 0 rfl) ?_
  refine z_get (C := RX8) (T := TX8) (N := 8) (ci := 8) (v := .ref ct) hx hb hT zin_X8 hown hK hw hm_wk hf_wk rfl 2 (by decide) (hT _ kw_346) rfl dX8_stillFree_13 ?_
  refine lv_aload_n hx hb dX8_stillFree_16 rfl (lv_at hl 1 rfl) ?_
  refine lv_iload_n hx hb dX8_stillFree_17 rfl (lv_at hl 2 rfl) ?_
  refine z_calliV (cells := 0) (slots := 0) (b := mo) (As := [.int ga]) (rest := [.ref ct, .int w9, .int 1]) (ci := 2) (q0 := (RX2, TX2, 11)) ⟨hx, hb, hml, hown, hT⟩ (c_X2_counterOf l hm_mo hm_la hf_mo hf_la (by first | omega | decide | assumption)) (cwV 1 hT (z_goodV (fun _ h => h) kw_772 kw_773 kw_774 kw_87 kw_775) rfl rfl rfl (by decide +kernel) ⟨by decide, by decide⟩) z_mv hKK hK hw hA hm_mo hf_mo rfl rfl rfl hl.1 rfl (Nat.le_of_ble_eq_true rfl) dX8_stillFree_18 ⟨by decide, by decide⟩ (fun r10 u H locs hp hw => ?_)
  obtain ⟨rfl, hp⟩ := hp
  have hw : z_H D vwCl (z_A L sz) s.heap L f2 H locs := hw
  refine z_iald hx hb hK hw 1 hm_ct hf_ct rfl (z_ix rfl (by omega)) dX8_stillFree_21 ?_
  refine lv_topi (fun w11 e_w11 => ?_)
  refine lv_isub hx hb dX8_stillFree_22 ?_
  refine lv_topi (fun w12 e_w12 => ?_)
  refine va_mmax hx hb (by rw [hml]; exact hl.1.symm) hown (hT _ kx_lX8) (hT _ kx_s) (hT _ km_i) (hT _ kx_c) (by decide) (Nat.le_of_ble_eq_true rfl) (by decide) (by decide) dX8_stillFree_23 ?_
  obtain ⟨mx13, e_mx13⟩ : ∃ z, z = (if (1 : Int32) < w12 then w12 else 1) := ⟨_, rfl⟩
  refine z_lit (y := mx13) e_mx13.symm ?_
  have hx_mx13 := z_mxI e_mx13
  exact z_iret hx hb hr hlk (by decide) (by decide) hw (⟨hsub, hfr, w2_3, t2_4, k2_5, c2_6, q2_7, o2_8, hf_wk, hf_ks, hf_ct, hf_se, hf_ow, by omega, hbg.2⟩) dX8_stillFree_26

set_option maxHeartbeats 2000000 in
set_option maxRecDepth 100000 in
theorem c_X8_placeOf (l : Launch) {D : va_G} {cy : Nat → ClassId} {L : List Nat} {f : Nat → va_E} {sz : Nat} {adK adV : Nat → Nat} {wk ks ct se ow : Nat} {wn wt wd wp : Int32} {gc gq : Nat → Int32} {mo la sa mi da : Nat} {v0 v1 v2 v3 v4 v5 v6 : Int32} {gl gm : Nat → Int32} {gd : Nat → Option Nat} {dv : Nat → Nat} {key wh : Int32} (hm_wk : wk ∈ L) (hm_ct : ct ∈ L) (hm_se : se ∈ L) (hm_mo : mo ∈ L) (hm_la : la ∈ L) (hm_mi : mi ∈ L) (hm_da : da ∈ L) (hf_wk : f wk = .inr (8, [.ref ks, .int wn, .ref ct, .ref se, .ref ow, .int wt, .int wd, .int wp])) (hf_ct : f ct = .inl (cy 1, 4, .inl gc)) (hf_se : f se = .inl (cy 1, 4, .inl gq)) (hf_mo : f mo = .inr (2, [.int v0, .int v1, .int v2, .int v3, .int v4, .int v5, .int v6, .ref la, .ref sa, .ref mi, .ref da])) (hf_la : f la = .inl (cy 1, 5, .inl gl)) (hf_mi : f mi = .inl (cy 1, 36, .inl gm)) (hf_da : f da = .inl (cy 4, 13, .inr (.inr (.inr (.inr gd))))) (ne_ct_se : ct ≠ se) (hg_da : ∀ i : Nat, i < 13 → gd i = some (dv i)) (hd_da : z_Drv L f dv 13) (hkey : z_key key) (hgm : ∀ j : Nat, 0 ≤ (gm j).toInt ∧ (gm j).toInt ≤ 9) : Met l yX8_placeOf (z_ws yX8_placeOf cX8_placeOf 8 (some .int)) (z_R 4 0 0) (va_Pc [.ref wk, .ref mo, .int key, .int wh] (z_Pre D vwCl (z_KK D cy adK adV) L f sz)) (z_Qi D vwCl (fun r u => L = u.1 ∧ (∀ b ∈ L, b ≠ ct → b ≠ se → u.2 b = f b) ∧ (∃ (c2 q2 : Nat → Int32), (u.2 ct = .inl (cy 1, 4, .inl c2)) ∧ (u.2 se = .inl (cy 1, 4, .inl q2)) ∧ (True))) L sz) 0 0 (z_A L sz) := by
  refine z_met (cc := cX8_placeOf) (maxL := 8) (ret := (some .int)) (lv := [(0, .ref wk), (1, .ref mo), (2, .int key), (3, .int wh)]) (by decide) rfl (Nat.le_of_ble_eq_true rfl) rfl ?_
  intro p e s m below meth c ls hx hb hr hlk hml hown hnm hts hKK hA hw hl
  have hK := hKK.1.1
  have hown : s.vm.findClass RX8 = some m.cls := hown
  have hT : ∀ w ∈ lw_all, w.before ([.ref wk, .ref mo, .int key, .int wh] : List Value).toArray s = true := fun w h => hts w (z_cons w h)
  have hsub : L = L := rfl
  have hfr : ∀ b ∈ L, b ≠ ct → b ≠ se → f b = f b := fun _ _ _ _ => rfl
  refine lv_iload_n hx hb dX8_placeOf_0 rfl (lv_at hl 2 rfl) ?_
  refine z_calliS (cells := 0) (slots := 0) (As := [.int key]) (rest := []) ⟨hx, hb, hml, hown, hT⟩ (c_X8_timeOf l hkey) (va_cwS 1 hT (z_goodS (fun _ h => h) kw_776 kw_777 kw_92 kw_778) rfl rfl rfl (by decide +kernel) ⟨by decide, by decide⟩) z_mv hKK hw hA rfl hl.1 rfl (Nat.le_of_ble_eq_true rfl) dX8_placeOf_1 ⟨by decide, by decide⟩ (fun r1 u H locs hp hw => ?_)
  obtain ⟨rfl, hp⟩ := hp
  have hw : z_H D vwCl (z_A L sz) s.heap L f H locs := hw
  refine lv_bipush (v := 24) hx hb dX8_placeOf_4 (by decide) ?_
  refine lv_idiv hx hb dX8_placeOf_6 (by decide) ?_
  refine lv_topi (fun w2 e_w2 => ?_)
  have i_w2 : w2.toInt = r1.toInt / 24 := z_div e_w2 rfl (show (24 : Int32).toInt = 24 by decide) (by omega)
  refine lv_istore (lv' := [(4, .int w2), (0, .ref wk), (1, .ref mo), (2, .int key), (3, .int wh)]) hx hb dX8_placeOf_7 hl (by decide) rfl (fun ls hl => ?_)
  refine lv_aload_n hx hb dX8_placeOf_9 rfl (lv_at hl 2 rfl) ?_
  refine z_get (C := RX2) (T := TX2) (N := 11) (ci := 2) (v := .ref da) hx hb hT zin_X2 hown hK hw hm_mo hf_mo rfl 10 (by decide) (hT _ kw_246) rfl dX8_placeOf_10 ?_
  refine lv_iload_n hx hb dX8_placeOf_13 rfl (lv_at hl 3 rfl) ?_
  refine z_calliS (cells := 0) (slots := 0) (As := [.int key]) (rest := [.ref da]) ⟨hx, hb, hml, hown, hT⟩ (c_X8_numberOf l hkey) (va_cwS 1 hT (z_goodS (fun _ h => h) kw_790 kw_791 kw_92 kw_792) rfl rfl rfl (by decide +kernel) ⟨by decide, by decide⟩) z_mv hKK hw hA rfl hl.1 rfl (Nat.le_of_ble_eq_true rfl) dX8_placeOf_14 ⟨by decide, by decide⟩ (fun r3 u H locs hp hw => ?_)
  obtain ⟨rfl, hp⟩ := hp
  have hw : z_H D vwCl (z_A L sz) s.heap L f H locs := hw
  obtain ⟨dq4, e_dq4⟩ : ∃ z, z = dv r3.toNatClampNeg := ⟨_, rfl⟩
  have hi_dq4 : r3.toNatClampNeg < 13 := z_clI rfl (by omega)
  refine z_aald (b := dq4) hx hb hK hw 4 hm_da hf_da rfl (z_ix rfl (by omega)) (by rw [e_dq4]; exact hg_da _ hi_dq4) dX8_placeOf_17 ?_
  obtain ⟨hm_dq4, do5, dg6, dd7, dh8, ds9, dl10, dp11, dm12, hf_dq4, hr_do5, hr_dg6, hr_dd7, hr_dh8, hr_ds9, hr_dl10, hr_dp11, hr_dm12⟩ := hd_da _ hi_dq4
  rw [← e_dq4] at hm_dq4 hf_dq4
  refine lv_aload_n hx hb dX8_placeOf_18 rfl (lv_at hl 2 rfl) ?_
  refine lv_iload hx hb dX8_placeOf_19 (lv_at hl 0 rfl) ?_
  refine z_calliV (cells := 0) (slots := 0) (b := mo) (As := [.int w2]) (rest := [.ref dq4]) (ci := 2) (q0 := (RX2, TX2, 11)) ⟨hx, hb, hml, hown, hT⟩ (c_X2_lambsCount l hm_mo hm_la hf_mo hf_la) (cwV 1 hT (z_goodV (fun _ h => h) kw_793 kw_794 kw_795 kw_87 kw_796) rfl rfl rfl (by decide +kernel) ⟨by decide, by decide⟩) z_mv hKK hK hw hA hm_mo hf_mo rfl rfl rfl hl.1 rfl (Nat.le_of_ble_eq_true rfl) dX8_placeOf_21 ⟨by decide, by decide⟩ (fun r13 u H locs hp hw => ?_)
  obtain ⟨rfl, hp⟩ := hp
  have hw : z_H D vwCl (z_A L sz) s.heap L f H locs := hw
  refine z_calliV (cells := 0) (slots := 0) (b := dq4) (As := [.int r13]) (rest := []) (ci := 0) (q0 := (RX0, TX0, 8)) ⟨hx, hb, hml, hown, hT⟩ (c_X0_countable l hm_dq4 hf_dq4 (by first | omega | decide | assumption) (by first | omega | decide | assumption)) (cwV 1 hT (z_goodV (fun _ h => h) kw_797 kw_798 kw_799 kw_88 kw_800) rfl rfl rfl (by decide +kernel) ⟨by decide, by decide⟩) z_mv hKK hK hw hA hm_dq4 hf_dq4 rfl rfl rfl hl.1 rfl (Nat.le_of_ble_eq_true rfl) dX8_placeOf_24 ⟨by decide, by decide⟩ (fun r14 u H locs hp hw => ?_)
  obtain ⟨rfl, hp⟩ := hp
  have hw : z_H D vwCl (z_A L sz) s.heap L f H locs := hw
  refine lv_istore (lv' := [(5, .int r14), (4, .int w2), (0, .ref wk), (1, .ref mo), (2, .int key), (3, .int wh)]) hx hb dX8_placeOf_27 hl (by decide) rfl (fun ls hl => ?_)
  refine lv_iload_n hx hb dX8_placeOf_29 rfl (lv_at hl 5 rfl) ?_
  refine lv_istore (lv' := [(6, .int wh), (5, .int r14), (4, .int w2), (0, .ref wk), (1, .ref mo), (2, .int key), (3, .int wh)]) hx hb dX8_placeOf_30 hl (by decide) rfl (fun ls hl => ?_)
  refine lv_iconst (v := 0) hx hb dX8_placeOf_32 (by decide) ?_
  refine lv_istore (lv' := [(7, .int 0), (6, .int wh), (5, .int r14), (4, .int w2), (0, .ref wk), (1, .ref mo), (2, .int key), (3, .int wh)]) hx hb dX8_placeOf_33 hl (by decide) rfl (fun ls hl => ?_)
  have hzk : (0 : Int32).toInt = 0 := by decide
  refine z_loop (fun n H locs ls => ∃ (K15 : Int32) (G17 : Nat → Int32) (G18 : Nat → Int32) (V19 : Int32) (f16 : Nat → va_E), (n = (r14.toInt - K15.toInt).toNat) ∧ (0 ≤ K15.toInt) ∧ (K15.toInt ≤ r14.toInt) ∧ (z_H D vwCl (z_A L sz) s.heap L f16 H locs) ∧ (f16 wk = .inr (8, [.ref ks, .int wn, .ref ct, .ref se, .ref ow, .int wt, .int wd, .int wp])) ∧ (f16 ct = .inl (cy 1, 4, .inl G17)) ∧ (f16 se = .inl (cy 1, 4, .inl G18)) ∧ (f16 mo = .inr (2, [.int v0, .int v1, .int v2, .int v3, .int v4, .int v5, .int v6, .ref la, .ref sa, .ref mi, .ref da])) ∧ (f16 la = .inl (cy 1, 5, .inl gl)) ∧ (f16 mi = .inl (cy 1, 36, .inl gm)) ∧ (f16 da = .inl (cy 4, 13, .inr (.inr (.inr (.inr gd))))) ∧ (∀ b ∈ L, b ≠ ct → b ≠ se → f16 b = f b) ∧ (z_Drv L f16 dv 13) ∧ (lv_has ls 8 [(7, .int K15), (6, .int V19), (5, .int r14), (4, .int w2), (0, .ref wk), (1, .ref mo), (2, .int key), (3, .int wh)])) _ ⟨0, gc, gq, wh, f, rfl, (by first | decide | omega), (by first | decide | omega), hw, hf_wk, hf_ct, hf_se, hf_mo, hf_la, hf_mi, hf_da, hfr, hd_da, (lv_sub hl [0, 1, 2, 3, 4, 5, 6, 7] rfl)⟩ (fun n H locs ls hI ih_35 => ?_)
  obtain ⟨K15, G17, G18, V19, f16, hn, hk0, hk1, hw, hf_wk, hf_ct, hf_se, hf_mo, hf_la, hf_mi, hf_da, hfr, hd_da, hl⟩ := hI
  refine lv_iload hx hb dX8_placeOf_35 (lv_at hl 0 rfl) ?_
  refine lv_iload hx hb dX8_placeOf_37 (lv_at hl 2 rfl) ?_
  refine z_icmp_ge (tgt := 73) hx hb rfl rfl dX8_placeOf_39 (by decide) (fun c20 => ?_) (fun c20 => ?_)
  · skip
    refine lv_iconst (v := (-1)) hx hb dX8_placeOf_73 (by decide) ?_
    exact z_iret hx hb hr hlk (by decide) (by decide) hw (⟨hsub, hfr, G17, G18, hf_ct, hf_se, trivial⟩) dX8_placeOf_74
  · skip
    refine lv_aload_n hx hb dX8_placeOf_42 rfl (lv_at hl 4 rfl) ?_
    refine lv_aload_n hx hb dX8_placeOf_43 rfl (lv_at hl 5 rfl) ?_
    refine lv_iload_n hx hb dX8_placeOf_44 rfl (lv_at hl 6 rfl) ?_
    refine z_calliS (cells := 0) (slots := 0) (As := [.int key]) (rest := [.ref mo, .ref wk]) ⟨hx, hb, hml, hown, hT⟩ (c_X8_gapOf l hkey) (va_cwS 1 hT (z_goodS (fun _ h => h) kw_783 kw_784 kw_92 kw_785) rfl rfl rfl (by decide +kernel) ⟨by decide, by decide⟩) z_mv hKK hw hA rfl hl.1 rfl (Nat.le_of_ble_eq_true rfl) dX8_placeOf_45 ⟨by decide, by decide⟩ (fun r21 u H locs hp hw => ?_)
    obtain ⟨rfl, hp⟩ := hp
    have hw : z_H D vwCl (z_A L sz) s.heap L f16 H locs := hw
    refine lv_iload hx hb dX8_placeOf_48 (lv_at hl 3 rfl) ?_
    refine z_calliV (cells := 0) (slots := 0) (b := wk) (As := [.ref mo, .int r21, .int w2]) (rest := []) (ci := 8) (q0 := (RX8, TX8, 8)) ⟨hx, hb, hml, hown, hT⟩ (c_X8_passOne l hm_wk hm_ct hm_se hm_mo hm_la hm_mi hf_wk hf_ct hf_se hf_mo hf_la hf_mi ne_ct_se (by first | omega | decide | assumption) (by first | omega | decide | assumption) hgm) (cwV 3 hT (z_goodV (fun _ h => h) kw_850 kw_851 kw_852 kw_92 kw_853) rfl rfl rfl (by decide +kernel) ⟨by decide, by decide⟩) z_mv hKK hK hw hA hm_wk hf_wk rfl rfl rfl hl.1 rfl (Nat.le_of_ble_eq_true rfl) dX8_placeOf_50 ⟨by decide, by decide⟩ (fun r22 u H locs hp hw => ?_)
    obtain ⟨L23, f24⟩ := u
    obtain ⟨hsb, hfm, c2_25, q2_26, ha_0, ha_1, hp⟩ := hp
    have hsb : L = L23 := hsb
    subst hsb
    have hsb : ∀ b ∈ L, b ∈ L := fun _ h => h
    have hw : z_H D vwCl (z_A L sz) s.heap L f24 H locs := hw
    have hfr : ∀ b ∈ L, b ≠ ct → b ≠ se → f24 b = f b := fun b hb h0 h1 => (hfm b hb h0 h1).trans (hfr b hb h0 h1)
    have hd_da : z_Drv L f24 dv 13 := z_Drv_fr hd_da hsb (fun b hb ht => hfm b hb (z_t0 ht hf_ct (m := 132) rfl (by decide)) (z_t0 ht hf_se (m := 132) rfl (by decide)))
    have hf_wk : f24 wk = .inr (8, [.ref ks, .int wn, .ref ct, .ref se, .ref ow, .int wt, .int wd, .int wp]) := (hfm wk hm_wk (z_tne hf_wk hf_ct (m := 8) (n := 132) rfl rfl (by decide)) (z_tne hf_wk hf_se (m := 8) (n := 132) rfl rfl (by decide))).trans hf_wk
    have hf_mo : f24 mo = .inr (2, [.int v0, .int v1, .int v2, .int v3, .int v4, .int v5, .int v6, .ref la, .ref sa, .ref mi, .ref da]) := (hfm mo hm_mo (z_tne hf_mo hf_ct (m := 2) (n := 132) rfl rfl (by decide)) (z_tne hf_mo hf_se (m := 2) (n := 132) rfl rfl (by decide))).trans hf_mo
    have hf_la : f24 la = .inl (cy 1, 5, .inl gl) := (hfm la hm_la (z_tne hf_la hf_ct (m := 140) (n := 132) rfl rfl (by decide)) (z_tne hf_la hf_se (m := 140) (n := 132) rfl rfl (by decide))).trans hf_la
    have hf_mi : f24 mi = .inl (cy 1, 36, .inl gm) := (hfm mi hm_mi (z_tne hf_mi hf_ct (m := 388) (n := 132) rfl rfl (by decide)) (z_tne hf_mi hf_se (m := 388) (n := 132) rfl rfl (by decide))).trans hf_mi
    have hf_da : f24 da = .inl (cy 4, 13, .inr (.inr (.inr (.inr gd)))) := (hfm da hm_da (z_tne hf_da hf_ct (m := 206) (n := 132) rfl rfl (by decide)) (z_tne hf_da hf_se (m := 206) (n := 132) rfl rfl (by decide))).trans hf_da
    have hf_ct : f24 ct = .inl (cy 1, 4, .inl c2_25) := ha_0
    have hf_se : f24 se = .inl (cy 1, 4, .inl q2_26) := ha_1
    rcases hp with ⟨rfl, h27⟩ | ⟨rfl, h27⟩
    · skip
      refine z_if_eq (tgt := 67) hx hb (show (1 : Int32).toInt = 1 by decide) dX8_placeOf_53 (by decide) (fun h => absurd h (by decide)) (fun _ => ?_)
      refine lv_iload hx hb dX8_placeOf_56 (lv_at hl 1 rfl) ?_
      refine z_if_ne (tgt := 64) hx hb rfl dX8_placeOf_58 (by decide) (fun c28 => ?_) (fun c28 => ?_)
      · skip
        obtain ⟨k29, e_k29⟩ : ∃ z : Int32, z = V19 + (-1) := ⟨_, rfl⟩
        refine lv_iinc (v := k29) (lv' := [(6, .int k29), (7, .int K15), (5, .int r14), (4, .int w2), (0, .ref wk), (1, .ref mo), (2, .int key), (3, .int wh)]) hx hb dX8_placeOf_64 hl (k := 1) rfl (by rw [e_k29]; rfl) (by decide) rfl (fun ls hl => ?_)
        obtain ⟨k30, e_k30⟩ : ∃ z : Int32, z = K15 + 1 := ⟨_, rfl⟩
        refine lv_iinc (v := k30) (lv' := [(7, .int k30), (6, .int k29), (5, .int r14), (4, .int w2), (0, .ref wk), (1, .ref mo), (2, .int key), (3, .int wh)]) hx hb dX8_placeOf_67 hl (k := 1) rfl (by rw [e_k30]; rfl) (by decide) rfl (fun ls hl => ?_)
        have i_k30 : k30.toInt = (K15.toInt + 1) := z_add e_k30 rfl (by decide) (by omega)
        refine lv_goto (tgt := 35) hx hb dX8_placeOf_70 (by decide) ?_
        exact ih_35 _ (by omega) _ _ _ ⟨k30, c2_25, q2_26, k29, f24, rfl, (by first | decide | omega), (by first | decide | omega), hw, hf_wk, hf_ct, hf_se, hf_mo, hf_la, hf_mi, hf_da, hfr, hd_da, (lv_sub hl [0, 1, 2, 3, 4, 5, 6, 7] rfl)⟩
      · skip
        refine lv_iload hx hb dX8_placeOf_61 (lv_at hl 0 rfl) ?_
        exact z_iret hx hb hr hlk (by decide) (by decide) hw (⟨hsub, hfr, c2_25, q2_26, hf_ct, hf_se, trivial⟩) dX8_placeOf_63
    · skip
      refine z_if_eq (tgt := 67) hx hb (show (0 : Int32).toInt = 0 by decide) dX8_placeOf_53 (by decide) (fun _ => ?_) (fun h => absurd h (by decide))
      obtain ⟨k31, e_k31⟩ : ∃ z : Int32, z = K15 + 1 := ⟨_, rfl⟩
      refine lv_iinc (v := k31) (lv' := [(7, .int k31), (6, .int V19), (5, .int r14), (4, .int w2), (0, .ref wk), (1, .ref mo), (2, .int key), (3, .int wh)]) hx hb dX8_placeOf_67 hl (k := 0) rfl (by rw [e_k31]; rfl) (by decide) rfl (fun ls hl => ?_)
      have i_k31 : k31.toInt = (K15.toInt + 1) := z_add e_k31 rfl (by decide) (by omega)
      refine lv_goto (tgt := 35) hx hb dX8_placeOf_70 (by decide) ?_
      exact ih_35 _ (by omega) _ _ _ ⟨k31, c2_25, q2_26, V19, f24, rfl, (by first | decide | omega), (by first | decide | omega), hw, hf_wk, hf_ct, hf_se, hf_mo, hf_la, hf_mi, hf_da, hfr, hd_da, (lv_sub hl [0, 1, 2, 3, 4, 5, 6, 7] rfl)⟩

set_option maxHeartbeats 2000000 in
set_option maxRecDepth 100000 in
theorem c_X8_findDue (l : Launch) {D : va_G} {cy : Nat → ClassId} {L : List Nat} {f : Nat → va_E} {sz : Nat} {adK adV : Nat → Nat} {wk ks ct se ow : Nat} {wn wt wd wp : Int32} {gk gc gq go : Nat → Int32} {mo la sa mi da : Nat} {v0 v1 v2 v3 v4 v5 v6 : Int32} {gl gs gm : Nat → Int32} {gd : Nat → Option Nat} {dv : Nat → Nat} {nu : Int32} (hm_wk : wk ∈ L) (hm_ks : ks ∈ L) (hm_ct : ct ∈ L) (hm_se : se ∈ L) (hm_ow : ow ∈ L) (hm_mo : mo ∈ L) (hm_la : la ∈ L) (hm_sa : sa ∈ L) (hm_mi : mi ∈ L) (hm_da : da ∈ L) (hf_wk : f wk = .inr (8, [.ref ks, .int wn, .ref ct, .ref se, .ref ow, .int wt, .int wd, .int wp])) (hf_ks : f ks = .inl (cy 1, 13, .inl gk)) (hf_ct : f ct = .inl (cy 1, 4, .inl gc)) (hf_se : f se = .inl (cy 1, 4, .inl gq)) (hf_ow : f ow = .inl (cy 1, 5, .inl go)) (hf_mo : f mo = .inr (2, [.int v0, .int v1, .int v2, .int v3, .int v4, .int v5, .int v6, .ref la, .ref sa, .ref mi, .ref da])) (hf_la : f la = .inl (cy 1, 5, .inl gl)) (hf_sa : f sa = .inl (cy 1, 4, .inl gs)) (hf_mi : f mi = .inl (cy 1, 36, .inl gm)) (hf_da : f da = .inl (cy 4, 13, .inr (.inr (.inr (.inr gd))))) (ne_ct_se : ct ≠ se) (ne_ct_sa : ct ≠ sa) (ne_se_sa : se ≠ sa) (ne_ow_la : ow ≠ la) (hg_da : ∀ i : Nat, i < 13 → gd i = some (dv i)) (hd_da : z_Drv L f dv 13) (hv2 : 0 ≤ v2.toInt ∧ v2.toInt ≤ 9) (hv5 : 0 ≤ v5.toInt ∧ v5.toInt ≤ 13) (hgk : ∀ j : Nat, z_key (gk j)) (hgm : ∀ j : Nat, 0 ≤ (gm j).toInt ∧ (gm j).toInt ≤ 9) : Met l yX8_findDue (z_ws yX8_findDue cX8_findDue 10 (some .boolean)) (z_R 5 0 0) (va_Pc [.ref wk, .ref mo, .int nu] (z_Pre D vwCl (z_KK D cy adK adV) L f sz)) (z_Qi D vwCl (fun r u => L = u.1 ∧ (∀ b ∈ L, b ≠ wk → b ≠ ks → b ≠ ct → b ≠ se → b ≠ ow → u.2 b = f b) ∧ (∃ (w2 t2 d2 p2 : Int32) (k2 c2 q2 o2 : Nat → Int32), (u.2 wk = .inr (8, [.ref ks, .int w2, .ref ct, .ref se, .ref ow, .int t2, .int d2, .int p2])) ∧ (u.2 ks = .inl (cy 1, 13, .inl k2)) ∧ (u.2 ct = .inl (cy 1, 4, .inl c2)) ∧ (u.2 se = .inl (cy 1, 4, .inl q2)) ∧ (u.2 ow = .inl (cy 1, 5, .inl o2)) ∧ ((0 ≤ w2.toInt ∧ w2.toInt ≤ 13) ∧ (∀ j : Nat, z_key (k2 j)) ∧ ((r = 1 ∧ 0 ≤ d2.toInt ∧ d2.toInt ≤ 12) ∨ (r = 0 ∧ True))))) L sz) 0 0 (z_A L sz) := by
  refine z_met (cc := cX8_findDue) (maxL := 10) (ret := (some .boolean)) (lv := [(0, .ref wk), (1, .ref mo), (2, .int nu)]) (by decide) rfl (Nat.le_of_ble_eq_true rfl) rfl ?_
  intro p e s m below meth c ls hx hb hr hlk hml hown hnm hts hKK hA hw hl
  have hK := hKK.1.1
  have hown : s.vm.findClass RX8 = some m.cls := hown
  have hT : ∀ w ∈ lw_all, w.before ([.ref wk, .ref mo, .int nu] : List Value).toArray s = true := fun w h => hts w (z_cons w h)
  have hsub : L = L := rfl
  have hfr : ∀ b ∈ L, b ≠ wk → b ≠ ks → b ≠ ct → b ≠ se → b ≠ ow → f b = f b := fun _ _ _ _ _ _ _ => rfl
  refine lv_aload_n hx hb dX8_findDue_0 rfl (lv_at hl 0 rfl) ?_
  refine lv_aload_n hx hb dX8_findDue_1 rfl (lv_at hl 1 rfl) ?_
  refine z_callvV (cells := 0) (slots := 0) (b := wk) (As := [.ref mo]) (rest := []) (ci := 8) (q0 := (RX8, TX8, 8)) ⟨hx, hb, hml, hown, hT⟩ (c_X8_begin l hm_wk hm_ks hm_ct hm_se hm_ow hm_mo hm_la hm_sa hm_da hf_wk hf_ks hf_ct hf_se hf_ow hf_mo hf_la hf_sa hf_da ne_ct_se ne_ct_sa ne_se_sa ne_ow_la hg_da hd_da (by first | omega | decide | assumption) (by first | omega | decide | assumption) hgk) (cwV 1 hT (z_goodV (fun _ h => h) kw_759 kw_760 kw_761 kw_92 kw_762) rfl rfl rfl (by decide +kernel) ⟨by decide, by decide⟩) z_mv hKK hK hw hA hm_wk hf_wk rfl rfl rfl hl.1 rfl (Nat.le_of_ble_eq_true rfl) dX8_findDue_2 ⟨by decide, by decide⟩ (fun u H locs hp hw => ?_)
  obtain ⟨L1, f2⟩ := u
  obtain ⟨hsb, hfm, w2_3, t2_4, k2_5, c2_6, q2_7, o2_8, ha_0, ha_1, ha_2, ha_3, ha_4, hp⟩ := hp
  have hsb : L = L1 := hsb
  subst hsb
  have hsb : ∀ b ∈ L, b ∈ L := fun _ h => h
  have hw : z_H D vwCl (z_A L sz) s.heap L f2 H locs := hw
  have hfr : ∀ b ∈ L, b ≠ wk → b ≠ ks → b ≠ ct → b ≠ se → b ≠ ow → f2 b = f b := fun b hb h0 h1 h2 h3 h4 => (hfm b hb h0 h1 h2 h3 h4).trans (hfr b hb h0 h1 h2 h3 h4)
  have hd_da : z_Drv L f2 dv 13 := z_Drv_fr hd_da hsb (fun b hb ht => hfm b hb (z_t0 ht hf_wk (m := 8) rfl (by decide)) (z_t0 ht hf_ks (m := 204) rfl (by decide)) (z_t0 ht hf_ct (m := 132) rfl (by decide)) (z_t0 ht hf_se (m := 132) rfl (by decide)) (z_t0 ht hf_ow (m := 140) rfl (by decide)))
  have hf_mo : f2 mo = .inr (2, [.int v0, .int v1, .int v2, .int v3, .int v4, .int v5, .int v6, .ref la, .ref sa, .ref mi, .ref da]) := (hfm mo hm_mo (z_tne hf_mo hf_wk (m := 2) (n := 8) rfl rfl (by decide)) (z_tne hf_mo hf_ks (m := 2) (n := 204) rfl rfl (by decide)) (z_tne hf_mo hf_ct (m := 2) (n := 132) rfl rfl (by decide)) (z_tne hf_mo hf_se (m := 2) (n := 132) rfl rfl (by decide)) (z_tne hf_mo hf_ow (m := 2) (n := 140) rfl rfl (by decide))).trans hf_mo
  have hf_la : f2 la = .inl (cy 1, 5, .inl gl) := (hfm la hm_la (z_tne hf_la hf_wk (m := 140) (n := 8) rfl rfl (by decide)) (z_tne hf_la hf_ks (m := 140) (n := 204) rfl rfl (by decide)) (z_tne hf_la hf_ct (m := 140) (n := 132) rfl rfl (by decide)) (z_tne hf_la hf_se (m := 140) (n := 132) rfl rfl (by decide)) (Ne.symm ne_ow_la)).trans hf_la
  have hf_sa : f2 sa = .inl (cy 1, 4, .inl gs) := (hfm sa hm_sa (z_tne hf_sa hf_wk (m := 132) (n := 8) rfl rfl (by decide)) (z_tne hf_sa hf_ks (m := 132) (n := 204) rfl rfl (by decide)) (Ne.symm ne_ct_sa) (Ne.symm ne_se_sa) (z_tne hf_sa hf_ow (m := 132) (n := 140) rfl rfl (by decide))).trans hf_sa
  have hf_mi : f2 mi = .inl (cy 1, 36, .inl gm) := (hfm mi hm_mi (z_tne hf_mi hf_wk (m := 388) (n := 8) rfl rfl (by decide)) (z_tne hf_mi hf_ks (m := 388) (n := 204) rfl rfl (by decide)) (z_tne hf_mi hf_ct (m := 388) (n := 132) rfl rfl (by decide)) (z_tne hf_mi hf_se (m := 388) (n := 132) rfl rfl (by decide)) (z_tne hf_mi hf_ow (m := 388) (n := 140) rfl rfl (by decide))).trans hf_mi
  have hf_da : f2 da = .inl (cy 4, 13, .inr (.inr (.inr (.inr gd)))) := (hfm da hm_da (z_tne hf_da hf_wk (m := 206) (n := 8) rfl rfl (by decide)) (z_tne hf_da hf_ks (m := 206) (n := 204) rfl rfl (by decide)) (z_tne hf_da hf_ct (m := 206) (n := 132) rfl rfl (by decide)) (z_tne hf_da hf_se (m := 206) (n := 132) rfl rfl (by decide)) (z_tne hf_da hf_ow (m := 206) (n := 140) rfl rfl (by decide))).trans hf_da
  have hf_wk : f2 wk = .inr (8, [.ref ks, .int w2_3, .ref ct, .ref se, .ref ow, .int t2_4, .int wd, .int wp]) := ha_0
  have hf_ks : f2 ks = .inl (cy 1, 13, .inl k2_5) := ha_1
  have hf_ct : f2 ct = .inl (cy 1, 4, .inl c2_6) := ha_2
  have hf_se : f2 se = .inl (cy 1, 4, .inl q2_7) := ha_3
  have hf_ow : f2 ow = .inl (cy 1, 5, .inl o2_8) := ha_4
  have hbg := hp
  refine lv_iload_n hx hb dX8_findDue_5 rfl (lv_at hl 2 rfl) ?_
  refine lv_istore_n (lv' := [(3, .int nu), (0, .ref wk), (1, .ref mo), (2, .int nu)]) hx hb dX8_findDue_6 rfl hl (by decide) rfl (fun ls hl => ?_)
  refine lv_iconst (v := 0) hx hb dX8_findDue_7 (by decide) ?_
  refine lv_istore (lv' := [(4, .int 0), (3, .int nu), (0, .ref wk), (1, .ref mo), (2, .int nu)]) hx hb dX8_findDue_8 hl (by decide) rfl (fun ls hl => ?_)
  have hzk : (0 : Int32).toInt = 0 := by decide
  refine z_loop (fun n H locs ls => ∃ (K9 : Int32) (G12 : Nat → Int32) (G13 : Nat → Int32) (WT11 : Int32) (V14 : Int32) (f10 : Nat → va_E), (n = (w2_3.toInt - K9.toInt).toNat) ∧ (0 ≤ K9.toInt) ∧ (K9.toInt ≤ w2_3.toInt) ∧ (z_H D vwCl (z_A L sz) s.heap L f10 H locs) ∧ (f10 wk = .inr (8, [.ref ks, .int w2_3, .ref ct, .ref se, .ref ow, .int WT11, .int wd, .int wp])) ∧ (f10 ks = .inl (cy 1, 13, .inl k2_5)) ∧ (f10 ct = .inl (cy 1, 4, .inl G12)) ∧ (f10 se = .inl (cy 1, 4, .inl G13)) ∧ (f10 ow = .inl (cy 1, 5, .inl o2_8)) ∧ (f10 mo = .inr (2, [.int v0, .int v1, .int v2, .int v3, .int v4, .int v5, .int v6, .ref la, .ref sa, .ref mi, .ref da])) ∧ (f10 la = .inl (cy 1, 5, .inl gl)) ∧ (f10 sa = .inl (cy 1, 4, .inl gs)) ∧ (f10 mi = .inl (cy 1, 36, .inl gm)) ∧ (f10 da = .inl (cy 4, 13, .inr (.inr (.inr (.inr gd))))) ∧ (∀ b ∈ L, b ≠ wk → b ≠ ks → b ≠ ct → b ≠ se → b ≠ ow → f10 b = f b) ∧ (z_Drv L f10 dv 13) ∧ (lv_has ls 10 [(4, .int K9), (3, .int V14), (0, .ref wk), (1, .ref mo), (2, .int nu)])) _ ⟨0, c2_6, q2_7, t2_4, nu, f2, rfl, (by first | decide | omega), (by first | decide | omega), hw, hf_wk, hf_ks, hf_ct, hf_se, hf_ow, hf_mo, hf_la, hf_sa, hf_mi, hf_da, hfr, hd_da, (lv_sub hl [0, 1, 2, 3, 4] rfl)⟩ (fun n H locs ls hI ih_10 => ?_)
  obtain ⟨K9, G12, G13, WT11, V14, f10, hn, hk0, hk1, hw, hf_wk, hf_ks, hf_ct, hf_se, hf_ow, hf_mo, hf_la, hf_sa, hf_mi, hf_da, hfr, hd_da, hl⟩ := hI
  refine lv_iload hx hb dX8_findDue_10 (lv_at hl 0 rfl) ?_
  refine lv_aload_n hx hb dX8_findDue_12 rfl (lv_at hl 2 rfl) ?_
  refine z_get (C := RX8) (T := TX8) (N := 8) (ci := 8) (v := .int w2_3) hx hb hT zin_X8 hown hK hw hm_wk hf_wk rfl 1 (by decide) (hT _ kw_345) rfl dX8_findDue_13 ?_
  refine z_icmp_ge (tgt := 157) hx hb rfl rfl dX8_findDue_16 (by decide) (fun c15 => ?_) (fun c15 => ?_)
  · skip
    refine lv_iconst (v := 0) hx hb dX8_findDue_157 (by decide) ?_
    exact z_zret hx hb hr rfl hlk (by decide) (by decide) hw (⟨hsub, hfr, w2_3, WT11, wd, wp, k2_5, G12, G13, o2_8, hf_wk, hf_ks, hf_ct, hf_se, hf_ow, by omega, hbg.2, Or.inr ⟨rfl, trivial⟩⟩) dX8_findDue_158
  · skip
    refine lv_aload_n hx hb dX8_findDue_19 rfl (lv_at hl 2 rfl) ?_
    refine z_get (C := RX8) (T := TX8) (N := 8) (ci := 8) (v := .ref ks) hx hb hT zin_X8 hown hK hw hm_wk hf_wk rfl 0 (by decide) (hT _ kw_342) rfl dX8_findDue_20 ?_
    refine lv_iload hx hb dX8_findDue_23 (lv_at hl 0 rfl) ?_
    refine z_iald hx hb hK hw 1 hm_ks hf_ks rfl (z_ix rfl (by omega)) dX8_findDue_25 ?_
    refine lv_topi (fun w16 e_w16 => ?_)
    have hkx : z_key w16 := by rw [e_w16]; exact hbg.2 _
    refine z_calliS (cells := 0) (slots := 0) (As := [.int w16]) (rest := []) ⟨hx, hb, hml, hown, hT⟩ (c_X8_gapOf l (by first | assumption | exact hkx)) (va_cwS 1 hT (z_goodS (fun _ h => h) kw_783 kw_784 kw_92 kw_785) rfl rfl rfl (by decide +kernel) ⟨by decide, by decide⟩) z_mv hKK hw hA rfl hl.1 rfl (Nat.le_of_ble_eq_true rfl) dX8_findDue_26 ⟨by decide, by decide⟩ (fun r17 u H locs hp hw => ?_)
    obtain ⟨rfl, hp⟩ := hp
    have hw : z_H D vwCl (z_A L sz) s.heap L f10 H locs := hw
    refine lv_istore (lv' := [(5, .int r17), (4, .int K9), (3, .int V14), (0, .ref wk), (1, .ref mo), (2, .int nu)]) hx hb dX8_findDue_29 hl (by decide) rfl (fun ls hl => ?_)
    refine lv_aload_n hx hb dX8_findDue_31 rfl (lv_at hl 4 rfl) ?_
    refine lv_iload hx hb dX8_findDue_32 (lv_at hl 0 rfl) ?_
    refine z_calliV (cells := 0) (slots := 0) (b := mo) (As := [.int r17]) (rest := []) (ci := 2) (q0 := (RX2, TX2, 11)) ⟨hx, hb, hml, hown, hT⟩ (c_X2_counterOf l hm_mo hm_la hf_mo hf_la (by first | omega | decide | assumption)) (cwV 1 hT (z_goodV (fun _ h => h) kw_772 kw_773 kw_774 kw_87 kw_775) rfl rfl rfl (by decide +kernel) ⟨by decide, by decide⟩) z_mv hKK hK hw hA hm_mo hf_mo rfl rfl rfl hl.1 rfl (Nat.le_of_ble_eq_true rfl) dX8_findDue_34 ⟨by decide, by decide⟩ (fun r18 u H locs hp hw => ?_)
    obtain ⟨rfl, hp⟩ := hp
    have hw : z_H D vwCl (z_A L sz) s.heap L f10 H locs := hw
    refine lv_istore (lv' := [(6, .int r18), (5, .int r17), (4, .int K9), (3, .int V14), (0, .ref wk), (1, .ref mo), (2, .int nu)]) hx hb dX8_findDue_37 hl (by decide) rfl (fun ls hl => ?_)
    refine lv_aload_n hx hb dX8_findDue_39 rfl (lv_at hl 4 rfl) ?_
    refine lv_aload_n hx hb dX8_findDue_40 rfl (lv_at hl 5 rfl) ?_
    refine lv_aload_n hx hb dX8_findDue_41 rfl (lv_at hl 4 rfl) ?_
    refine z_get (C := RX8) (T := TX8) (N := 8) (ci := 8) (v := .ref ks) hx hb hT zin_X8 hown hK hw hm_wk hf_wk rfl 0 (by decide) (hT _ kw_342) rfl dX8_findDue_42 ?_
    refine lv_iload hx hb dX8_findDue_45 (lv_at hl 2 rfl) ?_
    refine z_iald hx hb hK hw 1 hm_ks hf_ks rfl (z_ix rfl (by omega)) dX8_findDue_47 ?_
    refine lv_topi (fun w19 e_w19 => ?_)
    have hkx : z_key w19 := by rw [e_w19]; exact hbg.2 _
    refine z_calliS (cells := 0) (slots := 0) (As := [.int w19]) (rest := [.ref mo, .ref wk]) ⟨hx, hb, hml, hown, hT⟩ (c_X8_timeOf l (by first | assumption | exact hkx)) (va_cwS 1 hT (z_goodS (fun _ h => h) kw_776 kw_777 kw_92 kw_778) rfl rfl rfl (by decide +kernel) ⟨by decide, by decide⟩) z_mv hKK hw hA rfl hl.1 rfl (Nat.le_of_ble_eq_true rfl) dX8_findDue_48 ⟨by decide, by decide⟩ (fun r20 u H locs hp hw => ?_)
    obtain ⟨rfl, hp⟩ := hp
    have hw : z_H D vwCl (z_A L sz) s.heap L f10 H locs := hw
    refine lv_bipush (v := 24) hx hb dX8_findDue_51 (by decide) ?_
    refine lv_idiv hx hb dX8_findDue_53 (by decide) ?_
    refine lv_topi (fun w21 e_w21 => ?_)
    have i_w21 : w21.toInt = r20.toInt / 24 := z_div e_w21 rfl (show (24 : Int32).toInt = 24 by decide) (by omega)
    refine z_callvV (cells := 0) (slots := 0) (b := wk) (As := [.ref mo, .int w21]) (rest := []) (ci := 8) (q0 := (RX8, TX8, 8)) ⟨hx, hb, hml, hown, hT⟩ (c_X8_dawn l hm_wk hm_ct hm_se hm_mo hm_la hf_wk hf_ct hf_se hf_mo hf_la ne_ct_se) (cwV 2 hT (z_goodV (fun _ h => h) kw_786 kw_787 kw_788 kw_92 kw_789) rfl rfl rfl (by decide +kernel) ⟨by decide, by decide⟩) z_mv hKK hK hw hA hm_wk hf_wk rfl rfl rfl hl.1 rfl (Nat.le_of_ble_eq_true rfl) dX8_findDue_54 ⟨by decide, by decide⟩ (fun u H locs hp hw => ?_)
    obtain ⟨L22, f23⟩ := u
    obtain ⟨hsb, hfm, t2_24, g2_25, g3_26, ha_0, ha_1, ha_2, hp⟩ := hp
    have hsb : L = L22 := hsb
    subst hsb
    have hsb : ∀ b ∈ L, b ∈ L := fun _ h => h
    have hw : z_H D vwCl (z_A L sz) s.heap L f23 H locs := hw
    have hfr : ∀ b ∈ L, b ≠ wk → b ≠ ks → b ≠ ct → b ≠ se → b ≠ ow → f23 b = f b := fun b hb h0 h1 h2 h3 h4 => (hfm b hb h0 h2 h3).trans (hfr b hb h0 h1 h2 h3 h4)
    have hd_da : z_Drv L f23 dv 13 := z_Drv_fr hd_da hsb (fun b hb ht => hfm b hb (z_t0 ht hf_wk (m := 8) rfl (by decide)) (z_t0 ht hf_ct (m := 132) rfl (by decide)) (z_t0 ht hf_se (m := 132) rfl (by decide)))
    have hf_ks : f23 ks = .inl (cy 1, 13, .inl k2_5) := (hfm ks hm_ks (z_tne hf_ks hf_wk (m := 204) (n := 8) rfl rfl (by decide)) (z_tne hf_ks hf_ct (m := 204) (n := 132) rfl rfl (by decide)) (z_tne hf_ks hf_se (m := 204) (n := 132) rfl rfl (by decide))).trans hf_ks
    have hf_ow : f23 ow = .inl (cy 1, 5, .inl o2_8) := (hfm ow hm_ow (z_tne hf_ow hf_wk (m := 140) (n := 8) rfl rfl (by decide)) (z_tne hf_ow hf_ct (m := 140) (n := 132) rfl rfl (by decide)) (z_tne hf_ow hf_se (m := 140) (n := 132) rfl rfl (by decide))).trans hf_ow
    have hf_mo : f23 mo = .inr (2, [.int v0, .int v1, .int v2, .int v3, .int v4, .int v5, .int v6, .ref la, .ref sa, .ref mi, .ref da]) := (hfm mo hm_mo (z_tne hf_mo hf_wk (m := 2) (n := 8) rfl rfl (by decide)) (z_tne hf_mo hf_ct (m := 2) (n := 132) rfl rfl (by decide)) (z_tne hf_mo hf_se (m := 2) (n := 132) rfl rfl (by decide))).trans hf_mo
    have hf_la : f23 la = .inl (cy 1, 5, .inl gl) := (hfm la hm_la (z_tne hf_la hf_wk (m := 140) (n := 8) rfl rfl (by decide)) (z_tne hf_la hf_ct (m := 140) (n := 132) rfl rfl (by decide)) (z_tne hf_la hf_se (m := 140) (n := 132) rfl rfl (by decide))).trans hf_la
    have hf_sa : f23 sa = .inl (cy 1, 4, .inl gs) := (hfm sa hm_sa (z_tne hf_sa hf_wk (m := 132) (n := 8) rfl rfl (by decide)) (Ne.symm ne_ct_sa) (Ne.symm ne_se_sa)).trans hf_sa
    have hf_mi : f23 mi = .inl (cy 1, 36, .inl gm) := (hfm mi hm_mi (z_tne hf_mi hf_wk (m := 388) (n := 8) rfl rfl (by decide)) (z_tne hf_mi hf_ct (m := 388) (n := 132) rfl rfl (by decide)) (z_tne hf_mi hf_se (m := 388) (n := 132) rfl rfl (by decide))).trans hf_mi
    have hf_da : f23 da = .inl (cy 4, 13, .inr (.inr (.inr (.inr gd)))) := (hfm da hm_da (z_tne hf_da hf_wk (m := 206) (n := 8) rfl rfl (by decide)) (z_tne hf_da hf_ct (m := 206) (n := 132) rfl rfl (by decide)) (z_tne hf_da hf_se (m := 206) (n := 132) rfl rfl (by decide))).trans hf_da
    have hf_wk : f23 wk = .inr (8, [.ref ks, .int w2_3, .ref ct, .ref se, .ref ow, .int t2_24, .int wd, .int wp]) := ha_0
    have hf_ct : f23 ct = .inl (cy 1, 4, .inl g2_25) := ha_1
    have hf_se : f23 se = .inl (cy 1, 4, .inl g3_26) := ha_2
    refine lv_aload_n hx hb dX8_findDue_57 rfl (lv_at hl 4 rfl) ?_
    refine z_get (C := RX8) (T := TX8) (N := 8) (ci := 8) (v := .ref ct) hx hb hT zin_X8 hown hK hw hm_wk hf_wk rfl 2 (by decide) (hT _ kw_346) rfl dX8_findDue_58 ?_
    refine lv_iload hx hb dX8_findDue_61 (lv_at hl 0 rfl) ?_
    refine z_iald hx hb hK hw 1 hm_ct hf_ct rfl (z_ix rfl (by omega)) dX8_findDue_63 ?_
    refine lv_topi (fun w27 e_w27 => ?_)
    refine lv_istore (lv' := [(7, .int w27), (6, .int r18), (5, .int r17), (4, .int K9), (3, .int V14), (0, .ref wk), (1, .ref mo), (2, .int nu)]) hx hb dX8_findDue_64 hl (by decide) rfl (fun ls hl => ?_)
    refine lv_aload_n hx hb dX8_findDue_66 rfl (lv_at hl 5 rfl) ?_
    refine z_get (C := RX8) (T := TX8) (N := 8) (ci := 8) (v := .ref se) hx hb hT zin_X8 hown hK hw hm_wk hf_wk rfl 3 (by decide) (hT _ kw_349) rfl dX8_findDue_67 ?_
    refine lv_iload hx hb dX8_findDue_70 (lv_at hl 2 rfl) ?_
    refine z_iald hx hb hK hw 1 hm_se hf_se rfl (z_ix rfl (by omega)) dX8_findDue_72 ?_
    refine lv_topi (fun w28 e_w28 => ?_)
    refine lv_istore (lv' := [(8, .int w28), (7, .int w27), (6, .int r18), (5, .int r17), (4, .int K9), (3, .int V14), (0, .ref wk), (1, .ref mo), (2, .int nu)]) hx hb dX8_findDue_73 hl (by decide) rfl (fun ls hl => ?_)
    refine lv_aload_n hx hb dX8_findDue_75 rfl (lv_at hl 6 rfl) ?_
    refine lv_aload_n hx hb dX8_findDue_76 rfl (lv_at hl 7 rfl) ?_
    refine lv_aload_n hx hb dX8_findDue_77 rfl (lv_at hl 6 rfl) ?_
    refine z_get (C := RX8) (T := TX8) (N := 8) (ci := 8) (v := .ref ks) hx hb hT zin_X8 hown hK hw hm_wk hf_wk rfl 0 (by decide) (hT _ kw_342) rfl dX8_findDue_78 ?_
    refine lv_iload hx hb dX8_findDue_81 (lv_at hl 4 rfl) ?_
    refine z_iald hx hb hK hw 1 hm_ks hf_ks rfl (z_ix rfl (by omega)) dX8_findDue_83 ?_
    refine lv_topi (fun w29 e_w29 => ?_)
    have hkx : z_key w29 := by rw [e_w29]; exact hbg.2 _
    refine z_calliV (cells := 0) (slots := 0) (b := wk) (As := [.ref mo, .int w29]) (rest := []) (ci := 8) (q0 := (RX8, TX8, 8)) ⟨hx, hb, hml, hown, hT⟩ (c_X8_pass l hm_wk hm_ct hm_se hm_mo hm_la hm_mi hm_da hf_wk hf_ct hf_se hf_mo hf_la hf_mi hf_da ne_ct_se hg_da hd_da (by first | assumption | exact hkx) hgm) (cwV 2 hT (z_goodV (fun _ h => h) kw_779 kw_780 kw_781 kw_92 kw_782) rfl rfl rfl (by decide +kernel) ⟨by decide, by decide⟩) z_mv hKK hK hw hA hm_wk hf_wk rfl rfl rfl hl.1 rfl (Nat.le_of_ble_eq_true rfl) dX8_findDue_84 ⟨by decide, by decide⟩ (fun r30 u H locs hp hw => ?_)
    obtain ⟨L31, f32⟩ := u
    obtain ⟨hsb, hfm, t2_33, c2_34, q2_35, ha_0, ha_1, ha_2, hp⟩ := hp
    have hsb : L = L31 := hsb
    subst hsb
    have hsb : ∀ b ∈ L, b ∈ L := fun _ h => h
    have hw : z_H D vwCl (z_A L sz) s.heap L f32 H locs := hw
    have hfr : ∀ b ∈ L, b ≠ wk → b ≠ ks → b ≠ ct → b ≠ se → b ≠ ow → f32 b = f b := fun b hb h0 h1 h2 h3 h4 => (hfm b hb h0 h2 h3).trans (hfr b hb h0 h1 h2 h3 h4)
    have hd_da : z_Drv L f32 dv 13 := z_Drv_fr hd_da hsb (fun b hb ht => hfm b hb (z_t0 ht hf_wk (m := 8) rfl (by decide)) (z_t0 ht hf_ct (m := 132) rfl (by decide)) (z_t0 ht hf_se (m := 132) rfl (by decide)))
    have hf_ks : f32 ks = .inl (cy 1, 13, .inl k2_5) := (hfm ks hm_ks (z_tne hf_ks hf_wk (m := 204) (n := 8) rfl rfl (by decide)) (z_tne hf_ks hf_ct (m := 204) (n := 132) rfl rfl (by decide)) (z_tne hf_ks hf_se (m := 204) (n := 132) rfl rfl (by decide))).trans hf_ks
    have hf_ow : f32 ow = .inl (cy 1, 5, .inl o2_8) := (hfm ow hm_ow (z_tne hf_ow hf_wk (m := 140) (n := 8) rfl rfl (by decide)) (z_tne hf_ow hf_ct (m := 140) (n := 132) rfl rfl (by decide)) (z_tne hf_ow hf_se (m := 140) (n := 132) rfl rfl (by decide))).trans hf_ow
    have hf_mo : f32 mo = .inr (2, [.int v0, .int v1, .int v2, .int v3, .int v4, .int v5, .int v6, .ref la, .ref sa, .ref mi, .ref da]) := (hfm mo hm_mo (z_tne hf_mo hf_wk (m := 2) (n := 8) rfl rfl (by decide)) (z_tne hf_mo hf_ct (m := 2) (n := 132) rfl rfl (by decide)) (z_tne hf_mo hf_se (m := 2) (n := 132) rfl rfl (by decide))).trans hf_mo
    have hf_la : f32 la = .inl (cy 1, 5, .inl gl) := (hfm la hm_la (z_tne hf_la hf_wk (m := 140) (n := 8) rfl rfl (by decide)) (z_tne hf_la hf_ct (m := 140) (n := 132) rfl rfl (by decide)) (z_tne hf_la hf_se (m := 140) (n := 132) rfl rfl (by decide))).trans hf_la
    have hf_sa : f32 sa = .inl (cy 1, 4, .inl gs) := (hfm sa hm_sa (z_tne hf_sa hf_wk (m := 132) (n := 8) rfl rfl (by decide)) (Ne.symm ne_ct_sa) (Ne.symm ne_se_sa)).trans hf_sa
    have hf_mi : f32 mi = .inl (cy 1, 36, .inl gm) := (hfm mi hm_mi (z_tne hf_mi hf_wk (m := 388) (n := 8) rfl rfl (by decide)) (z_tne hf_mi hf_ct (m := 388) (n := 132) rfl rfl (by decide)) (z_tne hf_mi hf_se (m := 388) (n := 132) rfl rfl (by decide))).trans hf_mi
    have hf_da : f32 da = .inl (cy 4, 13, .inr (.inr (.inr (.inr gd)))) := (hfm da hm_da (z_tne hf_da hf_wk (m := 206) (n := 8) rfl rfl (by decide)) (z_tne hf_da hf_ct (m := 206) (n := 132) rfl rfl (by decide)) (z_tne hf_da hf_se (m := 206) (n := 132) rfl rfl (by decide))).trans hf_da
    have hf_wk : f32 wk = .inr (8, [.ref ks, .int w2_3, .ref ct, .ref se, .ref ow, .int t2_33, .int wd, .int wp]) := ha_0
    have hf_ct : f32 ct = .inl (cy 1, 4, .inl c2_34) := ha_1
    have hf_se : f32 se = .inl (cy 1, 4, .inl q2_35) := ha_2
    refine lv_istore (lv' := [(9, .int r30), (8, .int w28), (7, .int w27), (6, .int r18), (5, .int r17), (4, .int K9), (3, .int V14), (0, .ref wk), (1, .ref mo), (2, .int nu)]) hx hb dX8_findDue_87 hl (by decide) rfl (fun ls hl => ?_)
    refine lv_iload_n hx hb dX8_findDue_89 rfl (lv_at hl 6 rfl) ?_
    refine lv_iload hx hb dX8_findDue_90 (lv_at hl 0 rfl) ?_
    refine z_icmp_ge (tgt := 146) hx hb rfl rfl dX8_findDue_92 (by decide) (fun c36 => ?_) (fun c36 => ?_)
    · skip
      refine lv_iload_n hx hb dX8_findDue_146 rfl (lv_at hl 6 rfl) ?_
      refine lv_iload hx hb dX8_findDue_147 (lv_at hl 0 rfl) ?_
      refine lv_isub hx hb dX8_findDue_149 ?_
      refine lv_topi (fun w37 e_w37 => ?_)
      refine lv_istore_n (lv' := [(3, .int w37), (9, .int r30), (8, .int w28), (7, .int w27), (6, .int r18), (5, .int r17), (4, .int K9), (0, .ref wk), (1, .ref mo), (2, .int nu)]) hx hb dX8_findDue_150 rfl hl (by decide) rfl (fun ls hl => ?_)
      obtain ⟨k38, e_k38⟩ : ∃ z : Int32, z = K9 + 1 := ⟨_, rfl⟩
      refine lv_iinc (v := k38) (lv' := [(4, .int k38), (3, .int w37), (9, .int r30), (8, .int w28), (7, .int w27), (6, .int r18), (5, .int r17), (0, .ref wk), (1, .ref mo), (2, .int nu)]) hx hb dX8_findDue_151 hl (k := 6) rfl (by rw [e_k38]; rfl) (by decide) rfl (fun ls hl => ?_)
      have i_k38 : k38.toInt = (K9.toInt + 1) := z_add e_k38 rfl (by decide) (by omega)
      refine lv_goto (tgt := 10) hx hb dX8_findDue_154 (by decide) ?_
      exact ih_10 _ (by omega) _ _ _ ⟨k38, c2_34, q2_35, t2_33, w37, f32, rfl, (by first | decide | omega), (by first | decide | omega), hw, hf_wk, hf_ks, hf_ct, hf_se, hf_ow, hf_mo, hf_la, hf_sa, hf_mi, hf_da, hfr, hd_da, (lv_sub hl [0, 1, 7, 8, 9] rfl)⟩
    · skip
      refine lv_aload_n hx hb dX8_findDue_95 rfl (lv_at hl 7 rfl) ?_
      refine z_get (C := RX8) (T := TX8) (N := 8) (ci := 8) (v := .ref ct) hx hb hT zin_X8 hown hK hw hm_wk hf_wk rfl 2 (by decide) (hT _ kw_346) rfl dX8_findDue_96 ?_
      refine lv_iload hx hb dX8_findDue_99 (lv_at hl 3 rfl) ?_
      refine lv_iload hx hb dX8_findDue_101 (lv_at hl 2 rfl) ?_
      refine z_iast hx hb hK hw 1 hm_ct hf_ct rfl (z_ix rfl (by omega)) dX8_findDue_103 (fun H locs hw => ?_)
      obtain ⟨f40, e_f40⟩ : ∃ z, z = va_up f32 ct (.inl (cy 1, 4, .inl (upd c2_34 r18.toNatClampNeg w27))) := ⟨_, rfl⟩
      rw [← e_f40] at hw
      have hf_wk : f40 wk = .inr (8, [.ref ks, .int w2_3, .ref ct, .ref se, .ref ow, .int t2_33, .int wd, .int wp]) := (congrFun e_f40 wk).trans (z_up_ne (z_tne hf_wk hf_ct (m := 8) (n := 132) rfl rfl (by decide)) hf_wk)
      have hf_ks : f40 ks = .inl (cy 1, 13, .inl k2_5) := (congrFun e_f40 ks).trans (z_up_ne (z_tne hf_ks hf_ct (m := 204) (n := 132) rfl rfl (by decide)) hf_ks)
      have hf_se : f40 se = .inl (cy 1, 4, .inl q2_35) := (congrFun e_f40 se).trans (z_up_ne (Ne.symm ne_ct_se) hf_se)
      have hf_ow : f40 ow = .inl (cy 1, 5, .inl o2_8) := (congrFun e_f40 ow).trans (z_up_ne (z_tne hf_ow hf_ct (m := 140) (n := 132) rfl rfl (by decide)) hf_ow)
      have hf_mo : f40 mo = .inr (2, [.int v0, .int v1, .int v2, .int v3, .int v4, .int v5, .int v6, .ref la, .ref sa, .ref mi, .ref da]) := (congrFun e_f40 mo).trans (z_up_ne (z_tne hf_mo hf_ct (m := 2) (n := 132) rfl rfl (by decide)) hf_mo)
      have hf_la : f40 la = .inl (cy 1, 5, .inl gl) := (congrFun e_f40 la).trans (z_up_ne (z_tne hf_la hf_ct (m := 140) (n := 132) rfl rfl (by decide)) hf_la)
      have hf_sa : f40 sa = .inl (cy 1, 4, .inl gs) := (congrFun e_f40 sa).trans (z_up_ne (Ne.symm ne_ct_sa) hf_sa)
      have hf_mi : f40 mi = .inl (cy 1, 36, .inl gm) := (congrFun e_f40 mi).trans (z_up_ne (z_tne hf_mi hf_ct (m := 388) (n := 132) rfl rfl (by decide)) hf_mi)
      have hf_da : f40 da = .inl (cy 4, 13, .inr (.inr (.inr (.inr gd)))) := (congrFun e_f40 da).trans (z_up_ne (z_tne hf_da hf_ct (m := 206) (n := 132) rfl rfl (by decide)) hf_da)
      have hd_da : z_Drv L f40 dv 13 := z_Drv_up hd_da e_f40 hf_ct (m := 132) rfl (by decide)
      have hf_ct : f40 ct = .inl (cy 1, 4, .inl (upd c2_34 r18.toNatClampNeg w27)) := (congrFun e_f40 ct).trans z_up_self
      have hfr : ∀ b ∈ L, b ≠ wk → b ≠ ks → b ≠ ct → b ≠ se → b ≠ ow → f40 b = f b := fun b hb h0 h1 h2 h3 h4 => (congrFun e_f40 b).trans (z_up_ne h2 (hfr b hb h0 h1 h2 h3 h4))
      obtain ⟨g39, e_g39⟩ : ∃ z, z = (upd c2_34 r18.toNatClampNeg w27) := ⟨_, rfl⟩
      rw [← e_g39] at hf_ct
      refine lv_aload_n hx hb dX8_findDue_104 rfl (lv_at hl 7 rfl) ?_
      refine z_get (C := RX8) (T := TX8) (N := 8) (ci := 8) (v := .ref se) hx hb hT zin_X8 hown hK hw hm_wk hf_wk rfl 3 (by decide) (hT _ kw_349) rfl dX8_findDue_105 ?_
      refine lv_iload hx hb dX8_findDue_108 (lv_at hl 4 rfl) ?_
      refine lv_iload hx hb dX8_findDue_110 (lv_at hl 1 rfl) ?_
      refine z_iast hx hb hK hw 1 hm_se hf_se rfl (z_ix rfl (by omega)) dX8_findDue_112 (fun H locs hw => ?_)
      obtain ⟨f42, e_f42⟩ : ∃ z, z = va_up f40 se (.inl (cy 1, 4, .inl (upd q2_35 r17.toNatClampNeg w28))) := ⟨_, rfl⟩
      rw [← e_f42] at hw
      have hf_wk : f42 wk = .inr (8, [.ref ks, .int w2_3, .ref ct, .ref se, .ref ow, .int t2_33, .int wd, .int wp]) := (congrFun e_f42 wk).trans (z_up_ne (z_tne hf_wk hf_se (m := 8) (n := 132) rfl rfl (by decide)) hf_wk)
      have hf_ks : f42 ks = .inl (cy 1, 13, .inl k2_5) := (congrFun e_f42 ks).trans (z_up_ne (z_tne hf_ks hf_se (m := 204) (n := 132) rfl rfl (by decide)) hf_ks)
      have hf_ct : f42 ct = .inl (cy 1, 4, .inl g39) := (congrFun e_f42 ct).trans (z_up_ne ne_ct_se hf_ct)
      have hf_ow : f42 ow = .inl (cy 1, 5, .inl o2_8) := (congrFun e_f42 ow).trans (z_up_ne (z_tne hf_ow hf_se (m := 140) (n := 132) rfl rfl (by decide)) hf_ow)
      have hf_mo : f42 mo = .inr (2, [.int v0, .int v1, .int v2, .int v3, .int v4, .int v5, .int v6, .ref la, .ref sa, .ref mi, .ref da]) := (congrFun e_f42 mo).trans (z_up_ne (z_tne hf_mo hf_se (m := 2) (n := 132) rfl rfl (by decide)) hf_mo)
      have hf_la : f42 la = .inl (cy 1, 5, .inl gl) := (congrFun e_f42 la).trans (z_up_ne (z_tne hf_la hf_se (m := 140) (n := 132) rfl rfl (by decide)) hf_la)
      have hf_sa : f42 sa = .inl (cy 1, 4, .inl gs) := (congrFun e_f42 sa).trans (z_up_ne (Ne.symm ne_se_sa) hf_sa)
      have hf_mi : f42 mi = .inl (cy 1, 36, .inl gm) := (congrFun e_f42 mi).trans (z_up_ne (z_tne hf_mi hf_se (m := 388) (n := 132) rfl rfl (by decide)) hf_mi)
      have hf_da : f42 da = .inl (cy 4, 13, .inr (.inr (.inr (.inr gd)))) := (congrFun e_f42 da).trans (z_up_ne (z_tne hf_da hf_se (m := 206) (n := 132) rfl rfl (by decide)) hf_da)
      have hd_da : z_Drv L f42 dv 13 := z_Drv_up hd_da e_f42 hf_se (m := 132) rfl (by decide)
      have hf_se : f42 se = .inl (cy 1, 4, .inl (upd q2_35 r17.toNatClampNeg w28)) := (congrFun e_f42 se).trans z_up_self
      have hfr : ∀ b ∈ L, b ≠ wk → b ≠ ks → b ≠ ct → b ≠ se → b ≠ ow → f42 b = f b := fun b hb h0 h1 h2 h3 h4 => (congrFun e_f42 b).trans (z_up_ne h3 (hfr b hb h0 h1 h2 h3 h4))
      obtain ⟨g41, e_g41⟩ : ∃ z, z = (upd q2_35 r17.toNatClampNeg w28) := ⟨_, rfl⟩
      rw [← e_g41] at hf_se
      refine lv_aload_n hx hb dX8_findDue_113 rfl (lv_at hl 7 rfl) ?_
      refine lv_aload_n hx hb dX8_findDue_114 rfl (lv_at hl 7 rfl) ?_
      refine z_get (C := RX8) (T := TX8) (N := 8) (ci := 8) (v := .ref ks) hx hb hT zin_X8 hown hK hw hm_wk hf_wk rfl 0 (by decide) (hT _ kw_342) rfl dX8_findDue_115 ?_
      refine lv_iload hx hb dX8_findDue_118 (lv_at hl 5 rfl) ?_
      refine z_iald hx hb hK hw 1 hm_ks hf_ks rfl (z_ix rfl (by omega)) dX8_findDue_120 ?_
      refine lv_topi (fun w43 e_w43 => ?_)
      have hkx : z_key w43 := by rw [e_w43]; exact hbg.2 _
      refine z_calliS (cells := 0) (slots := 0) (As := [.int w43]) (rest := [.ref wk]) ⟨hx, hb, hml, hown, hT⟩ (c_X8_numberOf l (by first | assumption | exact hkx)) (va_cwS 1 hT (z_goodS (fun _ h => h) kw_790 kw_791 kw_92 kw_792) rfl rfl rfl (by decide +kernel) ⟨by decide, by decide⟩) z_mv hKK hw hA rfl hl.1 rfl (Nat.le_of_ble_eq_true rfl) dX8_findDue_121 ⟨by decide, by decide⟩ (fun r44 u H locs hp hw => ?_)
      obtain ⟨rfl, hp⟩ := hp
      have hw : z_H D vwCl (z_A L sz) s.heap L f42 H locs := hw
      refine z_put (C := RX8) (T := TX8) (N := 8) (ci := 8) (v := .int r44) (fs' := [.ref ks, .int w2_3, .ref ct, .ref se, .ref ow, .int t2_33, .int r44, .int wp]) hx hb hT zin_X8 tyX8_ok nmX8 hown hK hw hm_wk hf_wk rfl 6 (by decide) (hT _ kw_356) rfl rfl rfl (Nat.le_of_ble_eq_true rfl) rfl dX8_findDue_124 (fun H locs hw => ?_)
      obtain ⟨f45, e_f45⟩ : ∃ z, z = va_up f42 wk (.inr (8, [.ref ks, .int w2_3, .ref ct, .ref se, .ref ow, .int t2_33, .int r44, .int wp])) := ⟨_, rfl⟩
      rw [← e_f45] at hw
      have hf_ks : f45 ks = .inl (cy 1, 13, .inl k2_5) := (congrFun e_f45 ks).trans (z_up_ne (z_tne hf_ks hf_wk (m := 204) (n := 8) rfl rfl (by decide)) hf_ks)
      have hf_ct : f45 ct = .inl (cy 1, 4, .inl g39) := (congrFun e_f45 ct).trans (z_up_ne (z_tne hf_ct hf_wk (m := 132) (n := 8) rfl rfl (by decide)) hf_ct)
      have hf_se : f45 se = .inl (cy 1, 4, .inl g41) := (congrFun e_f45 se).trans (z_up_ne (z_tne hf_se hf_wk (m := 132) (n := 8) rfl rfl (by decide)) hf_se)
      have hf_ow : f45 ow = .inl (cy 1, 5, .inl o2_8) := (congrFun e_f45 ow).trans (z_up_ne (z_tne hf_ow hf_wk (m := 140) (n := 8) rfl rfl (by decide)) hf_ow)
      have hf_mo : f45 mo = .inr (2, [.int v0, .int v1, .int v2, .int v3, .int v4, .int v5, .int v6, .ref la, .ref sa, .ref mi, .ref da]) := (congrFun e_f45 mo).trans (z_up_ne (z_tne hf_mo hf_wk (m := 2) (n := 8) rfl rfl (by decide)) hf_mo)
      have hf_la : f45 la = .inl (cy 1, 5, .inl gl) := (congrFun e_f45 la).trans (z_up_ne (z_tne hf_la hf_wk (m := 140) (n := 8) rfl rfl (by decide)) hf_la)
      have hf_sa : f45 sa = .inl (cy 1, 4, .inl gs) := (congrFun e_f45 sa).trans (z_up_ne (z_tne hf_sa hf_wk (m := 132) (n := 8) rfl rfl (by decide)) hf_sa)
      have hf_mi : f45 mi = .inl (cy 1, 36, .inl gm) := (congrFun e_f45 mi).trans (z_up_ne (z_tne hf_mi hf_wk (m := 388) (n := 8) rfl rfl (by decide)) hf_mi)
      have hf_da : f45 da = .inl (cy 4, 13, .inr (.inr (.inr (.inr gd)))) := (congrFun e_f45 da).trans (z_up_ne (z_tne hf_da hf_wk (m := 206) (n := 8) rfl rfl (by decide)) hf_da)
      have hd_da : z_Drv L f45 dv 13 := z_Drv_up hd_da e_f45 hf_wk (m := 8) rfl (by decide)
      have hf_wk : f45 wk = .inr (8, [.ref ks, .int w2_3, .ref ct, .ref se, .ref ow, .int t2_33, .int r44, .int wp]) := (congrFun e_f45 wk).trans z_up_self
      have hfr : ∀ b ∈ L, b ≠ wk → b ≠ ks → b ≠ ct → b ≠ se → b ≠ ow → f45 b = f b := fun b hb h0 h1 h2 h3 h4 => (congrFun e_f45 b).trans (z_up_ne h0 (hfr b hb h0 h1 h2 h3 h4))
      refine lv_aload_n hx hb dX8_findDue_127 rfl (lv_at hl 7 rfl) ?_
      refine lv_aload_n hx hb dX8_findDue_128 rfl (lv_at hl 7 rfl) ?_
      refine lv_aload_n hx hb dX8_findDue_129 rfl (lv_at hl 8 rfl) ?_
      refine lv_aload_n hx hb dX8_findDue_130 rfl (lv_at hl 7 rfl) ?_
      refine z_get (C := RX8) (T := TX8) (N := 8) (ci := 8) (v := .ref ks) hx hb hT zin_X8 hown hK hw hm_wk hf_wk rfl 0 (by decide) (hT _ kw_342) rfl dX8_findDue_131 ?_
      refine lv_iload hx hb dX8_findDue_134 (lv_at hl 5 rfl) ?_
      refine z_iald hx hb hK hw 1 hm_ks hf_ks rfl (z_ix rfl (by omega)) dX8_findDue_136 ?_
      refine lv_topi (fun w46 e_w46 => ?_)
      refine lv_iload_n hx hb dX8_findDue_137 rfl (lv_at hl 6 rfl) ?_
      have hkx : z_key w46 := by rw [e_w46]; exact hbg.2 _
      refine z_calliV (cells := 0) (slots := 0) (b := wk) (As := [.ref mo, .int w46, .int V14]) (rest := [.ref wk]) (ci := 8) (q0 := (RX8, TX8, 8)) ⟨hx, hb, hml, hown, hT⟩ (c_X8_placeOf l hm_wk hm_ct hm_se hm_mo hm_la hm_mi hm_da hf_wk hf_ct hf_se hf_mo hf_la hf_mi hf_da ne_ct_se hg_da hd_da (by first | assumption | exact hkx) hgm) (cwV 3 hT (z_goodV (fun _ h => h) kw_846 kw_848 kw_16 kw_92 kw_849) rfl rfl rfl (by decide +kernel) ⟨by decide, by decide⟩) z_mv hKK hK hw hA hm_wk hf_wk rfl rfl rfl hl.1 rfl (Nat.le_of_ble_eq_true rfl) dX8_findDue_138 ⟨by decide, by decide⟩ (fun r47 u H locs hp hw => ?_)
      obtain ⟨L48, f49⟩ := u
      obtain ⟨hsb, hfm, c2_50, q2_51, ha_0, ha_1, hp⟩ := hp
      have hsb : L = L48 := hsb
      subst hsb
      have hsb : ∀ b ∈ L, b ∈ L := fun _ h => h
      have hw : z_H D vwCl (z_A L sz) s.heap L f49 H locs := hw
      have hfr : ∀ b ∈ L, b ≠ wk → b ≠ ks → b ≠ ct → b ≠ se → b ≠ ow → f49 b = f b := fun b hb h0 h1 h2 h3 h4 => (hfm b hb h2 h3).trans (hfr b hb h0 h1 h2 h3 h4)
      have hd_da : z_Drv L f49 dv 13 := z_Drv_fr hd_da hsb (fun b hb ht => hfm b hb (z_t0 ht hf_ct (m := 132) rfl (by decide)) (z_t0 ht hf_se (m := 132) rfl (by decide)))
      have hf_wk : f49 wk = .inr (8, [.ref ks, .int w2_3, .ref ct, .ref se, .ref ow, .int t2_33, .int r44, .int wp]) := (hfm wk hm_wk (z_tne hf_wk hf_ct (m := 8) (n := 132) rfl rfl (by decide)) (z_tne hf_wk hf_se (m := 8) (n := 132) rfl rfl (by decide))).trans hf_wk
      have hf_ks : f49 ks = .inl (cy 1, 13, .inl k2_5) := (hfm ks hm_ks (z_tne hf_ks hf_ct (m := 204) (n := 132) rfl rfl (by decide)) (z_tne hf_ks hf_se (m := 204) (n := 132) rfl rfl (by decide))).trans hf_ks
      have hf_ow : f49 ow = .inl (cy 1, 5, .inl o2_8) := (hfm ow hm_ow (z_tne hf_ow hf_ct (m := 140) (n := 132) rfl rfl (by decide)) (z_tne hf_ow hf_se (m := 140) (n := 132) rfl rfl (by decide))).trans hf_ow
      have hf_mo : f49 mo = .inr (2, [.int v0, .int v1, .int v2, .int v3, .int v4, .int v5, .int v6, .ref la, .ref sa, .ref mi, .ref da]) := (hfm mo hm_mo (z_tne hf_mo hf_ct (m := 2) (n := 132) rfl rfl (by decide)) (z_tne hf_mo hf_se (m := 2) (n := 132) rfl rfl (by decide))).trans hf_mo
      have hf_la : f49 la = .inl (cy 1, 5, .inl gl) := (hfm la hm_la (z_tne hf_la hf_ct (m := 140) (n := 132) rfl rfl (by decide)) (z_tne hf_la hf_se (m := 140) (n := 132) rfl rfl (by decide))).trans hf_la
      have hf_sa : f49 sa = .inl (cy 1, 4, .inl gs) := (hfm sa hm_sa (Ne.symm ne_ct_sa) (Ne.symm ne_se_sa)).trans hf_sa
      have hf_mi : f49 mi = .inl (cy 1, 36, .inl gm) := (hfm mi hm_mi (z_tne hf_mi hf_ct (m := 388) (n := 132) rfl rfl (by decide)) (z_tne hf_mi hf_se (m := 388) (n := 132) rfl rfl (by decide))).trans hf_mi
      have hf_da : f49 da = .inl (cy 4, 13, .inr (.inr (.inr (.inr gd)))) := (hfm da hm_da (z_tne hf_da hf_ct (m := 206) (n := 132) rfl rfl (by decide)) (z_tne hf_da hf_se (m := 206) (n := 132) rfl rfl (by decide))).trans hf_da
      have hf_ct : f49 ct = .inl (cy 1, 4, .inl c2_50) := ha_0
      have hf_se : f49 se = .inl (cy 1, 4, .inl q2_51) := ha_1
      refine z_put (C := RX8) (T := TX8) (N := 8) (ci := 8) (v := .int r47) (fs' := [.ref ks, .int w2_3, .ref ct, .ref se, .ref ow, .int t2_33, .int r44, .int r47]) hx hb hT zin_X8 tyX8_ok nmX8 hown hK hw hm_wk hf_wk rfl 7 (by decide) (hT _ kw_358) rfl rfl rfl (Nat.le_of_ble_eq_true rfl) rfl dX8_findDue_141 (fun H locs hw => ?_)
      obtain ⟨f52, e_f52⟩ : ∃ z, z = va_up f49 wk (.inr (8, [.ref ks, .int w2_3, .ref ct, .ref se, .ref ow, .int t2_33, .int r44, .int r47])) := ⟨_, rfl⟩
      rw [← e_f52] at hw
      have hf_ks : f52 ks = .inl (cy 1, 13, .inl k2_5) := (congrFun e_f52 ks).trans (z_up_ne (z_tne hf_ks hf_wk (m := 204) (n := 8) rfl rfl (by decide)) hf_ks)
      have hf_ct : f52 ct = .inl (cy 1, 4, .inl c2_50) := (congrFun e_f52 ct).trans (z_up_ne (z_tne hf_ct hf_wk (m := 132) (n := 8) rfl rfl (by decide)) hf_ct)
      have hf_se : f52 se = .inl (cy 1, 4, .inl q2_51) := (congrFun e_f52 se).trans (z_up_ne (z_tne hf_se hf_wk (m := 132) (n := 8) rfl rfl (by decide)) hf_se)
      have hf_ow : f52 ow = .inl (cy 1, 5, .inl o2_8) := (congrFun e_f52 ow).trans (z_up_ne (z_tne hf_ow hf_wk (m := 140) (n := 8) rfl rfl (by decide)) hf_ow)
      have hf_mo : f52 mo = .inr (2, [.int v0, .int v1, .int v2, .int v3, .int v4, .int v5, .int v6, .ref la, .ref sa, .ref mi, .ref da]) := (congrFun e_f52 mo).trans (z_up_ne (z_tne hf_mo hf_wk (m := 2) (n := 8) rfl rfl (by decide)) hf_mo)
      have hf_la : f52 la = .inl (cy 1, 5, .inl gl) := (congrFun e_f52 la).trans (z_up_ne (z_tne hf_la hf_wk (m := 140) (n := 8) rfl rfl (by decide)) hf_la)
      have hf_sa : f52 sa = .inl (cy 1, 4, .inl gs) := (congrFun e_f52 sa).trans (z_up_ne (z_tne hf_sa hf_wk (m := 132) (n := 8) rfl rfl (by decide)) hf_sa)
      have hf_mi : f52 mi = .inl (cy 1, 36, .inl gm) := (congrFun e_f52 mi).trans (z_up_ne (z_tne hf_mi hf_wk (m := 388) (n := 8) rfl rfl (by decide)) hf_mi)
      have hf_da : f52 da = .inl (cy 4, 13, .inr (.inr (.inr (.inr gd)))) := (congrFun e_f52 da).trans (z_up_ne (z_tne hf_da hf_wk (m := 206) (n := 8) rfl rfl (by decide)) hf_da)
      have hd_da : z_Drv L f52 dv 13 := z_Drv_up hd_da e_f52 hf_wk (m := 8) rfl (by decide)
      have hf_wk : f52 wk = .inr (8, [.ref ks, .int w2_3, .ref ct, .ref se, .ref ow, .int t2_33, .int r44, .int r47]) := (congrFun e_f52 wk).trans z_up_self
      have hfr : ∀ b ∈ L, b ≠ wk → b ≠ ks → b ≠ ct → b ≠ se → b ≠ ow → f52 b = f b := fun b hb h0 h1 h2 h3 h4 => (congrFun e_f52 b).trans (z_up_ne h0 (hfr b hb h0 h1 h2 h3 h4))
      refine lv_iconst (v := 1) hx hb dX8_findDue_144 (by decide) ?_
      exact z_zret hx hb hr rfl hlk (by decide) (by decide) hw (⟨hsub, hfr, w2_3, t2_33, r44, r47, k2_5, c2_50, q2_51, o2_8, hf_wk, hf_ks, hf_ct, hf_se, hf_ow, by omega, hbg.2, Or.inl ⟨rfl, by omega⟩⟩) dX8_findDue_145
